/-! ===== ArrayList: add at a place, remove, clear ===== -/
def insA (L : List Nat) (i x : Nat) : List Nat := L.take i ++ x :: L.drop i
def delA (L : List Nat) (i : Nat) : List Nat := L.take i ++ L.drop (i + 1)
theorem insA_len {L : List Nat} {i x : Nat} (hi : i ≤ L.length) : (insA L i x).length = L.length + 1 := by simp [insA]; omega
theorem delA_len {L : List Nat} {i : Nat} (hi : i < L.length) : (delA L i).length = L.length - 1 := by simp [delA]; omega
theorem insA_get {L : List Nat} {i x : Nat} (hi : i ≤ L.length) (k : Nat) : (insA L i x)[k]? = if k < i then L[k]? else if k = i then some x else L[k - 1]? := by
  unfold insA
  have ht : (L.take i).length = i := by simp; omega
  by_cases h1 : k < i
  · rw [if_pos h1, List.getElem?_append_left (by rw [ht]; exact h1), List.getElem?_take_of_lt h1]
  · rw [if_neg h1, List.getElem?_append_right (by rw [ht]; omega), ht]
    by_cases h2 : k = i
    · subst h2; simp
    · rw [if_neg h2, show k - i = (k - i - 1) + 1 by omega, List.getElem?_cons_succ, List.getElem?_drop, show i + (k - i - 1) = k - 1 by omega]
theorem delA_get {L : List Nat} {i : Nat} (hi : i < L.length) (k : Nat) : (delA L i)[k]? = if k < i then L[k]? else L[k + 1]? := by
  unfold delA
  have ht : (L.take i).length = i := by simp; omega
  by_cases h1 : k < i
  · rw [if_pos h1, List.getElem?_append_left (by rw [ht]; exact h1), List.getElem?_take_of_lt h1]
  · rw [if_neg h1, List.getElem?_append_right (by rw [ht]; omega), ht, List.getElem?_drop, show i + 1 + (k - i) = k + 1 by omega]
theorem insA_mem {L : List Nat} {i x y : Nat} (h : y ∈ insA L i x) : y = x ∨ y ∈ L := by
  unfold insA at h
  rcases List.mem_append.mp h with q | q
  · exact Or.inr (List.mem_of_mem_take q)
  · rcases List.mem_cons.mp q with q | q
    · exact Or.inl q
    · exact Or.inr (List.mem_of_mem_drop q)
theorem delA_mem {L : List Nat} {i y : Nat} (h : y ∈ delA L i) : y ∈ L := by
  unfold delA at h
  rcases List.mem_append.mp h with q | q
  · exact List.mem_of_mem_take q
  · exact List.mem_of_mem_drop q
theorem gUp4 {h : gHp} {a e : Nat} (hae : a ≠ e) {x y z1 z2 : gE} : gUp (gUp (gUp (gUp h a x) e z1) a y) e z2 = gUp (gUp h e z2) a y := by
  funext b
  by_cases h1 : b = a
  · subst h1; simp [gUp, hae]
  · by_cases h2 : b = e
    · subst h2; simp [gUp, h1]
    · simp [gUp, h1, h2]
section Lists3
variable {G : gG} {l : Launch} {h : gHp} {sz : Nat} {a e : Nat} {L : List Nat}
theorem c_A_rangeCheckForAdd (hL : LV G h a e L) {i : Nat} (hi : i ≤ L.length) : SM G l 1 y_A_rangeCheckForAdd M_A_rangeCheckForAdd [.ref a, .int (nI i)] h sz 0 0 (qV (fun h' sz' => h' = h ∧ sz' = sz)) := by
  obtain ⟨⟨mo, ha⟩, h48, -⟩ := hL
  refine SM.of (lv0 := [some (.ref a), some (.int (nI i))]) (by decide +kernel) rfl ⟨rfl, rfl⟩ rfl (by simp [Value.category]) (Nat.le_of_ble_eq_true rfl) ?_
  refine gw_il1 d_A_rangeCheckForAdd_0 ?_
  refine gw_al0 d_A_rangeCheckForAdd_1 ?_
  refine gw_get d_A_rangeCheckForAdd_2 (by assumption) (by rfl) ?_
  refine gw_icgt d_A_rangeCheckForAdd_5 (fun c_5 => absurd (n_lt c_5 (by omega) (by omega)) (by omega)) (fun c_5 => ?_)
  refine gw_il1 d_A_rangeCheckForAdd_8 ?_
  refine gw_ifge d_A_rangeCheckForAdd_9 (fun c_9 => ?_) (fun c_9 => absurd (nI_pos' (by omega)) c_9)
  exact gw_vret d_A_rangeCheckForAdd_25 rfl (Nat.le_refl _) (Nat.le_refl _) ⟨rfl, rfl, rfl⟩
theorem c_A_addAt (hL : LV G h a e L) (h47 : L.length < 48) {i : Nat} (hi : i ≤ L.length) {x : Nat} {fs : List Value} (hx : h x = some (gO 4 fs)) : SM G l 6 y_A_addAt M_A_addAt [.ref a, .int (nI i), .ref x] h sz 1 72 (qV (gLP G h sz a e (insA L i x))) := by
  have hL' := hL
  obtain ⟨⟨mo, ha⟩, h48, hel, h3⟩ := hL
  have hxa : x ≠ a := by rintro rfl; rw [ha] at hx; simp at hx
  refine SM.of (lv0 := [some (.ref a), some (.int (nI i)), some (.ref x), none, none]) (by decide +kernel) rfl ⟨rfl, rfl⟩ rfl (by simp [Value.category]) (Nat.le_of_ble_eq_true rfl) ?_
  refine GW.dce (fun hdce => ?_)
  refine GW.wf (fun wf => ?_)
  have has := (wf a _ ha).2
  have hxs := (wf x _ hx).2
  have hels : ∀ y ∈ insA L i x, y ≠ a ∧ y < sz ∧ ∃ fs, h y = some (gO 4 fs) := by
    intro y hy
    rcases insA_mem hy with rfl | q
    · exact ⟨hxa, hxs, fs, hx⟩
    · obtain ⟨fs', hfs⟩ := hel y q
      exact ⟨hL'.ne_item q, (wf y _ hfs).2, fs', hfs⟩
  have hget : ∀ (g : Nat → Option Nat), (∀ j, j < L.length → g j = L[j]?) → ∀ j, j < (insA L i x).length → va_up (va_cpy g g i (i + 1) (L.length - i)) i (some x) j = (insA L i x)[j]? := by
    intro g hg j hj
    rw [insA_len hi] at hj
    rw [insA_get hi]
    by_cases q1 : j < i
    · rw [if_pos q1, va_up_ne _ _ (by omega), pk_cpy_out (by omega), hg j (by omega)]
    · rw [if_neg q1]
      by_cases q2 : j = i
      · subst q2; rw [if_pos rfl, va_up_self]
      · rw [if_neg q2, va_up_ne _ _ q2, pk_cpy_in (by omega) (by omega), show i + (j - (i + 1)) = j - 1 by omega, hg _ (by omega)]
  -- from pc 38 on, with an array that has room
  have hrest : ∀ (h1 : gHp) (sz1 e1 cap k1 w1 : Nat) (g : Nat → Option Nat) (mo1 : Int32), h1 a = some (gO 0 [.int mo1, .ref e1, .int (nI L.length)]) → h1 e1 = some (gR 4 cap g) → L.length < cap → cap ≤ 72 → (∀ j, j < L.length → g j = L[j]?) → (∀ y, y < sz → y ≠ a → y ≠ e → h1 y = h y) → (e1 = e ∨ (sz ≤ e1 ∧ e1 < sz1)) → sz ≤ sz1 → a ≠ e1 → e1 ≠ x → (∀ y ∈ L, y ≠ e1 ∧ y ≠ e) → x ≠ e → k1 ≤ 1 → w1 ≤ 72 → GM G l 6 1 72 (qV (gLP G h sz a e (insA L i x))) M_A_addAt 38 [some (.ref a), some (.int (nI i)), some (.ref x), some (.int (nI L.length)), some (.ref e1)] [] h1 sz1 k1 w1 := by
    intro h1 sz1 e1 cap k1 w1 g mo1 p1 p2 p3 p4 p5 p6 p7 p8 p9 p10 p11 p12 hk hw
    have hx1 : h1 x = some (gO 4 fs) := by rw [p6 x hxs hxa p12]; exact hx
    refine gw_al4 d_A_addAt_38 ?_
    refine gw_il1 d_A_addAt_40 ?_
    refine gw_al4 d_A_addAt_41 ?_
    refine gw_il1 d_A_addAt_43 ?_
    refine gw_push d_A_addAt_44 ?_
    refine gw_iadd d_A_addAt_45 ?_; rw [n_s]
    refine gw_il3 d_A_addAt_46 ?_
    refine gw_il1 d_A_addAt_47 ?_
    refine gw_isub d_A_addAt_48 ?_; rw [pk_sub hi]
    refine gw_copyR d_A_addAt_49 cp_A_addAt_49 p2 p2 i (i + 1) (L.length - i) rfl rfl rfl (by omega) (by omega) (by omega) (fun j hj y hy => ?_) (by decide) (Nat.le_of_ble_eq_true rfl) ?_; · (rw [p5 _ (by omega)] at hy; have hy' := List.mem_of_getElem? hy; obtain ⟨fs', hfs⟩ := hel y hy'; exact ⟨fs', by rw [p6 y (wf y _ hfs).2 (hL'.ne_item hy') (p11 y hy').2]; exact hfs⟩)
    refine gw_al4 d_A_addAt_52 ?_
    refine gw_il1 d_A_addAt_54 ?_
    refine gw_al2 d_A_addAt_55 ?_
    refine gw_aast d_A_addAt_56 (gUp_self _ _ _) ((gUp_ne _ _ (Ne.symm p10)).trans hx1) (Or.inr (Or.inr ⟨rfl, rfl⟩)) i rfl (by omega) (by omega) ?_
    refine gw_al0 d_A_addAt_57 ?_
    refine gw_il3 d_A_addAt_58 ?_
    refine gw_push d_A_addAt_59 ?_
    refine gw_iadd d_A_addAt_60 ?_; rw [n_s]
    refine gw_pf2 d_A_addAt_61 ((gUp_ne _ _ p9).trans ((gUp_ne _ _ p9).trans p1)) rfl rfl ?_
    refine gw_vret d_A_addAt_64 rfl hk hw ⟨rfl, e1, ?_, ?_, p7, p8⟩
    · rw [gUp_gUp, ← insA_len (x := x) hi]
      refine LV.mk (by rw [insA_len hi]; omega) (fun y hy => ⟨(hels y hy).1, ?_, ?_⟩) p9 (by rw [insA_len hi]; omega) (by omega) p4 (hget g p5)
      · rcases insA_mem hy with rfl | q
        · exact Ne.symm p10
        · exact (p11 y q).1
      · obtain ⟨q1, q2, fs', q3⟩ := hels y hy
        refine ⟨fs', ?_⟩
        rw [p6 y q2 q1]
        · exact q3
        · rcases insA_mem hy with rfl | q
          · exact p12
          · exact (p11 y q).2
    · have f0 : Fr h h1 sz [a, e] := fun y hy hx => p6 y hy (fun z => hx (by simp [z])) (fun z => hx (by simp [z]))
      have hm : e1 ∈ [a, e] ∨ sz ≤ e1 := by rcases p7 with rfl | q; · simp
                                            · exact Or.inr q.1
      exact ((f0.up hm).up hm).up (Or.inl (by simp))
  have hmod := hL'.mod (mo := mo + 1)
  have hgrow : ∀ (hful : e = gDce G ∨ ∃ g, h e = some (gR 4 L.length g)), x ≠ e → (∀ y ∈ L, y ≠ e) → GM G l 6 1 72 (qV (gLP G h sz a e (insA L i x))) M_A_addAt 32 [some (.ref a), some (.int (nI i)), some (.ref x), some (.int (nI L.length)), some (.ref e)] [] (gUp h a (gO 0 [.int (mo + 1), .ref e, .int (nI L.length)])) sz 0 0 := by
    intro hful hxe hye
    have hful2 : e = gDce G ∨ ∃ g, (gUp h a (gO 0 [.int (mo + 1), .ref e, .int (nI L.length)])) e = some (gR 4 L.length g) := by
      rcases hful with q | ⟨g, q⟩
      · exact Or.inl q
      · refine Or.inr ⟨g, ?_⟩
        rw [gUp_ne _ _ (by rintro rfl; rw [ha] at q; simp at q)]
        exact q
    refine gw_al0 d_A_addAt_32 ?_
    refine gw_cV0 d_A_addAt_33 cs_A_addAt_33 (gUp_self _ _ _) (c_A_grow0 hmod hful2) (fun v h' sz' hp hz => ?_) (fun E h' sz' hp _ => by obtain ⟨_, _, _, q, _⟩ := hp; cases q); obtain ⟨cap, g, mo', w1, rfl, w3, rfl, w5, w6, w7⟩ := hp; cases w1
    refine gw_as4 d_A_addAt_36 ?_
    refine hrest _ _ sz cap _ _ g mo' (gUp_self _ _ _) ((gUp_ne _ _ (by omega)).trans (gUp_self _ _ _)) w5 w6 w7 (fun y hy q1 q2 => ?_) (Or.inr ⟨Nat.le_refl _, by omega⟩) (by omega) (by omega) (by omega) (fun y hy => ⟨?_, hye y hy⟩) hxe (by omega) (by omega)
    · rw [gUp_ne _ _ q1, gUp_ne _ _ (by omega), gUp_ne _ _ q1]
    · obtain ⟨fs', hfs⟩ := hel y hy
      have := (wf y _ hfs).2
      omega
  have hkind : ∀ (cap : Nat) (g : Nat → Option Nat), h e = some (gR 4 cap g) → x ≠ e ∧ (∀ y ∈ L, y ≠ e) ∧ a ≠ e := by
    intro cap g q
    refine ⟨?_, fun y hy => ?_, ?_⟩
    · rintro rfl; rw [q] at hx; simp at hx
    · obtain ⟨fs', hfs⟩ := hel y hy
      rintro rfl; rw [q] at hfs; simp at hfs
    · rintro rfl; rw [q] at ha; simp at ha
  refine gw_al0 d_A_addAt_0 ?_
  refine gw_il1 d_A_addAt_1 ?_
  refine gw_vV1 d_A_addAt_2 cs_A_addAt_2 ha (c_A_rangeCheckForAdd hL' hi) (fun h' sz' hp hz => ?_); obtain ⟨rfl, rfl⟩ := hp
  refine gw_al0 d_A_addAt_5 ?_
  refine gw_dup d_A_addAt_6 rfl ?_
  refine gw_get d_A_addAt_7 (by assumption) (by rfl) ?_
  refine gw_push d_A_addAt_10 ?_
  refine gw_iadd d_A_addAt_11 ?_
  refine gw_pf0 d_A_addAt_12 (by assumption) rfl rfl ?_
  refine gw_al0 d_A_addAt_15 ?_
  refine gw_get d_A_addAt_16 (gUp_self _ _ _) (by rfl) ?_
  refine gw_dup d_A_addAt_19 rfl ?_
  refine gw_is3 d_A_addAt_20 ?_
  refine gw_al0 d_A_addAt_21 ?_
  refine gw_get d_A_addAt_22 (gUp_self _ _ _) (by rfl) ?_
  refine gw_dup d_A_addAt_25 rfl ?_
  refine gw_as4 d_A_addAt_26 ?_
  rcases h3 with ⟨he, hnil⟩ | ⟨cap, g, q1, q2, q3, q4, q5⟩
  · refine gw_alenD d_A_addAt_28 he ?_
    refine gw_icne d_A_addAt_29 (fun c_29 => absurd (by rw [hnil]; rfl) c_29) (fun c_29 => ?_)
    exact hgrow (Or.inl he) (by have := (wf x _ hx).1; omega) (by rw [hnil]; simp)
  · obtain ⟨k1, k2, k3⟩ := hkind cap g q1
    by_cases hfull : cap = L.length
    · subst hfull
      refine gw_alenR d_A_addAt_28 ((gUp_ne _ _ (Ne.symm k3)).trans q1) (Or.inr (Or.inr rfl)) ?_
      refine gw_icne d_A_addAt_29 (fun c_29 => absurd rfl c_29) (fun c_29 => ?_)
      exact hgrow (Or.inr ⟨g, q1⟩) k1 k2
    · refine gw_alenR d_A_addAt_28 ((gUp_ne _ _ (Ne.symm k3)).trans q1) (Or.inr (Or.inr rfl)) ?_
      refine gw_icne d_A_addAt_29 (fun c_29 => ?_) (fun c_29 => absurd (n_eq c_29 (by omega) (by omega)) (by omega))
      exact hrest _ _ e cap _ _ g _ (gUp_self _ _ _) ((gUp_ne _ _ (Ne.symm k3)).trans q1) (by omega) q4 q5 (fun y hy r1 r2 => gUp_ne _ _ r1) (Or.inl rfl) (Nat.le_refl _) k3 (Ne.symm k1) (fun y hy => ⟨k2 y hy, k2 y hy⟩) k1 (by omega) (by omega)
theorem c_A_fastRemove (hL : LV G h a e L) {i : Nat} (hi : i < L.length) : SM G l 2 y_A_fastRemove M_A_fastRemove [.ref a, .ref e, .int (nI i)] h sz 0 0 (qV (fun h' sz' => LV G h' a e (delA L i) ∧ Fr h h' sz [a, e] ∧ sz' = sz)) := by
  have hL' := hL
  obtain ⟨⟨mo, ha⟩, h48, hel, h3⟩ := hL
  rcases h3 with ⟨-, rfl⟩ | ⟨cap, g, q1, q2, q3, q4, q5⟩
  · simp at hi
  have hae : a ≠ e := by rintro rfl; rw [q1] at ha; simp at ha
  have hne : ∀ y ∈ L, y ≠ e := by
    intro y hy
    obtain ⟨fs', hfs⟩ := hel y hy
    rintro rfl; rw [q1] at hfs; simp at hfs
  have fin : ∀ (g' : Nat → Option Nat) (mo' : Int32), (∀ j, j < L.length - 1 → g' j = (delA L i)[j]?) → LV G (gUp (gUp h e (gR 4 cap g')) a (gO 0 [.int mo', .ref e, .int (nI (L.length - 1))])) a e (delA L i) := by
    intro g' mo' hg
    rw [← delA_len hi]
    exact LV.mk (by rw [delA_len hi]; omega) (fun y hy => ⟨hL'.ne_item (delA_mem hy), hne y (delA_mem hy), hel y (delA_mem hy)⟩) hae (by rw [delA_len hi]; omega) q3 q4 (by rw [delA_len hi]; exact hg)
  have hpath1 : L.length - 1 ≤ i → ∀ j, j < L.length - 1 → va_up g (L.length - 1) none j = (delA L i)[j]? := by
    intro hge j hj
    rw [va_up_ne _ _ (by omega), q5 j (by omega), delA_get hi, if_pos (by omega)]
  have hpath2 : i < L.length - 1 → ∀ j, j < L.length - 1 → va_up (va_cpy g g (i + 1) i (L.length - 1 - i)) (L.length - 1) none j = (delA L i)[j]? := by
    intro hlt j hj
    rw [va_up_ne _ _ (by omega), delA_get hi]
    by_cases q : j < i
    · rw [if_pos q, pk_cpy_out (by omega), q5 j (by omega)]
    · rw [if_neg q, pk_cpy_in (by omega) (by omega), show i + 1 + (j - i) = j + 1 by omega, q5 _ (by omega)]
  refine SM.of (lv0 := [some (.ref a), some (.ref e), some (.int (nI i)), none]) (by decide +kernel) rfl ⟨rfl, rfl⟩ rfl (by simp [Value.category]) (Nat.le_of_ble_eq_true rfl) ?_
  refine gw_al0 d_A_fastRemove_0 ?_
  refine gw_dup d_A_fastRemove_1 rfl ?_
  refine gw_get d_A_fastRemove_2 (by assumption) (by rfl) ?_
  refine gw_push d_A_fastRemove_5 ?_
  refine gw_iadd d_A_fastRemove_6 ?_
  refine gw_pf0 d_A_fastRemove_7 (by assumption) rfl rfl ?_
  refine gw_al0 d_A_fastRemove_10 ?_
  refine gw_get d_A_fastRemove_11 (gUp_self _ _ _) (by rfl) ?_
  refine gw_push d_A_fastRemove_14 ?_
  refine gw_isub d_A_fastRemove_15 ?_; rw [n_m1 (by omega)]
  refine gw_dup d_A_fastRemove_16 rfl ?_
  refine gw_is3 d_A_fastRemove_17 ?_
  refine gw_il2 d_A_fastRemove_18 ?_
  refine gw_icle d_A_fastRemove_19 (fun c_19 => ?_) (fun c_19 => ?_)
  · refine gw_al1 d_A_fastRemove_34 ?_
    refine gw_al0 d_A_fastRemove_35 ?_
    refine gw_il3 d_A_fastRemove_36 ?_
    refine gw_dup_x1 d_A_fastRemove_37 rfl rfl ?_
    first | (refine gw_pf2 d_A_fastRemove_38 ((gUp_ne _ _ hae).trans (gUp_self _ _ _)) rfl rfl ?_) | (refine gw_pf2 d_A_fastRemove_38 (gUp_self _ _ _) rfl rfl ?_)
    refine gw_null d_A_fastRemove_41 ?_
    first | (refine gw_aastN d_A_fastRemove_42 ((gUp_ne _ _ (Ne.symm hae)).trans (gUp_self _ _ _)) (Or.inr (Or.inr rfl)) (L.length - 1) rfl (by omega) (by omega) ?_) | (refine gw_aastN d_A_fastRemove_42 ((gUp_ne _ _ (Ne.symm hae)).trans ((gUp_ne _ _ (Ne.symm hae)).trans q1)) (Or.inr (Or.inr rfl)) (L.length - 1) rfl (by omega) (by omega) ?_)
    first | (have hlt2 := hlt; refine gw_vret d_A_fastRemove_43 rfl (Nat.le_refl _) (Nat.le_refl _) ⟨rfl, ?_, (((Fr.refl.up (Or.inl (by simp))).up (Or.inl (by simp))).up (Or.inl (by simp))).up (Or.inl (by simp)), rfl⟩; rw [gUp4 hae]; exact fin _ _ (hpath2 hlt)) | (have hge := n_le c_19 (by omega) (by omega); refine gw_vret d_A_fastRemove_43 rfl (Nat.le_refl _) (Nat.le_refl _) ⟨rfl, ?_, ((Fr.refl.up (Or.inl (by simp))).up (Or.inl (by simp))).up (Or.inl (by simp)), rfl⟩; rw [gUp_gUp, gUp_comm _ _ _ hae]; exact fin _ _ (hpath1 hge))
  · refine gw_al1 d_A_fastRemove_22 ?_
    refine gw_il2 d_A_fastRemove_23 ?_
    refine gw_push d_A_fastRemove_24 ?_
    refine gw_iadd d_A_fastRemove_25 ?_; rw [n_s]
    refine gw_al1 d_A_fastRemove_26 ?_
    refine gw_il2 d_A_fastRemove_27 ?_
    refine gw_il3 d_A_fastRemove_28 ?_
    refine gw_il2 d_A_fastRemove_29 ?_
    have hlt := Nat.not_le.mp (fun q => c_19 (nI_le q (by omega))); refine gw_isub d_A_fastRemove_30 ?_; rw [pk_sub (by omega)]
    refine gw_copyR d_A_fastRemove_31 cp_A_fastRemove_31 ((gUp_ne _ _ (Ne.symm hae)).trans q1) ((gUp_ne _ _ (Ne.symm hae)).trans q1) (i + 1) i (L.length - 1 - i) rfl rfl rfl (by omega) (by omega) (by omega) (fun j hj y hy => ?_) (by decide) (Nat.le_of_ble_eq_true rfl) ?_; · (rw [q5 _ (by omega)] at hy; have hy' := List.mem_of_getElem? hy; obtain ⟨fs', hfs⟩ := hel y hy'; exact ⟨fs', by rw [gUp_ne _ _ (hL'.ne_item hy')]; exact hfs⟩)
    refine gw_al1 d_A_fastRemove_34 ?_
    refine gw_al0 d_A_fastRemove_35 ?_
    refine gw_il3 d_A_fastRemove_36 ?_
    refine gw_dup_x1 d_A_fastRemove_37 rfl rfl ?_
    first | (refine gw_pf2 d_A_fastRemove_38 ((gUp_ne _ _ hae).trans (gUp_self _ _ _)) rfl rfl ?_) | (refine gw_pf2 d_A_fastRemove_38 (gUp_self _ _ _) rfl rfl ?_)
    refine gw_null d_A_fastRemove_41 ?_
    first | (refine gw_aastN d_A_fastRemove_42 ((gUp_ne _ _ (Ne.symm hae)).trans (gUp_self _ _ _)) (Or.inr (Or.inr rfl)) (L.length - 1) rfl (by omega) (by omega) ?_) | (refine gw_aastN d_A_fastRemove_42 ((gUp_ne _ _ (Ne.symm hae)).trans ((gUp_ne _ _ (Ne.symm hae)).trans q1)) (Or.inr (Or.inr rfl)) (L.length - 1) rfl (by omega) (by omega) ?_)
    first | (have hlt2 := hlt; refine gw_vret d_A_fastRemove_43 rfl (Nat.le_refl _) (Nat.le_refl _) ⟨rfl, ?_, (((Fr.refl.up (Or.inl (by simp))).up (Or.inl (by simp))).up (Or.inl (by simp))).up (Or.inl (by simp)), rfl⟩; rw [gUp4 hae]; exact fin _ _ (hpath2 hlt)) | (have hge := n_le c_19 (by omega) (by omega); refine gw_vret d_A_fastRemove_43 rfl (Nat.le_refl _) (Nat.le_refl _) ⟨rfl, ?_, ((Fr.refl.up (Or.inl (by simp))).up (Or.inl (by simp))).up (Or.inl (by simp)), rfl⟩; rw [gUp_gUp, gUp_comm _ _ _ hae]; exact fin _ _ (hpath1 hge))
theorem c_A_remove (hL : LV G h a e L) {i x : Nat} (hx : L[i]? = some x) : SM G l 3 y_A_remove M_A_remove [.ref a, .int (nI i)] h sz 0 0 (fun r h' sz' => r = .inl (some (.ref x)) ∧ LV G h' a e (delA L i) ∧ Fr h h' sz [a, e] ∧ sz' = sz) := by
  have hi : i < L.length := (List.getElem?_eq_some_iff.mp hx).1
  have hL' := hL
  obtain ⟨cap, g, q1, q2, q3, q4⟩ := hL.item hx
  obtain ⟨⟨mo, ha⟩, h48, hel, h3⟩ := hL
  refine SM.of (lv0 := [some (.ref a), some (.int (nI i)), none, none]) (by decide +kernel) rfl ⟨rfl, rfl⟩ rfl (by simp [Value.category]) (Nat.le_of_ble_eq_true rfl) ?_
  refine gw_il1 d_A_remove_0 ?_
  refine gw_al0 d_A_remove_1 ?_
  refine gw_get d_A_remove_2 (by assumption) (by rfl) ?_
  refine gw_rS2 d_A_remove_5 cs_A_remove_5 (c_J_checkIndex hi (by omega)) ?_
  refine gw_pop d_A_remove_8 rfl ?_
  refine gw_al0 d_A_remove_9 ?_
  refine gw_get d_A_remove_10 (by assumption) (by rfl) ?_
  refine gw_as2 d_A_remove_13 ?_
  refine gw_al2 d_A_remove_14 ?_
  refine gw_il1 d_A_remove_15 ?_
  refine gw_aald d_A_remove_16 q1 (Or.inr (Or.inr rfl)) i x rfl q2 (by omega) q4 ?_
  refine gw_as3 d_A_remove_17 ?_
  refine gw_al0 d_A_remove_18 ?_
  refine gw_al2 d_A_remove_19 ?_
  refine gw_il1 d_A_remove_20 ?_
  refine gw_vV2 d_A_remove_21 cs_A_remove_21 ha (c_A_fastRemove hL' hi) (fun h' sz' hp hz => ?_)
  refine gw_al3 d_A_remove_24 ?_
  exact gw_aret d_A_remove_25 rfl (Or.inl ⟨_, rfl⟩) (Or.inr ⟨_, rfl⟩) (Nat.le_refl _) (Nat.le_refl _) ⟨rfl, hp⟩
theorem c_A_clear (hL : LV G h a e L) : SM G l 1 y_A_clear M_A_clear [.ref a] h sz 0 0 (qV (fun h' sz' => LV G h' a e [] ∧ Fr h h' sz [a, e] ∧ sz' = sz)) := by
  obtain ⟨⟨mo, ha⟩, h48, hel, h3⟩ := hL
  refine SM.of (lv0 := [some (.ref a), none, none, none]) (by decide +kernel) rfl ⟨rfl, rfl⟩ rfl (by simp [Value.category]) (Nat.le_of_ble_eq_true rfl) ?_
  refine gw_al0 d_A_clear_0 ?_
  refine gw_dup d_A_clear_1 rfl ?_
  refine gw_get d_A_clear_2 (by assumption) (by rfl) ?_
  refine gw_push d_A_clear_5 ?_
  refine gw_iadd d_A_clear_6 ?_
  refine gw_pf0 d_A_clear_7 (by assumption) rfl rfl ?_
  refine gw_al0 d_A_clear_10 ?_
  refine gw_get d_A_clear_11 (gUp_self _ _ _) (by rfl) ?_
  refine gw_as1 d_A_clear_14 ?_
  refine gw_al0 d_A_clear_15 ?_
  refine gw_get d_A_clear_16 (gUp_self _ _ _) (by rfl) ?_
  refine gw_is2 d_A_clear_19 ?_
  refine gw_al0 d_A_clear_20 ?_
  refine gw_push d_A_clear_21 ?_
  refine gw_dup_x1 d_A_clear_22 rfl rfl ?_
  refine gw_pf2 d_A_clear_23 (gUp_self _ _ _) rfl rfl ?_
  refine gw_is3 d_A_clear_26 ?_
  rw [gUp_gUp]
  rcases h3 with ⟨he, rfl⟩ | ⟨cap, g, q1, q2, q3, q4, q5⟩
  · refine gw_il3 d_A_clear_27 ?_
    refine gw_il2 d_A_clear_28 ?_
    refine gw_icge d_A_clear_29 (fun c_29 => ?_) (fun c_29 => absurd (Int32.le_refl _) c_29)
    exact gw_vret d_A_clear_42 rfl (Nat.le_refl _) (Nat.le_refl _) ⟨rfl, ⟨⟨_, gUp_self _ _ _⟩, by simp, by simp, Or.inl ⟨he, rfl⟩⟩, Fr.refl.up (Or.inl (by simp)), rfl⟩
  · have hae : a ≠ e := by rintro rfl; rw [q1] at ha; simp at ha
    have loop : ∀ m j (h1 : gHp) (g1 : Nat → Option Nat), j ≤ L.length → L.length - j < m → h1 a = some (gO 0 [.int (mo + 1), .ref e, .int 0]) → h1 e = some (gR 4 cap g1) → Fr h h1 sz [a, e] → GM G l 1 0 0 (qV (fun h' sz' => LV G h' a e [] ∧ Fr h h' sz [a, e] ∧ sz' = sz)) M_A_clear 27 [some (.ref a), some (.ref e), some (.int (nI L.length)), some (.int (nI j))] [] h1 sz 0 0 := by
      intro m
      induction m with
      | zero => intro j _ _ _ hj; exact absurd hj (Nat.not_lt_zero _)
      | succ m ih =>
        intro j h1 g1 hj hm p1 p2 p3
        refine gw_il3 d_A_clear_27 ?_
        refine gw_il2 d_A_clear_28 ?_
        refine gw_icge d_A_clear_29 (fun c_29 => ?_) (fun c_29 => ?_)
        · exact gw_vret d_A_clear_42 rfl (Nat.le_refl _) (Nat.le_refl _) ⟨rfl, ⟨⟨_, p1⟩, by simp, by simp, Or.inr ⟨cap, g1, p2, by simp, q3, q4, fun i hi => by simp at hi⟩⟩, p3, rfl⟩
        · refine gw_al1 d_A_clear_32 ?_
          refine gw_il3 d_A_clear_33 ?_
          refine gw_null d_A_clear_34 ?_
          have hlt := n_nle c_29 (by omega) (by omega); refine gw_aastN d_A_clear_35 p2 (Or.inr (Or.inr rfl)) j rfl (by omega) (by omega) ?_
          refine gw_ii3 d_A_clear_36 (by rw [n_s]; exact gw_goto d_A_clear_39 (ih (j + 1) _ _ (by omega) (by omega) ((gUp_ne _ _ hae).trans p1) (gUp_self _ _ _) (p3.up (Or.inl (by simp)))))
    exact loop (L.length + 1) 0 _ g (by omega) (by omega) (gUp_self _ _ _) ((gUp_ne _ _ (Ne.symm hae)).trans q1) (Fr.refl.up (Or.inl (by simp)))
end Lists3
