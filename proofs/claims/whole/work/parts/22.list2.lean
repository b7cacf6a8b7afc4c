/-! ===== ArrayList: contracts that change it ===== -/
theorem Fr.refl {h : gHp} {sz : Nat} {X : List Nat} : Fr h h sz X := fun _ _ _ => rfl
theorem Fr.trans {h h1 h2 : gHp} {sz sz1 : Nat} {X : List Nat} (a : Fr h h1 sz X) (b : Fr h1 h2 sz1 X) (hs : sz ≤ sz1) : Fr h h2 sz X := fun q hq hx => (b q (Nat.lt_of_lt_of_le hq hs) hx).trans (a q hq hx)
theorem Fr.mono {h h1 : gHp} {sz : Nat} {X Y : List Nat} (a : Fr h h1 sz X) (hxy : ∀ x ∈ X, x ∈ Y) : Fr h h1 sz Y := fun q hq hx => a q hq (fun z => hx (hxy q z))
theorem Fr.up {h h1 : gHp} {sz : Nat} {X : List Nat} {a : Nat} {e : gE} (f : Fr h h1 sz X) (ha : a ∈ X ∨ sz ≤ a) : Fr h (gUp h1 a e) sz X := by
  intro q hq hx
  have hqa : q ≠ a := by
    rintro rfl
    rcases ha with z | z
    · exact hx z
    · omega
  rw [gUp_ne _ _ hqa]
  exact f q hq hx
theorem GW.dce {G : gG} {l : Launch} {Z : State → Array Value → List Frame → State → Prop} {R : Room} {M : gM} {pc : Nat} {lv : List (Option Value)} {st : List Value} {h : gHp} {sz k w : Nat} (kk : gDce G < gBase G → GW G l Z R M pc lv st h sz k w) : GW G l Z R M pc lv st h sz k w := by
  intro p e s m args below meth c H locs ls F hS hR hz hl
  obtain ⟨-, ⟨f, hT⟩, -⟩ := F.2.2.2.2.2.2.2.2.2.2.1
  exact kk (Nat.not_le.mp hT.out) p e s m args below meth c H locs ls F hS hR hz hl
section Lists2
variable {G : gG} {l : Launch} {h : gHp} {sz : Nat} {a e : Nat} {L : List Nat}
/-- the array behind a growth -/
theorem c_A_grow (hL : LV G h a e L) (hful : e = gDce G ∨ ∃ g, h e = some (gR 4 L.length g)) : SM G l 4 y_A_grow M_A_grow [.ref a, .int (nI (L.length + 1))] h sz 1 72 (fun r h' sz' => ∃ (cap : Nat) (g : Nat → Option Nat) (mo : Int32), r = .inl (some (.ref sz)) ∧ sz' = sz + 1 ∧ h a = some (gO 0 [.int mo, .ref e, .int (nI L.length)]) ∧ h' = gUp (gUp h sz (gR 4 cap g)) a (gO 0 [.int mo, .ref sz, .int (nI L.length)]) ∧ L.length < cap ∧ cap ≤ 72 ∧ ∀ i, i < L.length → g i = L[i]?) := by
  obtain ⟨⟨mo, ha⟩, h48, hel, h3⟩ := hL
  refine SM.of (lv0 := [some (.ref a), some (.int (nI (L.length + 1))), none, none]) (by decide +kernel) rfl ⟨rfl, rfl⟩ rfl (by simp [Value.category]) (Nat.le_of_ble_eq_true rfl) ?_
  refine GW.dce (fun hdce => ?_)
  refine GW.wf (fun wf => ?_)
  have has := (wf a _ ha).2
  have hab := (wf a _ ha).1
  rcases h3 with ⟨he, hnil⟩ | ⟨cap, g, q1, q2, q3, q4, q5⟩
  · subst hnil
    refine gw_al0 d_A_grow_0 ?_
    refine gw_get d_A_grow_1 (by assumption) (by rfl) ?_
    refine gw_alenD d_A_grow_4 he ?_
    refine gw_is2 d_A_grow_5 ?_
    refine gw_il2 d_A_grow_6 ?_
    refine gw_ifgt d_A_grow_7 (fun c_7 => absurd c_7 (by decide)) (fun c_7 => ?_)
    refine gw_al0 d_A_grow_10 ?_
    refine gw_get d_A_grow_11 (by assumption) (by rfl) ?_
    refine gw_getsD d_A_grow_14 gs_A_grow_14 ?_
    refine gw_acmpeq d_A_grow_17 (fun c_17 => ?_) (fun c_17 => absurd he c_17)
    refine gw_al0 d_A_grow_45 ?_
    refine gw_push d_A_grow_46 ?_
    refine gw_il1 d_A_grow_48 ?_
    refine gw_rS2 d_A_grow_49 cs_A_grow_49 c_J_max ?_; rw [show mxI 10 (nI (([] : List Nat).length + 1)) = nI 10 from by decide]
    refine gw_newR d_A_grow_52 (Or.inr (Or.inr ⟨rfl, rfl⟩)) cl_A_grow_52 10 rfl (by omega) (Nat.le_of_ble_eq_true rfl) (Nat.le_of_ble_eq_true rfl) ?_
    refine gw_dup_x1 d_A_grow_55 rfl rfl ?_
    refine gw_pf1 d_A_grow_56 ((gUp_ne _ _ (by omega)).trans ha) rfl rfl ?_
    exact gw_aret d_A_grow_59 rfl (Or.inr ⟨_, rfl⟩) (Or.inr ⟨_, rfl⟩) (by omega) (by omega) ⟨10, fun _ => none, mo, rfl, rfl, ha, rfl, by simp, by omega, fun i hi => by simp at hi⟩
  · have hfu : ∃ g, h e = some (gR 4 L.length g) := by
      rcases hful with hd | hd
      · exact absurd (wf e _ q1).1 (by rw [hd]; omega)
      · exact hd
    obtain ⟨g', hg'⟩ := hfu
    have hcg : cap = L.length ∧ g = g' := by
      rw [q1] at hg'
      simp at hg'
      exact hg'
    obtain ⟨rfl, rfl⟩ := hcg
    have hv : ∀ i, i < L.length → ∀ y, g i = some y → ∃ fs, h y = some (gO 4 fs) := fun i hi y hy => hel y (List.mem_of_getElem? ((q5 i hi).symm.trans hy))
    have hnl : L.length + max 1 (L.length / 2) ≤ 72 := by omega
    refine gw_al0 d_A_grow_0 ?_
    refine gw_get d_A_grow_1 (by assumption) (by rfl) ?_
    refine gw_alenR d_A_grow_4 q1 (Or.inr (Or.inr rfl)) ?_
    refine gw_is2 d_A_grow_5 ?_
    refine gw_il2 d_A_grow_6 ?_
    refine gw_ifgt d_A_grow_7 (fun c_7 => ?_) (fun c_7 => absurd (nI_lt (a := 0) (b := L.length) (by omega) (by omega)) c_7)
    refine gw_il2 d_A_grow_20 ?_
    refine gw_il1 d_A_grow_21 ?_
    refine gw_il2 d_A_grow_22 ?_
    refine gw_isub d_A_grow_23 ?_; rw [pk_sub (by omega), show L.length + 1 - L.length = 1 by omega]
    refine gw_il2 d_A_grow_24 ?_
    refine gw_push d_A_grow_25 ?_
    refine gw_ishr d_A_grow_26 ?_; rw [n_shr1 (by omega)]
    refine gw_rS3 d_A_grow_27 cs_A_grow_27 (c_J_newLength (by omega) (by omega)) ?_
    refine gw_is3 d_A_grow_30 ?_
    refine gw_al0 d_A_grow_31 ?_
    refine gw_al0 d_A_grow_32 ?_
    refine gw_get d_A_grow_33 (by assumption) (by rfl) ?_
    refine gw_il3 d_A_grow_36 ?_
    refine gw_cS2 d_A_grow_37 cs_A_grow_37 (c_J_copyOf q1 hv (by omega) hnl) (fun v h' sz' hp hz => ?_) (fun E h' sz' hp _ => by cases hp.1); obtain ⟨w1, rfl, rfl⟩ := hp; cases w1
    refine gw_dup_x1 d_A_grow_40 rfl rfl ?_
    refine gw_pf1 d_A_grow_41 ((gUp_ne _ _ (by omega)).trans ha) rfl rfl ?_
    exact gw_aret d_A_grow_44 rfl (Or.inr ⟨_, rfl⟩) (Or.inr ⟨_, rfl⟩) (by omega) (by omega) ⟨_, _, mo, rfl, rfl, ha, rfl, by omega, hnl, fun i hi => by rw [pk_cpy_in (by omega) (by omega)]; simp; exact q5 i hi⟩
theorem c_A_grow0 (hL : LV G h a e L) (hful : e = gDce G ∨ ∃ g, h e = some (gR 4 L.length g)) : SM G l 5 y_A_grow0 M_A_grow0 [.ref a] h sz 1 72 (fun r h' sz' => ∃ (cap : Nat) (g : Nat → Option Nat) (mo : Int32), r = .inl (some (.ref sz)) ∧ sz' = sz + 1 ∧ h a = some (gO 0 [.int mo, .ref e, .int (nI L.length)]) ∧ h' = gUp (gUp h sz (gR 4 cap g)) a (gO 0 [.int mo, .ref sz, .int (nI L.length)]) ∧ L.length < cap ∧ cap ≤ 72 ∧ ∀ i, i < L.length → g i = L[i]?) := by
  obtain ⟨mo, ha⟩ := hL.1
  refine SM.of (lv0 := [some (.ref a)]) (by decide +kernel) rfl ⟨rfl, rfl⟩ rfl (by simp [Value.category]) (Nat.le_of_ble_eq_true rfl) ?_
  refine gw_al0 d_A_grow0_0 ?_
  refine gw_al0 d_A_grow0_1 ?_
  refine gw_get d_A_grow0_2 (by assumption) (by rfl) ?_
  refine gw_push d_A_grow0_5 ?_
  refine gw_iadd d_A_grow0_6 ?_; rw [n_s]
  refine gw_cV1 d_A_grow0_7 cs_A_grow0_7 ha (c_A_grow hL hful) (fun v h' sz' hp hz => ?_) (fun E h' sz' hp _ => by obtain ⟨_, _, _, q, _⟩ := hp; cases q); obtain ⟨cap, g, mo', w1, w2⟩ := hp; cases w1
  exact gw_aret d_A_grow0_10 rfl (Or.inr ⟨_, rfl⟩) (Or.inr ⟨_, rfl⟩) (by omega) (by omega) ⟨cap, g, mo', rfl, w2⟩
/-- what a change of a list leaves -/
def gLP (G : gG) (h : gHp) (sz a e : Nat) (L' : List Nat) (h' : gHp) (sz' : Nat) : Prop := ∃ e', LV G h' a e' L' ∧ Fr h h' sz [a, e] ∧ (e' = e ∨ (sz ≤ e' ∧ e' < sz')) ∧ sz ≤ sz'
theorem LV.mk {h1 : gHp} {L' : List Nat} {cap : Nat} {g : Nat → Option Nat} {mo : Int32} (h48 : L'.length ≤ 48) (hel : ∀ x ∈ L', x ≠ a ∧ x ≠ e ∧ ∃ fs, h1 x = some (gO 4 fs)) (hae : a ≠ e) (hc : L'.length ≤ cap) (h1c : 1 ≤ cap) (hc72 : cap ≤ 72) (hg : ∀ i, i < L'.length → g i = L'[i]?) : LV G (gUp (gUp h1 e (gR 4 cap g)) a (gO 0 [.int mo, .ref e, .int (nI L'.length)])) a e L' := by
  refine ⟨⟨mo, gUp_self _ _ _⟩, h48, fun x hx => ?_, Or.inr ⟨cap, g, ?_, hc, h1c, hc72, hg⟩⟩
  · obtain ⟨q1, q2, fs, q3⟩ := hel x hx
    exact ⟨fs, by rw [gUp_ne _ _ q1, gUp_ne _ _ q2]; exact q3⟩
  · rw [gUp_ne _ _ (Ne.symm hae), gUp_self]
theorem LV.mod {mo : Int32} (hL : LV G h a e L) : LV G (gUp h a (gO 0 [.int mo, .ref e, .int (nI L.length)])) a e L := by
  obtain ⟨⟨mo', ha⟩, h48, hel, h3⟩ := hL
  refine ⟨⟨mo, gUp_self _ _ _⟩, h48, fun x hx => ?_, ?_⟩
  · obtain ⟨fs, hfs⟩ := hel x hx
    refine ⟨fs, ?_⟩
    rw [gUp_ne]
    · exact hfs
    · rintro rfl; rw [ha] at hfs; simp at hfs
  · rcases h3 with q | ⟨cap, g, q1, q2⟩
    · exact Or.inl q
    · refine Or.inr ⟨cap, g, ?_, q2⟩
      rw [gUp_ne]
      · exact q1
      · rintro rfl; rw [ha] at q1; simp at q1
theorem LV.ne_item (hL : LV G h a e L) {x : Nat} (hx : x ∈ L) : x ≠ a := by
  obtain ⟨⟨mo', ha⟩, h48, hel, h3⟩ := hL
  obtain ⟨fs, hfs⟩ := hel x hx
  rintro rfl; rw [ha] at hfs; simp at hfs
theorem c_A_add3 (hL : LV G h a e L) (h47 : L.length < 48) {x : Nat} {fs : List Value} (hx : h x = some (gO 4 fs)) : SM G l 6 y_A_add3 M_A_add3 [.ref a, .ref x, .ref e, .int (nI L.length)] h sz 1 72 (qV (gLP G h sz a e (L ++ [x]))) := by
  have hL' := hL
  obtain ⟨⟨mo, ha⟩, h48, hel, h3⟩ := hL
  have hxa : x ≠ a := by rintro rfl; rw [ha] at hx; simp at hx
  refine SM.of (lv0 := [some (.ref a), some (.ref x), some (.ref e), some (.int (nI L.length))]) (by decide +kernel) rfl ⟨rfl, rfl⟩ rfl (by simp [Value.category]) (Nat.le_of_ble_eq_true rfl) ?_
  refine GW.dce (fun hdce => ?_)
  refine GW.wf (fun wf => ?_)
  have has := (wf a _ ha).2
  have hxs := (wf x _ hx).2
  have hels : ∀ y ∈ L ++ [x], y ≠ a ∧ y < sz ∧ ∃ fs, h y = some (gO 4 fs) := by
    intro y hy
    rcases List.mem_append.mp hy with q | q
    · obtain ⟨fs', hfs⟩ := hel y q
      exact ⟨hL'.ne_item q, (wf y _ hfs).2, fs', hfs⟩
    · rw [List.mem_singleton.mp q]
      exact ⟨hxa, hxs, fs, hx⟩
  have hget : ∀ (g : Nat → Option Nat), (∀ i, i < L.length → g i = L[i]?) → ∀ i, i < (L ++ [x]).length → va_up g L.length (some x) i = (L ++ [x])[i]? := by
    intro g hg i hi
    simp at hi
    by_cases q : i = L.length
    · subst q; simp [va_up]
    · rw [va_up_ne _ _ q, hg i (by omega), List.getElem?_append_left (by omega)]
  -- when the array is full it grows
  have hgrow : ∀ (hful : e = gDce G ∨ ∃ g, h e = some (gR 4 L.length g)), GM G l 6 1 72 (qV (gLP G h sz a e (L ++ [x]))) M_A_add3 6 [some (.ref a), some (.ref x), some (.ref e), some (.int (nI L.length))] [] h sz 0 0 := by
    intro hful
    refine gw_al0 d_A_add3_6 ?_
    refine gw_cV0 d_A_add3_7 cs_A_add3_7 ha (c_A_grow0 hL' hful) (fun v h' sz' hp hz => ?_) (fun E h' sz' hp _ => by obtain ⟨_, _, _, q, _⟩ := hp; cases q); obtain ⟨cap, g, mo', w1, rfl, w3, rfl, w5, w6, w7⟩ := hp; cases w1
    refine gw_as2 d_A_add3_10 ?_
    refine gw_al2 d_A_add3_11 ?_
    refine gw_il3 d_A_add3_12 ?_
    refine gw_al1 d_A_add3_13 ?_
    refine gw_aast d_A_add3_14 ((gUp_ne _ _ (by omega)).trans (gUp_self _ _ _)) ((gUp_ne _ _ hxa).trans ((gUp_ne _ _ (by omega)).trans hx)) (Or.inr (Or.inr ⟨rfl, rfl⟩)) L.length rfl w5 (by omega) ?_
    refine gw_al0 d_A_add3_15 ?_
    refine gw_il3 d_A_add3_16 ?_
    refine gw_push d_A_add3_17 ?_
    refine gw_iadd d_A_add3_18 ?_; rw [n_s]
    refine gw_pf2 d_A_add3_19 ((gUp_ne _ _ (by omega)).trans (gUp_self _ _ _)) rfl rfl ?_
    refine gw_vret d_A_add3_22 rfl (by omega) (by omega) ⟨rfl, sz, ?_, ?_, Or.inr ⟨Nat.le_refl _, by omega⟩, by omega⟩
    · rw [gUp_comm _ _ _ (show a ≠ sz by omega), gUp_gUp, gUp_gUp]
      have e1 : L.length + 1 = (L ++ [x]).length := by simp
      rw [e1]
      exact LV.mk (by simp; omega) (fun y hy => ⟨(hels y hy).1, by have := (hels y hy).2.1; omega, (hels y hy).2.2⟩) (by omega) (by simp; omega) (by omega) w6 (hget g w7)
    · exact (((Fr.refl.up (Or.inr (Nat.le_refl _))).up (Or.inl (by simp))).up (Or.inr (Nat.le_refl _))).up (Or.inl (by simp))
  rcases h3 with ⟨he, hnil⟩ | ⟨cap, g, q1, q2, q3, q4, q5⟩
  · refine gw_il3 d_A_add3_0 ?_
    refine gw_al2 d_A_add3_1 ?_
    refine gw_alenD d_A_add3_2 he ?_
    refine gw_icne d_A_add3_3 (fun c_3 => absurd (by rw [hnil]; rfl) c_3) (fun c_3 => ?_)
    exact hgrow (Or.inl he)
  · by_cases hfull : cap = L.length
    · subst hfull
      refine gw_il3 d_A_add3_0 ?_
      refine gw_al2 d_A_add3_1 ?_
      refine gw_alenR d_A_add3_2 q1 (Or.inr (Or.inr rfl)) ?_
      refine gw_icne d_A_add3_3 (fun c_3 => absurd rfl c_3) (fun c_3 => ?_)
      exact hgrow (Or.inr ⟨g, q1⟩)
    · have hea : a ≠ e := by rintro rfl; rw [ha] at q1; simp at q1
      refine gw_il3 d_A_add3_0 ?_
      refine gw_al2 d_A_add3_1 ?_
      refine gw_alenR d_A_add3_2 q1 (Or.inr (Or.inr rfl)) ?_
      refine gw_icne d_A_add3_3 (fun c_3 => ?_) (fun c_3 => absurd (n_eq c_3 (by omega) (by omega)) (by omega))
      refine gw_al2 d_A_add3_11 ?_
      refine gw_il3 d_A_add3_12 ?_
      refine gw_al1 d_A_add3_13 ?_
      refine gw_aast d_A_add3_14 q1 hx (Or.inr (Or.inr ⟨rfl, rfl⟩)) L.length rfl (by omega) (by omega) ?_
      refine gw_al0 d_A_add3_15 ?_
      refine gw_il3 d_A_add3_16 ?_
      refine gw_push d_A_add3_17 ?_
      refine gw_iadd d_A_add3_18 ?_; rw [n_s]
      refine gw_pf2 d_A_add3_19 ((gUp_ne _ _ hea).trans ha) rfl rfl ?_
      refine gw_vret d_A_add3_22 rfl (by omega) (by omega) ⟨rfl, e, ?_, ?_, Or.inl rfl, Nat.le_refl _⟩
      · have e1 : L.length + 1 = (L ++ [x]).length := by simp
        rw [e1]
        refine LV.mk (by simp; omega) (fun y hy => ⟨(hels y hy).1, ?_, (hels y hy).2.2⟩) hea (by simp; omega) (by omega) q4 (hget g q5)
        rintro rfl
        obtain ⟨fs', hfs⟩ := (hels y hy).2.2
        rw [q1] at hfs; simp at hfs
      · exact (Fr.refl.up (Or.inl (by simp))).up (Or.inl (by simp))
theorem c_A_add (hL : LV G h a e L) (h47 : L.length < 48) {x : Nat} {fs : List Value} (hx : h x = some (gO 4 fs)) : SM G l 7 y_A_add M_A_add [.ref a, .ref x] h sz 1 72 (fun r h' sz' => r = .inl (some (.int 1)) ∧ gLP G h sz a e (L ++ [x]) h' sz') := by
  have hL' := hL
  obtain ⟨⟨mo, ha⟩, -⟩ := hL
  have hxa : x ≠ a := by rintro rfl; rw [ha] at hx; simp at hx
  refine SM.of (lv0 := [some (.ref a), some (.ref x)]) (by decide +kernel) rfl ⟨rfl, rfl⟩ rfl (by simp [Value.category]) (Nat.le_of_ble_eq_true rfl) ?_
  refine gw_al0 d_A_add_0 ?_
  refine gw_dup d_A_add_1 rfl ?_
  refine gw_get d_A_add_2 (by assumption) (by rfl) ?_
  refine gw_push d_A_add_5 ?_
  refine gw_iadd d_A_add_6 ?_
  refine gw_pf0 d_A_add_7 (by assumption) rfl rfl ?_
  refine gw_al0 d_A_add_10 ?_
  refine gw_al1 d_A_add_11 ?_
  refine gw_al0 d_A_add_12 ?_
  refine gw_get d_A_add_13 (gUp_self _ _ _) (by rfl) ?_
  refine gw_al0 d_A_add_16 ?_
  refine gw_get d_A_add_17 (gUp_self _ _ _) (by rfl) ?_
  refine gw_vV3 d_A_add_20 cs_A_add_20 (gUp_self _ _ _) (c_A_add3 (hL'.mod (mo := mo + 1)) h47 ((gUp_ne _ _ hxa).trans hx)) (fun h' sz' hp hz => ?_)
  refine gw_push d_A_add_23 ?_
  refine gw_zret d_A_add_24 rfl (Or.inr rfl) (by omega) (by omega) ⟨rfl, ?_⟩
  obtain ⟨e', w1, w2, w3, w4⟩ := hp
  exact ⟨e', w1, (Fr.refl.up (Or.inl (by simp))).trans w2 (Nat.le_refl _), w3, w4⟩
end Lists2
