/-! ===== Cartridge.become; the class's whole world ===== -/
theorem LV.keep {G : gG} {h h1 : gHp} {a e : Nat} {L : List Nat} (hL : LV G h a e L) (ha : h1 a = h a) (he : (∃ x, h e = some x) → h1 e = h e) (hel : ∀ x ∈ L, h1 x = h x) : LV G h1 a e L := by
  obtain ⟨⟨mo, q0⟩, h48, q1, h3⟩ := hL
  refine ⟨⟨mo, ha.trans q0⟩, h48, fun x hx => ?_, ?_⟩
  · obtain ⟨fs, hfs⟩ := q1 x hx
    exact ⟨fs, (hel x hx).trans hfs⟩
  · rcases h3 with q | ⟨cap, g, q1, q2⟩
    · exact Or.inl q
    · exact Or.inr ⟨cap, g, (he ⟨_, q1⟩).trans q1, q2⟩
theorem VA.keep {V : gV} {h h1 : gHp} {x : Nat} (hx : VA h V x) (h0 : h1 x = h x) (h2 : h1 (vQ V x) = h (vQ V x)) : VA h1 V x := ⟨h0.trans hx.1, h2.trans hx.2.1, hx.2.2⟩
theorem gLP_step {h h1 h2 : gHp} {sz sz1 sz2 a e e1 e' : Nat} (hF : Fr h h1 sz [a, e]) (he1 : e1 = e ∨ (sz ≤ e1 ∧ e1 < sz1)) (hsz : sz ≤ sz1) (w3 : Fr h1 h2 sz1 [a, e1]) (w4 : e' = e1 ∨ (sz1 ≤ e' ∧ e' < sz2)) (w5 : sz1 ≤ sz2) : Fr h h2 sz [a, e] ∧ (e' = e ∨ (sz ≤ e' ∧ e' < sz2)) := by
  refine ⟨fun b hb hbx => ?_, ?_⟩
  · rw [w3 b (by omega) ?_, hF b hb hbx]
    simp only [List.mem_cons, List.not_mem_nil, or_false] at hbx ⊢
    rintro (q | q)
    · exact hbx (Or.inl q)
    · rcases he1 with r | r
      · exact hbx (Or.inr (q.trans r))
      · omega
  · rcases w4 with r | r
    · rcases he1 with r1 | r1
      · exact Or.inl (r.trans r1)
      · exact Or.inr (by omega)
    · exact Or.inr (by omega)
section Cart
variable {G : gG} {l : Launch} {h : gHp} {sz : Nat} {V : gV} {s a e t c s2 a2 e2 t2 c2 : Nat} {L L2 : List Nat} {f f2 : Nat → Int32}
theorem c_C_become (hV : CV G V h s a e L t c f) (hV2 : CV G V h s2 a2 e2 L2 t2 c2 f2) (haa : a2 ≠ a) (hee : (∃ x, h e2 = some x) → e2 ≠ e) (h12 : L2.length ≤ 47) : SM G l 8 y_C_become M_C_become [.ref s, .ref s2] h sz 48 3456 (qV (fun h' sz' => ∃ e', LV G h' a e' L2 ∧ h' c = some (gI 160 (va_cpy f2 f 0 0 160)) ∧ Fr h h' sz [a, e, c] ∧ (e' = e ∨ (sz ≤ e' ∧ e' < sz')) ∧ sz ≤ sz')) := by
  obtain ⟨hs, hL, hT, hA⟩ := hV
  obtain ⟨hs2, hL2, hT2, hA2⟩ := hV2
  obtain ⟨mo, ha⟩ := hL.1
  obtain ⟨mo2, ha2⟩ := hL2.1
  have h48 := hL2.2.1
  refine SM.of (lv0 := [some (.ref s), some (.ref s2), none]) (by decide +kernel) rfl ⟨rfl, rfl⟩ rfl (by simp [Value.category]) (Nat.le_of_ble_eq_true rfl) ?_
  refine GW.dce (fun hdce => ?_)
  refine GW.wf (fun wf => ?_)
  have fr2 : ∀ h1, Fr h h1 sz [a, e] → LV G h1 a2 e2 L2 ∧ h1 s = some (gO 1 [.ref a, .ref t]) ∧ h1 s2 = some (gO 1 [.ref a2, .ref t2]) ∧ TV h1 t c f ∧ TV h1 t2 c2 f2 ∧ ∀ y ∈ L2, VA h1 V y := by
    intro h1 hF
    refine ⟨hL2.keep ?_ (fun ⟨x, hx⟩ => ?_) (fun y hy => ?_), hL.fr wf hdce hF hs (by simp) (by simp), hL.fr wf hdce hF hs2 (by simp) (by simp), TV.fr hL wf hdce hF hT, TV.fr hL wf hdce hF hT2, fun y hy => (hA2 y hy).fr hL wf hdce hF⟩
    · refine hF a2 (wf a2 _ ha2).2 ?_
      intro q
      simp only [List.mem_cons, List.not_mem_nil, or_false] at q
      rcases q with q | q
      · exact haa q
      · obtain ⟨-, -, -, h3⟩ := hL
        rcases h3 with ⟨w, -⟩ | ⟨cap, g, w, -⟩
        · have := (wf a2 _ ha2).1; omega
        · rw [← q, ha2] at w; simp at w
    · refine hF e2 (wf e2 _ hx).2 ?_
      intro q
      simp only [List.mem_cons, List.not_mem_nil, or_false] at q
      rcases q with q | q
      · obtain ⟨-, -, -, h3⟩ := hL2
        rcases h3 with ⟨w, -⟩ | ⟨cap, g, w, -⟩
        · have := (wf a _ ha).1; omega
        · rw [q, ha] at w; simp at w
      · exact hee ⟨x, hx⟩ q
    · rw [hL.fr wf hdce hF (hA2 y hy).1 (by simp) (by simp), (hA2 y hy).1]
  have loop : ∀ m j (h1 : gHp) (sz1 e1 : Nat), j ≤ L2.length → L2.length - j < m → LV G h1 a e1 (L2.take j) → Fr h h1 sz [a, e] → (e1 = e ∨ (sz ≤ e1 ∧ e1 < sz1)) → sz ≤ sz1 → GM G l 8 48 3456 (qV (fun h' sz' => ∃ e', LV G h' a e' L2 ∧ h' c = some (gI 160 (va_cpy f2 f 0 0 160)) ∧ Fr h h' sz [a, e, c] ∧ (e' = e ∨ (sz ≤ e' ∧ e' < sz')) ∧ sz ≤ sz')) M_C_become 9 [some (.ref s), some (.ref s2), some (.int (nI j))] [] h1 sz1 j (72 * j) := by
    intro m
    induction m with
    | zero => intro j _ _ _ _ hj; exact absurd hj (Nat.not_lt_zero _)
    | succ m ih =>
      intro j h1 sz1 e1 hj hm hL1 hF he1 hsz1
      obtain ⟨hL21, hs1, hs21, hT1, hT21, hA21⟩ := fr2 h1 hF
      obtain ⟨mo1, ha1⟩ := hL1.1
      obtain ⟨mo21, ha21⟩ := hL21.1
      have ht1 := hT1.1
      refine gw_il2 d_C_become_9 ?_
      refine gw_al1 d_C_become_10 ?_
      refine gw_get d_C_become_11 (by assumption) (by rfl) ?_
      refine gw_rV0 d_C_become_14 cs_C_become_14 ha21 (c_A_size hL21) ?_ (hcs := by show j ≤ 48; omega) (hss := by show 72 * j ≤ 3456; omega)
      refine gw_icge d_C_become_17 (fun c_17 => ?_) (fun c_17 => ?_)
      · refine gw_al0 d_C_become_45 ?_
        refine gw_get d_C_become_46 (by assumption) (by rfl) ?_
        refine gw_al1 d_C_become_49 ?_
        refine gw_get d_C_become_50 (by assumption) (by rfl) ?_
        have q4 := n_le c_17 (by omega) (by omega); obtain rfl : j = L2.length := (by omega); rw [List.take_length] at hL1; refine gw_vV1 d_C_become_53 cs_C_become_53 ht1 (c_T_become hT1 hT21) (fun h2 sz2 hp hz => ?_) (hcs := by show L2.length + 0 ≤ 48; omega) (hss := by show 72 * L2.length + 0 ≤ 3456; omega); obtain ⟨w4, w5⟩ := hp; subst w4; subst w5
        exact gw_vret d_C_become_56 rfl (by omega) (by omega) ⟨rfl, e1, LV.other hL1 hT1.2 (by simp) (by simp), gUp_self _ _ _, (hF.mono (by simp)).up (Or.inl (by simp)), he1, hsz1⟩
      · refine gw_al0 d_C_become_20 ?_
        refine gw_get d_C_become_21 (by assumption) (by rfl) ?_
        refine gw_al1 d_C_become_24 ?_
        refine gw_get d_C_become_25 (by assumption) (by rfl) ?_
        refine gw_il2 d_C_become_28 ?_
        have hlt := n_nle c_17 (by omega) (by omega); obtain ⟨y, hy⟩ := get_ex hlt; have hyA := hA21 y (List.mem_of_getElem? hy); have hy1 := hyA.1; refine gw_rV1 d_C_become_29 cs_C_become_29 ha21 (c_A_get hL21 hy) ?_ (hcs := by show j ≤ 48; omega) (hss := by show 72 * j ≤ 3456; omega)
        refine gw_castV d_C_become_32 cl_C_become_32 (by assumption) ?_
        refine gw_cV1 d_C_become_35 cs_C_become_35 ha1 (c_A_add hL1 (by simp; omega) hyA.1) (fun v h2 sz2 hp hz => ?_) (fun E h2 sz2 hp _ => by cases hp.1) (hcs := by show j + 1 ≤ 48; omega) (hss := by show 72 * j + 72 ≤ 3456; omega); obtain ⟨w1, e', w2, w3, w4, w5⟩ := hp; cases w1; rw [← take_s hy] at w2
        refine gw_pop d_C_become_38 rfl ?_
        obtain ⟨z1, z2⟩ := gLP_step hF he1 hsz1 w3 w4 w5; exact gw_ii2 d_C_become_39 (by rw [n_s]; exact gw_goto d_C_become_42 (ih (j + 1) h2 sz2 e' (by omega) (by omega) w2 z1 z2 (by omega)))
  refine gw_al0 d_C_become_0 ?_
  refine gw_get d_C_become_1 (by assumption) (by rfl) ?_
  refine gw_vV0 d_C_become_4 cs_C_become_4 ha (c_A_clear hL) (fun h1 sz1 hp hz => ?_); obtain ⟨w1, w2, w3⟩ := hp; subst w3
  refine gw_push d_C_become_7 ?_
  refine gw_is2 d_C_become_8 ?_
  exact loop (L2.length + 1) 0 h1 _ e (by omega) (by omega) w1 w2 (Or.inl rfl) (Nat.le_refl _)
end Cart
/-- where the class's cells lie -/
abbrev gLay : Type := Nat × Nat × Nat × (Nat → Nat) × (Nat → Nat) × (Nat → Nat) × (Nat → Nat) × (Nat → Nat)
def lFo (Y : gLay) : Nat := Y.1
def lSa (Y : gLay) : Nat := Y.2.1
def lCa (Y : gLay) : Nat := Y.2.2.1
def lLa (Y : gLay) : Nat → Nat := Y.2.2.2.1
def lTa (Y : gLay) : Nat → Nat := Y.2.2.2.2.1
def lTc (Y : gLay) : Nat → Nat := Y.2.2.2.2.2.1
def lSo (Y : gLay) : Nat → Nat := Y.2.2.2.2.2.2.1
def lCo (Y : gLay) : Nat → Nat := Y.2.2.2.2.2.2.2
/-- the class's world: lists 0..3 stand at stations, 4..6 are rows of cartridges, 7 is to be loaded; tables 0..6 likewise -/
def CI (G : gG) (V : gV) (Y : gLay) (h : gHp) (el : Nat → Nat) (LL : Nat → List Nat) (F : Nat → Nat → Int32) (lo : Int32) : Prop :=
  h (lFo Y) = some (gO 5 [.ref (lSa Y), .ref (lCa Y), .ref (lLa Y 7), .int lo]) ∧ (∃ fS, h (lSa Y) = some (gR 2 4 fS) ∧ ∀ i, i < 4 → fS i = some (lSo Y i)) ∧ (∃ fC, h (lCa Y) = some (gR 3 3 fC) ∧ ∀ i, i < 3 → fC i = some (lCo Y i)) ∧
  (∀ i, i < 4 → h (lSo Y i) = some (gO 2 [.int (nI i), .ref (lLa Y i), .ref (lTa Y i)])) ∧ (∀ i, i < 3 → h (lCo Y i) = some (gO 1 [.ref (lLa Y (4 + i)), .ref (lTa Y (4 + i))])) ∧
  (∀ i, i < 8 → LV G h (lLa Y i) (el i) (LL i)) ∧ (∀ i, i < 7 → TV h (lTa Y i) (lTc Y i) (F i)) ∧
  (∀ i j, i < 8 → j < 8 → lLa Y i = lLa Y j → i = j) ∧ (∀ i j, i < 8 → j < 8 → i ≠ j → el i = el j → el i = gDce G) ∧ (∀ i j, i < 7 → j < 7 → lTc Y i = lTc Y j → i = j) ∧ (∀ i, i < 8 → ∀ x ∈ LL i, VA h V x)
section World
variable {G : gG} {V : gV} {Y : gLay} {h h1 : gHp} {el : Nat → Nat} {LL : Nat → List Nat} {F : Nat → Nat → Int32} {lo : Int32} {sz : Nat}
theorem CI.sv (hC : CI G V Y h el LL F lo) {i : Nat} (hi : i < 4) : SV G V h (lSo Y i) i (lLa Y i) (el i) (LL i) (lTa Y i) (lTc Y i) (F i) := by
  obtain ⟨c1, c2, c3, c4, c5, c6, c7, c8, c9, c10, c11⟩ := hC
  exact ⟨c4 i hi, c6 i (by omega), c7 i (by omega), hi, c11 i (by omega)⟩
theorem CI.cv (hC : CI G V Y h el LL F lo) {i : Nat} (hi : i < 3) : CV G V h (lCo Y i) (lLa Y (4 + i)) (el (4 + i)) (LL (4 + i)) (lTa Y (4 + i)) (lTc Y (4 + i)) (F (4 + i)) := by
  obtain ⟨c1, c2, c3, c4, c5, c6, c7, c8, c9, c10, c11⟩ := hC
  exact ⟨c5 i hi, c6 _ (by omega), c7 _ (by omega), c11 _ (by omega)⟩
/-- one list has changed -/
theorem CI.list (hC : CI G V Y h el LL F lo) (wf : ∀ a e, h a = some e → gBase G ≤ a ∧ a < sz) (hdce : gDce G < gBase G) {k : Nat} (hk : k < 8) {e' : Nat} {L' : List Nat} (hL : LV G h1 (lLa Y k) e' L') (hF : Fr h h1 sz [lLa Y k, el k]) (he : e' = el k ∨ sz ≤ e') (hV : ∀ x ∈ L', VA h V x) : CI G V Y h1 (va_up el k e') (va_up LL k L') F lo := by
  obtain ⟨c1, ⟨fS, c2, c2b⟩, ⟨fC, c3, c3b⟩, c4, c5, c6, c7, c8, c9, c10, c11⟩ := hC
  have hLk := c6 k hk
  have keep : ∀ {b : Nat} {E : gE}, h b = some E → (∀ fs, E ≠ gO 0 fs) → (∀ n g, E ≠ gR 4 n g) → h1 b = some E := fun hb q1 q2 => hLk.fr wf hdce hF hb q1 q2
  refine ⟨keep c1 (by simp) (by simp), ⟨fS, keep c2 (by simp) (by simp), c2b⟩, ⟨fC, keep c3 (by simp) (by simp), c3b⟩, fun i hi => keep (c4 i hi) (by simp) (by simp), fun i hi => keep (c5 i hi) (by simp) (by simp), fun i hi => ?_, fun i hi => TV.fr hLk wf hdce hF (c7 i hi), c8, fun i j hi hj hij hee => ?_, c10, fun i hi x hx => ?_⟩
  · by_cases hik : i = k
    · subst hik; rw [va_up_self, va_up_self]; exact hL
    · rw [va_up_ne _ _ hik, va_up_ne _ _ hik]
      have hLi := c6 i hi
      obtain ⟨mo, hai⟩ := hLi.1
      obtain ⟨mok, hak⟩ := hLk.1
      refine hLi.keep (hF _ (wf _ _ hai).2 ?_) (fun ⟨x, hx⟩ => hF _ (wf _ _ hx).2 ?_) (fun y hy => ?_)
      · intro q
        simp only [List.mem_cons, List.not_mem_nil, or_false] at q
        rcases q with q | q
        · exact hik (c8 i k hi hk q)
        · obtain ⟨-, -, -, h3⟩ := hLk
          rcases h3 with ⟨w, -⟩ | ⟨cap, g, w, -⟩
          · have := (wf _ _ hai).1; omega
          · rw [← q, hai] at w; simp at w
      · intro q
        simp only [List.mem_cons, List.not_mem_nil, or_false] at q
        rcases q with q | q
        · obtain ⟨-, -, -, h3⟩ := hLi
          rcases h3 with ⟨w, -⟩ | ⟨cap, g, w, -⟩
          · have := (wf _ _ hak).1; omega
          · rw [q, hak] at w; simp at w
        · have := c9 i k hi hk hik q
          have := (wf _ _ hx).1
          omega
      · obtain ⟨fs, hfs⟩ := hLi.2.2.1 y hy
        rw [keep hfs (by simp) (by simp), hfs]
  · have old : ∀ i, i < 8 → el i < sz ∨ el i = gDce G := by
      intro i hi
      obtain ⟨-, -, -, h3⟩ := c6 i hi
      rcases h3 with ⟨w, -⟩ | ⟨cap, g, w, -⟩
      · exact Or.inr w
      · exact Or.inl (wf _ _ w).2
    have hbs : gBase G ≤ sz := by have := wf _ _ c1; omega
    by_cases hik : i = k
    · subst hik
      rw [va_up_self] at hee ⊢
      rw [va_up_ne _ _ (Ne.symm hij)] at hee
      rcases he with q | q
      · rw [q] at hee ⊢; exact c9 i j hi hj hij hee
      · rcases old j hj with w | w
        · omega
        · omega
    · rw [va_up_ne _ _ hik] at hee ⊢
      by_cases hjk : j = k
      · subst hjk
        rw [va_up_self] at hee
        rcases he with q | q
        · rw [q] at hee; exact c9 i j hi hj hij hee
        · rcases old i hi with w | w
          · omega
          · exact w
      · rw [va_up_ne _ _ hjk] at hee
        exact c9 i j hi hj hij hee
  · by_cases hik : i = k
    · subst hik; rw [va_up_self] at hx; exact (hV x hx).fr hLk wf hdce hF
    · rw [va_up_ne _ _ hik] at hx; exact (c11 i hi x hx).fr hLk wf hdce hF
/-- one table has changed -/
theorem CI.table (hC : CI G V Y h el LL F lo) {k : Nat} (hk : k < 7) {f' : Nat → Int32} : CI G V Y (gUp h (lTc Y k) (gI 160 f')) el LL (va_up F k f') lo := by
  obtain ⟨c1, ⟨fS, c2, c2b⟩, ⟨fC, c3, c3b⟩, c4, c5, c6, c7, c8, c9, c10, c11⟩ := hC
  have hck := (c7 k hk).2
  have keep : ∀ {b : Nat} {E : gE}, h b = some E → (∀ f, E ≠ gI 160 f) → (gUp h (lTc Y k) (gI 160 f')) b = some E := by
    intro b E hb q
    rw [gUp_ne]
    · exact hb
    · rintro rfl; rw [hck] at hb; exact q _ (Option.some.inj hb).symm
  refine ⟨keep c1 (by simp), ⟨fS, keep c2 (by simp), c2b⟩, ⟨fC, keep c3 (by simp), c3b⟩, fun i hi => keep (c4 i hi) (by simp), fun i hi => keep (c5 i hi) (by simp), fun i hi => (c6 i hi).other hck (by simp) (by simp), fun i hi => ?_, c8, c9, c10, fun i hi x hx => ⟨keep (c11 i hi x hx).1 (by simp), keep (c11 i hi x hx).2.1 (by simp), (c11 i hi x hx).2.2⟩⟩
  refine ⟨keep (c7 i hi).1 (by simp), ?_⟩
  by_cases hik : i = k
  · subst hik; rw [gUp_self, va_up_self]
  · rw [va_up_ne _ _ hik, gUp_ne _ _ (fun q => hik (c10 i k hi hk q))]
    exact (c7 i hi).2
/-- the number of those left out -/
theorem CI.left (hC : CI G V Y h el LL F lo) {lo' : Int32} : CI G V Y (gUp h (lFo Y) (gO 5 [.ref (lSa Y), .ref (lCa Y), .ref (lLa Y 7), .int lo'])) el LL F lo' := by
  obtain ⟨c1, ⟨fS, c2, c2b⟩, ⟨fC, c3, c3b⟩, c4, c5, c6, c7, c8, c9, c10, c11⟩ := hC
  have keep : ∀ {b : Nat} {E : gE}, h b = some E → (∀ fs, E ≠ gO 5 fs) → (gUp h (lFo Y) (gO 5 [.ref (lSa Y), .ref (lCa Y), .ref (lLa Y 7), .int lo'])) b = some E := by
    intro b E hb q
    rw [gUp_ne]
    · exact hb
    · rintro rfl; rw [c1] at hb; exact q _ (Option.some.inj hb).symm
  exact ⟨gUp_self _ _ _, ⟨fS, keep c2 (by simp), c2b⟩, ⟨fC, keep c3 (by simp), c3b⟩, fun i hi => keep (c4 i hi) (by simp), fun i hi => keep (c5 i hi) (by simp), fun i hi => (c6 i hi).other c1 (by simp) (by simp), fun i hi => ⟨keep (c7 i hi).1 (by simp), keep (c7 i hi).2 (by simp)⟩, c8, c9, c10, fun i hi x hx => ⟨keep (c11 i hi x hx).1 (by simp), keep (c11 i hi x hx).2.1 (by simp), (c11 i hi x hx).2.2⟩⟩
/-- new cells have come, versions may be told anew -/
theorem CI.ext {V' : gV} (hC : CI G V Y h el LL F lo) (hF : ∀ b E, h b = some E → h1 b = some E) (hV : ∀ i, i < 8 → ∀ x ∈ LL i, VA h1 V' x) : CI G V' Y h1 el LL F lo := by
  obtain ⟨c1, ⟨fS, c2, c2b⟩, ⟨fC, c3, c3b⟩, c4, c5, c6, c7, c8, c9, c10, c11⟩ := hC
  refine ⟨hF _ _ c1, ⟨fS, hF _ _ c2, c2b⟩, ⟨fC, hF _ _ c3, c3b⟩, fun i hi => hF _ _ (c4 i hi), fun i hi => hF _ _ (c5 i hi), fun i hi => ?_, fun i hi => ⟨hF _ _ (c7 i hi).1, hF _ _ (c7 i hi).2⟩, c8, c9, c10, hV⟩
  obtain ⟨mo, ha⟩ := (c6 i hi).1
  refine (c6 i hi).keep (by rw [ha]; exact hF _ _ ha) (fun ⟨x, hx⟩ => by rw [hx]; exact hF _ _ hx) (fun y hy => ?_)
  obtain ⟨fs, hfs⟩ := (c6 i hi).2.2.1 y hy
  rw [hfs]; exact hF _ _ hfs
end World
