/-! ===== FolderRounds: the constructor ===== -/
def SBk (G : gG) (h : gHp) (b i : Nat) : Prop := h b = some (gO 2 [.int (nI i), .ref (b + 1), .ref (b + 2)]) ∧ (∃ mo : Int32, h (b + 1) = some (gO 0 [.int mo, .ref (gDce G), .int (nI 0)])) ∧ h (b + 2) = some (gO 3 [.ref (b + 3)]) ∧ h (b + 3) = some (gI 160 (fun _ => 0))
def CBk (G : gG) (h : gHp) (b : Nat) : Prop := h b = some (gO 1 [.ref (b + 1), .ref (b + 2)]) ∧ (∃ mo : Int32, h (b + 1) = some (gO 0 [.int mo, .ref (gDce G), .int (nI 0)])) ∧ h (b + 2) = some (gO 3 [.ref (b + 3)]) ∧ h (b + 3) = some (gI 160 (fun _ => 0))
theorem SBk.keep {G : gG} {h h1 : gHp} {b i : Nat} (hb : SBk G h b i) (q : ∀ c, b ≤ c → c ≤ b + 3 → h1 c = h c) : SBk G h1 b i := by
  obtain ⟨h1, ⟨mo, h2⟩, h3, h4⟩ := hb
  exact ⟨(q _ (by omega) (by omega)).trans h1, ⟨mo, (q _ (by omega) (by omega)).trans h2⟩, (q _ (by omega) (by omega)).trans h3, (q _ (by omega) (by omega)).trans h4⟩
theorem CBk.keep {G : gG} {h h1 : gHp} {b : Nat} (hb : CBk G h b) (q : ∀ c, b ≤ c → c ≤ b + 3 → h1 c = h c) : CBk G h1 b := by
  obtain ⟨h1, ⟨mo, h2⟩, h3, h4⟩ := hb
  exact ⟨(q _ (by omega) (by omega)).trans h1, ⟨mo, (q _ (by omega) (by omega)).trans h2⟩, (q _ (by omega) (by omega)).trans h3, (q _ (by omega) (by omega)).trans h4⟩
def IS (G : gG) (h : gHp) (a sz j : Nat) (h1 : gHp) : Prop := h1 a = some (gO 5 [.ref sz, .null, .null, .int 0]) ∧ (∃ fS, h1 sz = some (gR 2 4 fS) ∧ ∀ i, i < j → fS i = some (sz + 1 + 4 * i)) ∧ (∀ i, i < j → SBk G h1 (sz + 1 + 4 * i) i) ∧ Fr h h1 sz [a]
def IC (G : gG) (h : gHp) (a sz j : Nat) (h1 : gHp) : Prop := h1 a = some (gO 5 [.ref sz, .ref (sz + 17), .null, .int 0]) ∧ (∃ fS, h1 sz = some (gR 2 4 fS) ∧ ∀ i, i < 4 → fS i = some (sz + 1 + 4 * i)) ∧ (∀ i, i < 4 → SBk G h1 (sz + 1 + 4 * i) i) ∧ Fr h h1 sz [a] ∧ (∃ fC, h1 (sz + 17) = some (gR 3 3 fC) ∧ ∀ i, i < j → fC i = some (sz + 18 + 4 * i)) ∧ (∀ i, i < j → CBk G h1 (sz + 18 + 4 * i))
/-- where the constructor puts the cells -/
def layY (a sz : Nat) : gLay := (a, sz, sz + 17, (fun i => if i < 4 then sz + 2 + 4 * i else if i < 7 then sz + 3 + 4 * i else sz + 30), (fun i => if i < 4 then sz + 3 + 4 * i else sz + 4 + 4 * i), (fun i => if i < 4 then sz + 4 + 4 * i else sz + 5 + 4 * i), (fun i => sz + 1 + 4 * i), (fun i => sz + 18 + 4 * i))
section FIn
variable {G : gG} {l : Launch} {h : gHp} {a sz : Nat}
theorem IS.next {j : Nat} {h1 h2 : gHp} {fS : Nat → Option Nat} (hI : IS G h a sz j h1) (has : a < sz) (hf : h1 sz = some (gR 2 4 fS)) (hf2 : ∀ i, i < j → fS i = some (sz + 1 + 4 * i)) (hs : h2 (sz + 1 + 4 * j) = some (gO 2 [.int (nI j), .ref (sz + 1 + 4 * j + 1), .ref (sz + 1 + 4 * j + 1 + 1)])) (hL : LV G h2 (sz + 1 + 4 * j + 1) (gDce G) []) (hT : TV h2 (sz + 1 + 4 * j + 1 + 1) (sz + 1 + 4 * j + 1 + 2) (fun _ => 0)) (hF : ∀ b, b < sz + 1 + 4 * j → h2 b = h1 b) : IS G h a sz (j + 1) (gUp h2 sz (gR 2 4 (va_up fS j (some (sz + 1 + 4 * j))))) := by
  obtain ⟨i1, -, i3, i4⟩ := hI
  refine ⟨?_, ⟨_, gUp_self _ _ _, fun i hi => ?_⟩, fun i hi => ?_, fun b hb hn => ?_⟩
  · rw [gUp_ne _ _ (by omega), hF _ (by omega)]; exact i1
  · by_cases hij : i = j
    · subst hij; rw [va_up_self]
    · rw [va_up_ne _ _ hij]; exact hf2 i (by omega)
  · by_cases hij : i = j
    · subst hij
      obtain ⟨mo, hm⟩ := hL.1
      refine SBk.keep (h := h2) ⟨hs, ⟨mo, hm⟩, hT.1, hT.2⟩ (fun c q1 q2 => gUp_ne _ _ (by omega))
    · exact (i3 i (by omega)).keep (fun c q1 q2 => by rw [gUp_ne _ _ (by omega), hF _ (by omega)])
  · rw [gUp_ne _ _ (by omega), hF _ (by omega)]; exact i4 b hb hn
theorem IC.next {j : Nat} {h1 h2 : gHp} {fC : Nat → Option Nat} (hI : IC G h a sz j h1) (has : a < sz) (hf : h1 (sz + 17) = some (gR 3 3 fC)) (hf2 : ∀ i, i < j → fC i = some (sz + 18 + 4 * i)) (hs : h2 (sz + 18 + 4 * j) = some (gO 1 [.ref (sz + 18 + 4 * j + 1), .ref (sz + 18 + 4 * j + 1 + 1)])) (hL : LV G h2 (sz + 18 + 4 * j + 1) (gDce G) []) (hT : TV h2 (sz + 18 + 4 * j + 1 + 1) (sz + 18 + 4 * j + 1 + 2) (fun _ => 0)) (hF : ∀ b, b < sz + 18 + 4 * j → h2 b = h1 b) : IC G h a sz (j + 1) (gUp h2 (sz + 17) (gR 3 3 (va_up fC j (some (sz + 18 + 4 * j))))) := by
  obtain ⟨i1, ⟨fS, i2, i2b⟩, i3, i4, -, i6⟩ := hI
  refine ⟨?_, ⟨fS, ?_, i2b⟩, fun i hi => ?_, fun b hb hn => ?_, ⟨_, gUp_self _ _ _, fun i hi => ?_⟩, fun i hi => ?_⟩
  · rw [gUp_ne _ _ (by omega), hF _ (by omega)]; exact i1
  · rw [gUp_ne _ _ (by omega), hF _ (by omega)]; exact i2
  · exact (i3 i (by omega)).keep (fun c q1 q2 => by rw [gUp_ne _ _ (by omega), hF _ (by omega)])
  · rw [gUp_ne _ _ (by omega), hF _ (by omega)]; exact i4 b hb hn
  · by_cases hij : i = j
    · subst hij; rw [va_up_self]
    · rw [va_up_ne _ _ hij]; exact hf2 i (by omega)
  · by_cases hij : i = j
    · subst hij
      obtain ⟨mo, hm⟩ := hL.1
      refine CBk.keep (h := h2) ⟨hs, ⟨mo, hm⟩, hT.1, hT.2⟩ (fun c q1 q2 => gUp_ne _ _ (by omega))
    · exact (i6 i (by omega)).keep (fun c q1 q2 => by rw [gUp_ne _ _ (by omega), hF _ (by omega)])
theorem IC.made {h1 : gHp} (hI : IC G h a sz 3 h1) (has : a < sz) {mo : Int32} {lo : Int32} (h30 : h1 (sz + 30) = some (gO 0 [.int mo, .ref (gDce G), .int 0])) {h2 : gHp} (hh2 : h2 = gUp h1 a (gO 5 [.ref sz, .ref (sz + 17), .ref (sz + 30), .int lo])) (V : gV) : CI G V (layY a sz) h2 (fun _ => gDce G) (fun _ => []) (fun _ _ => 0) lo ∧ Fr h h2 sz [a] := by
  obtain ⟨i1, ⟨fS, i2, i2b⟩, i3, i4, ⟨fC, i5, i5b⟩, i6⟩ := hI
  have kp : ∀ b, b ≠ a → h2 b = h1 b := fun b hb => by rw [hh2]; exact gUp_ne _ _ hb
  have i3' : ∀ i, i < 4 → SBk G h2 (sz + 1 + 4 * i) i := fun i hi => (i3 i hi).keep (fun c q1 q2 => kp _ (by omega))
  have i6' : ∀ i, i < 3 → CBk G h2 (sz + 18 + 4 * i) := fun i hi => (i6 i hi).keep (fun c q1 q2 => kp _ (by omega))
  have hLa : ∀ i, lLa (layY a sz) i = if i < 4 then sz + 2 + 4 * i else if i < 7 then sz + 3 + 4 * i else sz + 30 := fun _ => rfl
  have hTa : ∀ i, lTa (layY a sz) i = if i < 4 then sz + 3 + 4 * i else sz + 4 + 4 * i := fun _ => rfl
  have hTc : ∀ i, lTc (layY a sz) i = if i < 4 then sz + 4 + 4 * i else sz + 5 + 4 * i := fun _ => rfl
  have hSo : ∀ i, lSo (layY a sz) i = sz + 1 + 4 * i := fun _ => rfl
  have hCo : ∀ i, lCo (layY a sz) i = sz + 18 + 4 * i := fun _ => rfl
  refine ⟨⟨?_, ⟨fS, (kp _ (show sz ≠ a by omega)).trans i2, fun i hi => i2b i hi⟩, ⟨fC, (kp _ (show sz + 17 ≠ a by omega)).trans i5, fun i hi => i5b i hi⟩, fun i hi => ?_, fun i hi => ?_, fun i hi => ?_, fun i hi => ?_, fun i j hi hj q => ?_, fun i j hi hj q1 q2 => rfl, fun i j hi hj q => ?_, fun i hi x hx => by cases hx⟩, fun b hb hn => ?_⟩
  · rw [hh2]; exact gUp_self _ _ _
  · rw [hSo, hLa, hTa, if_pos hi, if_pos hi]
    have := (i3' i hi).1
    rw [show sz + 1 + 4 * i + 1 = sz + 2 + 4 * i by omega, show sz + 1 + 4 * i + 2 = sz + 3 + 4 * i by omega] at this
    exact this
  · rw [hCo, hLa, hTa, if_neg (by omega), if_pos (by omega), if_neg (by omega)]
    have := (i6' i hi).1
    rw [show sz + 18 + 4 * i + 1 = sz + 3 + 4 * (4 + i) by omega, show sz + 18 + 4 * i + 2 = sz + 4 + 4 * (4 + i) by omega] at this
    exact this
  · have e : ∃ mo : Int32, h2 (lLa (layY a sz) i) = some (gO 0 [.int mo, .ref (gDce G), .int (nI 0)]) := by
      rw [hLa]
      split
      · rename_i q
        have := (i3' i q).2.1
        rwa [show sz + 1 + 4 * i + 1 = sz + 2 + 4 * i by omega] at this
      · split
        · have := (i6' (i - 4) (by omega)).2.1
          rwa [show sz + 18 + 4 * (i - 4) + 1 = sz + 3 + 4 * i by omega] at this
        · exact ⟨mo, (kp _ (by omega)).trans h30⟩
    obtain ⟨mo1, e⟩ := e
    exact ⟨⟨mo1, e⟩, by simp, by simp, Or.inl ⟨rfl, rfl⟩⟩
  · rw [hTa, hTc]
    split
    · rename_i q
      have z := (i3' i q).2.2
      rw [show sz + 1 + 4 * i + 2 = sz + 3 + 4 * i by omega, show sz + 1 + 4 * i + 3 = sz + 4 + 4 * i by omega] at z
      exact ⟨z.1, z.2⟩
    · have z := (i6' (i - 4) (by omega)).2.2
      rw [show sz + 18 + 4 * (i - 4) + 2 = sz + 4 + 4 * i by omega, show sz + 18 + 4 * (i - 4) + 3 = sz + 5 + 4 * i by omega] at z
      exact ⟨z.1, z.2⟩
  · rw [hLa, hLa] at q
    split at q <;> split at q <;> (try split at q) <;> (try split at q) <;> omega
  · rw [hTc, hTc] at q
    split at q <;> split at q <;> omega
  · rw [kp b (fun z => hn (by rw [z]; simp))]; exact i4 b hb hn
theorem c_F_init (ha : h a = some (gO 5 [.null, .null, .null, .int 0])) : SM G l 5 y_F_init M_F_init [.ref a] h sz 31 1176 (qV (fun h' sz' => (∀ V : gV, CI G V (layY a sz) h' (fun _ => gDce G) (fun _ => []) (fun _ _ => 0) 0) ∧ Fr h h' sz [a] ∧ sz' = sz + 31)) := by
  refine SM.of (lv0 := [some (.ref a), none]) (by decide +kernel) rfl ⟨rfl, rfl⟩ rfl (by simp [Value.category]) (Nat.le_of_ble_eq_true rfl) ?_
  refine GW.wf (fun wf => ?_)
  have has := (wf a _ ha).2
  have loop2 : ∀ m j (h1 : gHp), j ≤ 3 → 3 - j < m → IC G h a sz j h1 → GM G l 5 31 1176 (qV (fun h' sz' => (∀ V : gV, CI G V (layY a sz) h' (fun _ => gDce G) (fun _ => []) (fun _ _ => 0) 0) ∧ Fr h h' sz [a] ∧ sz' = sz + 31)) M_F_init 49 [some (.ref a), some (.int (nI j))] [] h1 (sz + 18 + 4 * j) (18 + 4 * j) (675 + 166 * j) := by
    intro m
    induction m with
    | zero => intro j _ _ hj; exact absurd hj (Nat.not_lt_zero _)
    | succ m ih =>
      intro j h1 hj hm hI
      have hI0 := hI
      obtain ⟨i1, -, -, -, ⟨fC, i5, i5b⟩, -⟩ := hI
      refine gw_il1 d_F_init_49 ?_
      refine gw_push d_F_init_50 ?_
      refine gw_icge d_F_init_51 (fun c_51 => ?_) (fun c_51 => ?_)
      · refine gw_al0 d_F_init_73 ?_
        have q4 := n_le (a := 3) c_51 (by decide) (by omega); obtain rfl : j = 3 := (by omega); refine gw_new [.int 0, .null, .int 0] d_F_init_74 nw_F_init_74 (Nat.le_of_ble_eq_true rfl) (Nat.le_of_ble_eq_true rfl) ?_
        refine gw_dup d_F_init_77 rfl ?_
        refine gw_cI0 d_F_init_78 cs_F_init_78 (c_A_init (v2 := .null) (gUp_self _ _ _)) (fun h2 sz2 hp hz => ?_); obtain ⟨w4, w5⟩ := hp; subst w4; subst w5; rw [gUp_gUp]
        refine gw_pf2 d_F_init_81 ((gUp_ne _ _ (by omega)).trans i1) rfl rfl ?_
        refine gw_al0 d_F_init_84 ?_
        refine gw_push d_F_init_85 ?_
        refine gw_pf3 d_F_init_86 (gUp_self _ _ _) rfl rfl ?_; rw [gUp_gUp]
        have hI1 : IC G h a sz 3 (gUp h1 (sz + 30) (gO 0 [.int 0, .ref (gDce G), .int 0])) := (by obtain ⟨j1, ⟨fS, j2, j2b⟩, j3, j4, ⟨fC2, j5, j5b⟩, j6⟩ := hI0; exact ⟨(gUp_ne _ _ (by omega)).trans j1, ⟨fS, (gUp_ne _ _ (by omega)).trans j2, j2b⟩, fun i hi => (j3 i hi).keep (fun c q1 q2 => gUp_ne _ _ (by omega)), fun b hb hn => (gUp_ne _ _ (by omega)).trans (j4 b hb hn), ⟨fC2, (gUp_ne _ _ (by omega)).trans j5, j5b⟩, fun i hi => (j6 i hi).keep (fun c q1 q2 => gUp_ne _ _ (by omega))⟩); exact gw_vret d_F_init_89 rfl (by decide) (by decide) ⟨rfl, fun V => (hI1.made has (mo := 0) (gUp_self _ _ _) rfl V).1, (hI1.made has (mo := 0) (gUp_self _ _ _) rfl (fun _ => 0, fun _ => 0, fun _ => 0, fun _ => 0, fun _ _ => 0)).2, rfl⟩
      · refine gw_al0 d_F_init_54 ?_
        refine gw_get d_F_init_55 (by assumption) (by rfl) ?_
        refine gw_il1 d_F_init_58 ?_
        have hlt := n_nle (a := 3) c_51 (by decide) (by omega); refine gw_new [.null, .null] d_F_init_59 nw_F_init_59 (by show 18 + 4 * j + 1 ≤ 31; omega) (by show 675 + 166 * j + 2 ≤ 1176; omega) ?_
        refine gw_dup d_F_init_62 rfl ?_
        refine gw_cI0 d_F_init_63 cs_F_init_63 (c_C_init (gUp_self _ _ _)) (fun h2 sz2 hp hz => ?_) (hcs := by show 18 + 4 * j + 1 + 3 ≤ 31; omega) (hss := by show 675 + 166 * j + 2 + 164 ≤ 1176; omega); obtain ⟨w1, w2, w3, w4, w5⟩ := hp; subst w5; have w4' : ∀ b, b < sz + 18 + 4 * j → h2 b = h1 b := (fun b hb => (w4 b (by omega) (by simp; omega)).trans (gUp_ne _ _ (by omega)))
        refine gw_aast d_F_init_66 ((w4' _ (by omega)).trans i5) w1 (Or.inr (Or.inl ⟨rfl, rfl⟩)) j rfl hlt (by omega) ?_
        exact gw_ii1 d_F_init_67 (by rw [n_s]; exact GW.widen (k' := 18 + 4 * (j + 1)) (w' := 675 + 166 * (j + 1)) (by omega) (by show 675 + 166 * j + 2 + 164 ≤ _; omega) (gw_goto d_F_init_70 (by have z := ih (j + 1) _ (by omega) (by omega) (hI0.next has i5 i5b w1 w2 w3 w4'); rw [show sz + 18 + 4 * (j + 1) = sz + 18 + 4 * j + 1 + 3 by omega] at z; exact z)))
  have loop1 : ∀ m j (h1 : gHp), j ≤ 4 → 4 - j < m → IS G h a sz j h1 → GM G l 5 31 1176 (qV (fun h' sz' => (∀ V : gV, CI G V (layY a sz) h' (fun _ => gDce G) (fun _ => []) (fun _ _ => 0) 0) ∧ Fr h h' sz [a] ∧ sz' = sz + 31)) M_F_init 14 [some (.ref a), some (.int (nI j))] [] h1 (sz + 1 + 4 * j) (1 + 4 * j) (4 + 167 * j) := by
    intro m
    induction m with
    | zero => intro j _ _ hj; exact absurd hj (Nat.not_lt_zero _)
    | succ m ih =>
      intro j h1 hj hm hI
      have hI0 := hI
      obtain ⟨i1, ⟨fS, i2, i2b⟩, i3, i4⟩ := hI
      refine gw_il1 d_F_init_14 ?_
      refine gw_push d_F_init_15 ?_
      refine gw_icge d_F_init_16 (fun c_16 => ?_) (fun c_16 => ?_)
      · refine gw_al0 d_F_init_39 ?_
        refine gw_push d_F_init_40 ?_
        have q4 := n_le (a := 4) c_16 (by decide) (by omega); obtain rfl : j = 4 := (by omega); refine gw_newR d_F_init_41 (Or.inr (Or.inl ⟨rfl, rfl⟩)) cl_F_init_41 3 rfl (by decide) (Nat.le_of_ble_eq_true rfl) (Nat.le_of_ble_eq_true rfl) ?_
        refine gw_pf1 d_F_init_44 ((gUp_ne _ _ (by omega)).trans i1) rfl rfl ?_
        refine gw_push d_F_init_47 ?_
        refine gw_is1 d_F_init_48 ?_
        refine loop2 4 0 _ (by omega) (by omega) ⟨gUp_self _ _ _, ⟨fS, ?_, i2b⟩, fun i hi => (i3 i hi).keep (fun c q1 q2 => ?_), fun b hb hn => ?_, ⟨_, (gUp_ne _ _ (by omega)).trans (gUp_self _ _ _), fun i hi => absurd hi (Nat.not_lt_zero _)⟩, fun i hi => absurd hi (Nat.not_lt_zero _)⟩
        · rw [gUp_ne _ _ (by omega), gUp_ne _ _ (by omega)]; exact i2
        · rw [gUp_ne _ _ (by omega), gUp_ne _ _ (by omega)]
        · rw [gUp_ne _ _ (fun z => hn (by rw [z]; simp)), gUp_ne _ _ (by omega)]; exact i4 b hb hn
      · refine gw_al0 d_F_init_19 ?_
        refine gw_get d_F_init_20 (by assumption) (by rfl) ?_
        refine gw_il1 d_F_init_23 ?_
        have hlt := n_nle (a := 4) c_16 (by decide) (by omega); refine gw_new [.int 0, .null, .null] d_F_init_24 nw_F_init_24 (by show 1 + 4 * j + 1 ≤ 31; omega) (by show 4 + 167 * j + 3 ≤ 1176; omega) ?_
        refine gw_dup d_F_init_27 rfl ?_
        refine gw_il1 d_F_init_28 ?_
        refine gw_cI1 d_F_init_29 cs_F_init_29 (c_S_init (gUp_self _ _ _)) (fun h2 sz2 hp hz => ?_) (hcs := by show 1 + 4 * j + 1 + 3 ≤ 31; omega) (hss := by show 4 + 167 * j + 3 + 164 ≤ 1176; omega); obtain ⟨w1, w2, w3, w4, w5⟩ := hp; subst w5; have w4' : ∀ b, b < sz + 1 + 4 * j → h2 b = h1 b := (fun b hb => (w4 b (by omega) (by simp; omega)).trans (gUp_ne _ _ (by omega)))
        refine gw_aast d_F_init_32 ((w4' _ (by omega)).trans i2) w1 (Or.inl ⟨rfl, rfl⟩) j rfl hlt (by omega) ?_
        exact gw_ii1 d_F_init_33 (by rw [n_s]; exact GW.widen (k' := 1 + 4 * (j + 1)) (w' := 4 + 167 * (j + 1)) (by omega) (by show 4 + 167 * j + 3 + 164 ≤ _; omega) (gw_goto d_F_init_36 (by have z := ih (j + 1) _ (by omega) (by omega) (hI0.next has i2 i2b w1 w2 w3 w4'); rw [show sz + 1 + 4 * (j + 1) = sz + 1 + 4 * j + 1 + 3 by omega] at z; exact z)))
  refine gw_al0 d_F_init_0 ?_
  refine gw_objInit d_F_init_1 oi_F_init_1 (by decide) (Nat.le_of_ble_eq_true rfl) ?_
  refine gw_al0 d_F_init_4 ?_
  refine gw_push d_F_init_5 ?_
  refine gw_newR d_F_init_6 (Or.inl ⟨rfl, rfl⟩) cl_F_init_6 4 rfl (by decide) (Nat.le_of_ble_eq_true rfl) (Nat.le_of_ble_eq_true rfl) ?_
  refine gw_pf0 d_F_init_9 ((gUp_ne _ _ (by omega)).trans ha) rfl rfl ?_
  refine gw_push d_F_init_12 ?_
  refine gw_is1 d_F_init_13 ?_
  refine loop1 5 0 _ (by omega) (by omega) ⟨gUp_self _ _ _, ⟨_, (gUp_ne _ _ (by omega)).trans (gUp_self _ _ _), fun i hi => absurd hi (Nat.not_lt_zero _)⟩, fun i hi => absurd hi (Nat.not_lt_zero _), fun b hb hn => ?_⟩
  rw [gUp_ne _ _ (fun z => hn (by rw [z]; simp)), gUp_ne _ _ (by omega)]
end FIn
