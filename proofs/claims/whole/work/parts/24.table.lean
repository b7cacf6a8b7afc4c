/-! ===== Table: contracts ===== -/
def TV (h : gHp) (t c : Nat) (f : Nat → Int32) : Prop := h t = some (gO 3 [.ref c]) ∧ h c = some (gI 160 f)
def jnV (f : Nat → Int32) (p : Nat) (v : Nat → Int32) (n : Nat) : Nat → Int32 := fun i => if p ≤ i ∧ i < p + n then mxI (f i) (v (i - p)) else f i
theorem jnV_0 (f : Nat → Int32) (p : Nat) (v : Nat → Int32) : jnV f p v 0 = f := by
  funext i
  unfold jnV
  rw [if_neg (by omega)]
theorem jnV_s (f : Nat → Int32) (p : Nat) (v : Nat → Int32) (n : Nat) : upd (jnV f p v n) (p + n) (mxI (jnV f p v n (p + n)) (v n)) = jnV f p v (n + 1) := by
  funext i
  by_cases q : i = p + n
  · subst q
    rw [pk_us]
    unfold jnV
    rw [if_neg (by omega), if_pos (by omega), show p + n - p = n by omega]
  · rw [pk_un q]
    unfold jnV
    by_cases q2 : p ≤ i ∧ i < p + n
    · rw [if_pos q2, if_pos (by omega)]
    · rw [if_neg q2, if_neg (by omega)]
theorem n_lit (n : Nat) : (OfNat.ofNat n : Int32) = nI n := rfl
section Tab
variable {G : gG} {l : Launch} {h : gHp} {sz : Nat} {t c : Nat} {f : Nat → Int32} {x q : Nat} {n fl : Int32} {dd : Nat} {vec : Nat → Int32}
theorem c_J_checkLength {p : Nat} (hp : p < 1000) : SM G l 1 y_J_checkLength M_J_checkLength [.int (nI p), .int (nI (p + 4))] h sz 0 0 (qV (fun h' sz' => h' = h ∧ sz' = sz)) := by
  refine SM.of (lv0 := [some (.int (nI p)), some (.int (nI (p + 4)))]) (by decide +kernel) rfl ⟨rfl, rfl⟩ rfl (by simp [Value.category]) (Nat.le_of_ble_eq_true rfl) ?_
  refine gw_il1 d_J_checkLength_0 ?_
  refine gw_il0 d_J_checkLength_1 ?_
  refine gw_icge d_J_checkLength_2 (fun c_2 => ?_) (fun c_2 => absurd (nI_le (by omega) (by omega)) c_2)
  exact gw_vret d_J_checkLength_37 rfl (Nat.le_refl _) (Nat.le_refl _) ⟨rfl, rfl, rfl⟩
theorem c_J_copyOfRangeInt {a p N : Nat} {g : Nat → Int32} (hA : h a = some (gI N g)) (hp : p + 4 ≤ N) (hN : N ≤ 1000) : SM G l 2 y_J_copyOfRangeInt M_J_copyOfRangeInt [.ref a, .int (nI p), .int (nI (p + 4))] h sz 1 4 (fun r h' sz' => r = .inl (some (.ref sz)) ∧ h' = gUp h sz (gI 4 (va_cpy g (fun _ => 0) p 0 4)) ∧ sz' = sz + 1) := by
  refine SM.of (lv0 := [some (.ref a), some (.int (nI p)), some (.int (nI (p + 4))), none, none]) (by decide +kernel) rfl ⟨rfl, rfl⟩ rfl (by simp [Value.category]) (Nat.le_of_ble_eq_true rfl) ?_
  refine GW.wf (fun wf => ?_)
  have hes := (wf a _ hA).2
  refine gw_il1 d_J_copyOfRangeInt_0 ?_
  refine gw_il2 d_J_copyOfRangeInt_1 ?_
  refine gw_vS2 d_J_copyOfRangeInt_2 cs_J_copyOfRangeInt_2 (c_J_checkLength (by omega)) (fun h' sz' hp9 hz => ?_); obtain ⟨w8, w9⟩ := hp9; subst w8 w9
  refine gw_il2 d_J_copyOfRangeInt_5 ?_
  refine gw_il1 d_J_copyOfRangeInt_6 ?_
  refine gw_isub d_J_copyOfRangeInt_7 ?_; rw [pk_sub (by omega), show p + 4 - p = 4 by omega]
  refine gw_is3 d_J_copyOfRangeInt_8 ?_
  refine gw_il3 d_J_copyOfRangeInt_9 ?_
  refine gw_newI d_J_copyOfRangeInt_10 gw_aI 4 rfl (by omega) (Nat.le_of_ble_eq_true rfl) (Nat.le_of_ble_eq_true rfl) ?_
  refine gw_as4 d_J_copyOfRangeInt_12 ?_
  refine gw_al0 d_J_copyOfRangeInt_14 ?_
  refine gw_il1 d_J_copyOfRangeInt_15 ?_
  refine gw_al4 d_J_copyOfRangeInt_16 ?_
  refine gw_push d_J_copyOfRangeInt_18 ?_
  refine gw_al0 d_J_copyOfRangeInt_19 ?_
  refine gw_alenI d_J_copyOfRangeInt_20 ((gUp_ne _ _ (by omega)).trans hA) ?_
  refine gw_il1 d_J_copyOfRangeInt_21 ?_
  refine gw_isub d_J_copyOfRangeInt_22 ?_; rw [pk_sub (by omega)]
  refine gw_il3 d_J_copyOfRangeInt_23 ?_
  refine gw_rS2 d_J_copyOfRangeInt_24 cs_J_copyOfRangeInt_24 c_J_min ?_; rw [mnI_n (by omega) (by omega), Nat.min_eq_right (by omega)]
  refine gw_copyI d_J_copyOfRangeInt_27 cp_J_copyOfRangeInt_27 ((gUp_ne _ _ (by omega)).trans hA) (gUp_self _ _ _) p 0 4 rfl rfl rfl (by omega) (by omega) (by omega) (by decide) (Nat.le_of_ble_eq_true rfl) ?_
  refine gw_al4 d_J_copyOfRangeInt_30 ?_
  exact gw_aret d_J_copyOfRangeInt_32 rfl (Or.inr ⟨_, rfl⟩) (Or.inr ⟨_, rfl⟩) (by omega) (by omega) ⟨rfl, by rw [gUp_gUp], rfl⟩
theorem c_J_copyOfRange {a p N : Nat} {g : Nat → Int32} (hA : h a = some (gI N g)) (hp : p + 4 ≤ N) (hN : N ≤ 1000) (hN4 : 4 < N) : SM G l 3 y_J_copyOfRange M_J_copyOfRange [.ref a, .int (nI p), .int (nI (p + 4))] h sz 1 4 (fun r h' sz' => r = .inl (some (.ref sz)) ∧ h' = gUp h sz (gI 4 (va_cpy g (fun _ => 0) p 0 4)) ∧ sz' = sz + 1) := by
  refine SM.of (lv0 := [some (.ref a), some (.int (nI p)), some (.int (nI (p + 4)))]) (by decide +kernel) rfl ⟨rfl, rfl⟩ rfl (by simp [Value.category]) (Nat.le_of_ble_eq_true rfl) ?_
  have hrest : GM G l 3 1 4 (fun r h' sz' => r = .inl (some (.ref sz)) ∧ h' = gUp h sz (gI 4 (va_cpy g (fun _ => 0) p 0 4)) ∧ sz' = sz + 1) M_J_copyOfRange 10 [some (.ref a), some (.int (nI p)), some (.int (nI (p + 4)))] [] h sz 0 0 := by
    refine gw_al0 d_J_copyOfRange_10 ?_
    refine gw_il1 d_J_copyOfRange_11 ?_
    refine gw_il2 d_J_copyOfRange_12 ?_
    refine gw_cS3 d_J_copyOfRange_13 cs_J_copyOfRange_13 (c_J_copyOfRangeInt hA hp hN) (fun v h' sz' hp hz => ?_) (fun E h' sz' hp _ => by cases hp.1); obtain ⟨w1, w2, w3⟩ := hp; cases w1
    exact gw_aret d_J_copyOfRange_16 rfl (Or.inr ⟨_, rfl⟩) (Or.inr ⟨_, rfl⟩) (by omega) (by omega) ⟨rfl, w2, w3⟩
  refine gw_il1 d_J_copyOfRange_0 ?_
  refine gw_ifne d_J_copyOfRange_1 (fun c_1 => ?_) (fun c_1 => ?_)
  · exact hrest
  · refine gw_il2 d_J_copyOfRange_4 ?_
    refine gw_al0 d_J_copyOfRange_5 ?_
    refine gw_alenI d_J_copyOfRange_6 hA ?_
    refine gw_iceq d_J_copyOfRange_7 (fun c_7 => absurd (n_eq c_7 (by omega) (by omega)) (by have := n_eq (b := 0) c_1 (by omega) (by omega); omega)) (fun c_7 => ?_)
    exact hrest
theorem c_J_fill {a N : Nat} {g : Nat → Int32} {v : Int32} (hA : h a = some (gI N g)) (hN : N ≤ 1000) : SM G l 1 y_J_fill M_J_fill [.ref a, .int v] h sz 0 0 (qV (fun h' sz' => (∃ g', h' = gUp h a (gI N g') ∧ ∀ i, i < N → g' i = v) ∧ sz' = sz)) := by
  refine SM.of (lv0 := [some (.ref a), some (.int v), none, none]) (by decide +kernel) rfl ⟨rfl, rfl⟩ rfl (by simp [Value.category]) (Nat.le_of_ble_eq_true rfl) ?_
  refine gw_push d_J_fill_0 ?_
  refine gw_is2 d_J_fill_1 ?_
  refine gw_al0 d_J_fill_2 ?_
  refine gw_alenI d_J_fill_3 hA ?_
  refine gw_is3 d_J_fill_4 ?_
  have loop : ∀ m j (h1 : gHp) (g1 : Nat → Int32), j ≤ N → N - j < m → h1 = gUp h a (gI N g1) → (∀ i, i < j → g1 i = v) → GM G l 1 0 0 (qV (fun h' sz' => (∃ g', h' = gUp h a (gI N g') ∧ ∀ i, i < N → g' i = v) ∧ sz' = sz)) M_J_fill 5 [some (.ref a), some (.int v), some (.int (nI j)), some (.int (nI N))] [] h1 sz 0 0 := by
    intro m
    induction m with
    | zero => intro j _ _ _ hj; exact absurd hj (Nat.not_lt_zero _)
    | succ m ih =>
      intro j h1 g1 hj hm p1 p2
      subst p1
      refine gw_il2 d_J_fill_5 ?_
      refine gw_il3 d_J_fill_6 ?_
      refine gw_icge d_J_fill_7 (fun c_7 => ?_) (fun c_7 => ?_)
      · exact gw_vret d_J_fill_20 rfl (Nat.le_refl _) (Nat.le_refl _) ⟨rfl, ⟨g1, rfl, fun i hi => p2 i (by have := n_le c_7 (by omega) (by omega); omega)⟩, rfl⟩
      · refine gw_al0 d_J_fill_10 ?_
        refine gw_il2 d_J_fill_11 ?_
        refine gw_il1 d_J_fill_12 ?_
        have hlt := n_nle c_7 (by omega) (by omega); refine gw_iast d_J_fill_13 (gUp_self _ _ _) j rfl (by omega) (by omega) ?_
        refine gw_ii2 d_J_fill_14 (by rw [n_s]; exact gw_goto d_J_fill_17 (ih (j + 1) _ _ (by omega) (by omega) (gUp_gUp _ _ _ _) (lt_s (fun i hi => by rw [pk_un (by omega)]; exact p2 i hi) pk_us)))
  refine loop (N + 1) 0 h g (by omega) (by omega) ?_ lt_0
  funext b
  by_cases hb : b = a
  · subst hb; rw [gUp_self]; exact hA
  · rw [gUp_ne _ _ hb]
theorem c_T_init {v0 : Value} (ht : h t = some (gO 3 [v0])) : SM G l 1 y_T_init M_T_init [.ref t] h sz 1 160 (qV (fun h' sz' => h' = gUp (gUp h sz (gI 160 (fun _ => 0))) t (gO 3 [.ref sz]) ∧ sz' = sz + 1)) := by
  refine SM.of (lv0 := [some (.ref t)]) (by decide +kernel) rfl ⟨rfl, rfl⟩ rfl (by simp [Value.category]) (Nat.le_of_ble_eq_true rfl) ?_
  refine GW.wf (fun wf => ?_)
  have hts := (wf t _ ht).2
  refine gw_al0 d_T_init_0 ?_
  refine gw_objInit d_T_init_1 oi_T_init_1 (by decide) (Nat.le_of_ble_eq_true rfl) ?_
  refine gw_al0 d_T_init_4 ?_
  refine gw_push d_T_init_5 ?_
  refine gw_newI d_T_init_8 gw_aI 160 rfl (by omega) (Nat.le_of_ble_eq_true rfl) (Nat.le_of_ble_eq_true rfl) ?_
  refine gw_pf0 d_T_init_10 ((gUp_ne _ _ (by omega)).trans ht) rfl rfl ?_
  exact gw_vret d_T_init_13 rfl (by omega) (by omega) ⟨rfl, rfl, rfl⟩
theorem c_T_startOf {s d : Nat} : SM G l 1 y_T_startOf M_T_startOf [.int (nI s), .int (nI d)] h sz 0 0 (qR (.int (nI ((s * 10 + d) * 4))) h sz) := by
  refine SM.of (lv0 := [some (.int (nI s)), some (.int (nI d))]) (by decide +kernel) rfl ⟨rfl, rfl⟩ rfl (by simp [Value.category]) (Nat.le_of_ble_eq_true rfl) ?_
  refine gw_il0 d_T_startOf_0 ?_
  refine gw_push d_T_startOf_1 ?_
  refine gw_imul d_T_startOf_3 ?_; rw [n_lit 10, pk_mul]
  refine gw_il1 d_T_startOf_4 ?_
  refine gw_iadd d_T_startOf_5 ?_; rw [nI_add]
  refine gw_push d_T_startOf_6 ?_
  refine gw_imul d_T_startOf_7 ?_; rw [n_lit 4, pk_mul]
  exact gw_iret d_T_startOf_8 rfl (Nat.le_refl _) (Nat.le_refl _) ⟨rfl, rfl, rfl⟩
theorem c_T_counterAt (hT : TV h t c f) {s d j : Nat} (hs : s < 4) (hd : d < 10) (hj : j < 4) : SM G l 2 y_T_counterAt M_T_counterAt [.ref t, .int (nI s), .int (nI d), .int (nI j)] h sz 0 0 (qR (.int (f ((s * 10 + d) * 4 + j))) h sz) := by
  obtain ⟨ht, hc⟩ := hT
  refine SM.of (lv0 := [some (.ref t), some (.int (nI s)), some (.int (nI d)), some (.int (nI j))]) (by decide +kernel) rfl ⟨rfl, rfl⟩ rfl (by simp [Value.category]) (Nat.le_of_ble_eq_true rfl) ?_
  refine gw_al0 d_T_counterAt_0 ?_
  refine gw_get d_T_counterAt_1 (by assumption) (by rfl) ?_
  refine gw_il1 d_T_counterAt_4 ?_
  refine gw_il2 d_T_counterAt_5 ?_
  refine gw_rS2 d_T_counterAt_6 cs_T_counterAt_6 c_T_startOf ?_
  refine gw_il3 d_T_counterAt_9 ?_
  refine gw_iadd d_T_counterAt_10 ?_; rw [nI_add]
  refine gw_iald d_T_counterAt_11 hc _ rfl (by omega) (by omega) ?_
  exact gw_iret d_T_counterAt_12 rfl (Nat.le_refl _) (Nat.le_refl _) ⟨rfl, rfl, rfl⟩
theorem c_T_vectorAt (hT : TV h t c f) {s d : Nat} (hs : s < 4) (hd : d < 10) : SM G l 4 y_T_vectorAt M_T_vectorAt [.ref t, .int (nI s), .int (nI d)] h sz 1 4 (fun r h' sz' => r = .inl (some (.ref sz)) ∧ h' = gUp h sz (gI 4 (va_cpy f (fun _ => 0) ((s * 10 + d) * 4) 0 4)) ∧ sz' = sz + 1) := by
  obtain ⟨ht, hc⟩ := hT
  refine SM.of (lv0 := [some (.ref t), some (.int (nI s)), some (.int (nI d)), none]) (by decide +kernel) rfl ⟨rfl, rfl⟩ rfl (by simp [Value.category]) (Nat.le_of_ble_eq_true rfl) ?_
  refine gw_il1 d_T_vectorAt_0 ?_
  refine gw_il2 d_T_vectorAt_1 ?_
  refine gw_rS2 d_T_vectorAt_2 cs_T_vectorAt_2 c_T_startOf ?_
  refine gw_is3 d_T_vectorAt_5 ?_
  refine gw_al0 d_T_vectorAt_6 ?_
  refine gw_get d_T_vectorAt_7 (by assumption) (by rfl) ?_
  refine gw_il3 d_T_vectorAt_10 ?_
  refine gw_il3 d_T_vectorAt_11 ?_
  refine gw_push d_T_vectorAt_12 ?_
  refine gw_iadd d_T_vectorAt_13 ?_; rw [n_lit 4, nI_add]
  refine gw_cS3 d_T_vectorAt_14 cs_T_vectorAt_14 (c_J_copyOfRange hc (by omega) (by omega) (by omega)) (fun v h' sz' hp hz => ?_) (fun E h' sz' hp _ => by cases hp.1); obtain ⟨w1, w2, w3⟩ := hp; cases w1
  exact gw_aret d_T_vectorAt_17 rfl (Or.inr ⟨_, rfl⟩) (Or.inr ⟨_, rfl⟩) (by omega) (by omega) ⟨rfl, w2, w3⟩
theorem c_T_covers (hT : TV h t c f) {s : Nat} (hs : s < 4) (hd : dd < 10) (hx : h x = some (gO 4 [.int (nI dd), .int n, .int fl, .ref q])) (hq : h q = some (gI 4 vec)) : SM G l 2 y_T_covers M_T_covers [.ref t, .int (nI s), .ref x] h sz 0 0 (qR (.int (b2i (cov4 (fun j => f ((s * 10 + dd) * 4 + j)) vec))) h sz) := by
  obtain ⟨ht, hc⟩ := hT
  refine SM.of (lv0 := [some (.ref t), some (.int (nI s)), some (.ref x), none, none]) (by decide +kernel) rfl ⟨rfl, rfl⟩ rfl (by simp [Value.category]) (Nat.le_of_ble_eq_true rfl) ?_
  have loop : ∀ m j, j ≤ 4 → 4 - j < m → (∀ i, i < j → ¬ f ((s * 10 + dd) * 4 + i) < vec i) → GM G l 2 0 0 (qR (.int (b2i (cov4 (fun j => f ((s * 10 + dd) * 4 + j)) vec))) h sz) M_T_covers 12 [some (.ref t), some (.int (nI s)), some (.ref x), some (.int (nI ((s * 10 + dd) * 4))), some (.int (nI j))] [] h sz 0 0 := by
    intro m
    induction m with
    | zero => intro j _ hj; exact absurd hj (Nat.not_lt_zero _)
    | succ m ih =>
      intro j hj hm hI
      refine gw_il4 d_T_covers_12 ?_
      refine gw_push d_T_covers_14 ?_
      refine gw_icge d_T_covers_15 (fun c_15 => ?_) (fun c_15 => ?_)
      · refine gw_push d_T_covers_45 ?_
        have q4 := n_le (a := 4) c_15 (by decide) (by omega); obtain rfl : j = 4 := (by omega); exact gw_zret d_T_covers_46 rfl (by decide) (Nat.le_refl _) (Nat.le_refl _) ⟨by rw [cov4_iff.mpr hI]; simp [b2i], rfl, rfl⟩
      · refine gw_al0 d_T_covers_18 ?_
        refine gw_get d_T_covers_19 (by assumption) (by rfl) ?_
        refine gw_il3 d_T_covers_22 ?_
        refine gw_il4 d_T_covers_23 ?_
        have hj4 := n_nle (a := 4) c_15 (by decide) (by omega); refine gw_iadd d_T_covers_25 ?_; rw [nI_add]
        refine gw_iald d_T_covers_26 hc _ rfl (by omega) (by omega) ?_
        refine gw_al2 d_T_covers_27 ?_
        refine gw_get d_T_covers_28 (by assumption) (by rfl) ?_
        refine gw_il4 d_T_covers_31 ?_
        refine gw_iald d_T_covers_33 hq j rfl (by omega) (by omega) ?_
        refine gw_icge d_T_covers_34 (fun c_34 => ?_) (fun c_34 => ?_)
        · refine gw_ii4 d_T_covers_39 (by rw [n_s]; exact gw_goto d_T_covers_42 (ih (j + 1) (by omega) (by omega) (lt_s hI (Int32.not_lt.mpr c_34))))
        · refine gw_push d_T_covers_37 ?_
          exact gw_zret d_T_covers_38 rfl (by decide) (Nat.le_refl _) (Nat.le_refl _) ⟨by rw [cov4_no hj4 (Int32.not_le.mp c_34)]; simp [b2i], rfl, rfl⟩
  refine gw_il1 d_T_covers_0 ?_
  refine gw_al2 d_T_covers_1 ?_
  refine gw_get d_T_covers_2 (by assumption) (by rfl) ?_
  refine gw_rS2 d_T_covers_5 cs_T_covers_5 c_T_startOf ?_
  refine gw_is3 d_T_covers_8 ?_
  refine gw_push d_T_covers_9 ?_
  refine gw_is4 d_T_covers_10 ?_
  exact loop 5 0 (by omega) (by omega) lt_0
theorem c_T_joinVersion (hT : TV h t c f) {s : Nat} (hs : s < 4) (hd : dd < 10) (hx : h x = some (gO 4 [.int (nI dd), .int n, .int fl, .ref q])) (hq : h q = some (gI 4 vec)) : SM G l 2 y_T_joinVersion M_T_joinVersion [.ref t, .int (nI s), .ref x] h sz 0 0 (qV (fun h' sz' => h' = gUp h c (gI 160 (jnV f ((s * 10 + dd) * 4) vec 4)) ∧ sz' = sz)) := by
  obtain ⟨ht, hc⟩ := hT
  have htc : t ≠ c := by rintro rfl; rw [ht] at hc; simp at hc
  have hxc : x ≠ c := by rintro rfl; rw [hx] at hc; simp at hc
  have hqc : q ≠ c := by rintro rfl; rw [hq] at hc; simp at hc
  refine SM.of (lv0 := [some (.ref t), some (.int (nI s)), some (.ref x), none, none]) (by decide +kernel) rfl ⟨rfl, rfl⟩ rfl (by simp [Value.category]) (Nat.le_of_ble_eq_true rfl) ?_
  have loop : ∀ m j, j ≤ 4 → 4 - j < m → GM G l 2 0 0 (qV (fun h' sz' => h' = gUp h c (gI 160 (jnV f ((s * 10 + dd) * 4) vec 4)) ∧ sz' = sz)) M_T_joinVersion 12 [some (.ref t), some (.int (nI s)), some (.ref x), some (.int (nI ((s * 10 + dd) * 4))), some (.int (nI j))] [] (gUp h c (gI 160 (jnV f ((s * 10 + dd) * 4) vec j))) sz 0 0 := by
    intro m
    induction m with
    | zero => intro j _ hj; exact absurd hj (Nat.not_lt_zero _)
    | succ m ih =>
      intro j hj hm
      have p1 := (gUp_ne h (gI 160 (jnV f ((s * 10 + dd) * 4) vec j)) htc).trans ht
      have p2 := (gUp_ne h (gI 160 (jnV f ((s * 10 + dd) * 4) vec j)) hxc).trans hx
      have p3 := (gUp_ne h (gI 160 (jnV f ((s * 10 + dd) * 4) vec j)) hqc).trans hq
      refine gw_il4 d_T_joinVersion_12 ?_
      refine gw_push d_T_joinVersion_14 ?_
      refine gw_icge d_T_joinVersion_15 (fun c_15 => ?_) (fun c_15 => ?_)
      · have q4 := n_le (a := 4) c_15 (by decide) (by omega); obtain rfl : j = 4 := (by omega); exact gw_vret d_T_joinVersion_52 rfl (Nat.le_refl _) (Nat.le_refl _) ⟨rfl, rfl, rfl⟩
      · refine gw_al0 d_T_joinVersion_18 ?_
        refine gw_get d_T_joinVersion_19 (by assumption) (by rfl) ?_
        refine gw_il3 d_T_joinVersion_22 ?_
        refine gw_il4 d_T_joinVersion_23 ?_
        have hj4 := n_nle (a := 4) c_15 (by decide) (by omega); refine gw_iadd d_T_joinVersion_25 ?_; rw [nI_add]
        refine gw_al0 d_T_joinVersion_26 ?_
        refine gw_get d_T_joinVersion_27 (by assumption) (by rfl) ?_
        refine gw_il3 d_T_joinVersion_30 ?_
        refine gw_il4 d_T_joinVersion_31 ?_
        refine gw_iadd d_T_joinVersion_33 ?_; rw [nI_add]
        refine gw_iald d_T_joinVersion_34 (gUp_self _ _ _) _ rfl (by omega) (by omega) ?_
        refine gw_al2 d_T_joinVersion_35 ?_
        refine gw_get d_T_joinVersion_36 (by assumption) (by rfl) ?_
        refine gw_il4 d_T_joinVersion_39 ?_
        refine gw_iald d_T_joinVersion_41 p3 j rfl (by omega) (by omega) ?_
        refine gw_rS2 d_T_joinVersion_42 cs_T_joinVersion_42 c_J_max ?_
        refine gw_iast d_T_joinVersion_45 (gUp_self _ _ _) _ rfl (by omega) (by omega) ?_; rw [gUp_gUp, jnV_s]
        refine gw_ii4 d_T_joinVersion_46 (by rw [n_s]; exact gw_goto d_T_joinVersion_49 (ih (j + 1) (by omega) (by omega)))
  have h0 : h = gUp h c (gI 160 (jnV f ((s * 10 + dd) * 4) vec 0)) := by
    rw [jnV_0]
    funext b
    by_cases hb : b = c
    · subst hb; rw [gUp_self]; exact hc
    · rw [gUp_ne _ _ hb]
  refine gw_il1 d_T_joinVersion_0 ?_
  refine gw_al2 d_T_joinVersion_1 ?_
  refine gw_get d_T_joinVersion_2 (by assumption) (by rfl) ?_
  refine gw_rS2 d_T_joinVersion_5 cs_T_joinVersion_5 c_T_startOf ?_
  refine gw_is3 d_T_joinVersion_8 ?_
  refine gw_push d_T_joinVersion_9 ?_
  refine gw_is4 d_T_joinVersion_10 ?_
  have e := loop 5 0 (by omega) (by omega); rw [← h0] at e; exact e
theorem c_T_joinStation (hT : TV h t c f) {t2 c2 : Nat} {f2 : Nat → Int32} (hT2 : TV h t2 c2 f2) (hcc : c2 ≠ c) {s : Nat} (hs : s < 4) : SM G l 2 y_T_joinStation M_T_joinStation [.ref t, .int (nI s), .ref t2] h sz 0 0 (qV (fun h' sz' => h' = gUp h c (gI 160 (jnV f (s * 40) (fun i => f2 (s * 40 + i)) 40)) ∧ sz' = sz)) := by
  obtain ⟨ht, hc⟩ := hT
  obtain ⟨ht2, hc2⟩ := hT2
  have htc : t ≠ c := by rintro rfl; rw [ht] at hc; simp at hc
  have htc2 : t2 ≠ c := by rintro rfl; rw [ht2] at hc; simp at hc
  refine SM.of (lv0 := [some (.ref t), some (.int (nI s)), some (.ref t2), none, none]) (by decide +kernel) rfl ⟨rfl, rfl⟩ rfl (by simp [Value.category]) (Nat.le_of_ble_eq_true rfl) ?_
  have loop : ∀ m j, j ≤ 40 → 40 - j < m → GM G l 2 0 0 (qV (fun h' sz' => h' = gUp h c (gI 160 (jnV f (s * 40) (fun i => f2 (s * 40 + i)) 40)) ∧ sz' = sz)) M_T_joinStation 14 [some (.ref t), some (.int (nI s)), some (.ref t2), some (.int (nI (s * 40 + 40))), some (.int (nI (s * 40 + j)))] [] (gUp h c (gI 160 (jnV f (s * 40) (fun i => f2 (s * 40 + i)) j))) sz 0 0 := by
    intro m
    induction m with
    | zero => intro j _ hj; exact absurd hj (Nat.not_lt_zero _)
    | succ m ih =>
      intro j hj hm
      have p1 := (gUp_ne h (gI 160 (jnV f (s * 40) (fun i => f2 (s * 40 + i)) j)) htc).trans ht
      have p2 := (gUp_ne h (gI 160 (jnV f (s * 40) (fun i => f2 (s * 40 + i)) j)) htc2).trans ht2
      have p3 := (gUp_ne h (gI 160 (jnV f (s * 40) (fun i => f2 (s * 40 + i)) j)) hcc).trans hc2
      refine gw_il4 d_T_joinStation_14 ?_
      refine gw_il3 d_T_joinStation_16 ?_
      refine gw_icge d_T_joinStation_17 (fun c_17 => ?_) (fun c_17 => ?_)
      · have q4 := n_le c_17 (by omega) (by omega); obtain rfl : j = 40 := (by omega); exact gw_vret d_T_joinStation_50 rfl (Nat.le_refl _) (Nat.le_refl _) ⟨rfl, rfl, rfl⟩
      · refine gw_al0 d_T_joinStation_20 ?_
        refine gw_get d_T_joinStation_21 (by assumption) (by rfl) ?_
        refine gw_il4 d_T_joinStation_24 ?_
        refine gw_al0 d_T_joinStation_26 ?_
        refine gw_get d_T_joinStation_27 (by assumption) (by rfl) ?_
        refine gw_il4 d_T_joinStation_30 ?_
        have hj4 := n_nle c_17 (by omega) (by omega); refine gw_iald d_T_joinStation_32 (gUp_self _ _ _) _ rfl (by omega) (by omega) ?_
        refine gw_al2 d_T_joinStation_33 ?_
        refine gw_get d_T_joinStation_34 (by assumption) (by rfl) ?_
        refine gw_il4 d_T_joinStation_37 ?_
        refine gw_iald d_T_joinStation_39 p3 _ rfl (by omega) (by omega) ?_
        refine gw_rS2 d_T_joinStation_40 cs_T_joinStation_40 c_J_max ?_
        refine gw_iast d_T_joinStation_43 (gUp_self _ _ _) _ rfl (by omega) (by omega) ?_; rw [gUp_gUp, jnV_s f (s * 40) (fun i => f2 (s * 40 + i)) j]
        refine gw_ii4 d_T_joinStation_44 (by rw [n_s]; exact gw_goto d_T_joinStation_47 (ih (j + 1) (by omega) (by omega)))
  have h0 : h = gUp h c (gI 160 (jnV f (s * 40) (fun i => f2 (s * 40 + i)) 0)) := by
    rw [jnV_0]
    funext b
    by_cases hb : b = c
    · subst hb; rw [gUp_self]; exact hc
    · rw [gUp_ne _ _ hb]
  refine gw_il1 d_T_joinStation_0 ?_
  refine gw_push d_T_joinStation_1 ?_
  rw [n_lit 10]; refine gw_rS2 d_T_joinStation_3 cs_T_joinStation_3 c_T_startOf ?_; rw [show (s * 10 + 10) * 4 = s * 40 + 40 by omega]
  refine gw_is3 d_T_joinStation_6 ?_
  refine gw_il1 d_T_joinStation_7 ?_
  refine gw_push d_T_joinStation_8 ?_
  rw [n_lit 0]; refine gw_rS2 d_T_joinStation_9 cs_T_joinStation_9 c_T_startOf ?_; rw [show (s * 10 + 0) * 4 = s * 40 + 0 by omega]
  refine gw_is4 d_T_joinStation_12 ?_
  have e := loop 41 0 (by omega) (by omega); rw [← h0] at e; exact e
theorem c_T_become (hT : TV h t c f) {t2 c2 : Nat} {f2 : Nat → Int32} (hT2 : TV h t2 c2 f2) : SM G l 1 y_T_become M_T_become [.ref t, .ref t2] h sz 0 0 (qV (fun h' sz' => h' = gUp h c (gI 160 (va_cpy f2 f 0 0 160)) ∧ sz' = sz)) := by
  obtain ⟨ht, hc⟩ := hT
  obtain ⟨ht2, hc2⟩ := hT2
  refine SM.of (lv0 := [some (.ref t), some (.ref t2)]) (by decide +kernel) rfl ⟨rfl, rfl⟩ rfl (by simp [Value.category]) (Nat.le_of_ble_eq_true rfl) ?_
  refine gw_al1 d_T_become_0 ?_
  refine gw_get d_T_become_1 (by assumption) (by rfl) ?_
  refine gw_push d_T_become_4 ?_
  refine gw_al0 d_T_become_5 ?_
  refine gw_get d_T_become_6 (by assumption) (by rfl) ?_
  refine gw_push d_T_become_9 ?_
  refine gw_al0 d_T_become_10 ?_
  refine gw_get d_T_become_11 (by assumption) (by rfl) ?_
  refine gw_alenI d_T_become_14 hc ?_
  refine gw_copyI d_T_become_15 cp_T_become_15 hc2 hc 0 0 160 rfl rfl rfl (by omega) (by omega) (by omega) (by decide) (Nat.le_of_ble_eq_true rfl) ?_
  exact gw_vret d_T_become_18 rfl (Nat.le_refl _) (Nat.le_refl _) ⟨rfl, rfl, rfl⟩
theorem c_T_becomeZeros (hT : TV h t c f) : SM G l 2 y_T_becomeZeros M_T_becomeZeros [.ref t] h sz 0 0 (qV (fun h' sz' => (∃ g', h' = gUp h c (gI 160 g') ∧ ∀ i, i < 160 → g' i = 0) ∧ sz' = sz)) := by
  obtain ⟨ht, hc⟩ := hT
  refine SM.of (lv0 := [some (.ref t)]) (by decide +kernel) rfl ⟨rfl, rfl⟩ rfl (by simp [Value.category]) (Nat.le_of_ble_eq_true rfl) ?_
  refine gw_al0 d_T_becomeZeros_0 ?_
  refine gw_get d_T_becomeZeros_1 (by assumption) (by rfl) ?_
  refine gw_push d_T_becomeZeros_4 ?_
  refine gw_vS2 d_T_becomeZeros_5 cs_T_becomeZeros_5 (c_J_fill hc (by omega)) (fun h' sz' hp hz => ?_)
  exact gw_vret d_T_becomeZeros_8 rfl (Nat.le_refl _) (Nat.le_refl _) ⟨rfl, hp⟩
end Tab
