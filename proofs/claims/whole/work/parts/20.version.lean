/-! ===== Math, Integer, Version: contracts ===== -/
abbrev GM (G : gG) (l : Launch) (d mc ms : Nat) (Q : gRs → gHp → Nat → Prop) (M : gM) (pc : Nat) (lv : List (Option Value)) (st : List Value) (h : gHp) (sz k w : Nat) : Prop := GW G l (gZ G Q mc ms) (gRoom d mc ms) M pc lv st h sz k w
/-- covers, over vectors -/
def cov4 (u v : Nat → Int32) : Bool := !decide (u 0 < v 0) && (!decide (u 1 < v 1) && (!decide (u 2 < v 2) && !decide (u 3 < v 3)))
theorem cov4_iff {u v : Nat → Int32} : cov4 u v = true ↔ ∀ j, j < 4 → ¬ u j < v j := by
  simp only [cov4, Bool.and_eq_true, Bool.not_eq_true', decide_eq_false_iff_not]
  constructor
  · rintro ⟨h0, h1, h2, h3⟩ j hj
    match j, hj with
    | 0, _ => exact h0
    | 1, _ => exact h1
    | 2, _ => exact h2
    | 3, _ => exact h3
  · intro h
    exact ⟨h 0 (by omega), h 1 (by omega), h 2 (by omega), h 3 (by omega)⟩
theorem cov4_no {u v : Nat → Int32} {j : Nat} (hj : j < 4) (h : u j < v j) : cov4 u v = false := by
  cases hc : cov4 u v
  · rfl
  · exact absurd h (cov4_iff.mp hc j hj)
def mxI (x y : Int32) : Int32 := if x < y then y else x
def mnI (x y : Int32) : Int32 := if y < x then y else x
def cmpI (x y : Int32) : Int32 := if x < y then -1 else if x = y then 0 else 1
/-- the order's comparison, after n counters -/
def lxs (u v : Nat → Int32) (a : Int32) : Nat → Int32
  | 0 => a
  | n + 1 => if lxs u v a n = 0 then cmpI (u n) (v n) else lxs u v a n
def smN (u : Nat → Int32) : Nat → Int32
  | 0 => 0
  | n + 1 => smN u n + u n
def byI (n : Int32) : Int32 := if n = -1 then 0 else n
theorem lxs_stay {u v : Nat → Int32} {a : Int32} {j : Nat} (h : ¬ lxs u v a j = 0) : ∀ n, lxs u v a (j + n) = lxs u v a j
  | 0 => rfl
  | n + 1 => by
    rw [Nat.add_succ, lxs, lxs_stay h n, if_neg h]
section Ver
variable {G : gG} {l : Launch} {h : gHp} {sz : Nat} {a q a2 q2 : Nat} {d n f d2 n2 f2 : Int32} {vec vec2 : Nat → Int32}
theorem c_J_max {x y : Int32} : SM G l 1 y_J_max M_J_max [.int x, .int y] h sz 0 0 (qR (.int (mxI x y)) h sz) := by
  refine SM.of (lv0 := [some (.int x), some (.int y)]) (by decide +kernel) rfl ⟨rfl, rfl⟩ rfl (by simp [Value.category]) (Nat.le_of_ble_eq_true rfl) ?_
  refine gw_il0 d_J_max_0 ?_
  refine gw_il1 d_J_max_1 ?_
  refine gw_iclt d_J_max_2 (fun c_2 => ?_) (fun c_2 => ?_)
  · refine gw_il1 d_J_max_9 ?_
    exact gw_iret d_J_max_10 rfl (Nat.le_refl _) (Nat.le_refl _) ⟨by simp_all [mxI]; try (intro q; exact absurd q (Int32.not_lt.mpr c_2)), rfl, rfl⟩
  · refine gw_il0 d_J_max_5 ?_
    refine gw_goto d_J_max_6 ?_
    exact gw_iret d_J_max_10 rfl (Nat.le_refl _) (Nat.le_refl _) ⟨by simp_all [mxI]; try (intro q; exact absurd q (Int32.not_lt.mpr c_2)), rfl, rfl⟩
theorem c_J_min {x y : Int32} : SM G l 1 y_J_min M_J_min [.int x, .int y] h sz 0 0 (qR (.int (mnI x y)) h sz) := by
  refine SM.of (lv0 := [some (.int x), some (.int y)]) (by decide +kernel) rfl ⟨rfl, rfl⟩ rfl (by simp [Value.category]) (Nat.le_of_ble_eq_true rfl) ?_
  refine gw_il0 d_J_min_0 ?_
  refine gw_il1 d_J_min_1 ?_
  refine gw_icgt d_J_min_2 (fun c_2 => ?_) (fun c_2 => ?_)
  · refine gw_il1 d_J_min_9 ?_
    exact gw_iret d_J_min_10 rfl (Nat.le_refl _) (Nat.le_refl _) ⟨by simp_all [mnI]; try (intro q; exact absurd q (Int32.not_lt.mpr c_2)), rfl, rfl⟩
  · refine gw_il0 d_J_min_5 ?_
    refine gw_goto d_J_min_6 ?_
    exact gw_iret d_J_min_10 rfl (Nat.le_refl _) (Nat.le_refl _) ⟨by simp_all [mnI]; try (intro q; exact absurd q (Int32.not_lt.mpr c_2)), rfl, rfl⟩
theorem c_J_compare {x y : Int32} : SM G l 1 y_J_compare M_J_compare [.int x, .int y] h sz 0 0 (qR (.int (cmpI x y)) h sz) := by
  refine SM.of (lv0 := [some (.int x), some (.int y)]) (by decide +kernel) rfl ⟨rfl, rfl⟩ rfl (by simp [Value.category]) (Nat.le_of_ble_eq_true rfl) ?_
  refine gw_il0 d_J_compare_0 ?_
  refine gw_il1 d_J_compare_1 ?_
  refine gw_icge d_J_compare_2 (fun c_2 => ?_) (fun c_2 => ?_)
  · refine gw_il0 d_J_compare_9 ?_
    refine gw_il1 d_J_compare_10 ?_
    refine gw_icne d_J_compare_11 (fun c_11 => ?_) (fun c_11 => ?_)
    · refine gw_push d_J_compare_18 ?_
      exact gw_iret d_J_compare_19 rfl (Nat.le_refl _) (Nat.le_refl _) ⟨by simp_all [cmpI]; try (intro q; exact absurd q (Int32.not_lt.mpr c_2)), rfl, rfl⟩
    · refine gw_push d_J_compare_14 ?_
      refine gw_goto d_J_compare_15 ?_
      exact gw_iret d_J_compare_19 rfl (Nat.le_refl _) (Nat.le_refl _) ⟨by simp_all [cmpI]; try (intro q; exact absurd q (Int32.not_lt.mpr c_2)), rfl, rfl⟩
  · refine gw_push d_J_compare_5 ?_
    refine gw_goto d_J_compare_6 ?_
    exact gw_iret d_J_compare_19 rfl (Nat.le_refl _) (Nat.le_refl _) ⟨by simp_all [cmpI]; try (intro q; exact absurd q (Int32.not_lt.mpr c_2)), rfl, rfl⟩
theorem c_V_init {n0 n1 n2 n3 : Value} (ha : h a = some (gO 4 [n0, n1, n2, n3])) : SM G l 2 y_V_init M_V_init [.ref a, .int d, .int n, .int f, .ref q] h sz 0 0 (qV (fun h' sz' => h' = gUp h a (gO 4 [.int d, .int n, .int f, .ref q]) ∧ sz' = sz)) := by
  refine SM.of (lv0 := [some (.ref a), some (.int d), some (.int n), some (.int f), some (.ref q)]) (by decide +kernel) rfl ⟨rfl, rfl⟩ rfl (by simp [Value.category]) (Nat.le_of_ble_eq_true rfl) ?_
  refine gw_al0 d_V_init_0 ?_
  refine gw_objInit d_V_init_1 oi_V_init_1 (by decide) (Nat.le_of_ble_eq_true rfl) ?_
  refine gw_al0 d_V_init_4 ?_
  refine gw_il1 d_V_init_5 ?_
  refine gw_pf0 d_V_init_6 ha rfl rfl ?_
  refine gw_al0 d_V_init_9 ?_
  refine gw_il2 d_V_init_10 ?_
  refine gw_pf1 d_V_init_11 (gUp_self _ _ _) rfl rfl ?_
  refine gw_al0 d_V_init_14 ?_
  refine gw_il3 d_V_init_15 ?_
  refine gw_pf2 d_V_init_16 (gUp_self _ _ _) rfl rfl ?_
  refine gw_al0 d_V_init_19 ?_
  refine gw_al4 d_V_init_20 ?_
  refine gw_pf3 d_V_init_22 (gUp_self _ _ _) rfl rfl ?_
  refine gw_vret d_V_init_25 rfl (Nat.le_refl _) (Nat.le_refl _) ⟨rfl, ?_, rfl⟩
  funext b
  by_cases hb : b = a <;> simp [gUp, hb]
theorem c_V_isMark (ha : h a = some (gO 4 [.int d, .int n, .int f, .ref q])) : SM G l 1 y_V_isMark M_V_isMark [.ref a] h sz 0 0 (qR (.int (b2i (decide (n = -1)))) h sz) := by
  refine SM.of (lv0 := [some (.ref a)]) (by decide +kernel) rfl ⟨rfl, rfl⟩ rfl (by simp [Value.category]) (Nat.le_of_ble_eq_true rfl) ?_
  refine gw_al0 d_V_isMark_0 ?_
  refine gw_get d_V_isMark_1 (by assumption) (by rfl) ?_
  refine gw_push d_V_isMark_4 ?_
  refine gw_icne d_V_isMark_5 (fun c_5 => ?_) (fun c_5 => ?_)
  · refine gw_push d_V_isMark_12 ?_
    exact gw_zret d_V_isMark_13 rfl (by decide) (Nat.le_refl _) (Nat.le_refl _) ⟨by simp_all [b2i], rfl, rfl⟩
  · refine gw_push d_V_isMark_8 ?_
    refine gw_goto d_V_isMark_9 ?_
    exact gw_zret d_V_isMark_13 rfl (by decide) (Nat.le_refl _) (Nat.le_refl _) ⟨by simp_all [b2i], rfl, rfl⟩
theorem c_V_hasBytesOf {x : Int32} (ha : h a = some (gO 4 [.int d, .int n, .int f, .ref q])) : SM G l 2 y_V_hasBytesOf M_V_hasBytesOf [.ref a, .int x] h sz 0 0 (qR (.int (b2i (decide (d = x) && decide (n ≠ -1)))) h sz) := by
  refine SM.of (lv0 := [some (.ref a), some (.int x)]) (by decide +kernel) rfl ⟨rfl, rfl⟩ rfl (by simp [Value.category]) (Nat.le_of_ble_eq_true rfl) ?_
  refine gw_al0 d_V_hasBytesOf_0 ?_
  refine gw_get d_V_hasBytesOf_1 (by assumption) (by rfl) ?_
  refine gw_il1 d_V_hasBytesOf_4 ?_
  refine gw_icne d_V_hasBytesOf_5 (fun c_5 => ?_) (fun c_5 => ?_)
  · refine gw_push d_V_hasBytesOf_19 ?_
    exact gw_zret d_V_hasBytesOf_20 rfl (by decide) (Nat.le_refl _) (Nat.le_refl _) ⟨by simp_all [b2i], rfl, rfl⟩
  · refine gw_al0 d_V_hasBytesOf_8 ?_
    refine gw_rV0 d_V_hasBytesOf_9 cs_V_hasBytesOf_9 ha (c_V_isMark ha) ?_
    refine gw_ifne d_V_hasBytesOf_12 (fun c_12 => ?_) (fun c_12 => ?_)
    · refine gw_push d_V_hasBytesOf_19 ?_
      exact gw_zret d_V_hasBytesOf_20 rfl (by decide) (Nat.le_refl _) (Nat.le_refl _) ⟨by simp_all [b2i], rfl, rfl⟩
    · refine gw_push d_V_hasBytesOf_15 ?_
      refine gw_goto d_V_hasBytesOf_16 ?_
      exact gw_zret d_V_hasBytesOf_20 rfl (by decide) (Nat.le_refl _) (Nat.le_refl _) ⟨by simp_all [b2i], rfl, rfl⟩
theorem c_V_byteCount (ha : h a = some (gO 4 [.int d, .int n, .int f, .ref q])) : SM G l 2 y_V_byteCount M_V_byteCount [.ref a] h sz 0 0 (qR (.int (byI n)) h sz) := by
  refine SM.of (lv0 := [some (.ref a)]) (by decide +kernel) rfl ⟨rfl, rfl⟩ rfl (by simp [Value.category]) (Nat.le_of_ble_eq_true rfl) ?_
  refine gw_al0 d_V_byteCount_0 ?_
  refine gw_rV0 d_V_byteCount_1 cs_V_byteCount_1 ha (c_V_isMark ha) ?_
  refine gw_ifeq d_V_byteCount_4 (fun c_4 => ?_) (fun c_4 => ?_)
  · refine gw_al0 d_V_byteCount_11 ?_
    refine gw_get d_V_byteCount_12 (by assumption) (by rfl) ?_
    exact gw_iret d_V_byteCount_15 rfl (Nat.le_refl _) (Nat.le_refl _) ⟨by simp_all [b2i, byI], rfl, rfl⟩
  · refine gw_push d_V_byteCount_7 ?_
    refine gw_goto d_V_byteCount_8 ?_
    exact gw_iret d_V_byteCount_15 rfl (Nat.le_refl _) (Nat.le_refl _) ⟨by simp_all [b2i, byI], rfl, rfl⟩
theorem c_V_roomTaken (ha : h a = some (gO 4 [.int d, .int n, .int f, .ref q])) : SM G l 3 y_V_roomTaken M_V_roomTaken [.ref a] h sz 0 0 (qR (.int (8 + byI n)) h sz) := by
  refine SM.of (lv0 := [some (.ref a)]) (by decide +kernel) rfl ⟨rfl, rfl⟩ rfl (by simp [Value.category]) (Nat.le_of_ble_eq_true rfl) ?_
  refine gw_push d_V_roomTaken_0 ?_
  refine gw_al0 d_V_roomTaken_2 ?_
  refine gw_rV0 d_V_roomTaken_3 cs_V_roomTaken_3 ha (c_V_byteCount ha) ?_
  refine gw_iadd d_V_roomTaken_6 ?_
  exact gw_iret d_V_roomTaken_7 rfl (Nat.le_refl _) (Nat.le_refl _) ⟨rfl, rfl, rfl⟩
theorem c_V_sumOfCounters (ha : h a = some (gO 4 [.int d, .int n, .int f, .ref q])) (hq : h q = some (gI 4 vec)) : SM G l 1 y_V_sumOfCounters M_V_sumOfCounters [.ref a] h sz 0 0 (qR (.int (smN vec 4)) h sz) := by
  refine SM.of (lv0 := [some (.ref a), none, none]) (by decide +kernel) rfl ⟨rfl, rfl⟩ rfl (by simp [Value.category]) (Nat.le_of_ble_eq_true rfl) ?_
  refine gw_push d_V_sumOfCounters_0 ?_
  refine gw_is1 d_V_sumOfCounters_1 ?_
  refine gw_push d_V_sumOfCounters_2 ?_
  refine gw_is2 d_V_sumOfCounters_3 ?_
  have loop : ∀ m j, j ≤ 4 → 4 - j < m → GM G l 1 0 0 (qR (.int (smN vec 4)) h sz) M_V_sumOfCounters 4 [some (.ref a), some (.int (smN vec j)), some (.int (nI j))] [] h sz 0 0 := by
    intro m
    induction m with
    | zero => intro j _ hj; exact absurd hj (Nat.not_lt_zero _)
    | succ m ih =>
      intro j hj hm
      refine gw_il2 d_V_sumOfCounters_4 ?_
      refine gw_push d_V_sumOfCounters_5 ?_
      refine gw_icge d_V_sumOfCounters_6 (fun c_6 => ?_) (fun c_6 => ?_)
      · refine gw_il1 d_V_sumOfCounters_24 ?_
        (have h4 : j = 4 := by { have := n_le (a := 4) c_6 (by decide) (by omega); omega }); subst h4; exact gw_iret d_V_sumOfCounters_25 rfl (Nat.le_refl _) (Nat.le_refl _) ⟨rfl, rfl, rfl⟩
      · refine gw_il1 d_V_sumOfCounters_9 ?_
        refine gw_al0 d_V_sumOfCounters_10 ?_
        refine gw_get d_V_sumOfCounters_11 (by assumption) (by rfl) ?_
        refine gw_il2 d_V_sumOfCounters_14 ?_
        refine gw_iald d_V_sumOfCounters_15 hq j rfl (n_nle (a := 4) c_6 (by decide) (by omega)) (by omega) ?_
        refine gw_iadd d_V_sumOfCounters_16 ?_
        refine gw_is1 d_V_sumOfCounters_17 ?_
        refine gw_ii2 d_V_sumOfCounters_18 (by rw [n_s]; exact gw_goto d_V_sumOfCounters_21 (ih (j + 1) (n_nle (a := 4) c_6 (by decide) (by omega)) (by have := n_nle (a := 4) c_6 (by decide) (by omega); omega)))
        skip
  exact loop 5 0 (by omega) (by omega)
theorem c_V_replaces (ha : h a = some (gO 4 [.int d, .int n, .int f, .ref q])) (hq : h q = some (gI 4 vec)) (ha2 : h a2 = some (gO 4 [.int d2, .int n2, .int f2, .ref q2])) (hq2 : h q2 = some (gI 4 vec2)) : SM G l 1 y_V_replaces M_V_replaces [.ref a, .ref a2] h sz 0 0 (qR (.int (b2i (decide (d = d2) && cov4 vec vec2))) h sz) := by
  refine SM.of (lv0 := [some (.ref a), some (.ref a2), none]) (by decide +kernel) rfl ⟨rfl, rfl⟩ rfl (by simp [Value.category]) (Nat.le_of_ble_eq_true rfl) ?_
  by_cases hdd : d = d2
  · have loop : ∀ m j, j ≤ 4 → 4 - j < m → (∀ i, i < j → ¬ vec i < vec2 i) → GM G l 1 0 0 (qR (.int (b2i (decide (d = d2) && cov4 vec vec2))) h sz) M_V_replaces 15 [some (.ref a), some (.ref a2), some (.int (nI j))] [] h sz 0 0 := by
      intro m
      induction m with
      | zero => intro j _ hj; exact absurd hj (Nat.not_lt_zero _)
      | succ m ih =>
        intro j hj hm hI
        refine gw_il2 d_V_replaces_15 ?_
        refine gw_push d_V_replaces_16 ?_
        refine gw_icge d_V_replaces_17 (fun c_17 => ?_) (fun c_17 => ?_)
        · refine gw_push d_V_replaces_43 ?_
          (have h4 : j = 4 := by { have := n_le (a := 4) c_17 (by decide) (by omega); omega }); subst h4; exact gw_zret d_V_replaces_44 rfl (by decide) (Nat.le_refl _) (Nat.le_refl _) ⟨by rw [cov4_iff.mpr hI]; simp [b2i, hdd], rfl, rfl⟩
        · refine gw_al0 d_V_replaces_20 ?_
          refine gw_get d_V_replaces_21 (by assumption) (by rfl) ?_
          refine gw_il2 d_V_replaces_24 ?_
          have hj4 := n_nle (a := 4) c_17 (by decide) (by omega); refine gw_iald d_V_replaces_25 hq j rfl (by omega) (by omega) ?_
          refine gw_al1 d_V_replaces_26 ?_
          refine gw_get d_V_replaces_27 (by assumption) (by rfl) ?_
          refine gw_il2 d_V_replaces_30 ?_
          refine gw_iald d_V_replaces_31 hq2 j rfl (by omega) (by omega) ?_
          refine gw_icge d_V_replaces_32 (fun c_32 => ?_) (fun c_32 => ?_)
          · refine gw_ii2 d_V_replaces_37 (by rw [n_s]; exact gw_goto d_V_replaces_40 (ih (j + 1) (by omega) (by omega) (lt_s hI (Int32.not_lt.mpr c_32))))
          · refine gw_push d_V_replaces_35 ?_
            exact gw_zret d_V_replaces_36 rfl (by decide) (Nat.le_refl _) (Nat.le_refl _) ⟨by rw [cov4_no hj4 (Int32.not_le.mp c_32)]; simp [b2i], rfl, rfl⟩
    refine gw_al0 d_V_replaces_0 ?_
    refine gw_get d_V_replaces_1 (by assumption) (by rfl) ?_
    refine gw_al1 d_V_replaces_4 ?_
    refine gw_get d_V_replaces_5 (by assumption) (by rfl) ?_
    refine gw_iceq d_V_replaces_8 (fun c_8 => ?_) (fun c_8 => absurd hdd c_8)
    refine gw_push d_V_replaces_13 ?_
    refine gw_is2 d_V_replaces_14 ?_
    exact loop 5 0 (by omega) (by omega) lt_0
  · refine gw_al0 d_V_replaces_0 ?_
    refine gw_get d_V_replaces_1 (by assumption) (by rfl) ?_
    refine gw_al1 d_V_replaces_4 ?_
    refine gw_get d_V_replaces_5 (by assumption) (by rfl) ?_
    refine gw_iceq d_V_replaces_8 (fun c_8 => ?_) (fun c_8 => ?_)
    · exact absurd c_8 hdd
    · refine gw_push d_V_replaces_11 ?_
      exact gw_zret d_V_replaces_12 rfl (by decide) (Nat.le_refl _) (Nat.le_refl _) ⟨by simp [b2i, hdd], rfl, rfl⟩
theorem c_V_compareWith (ha : h a = some (gO 4 [.int d, .int n, .int f, .ref q])) (hq : h q = some (gI 4 vec)) (ha2 : h a2 = some (gO 4 [.int d2, .int n2, .int f2, .ref q2])) (hq2 : h q2 = some (gI 4 vec2)) : SM G l 2 y_V_compareWith M_V_compareWith [.ref a, .ref a2] h sz 0 0 (qR (.int (lxs vec vec2 (cmpI d d2) 4)) h sz) := by
  refine SM.of (lv0 := [some (.ref a), some (.ref a2), none, none]) (by decide +kernel) rfl ⟨rfl, rfl⟩ rfl (by simp [Value.category]) (Nat.le_of_ble_eq_true rfl) ?_
  have loop : ∀ m j, j ≤ 4 → 4 - j < m → GM G l 2 0 0 (qR (.int (lxs vec vec2 (cmpI d d2) 4)) h sz) M_V_compareWith 14 [some (.ref a), some (.ref a2), some (.int (lxs vec vec2 (cmpI d d2) j)), some (.int (nI j))] [] h sz 0 0 := by
    intro m
    induction m with
    | zero => intro j _ hj; exact absurd hj (Nat.not_lt_zero _)
    | succ m ih =>
      intro j hj hm
      refine gw_il3 d_V_compareWith_14 ?_
      refine gw_push d_V_compareWith_15 ?_
      refine gw_icge d_V_compareWith_16 (fun c_16 => ?_) (fun c_16 => ?_)
      · refine gw_il2 d_V_compareWith_45 ?_
        first | (have q4 := n_le (a := 4) c_16 (by decide) (by omega); obtain rfl : j = 4 := (by omega); exact gw_iret d_V_compareWith_46 rfl (Nat.le_refl _) (Nat.le_refl _) ⟨rfl, rfl, rfl⟩) | (have e := lxs_stay c_20 (4 - j); rw [show j + (4 - j) = 4 by omega] at e; exact gw_iret d_V_compareWith_46 rfl (Nat.le_refl _) (Nat.le_refl _) ⟨by rw [e], rfl, rfl⟩)
      · refine gw_il2 d_V_compareWith_19 ?_
        refine gw_ifne d_V_compareWith_20 (fun c_20 => ?_) (fun c_20 => ?_)
        · refine gw_il2 d_V_compareWith_45 ?_
          first | (have q4 := n_le (a := 4) c_16 (by decide) (by omega); obtain rfl : j = 4 := (by omega); exact gw_iret d_V_compareWith_46 rfl (Nat.le_refl _) (Nat.le_refl _) ⟨rfl, rfl, rfl⟩) | (have e := lxs_stay c_20 (4 - j); rw [show j + (4 - j) = 4 by omega] at e; exact gw_iret d_V_compareWith_46 rfl (Nat.le_refl _) (Nat.le_refl _) ⟨by rw [e], rfl, rfl⟩)
        · refine gw_al0 d_V_compareWith_23 ?_
          refine gw_get d_V_compareWith_24 (by assumption) (by rfl) ?_
          refine gw_il3 d_V_compareWith_27 ?_
          have hj4 := n_nle (a := 4) c_16 (by decide) (by omega); refine gw_iald d_V_compareWith_28 hq j rfl (by omega) (by omega) ?_
          refine gw_al1 d_V_compareWith_29 ?_
          refine gw_get d_V_compareWith_30 (by assumption) (by rfl) ?_
          refine gw_il3 d_V_compareWith_33 ?_
          refine gw_iald d_V_compareWith_34 hq2 j rfl (by omega) (by omega) ?_
          refine gw_rS2 d_V_compareWith_35 cs_V_compareWith_35 c_J_compare ?_
          refine gw_is2 d_V_compareWith_38 ?_
          refine gw_ii3 d_V_compareWith_39 (by rw [n_s]; refine gw_goto d_V_compareWith_42 ?_; have e := ih (j + 1) (by omega) (by omega); rw [show lxs vec vec2 (cmpI d d2) (j + 1) = cmpI (vec j) (vec2 j) from by rw [lxs, if_pos c_20]] at e; exact e)
  refine gw_al0 d_V_compareWith_0 ?_
  refine gw_get d_V_compareWith_1 (by assumption) (by rfl) ?_
  refine gw_al1 d_V_compareWith_4 ?_
  refine gw_get d_V_compareWith_5 (by assumption) (by rfl) ?_
  refine gw_rS2 d_V_compareWith_8 cs_V_compareWith_8 c_J_compare ?_
  refine gw_is2 d_V_compareWith_11 ?_
  refine gw_push d_V_compareWith_12 ?_
  refine gw_is3 d_V_compareWith_13 ?_
  exact loop 5 0 (by omega) (by omega)
end Ver
