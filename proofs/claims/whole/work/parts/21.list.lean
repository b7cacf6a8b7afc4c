/-! ===== ArrayList: contracts ===== -/
theorem gUp_gUp (h : gHp) (a : Nat) (e1 e2 : gE) : gUp (gUp h a e1) a e2 = gUp h a e2 := by
  funext b
  by_cases hb : b = a <;> simp [gUp, hb]
theorem gUp_comm (h : gHp) {a b : Nat} (e1 e2 : gE) (hab : a ≠ b) : gUp (gUp h a e1) b e2 = gUp (gUp h b e2) a e1 := by
  funext c
  by_cases hc : c = a
  · subst hc; simp [gUp, hab]
  · by_cases hc2 : c = b
    · subst hc2; simp [gUp, hc]
    · simp [gUp, hc, hc2]
/-- a list's cells: the object at a, its array at e, what it holds -/
def LV (G : gG) (h : gHp) (a e : Nat) (L : List Nat) : Prop := (∃ mo : Int32, h a = some (gO 0 [.int mo, .ref e, .int (nI L.length)])) ∧ L.length ≤ 48 ∧ (∀ x ∈ L, ∃ fs, h x = some (gO 4 fs)) ∧ ((e = gDce G ∧ L = []) ∨ ∃ (cap : Nat) (g : Nat → Option Nat), h e = some (gR 4 cap g) ∧ L.length ≤ cap ∧ 1 ≤ cap ∧ cap ≤ 72 ∧ ∀ i, i < L.length → g i = L[i]?)
/-- nothing that lay below sz has changed, but the cells of X -/
def Fr (h h' : gHp) (sz : Nat) (X : List Nat) : Prop := ∀ b, b < sz → b ∉ X → h' b = h b
section Lists
variable {G : gG} {l : Launch} {h : gHp} {sz : Nat} {a e : Nat} {L : List Nat}
theorem c_J_pCheckIndex {i n : Nat} (hi : i < n) (hn : n < 2147483648) : SM G l 1 y_J_pCheckIndex M_J_pCheckIndex [.int (nI i), .int (nI n), .null] h sz 0 0 (qR (.int (nI i)) h sz) := by
  refine SM.of (lv0 := [some (.int (nI i)), some (.int (nI n)), some .null]) (by decide +kernel) rfl ⟨rfl, rfl⟩ rfl (by simp [Value.category]) (Nat.le_of_ble_eq_true rfl) ?_
  refine gw_il0 d_J_pCheckIndex_0 ?_
  refine gw_iflt d_J_pCheckIndex_1 (fun c_1 => absurd c_1 (nI_pos (by omega))) (fun c_1 => ?_)
  refine gw_il0 d_J_pCheckIndex_4 ?_
  refine gw_il1 d_J_pCheckIndex_5 ?_
  refine gw_iclt d_J_pCheckIndex_6 (fun c_6 => ?_) (fun c_6 => absurd (nI_lt hi hn) c_6)
  refine gw_il0 d_J_pCheckIndex_16 ?_
  exact gw_iret d_J_pCheckIndex_17 rfl (Nat.le_refl _) (Nat.le_refl _) ⟨rfl, rfl, rfl⟩
theorem c_J_checkIndex {i n : Nat} (hi : i < n) (hn : n < 2147483648) : SM G l 2 y_J_checkIndex M_J_checkIndex [.int (nI i), .int (nI n)] h sz 0 0 (qR (.int (nI i)) h sz) := by
  refine SM.of (lv0 := [some (.int (nI i)), some (.int (nI n))]) (by decide +kernel) rfl ⟨rfl, rfl⟩ rfl (by simp [Value.category]) (Nat.le_of_ble_eq_true rfl) ?_
  refine gw_il0 d_J_checkIndex_0 ?_
  refine gw_il1 d_J_checkIndex_1 ?_
  refine gw_null d_J_checkIndex_2 ?_
  refine gw_rS3 d_J_checkIndex_3 cs_J_checkIndex_3 (c_J_pCheckIndex hi hn) ?_
  exact gw_iret d_J_checkIndex_6 rfl (Nat.le_refl _) (Nat.le_refl _) ⟨rfl, rfl, rfl⟩
theorem c_A_size (hL : LV G h a e L) : SM G l 1 y_A_size M_A_size [.ref a] h sz 0 0 (qR (.int (nI L.length)) h sz) := by
  obtain ⟨⟨mo, ha⟩, -⟩ := hL
  refine SM.of (lv0 := [some (.ref a)]) (by decide +kernel) rfl ⟨rfl, rfl⟩ rfl (by simp [Value.category]) (Nat.le_of_ble_eq_true rfl) ?_
  refine gw_al0 d_A_size_0 ?_
  refine gw_get d_A_size_1 (by assumption) (by rfl) ?_
  exact gw_iret d_A_size_4 rfl (Nat.le_refl _) (Nat.le_refl _) ⟨rfl, rfl, rfl⟩
theorem c_A_isEmpty (hL : LV G h a e L) : SM G l 1 y_A_isEmpty M_A_isEmpty [.ref a] h sz 0 0 (qR (.int (b2i L.isEmpty)) h sz) := by
  obtain ⟨⟨mo, ha⟩, h48, -⟩ := hL
  refine SM.of (lv0 := [some (.ref a)]) (by decide +kernel) rfl ⟨rfl, rfl⟩ rfl (by simp [Value.category]) (Nat.le_of_ble_eq_true rfl) ?_
  have e0 : nI L.length = 0 ↔ L = [] := by
    rw [← List.length_eq_zero_iff]
    exact nI_eq (b := 0) (by omega) (by omega)
  refine gw_al0 d_A_isEmpty_0 ?_
  refine gw_get d_A_isEmpty_1 (by assumption) (by rfl) ?_
  refine gw_ifne d_A_isEmpty_4 (fun c_4 => ?_) (fun c_4 => ?_)
  · refine gw_push d_A_isEmpty_11 ?_
    exact gw_zret d_A_isEmpty_12 rfl (by decide) (Nat.le_refl _) (Nat.le_refl _) ⟨by cases L <;> simp_all [b2i], rfl, rfl⟩
  · refine gw_push d_A_isEmpty_7 ?_
    refine gw_goto d_A_isEmpty_8 ?_
    exact gw_zret d_A_isEmpty_12 rfl (by decide) (Nat.le_refl _) (Nat.le_refl _) ⟨by cases L <;> simp_all [b2i], rfl, rfl⟩
theorem LV.item (hL : LV G h a e L) {i x : Nat} (hx : L[i]? = some x) : ∃ (cap : Nat) (g : Nat → Option Nat), h e = some (gR 4 cap g) ∧ i < cap ∧ cap ≤ 72 ∧ g i = some x := by
  have hi : i < L.length := (List.getElem?_eq_some_iff.mp hx).1
  obtain ⟨-, -, -, h3⟩ := hL
  rcases h3 with ⟨-, rfl⟩ | ⟨cap, g, q1, q2, q3, q4, q5⟩
  · simp at hi
  · exact ⟨cap, g, q1, by omega, q4, by rw [q5 i hi, hx]⟩
theorem c_A_elementData (hL : LV G h a e L) {i x : Nat} (hx : L[i]? = some x) : SM G l 1 y_A_elementData M_A_elementData [.ref a, .int (nI i)] h sz 0 0 (qR (.ref x) h sz) := by
  obtain ⟨cap, g, q1, q2, q3, q4⟩ := hL.item hx
  obtain ⟨⟨mo, ha⟩, -⟩ := hL
  refine SM.of (lv0 := [some (.ref a), some (.int (nI i))]) (by decide +kernel) rfl ⟨rfl, rfl⟩ rfl (by simp [Value.category]) (Nat.le_of_ble_eq_true rfl) ?_
  refine gw_al0 d_A_elementData_0 ?_
  refine gw_get d_A_elementData_1 (by assumption) (by rfl) ?_
  refine gw_il1 d_A_elementData_4 ?_
  refine gw_aald d_A_elementData_5 q1 (Or.inr (Or.inr rfl)) i x rfl q2 (by omega) q4 ?_
  exact gw_aret d_A_elementData_6 rfl (Or.inl ⟨_, rfl⟩) (Or.inr ⟨_, rfl⟩) (Nat.le_refl _) (Nat.le_refl _) ⟨rfl, rfl, rfl⟩
theorem c_A_get (hL : LV G h a e L) {i x : Nat} (hx : L[i]? = some x) : SM G l 3 y_A_get M_A_get [.ref a, .int (nI i)] h sz 0 0 (qR (.ref x) h sz) := by
  have hi : i < L.length := (List.getElem?_eq_some_iff.mp hx).1
  have h48 := hL.2.1
  obtain ⟨mo, ha⟩ := hL.1
  refine SM.of (lv0 := [some (.ref a), some (.int (nI i))]) (by decide +kernel) rfl ⟨rfl, rfl⟩ rfl (by simp [Value.category]) (Nat.le_of_ble_eq_true rfl) ?_
  refine gw_il1 d_A_get_0 ?_
  refine gw_al0 d_A_get_1 ?_
  refine gw_get d_A_get_2 (by assumption) (by rfl) ?_
  refine gw_rS2 d_A_get_5 cs_A_get_5 (c_J_checkIndex hi (by omega)) ?_
  refine gw_pop d_A_get_8 rfl ?_
  refine gw_al0 d_A_get_9 ?_
  refine gw_il1 d_A_get_10 ?_
  refine gw_rV1 d_A_get_11 cs_A_get_11 ha (c_A_elementData hL hx) ?_
  exact gw_aret d_A_get_14 rfl (Or.inl ⟨_, rfl⟩) (Or.inr ⟨_, rfl⟩) (Nat.le_refl _) (Nat.le_refl _) ⟨rfl, rfl, rfl⟩
theorem c_J_collInit {ci : Nat} {fs : List Value} : SM G l 1 y_J_collInit M_J_collInit [.ref a] h sz 0 0 (qV (fun h' sz' => h' = h ∧ sz' = sz)) := by
  refine SM.of (lv0 := [some (.ref a)]) (by decide +kernel) rfl ⟨rfl, rfl⟩ rfl (by simp [Value.category]) (Nat.le_of_ble_eq_true rfl) ?_
  refine gw_al0 d_J_collInit_0 ?_
  refine gw_objInit d_J_collInit_1 oi_J_collInit_1 (by decide) (Nat.le_of_ble_eq_true rfl) ?_
  exact gw_vret d_J_collInit_4 rfl (Nat.le_refl _) (Nat.le_refl _) ⟨rfl, rfl, rfl⟩
theorem c_J_listInit {v0 v1 v2 : Value} (ha : h a = some (gO 0 [v0, v1, v2])) : SM G l 2 y_J_listInit M_J_listInit [.ref a] h sz 0 0 (qV (fun h' sz' => h' = gUp h a (gO 0 [.int 0, v1, v2]) ∧ sz' = sz)) := by
  refine SM.of (lv0 := [some (.ref a)]) (by decide +kernel) rfl ⟨rfl, rfl⟩ rfl (by simp [Value.category]) (Nat.le_of_ble_eq_true rfl) ?_
  refine gw_al0 d_J_listInit_0 ?_
  refine gw_cI0 d_J_listInit_1 cs_J_listInit_1 (c_J_collInit (ci := 0) (fs := [])) (fun h' sz' hp _ => ?_)
  obtain ⟨rfl, rfl⟩ := hp
  refine gw_al0 d_J_listInit_4 ?_
  refine gw_push d_J_listInit_5 ?_
  refine gw_pf0 d_J_listInit_6 (by assumption) rfl rfl ?_
  exact gw_vret d_J_listInit_9 rfl (Nat.le_refl _) (Nat.le_refl _) ⟨rfl, rfl, rfl⟩
theorem c_A_init {v0 v1 v2 : Value} (ha : h a = some (gO 0 [v0, v1, .int 0])) : SM G l 3 y_A_init M_A_init [.ref a] h sz 0 0 (qV (fun h' sz' => h' = gUp h a (gO 0 [.int 0, .ref (gDce G), .int 0]) ∧ sz' = sz)) := by
  refine SM.of (lv0 := [some (.ref a)]) (by decide +kernel) rfl ⟨rfl, rfl⟩ rfl (by simp [Value.category]) (Nat.le_of_ble_eq_true rfl) ?_
  refine gw_al0 d_A_init_0 ?_
  refine gw_cI0 d_A_init_1 cs_A_init_1 (c_J_listInit ha) (fun h' sz' hp _ => ?_)
  obtain ⟨rfl, rfl⟩ := hp
  refine gw_al0 d_A_init_4 ?_
  refine gw_getsD d_A_init_5 gs_A_init_5 ?_
  refine gw_pf1 d_A_init_8 (gUp_self _ _ _) rfl rfl ?_
  refine gw_vret d_A_init_11 rfl (Nat.le_refl _) (Nat.le_refl _) ⟨rfl, ?_, rfl⟩
  rw [gUp_gUp]
theorem n_shr1 {n : Nat} (h : n < 2147483648) : nI n >>> ((1 : Int32) &&& 31) = nI (n / 2) := pk_shrN h _ 1 (by decide)
theorem mxI_n {a b : Nat} (ha : a < 2147483648) (hb : b < 2147483648) : mxI (nI a) (nI b) = nI (max a b) := by
  unfold mxI
  by_cases q : a < b
  · rw [if_pos (nI_lt q hb), Nat.max_eq_right (by omega)]
  · rw [if_neg (nI_nlt (by omega) ha), Nat.max_eq_left (by omega)]
theorem mnI_n {a b : Nat} (ha : a < 2147483648) (hb : b < 2147483648) : mnI (nI a) (nI b) = nI (min a b) := by
  unfold mnI
  by_cases q : b < a
  · rw [if_pos (nI_lt q ha), Nat.min_eq_right (by omega)]
  · rw [if_neg (nI_nlt (by omega) hb), Nat.min_eq_left (by omega)]
theorem c_J_newLength {x y z : Nat} (hx : x + y + z < 1000000) (hp : 0 < x + max y z) : SM G l 2 y_J_newLength M_J_newLength [.int (nI x), .int (nI y), .int (nI z)] h sz 0 0 (qR (.int (nI (x + max y z))) h sz) := by
  refine SM.of (lv0 := [some (.int (nI x)), some (.int (nI y)), some (.int (nI z)), none]) (by decide +kernel) rfl ⟨rfl, rfl⟩ rfl (by simp [Value.category]) (Nat.le_of_ble_eq_true rfl) ?_
  refine gw_il0 d_J_newLength_0 ?_
  refine gw_il1 d_J_newLength_1 ?_
  refine gw_il2 d_J_newLength_2 ?_
  refine gw_rS2 d_J_newLength_3 cs_J_newLength_3 c_J_max ?_
  refine gw_iadd d_J_newLength_6 ?_; rw [mxI_n (by omega) (by omega), nI_add]
  refine gw_is3 d_J_newLength_7 ?_
  refine gw_push d_J_newLength_8 ?_
  refine gw_il3 d_J_newLength_9 ?_
  refine gw_icge d_J_newLength_10 (fun c_10 => absurd (n_le (b := 0) c_10 (by omega) (by omega)) (by omega)) (fun c_10 => ?_)
  refine gw_il3 d_J_newLength_13 ?_
  refine gw_push d_J_newLength_14 ?_
  refine gw_icgt d_J_newLength_16 (fun c_16 => absurd (n_lt (a := 2147483639) c_16 (by omega) (by omega)) (by omega)) (fun c_16 => ?_)
  refine gw_il3 d_J_newLength_19 ?_
  exact gw_iret d_J_newLength_20 rfl (Nat.le_refl _) (Nat.le_refl _) ⟨rfl, rfl, rfl⟩
theorem c_J_copyOf3 {n N : Nat} {g : Nat → Option Nat} (hA : h e = some (gR 4 n g)) (hv : ∀ i, i < n → ∀ y, g i = some y → ∃ fs, h y = some (gO 4 fs)) (hn : n ≤ N) (hN : N ≤ 72) : SM G l 2 y_J_copyOf3 M_J_copyOf3 [.ref e, .int (nI N), .ref (gMi G)] h sz 1 72 (fun r h' sz' => r = .inl (some (.ref sz)) ∧ h' = gUp h sz (gR 4 N (va_cpy g (fun _ => none) 0 0 n)) ∧ sz' = sz + 1) := by
  refine SM.of (lv0 := [some (.ref e), some (.int (nI N)), some (.ref (gMi G)), none]) (by decide +kernel) rfl ⟨rfl, rfl⟩ rfl (by simp [Value.category]) (Nat.le_of_ble_eq_true rfl) ?_
  refine GW.wf (fun wf => ?_)
  have hes := (wf e _ hA).2
  refine gw_al2 d_J_copyOf3_0 ?_
  refine gw_ldcM d_J_copyOf3_1 cl_J_copyOf3_1 ?_
  refine gw_acmpne d_J_copyOf3_3 (fun c_3 => absurd rfl c_3) (fun c_3 => ?_)
  refine gw_il1 d_J_copyOf3_6 ?_
  refine gw_newR d_J_copyOf3_7 (Or.inr (Or.inr ⟨rfl, rfl⟩)) cl_J_copyOf3_7 N rfl (by omega) (Nat.le_of_ble_eq_true rfl) (by show 0 + N ≤ 72; omega) ?_
  refine gw_goto d_J_copyOf3_10 ?_
  refine gw_as3 d_J_copyOf3_24 ?_
  refine gw_al0 d_J_copyOf3_25 ?_
  refine gw_push d_J_copyOf3_26 ?_
  refine gw_al3 d_J_copyOf3_27 ?_
  refine gw_push d_J_copyOf3_28 ?_
  refine gw_al0 d_J_copyOf3_29 ?_
  refine gw_alenR d_J_copyOf3_30 ((gUp_ne _ _ (by omega)).trans hA) (Or.inr (Or.inr rfl)) ?_
  refine gw_il1 d_J_copyOf3_31 ?_
  refine gw_rS2 d_J_copyOf3_32 cs_J_copyOf3_32 c_J_min ?_ (hss := by show 0 + N ≤ 72; omega); rw [mnI_n (by omega) (by omega), Nat.min_eq_left hn]
  refine gw_copyR d_J_copyOf3_35 cp_J_copyOf3_35 ((gUp_ne _ _ (by omega)).trans hA) (gUp_self _ _ _) 0 0 n rfl rfl rfl (by omega) (by omega) (by omega) (fun i hi y hy => ?_) (by decide) (Nat.le_of_ble_eq_true rfl) ?_; · (rw [Nat.zero_add] at hy; obtain ⟨fs, hfs⟩ := hv i hi y hy; exact ⟨fs, (gUp_ne _ _ (by have := (wf y _ hfs).2; omega)).trans hfs⟩)
  refine gw_al3 d_J_copyOf3_38 ?_
  exact gw_aret d_J_copyOf3_39 rfl (Or.inr ⟨_, rfl⟩) (Or.inr ⟨_, rfl⟩) (by omega) (by omega) ⟨rfl, by rw [gUp_gUp], rfl⟩
theorem c_J_copyOf {n N : Nat} {g : Nat → Option Nat} (hA : h e = some (gR 4 n g)) (hv : ∀ i, i < n → ∀ y, g i = some y → ∃ fs, h y = some (gO 4 fs)) (hn : n ≤ N) (hN : N ≤ 72) : SM G l 3 y_J_copyOf M_J_copyOf [.ref e, .int (nI N)] h sz 1 72 (fun r h' sz' => r = .inl (some (.ref sz)) ∧ h' = gUp h sz (gR 4 N (va_cpy g (fun _ => none) 0 0 n)) ∧ sz' = sz + 1) := by
  refine SM.of (lv0 := [some (.ref e), some (.int (nI N))]) (by decide +kernel) rfl ⟨rfl, rfl⟩ rfl (by simp [Value.category]) (Nat.le_of_ble_eq_true rfl) ?_
  refine gw_al0 d_J_copyOf_0 ?_
  refine gw_il1 d_J_copyOf_1 ?_
  refine gw_al0 d_J_copyOf_2 ?_
  refine gw_getC d_J_copyOf_3 gc_J_copyOf_3 hA (by decide) (Nat.le_of_ble_eq_true rfl) ?_
  refine gw_cS3 d_J_copyOf_6 cs_J_copyOf_6 (c_J_copyOf3 hA hv hn hN) (fun v h' sz' hp hz => ?_) (fun E h' sz' hp _ => by cases hp.1); obtain ⟨q1, q2, q3⟩ := hp; cases q1
  exact gw_aret d_J_copyOf_9 rfl (Or.inr ⟨_, rfl⟩) (Or.inr ⟨_, rfl⟩) (by omega) (by omega) ⟨rfl, q2, q3⟩
end Lists
