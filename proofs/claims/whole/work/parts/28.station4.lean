/-! ===== Station: nextVersion, learn, constructor; Cartridge ===== -/
section Sta4
variable {G : gG} {l : Launch} {h : gHp} {sz : Nat} {V : gV} {s i a e t c : Nat} {L : List Nat} {f : Nat → Int32} {x : Nat}
theorem c_S_nextVersion (hV : SV G V h s i a e L t c f) {d : Nat} {n fl : Int32} (hd : d < 10) : SM G l 5 y_S_nextVersion M_S_nextVersion [.ref s, .int (nI d), .int n, .int fl] h sz 2 8 (fun r h' sz' => r = .inl (some (.ref (sz + 1))) ∧ h' = gUp (gUp h sz (gI 4 (upd (va_cpy f (fun _ => 0) ((i * 10 + d) * 4) 0 4) i (va_cpy f (fun _ => 0) ((i * 10 + d) * 4) 0 4 i + 1)))) (sz + 1) (gO 4 [.int (nI d), .int n, .int fl, .ref sz]) ∧ sz' = sz + 2) := by
  obtain ⟨hs, hL, hT, hi, hA⟩ := hV
  have ht := hT.1
  refine SM.of (lv0 := [some (.ref s), some (.int (nI d)), some (.int n), some (.int fl), none]) (by decide +kernel) rfl ⟨rfl, rfl⟩ rfl (by simp [Value.category]) (Nat.le_of_ble_eq_true rfl) ?_
  refine GW.wf (fun wf => ?_)
  have hss := (wf s _ hs).2
  refine gw_al0 d_S_nextVersion_0 ?_
  refine gw_get d_S_nextVersion_1 (by assumption) (by rfl) ?_
  refine gw_al0 d_S_nextVersion_4 ?_
  refine gw_get d_S_nextVersion_5 (by assumption) (by rfl) ?_
  refine gw_il1 d_S_nextVersion_8 ?_
  refine gw_cV2 d_S_nextVersion_9 cs_S_nextVersion_9 ht (c_T_vectorAt hT hi hd) (fun v h1 sz1 hp hz => ?_) (fun E h1 sz1 hp _ => by cases hp.1); obtain ⟨w1, w2, w3⟩ := hp; cases w1; subst w2; subst w3
  refine gw_as4 d_S_nextVersion_12 ?_
  refine gw_al4 d_S_nextVersion_14 ?_
  refine gw_al0 d_S_nextVersion_16 ?_
  refine gw_get d_S_nextVersion_17 ((gUp_ne _ _ (by omega)).trans hs) (by rfl) ?_
  refine gw_dup2 d_S_nextVersion_20 rfl rfl ?_
  refine gw_iald d_S_nextVersion_21 (gUp_self _ _ _) i rfl (by omega) (by omega) ?_
  refine gw_push d_S_nextVersion_22 ?_
  refine gw_iadd d_S_nextVersion_23 ?_
  refine gw_iast d_S_nextVersion_24 (gUp_self _ _ _) i rfl (by omega) (by omega) ?_; rw [gUp_gUp]
  refine gw_new [.int 0, .int 0, .int 0, .null] d_S_nextVersion_25 nw_S_nextVersion_25 (Nat.le_of_ble_eq_true rfl) (Nat.le_of_ble_eq_true rfl) ?_
  refine gw_dup d_S_nextVersion_28 rfl ?_
  refine gw_il1 d_S_nextVersion_29 ?_
  refine gw_il2 d_S_nextVersion_30 ?_
  refine gw_il3 d_S_nextVersion_31 ?_
  refine gw_al4 d_S_nextVersion_32 ?_
  refine gw_cI4 d_S_nextVersion_34 cs_S_nextVersion_34 (c_V_init (gUp_self _ _ _)) (fun h2 sz2 hp hz2 => ?_); obtain ⟨w4, w5⟩ := hp; subst w4; subst w5
  exact gw_aret d_S_nextVersion_37 rfl (Or.inl ⟨_, rfl⟩) (Or.inr ⟨_, rfl⟩) (by decide) (by decide) ⟨rfl, by rw [gUp_gUp], rfl⟩
theorem lrn_keep {h : gHp} {t c : Nat} {g : Nat → Int32} (ht : h t = some (gO 3 [.ref c])) (hc : ∃ g', h c = some (gI 160 g')) : TV (gUp h c (gI 160 g)) t c g := by
  obtain ⟨g', hc⟩ := hc
  refine ⟨?_, gUp_self _ _ _⟩
  rw [gUp_ne]
  · exact ht
  · rintro rfl; rw [ht] at hc; simp at hc
theorem c_S_learn (hV : SV G V h s i a e L t c f) {t2 c2 : Nat} {f2 : Nat → Int32} (hT2 : TV h t2 c2 f2) (hcc : c2 ≠ c) : SM G l 3 y_S_learn M_S_learn [.ref s, .ref t2] h sz 0 0 (qV (fun h' sz' => h' = gUp h c (gI 160 (lrn f f2 i 4)) ∧ sz' = sz)) := by
  obtain ⟨hs, hL, hT, hi, hA⟩ := hV
  have hsc : s ≠ c := by rintro rfl; have q := hT.2; rw [hs] at q; simp at q
  have ht2c : t2 ≠ c := by rintro rfl; have q := hT.2; have q2 := hT2.1; rw [q] at q2; simp at q2
  refine SM.of (lv0 := [some (.ref s), some (.ref t2), none]) (by decide +kernel) rfl ⟨rfl, rfl⟩ rfl (by simp [Value.category]) (Nat.le_of_ble_eq_true rfl) ?_
  have loop : ∀ m j, j ≤ 4 → 4 - j < m → GM G l 3 0 0 (qV (fun h' sz' => h' = gUp h c (gI 160 (lrn f f2 i 4)) ∧ sz' = sz)) M_S_learn 2 [some (.ref s), some (.ref t2), some (.int (nI j))] [] (gUp h c (gI 160 (lrn f f2 i j))) sz 0 0 := by
    intro m
    induction m with
    | zero => intro j _ hj; exact absurd hj (Nat.not_lt_zero _)
    | succ m ih =>
      intro j hj hm
      have p1 := (gUp_ne h (gI 160 (lrn f f2 i j)) hsc).trans hs
      have p2 : TV (gUp h c (gI 160 (lrn f f2 i j))) t c (lrn f f2 i j) := lrn_keep hT.1 ⟨_, hT.2⟩
      have p3 : TV (gUp h c (gI 160 (lrn f f2 i j))) t2 c2 f2 := ⟨(gUp_ne h _ ht2c).trans hT2.1, (gUp_ne h _ hcc).trans hT2.2⟩
      have p4 := p2.1
      refine gw_il2 d_S_learn_2 ?_
      refine gw_push d_S_learn_3 ?_
      refine gw_icge d_S_learn_4 (fun c_4 => ?_) (fun c_4 => ?_)
      · have q4 := n_le (a := 4) c_4 (by decide) (by omega); obtain rfl : j = 4 := (by omega); exact gw_vret d_S_learn_30 rfl (Nat.le_refl _) (Nat.le_refl _) ⟨rfl, rfl, rfl⟩
      · refine gw_il2 d_S_learn_7 ?_
        refine gw_al0 d_S_learn_8 ?_
        refine gw_get d_S_learn_9 (by assumption) (by rfl) ?_
        have hj4 := n_nle (a := 4) c_4 (by decide) (by omega); refine gw_iceq d_S_learn_12 (fun c_12 => ?_) (fun c_12 => ?_)
        · first | (refine gw_ii2 d_S_learn_24 (by rw [n_s]; refine gw_goto d_S_learn_27 ?_; have z := ih (j + 1) (by omega) (by omega); rw [show lrn f f2 i (j + 1) = lrn f f2 i j from by rw [lrn, if_pos (n_eq c_12 (by omega) (by omega))]] at z; exact z); done) | (refine gw_ii2 d_S_learn_24 (by rw [n_s]; refine gw_goto d_S_learn_27 ?_; have z := ih (j + 1) (by omega) (by omega); rw [show lrn f f2 i (j + 1) = jnV (lrn f f2 i j) (j * 40) (fun k => f2 (j * 40 + k)) 40 from by rw [lrn, if_neg (fun q => c_12 (by rw [q]))]] at z; exact z))
        · refine gw_al0 d_S_learn_15 ?_
          refine gw_get d_S_learn_16 (by assumption) (by rfl) ?_
          refine gw_il2 d_S_learn_19 ?_
          refine gw_al1 d_S_learn_20 ?_
          refine gw_vV2 d_S_learn_21 cs_S_learn_21 p4 (c_T_joinStation p2 p3 hcc hj4) (fun h1 sz1 hp hz => ?_); obtain ⟨w4, w5⟩ := hp; subst w4; subst w5; rw [gUp_gUp]
          first | (refine gw_ii2 d_S_learn_24 (by rw [n_s]; refine gw_goto d_S_learn_27 ?_; have z := ih (j + 1) (by omega) (by omega); rw [show lrn f f2 i (j + 1) = lrn f f2 i j from by rw [lrn, if_pos (n_eq c_12 (by omega) (by omega))]] at z; exact z); done) | (refine gw_ii2 d_S_learn_24 (by rw [n_s]; refine gw_goto d_S_learn_27 ?_; have z := ih (j + 1) (by omega) (by omega); rw [show lrn f f2 i (j + 1) = jnV (lrn f f2 i j) (j * 40) (fun k => f2 (j * 40 + k)) 40 from by rw [lrn, if_neg (fun q => c_12 (by rw [q]))]] at z; exact z))
  have h0 : h = gUp h c (gI 160 (lrn f f2 i 0)) := by
    funext b
    by_cases hb : b = c
    · subst hb; rw [gUp_self]; exact hT.2
    · rw [gUp_ne _ _ hb]
  refine gw_push d_S_learn_0 ?_
  refine gw_is2 d_S_learn_1 ?_
  have z := loop 5 0 (by omega) (by omega); rw [← h0] at z; exact z
theorem c_S_init {v0 v1 v2 : Value} {n : Int32} (hs : h s = some (gO 2 [v0, v1, v2])) : SM G l 4 y_S_init M_S_init [.ref s, .int n] h sz 3 164 (qV (fun h' sz' => h' s = some (gO 2 [.int n, .ref sz, .ref (sz + 1)]) ∧ LV G h' sz (gDce G) [] ∧ TV h' (sz + 1) (sz + 2) (fun _ => 0) ∧ Fr h h' sz [s] ∧ sz' = sz + 3)) := by
  refine SM.of (lv0 := [some (.ref s), some (.int n)]) (by decide +kernel) rfl ⟨rfl, rfl⟩ rfl (by simp [Value.category]) (Nat.le_of_ble_eq_true rfl) ?_
  refine GW.wf (fun wf => ?_)
  have hss := (wf s _ hs).2
  refine gw_al0 d_S_init_0 ?_
  refine gw_objInit d_S_init_1 oi_S_init_1 (by decide) (Nat.le_of_ble_eq_true rfl) ?_
  refine gw_al0 d_S_init_4 ?_
  refine gw_il1 d_S_init_5 ?_
  refine gw_pf0 d_S_init_6 hs rfl rfl ?_
  refine gw_al0 d_S_init_9 ?_
  refine gw_new [.int 0, .null, .int 0] d_S_init_10 nw_S_init_10 (Nat.le_of_ble_eq_true rfl) (Nat.le_of_ble_eq_true rfl) ?_
  refine gw_dup d_S_init_13 rfl ?_
  refine gw_cI0 d_S_init_14 cs_S_init_14 (c_A_init (v2 := .null) (gUp_self _ _ _)) (fun h1 sz1 hp hz => ?_); obtain ⟨w4, w5⟩ := hp; subst w4; subst w5; rw [gUp_gUp]
  refine gw_pf1 d_S_init_17 ((gUp_ne _ _ (by omega)).trans (gUp_self _ _ _)) rfl rfl ?_
  refine gw_al0 d_S_init_20 ?_
  refine gw_new [.null] d_S_init_21 nw_S_init_21 (Nat.le_of_ble_eq_true rfl) (Nat.le_of_ble_eq_true rfl) ?_
  refine gw_dup d_S_init_24 rfl ?_
  refine gw_cI0 d_S_init_25 cs_S_init_25 (c_T_init (gUp_self _ _ _)) (fun h1 sz1 hp hz => ?_); obtain ⟨w4, w5⟩ := hp; subst w4; subst w5
  refine gw_pf2 d_S_init_28 ((gUp_ne _ _ (by omega)).trans ((gUp_ne _ _ (by omega)).trans ((gUp_ne _ _ (by omega)).trans (gUp_self _ _ _)))) rfl rfl ?_
  refine gw_vret d_S_init_31 rfl (by decide) (by decide) ⟨rfl, gUp_self _ _ _, ⟨⟨0, ?_⟩, by simp, by simp, Or.inl ⟨rfl, rfl⟩⟩, ⟨?_, ?_⟩, ?_, rfl⟩
  · simp [gUp, show sz ≠ s by omega, show sz ≠ sz + 1 + 1 by omega]; rfl
  · simp [gUp, show sz + 1 ≠ s by omega]
  · simp [gUp, show sz + 2 ≠ s by omega, show sz + 1 + 1 = sz + 2 by omega]
  · refine ((((((Fr.refl.up ?_).up ?_).up ?_).up ?_).up ?_).up ?_).up ?_ <;> first | (right; omega) | (left; simp)
/-- a cartridge -/
def CV (G : gG) (V : gV) (h : gHp) (o a e : Nat) (L : List Nat) (t c : Nat) (f : Nat → Int32) : Prop := h o = some (gO 1 [.ref a, .ref t]) ∧ LV G h a e L ∧ TV h t c f ∧ ∀ x ∈ L, VA h V x
theorem c_C_init {v0 v1 : Value} (hs : h s = some (gO 1 [v0, v1])) : SM G l 4 y_C_init M_C_init [.ref s] h sz 3 164 (qV (fun h' sz' => h' s = some (gO 1 [.ref sz, .ref (sz + 1)]) ∧ LV G h' sz (gDce G) [] ∧ TV h' (sz + 1) (sz + 2) (fun _ => 0) ∧ Fr h h' sz [s] ∧ sz' = sz + 3)) := by
  refine SM.of (lv0 := [some (.ref s)]) (by decide +kernel) rfl ⟨rfl, rfl⟩ rfl (by simp [Value.category]) (Nat.le_of_ble_eq_true rfl) ?_
  refine GW.wf (fun wf => ?_)
  have hss := (wf s _ hs).2
  refine gw_al0 d_C_init_0 ?_
  refine gw_objInit d_C_init_1 oi_C_init_1 (by decide) (Nat.le_of_ble_eq_true rfl) ?_
  refine gw_al0 d_C_init_4 ?_
  refine gw_new [.int 0, .null, .int 0] d_C_init_5 nw_C_init_5 (Nat.le_of_ble_eq_true rfl) (Nat.le_of_ble_eq_true rfl) ?_
  refine gw_dup d_C_init_8 rfl ?_
  refine gw_cI0 d_C_init_9 cs_C_init_9 (c_A_init (v2 := .null) (gUp_self _ _ _)) (fun h1 sz1 hp hz => ?_); obtain ⟨w4, w5⟩ := hp; subst w4; subst w5; rw [gUp_gUp]
  refine gw_pf0 d_C_init_12 ((gUp_ne _ _ (by omega)).trans hs) rfl rfl ?_
  refine gw_al0 d_C_init_15 ?_
  refine gw_new [.null] d_C_init_16 nw_C_init_16 (Nat.le_of_ble_eq_true rfl) (Nat.le_of_ble_eq_true rfl) ?_
  refine gw_dup d_C_init_19 rfl ?_
  refine gw_cI0 d_C_init_20 cs_C_init_20 (c_T_init (gUp_self _ _ _)) (fun h1 sz1 hp hz => ?_); obtain ⟨w4, w5⟩ := hp; subst w4; subst w5
  refine gw_pf1 d_C_init_23 ((gUp_ne _ _ (by omega)).trans ((gUp_ne _ _ (by omega)).trans ((gUp_ne _ _ (by omega)).trans (gUp_self _ _ _)))) rfl rfl ?_
  refine gw_vret d_C_init_26 rfl (by decide) (by decide) ⟨rfl, gUp_self _ _ _, ⟨⟨0, ?_⟩, by simp, by simp, Or.inl ⟨rfl, rfl⟩⟩, ⟨?_, ?_⟩, ?_, rfl⟩
  · simp [gUp, show sz ≠ s by omega, show sz ≠ sz + 1 + 1 by omega]; rfl
  · simp [gUp, show sz + 1 ≠ s by omega]
  · simp [gUp, show sz + 2 ≠ s by omega, show sz + 1 + 1 = sz + 2 by omega]
  · refine (((((Fr.refl.up ?_).up ?_).up ?_).up ?_).up ?_).up ?_ <;> first | (right; omega) | (left; simp)
theorem c_C_roomLeft (hV : CV G V h s a e L t c f) : SM G l 4 y_C_roomLeft M_C_roomLeft [.ref s] h sz 0 0 (qR (.int (L.foldl (fun b y => b - (8 + vBy V y)) 100)) h sz) := by
  obtain ⟨hs, hL, hT, hA⟩ := hV
  obtain ⟨mo, ha⟩ := hL.1
  have h48 := hL.2.1
  refine SM.of (lv0 := [some (.ref s), none, none]) (by decide +kernel) rfl ⟨rfl, rfl⟩ rfl (by simp [Value.category]) (Nat.le_of_ble_eq_true rfl) ?_
  have loop : ∀ m j, j ≤ L.length → L.length - j < m → GM G l 4 0 0 (qR (.int (L.foldl (fun b y => b - (8 + vBy V y)) 100)) h sz) M_C_roomLeft 5 [some (.ref s), some (.int ((L.take j).foldl (fun b y => b - (8 + vBy V y)) 100)), some (.int (nI j))] [] h sz 0 0 := by
    intro m
    induction m with
    | zero => intro j _ hj; exact absurd hj (Nat.not_lt_zero _)
    | succ m ih =>
      intro j hj hm
      refine gw_il2 d_C_roomLeft_5 ?_
      refine gw_al0 d_C_roomLeft_6 ?_
      refine gw_get d_C_roomLeft_7 (by assumption) (by rfl) ?_
      refine gw_rV0 d_C_roomLeft_10 cs_C_roomLeft_10 ha (c_A_size hL) ?_
      refine gw_icge d_C_roomLeft_13 (fun c_13 => ?_) (fun c_13 => ?_)
      · refine gw_il1 d_C_roomLeft_39 ?_
        have q4 := n_le c_13 (by omega) (by omega); obtain rfl : j = L.length := (by omega); exact gw_iret d_C_roomLeft_40 rfl (Nat.le_refl _) (Nat.le_refl _) ⟨by rw [List.take_length], rfl, rfl⟩
      · refine gw_il1 d_C_roomLeft_16 ?_
        refine gw_al0 d_C_roomLeft_17 ?_
        refine gw_get d_C_roomLeft_18 (by assumption) (by rfl) ?_
        refine gw_il2 d_C_roomLeft_21 ?_
        have hlt := n_nle c_13 (by omega) (by omega); obtain ⟨y, hy⟩ := get_ex hlt; have hyA := hA y (List.mem_of_getElem? hy); have hy1 := hyA.1; refine gw_rV1 d_C_roomLeft_22 cs_C_roomLeft_22 ha (c_A_get hL hy) ?_
        refine gw_castV d_C_roomLeft_25 cl_C_roomLeft_25 (by assumption) ?_
        refine gw_rV0 d_C_roomLeft_28 cs_C_roomLeft_28 hy1 (c_V_roomTaken hyA.1) ?_
        refine gw_isub d_C_roomLeft_31 ?_
        refine gw_is1 d_C_roomLeft_32 ?_
        refine gw_ii2 d_C_roomLeft_33 (by rw [n_s]; refine gw_goto d_C_roomLeft_36 ?_; have z := ih (j + 1) (by omega) (by omega); rw [take_s hy, List.foldl_append, List.foldl_cons, List.foldl_nil] at z; exact z)
  refine gw_push d_C_roomLeft_0 ?_
  refine gw_is1 d_C_roomLeft_2 ?_
  refine gw_push d_C_roomLeft_3 ?_
  refine gw_is2 d_C_roomLeft_4 ?_
  exact loop (L.length + 1) 0 (by omega) (by omega)
end Sta4
