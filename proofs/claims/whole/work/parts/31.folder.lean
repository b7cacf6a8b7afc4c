/-! ===== FolderRounds: what reads ===== -/
section Fold
variable {G : gG} {l : Launch} {V : gV} {Y : gLay} {h : gHp} {el : Nat → Nat} {LL : Nat → List Nat} {F : Nat → Nat → Int32} {lo : Int32} {sz : Nat}
theorem c_F_checkStation (htr : l.stackTraces = false) {x : Int32} : SM G l 1 y_F_checkStation M_F_checkStation [.int x] h sz 1 6 (qO (if okN x 4 then .inl none else .inr eN) h sz) := by
  refine SM.of (lv0 := [some (.int x)]) (by decide +kernel) rfl ⟨rfl, rfl⟩ rfl (by simp [Value.category]) (Nat.le_of_ble_eq_true rfl) ?_
  refine gw_il0 d_F_checkStation_0 ?_
  refine gw_iflt d_F_checkStation_1 (fun c_1 => ?_) (fun c_1 => ?_)
  · exact gw_throw th_F_checkStation_9 htr rfl (by decide) (Nat.le_of_ble_eq_true rfl) (by decide) (by decide) (fun sz' hz => ⟨by first | (rw [okN_f1 c_1]; rfl) | (rw [okN_f2 4 c_6]; rfl), rfl, hz⟩)
  · refine gw_il0 d_F_checkStation_4 ?_
    refine gw_push d_F_checkStation_5 ?_
    refine gw_iclt d_F_checkStation_6 (fun c_6 => ?_) (fun c_6 => ?_)
    · exact gw_vret d_F_checkStation_17 rfl (by decide) (by decide) ⟨by rw [okN_ok 4 c_1 c_6]; rfl, rfl, Nat.le_refl _⟩
    · exact gw_throw th_F_checkStation_9 htr rfl (by decide) (Nat.le_of_ble_eq_true rfl) (by decide) (by decide) (fun sz' hz => ⟨by first | (rw [okN_f1 c_1]; rfl) | (rw [okN_f2 4 c_6]; rfl), rfl, hz⟩)
theorem c_F_checkDocument (htr : l.stackTraces = false) {x : Int32} : SM G l 1 y_F_checkDocument M_F_checkDocument [.int x] h sz 1 6 (qO (if okN x 10 then .inl none else .inr eN) h sz) := by
  refine SM.of (lv0 := [some (.int x)]) (by decide +kernel) rfl ⟨rfl, rfl⟩ rfl (by simp [Value.category]) (Nat.le_of_ble_eq_true rfl) ?_
  refine gw_il0 d_F_checkDocument_0 ?_
  refine gw_iflt d_F_checkDocument_1 (fun c_1 => ?_) (fun c_1 => ?_)
  · exact gw_throw th_F_checkDocument_10 htr rfl (by decide) (Nat.le_of_ble_eq_true rfl) (by decide) (by decide) (fun sz' hz => ⟨by first | (rw [okN_f1 c_1]; rfl) | (rw [okN_f2 10 c_7]; rfl), rfl, hz⟩)
  · refine gw_il0 d_F_checkDocument_4 ?_
    refine gw_push d_F_checkDocument_5 ?_
    refine gw_iclt d_F_checkDocument_7 (fun c_7 => ?_) (fun c_7 => ?_)
    · exact gw_vret d_F_checkDocument_18 rfl (by decide) (by decide) ⟨by rw [okN_ok 10 c_1 c_7]; rfl, rfl, Nat.le_refl _⟩
    · exact gw_throw th_F_checkDocument_10 htr rfl (by decide) (Nat.le_of_ble_eq_true rfl) (by decide) (by decide) (fun sz' hz => ⟨by first | (rw [okN_f1 c_1]; rfl) | (rw [okN_f2 10 c_7]; rfl), rfl, hz⟩)
theorem c_F_checkCounter (htr : l.stackTraces = false) {x : Int32} : SM G l 1 y_F_checkCounter M_F_checkCounter [.int x] h sz 1 6 (qO (if okN x 4 then .inl none else .inr eX) h sz) := by
  refine SM.of (lv0 := [some (.int x)]) (by decide +kernel) rfl ⟨rfl, rfl⟩ rfl (by simp [Value.category]) (Nat.le_of_ble_eq_true rfl) ?_
  refine gw_il0 d_F_checkCounter_0 ?_
  refine gw_iflt d_F_checkCounter_1 (fun c_1 => ?_) (fun c_1 => ?_)
  · exact gw_throw th_F_checkCounter_9 htr rfl (by decide) (Nat.le_of_ble_eq_true rfl) (by decide) (by decide) (fun sz' hz => ⟨by first | (rw [okN_f1 c_1]; rfl) | (rw [okN_f2 4 c_6]; rfl), rfl, hz⟩)
  · refine gw_il0 d_F_checkCounter_4 ?_
    refine gw_push d_F_checkCounter_5 ?_
    refine gw_iclt d_F_checkCounter_6 (fun c_6 => ?_) (fun c_6 => ?_)
    · exact gw_vret d_F_checkCounter_17 rfl (by decide) (by decide) ⟨by rw [okN_ok 4 c_1 c_6]; rfl, rfl, Nat.le_refl _⟩
    · exact gw_throw th_F_checkCounter_9 htr rfl (by decide) (Nat.le_of_ble_eq_true rfl) (by decide) (by decide) (fun sz' hz => ⟨by first | (rw [okN_f1 c_1]; rfl) | (rw [okN_f2 4 c_6]; rfl), rfl, hz⟩)
theorem c_F_stationAt (htr : l.stackTraces = false) (hC : CI G V Y h el LL F lo) {x : Int32} : SM G l 2 y_F_stationAt M_F_stationAt [.ref (lFo Y), .int x] h sz 1 6 (qO (if okN x 4 then .inl (some (.ref (lSo Y x.toNatClampNeg))) else .inr eN) h sz) := by
  obtain ⟨hF, ⟨fS, hS, hS2⟩, -⟩ := hC
  refine SM.of (lv0 := [some (.ref (lFo Y)), some (.int x)]) (by decide +kernel) rfl ⟨rfl, rfl⟩ rfl (by simp [Value.category]) (Nat.le_of_ble_eq_true rfl) ?_
  cases hx : okN x 4
  · refine gw_il1 d_F_stationAt_0 ?_
    exact gw_xS1 d_F_stationAt_1 cs_F_stationAt_1 (c_F_checkStation htr) (by rw [hx]; rfl) rfl (fun sz' hz => ⟨rfl, rfl, hz⟩)
  · obtain ⟨j, hj, rfl⟩ := okN_t (by decide) hx
    rw [nI_clamp (by omega)]
    refine gw_il1 d_F_stationAt_0 ?_
    refine gw_uS1 d_F_stationAt_1 cs_F_stationAt_1 (c_F_checkStation htr) (by rw [hx]; rfl) (fun sz' hz => ?_)
    refine gw_al0 d_F_stationAt_4 ?_
    refine gw_get d_F_stationAt_5 (by assumption) (by rfl) ?_
    refine gw_il1 d_F_stationAt_8 ?_
    refine gw_aald d_F_stationAt_9 hS (Or.inl rfl) j _ rfl hj (by omega) (hS2 j hj) ?_
    exact gw_aret d_F_stationAt_10 rfl (Or.inl ⟨_, rfl⟩) (Or.inr ⟨_, rfl⟩) (by decide) (by decide) ⟨rfl, rfl, hz⟩
theorem c_F_cartridgeAt (htr : l.stackTraces = false) (hC : CI G V Y h el LL F lo) {x : Int32} : SM G l 2 y_F_cartridgeAt M_F_cartridgeAt [.ref (lFo Y), .int x] h sz 1 6 (qO (if okN x 3 then .inl (some (.ref (lCo Y x.toNatClampNeg))) else .inr eN) h sz) := by
  obtain ⟨hF, -, ⟨fC, hS, hS2⟩, -⟩ := hC
  refine SM.of (lv0 := [some (.ref (lFo Y)), some (.int x)]) (by decide +kernel) rfl ⟨rfl, rfl⟩ rfl (by simp [Value.category]) (Nat.le_of_ble_eq_true rfl) ?_
  refine gw_il1 d_F_cartridgeAt_0 ?_
  refine gw_iflt d_F_cartridgeAt_1 (fun c_1 => ?_) (fun c_1 => ?_)
  · exact gw_throw th_F_cartridgeAt_9 htr rfl (by decide) (Nat.le_of_ble_eq_true rfl) (by decide) (by decide) (fun sz' hz => ⟨by first | (rw [okN_f1 c_1]; rfl) | (rw [okN_f2 3 c_6]; rfl), rfl, hz⟩)
  · refine gw_il1 d_F_cartridgeAt_4 ?_
    refine gw_push d_F_cartridgeAt_5 ?_
    refine gw_iclt d_F_cartridgeAt_6 (fun c_6 => ?_) (fun c_6 => ?_)
    · have hx : okN x 3 = true := okN_ok 3 c_1 c_6; obtain ⟨j, hj, rfl⟩ := okN_t (by decide) hx; rw [nI_clamp (by omega)]; refine gw_al0 d_F_cartridgeAt_17 ?_
      refine gw_get d_F_cartridgeAt_18 (by assumption) (by rfl) ?_
      refine gw_il1 d_F_cartridgeAt_21 ?_
      refine gw_aald d_F_cartridgeAt_22 hS (Or.inr (Or.inl rfl)) j _ rfl hj (by omega) (hS2 j hj) ?_
      exact gw_aret d_F_cartridgeAt_23 rfl (Or.inl ⟨_, rfl⟩) (Or.inr ⟨_, rfl⟩) (by decide) (by decide) ⟨by rw [hx]; rfl, rfl, Nat.le_refl _⟩
    · exact gw_throw th_F_cartridgeAt_9 htr rfl (by decide) (Nat.le_of_ble_eq_true rfl) (by decide) (by decide) (fun sz' hz => ⟨by first | (rw [okN_f1 c_1]; rfl) | (rw [okN_f2 3 c_6]; rfl), rfl, hz⟩)
/-- the version that siblingAt finds -/
def sibA (V : gV) (LL : Nat → List Nat) (s d k : Int32) : Option Nat := if okN s 4 && okN d 10 then kth (vHb V d) k (LL s.toNatClampNeg) 0 else none
theorem c_F_siblingAt (htr : l.stackTraces = false) (hC : CI G V Y h el LL F lo) {s d k : Int32} : SM G l 5 y_F_siblingAt M_F_siblingAt [.ref (lFo Y), .int s, .int d, .int k] h sz 3 18 (qO (match sibA V LL s d k with | some x => .inl (some (.ref x)) | none => .inr eN) h sz) := by
  have hF := hC.1
  refine SM.of (lv0 := [some (.ref (lFo Y)), some (.int s), some (.int d), some (.int k), none, none]) (by decide +kernel) rfl ⟨rfl, rfl⟩ rfl (by simp [Value.category]) (Nat.le_of_ble_eq_true rfl) ?_
  cases hs : okN s 4
  · have e1 : sibA V LL s d k = none := by rw [sibA, hs]; rfl
    rw [e1]
    refine gw_al0 d_F_siblingAt_0 ?_
    refine gw_il1 d_F_siblingAt_1 ?_
    exact gw_xV1 d_F_siblingAt_2 cs_F_siblingAt_2 hF (c_F_stationAt htr hC) (by rw [hs]; rfl) rfl (fun sz' hz => ⟨rfl, rfl, hz⟩)
  · obtain ⟨i, hi, rfl⟩ := okN_t (by decide) hs
    have hV := hC.sv hi
    have hso := hV.1
    refine gw_al0 d_F_siblingAt_0 ?_
    refine gw_il1 d_F_siblingAt_1 ?_
    refine gw_oV1 d_F_siblingAt_2 cs_F_siblingAt_2 hF (c_F_stationAt htr hC) (by rw [hs]; rfl) (fun sz' hz => ?_); rw [nI_clamp (by omega)]
    refine gw_as4 d_F_siblingAt_5 ?_
    refine gw_il2 d_F_siblingAt_7 ?_
    cases hd : okN d 10
    · have e1 : sibA V LL (nI i) d k = none := by rw [sibA, hs, hd]; rfl
      rw [e1]
      exact gw_xS1 d_F_siblingAt_8 cs_F_siblingAt_8 (c_F_checkDocument htr) (by rw [hd]; rfl) rfl (fun sz' hz2 => ⟨rfl, rfl, by omega⟩)
    · have e1 : sibA V LL (nI i) d k = kth (vHb V d) k (LL i) 0 := by rw [sibA, hs, hd, nI_clamp (by omega)]; rfl
      rw [e1]
      refine gw_uS1 d_F_siblingAt_8 cs_F_siblingAt_8 (c_F_checkDocument htr) (by rw [hd]; rfl) (fun sz2 hz2 => ?_)
      refine gw_al4 d_F_siblingAt_11 ?_
      refine gw_il2 d_F_siblingAt_13 ?_
      refine gw_il3 d_F_siblingAt_14 ?_
      cases hk : kth (vHb V d) k (LL i) 0 with
      | none =>
        have hc := c_S_findSibling (G := G) (l := l) (sz := sz2) hV (d := d) (k := k)
        rw [hk] at hc
        refine gw_rV2 d_F_siblingAt_15 cs_F_siblingAt_15 hso hc ?_
        show GW G l _ _ _ _ _ (.null :: _) _ _ _ _
        refine gw_astoreN d_F_siblingAt_18 (by simp) ?_
        refine gw_aloadN d_F_siblingAt_20 rfl ?_
        refine gw_ifnonnullN d_F_siblingAt_22 ?_
        exact gw_throw th_F_siblingAt_25 htr rfl (by decide) (Nat.le_of_ble_eq_true rfl) (by decide) (by decide) (fun sz' hz3 => ⟨rfl, rfl, by omega⟩)
      | some x =>
        have hc := c_S_findSibling (G := G) (l := l) (sz := sz2) hV (d := d) (k := k)
        rw [hk] at hc
        refine gw_rV2 d_F_siblingAt_15 cs_F_siblingAt_15 hso hc ?_
        show GW G l _ _ _ _ _ (.ref x :: _) _ _ _ _
        refine gw_as5 d_F_siblingAt_18 ?_
        refine gw_al5 d_F_siblingAt_20 ?_
        refine gw_ifnonnull d_F_siblingAt_22 ?_
        refine gw_al5 d_F_siblingAt_33 ?_
        exact gw_aret d_F_siblingAt_35 rfl (Or.inl ⟨_, rfl⟩) (Or.inr ⟨_, rfl⟩) (by decide) (by decide) ⟨rfl, rfl, by omega⟩
end Fold
