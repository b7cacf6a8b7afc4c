/-! ===== the law's loop and its beginning ===== -/
theorem sub5 {L t : Nat} (hL : L ≤ 2560) (ht : t ≤ 512) : nI L - 5 < nI (5 * t) ↔ L < 5 * t + 5 := by
  rw [Int32.lt_iff_toInt_lt, Int32.toInt_sub, nI_toInt (by omega), nI_toInt (by omega), show (5 : Int32).toInt = 5 from rfl, Int.bmod_eq_of_le (by omega) (by omega)]
  omega
theorem MV.ext {h h1 : gHp} {m : Nat} {A : Nat → Nat} {th : Int32} {vs : Nat} {lf : Int32} {U : gU} (hM : MV h m A th vs lf U) (hF : ∀ b E, h b = some E → h1 b = some E) : MV h1 m A th vs lf U := by
  obtain ⟨h0, a0, a1, a2, a3, a4, a5, a6, a7, a8, r⟩ := hM
  exact ⟨hF _ _ h0, hF _ _ a0, hF _ _ a1, hF _ _ a2, hF _ _ a3, hF _ _ a4, hF _ _ a5, hF _ _ a6, hF _ _ a7, hF _ _ a8, r⟩
section Lp
variable {G : gG} {l : Launch} {b L : Nat} {xs : Nat → Int32} {Y : gLay} {m oa : Nat} {A : Nat → Nat}
theorem law_loop (htr : l.stackTraces = false) (hsep : ∀ i, i < 7 → lTc Y i ≠ A 5) (hL : L ≤ 2560) : ∀ (q t : Nat) (h : gHp) (sz : Nat) (v5 v6 : Option Value), t ≤ 512 → 512 - t < q → WI G Y m A oa h sz t → GW G l (Zl G b L xs) room_1 M_L_law 23 [some (.ref b), some (.ref (lFo Y)), some (.ref m), some (.ref oa), some (.int (nI (5 * t))), v5, v6] [] h sz (43 + 150 * t) (35336 + 10400 * t) := by
  intro q
  induction q with
  | zero => intro t h sz v5 v6 _ hq; exact absurd hq (Nat.not_lt_zero _)
  | succ q ih =>
    intro t h sz v5 v6 ht hq hW
    have nx : ∀ kc ws, kc ≤ 150 → ws ≤ 10400 → 5 * t + 5 ≤ L → ∀ h2 sz2 q5 q6, WI G Y m A oa h2 sz2 (t + 1) → GW G l (Zl G b L xs) room_1 M_L_law 1192 [some (.ref b), some (.ref (lFo Y)), some (.ref m), some (.ref oa), some (.int (nI (5 * t))), q5, q6] [] h2 sz2 (43 + 150 * t + kc) (35336 + 10400 * t + ws) := by
      intro kc ws h1 h2' hle h2 sz2 q5 q6 hW2
      refine GW.widen (k' := 43 + 150 * (t + 1)) (w' := 35336 + 10400 * (t + 1)) (by omega) (by omega) ?_
      refine gw_ii4 d_L_law_1192 ?_
      rw [show nI (5 * t) + 5 = nI (5 * (t + 1)) from nI_add (a := 5 * t) (b := 5)]
      exact gw_goto d_L_law_1195 (ih (t + 1) h2 sz2 q5 q6 (by omega) (by omega) hW2)
    have body : 5 * t + 5 ≤ L → GW G l (Zl G b L xs) room_1 M_L_law 32 [some (.ref b), some (.ref (lFo Y)), some (.ref m), some (.ref oa), some (.int (nI (5 * t))), v5, v6] [] h sz (43 + 150 * t) (35336 + 10400 * t) := by
      intro hle
      refine gw_al0 d_L_law_32 ?_
      refine gw_il4 d_L_law_33 ?_
      refine gw_sld d_L_law_35 (5 * t) rfl (by omega) (by omega) ?_
      refine gw_push d_L_law_36 ?_
      refine gw_iand d_L_law_38 ?_
      obtain ⟨j, hj, e⟩ := pk_andE (xs (5 * t)) (m := 15) 4 (by decide)
      rw [e]
      match j, hj with
      | 0, _ => exact gw_tableIn (off := 77) (tgt := 116) d_L_law_39.1 (by decide) (by decide) (by decide) (by decide) (rd_edit htr hsep hW (by omega) hle hL (by omega) (by omega) (nx 6 98 (by omega) (by omega) hle))
      | 1, _ => exact gw_tableIn (off := 149) (tgt := 188) d_L_law_39.1 (by decide) (by decide) (by decide) (by decide) (rd_erase htr hsep hW (by omega) hle hL (by omega) (by omega) (nx 6 98 (by omega) (by omega) hle))
      | 2, _ => exact gw_tableIn (off := 197) (tgt := 236) d_L_law_39.1 (by decide) (by decide) (by decide) (by decide) (rd_siblings htr hsep hW (by omega) hle hL (by omega) (by omega) (nx 4 24 (by omega) (by omega) hle))
      | 3, _ => exact gw_tableIn (off := 265) (tgt := 304) d_L_law_39.1 (by decide) (by decide) (by decide) (by decide) (rd_counter htr hsep hW (by omega) hle hL (by omega) (by omega) (nx 4 24 (by omega) (by omega) hle))
      | 4, _ => exact gw_tableIn (off := 357) (tgt := 396) d_L_law_39.1 (by decide) (by decide) (by decide) (by decide) (rd_byteOf htr hsep hW (by omega) hle hL (by omega) (by omega) (nx 4 24 (by omega) (by omega) hle))
      | 5, _ => exact gw_tableIn (off := 449) (tgt := 488) d_L_law_39.1 (by decide) (by decide) (by decide) (by decide) (rd_visit htr hsep hW (by omega) hle hL (by omega) (by omega) (nx 146 10380 (by omega) (by omega) hle))
      | 6, _ => exact gw_tableIn (off := 529) (tgt := 568) d_L_law_39.1 (by decide) (by decide) (by decide) (by decide) (rd_cut htr hsep hW (by omega) hle hL (by omega) (by omega) (nx 147 10386 (by omega) (by omega) hle))
      | 7, _ => exact gw_tableIn (off := 621) (tgt := 660) d_L_law_39.1 (by decide) (by decide) (by decide) (by decide) (rd_lose htr hsep hW (by omega) hle hL (by omega) (by omega) (nx 1 6 (by omega) (by omega) hle))
      | 8, _ => exact gw_tableIn (off := 677) (tgt := 716) d_L_law_39.1 (by decide) (by decide) (by decide) (by decide) (rd_copy htr hsep hW (by omega) hle hL (by omega) (by omega) (nx 50 3468 (by omega) (by omega) hle))
      | 9, _ => exact gw_tableIn (off := 725) (tgt := 764) d_L_law_39.1 (by decide) (by decide) (by decide) (by decide) (rd_known htr hsep hW (by omega) hle hL (by omega) (by omega) (nx 4 24 (by omega) (by omega) hle))
      | 10, _ => exact gw_tableIn (off := 817) (tgt := 856) d_L_law_39.1 (by decide) (by decide) (by decide) (by decide) (rd_marks htr hsep hW (by omega) hle hL (by omega) (by omega) (nx 4 24 (by omega) (by omega) hle))
      | 11, _ => exact gw_tableIn (off := 873) (tgt := 912) d_L_law_39.1 (by decide) (by decide) (by decide) (by decide) (rd_bytes htr hsep hW (by omega) hle hL (by omega) (by omega) (nx 4 24 (by omega) (by omega) hle))
      | 12, _ => exact gw_tableIn (off := 929) (tgt := 968) d_L_law_39.1 (by decide) (by decide) (by decide) (by decide) (rd_same htr hsep hW (by omega) hle hL (by omega) (by omega) (nx 4 24 (by omega) (by omega) hle))
      | 13, _ => exact gw_tableIn (off := 1004) (tgt := 1043) d_L_law_39.1 (by decide) (by decide) (by decide) (by decide) (rd_room htr hsep hW (by omega) hle hL (by omega) (by omega) (nx 4 24 (by omega) (by omega) hle))
      | 14, _ => exact gw_tableIn (off := 1060) (tgt := 1099) d_L_law_39.1 (by decide) (by decide) (by decide) (by decide) (rd_item htr hsep hW (by omega) hle hL (by omega) (by omega) (nx 4 24 (by omega) (by omega) hle))
      | 15, _ => exact gw_tableIn (off := 1140) (tgt := 1179) d_L_law_39.1 (by decide) (by decide) (by decide) (by decide) (rd_leftOut hsep hW (by omega) (by omega) (nx 4 24 (by omega) (by omega) hle))
      | j + 16, hj => exact absurd hj (by omega)
    refine gw_il4 d_L_law_23 ?_
    refine gw_al0 d_L_law_25 ?_
    refine gw_slen d_L_law_26 ?_
    refine gw_push d_L_law_27 ?_
    refine gw_isub d_L_law_28 ?_
    refine gw_icgt d_L_law_29 (fun c_29 => ?_) (fun c_29 => ?_)
    · refine gw_push d_L_law_1198 ?_
      exact gw_lret d_L_law_1199 (by omega) (by omega)
    · exact body (by have z : ¬ L < 5 * t + 5 := fun q => c_29 ((sub5 hL ht).mpr q); omega)
theorem law_0 {sz0 : Nat} (htr : l.stackTraces = false) (hL : L ≤ 2560) (hbb : gBase G ≤ sz0) : GW G l (Zl G b L xs) room_1 M_L_law 0 [some (.ref b), none, none, none, none, none, none] [] (fun _ => none) sz0 0 0 := by
  refine gw_new [.null, .null, .null, .int 0] d_L_law_0 nw_L_law_0 (Nat.le_of_ble_eq_true rfl) (Nat.le_of_ble_eq_true rfl) ?_
  refine gw_dup d_L_law_3 rfl ?_
  refine gw_cI0 d_L_law_4 cs_L_law_4 (c_F_init (gUp_self _ _ _)) (fun h1 sz1 hp hz => ?_)
  obtain ⟨hCI, hFr, rfl⟩ := hp
  refine GW.wf (fun wf1 => ?_)
  refine gw_as1 d_L_law_7 ?_
  refine gw_new [.int 0, .int 0, .null, .null, .null, .null, .null, .null, .null, .null, .null, .int 0] d_L_law_8 nw_L_law_8 (Nat.le_of_ble_eq_true rfl) (Nat.le_of_ble_eq_true rfl) ?_
  refine gw_dup d_L_law_11 rfl ?_
  refine gw_cI0 d_L_law_12 cs_L_law_12 (c_R_init (gUp_self _ _ _)) (fun h3 sz3 hp hz3 => ?_)
  obtain ⟨hM, hFr3, rfl⟩ := hp
  refine GW.wf (fun wf3 => ?_)
  refine gw_as2 d_L_law_15 ?_
  refine gw_push d_L_law_16 ?_
  refine gw_newL d_L_law_17 gw_aL 1 rfl (by decide) (Nat.le_of_ble_eq_true rfl) (Nat.le_of_ble_eq_true rfl) ?_
  refine gw_as3 d_L_law_19 ?_
  refine gw_push d_L_law_20 ?_
  refine gw_is4 d_L_law_21 ?_
  have hC1 := hCI (fun _ => 0, fun _ => 0, fun _ => 0, fun _ => 0, fun _ _ => 0)
  have hC4 : CI G (fun _ => 0, fun _ => 0, fun _ => 0, fun _ => 0, fun _ _ => 0) (layY sz0 (sz0 + 1)) (gUp h3 (sz0 + 1 + 31 + 1 + 9) (gL 1 (fun _ => 0))) (fun _ => gDce G) (fun _ => []) (fun _ _ => 0) 0 := by
    refine hC1.keepG (fun q E hb hc => ?_)
    have hlt := (wf1 q E hb).2
    rw [gUp_ne _ _ (by omega), hFr3 q (by omega) (by simp; omega), gUp_ne _ _ (by omega)]
    exact hb
  have hM4 : MV (gUp h3 (sz0 + 1 + 31 + 1 + 9) (gL 1 (fun _ => 0))) (sz0 + 1 + 31) (fun k => sz0 + 1 + 31 + 1 + k) 0 0 0 gU0 := hM.ext (fun q E hb => by
    have hlt := (wf3 q E hb).2
    rw [gUp_ne _ _ (by omega)]; exact hb)
  have hR : Rel (fun _ => 0, fun _ => 0, fun _ => 0, fun _ => 0, fun _ _ => 0) (fun _ => 0) (fun _ => 0) (fun _ _ => 0) (fun _ => []) (fun _ => [], fun _ _ => 0, 0) 0 0 gU0 (sz0 + 1 + 31 + 1 + 9 + 1) 0 := by
    refine ⟨fun v hv => absurd hv (Nat.not_lt_zero _), ⟨fun t _ => ⟨rfl, (by decide : 0 ≤ 200)⟩, fun _ _ _ _ => rfl⟩, fun s hs => ⟨List.Pairwise.nil, fun v => ⟨fun z => (by cases z), fun ⟨k, _, z⟩ => (by cases z)⟩, fun k _ v z => (by cases z)⟩, ⟨fun v hv => absurd hv (Nat.not_lt_zero _), fun _ _ _ _ _ _ => Nat.le_refl _, fun v hv => absurd hv (Nat.not_lt_zero _), fun s k v _ _ z => (by cases z), fun v w hv => absurd hv (Nat.not_lt_zero _), fun v w hv => absurd hv (Nat.not_lt_zero _), fun v => Or.inr ⟨0, by decide, rfl⟩⟩, ⟨fun _ _ => rfl, fun c hc => ⟨rfl, fun k hk => absurd hk (Nat.not_lt_zero _)⟩⟩, rfl, fun _ => (by decide : 0 < 10), fun _ => (by decide : 0 < 4), fun _ => (by decide : 0 ≤ 4100), fun _ => (by decide : 0 < 4100), fun _ => (by decide : 0 ≤ 20)⟩
  exact law_loop (Y := layY sz0 (sz0 + 1)) (m := sz0 + 1 + 31) (oa := sz0 + 1 + 31 + 1 + 9) (A := fun k => sz0 + 1 + 31 + 1 + k) htr (fun i hi => by
    show (if i < 4 then sz0 + 1 + 4 + 4 * i else sz0 + 1 + 5 + 4 * i) ≠ sz0 + 1 + 31 + 1 + 5
    split <;> omega) hL 513 0 _ _ _ _ (by omega) (by omega) ⟨_, _, _, _, _, 0, 0, 0, gU0, _, _, _, _, _, hC4, hM4, hR, gUp_self _ _ _, Nat.le_refl _⟩
end Lp
