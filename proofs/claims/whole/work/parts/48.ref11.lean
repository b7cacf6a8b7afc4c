/-! ===== the reference: its public methods (4) ===== -/
section RefL
variable {G : gG} {l : Launch} {h : gHp} {sz m : Nat} {A : Nat → Nat} {th : Int32} {vs : Nat} {lf : Int32} {U : gU}
theorem c_R_item (hM : MV h m A th vs lf U) {c k q : Int32} : SM G l 3 y_R_item M_R_item [.ref m, .int c, .int k, .int q] h sz 0 0 (mP h m A vs lf U (if okN c 3 && okN k (uM U c.toNatClampNeg) then (if okN q 6 then 0 else 2) else 1) (if okN c 3 && okN k (uM U c.toNatClampNeg) then (if okN q 6 then (let v := uR U (20 * c.toNatClampNeg + k.toNatClampNeg); if q = 0 then nI (uD U v) else if q = 1 then uL U v else mVc U v (q.toNatClampNeg - 2)) else 0) else 0) sz) := by
  have h0 := hM.1
  have a7 := hM.2.2.2.2.2.2.2.2.1
  have b5 := hM.2.2.2.2.2.2.2.2.2.2.2.2.2.2.2
  refine SM.of (lv0 := [some (.ref m), some (.int c), some (.int k), some (.int q), none]) (by decide +kernel) rfl ⟨rfl, rfl⟩ rfl (by simp [Value.category]) (Nat.le_of_ble_eq_true rfl) ?_
  have bad : ∀ z T X, T = (1 : Int32) → X = (0 : Int32) → z = T → GM G l 3 0 0 (mP h m A vs lf U z X sz) M_R_item 24 [some (.ref m), some (.int c), some (.int k), some (.int q), none] [.ref m] h sz 0 0 := by
    intro z T X hT hX hz
    subst hz; subst hT; subst hX
    refine gw_push d_R_item_24 ?_
    refine gw_goto d_R_item_25 ?_
    refine gw_pf0 d_R_item_42 h0 rfl rfl ?_
    refine gw_al0 d_R_item_45 ?_
    refine gw_get d_R_item_46 (gUp_self _ _ _) (by rfl) ?_
    refine gw_ifle d_R_item_49 (fun c_49 => absurd c_49 (by decide)) (fun c_49 => ?_)
    refine gw_push d_R_item_52 ?_
    exact gw_iret d_R_item_53 rfl (Nat.le_refl _) (Nat.le_refl _) ⟨rfl, hM.ob, MF.obj, rfl⟩
  cases hp : okN c 3
  · refine gw_al0 d_R_item_0 ?_
    refine gw_il1 d_R_item_1 ?_
    refine gw_push d_R_item_2 ?_
    refine gw_push d_R_item_3 ?_
    refine gw_rS3 d_R_item_4 cs_R_item_4 (c_R_within (n := 2) (by decide)) ?_; rw [hp]
    refine gw_ifeq d_R_item_7 (fun c_7 => ?_) (fun c_7 => absurd rfl c_7)
    exact bad _ 1 _ rfl rfl rfl
  · obtain ⟨i, hi, rfl⟩ := okN_t (by decide) hp
    rw [nI_clamp (by omega)]
    have bi := b5 i
    cases hk : okN k (uM U i)
    · refine gw_al0 d_R_item_0 ?_
      refine gw_il1 d_R_item_1 ?_
      refine gw_push d_R_item_2 ?_
      refine gw_push d_R_item_3 ?_
      refine gw_rS3 d_R_item_4 cs_R_item_4 (c_R_within (n := 2) (by decide)) ?_; rw [hp]
      refine gw_ifeq d_R_item_7 (fun c_7 => absurd c_7 (by decide)) (fun c_7 => ?_)
      refine gw_il2 d_R_item_10 ?_
      refine gw_iflt d_R_item_11 (fun c_11 => ?_) (fun c_11 => ?_)
      · exact bad _ 1 _ rfl rfl rfl
      · refine gw_il2 d_R_item_14 ?_
        refine gw_al0 d_R_item_15 ?_
        refine gw_get d_R_item_16 (by assumption) (by rfl) ?_
        refine gw_il1 d_R_item_19 ?_
        refine gw_iald d_R_item_20 a7 i rfl hi (by omega) ?_
        refine gw_iclt d_R_item_21 (fun c_21 => absurd (okN_ok _ c_11 c_21) (by rw [hk]; decide)) (fun c_21 => ?_)
        exact bad _ 1 _ rfl rfl rfl
    · obtain ⟨k', hk', rfl⟩ := okN_t (by omega) hk
      have ek : (nI k').toNatClampNeg = k' := nI_clamp (by omega)
      cases hq : okN q 6
      · refine gw_al0 d_R_item_0 ?_
        refine gw_il1 d_R_item_1 ?_
        refine gw_push d_R_item_2 ?_
        refine gw_push d_R_item_3 ?_
        refine gw_rS3 d_R_item_4 cs_R_item_4 (c_R_within (n := 2) (by decide)) ?_; rw [hp]
        refine gw_ifeq d_R_item_7 (fun c_7 => absurd c_7 (by decide)) (fun c_7 => ?_)
        refine gw_il2 d_R_item_10 ?_
        refine gw_iflt d_R_item_11 (fun c_11 => absurd c_11 (nI_pos (by omega))) (fun c_11 => ?_)
        refine gw_il2 d_R_item_14 ?_
        refine gw_al0 d_R_item_15 ?_
        refine gw_get d_R_item_16 (by assumption) (by rfl) ?_
        refine gw_il1 d_R_item_19 ?_
        refine gw_iald d_R_item_20 a7 i rfl hi (by omega) ?_
        refine gw_iclt d_R_item_21 (fun c_21 => ?_) (fun c_21 => absurd (nI_lt hk' (by omega)) c_21)
        refine gw_il3 d_R_item_28 ?_
        refine gw_push d_R_item_29 ?_
        refine gw_push d_R_item_30 ?_
        refine gw_rS3 d_R_item_31 cs_R_item_31 (c_R_within (n := 5) (by decide)) ?_; rw [hq]
        refine gw_ifne d_R_item_34 (fun c_34 => absurd rfl c_34) (fun c_34 => ?_)
        refine gw_push d_R_item_37 ?_
        refine gw_goto d_R_item_38 ?_
        refine gw_pf0 d_R_item_42 h0 rfl rfl ?_
        refine gw_al0 d_R_item_45 ?_
        refine gw_get d_R_item_46 (gUp_self _ _ _) (by rfl) ?_
        refine gw_ifle d_R_item_49 (fun c_49 => absurd c_49 (by decide)) (fun c_49 => ?_)
        refine gw_push d_R_item_52 ?_
        exact gw_iret d_R_item_53 rfl (Nat.le_refl _) (Nat.le_refl _) ⟨rfl, hM.ob, MF.obj, rfl⟩
      · obtain ⟨q', hq', rfl⟩ := okN_t (by decide) hq
        have eq : (nI q').toNatClampNeg = q' := nI_clamp (by omega)
        have hM1 : MV (gUp h m (gO 6 [.int 0, .int (nI vs), .ref (A 0), .ref (A 1), .ref (A 2), .ref (A 3), .ref (A 4), .ref (A 5), .ref (A 6), .ref (A 7), .ref (A 8), .int lf])) m A 0 vs lf U := hM.ob
        have g0 := hM1.1
        have gD := hM1.2.1
        have g2 := hM1.2.2.2.1
        have g8 := hM1.2.2.2.2.2.2.2.2.2.1
        have hv := hM1.2.2.2.2.2.2.2.2.2.2.2.2.2.2.1 (20 * i + k')
        rw [ek, eq]
        refine gw_al0 d_R_item_0 ?_
        refine gw_il1 d_R_item_1 ?_
        refine gw_push d_R_item_2 ?_
        refine gw_push d_R_item_3 ?_
        refine gw_rS3 d_R_item_4 cs_R_item_4 (c_R_within (n := 2) (by decide)) ?_; rw [hp]
        refine gw_ifeq d_R_item_7 (fun c_7 => absurd c_7 (by decide)) (fun c_7 => ?_)
        refine gw_il2 d_R_item_10 ?_
        refine gw_iflt d_R_item_11 (fun c_11 => absurd c_11 (nI_pos (by omega))) (fun c_11 => ?_)
        refine gw_il2 d_R_item_14 ?_
        refine gw_al0 d_R_item_15 ?_
        refine gw_get d_R_item_16 (by assumption) (by rfl) ?_
        refine gw_il1 d_R_item_19 ?_
        refine gw_iald d_R_item_20 a7 i rfl hi (by omega) ?_
        refine gw_iclt d_R_item_21 (fun c_21 => ?_) (fun c_21 => absurd (nI_lt hk' (by omega)) c_21)
        refine gw_il3 d_R_item_28 ?_
        refine gw_push d_R_item_29 ?_
        refine gw_push d_R_item_30 ?_
        refine gw_rS3 d_R_item_31 cs_R_item_31 (c_R_within (n := 5) (by decide)) ?_; rw [hq]
        refine gw_ifne d_R_item_34 (fun c_34 => ?_) (fun c_34 => absurd c_34 (by decide))
        refine gw_push d_R_item_41 ?_
        refine gw_pf0 d_R_item_42 h0 rfl rfl ?_
        refine gw_al0 d_R_item_45 ?_
        refine gw_get d_R_item_46 (gUp_self _ _ _) (by rfl) ?_
        refine gw_ifle d_R_item_49 (fun c_49 => ?_) (fun c_49 => absurd (by decide) c_49)
        refine gw_al0 d_R_item_54 ?_
        refine gw_get d_R_item_55 (by assumption) (by rfl) ?_
        refine gw_push d_R_item_58 ?_
        refine gw_il1 d_R_item_60 ?_
        refine gw_imul d_R_item_61 ?_; first | rw [m_4] | rw [m_40] | rw [m_160] | rw [m_20] | skip
        refine gw_il2 d_R_item_62 ?_
        refine gw_iadd d_R_item_63 ?_; first | rw [nI_add] | rw [p_4] | rw [p_40] | skip
        refine gw_iald d_R_item_64 g8 (20 * i + k') rfl (by omega) (by omega) ?_
        refine gw_is4 d_R_item_65 ?_
        refine gw_il3 d_R_item_67 ?_
        refine gw_ifne d_R_item_68 (fun c_68 => ?_) (fun c_68 => ?_)
        · refine gw_il3 d_R_item_81 ?_
          refine gw_push d_R_item_82 ?_
          refine gw_icne d_R_item_83 (fun c_83 => ?_) (fun c_83 => ?_)
          · refine gw_al0 d_R_item_96 ?_
            refine gw_il4 d_R_item_97 ?_
            refine gw_il3 d_R_item_99 ?_
            refine gw_push d_R_item_100 ?_
            have h2q : 2 ≤ q' := (by have z0 : q' ≠ 0 := (fun z => c_68 (by rw [z]; rfl)); have z1 : q' ≠ 1 := (fun z => c_83 (by rw [z]; rfl)); omega); refine gw_isub d_R_item_101 ?_; rw [n_lit 2, pk_sub h2q]
            refine gw_rV2 d_R_item_102 cs_R_item_102 g0 (c_R_counterOf hM1 hv (by omega)) ?_
            first | exact gw_iret d_R_item_105 rfl (Nat.le_refl _) (Nat.le_refl _) ⟨by show _ = Sum.inl (some (Value.int (if nI q' = 0 then _ else if nI q' = 1 then _ else _))); rw [if_neg c_68, if_neg c_83], hM1, MF.obj, rfl⟩ | exact gw_iret d_R_item_105 rfl (Nat.le_refl _) (Nat.le_refl _) ⟨by show _ = Sum.inl (some (Value.int (if nI q' = 0 then _ else if nI q' = 1 then _ else _))); rw [if_neg c_68, if_pos c_83], hM1, MF.obj, rfl⟩ | exact gw_iret d_R_item_105 rfl (Nat.le_refl _) (Nat.le_refl _) ⟨by show _ = Sum.inl (some (Value.int (if nI q' = 0 then _ else if nI q' = 1 then _ else _))); rw [if_pos c_68], hM1, MF.obj, rfl⟩
          · refine gw_al0 d_R_item_86 ?_
            refine gw_get d_R_item_87 (by assumption) (by rfl) ?_
            refine gw_il4 d_R_item_90 ?_
            refine gw_iald d_R_item_92 g2 (uR U (20 * i + k')) rfl hv (by omega) ?_
            refine gw_goto d_R_item_93 ?_
            first | exact gw_iret d_R_item_105 rfl (Nat.le_refl _) (Nat.le_refl _) ⟨by show _ = Sum.inl (some (Value.int (if nI q' = 0 then _ else if nI q' = 1 then _ else _))); rw [if_neg c_68, if_neg c_83], hM1, MF.obj, rfl⟩ | exact gw_iret d_R_item_105 rfl (Nat.le_refl _) (Nat.le_refl _) ⟨by show _ = Sum.inl (some (Value.int (if nI q' = 0 then _ else if nI q' = 1 then _ else _))); rw [if_neg c_68, if_pos c_83], hM1, MF.obj, rfl⟩ | exact gw_iret d_R_item_105 rfl (Nat.le_refl _) (Nat.le_refl _) ⟨by show _ = Sum.inl (some (Value.int (if nI q' = 0 then _ else if nI q' = 1 then _ else _))); rw [if_pos c_68], hM1, MF.obj, rfl⟩
        · refine gw_al0 d_R_item_71 ?_
          refine gw_get d_R_item_72 (by assumption) (by rfl) ?_
          refine gw_il4 d_R_item_75 ?_
          refine gw_iald d_R_item_77 gD (uR U (20 * i + k')) rfl hv (by omega) ?_
          refine gw_goto d_R_item_78 ?_
          first | exact gw_iret d_R_item_105 rfl (Nat.le_refl _) (Nat.le_refl _) ⟨by show _ = Sum.inl (some (Value.int (if nI q' = 0 then _ else if nI q' = 1 then _ else _))); rw [if_neg c_68, if_neg c_83], hM1, MF.obj, rfl⟩ | exact gw_iret d_R_item_105 rfl (Nat.le_refl _) (Nat.le_refl _) ⟨by show _ = Sum.inl (some (Value.int (if nI q' = 0 then _ else if nI q' = 1 then _ else _))); rw [if_neg c_68, if_pos c_83], hM1, MF.obj, rfl⟩ | exact gw_iret d_R_item_105 rfl (Nat.le_refl _) (Nat.le_refl _) ⟨by show _ = Sum.inl (some (Value.int (if nI q' = 0 then _ else if nI q' = 1 then _ else _))); rw [if_pos c_68], hM1, MF.obj, rfl⟩
theorem c_R_lose (hM : MV h m A th vs lf U) {c : Int32} : SM G l 2 y_R_lose M_R_lose [.ref m, .int c] h sz 0 0 (fun r h' sz' => sz' = sz ∧ ((okN c 3 = false ∧ r = .inl (some (.int 0)) ∧ MV h' m A 1 vs lf U ∧ MF h h' m A) ∨ ∃ i, i < 3 ∧ c = nI i ∧ r = .inl (some (.int (nI (uM U i)))) ∧ MV h' m A 0 vs lf (tN (tM U (va_up (uM U) i 0)) (zrN (uN U) i 160)) ∧ MF h h' m A)) := by
  have h0 := hM.1
  refine SM.of (lv0 := [some (.ref m), some (.int c), none, none]) (by decide +kernel) rfl ⟨rfl, rfl⟩ rfl (by simp [Value.category]) (Nat.le_of_ble_eq_true rfl) ?_
  cases hp : okN c 3
  · refine gw_al0 d_R_lose_0 ?_
    refine gw_il1 d_R_lose_1 ?_
    refine gw_push d_R_lose_2 ?_
    refine gw_push d_R_lose_3 ?_
    refine gw_rS3 d_R_lose_4 cs_R_lose_4 (c_R_within (n := 2) (by decide)) ?_; rw [hp]
    refine gw_ifeq d_R_lose_7 (fun c_7 => ?_) (fun c_7 => absurd rfl c_7)
    refine gw_push d_R_lose_14 ?_
    refine gw_pf0 d_R_lose_15 h0 rfl rfl ?_
    refine gw_al0 d_R_lose_18 ?_
    refine gw_get d_R_lose_19 (gUp_self _ _ _) (by rfl) ?_
    refine gw_ifle d_R_lose_22 (fun c_22 => absurd c_22 (by decide)) (fun c_22 => ?_)
    refine gw_push d_R_lose_25 ?_
    exact gw_iret d_R_lose_26 rfl (Nat.le_refl _) (Nat.le_refl _) ⟨rfl, Or.inl ⟨rfl, rfl, hM.ob, MF.obj⟩⟩
  · obtain ⟨i, hi, rfl⟩ := okN_t (by decide) hp
    have hM1 : MV (gUp h m (gO 6 [.int 0, .int (nI vs), .ref (A 0), .ref (A 1), .ref (A 2), .ref (A 3), .ref (A 4), .ref (A 5), .ref (A 6), .ref (A 7), .ref (A 8), .int lf])) m A 0 vs lf U := hM.ob
    have g0 := hM1.1
    have g7 := hM1.2.2.2.2.2.2.2.2.1
    have b5 := hM1.2.2.2.2.2.2.2.2.2.2.2.2.2.2.2
    have loop : ∀ n k (h1 : gHp), k ≤ 160 → 160 - k < n → MV h1 m A 0 vs lf (tN (tM U (va_up (uM U) i 0)) (zrN (uN U) i k)) → MF h h1 m A → GM G l 2 0 0 (fun r h' sz' => sz' = sz ∧ ((true = false ∧ r = .inl (some (.int 0)) ∧ MV h' m A 1 vs lf U ∧ MF h h' m A) ∨ ∃ i2, i2 < 3 ∧ nI i = nI i2 ∧ r = .inl (some (.int (nI (uM U i2)))) ∧ MV h' m A 0 vs lf (tN (tM U (va_up (uM U) i2 0)) (zrN (uN U) i2 160)) ∧ MF h h' m A)) M_R_lose 43 [some (.ref m), some (.int (nI i)), some (.int (nI (uM U i))), some (.int (nI k))] [] h1 sz 0 0 := by
      intro n
      induction n with
      | zero => intro k _ _ hj; exact absurd hj (Nat.not_lt_zero _)
      | succ n ih =>
        intro k h1 hk hm hM2 hF
        have k0 := hM2.1
        have k6 := hM2.2.2.2.2.2.2.2.1
        refine gw_il3 d_R_lose_43 ?_
        refine gw_push d_R_lose_44 ?_
        refine gw_icge d_R_lose_47 (fun c_47 => ?_) (fun c_47 => ?_)
        · refine gw_il2 d_R_lose_71 ?_
          have q4 := n_le (a := 160) c_47 (by decide) (by omega); obtain rfl : k = 160 := (by omega); exact gw_iret d_R_lose_72 rfl (Nat.le_refl _) (Nat.le_refl _) ⟨rfl, Or.inr ⟨i, hi, rfl, rfl, hM2, hF⟩⟩
        · refine gw_al0 d_R_lose_50 ?_
          refine gw_get d_R_lose_51 (by assumption) (by rfl) ?_
          refine gw_push d_R_lose_54 ?_
          refine gw_push d_R_lose_57 ?_
          refine gw_il1 d_R_lose_58 ?_
          refine gw_iadd d_R_lose_59 ?_; first | rw [nI_add] | rw [p_4] | rw [p_40] | skip
          refine gw_imul d_R_lose_60 ?_; first | rw [m_4] | rw [m_40] | rw [m_160] | rw [m_20] | skip
          refine gw_il3 d_R_lose_61 ?_
          refine gw_iadd d_R_lose_62 ?_; first | rw [nI_add] | rw [p_4] | rw [p_40] | skip
          refine gw_push d_R_lose_63 ?_
          have hlt := n_nle (a := 160) c_47 (by decide) (by omega); refine gw_iast d_R_lose_64 k6 (160 * (4 + i) + k) rfl (by omega) (by omega) ?_
          exact gw_ii3 d_R_lose_65 (by rw [n_s]; exact gw_goto d_R_lose_68 (ih (k + 1) _ (by omega) (by omega) (hM2.putN (f := zrN (uN U) i (k + 1))) (hF.trans (MF.arr (by omega)))))
    refine gw_al0 d_R_lose_0 ?_
    refine gw_il1 d_R_lose_1 ?_
    refine gw_push d_R_lose_2 ?_
    refine gw_push d_R_lose_3 ?_
    refine gw_rS3 d_R_lose_4 cs_R_lose_4 (c_R_within (n := 2) (by decide)) ?_; rw [hp]
    refine gw_ifeq d_R_lose_7 (fun c_7 => absurd c_7 (by decide)) (fun c_7 => ?_)
    refine gw_push d_R_lose_10 ?_
    refine gw_goto d_R_lose_11 ?_
    refine gw_pf0 d_R_lose_15 h0 rfl rfl ?_
    refine gw_al0 d_R_lose_18 ?_
    refine gw_get d_R_lose_19 (gUp_self _ _ _) (by rfl) ?_
    refine gw_ifle d_R_lose_22 (fun c_22 => ?_) (fun c_22 => absurd (by decide) c_22)
    refine gw_al0 d_R_lose_27 ?_
    refine gw_get d_R_lose_28 (by assumption) (by rfl) ?_
    refine gw_il1 d_R_lose_31 ?_
    refine gw_iald d_R_lose_32 g7 i rfl hi (by omega) ?_
    refine gw_is2 d_R_lose_33 ?_
    refine gw_al0 d_R_lose_34 ?_
    refine gw_get d_R_lose_35 (by assumption) (by rfl) ?_
    refine gw_il1 d_R_lose_38 ?_
    refine gw_push d_R_lose_39 ?_
    refine gw_iast d_R_lose_40 g7 i rfl hi (by omega) ?_
    refine gw_push d_R_lose_41 ?_
    refine gw_is3 d_R_lose_42 ?_
    have z := hM1.putM (f := va_up (uM U) i 0) (va_up_le b5 (by omega)); rw [← upd_nI] at z; exact loop 161 0 _ (by omega) (by omega) z (MF.obj.trans (MF.arr (by omega)))
theorem c_R_copy (hM : MV h m A th vs lf U) {c e : Int32} : SM G l 2 y_R_copy M_R_copy [.ref m, .int c, .int e] h sz 0 0 (fun r h' sz' => r = .inl none ∧ sz' = sz ∧ (((okN c 3 && okN e 3) = false ∧ MV h' m A 1 vs lf U ∧ MF h h' m A) ∨ ∃ i j, i < 3 ∧ j < 3 ∧ c = nI i ∧ e = nI j ∧ MV h' m A 0 vs lf (tN (tR (tM U (va_up (uM U) j (uM U i))) (cpR (uR U) i j 20)) (cpT (uN U) i j 160)) ∧ MF h h' m A)) := by
  have h0 := hM.1
  refine SM.of (lv0 := [some (.ref m), some (.int c), some (.int e), none]) (by decide +kernel) rfl ⟨rfl, rfl⟩ rfl (by simp [Value.category]) (Nat.le_of_ble_eq_true rfl) ?_
  have bad : ∀ z, z = false → GM G l 2 0 0 (fun r h' sz' => r = .inl none ∧ sz' = sz ∧ ((z = false ∧ MV h' m A 1 vs lf U ∧ MF h h' m A) ∨ ∃ i j, i < 3 ∧ j < 3 ∧ c = nI i ∧ e = nI j ∧ MV h' m A 0 vs lf (tN (tR (tM U (va_up (uM U) j (uM U i))) (cpR (uR U) i j 20)) (cpT (uN U) i j 160)) ∧ MF h h' m A)) M_R_copy 19 [some (.ref m), some (.int c), some (.int e), none] [.ref m] h sz 0 0 := by
    intro z hz
    subst hz
    refine gw_push d_R_copy_19 ?_
    refine gw_goto d_R_copy_20 ?_
    refine gw_pf0 d_R_copy_24 h0 rfl rfl ?_
    refine gw_al0 d_R_copy_27 ?_
    refine gw_get d_R_copy_28 (gUp_self _ _ _) (by rfl) ?_
    refine gw_ifle d_R_copy_31 (fun c_31 => absurd c_31 (by decide)) (fun c_31 => ?_)
    exact gw_vret d_R_copy_34 rfl (Nat.le_refl _) (Nat.le_refl _) ⟨rfl, rfl, Or.inl ⟨rfl, hM.ob, MF.obj⟩⟩
  cases hp : okN c 3
  · refine gw_al0 d_R_copy_0 ?_
    refine gw_il1 d_R_copy_1 ?_
    refine gw_push d_R_copy_2 ?_
    refine gw_push d_R_copy_3 ?_
    refine gw_rS3 d_R_copy_4 cs_R_copy_4 (c_R_within (n := 2) (by decide)) ?_; rw [hp]
    refine gw_ifeq d_R_copy_7 (fun c_7 => ?_) (fun c_7 => absurd rfl c_7)
    exact bad _ rfl
  · cases hp2 : okN e 3
    · refine gw_al0 d_R_copy_0 ?_
      refine gw_il1 d_R_copy_1 ?_
      refine gw_push d_R_copy_2 ?_
      refine gw_push d_R_copy_3 ?_
      refine gw_rS3 d_R_copy_4 cs_R_copy_4 (c_R_within (n := 2) (by decide)) ?_; rw [hp]
      refine gw_ifeq d_R_copy_7 (fun c_7 => absurd c_7 (by decide)) (fun c_7 => ?_)
      refine gw_il2 d_R_copy_10 ?_
      refine gw_push d_R_copy_11 ?_
      refine gw_push d_R_copy_12 ?_
      refine gw_rS3 d_R_copy_13 cs_R_copy_13 (c_R_within (n := 2) (by decide)) ?_; rw [hp2]
      refine gw_ifne d_R_copy_16 (fun c_16 => absurd rfl c_16) (fun c_16 => ?_)
      exact bad _ rfl
    · obtain ⟨i, hi, rfl⟩ := okN_t (by decide) hp
      obtain ⟨j, hj, rfl⟩ := okN_t (by decide) hp2
      have hM1 : MV (gUp h m (gO 6 [.int 0, .int (nI vs), .ref (A 0), .ref (A 1), .ref (A 2), .ref (A 3), .ref (A 4), .ref (A 5), .ref (A 6), .ref (A 7), .ref (A 8), .int lf])) m A 0 vs lf U := hM.ob
      have g0 := hM1.1
      have g7 := hM1.2.2.2.2.2.2.2.2.1
      obtain ⟨b1, b2, b3, b4, b5⟩ := hM1.2.2.2.2.2.2.2.2.2.2.2
      obtain ⟨Q, hQ⟩ : ∃ Q : gRs → gHp → Nat → Prop, Q = (fun r h' sz' => r = .inl none ∧ sz' = sz ∧ (((true && true) = false ∧ MV h' m A 1 vs lf U ∧ MF h h' m A) ∨ ∃ i2 j2, i2 < 3 ∧ j2 < 3 ∧ nI i = nI i2 ∧ nI j = nI j2 ∧ MV h' m A 0 vs lf (tN (tR (tM U (va_up (uM U) j2 (uM U i2))) (cpR (uR U) i2 j2 20)) (cpT (uN U) i2 j2 160)) ∧ MF h h' m A)) := ⟨_, rfl⟩
      rw [← hQ]
      have loop2 : ∀ n k (h1 : gHp), k ≤ 160 → 160 - k < n → MV h1 m A 0 vs lf (tN (tR (tM U (va_up (uM U) j (uM U i))) (cpR (uR U) i j 20)) (cpT (uN U) i j k)) → MF h h1 m A → GM G l 2 0 0 Q M_R_copy 85 [some (.ref m), some (.int (nI i)), some (.int (nI j)), some (.int (nI k))] [] h1 sz 0 0 := by
        intro n
        induction n with
        | zero => intro k _ _ hj; exact absurd hj (Nat.not_lt_zero _)
        | succ n ih =>
          intro k h1 hk hm hM2 hF
          have k0 := hM2.1
          have k6 := hM2.2.2.2.2.2.2.2.1
          refine gw_il3 d_R_copy_85 ?_
          refine gw_push d_R_copy_86 ?_
          refine gw_icge d_R_copy_89 (fun c_89 => ?_) (fun c_89 => ?_)
          · have q4 := n_le (a := 160) c_89 (by decide) (by omega); obtain rfl : k = 160 := (by omega); exact gw_vret d_R_copy_126 rfl (Nat.le_refl _) (Nat.le_refl _) (by rw [hQ]; exact ⟨rfl, rfl, Or.inr ⟨i, j, hi, hj, rfl, rfl, hM2, hF⟩⟩)
          · refine gw_al0 d_R_copy_92 ?_
            refine gw_get d_R_copy_93 (by assumption) (by rfl) ?_
            refine gw_push d_R_copy_96 ?_
            refine gw_push d_R_copy_99 ?_
            refine gw_il2 d_R_copy_100 ?_
            refine gw_iadd d_R_copy_101 ?_; first | rw [nI_add] | rw [p_4] | rw [p_40] | skip
            refine gw_imul d_R_copy_102 ?_; first | rw [m_4] | rw [m_40] | rw [m_160] | rw [m_20] | skip
            refine gw_il3 d_R_copy_103 ?_
            refine gw_iadd d_R_copy_104 ?_; first | rw [nI_add] | rw [p_4] | rw [p_40] | skip
            refine gw_al0 d_R_copy_105 ?_
            refine gw_get d_R_copy_106 (by assumption) (by rfl) ?_
            refine gw_push d_R_copy_109 ?_
            refine gw_push d_R_copy_112 ?_
            refine gw_il1 d_R_copy_113 ?_
            refine gw_iadd d_R_copy_114 ?_; first | rw [nI_add] | rw [p_4] | rw [p_40] | skip
            refine gw_imul d_R_copy_115 ?_; first | rw [m_4] | rw [m_40] | rw [m_160] | rw [m_20] | skip
            refine gw_il3 d_R_copy_116 ?_
            refine gw_iadd d_R_copy_117 ?_; first | rw [nI_add] | rw [p_4] | rw [p_40] | skip
            have hlt := n_nle (a := 160) c_89 (by decide) (by omega); refine gw_iald d_R_copy_118 k6 (160 * (4 + i) + k) rfl (by omega) (by omega) ?_
            refine gw_iast d_R_copy_119 k6 (160 * (4 + j) + k) rfl (by omega) (by omega) ?_
            exact gw_ii3 d_R_copy_120 (by rw [n_s]; exact gw_goto d_R_copy_123 (ih (k + 1) _ (by omega) (by omega) (hM2.putN (f := cpT (uN U) i j (k + 1))) (hF.trans (MF.arr (by omega)))))
      have loop : ∀ n k (h1 : gHp), k ≤ 20 → 20 - k < n → MV h1 m A 0 vs lf (tR (tM U (va_up (uM U) j (uM U i))) (cpR (uR U) i j k)) → MF h h1 m A → GM G l 2 0 0 Q M_R_copy 49 [some (.ref m), some (.int (nI i)), some (.int (nI j)), some (.int (nI k))] [] h1 sz 0 0 := by
        intro n
        induction n with
        | zero => intro k _ _ hj; exact absurd hj (Nat.not_lt_zero _)
        | succ n ih =>
          intro k h1 hk hm hM2 hF
          have k0 := hM2.1
          have k8 := hM2.2.2.2.2.2.2.2.2.2.1
          refine gw_il3 d_R_copy_49 ?_
          refine gw_push d_R_copy_50 ?_
          refine gw_icge d_R_copy_52 (fun c_52 => ?_) (fun c_52 => ?_)
          · refine gw_push d_R_copy_83 ?_
            refine gw_is3 d_R_copy_84 ?_
            have q4 := n_le (a := 20) c_52 (by decide) (by omega); obtain rfl : k = 20 := (by omega); exact loop2 161 0 h1 (by omega) (by omega) hM2 hF
          · refine gw_al0 d_R_copy_55 ?_
            refine gw_get d_R_copy_56 (by assumption) (by rfl) ?_
            refine gw_push d_R_copy_59 ?_
            refine gw_il2 d_R_copy_61 ?_
            refine gw_imul d_R_copy_62 ?_; first | rw [m_4] | rw [m_40] | rw [m_160] | rw [m_20] | skip
            refine gw_il3 d_R_copy_63 ?_
            refine gw_iadd d_R_copy_64 ?_; first | rw [nI_add] | rw [p_4] | rw [p_40] | skip
            refine gw_al0 d_R_copy_65 ?_
            refine gw_get d_R_copy_66 (by assumption) (by rfl) ?_
            refine gw_push d_R_copy_69 ?_
            refine gw_il1 d_R_copy_71 ?_
            refine gw_imul d_R_copy_72 ?_; first | rw [m_4] | rw [m_40] | rw [m_160] | rw [m_20] | skip
            refine gw_il3 d_R_copy_73 ?_
            refine gw_iadd d_R_copy_74 ?_; first | rw [nI_add] | rw [p_4] | rw [p_40] | skip
            have hlt := n_nle (a := 20) c_52 (by decide) (by omega); refine gw_iald d_R_copy_75 k8 (20 * i + k) rfl (by omega) (by omega) ?_
            refine gw_iast d_R_copy_76 k8 (20 * j + k) rfl (by omega) (by omega) ?_; rw [upd_nI]
            exact gw_ii3 d_R_copy_77 (by rw [n_s]; exact gw_goto d_R_copy_80 (ih (k + 1) _ (by omega) (by omega) (hM2.putR (f := cpR (uR U) i j (k + 1)) (cpR_lt b4 (k + 1))) (hF.trans (MF.arr (by omega)))))
      refine gw_al0 d_R_copy_0 ?_
      refine gw_il1 d_R_copy_1 ?_
      refine gw_push d_R_copy_2 ?_
      refine gw_push d_R_copy_3 ?_
      refine gw_rS3 d_R_copy_4 cs_R_copy_4 (c_R_within (n := 2) (by decide)) ?_; rw [hp]
      refine gw_ifeq d_R_copy_7 (fun c_7 => absurd c_7 (by decide)) (fun c_7 => ?_)
      refine gw_il2 d_R_copy_10 ?_
      refine gw_push d_R_copy_11 ?_
      refine gw_push d_R_copy_12 ?_
      refine gw_rS3 d_R_copy_13 cs_R_copy_13 (c_R_within (n := 2) (by decide)) ?_; rw [hp2]
      refine gw_ifne d_R_copy_16 (fun c_16 => ?_) (fun c_16 => absurd c_16 (by decide))
      refine gw_push d_R_copy_23 ?_
      refine gw_pf0 d_R_copy_24 h0 rfl rfl ?_
      refine gw_al0 d_R_copy_27 ?_
      refine gw_get d_R_copy_28 (gUp_self _ _ _) (by rfl) ?_
      refine gw_ifle d_R_copy_31 (fun c_31 => ?_) (fun c_31 => absurd (by decide) c_31)
      refine gw_al0 d_R_copy_35 ?_
      refine gw_get d_R_copy_36 (by assumption) (by rfl) ?_
      refine gw_il2 d_R_copy_39 ?_
      refine gw_al0 d_R_copy_40 ?_
      refine gw_get d_R_copy_41 (by assumption) (by rfl) ?_
      refine gw_il1 d_R_copy_44 ?_
      refine gw_iald d_R_copy_45 g7 i rfl hi (by omega) ?_
      refine gw_iast d_R_copy_46 g7 j rfl hj (by omega) ?_; rw [upd_nI]
      refine gw_push d_R_copy_47 ?_
      refine gw_is3 d_R_copy_48 ?_
      exact loop 21 0 _ (by omega) (by omega) (hM1.putM (f := va_up (uM U) j (uM U i)) (va_up_le b5 (b5 i))) (MF.obj.trans (MF.arr (by omega)))
/-- what the reference needs to visit: the order of loading -/
def mHc (U : gU) (lf : Int32) (c s : Nat) (ds : Int32) (mo : Nat) (L : List Nat) : Prop := uM U c ≤ mo → mNx (vt4 (ulU U c s lf (min (uM U c) mo)) c s) s ds none 40 = L.head? ∧ NCh (vt4 (ulU U c s lf (min (uM U c) mo)) c s) s ds L
def mVq (h : gHp) (m : Nat) (A : Nat → Nat) (vs : Nat) (lf : Int32) (U : gU) (c s : Nat) (mo : Nat) (L : List Nat) (r : gRs) (h' : gHp) : Prop := ((mo < uM U c ∧ r = .inl (some (.int 0)) ∧ MV h' m A 0 vs (mUl U c s lf (min (uM U c) mo)).2 (ulU U c s lf (min (uM U c) mo))) ∨ (uM U c ≤ mo ∧ r = .inl (some (.int (nI (uM (mLd c (mo - uM U c) L (vt4 (ulU U c s lf (min (uM U c) mo)) c s)) c)))) ∧ MV h' m A 0 vs (mUl U c s lf (min (uM U c) mo)).2 (mLd c (mo - uM U c) L (vt4 (ulU U c s lf (min (uM U c) mo)) c s)))) ∧ MF h h' m A
theorem c_R_visit (hM : MV h m A th vs lf U) (hby : ∀ v, ∃ n, n ≤ 40 ∧ mBy U v = nI n) {ca st ds : Int32} {L : Nat → Nat → List Nat} (hch : ∀ c s, c < 3 → s < 4 → mHc U lf c s ds 1000000 (L c s)) : SM G l 6 y_R_visit M_R_visit [.ref m, .int ca, .int st, .int ds] h sz 0 0 (fun r h' sz' => sz' = sz ∧ (((okN ca 3 && okN st 4) = false ∧ r = .inl (some (.int 0)) ∧ MV h' m A 1 vs lf U ∧ MF h h' m A) ∨ ∃ i c, i < 4 ∧ c < 3 ∧ st = nI i ∧ ca = nI c ∧ mVq h m A vs lf U c i 1000000 (L c i) r h')) := by
  have h0 := hM.1
  refine SM.of (lv0 := [some (.ref m), some (.int ca), some (.int st), some (.int ds)]) (by decide +kernel) rfl ⟨rfl, rfl⟩ rfl (by simp [Value.category]) (Nat.le_of_ble_eq_true rfl) ?_
  have bad : ∀ z, z = false → GM G l 6 0 0 (fun r h' sz' => sz' = sz ∧ ((z = false ∧ r = .inl (some (.int 0)) ∧ MV h' m A 1 vs lf U ∧ MF h h' m A) ∨ ∃ i c, i < 4 ∧ c < 3 ∧ st = nI i ∧ ca = nI c ∧ mVq h m A vs lf U c i 1000000 (L c i) r h')) M_R_visit 19 [some (.ref m), some (.int ca), some (.int st), some (.int ds)] [.ref m] h sz 0 0 := by
    intro z hz
    subst hz
    refine gw_push d_R_visit_19 ?_
    refine gw_goto d_R_visit_20 ?_
    refine gw_pf0 d_R_visit_24 h0 rfl rfl ?_
    refine gw_al0 d_R_visit_27 ?_
    refine gw_get d_R_visit_28 (gUp_self _ _ _) (by rfl) ?_
    refine gw_ifle d_R_visit_31 (fun c_31 => absurd c_31 (by decide)) (fun c_31 => ?_)
    refine gw_push d_R_visit_34 ?_
    refine gw_goto d_R_visit_35 ?_
    exact gw_iret d_R_visit_47 rfl (Nat.le_refl _) (Nat.le_refl _) ⟨rfl, Or.inl ⟨rfl, rfl, hM.ob, MF.obj⟩⟩
  cases hp : okN ca 3
  · refine gw_al0 d_R_visit_0 ?_
    refine gw_il1 d_R_visit_1 ?_
    refine gw_push d_R_visit_2 ?_
    refine gw_push d_R_visit_3 ?_
    refine gw_rS3 d_R_visit_4 cs_R_visit_4 (c_R_within (n := 2) (by decide)) ?_; rw [hp]
    refine gw_ifeq d_R_visit_7 (fun c_7 => ?_) (fun c_7 => absurd rfl c_7)
    exact bad _ rfl
  · cases hp2 : okN st 4
    · refine gw_al0 d_R_visit_0 ?_
      refine gw_il1 d_R_visit_1 ?_
      refine gw_push d_R_visit_2 ?_
      refine gw_push d_R_visit_3 ?_
      refine gw_rS3 d_R_visit_4 cs_R_visit_4 (c_R_within (n := 2) (by decide)) ?_; rw [hp]
      refine gw_ifeq d_R_visit_7 (fun c_7 => absurd c_7 (by decide)) (fun c_7 => ?_)
      refine gw_il2 d_R_visit_10 ?_
      refine gw_push d_R_visit_11 ?_
      refine gw_push d_R_visit_12 ?_
      refine gw_rS3 d_R_visit_13 cs_R_visit_13 (c_R_within (n := 3) (by decide)) ?_; rw [hp2]
      refine gw_ifne d_R_visit_16 (fun c_16 => absurd rfl c_16) (fun c_16 => ?_)
      exact bad _ rfl
    · obtain ⟨c, hc, rfl⟩ := okN_t (by decide) hp
      obtain ⟨i, hi, rfl⟩ := okN_t (by decide) hp2
      have hM1 : MV (gUp h m (gO 6 [.int 0, .int (nI vs), .ref (A 0), .ref (A 1), .ref (A 2), .ref (A 3), .ref (A 4), .ref (A 5), .ref (A 6), .ref (A 7), .ref (A 8), .int lf])) m A 0 vs lf U := hM.ob
      refine gw_al0 d_R_visit_0 ?_
      refine gw_il1 d_R_visit_1 ?_
      refine gw_push d_R_visit_2 ?_
      refine gw_push d_R_visit_3 ?_
      refine gw_rS3 d_R_visit_4 cs_R_visit_4 (c_R_within (n := 2) (by decide)) ?_; rw [hp]
      refine gw_ifeq d_R_visit_7 (fun c_7 => absurd c_7 (by decide)) (fun c_7 => ?_)
      refine gw_il2 d_R_visit_10 ?_
      refine gw_push d_R_visit_11 ?_
      refine gw_push d_R_visit_12 ?_
      refine gw_rS3 d_R_visit_13 cs_R_visit_13 (c_R_within (n := 3) (by decide)) ?_; rw [hp2]
      refine gw_ifne d_R_visit_16 (fun c_16 => ?_) (fun c_16 => absurd c_16 (by decide))
      refine gw_push d_R_visit_23 ?_
      refine gw_pf0 d_R_visit_24 h0 rfl rfl ?_
      refine gw_al0 d_R_visit_27 ?_
      refine gw_get d_R_visit_28 (gUp_self _ _ _) (by rfl) ?_
      refine gw_ifle d_R_visit_31 (fun c_31 => ?_) (fun c_31 => absurd (by decide) c_31)
      refine gw_al0 d_R_visit_38 ?_
      refine gw_il1 d_R_visit_39 ?_
      refine gw_il2 d_R_visit_40 ?_
      refine gw_il3 d_R_visit_41 ?_
      refine gw_push d_R_visit_42 ?_
      refine gw_cV4 d_R_visit_44 cs_R_visit_44 hM1.1 (c_R_visitUpTo hM1 hc hi (mo := 1000000) (by decide) hby (hch c i hc hi)) (fun v h1 sz1 hq hz => ?_) (fun E h1 sz1 hq _ => by obtain ⟨hq1 | hq1, -⟩ := hq; (· cases hq1.2.1); cases hq1.2.1); obtain ⟨⟨w1, w2, w3⟩ | ⟨w1, w2, w3⟩, w4, w5⟩ := hq
      · cases w2; subst w5; exact gw_iret d_R_visit_47 rfl (Nat.le_refl _) (Nat.le_refl _) ⟨rfl, Or.inr ⟨i, c, hi, hc, rfl, rfl, Or.inl ⟨w1, rfl, w3⟩, MF.obj.trans w4⟩⟩
      cases w2; subst w5
      exact gw_iret d_R_visit_47 rfl (Nat.le_refl _) (Nat.le_refl _) ⟨rfl, Or.inr ⟨i, c, hi, hc, rfl, rfl, Or.inr ⟨w1, rfl, w3⟩, MF.obj.trans w4⟩⟩
theorem c_R_cut (hM : MV h m A th vs lf U) (hby : ∀ v, ∃ n, n ≤ 40 ∧ mBy U v = nI n) {ca st ds n : Int32} {L : Nat → Nat → List Nat} (hch : ∀ mo, n = nI mo → mo < 2147483648 → ∀ c s, c < 3 → s < 4 → mHc U lf c s ds mo (L c s)) : SM G l 6 y_R_cut M_R_cut [.ref m, .int ca, .int st, .int ds, .int n] h sz 0 0 (fun r h' sz' => sz' = sz ∧ (((okN ca 3 && okN st 4) = false ∧ r = .inl (some (.int 0)) ∧ MV h' m A 1 vs lf U ∧ MF h h' m A) ∨ ((okN ca 3 && okN st 4) = true ∧ n < 0 ∧ r = .inl (some (.int 0)) ∧ MV h' m A 2 vs lf U ∧ MF h h' m A) ∨ ∃ i c mo, i < 4 ∧ c < 3 ∧ st = nI i ∧ ca = nI c ∧ n = nI mo ∧ mo < 2147483648 ∧ mVq h m A vs lf U c i mo (L c i) r h')) := by
  have h0 := hM.1
  refine SM.of (lv0 := [some (.ref m), some (.int ca), some (.int st), some (.int ds), some (.int n)]) (by decide +kernel) rfl ⟨rfl, rfl⟩ rfl (by simp [Value.category]) (Nat.le_of_ble_eq_true rfl) ?_
  have bad : ∀ z, z = false → GM G l 6 0 0 (fun r h' sz' => sz' = sz ∧ ((z = false ∧ r = .inl (some (.int 0)) ∧ MV h' m A 1 vs lf U ∧ MF h h' m A) ∨ (z = true ∧ n < 0 ∧ r = .inl (some (.int 0)) ∧ MV h' m A 2 vs lf U ∧ MF h h' m A) ∨ ∃ i c mo, i < 4 ∧ c < 3 ∧ st = nI i ∧ ca = nI c ∧ n = nI mo ∧ mo < 2147483648 ∧ mVq h m A vs lf U c i mo (L c i) r h')) M_R_cut 19 [some (.ref m), some (.int ca), some (.int st), some (.int ds), some (.int n)] [.ref m] h sz 0 0 := by
    intro z hz
    subst hz
    refine gw_push d_R_cut_19 ?_
    refine gw_goto d_R_cut_20 ?_
    refine gw_pf0 d_R_cut_33 h0 rfl rfl ?_
    refine gw_al0 d_R_cut_36 ?_
    refine gw_get d_R_cut_37 (gUp_self _ _ _) (by rfl) ?_
    refine gw_ifle d_R_cut_40 (fun c_40 => absurd c_40 (by decide)) (fun c_40 => ?_)
    refine gw_push d_R_cut_43 ?_
    refine gw_goto d_R_cut_44 ?_
    exact gw_iret d_R_cut_56 rfl (Nat.le_refl _) (Nat.le_refl _) ⟨rfl, Or.inl ⟨rfl, rfl, hM.ob, MF.obj⟩⟩
  cases hp : okN ca 3
  · refine gw_al0 d_R_cut_0 ?_
    refine gw_il1 d_R_cut_1 ?_
    refine gw_push d_R_cut_2 ?_
    refine gw_push d_R_cut_3 ?_
    refine gw_rS3 d_R_cut_4 cs_R_cut_4 (c_R_within (n := 2) (by decide)) ?_; rw [hp]
    refine gw_ifeq d_R_cut_7 (fun c_7 => ?_) (fun c_7 => absurd rfl c_7)
    exact bad _ rfl
  · cases hp2 : okN st 4
    · refine gw_al0 d_R_cut_0 ?_
      refine gw_il1 d_R_cut_1 ?_
      refine gw_push d_R_cut_2 ?_
      refine gw_push d_R_cut_3 ?_
      refine gw_rS3 d_R_cut_4 cs_R_cut_4 (c_R_within (n := 2) (by decide)) ?_; rw [hp]
      refine gw_ifeq d_R_cut_7 (fun c_7 => absurd c_7 (by decide)) (fun c_7 => ?_)
      refine gw_il2 d_R_cut_10 ?_
      refine gw_push d_R_cut_11 ?_
      refine gw_push d_R_cut_12 ?_
      refine gw_rS3 d_R_cut_13 cs_R_cut_13 (c_R_within (n := 3) (by decide)) ?_; rw [hp2]
      refine gw_ifne d_R_cut_16 (fun c_16 => absurd rfl c_16) (fun c_16 => ?_)
      exact bad _ rfl
    · obtain ⟨c, hc, rfl⟩ := okN_t (by decide) hp
      obtain ⟨i, hi, rfl⟩ := okN_t (by decide) hp2
      by_cases hn : n < 0
      · refine gw_al0 d_R_cut_0 ?_
        refine gw_il1 d_R_cut_1 ?_
        refine gw_push d_R_cut_2 ?_
        refine gw_push d_R_cut_3 ?_
        refine gw_rS3 d_R_cut_4 cs_R_cut_4 (c_R_within (n := 2) (by decide)) ?_; rw [hp]
        refine gw_ifeq d_R_cut_7 (fun c_7 => absurd c_7 (by decide)) (fun c_7 => ?_)
        refine gw_il2 d_R_cut_10 ?_
        refine gw_push d_R_cut_11 ?_
        refine gw_push d_R_cut_12 ?_
        refine gw_rS3 d_R_cut_13 cs_R_cut_13 (c_R_within (n := 3) (by decide)) ?_; rw [hp2]
        refine gw_ifne d_R_cut_16 (fun c_16 => ?_) (fun c_16 => absurd c_16 (by decide))
        refine gw_il4 d_R_cut_23 ?_
        refine gw_ifge d_R_cut_25 (fun c_25 => absurd hn (Int32.not_lt.mpr c_25)) (fun c_25 => ?_)
        refine gw_push d_R_cut_28 ?_
        refine gw_goto d_R_cut_29 ?_
        refine gw_pf0 d_R_cut_33 h0 rfl rfl ?_
        refine gw_al0 d_R_cut_36 ?_
        refine gw_get d_R_cut_37 (gUp_self _ _ _) (by rfl) ?_
        refine gw_ifle d_R_cut_40 (fun c_40 => absurd c_40 (by decide)) (fun c_40 => ?_)
        refine gw_push d_R_cut_43 ?_
        refine gw_goto d_R_cut_44 ?_
        exact gw_iret d_R_cut_56 rfl (Nat.le_refl _) (Nat.le_refl _) ⟨rfl, Or.inr (Or.inl ⟨rfl, hn, rfl, hM.ob, MF.obj⟩)⟩
      · obtain ⟨mo, hmo, rfl⟩ := nI_of hn
        have hM1 : MV (gUp h m (gO 6 [.int 0, .int (nI vs), .ref (A 0), .ref (A 1), .ref (A 2), .ref (A 3), .ref (A 4), .ref (A 5), .ref (A 6), .ref (A 7), .ref (A 8), .int lf])) m A 0 vs lf U := hM.ob
        refine gw_al0 d_R_cut_0 ?_
        refine gw_il1 d_R_cut_1 ?_
        refine gw_push d_R_cut_2 ?_
        refine gw_push d_R_cut_3 ?_
        refine gw_rS3 d_R_cut_4 cs_R_cut_4 (c_R_within (n := 2) (by decide)) ?_; rw [hp]
        refine gw_ifeq d_R_cut_7 (fun c_7 => absurd c_7 (by decide)) (fun c_7 => ?_)
        refine gw_il2 d_R_cut_10 ?_
        refine gw_push d_R_cut_11 ?_
        refine gw_push d_R_cut_12 ?_
        refine gw_rS3 d_R_cut_13 cs_R_cut_13 (c_R_within (n := 3) (by decide)) ?_; rw [hp2]
        refine gw_ifne d_R_cut_16 (fun c_16 => ?_) (fun c_16 => absurd c_16 (by decide))
        refine gw_il4 d_R_cut_23 ?_
        refine gw_ifge d_R_cut_25 (fun c_25 => ?_) (fun c_25 => absurd (Int32.not_lt.mp hn) c_25)
        refine gw_push d_R_cut_32 ?_
        refine gw_pf0 d_R_cut_33 h0 rfl rfl ?_
        refine gw_al0 d_R_cut_36 ?_
        refine gw_get d_R_cut_37 (gUp_self _ _ _) (by rfl) ?_
        refine gw_ifle d_R_cut_40 (fun c_40 => ?_) (fun c_40 => absurd (by decide) c_40)
        refine gw_al0 d_R_cut_47 ?_
        refine gw_il1 d_R_cut_48 ?_
        refine gw_il2 d_R_cut_49 ?_
        refine gw_il3 d_R_cut_50 ?_
        refine gw_il4 d_R_cut_51 ?_
        refine gw_cV4 d_R_cut_53 cs_R_cut_53 hM1.1 (c_R_visitUpTo hM1 hc hi hmo hby (hch mo rfl hmo c i hc hi)) (fun v h1 sz1 hq hz => ?_) (fun E h1 sz1 hq _ => by obtain ⟨hq1 | hq1, -⟩ := hq; (· cases hq1.2.1); cases hq1.2.1); obtain ⟨⟨w1, w2, w3⟩ | ⟨w1, w2, w3⟩, w4, w5⟩ := hq
        · cases w2; subst w5; exact gw_iret d_R_cut_56 rfl (Nat.le_refl _) (Nat.le_refl _) ⟨rfl, Or.inr (Or.inr ⟨i, c, mo, hi, hc, rfl, rfl, rfl, hmo, Or.inl ⟨w1, rfl, w3⟩, MF.obj.trans w4⟩)⟩
        cases w2; subst w5
        exact gw_iret d_R_cut_56 rfl (Nat.le_refl _) (Nat.le_refl _) ⟨rfl, Or.inr (Or.inr ⟨i, c, mo, hi, hc, rfl, rfl, rfl, hmo, Or.inr ⟨w1, rfl, w3⟩, MF.obj.trans w4⟩)⟩
def gU0 : gU := (fun _ => 0, fun _ => 0, fun _ => 0, fun _ => 0, fun _ => 0, fun _ => 0, fun _ => 0, fun _ => 0, fun _ => 0)
theorem c_R_init (ha : h m = some (gO 6 [.int 0, .int 0, .null, .null, .null, .null, .null, .null, .null, .null, .null, .int 0])) : SM G l 1 y_R_init M_R_init [.ref m] h sz 9 34143 (qV (fun h' sz' => MV h' m (fun k => sz + k) 0 0 0 gU0 ∧ Fr h h' sz [m] ∧ sz' = sz + 9)) := by
  refine SM.of (lv0 := [some (.ref m)]) (by decide +kernel) rfl ⟨rfl, rfl⟩ rfl (by simp [Value.category]) (Nat.le_of_ble_eq_true rfl) ?_
  refine GW.wf (fun wf => ?_)
  have has := (wf m _ ha).2
  refine gw_al0 d_R_init_0 ?_
  refine gw_objInit d_R_init_1 oi_R_init_1 (by decide) (Nat.le_of_ble_eq_true rfl) ?_
  refine gw_al0 d_R_init_4 ?_
  refine gw_push d_R_init_5 ?_
  refine gw_newI d_R_init_8 gw_aI 4100 rfl (by omega) (Nat.le_of_ble_eq_true rfl) (Nat.le_of_ble_eq_true rfl) ?_
  refine gw_pf2 d_R_init_10 ((gUp_ne _ _ (by omega)).trans ha) rfl rfl ?_
  refine gw_al0 d_R_init_13 ?_
  refine gw_push d_R_init_14 ?_
  refine gw_newI d_R_init_17 gw_aI 4100 rfl (by omega) (Nat.le_of_ble_eq_true rfl) (Nat.le_of_ble_eq_true rfl) ?_
  refine gw_pf3 d_R_init_19 ((gUp_ne _ _ (by omega)).trans (gUp_self _ _ _)) rfl rfl ?_
  refine gw_al0 d_R_init_22 ?_
  refine gw_push d_R_init_23 ?_
  refine gw_newI d_R_init_26 gw_aI 4100 rfl (by omega) (Nat.le_of_ble_eq_true rfl) (Nat.le_of_ble_eq_true rfl) ?_
  refine gw_pf4 d_R_init_28 ((gUp_ne _ _ (by omega)).trans (gUp_self _ _ _)) rfl rfl ?_
  refine gw_al0 d_R_init_31 ?_
  refine gw_push d_R_init_32 ?_
  refine gw_newI d_R_init_35 gw_aI 4100 rfl (by omega) (Nat.le_of_ble_eq_true rfl) (Nat.le_of_ble_eq_true rfl) ?_
  refine gw_pf5 d_R_init_37 ((gUp_ne _ _ (by omega)).trans (gUp_self _ _ _)) rfl rfl ?_
  refine gw_al0 d_R_init_40 ?_
  refine gw_push d_R_init_41 ?_
  refine gw_newI d_R_init_44 gw_aI 16400 rfl (by omega) (Nat.le_of_ble_eq_true rfl) (Nat.le_of_ble_eq_true rfl) ?_
  refine gw_pf6 d_R_init_46 ((gUp_ne _ _ (by omega)).trans (gUp_self _ _ _)) rfl rfl ?_
  refine gw_al0 d_R_init_49 ?_
  refine gw_push d_R_init_50 ?_
  refine gw_newI d_R_init_53 gw_aI 160 rfl (by omega) (Nat.le_of_ble_eq_true rfl) (Nat.le_of_ble_eq_true rfl) ?_
  refine gw_pf7 d_R_init_55 ((gUp_ne _ _ (by omega)).trans (gUp_self _ _ _)) rfl rfl ?_
  refine gw_al0 d_R_init_58 ?_
  refine gw_push d_R_init_59 ?_
  refine gw_newI d_R_init_62 gw_aI 1120 rfl (by omega) (Nat.le_of_ble_eq_true rfl) (Nat.le_of_ble_eq_true rfl) ?_
  refine gw_pf8 d_R_init_64 ((gUp_ne _ _ (by omega)).trans (gUp_self _ _ _)) rfl rfl ?_
  refine gw_al0 d_R_init_67 ?_
  refine gw_push d_R_init_68 ?_
  refine gw_newI d_R_init_69 gw_aI 3 rfl (by omega) (Nat.le_of_ble_eq_true rfl) (Nat.le_of_ble_eq_true rfl) ?_
  refine gw_pf9 d_R_init_71 ((gUp_ne _ _ (by omega)).trans (gUp_self _ _ _)) rfl rfl ?_
  refine gw_al0 d_R_init_74 ?_
  refine gw_push d_R_init_75 ?_
  refine gw_newI d_R_init_77 gw_aI 60 rfl (by omega) (Nat.le_of_ble_eq_true rfl) (Nat.le_of_ble_eq_true rfl) ?_
  refine gw_pf10 d_R_init_79 ((gUp_ne _ _ (by omega)).trans (gUp_self _ _ _)) rfl rfl ?_
  refine gw_vret d_R_init_82 rfl (by decide) (by decide) ⟨rfl, ⟨gUp_self _ _ _, ?_, ?_, ?_, ?_, ?_, ?_, ?_, ?_, ?_, fun i j _ _ q => by simpa using q, fun _ => (by decide : 0 < 10), fun _ => (by decide : 0 < 4), fun _ => (by decide : 0 ≤ 4100), fun _ => (by decide : 0 < 4100), fun _ => (by decide : 0 ≤ 20)⟩, ?_, rfl⟩
  · exact ((gUp_ne _ _ (by show sz + 0 ≠ _; omega)).trans ((gUp_ne _ _ (by show sz + 0 ≠ _; omega)).trans ((gUp_ne _ _ (by show sz + 0 ≠ _; omega)).trans ((gUp_ne _ _ (by show sz + 0 ≠ _; omega)).trans ((gUp_ne _ _ (by show sz + 0 ≠ _; omega)).trans ((gUp_ne _ _ (by show sz + 0 ≠ _; omega)).trans ((gUp_ne _ _ (by show sz + 0 ≠ _; omega)).trans ((gUp_ne _ _ (by show sz + 0 ≠ _; omega)).trans ((gUp_ne _ _ (by show sz + 0 ≠ _; omega)).trans ((gUp_ne _ _ (by show sz + 0 ≠ _; omega)).trans ((gUp_ne _ _ (by show sz + 0 ≠ _; omega)).trans ((gUp_ne _ _ (by show sz + 0 ≠ _; omega)).trans ((gUp_ne _ _ (by show sz + 0 ≠ _; omega)).trans ((gUp_ne _ _ (by show sz + 0 ≠ _; omega)).trans ((gUp_ne _ _ (by show sz + 0 ≠ _; omega)).trans ((gUp_ne _ _ (by show sz + 0 ≠ _; omega)).trans ((gUp_ne _ _ (by show sz + 0 ≠ _; omega)).trans (gUp_self _ _ _))))))))))))))))))
  · exact ((gUp_ne _ _ (by show sz + 1 ≠ _; omega)).trans ((gUp_ne _ _ (by show sz + 1 ≠ _; omega)).trans ((gUp_ne _ _ (by show sz + 1 ≠ _; omega)).trans ((gUp_ne _ _ (by show sz + 1 ≠ _; omega)).trans ((gUp_ne _ _ (by show sz + 1 ≠ _; omega)).trans ((gUp_ne _ _ (by show sz + 1 ≠ _; omega)).trans ((gUp_ne _ _ (by show sz + 1 ≠ _; omega)).trans ((gUp_ne _ _ (by show sz + 1 ≠ _; omega)).trans ((gUp_ne _ _ (by show sz + 1 ≠ _; omega)).trans ((gUp_ne _ _ (by show sz + 1 ≠ _; omega)).trans ((gUp_ne _ _ (by show sz + 1 ≠ _; omega)).trans ((gUp_ne _ _ (by show sz + 1 ≠ _; omega)).trans ((gUp_ne _ _ (by show sz + 1 ≠ _; omega)).trans ((gUp_ne _ _ (by show sz + 1 ≠ _; omega)).trans ((gUp_ne _ _ (by show sz + 1 ≠ _; omega)).trans (gUp_self _ _ _))))))))))))))))
  · exact ((gUp_ne _ _ (by show sz + 2 ≠ _; omega)).trans ((gUp_ne _ _ (by show sz + 2 ≠ _; omega)).trans ((gUp_ne _ _ (by show sz + 2 ≠ _; omega)).trans ((gUp_ne _ _ (by show sz + 2 ≠ _; omega)).trans ((gUp_ne _ _ (by show sz + 2 ≠ _; omega)).trans ((gUp_ne _ _ (by show sz + 2 ≠ _; omega)).trans ((gUp_ne _ _ (by show sz + 2 ≠ _; omega)).trans ((gUp_ne _ _ (by show sz + 2 ≠ _; omega)).trans ((gUp_ne _ _ (by show sz + 2 ≠ _; omega)).trans ((gUp_ne _ _ (by show sz + 2 ≠ _; omega)).trans ((gUp_ne _ _ (by show sz + 2 ≠ _; omega)).trans ((gUp_ne _ _ (by show sz + 2 ≠ _; omega)).trans ((gUp_ne _ _ (by show sz + 2 ≠ _; omega)).trans (gUp_self _ _ _))))))))))))))
  · exact ((gUp_ne _ _ (by show sz + 3 ≠ _; omega)).trans ((gUp_ne _ _ (by show sz + 3 ≠ _; omega)).trans ((gUp_ne _ _ (by show sz + 3 ≠ _; omega)).trans ((gUp_ne _ _ (by show sz + 3 ≠ _; omega)).trans ((gUp_ne _ _ (by show sz + 3 ≠ _; omega)).trans ((gUp_ne _ _ (by show sz + 3 ≠ _; omega)).trans ((gUp_ne _ _ (by show sz + 3 ≠ _; omega)).trans ((gUp_ne _ _ (by show sz + 3 ≠ _; omega)).trans ((gUp_ne _ _ (by show sz + 3 ≠ _; omega)).trans ((gUp_ne _ _ (by show sz + 3 ≠ _; omega)).trans ((gUp_ne _ _ (by show sz + 3 ≠ _; omega)).trans (gUp_self _ _ _))))))))))))
  · exact ((gUp_ne _ _ (by show sz + 4 ≠ _; omega)).trans ((gUp_ne _ _ (by show sz + 4 ≠ _; omega)).trans ((gUp_ne _ _ (by show sz + 4 ≠ _; omega)).trans ((gUp_ne _ _ (by show sz + 4 ≠ _; omega)).trans ((gUp_ne _ _ (by show sz + 4 ≠ _; omega)).trans ((gUp_ne _ _ (by show sz + 4 ≠ _; omega)).trans ((gUp_ne _ _ (by show sz + 4 ≠ _; omega)).trans ((gUp_ne _ _ (by show sz + 4 ≠ _; omega)).trans ((gUp_ne _ _ (by show sz + 4 ≠ _; omega)).trans (gUp_self _ _ _))))))))))
  · exact ((gUp_ne _ _ (by show sz + 5 ≠ _; omega)).trans ((gUp_ne _ _ (by show sz + 5 ≠ _; omega)).trans ((gUp_ne _ _ (by show sz + 5 ≠ _; omega)).trans ((gUp_ne _ _ (by show sz + 5 ≠ _; omega)).trans ((gUp_ne _ _ (by show sz + 5 ≠ _; omega)).trans ((gUp_ne _ _ (by show sz + 5 ≠ _; omega)).trans ((gUp_ne _ _ (by show sz + 5 ≠ _; omega)).trans (gUp_self _ _ _))))))))
  · exact ((gUp_ne _ _ (by show sz + 6 ≠ _; omega)).trans ((gUp_ne _ _ (by show sz + 6 ≠ _; omega)).trans ((gUp_ne _ _ (by show sz + 6 ≠ _; omega)).trans ((gUp_ne _ _ (by show sz + 6 ≠ _; omega)).trans ((gUp_ne _ _ (by show sz + 6 ≠ _; omega)).trans (gUp_self _ _ _))))))
  · exact ((gUp_ne _ _ (by show sz + 7 ≠ _; omega)).trans ((gUp_ne _ _ (by show sz + 7 ≠ _; omega)).trans ((gUp_ne _ _ (by show sz + 7 ≠ _; omega)).trans (gUp_self _ _ _))))
  · exact ((gUp_ne _ _ (by show sz + 8 ≠ _; omega)).trans (gUp_self _ _ _))
  intro b hb hn
  simp only [List.mem_singleton] at hn
  iterate 9 (rw [gUp_ne _ _ hn, gUp_ne _ _ (by omega)])
end RefL
