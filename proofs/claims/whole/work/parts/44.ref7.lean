/-! ===== the reference: visitUpTo ===== -/
theorem vt4_L (U : gU) (c s : Nat) : uL (vt4 U c s) = uL U := rfl
theorem vt4_M (U : gU) (c s : Nat) : uM (vt4 U c s) = uM U := rfl
theorem ulU_L (U : gU) (c s : Nat) (lf : Int32) (mv : Nat) : uL (ulU U c s lf mv) = uL (mUl U c s lf mv).1 := rfl
theorem ulU_M (U : gU) (c s : Nat) (lf : Int32) (mv : Nat) : uM (ulU U c s lf mv) = va_up (uM U) c (uM U c - mv) := rfl
section RefH
variable {G : gG} {l : Launch} {h : gHp} {sz m : Nat} {A : Nat → Nat} {th : Int32} {vs : Nat} {lf : Int32} {U : gU}
theorem c_R_visitUpTo (hM : MV h m A th vs lf U) {c s mo : Nat} (hc : c < 3) (hs : s < 4) (hmo : mo < 2147483648) {ds : Int32} (hby : ∀ v, ∃ n, n ≤ 40 ∧ mBy U v = nI n) {L : List Nat} (hch : uM U c ≤ mo → mNx (vt4 (ulU U c s lf (min (uM U c) mo)) c s) s ds none 40 = L.head? ∧ NCh (vt4 (ulU U c s lf (min (uM U c) mo)) c s) s ds L) : SM G l 5 y_R_visitUpTo M_R_visitUpTo [.ref m, .int (nI c), .int (nI s), .int ds, .int (nI mo)] h sz 0 0 (fun r h' sz' => ((mo < uM U c ∧ r = .inl (some (.int 0)) ∧ MV h' m A th vs (mUl U c s lf (min (uM U c) mo)).2 (ulU U c s lf (min (uM U c) mo))) ∨ (uM U c ≤ mo ∧ r = .inl (some (.int (nI (uM (mLd c (mo - uM U c) L (vt4 (ulU U c s lf (min (uM U c) mo)) c s)) c)))) ∧ MV h' m A th vs (mUl U c s lf (min (uM U c) mo)).2 (mLd c (mo - uM U c) L (vt4 (ulU U c s lf (min (uM U c) mo)) c s)))) ∧ MF h h' m A ∧ sz' = sz) := by
  have h0 := hM.1
  have b5 := hM.2.2.2.2.2.2.2.2.2.2.2.2.2.2.2 c
  have keep := mUl_keep (U := U) (c := c) (s := s) (lf := lf) (min (uM U c) mo)
  refine SM.of (lv0 := [some (.ref m), some (.int (nI c)), some (.int (nI s)), some (.int ds), some (.int (nI mo)), none, none]) (by decide +kernel) rfl ⟨rfl, rfl⟩ rfl (by simp [Value.category]) (Nat.le_of_ble_eq_true rfl) ?_
  by_cases hcm : uM U c ≤ mo
  · obtain ⟨hc1, hc2⟩ := hch hcm
    obtain ⟨W1, hW1⟩ : ∃ W1, W1 = ulU U c s lf (min (uM U c) mo) := ⟨_, rfl⟩
    obtain ⟨lf', hlf⟩ : ∃ lf', lf' = (mUl U c s lf (min (uM U c) mo)).2 := ⟨_, rfl⟩
    obtain ⟨W4, hW4⟩ : ∃ W4, W4 = vt4 W1 c s := ⟨_, rfl⟩
    rw [← hW1, ← hW4] at hc1 hc2
    rw [← hlf, ← hW1, ← hW4]
    have e1M : uM W1 c = 0 := by
      rw [hW1, ulU_M, va_up_self]; omega
    have e4M : uM W4 = uM W1 := by rw [hW4, vt4_M]
    have e4L : uL W4 = uL U := by rw [hW4, vt4_L, hW1, ulU_L, keep.2.2.2.1]
    have hby4 : ∀ v, ∃ n, n ≤ 40 ∧ mBy W4 v = nI n := by
      intro v
      obtain ⟨n, q1, q2⟩ := hby v
      exact ⟨n, q1, by rw [← q2, mBy, mBy, e4L]⟩
    have load : ∀ (r : List Nat) (Ui : gU) (h1 : gHp), MV h1 m A th vs lf' Ui → MF h h1 m A → EqU W4 Ui → NCh W4 s ds r → mLd c (mo - uM U c) L W4 = mLd c (mo - uM U c) r Ui → (∃ q, q + 8 * uM Ui c ≤ 100 ∧ rmN Ui c (uM Ui c) = nI q) → GM G l 5 0 0 (fun r h' sz' => ((mo < uM U c ∧ r = .inl (some (.int 0)) ∧ MV h' m A th vs lf' W1) ∨ (uM U c ≤ mo ∧ r = .inl (some (.int (nI (uM (mLd c (mo - uM U c) L W4) c)))) ∧ MV h' m A th vs lf' (mLd c (mo - uM U c) L W4))) ∧ MF h h' m A ∧ sz' = sz) M_R_visitUpTo 82 [some (.ref m), some (.int (nI c)), some (.int (nI s)), some (.int ds), some (.int (nI mo)), some (.int (nI (mo - uM U c))), some (.int (oI r.head?))] [] h1 sz 0 0 := by
      intro r
      induction r with
      | nil =>
        intro Ui h1 hM1 hF hE hN hI hq
        have g0 := hM1.1
        have g7 := hM1.2.2.2.2.2.2.2.2.1
        refine gw_il6 d_R_visitUpTo_82 ?_
        refine gw_iflt d_R_visitUpTo_84 (fun c_84 => ?_) (fun c_84 => absurd (by decide) c_84)
        refine gw_al0 d_R_visitUpTo_156 ?_
        refine gw_get d_R_visitUpTo_157 (by assumption) (by rfl) ?_
        refine gw_il1 d_R_visitUpTo_160 ?_
        refine gw_iald d_R_visitUpTo_161 g7 c rfl hc (by omega) ?_
        exact gw_iret d_R_visitUpTo_162 rfl (Nat.le_refl _) (Nat.le_refl _) ⟨Or.inr ⟨hcm, by rw [hI]; rfl, by rw [hI]; exact hM1⟩, hF, rfl⟩
      | cons v r ih =>
        intro Ui h1 hM1 hF hE hN hI hq
        obtain ⟨n1, n2, n3⟩ := hN
        have g0 := hM1.1
        have g7 := hM1.2.2.2.2.2.2.2.2.1
        have g8 := hM1.2.2.2.2.2.2.2.2.2.1
        obtain ⟨b1, b2, b3, b4, b5i⟩ := hM1.2.2.2.2.2.2.2.2.2.2.2
        rw [show oI (v :: r).head? = nI v from rfl]
        have bi := b5i c
        obtain ⟨q, q1, q2⟩ := hq
        obtain ⟨nb, nb1, nb2⟩ := hby4 v
        have eby : mBy Ui v = nI nb := by rw [mBy_cg hE, nb2]
        have hI' : mLd c (mo - uM U c) L W4 = if uM Ui c < mo - uM U c then (if 8 + mBy Ui v ≤ rmN Ui c (uM Ui c) then mLd c (mo - uM U c) r (tM (tR Ui (va_up (uR Ui) (20 * c + uM Ui c) v)) (va_up (uM Ui) c (uM Ui c + 1))) else mLd c (mo - uM U c) r Ui) else Ui := hI
        refine gw_il6 d_R_visitUpTo_82 ?_
        refine gw_iflt d_R_visitUpTo_84 (fun c_84 => absurd c_84 (nI_pos (by omega))) (fun c_84 => ?_)
        refine gw_al0 d_R_visitUpTo_87 ?_
        refine gw_get d_R_visitUpTo_88 (by assumption) (by rfl) ?_
        refine gw_il1 d_R_visitUpTo_91 ?_
        refine gw_iald d_R_visitUpTo_92 g7 c rfl hc (by omega) ?_
        refine gw_il5 d_R_visitUpTo_93 ?_
        refine gw_icge d_R_visitUpTo_95 (fun c_95 => ?_) (fun c_95 => ?_)
        · refine gw_al0 d_R_visitUpTo_156 ?_
          refine gw_get d_R_visitUpTo_157 (by assumption) (by rfl) ?_
          refine gw_il1 d_R_visitUpTo_160 ?_
          refine gw_iald d_R_visitUpTo_161 g7 c rfl hc (by omega) ?_
          have q4 := n_le c_95 (by omega) (by omega); rw [if_neg (by omega)] at hI'; exact gw_iret d_R_visitUpTo_162 rfl (Nat.le_refl _) (Nat.le_refl _) ⟨Or.inr ⟨hcm, by rw [hI'], by rw [hI']; exact hM1⟩, hF, rfl⟩
        · refine gw_push d_R_visitUpTo_98 ?_
          refine gw_al0 d_R_visitUpTo_100 ?_
          refine gw_il6 d_R_visitUpTo_101 ?_
          have hlt := n_nle c_95 (by omega) (by omega); rw [if_pos hlt] at hI'; refine gw_rV1 d_R_visitUpTo_103 cs_R_visitUpTo_103 g0 (c_R_bytesOf hM1 n2) ?_
          refine gw_iadd d_R_visitUpTo_106 ?_
          refine gw_al0 d_R_visitUpTo_107 ?_
          refine gw_il1 d_R_visitUpTo_108 ?_
          refine gw_rV1 d_R_visitUpTo_109 cs_R_visitUpTo_109 g0 (c_R_roomOf hM1 hc) ?_
          refine gw_icgt d_R_visitUpTo_112 (fun c_112 => ?_) (fun c_112 => ?_)
          · refine gw_al0 d_R_visitUpTo_143 ?_
            refine gw_il2 d_R_visitUpTo_144 ?_
            refine gw_il3 d_R_visitUpTo_145 ?_
            refine gw_il6 d_R_visitUpTo_146 ?_
            first | refine gw_rV3 d_R_visitUpTo_148 cs_R_visitUpTo_148 k30 (c_R_nextToLoad hM3 hs (la := some v) (fun w q9 => by cases q9; exact n2)) ?_; rw [mNx_cg hE3, n1] | refine gw_rV3 d_R_visitUpTo_148 cs_R_visitUpTo_148 g0 (c_R_nextToLoad hM1 hs (la := some v) (fun w q9 => by cases q9; exact n2)) ?_; rw [mNx_cg hE, n1]
            refine gw_is6 d_R_visitUpTo_151 ?_
            first | refine gw_goto d_R_visitUpTo_153 (ih _ _ hM3 ((hF.trans (MF.arr (by omega))).trans (MF.arr (by omega))) hE3 n3 hI' ⟨q - 8 - nb, ?_, ?_⟩) | exact gw_goto d_R_visitUpTo_153 (ih Ui h1 hM1 hF hE n3 (by rw [hI', if_neg (Int32.not_le.mpr c_112)]) ⟨q, q1, q2⟩)
            all_goals (show _; first | (show q - 8 - nb + 8 * (va_up (uM Ui) c (uM Ui c + 1) c) ≤ 100; rw [va_up_self]; omega) | (show rmN _ c (va_up (uM Ui) c (uM Ui c + 1) c) = _; rw [va_up_self, rmN, rmN_cg (U := Ui) (U' := tM (tR Ui (va_up (uR Ui) (20 * c + uM Ui c) v)) (va_up (uM Ui) c (uM Ui c + 1))) (c := c) rfl (uM Ui c) (fun k hk => va_up_ne _ _ (by omega)), q2]; show nI q - 8 - mBy Ui (va_up (uR Ui) (20 * c + uM Ui c) v (20 * c + uM Ui c)) = _; rw [va_up_self, eby, n_lit 8, pk_sub (by omega), pk_sub (by omega)]))
          · refine gw_al0 d_R_visitUpTo_115 ?_
            refine gw_get d_R_visitUpTo_116 (by assumption) (by rfl) ?_
            refine gw_push d_R_visitUpTo_119 ?_
            refine gw_il1 d_R_visitUpTo_121 ?_
            refine gw_imul d_R_visitUpTo_122 ?_; first | rw [m_4] | rw [m_40] | rw [m_160] | rw [m_20] | skip
            refine gw_al0 d_R_visitUpTo_123 ?_
            refine gw_get d_R_visitUpTo_124 (by assumption) (by rfl) ?_
            refine gw_il1 d_R_visitUpTo_127 ?_
            have hle : 8 + mBy Ui v ≤ rmN Ui c (uM Ui c) := Int32.not_lt.mp c_112; rw [if_pos hle] at hI'; have hle2 : 8 + nb ≤ q := (by rw [eby, q2, n_lit 8, nI_add] at hle; exact n_le hle (by omega) (by omega)); refine gw_iald d_R_visitUpTo_128 g7 c rfl hc (by omega) ?_
            refine gw_iadd d_R_visitUpTo_129 ?_; first | rw [nI_add] | rw [p_4] | rw [p_40] | skip
            refine gw_il6 d_R_visitUpTo_130 ?_
            refine gw_iast d_R_visitUpTo_132 g8 (20 * c + uM Ui c) rfl (by omega) (by omega) ?_; rw [upd_nI]; have hM2 := hM1.putR (f := va_up (uR Ui) (20 * c + uM Ui c) v) (va_up_lt b4 n2); have k0 := hM2.1; have k7 := hM2.2.2.2.2.2.2.2.2.1
            refine gw_al0 d_R_visitUpTo_133 ?_
            refine gw_get d_R_visitUpTo_134 (by assumption) (by rfl) ?_
            refine gw_il1 d_R_visitUpTo_137 ?_
            refine gw_dup2 d_R_visitUpTo_138 rfl rfl ?_
            refine gw_iald d_R_visitUpTo_139 k7 c rfl hc (by omega) ?_
            refine gw_push d_R_visitUpTo_140 ?_
            refine gw_iadd d_R_visitUpTo_141 ?_; rw [n_s]
            refine gw_iast d_R_visitUpTo_142 k7 c rfl hc (by omega) ?_; rw [upd_nI]; have hM3 := hM2.putM (f := va_up (uM Ui) c (uM Ui c + 1)) (va_up_le b5i (by omega)); have hE3 : EqU W4 (tM (tR Ui (va_up (uR Ui) (20 * c + uM Ui c) v)) (va_up (uM Ui) c (uM Ui c + 1))) := hE; have k30 := hM3.1
            refine gw_al0 d_R_visitUpTo_143 ?_
            refine gw_il2 d_R_visitUpTo_144 ?_
            refine gw_il3 d_R_visitUpTo_145 ?_
            refine gw_il6 d_R_visitUpTo_146 ?_
            first | refine gw_rV3 d_R_visitUpTo_148 cs_R_visitUpTo_148 k30 (c_R_nextToLoad hM3 hs (la := some v) (fun w q9 => by cases q9; exact n2)) ?_; rw [mNx_cg hE3, n1] | refine gw_rV3 d_R_visitUpTo_148 cs_R_visitUpTo_148 g0 (c_R_nextToLoad hM1 hs (la := some v) (fun w q9 => by cases q9; exact n2)) ?_; rw [mNx_cg hE, n1]
            refine gw_is6 d_R_visitUpTo_151 ?_
            first | refine gw_goto d_R_visitUpTo_153 (ih _ _ hM3 ((hF.trans (MF.arr (by omega))).trans (MF.arr (by omega))) hE3 n3 hI' ⟨q - 8 - nb, ?_, ?_⟩) | exact gw_goto d_R_visitUpTo_153 (ih Ui h1 hM1 hF hE n3 (by rw [hI', if_neg (Int32.not_le.mpr c_112)]) ⟨q, q1, q2⟩)
            all_goals (show _; first | (show q - 8 - nb + 8 * (va_up (uM Ui) c (uM Ui c + 1) c) ≤ 100; rw [va_up_self]; omega) | (show rmN _ c (va_up (uM Ui) c (uM Ui c + 1) c) = _; rw [va_up_self, rmN, rmN_cg (U := Ui) (U' := tM (tR Ui (va_up (uR Ui) (20 * c + uM Ui c) v)) (va_up (uM Ui) c (uM Ui c + 1))) (c := c) rfl (uM Ui c) (fun k hk => va_up_ne _ _ (by omega)), q2]; show nI q - 8 - mBy Ui (va_up (uR Ui) (20 * c + uM Ui c) v (20 * c + uM Ui c)) = _; rw [va_up_self, eby, n_lit 8, pk_sub (by omega), pk_sub (by omega)]))
    have copy : ∀ n k (h1 : gHp), k ≤ 160 → 160 - k < n → MV h1 m A th vs lf' (tN (tS (tN W1 (lnN W1 c s 4)) (dmN (tN W1 (lnN W1 c s 4)) s 40)) (cpN (lnN W1 c s 4) c s k)) → MF h h1 m A → GM G l 5 0 0 (fun r h' sz' => ((mo < uM U c ∧ r = .inl (some (.int 0)) ∧ MV h' m A th vs lf' W1) ∨ (uM U c ≤ mo ∧ r = .inl (some (.int (nI (uM (mLd c (mo - uM U c) L W4) c)))) ∧ MV h' m A th vs lf' (mLd c (mo - uM U c) L W4))) ∧ MF h h' m A ∧ sz' = sz) M_R_visitUpTo 31 [some (.ref m), some (.int (nI c)), some (.int (nI s)), some (.int ds), some (.int (nI mo)), some (.int (nI (mo - uM U c))), some (.int (nI k))] [] h1 sz 0 0 := by
      intro n
      induction n with
      | zero => intro k _ _ hj; exact absurd hj (Nat.not_lt_zero _)
      | succ n ih =>
        intro k h1 hk hm hM1 hF
        have g0 := hM1.1
        have g6 := hM1.2.2.2.2.2.2.2.1
        refine gw_il6 d_R_visitUpTo_31 ?_
        refine gw_push d_R_visitUpTo_33 ?_
        refine gw_icge d_R_visitUpTo_36 (fun c_36 => ?_) (fun c_36 => ?_)
        · refine gw_al0 d_R_visitUpTo_73 ?_
          refine gw_il2 d_R_visitUpTo_74 ?_
          refine gw_il3 d_R_visitUpTo_75 ?_
          refine gw_push d_R_visitUpTo_76 ?_
          have q4 := n_le (a := 160) c_36 (by decide) (by omega); obtain rfl : k = 160 := (by omega); have hM2 : MV h1 m A th vs lf' W4 := (by rw [hW4]; exact hM1); refine gw_rV3 d_R_visitUpTo_77 cs_R_visitUpTo_77 g0 (c_R_nextToLoad hM2 hs (la := none) (fun w q9 => by cases q9)) ?_; rw [hc1]
          refine gw_is6 d_R_visitUpTo_80 ?_
          exact load L W4 h1 hM2 hF ⟨rfl, rfl, rfl, rfl, rfl⟩ hc2 rfl ⟨100, by rw [e4M, e1M]; decide, by rw [e4M, e1M]; rfl⟩
        · refine gw_al0 d_R_visitUpTo_39 ?_
          refine gw_get d_R_visitUpTo_40 (by assumption) (by rfl) ?_
          refine gw_push d_R_visitUpTo_43 ?_
          refine gw_push d_R_visitUpTo_46 ?_
          refine gw_il1 d_R_visitUpTo_47 ?_
          refine gw_iadd d_R_visitUpTo_48 ?_; first | rw [nI_add] | rw [p_4] | rw [p_40] | skip
          refine gw_imul d_R_visitUpTo_49 ?_; first | rw [m_4] | rw [m_40] | rw [m_160] | rw [m_20] | skip
          refine gw_il6 d_R_visitUpTo_50 ?_
          refine gw_iadd d_R_visitUpTo_52 ?_; first | rw [nI_add] | rw [p_4] | rw [p_40] | skip
          refine gw_al0 d_R_visitUpTo_53 ?_
          refine gw_get d_R_visitUpTo_54 (by assumption) (by rfl) ?_
          refine gw_push d_R_visitUpTo_57 ?_
          refine gw_il2 d_R_visitUpTo_60 ?_
          refine gw_imul d_R_visitUpTo_61 ?_; first | rw [m_4] | rw [m_40] | rw [m_160] | rw [m_20] | skip
          refine gw_il6 d_R_visitUpTo_62 ?_
          refine gw_iadd d_R_visitUpTo_64 ?_; first | rw [nI_add] | rw [p_4] | rw [p_40] | skip
          have hlt := n_nle (a := 160) c_36 (by decide) (by omega); refine gw_iald d_R_visitUpTo_65 g6 (160 * s + k) rfl (by omega) (by omega) ?_
          refine gw_iast d_R_visitUpTo_66 g6 (160 * (4 + c) + k) rfl (by omega) (by omega) ?_
          exact gw_ii6 d_R_visitUpTo_67 (by rw [n_s]; exact gw_goto d_R_visitUpTo_70 (ih (k + 1) _ (by omega) (by omega) (hM1.putN (f := cpN (lnN W1 c s 4) c s (k + 1))) (hF.trans (MF.arr (by omega)))))
    refine gw_al0 d_R_visitUpTo_0 ?_
    refine gw_il1 d_R_visitUpTo_1 ?_
    refine gw_il2 d_R_visitUpTo_2 ?_
    refine gw_il4 d_R_visitUpTo_3 ?_
    refine gw_cV3 d_R_visitUpTo_5 cs_R_visitUpTo_5 h0 (c_R_unload hM hc hs hmo) (fun v h1 sz1 hp hz => ?_) (fun E h1 sz1 hp _ => by cases hp.1); obtain ⟨w0, w1, w2, w3⟩ := hp; cases w0; subst w3; rw [← hlf, ← hW1] at w1; rw [if_pos hcm]; have g0 := w1.1
    refine gw_is5 d_R_visitUpTo_8 ?_
    refine gw_il5 d_R_visitUpTo_10 ?_
    refine gw_ifge d_R_visitUpTo_12 (fun c_12 => ?_) (fun c_12 => absurd (Int32.not_lt.mp (nI_pos (by omega))) c_12)
    refine gw_al0 d_R_visitUpTo_17 ?_
    refine gw_il1 d_R_visitUpTo_18 ?_
    refine gw_il2 d_R_visitUpTo_19 ?_
    refine gw_vV2 d_R_visitUpTo_20 cs_R_visitUpTo_20 g0 (c_R_learn w1 hc hs) (fun h2 sz2 hp hz2 => ?_); obtain ⟨x1, x2, x3⟩ := hp; subst x3; have g20 := x1.1
    refine gw_al0 d_R_visitUpTo_23 ?_
    refine gw_il2 d_R_visitUpTo_24 ?_
    refine gw_vV1 d_R_visitUpTo_25 cs_R_visitUpTo_25 g20 (c_R_dropMarks x1 hs) (fun h3 sz3 hp hz3 => ?_); obtain ⟨y1, y2, y3⟩ := hp; subst y3
    refine gw_push d_R_visitUpTo_28 ?_
    refine gw_is6 d_R_visitUpTo_29 ?_
    exact copy 161 0 h3 (by omega) (by omega) y1 ((w2.trans x2).trans y2)
  · refine gw_al0 d_R_visitUpTo_0 ?_
    refine gw_il1 d_R_visitUpTo_1 ?_
    refine gw_il2 d_R_visitUpTo_2 ?_
    refine gw_il4 d_R_visitUpTo_3 ?_
    refine gw_cV3 d_R_visitUpTo_5 cs_R_visitUpTo_5 h0 (c_R_unload hM hc hs hmo) (fun v h1 sz1 hp hz => ?_) (fun E h1 sz1 hp _ => by cases hp.1); obtain ⟨w0, w1, w2, w3⟩ := hp; cases w0; subst w3; rw [if_neg hcm]
    refine gw_is5 d_R_visitUpTo_8 ?_
    refine gw_il5 d_R_visitUpTo_10 ?_
    refine gw_ifge d_R_visitUpTo_12 (fun c_12 => absurd c_12 (by decide)) (fun c_12 => ?_)
    refine gw_push d_R_visitUpTo_15 ?_
    exact gw_iret d_R_visitUpTo_16 rfl (Nat.le_refl _) (Nat.le_refl _) ⟨Or.inl ⟨by omega, rfl, w1⟩, w2, rfl⟩
end RefH
