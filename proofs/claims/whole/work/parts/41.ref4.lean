/-! ===== the reference: what changes (1) ===== -/
def csN (U : gU) (s v : Nat) : Nat → Nat → Nat
  | 0 => uS U
  | n + 1 => if 0 < csN U s v n (40 * s + 4 * uD U v + n) ∧ cov4 (mVc U v) (mVc U (csN U s v n (40 * s + 4 * uD U v + n) - 1)) = true then va_up (csN U s v n) (40 * s + 4 * uD U v + n) 0 else csN U s v n
def csU (U : gU) (s v : Nat) : gU := tN (tS U (va_up (csN U s v 4) (40 * s + 4 * uD U v + uK U v) (v + 1))) (jnV (uN U) (160 * s + 40 * s + 4 * uD U v) (mVc U v) 4)
theorem upd_same (f : Nat → Int32) (k : Nat) : upd f k (f k) = f := by
  funext i
  by_cases hi : i = k
  · subst hi; simp [upd]
  · simp [upd, hi]
theorem va_up_le {f : Nat → Nat} {b k n : Nat} (hf : ∀ i, f i ≤ b) (hn : n ≤ b) : ∀ i, va_up f k n i ≤ b := by
  intro i
  by_cases hi : i = k
  · subst hi; rw [va_up_self]; exact hn
  · rw [va_up_ne _ _ hi]; exact hf i
theorem va_up_lt {f : Nat → Nat} {b k n : Nat} (hf : ∀ i, f i < b) (hn : n < b) : ∀ i, va_up f k n i < b := by
  intro i
  by_cases hi : i = k
  · subst hi; rw [va_up_self]; exact hn
  · rw [va_up_ne _ _ hi]; exact hf i
theorem csN_le {U : gU} (hB : ∀ k, uS U k ≤ 4100) {s v : Nat} : ∀ n k, csN U s v n k ≤ 4100
  | 0 => hB
  | n + 1 => by
    rw [csN]
    split
    · exact va_up_le (csN_le hB n) (by omega)
    · exact csN_le hB n
theorem mx_pos {x y : Int32} (h : ¬ y ≤ x) : y = mxI x y := by rw [mxI, if_pos (Int32.not_le.mp h)]
theorem mx_neg {x y : Int32} (h : y ≤ x) : x = mxI x y := by rw [mxI, if_neg (Int32.not_lt.mpr h)]
section RefE
variable {G : gG} {l : Launch} {h : gHp} {sz m : Nat} {A : Nat → Nat} {th : Int32} {vs : Nat} {lf : Int32} {U : gU}
theorem c_R_comeToStand (hM : MV h m A th vs lf U) {s v : Nat} (hs : s < 4) (hv : v < 4100) : SM G l 3 y_R_comeToStand M_R_comeToStand [.ref m, .int (nI s), .int (nI v)] h sz 0 0 (qV (fun h' sz' => MV h' m A th vs lf (csU U s v) ∧ MF h h' m A ∧ sz' = sz)) := by
  have hM0 := hM
  obtain ⟨h0, a0, a1, a2, a3, a4, a5, a6, a7, a8, hd', b1, b2, b3, -⟩ := hM
  have bd := b1 v
  have bk := b2 v
  obtain ⟨d, hd⟩ : ∃ d, d = uD U v := ⟨_, rfl⟩
  refine SM.of (lv0 := [some (.ref m), some (.int (nI s)), some (.int (nI v)), none, none, none]) (by decide +kernel) rfl ⟨rfl, rfl⟩ rfl (by simp [Value.category]) (Nat.le_of_ble_eq_true rfl) ?_
  obtain ⟨S4, hS4⟩ : ∃ S4, S4 = va_up (csN U s v 4) (40 * s + 4 * uD U v + uK U v) (v + 1) := ⟨_, rfl⟩
  have loop2 : ∀ n j (h1 : gHp), j ≤ 4 → 4 - j < n → MV h1 m A th vs lf (tN (tS U S4) (jnV (uN U) (160 * s + 40 * s + 4 * d) (mVc U v) j)) → MF h h1 m A → GM G l 3 0 0 (qV (fun h' sz' => MV h' m A th vs lf (csU U s v) ∧ MF h h' m A ∧ sz' = sz)) M_R_comeToStand 98 [some (.ref m), some (.int (nI s)), some (.int (nI v)), some (.int (nI d)), some (.int (nI (160 * s + 40 * s + 4 * d))), some (.int (nI j))] [] h1 sz 0 0 := by
    intro n
    induction n with
    | zero => intro j _ _ hj; exact absurd hj (Nat.not_lt_zero _)
    | succ n ih =>
      intro j h1 hj hm hM1 hF
      have g0 := hM1.1
      have g6 := hM1.2.2.2.2.2.2.2.1
      have nx : j < 4 → ∀ x, x = mxI (jnV (uN U) (160 * s + 40 * s + 4 * d) (mVc U v) j (160 * s + 40 * s + 4 * d + j)) (mVc U v j) → GM G l 3 0 0 (qV (fun h' sz' => MV h' m A th vs lf (csU U s v) ∧ MF h h' m A ∧ sz' = sz)) M_R_comeToStand 153 [some (.ref m), some (.int (nI s)), some (.int (nI v)), some (.int (nI d)), some (.int (nI (160 * s + 40 * s + 4 * d))), some (.int (nI j))] [.int x, .int (nI (160 * s + 40 * s + 4 * d + j)), .ref (A 6)] h1 sz 0 0 := by
        intro hlt x hx
        refine gw_iast d_R_comeToStand_153 g6 (160 * s + 40 * s + 4 * d + j) rfl (by omega) (by omega) ?_
        refine gw_ii5 d_R_comeToStand_154 ?_
        rw [n_s, hx]
        refine gw_goto d_R_comeToStand_157 (ih (j + 1) _ (by omega) (by omega) ?_ (hF.trans (MF.arr (by omega))))
        have z := hM1.putN (f := jnV (uN U) (160 * s + 40 * s + 4 * d) (mVc U v) (j + 1))
        rw [← jnV_s] at z ⊢
        exact z
      refine gw_il5 d_R_comeToStand_98 ?_
      refine gw_push d_R_comeToStand_100 ?_
      refine gw_icge d_R_comeToStand_101 (fun c_101 => ?_) (fun c_101 => ?_)
      · have q4 := n_le (a := 4) c_101 (by decide) (by omega); obtain rfl : j = 4 := (by omega); exact gw_vret d_R_comeToStand_160 rfl (Nat.le_refl _) (Nat.le_refl _) ⟨rfl, by rw [csU, ← hS4, ← hd]; exact hM1, hF, rfl⟩
      · refine gw_al0 d_R_comeToStand_104 ?_
        refine gw_get d_R_comeToStand_105 (by assumption) (by rfl) ?_
        refine gw_il4 d_R_comeToStand_108 ?_
        refine gw_il5 d_R_comeToStand_110 ?_
        refine gw_iadd d_R_comeToStand_112 ?_; first | rw [nI_add] | rw [p_4] | rw [p_40] | skip
        refine gw_al0 d_R_comeToStand_113 ?_
        refine gw_il2 d_R_comeToStand_114 ?_
        refine gw_il5 d_R_comeToStand_115 ?_
        have hlt := n_nle (a := 4) c_101 (by decide) (by omega); refine gw_rV2 d_R_comeToStand_117 cs_R_comeToStand_117 g0 (c_R_counterOf hM1 hv hlt) ?_
        refine gw_al0 d_R_comeToStand_120 ?_
        refine gw_get d_R_comeToStand_121 (by assumption) (by rfl) ?_
        refine gw_il4 d_R_comeToStand_124 ?_
        refine gw_il5 d_R_comeToStand_126 ?_
        refine gw_iadd d_R_comeToStand_128 ?_; first | rw [nI_add] | rw [p_4] | rw [p_40] | skip
        refine gw_iald d_R_comeToStand_129 g6 (160 * s + 40 * s + 4 * d + j) rfl (by omega) (by omega) ?_
        refine gw_icle d_R_comeToStand_130 (fun c_130 => ?_) (fun c_130 => ?_)
        · refine gw_al0 d_R_comeToStand_143 ?_
          refine gw_get d_R_comeToStand_144 (by assumption) (by rfl) ?_
          refine gw_il4 d_R_comeToStand_147 ?_
          refine gw_il5 d_R_comeToStand_149 ?_
          refine gw_iadd d_R_comeToStand_151 ?_; first | rw [nI_add] | rw [p_4] | rw [p_40] | skip
          refine gw_iald d_R_comeToStand_152 g6 (160 * s + 40 * s + 4 * d + j) rfl (by omega) (by omega) ?_
          first | exact nx hlt _ (mx_pos c_130) | exact nx hlt _ (mx_neg c_130)
        · refine gw_al0 d_R_comeToStand_133 ?_
          refine gw_il2 d_R_comeToStand_134 ?_
          refine gw_il5 d_R_comeToStand_135 ?_
          refine gw_rV2 d_R_comeToStand_137 cs_R_comeToStand_137 g0 (c_R_counterOf hM1 hv hlt) ?_
          refine gw_goto d_R_comeToStand_140 ?_
          first | exact nx hlt _ (mx_pos c_130) | exact nx hlt _ (mx_neg c_130)
  have loop : ∀ n j (h1 : gHp) q, j ≤ 4 → 4 - j < n → MV h1 m A th vs lf (tS U (csN U s v j)) → MF h h1 m A → GM G l 3 0 0 (qV (fun h' sz' => MV h' m A th vs lf (csU U s v) ∧ MF h h' m A ∧ sz' = sz)) M_R_comeToStand 10 [some (.ref m), some (.int (nI s)), some (.int (nI v)), some (.int (nI d)), some (.int (nI j)), q] [] h1 sz 0 0 := by
    intro n
    induction n with
    | zero => intro j _ _ _ hj; exact absurd hj (Nat.not_lt_zero _)
    | succ n ih =>
      intro j h1 q hj hm hM1 hF
      have g0 := hM1.1
      have g1 := hM1.2.2.1
      have g5 := hM1.2.2.2.2.2.2.1
      have bj := csN_le b3 (s := s) (v := v) j (40 * s + 4 * d + j)
      have nx : j < 4 → ∀ q' (h2 : gHp), MV h2 m A th vs lf (tS U (csN U s v (j + 1))) → MF h h2 m A → GM G l 3 0 0 (qV (fun h' sz' => MV h' m A th vs lf (csU U s v) ∧ MF h h' m A ∧ sz' = sz)) M_R_comeToStand 58 [some (.ref m), some (.int (nI s)), some (.int (nI v)), some (.int (nI d)), some (.int (nI j)), q'] [] h2 sz 0 0 := by
        intro hlt q' h2 hM2 hF2
        exact gw_ii4 d_R_comeToStand_58 (by rw [n_s]; exact gw_goto d_R_comeToStand_61 (ih (j + 1) h2 q' (by omega) (by omega) hM2 hF2))
      have yes : 0 < csN U s v j (40 * s + 4 * d + j) → cov4 (mVc U v) (mVc U (csN U s v j (40 * s + 4 * d + j) - 1)) = true → csN U s v (j + 1) = va_up (csN U s v j) (40 * s + 4 * d + j) 0 := by
        intro z1 z2
        rw [csN, ← hd, if_pos (And.intro z1 z2)]
      have no : ¬ (0 < csN U s v j (40 * s + 4 * d + j) ∧ cov4 (mVc U v) (mVc U (csN U s v j (40 * s + 4 * d + j) - 1)) = true) → csN U s v (j + 1) = csN U s v j := by
        intro z
        rw [csN, ← hd, if_neg z]
      refine gw_il4 d_R_comeToStand_10 ?_
      refine gw_push d_R_comeToStand_12 ?_
      refine gw_icge d_R_comeToStand_13 (fun c_13 => ?_) (fun c_13 => ?_)
      · refine gw_al0 d_R_comeToStand_64 ?_
        have q4 := n_le (a := 4) c_13 (by decide) (by omega); obtain rfl : j = 4 := (by omega); refine gw_get d_R_comeToStand_65 g0 (by rfl) ?_
        refine gw_push d_R_comeToStand_68 ?_
        refine gw_il1 d_R_comeToStand_70 ?_
        refine gw_imul d_R_comeToStand_71 ?_; first | rw [m_4] | rw [m_40] | rw [m_160] | rw [m_20] | skip
        refine gw_push d_R_comeToStand_72 ?_
        refine gw_il3 d_R_comeToStand_73 ?_
        refine gw_imul d_R_comeToStand_74 ?_; first | rw [m_4] | rw [m_40] | rw [m_160] | rw [m_20] | skip
        refine gw_iadd d_R_comeToStand_75 ?_; first | rw [nI_add] | rw [p_4] | rw [p_40] | skip
        refine gw_al0 d_R_comeToStand_76 ?_
        refine gw_get d_R_comeToStand_77 (by assumption) (by rfl) ?_
        refine gw_il2 d_R_comeToStand_80 ?_
        refine gw_iald d_R_comeToStand_81 g1 v rfl hv (by omega) ?_
        refine gw_iadd d_R_comeToStand_82 ?_; rw [show uK (tS U (csN U s v 4)) = uK U from rfl, nI_add]
        refine gw_il2 d_R_comeToStand_83 ?_
        refine gw_push d_R_comeToStand_84 ?_
        refine gw_iadd d_R_comeToStand_85 ?_; rw [n_s]
        refine gw_iast d_R_comeToStand_86 g5 (40 * s + 4 * d + uK U v) rfl (by omega) (by omega) ?_
        refine gw_il1 d_R_comeToStand_87 ?_
        refine gw_il1 d_R_comeToStand_88 ?_
        refine gw_il3 d_R_comeToStand_89 ?_
        refine gw_rS3 d_R_comeToStand_90 cs_R_comeToStand_90 c_R_at ?_
        refine gw_is4 d_R_comeToStand_93 ?_
        refine gw_push d_R_comeToStand_95 ?_
        refine gw_is5 d_R_comeToStand_96 ?_
        refine loop2 5 0 _ (by omega) (by omega) ?_ (hF.trans (MF.arr (by omega)))
        have z := hM1.putS (f := S4) (by rw [hS4]; exact va_up_le (csN_le b3 4) (by omega))
        rw [hS4, ← hd] at z ⊢
        rw [← upd_nI] at z
        rw [jnV_0]
        exact z
      · refine gw_al0 d_R_comeToStand_16 ?_
        refine gw_il1 d_R_comeToStand_17 ?_
        refine gw_il3 d_R_comeToStand_18 ?_
        refine gw_il4 d_R_comeToStand_19 ?_
        have hlt := n_nle (a := 4) c_13 (by decide) (by omega); refine gw_rV3 d_R_comeToStand_21 cs_R_comeToStand_21 g0 (c_R_standing hM1 hs (by omega) hlt) ?_; rw [show uS (tS U (csN U s v j)) = csN U s v j from rfl]
        refine gw_is5 d_R_comeToStand_24 ?_
        refine gw_il5 d_R_comeToStand_26 ?_
        refine gw_iflt d_R_comeToStand_28 (fun c_28 => ?_) (fun c_28 => ?_)
        · first | (have z := hM1.putS (f := va_up (csN U s v j) (40 * s + 4 * d + j) 0) (va_up_le (csN_le b3 j) (by omega)); rw [← upd_nI] at z; exact nx hlt _ _ (by rw [yes hpos ((b2i_ne0 _).mp c_38)]; exact z) (hF.trans (MF.arr (by omega)))) | exact nx hlt _ _ (by rw [no (fun z => by have y := (b2i_eq0 _).mp c_38; rw [show cov4 (mVc (tS U (csN U s v j)) v) (mVc (tS U (csN U s v j)) (csN U s v j (40 * s + 4 * d + j) - 1)) = true from z.2] at y; cases y)]; exact hM1) hF | exact nx hlt _ _ (by rw [no (fun z => by have := n_dn c_28 bj; omega)]; exact hM1) hF
        · have hpos := n_up c_28; rw [n_m1 hpos]; refine gw_al0 d_R_comeToStand_31 ?_
          refine gw_il2 d_R_comeToStand_32 ?_
          refine gw_il5 d_R_comeToStand_33 ?_
          refine gw_rV2 d_R_comeToStand_35 cs_R_comeToStand_35 g0 (c_R_covers hM1 hv (by omega)) ?_
          refine gw_ifeq d_R_comeToStand_38 (fun c_38 => ?_) (fun c_38 => ?_)
          · first | (have z := hM1.putS (f := va_up (csN U s v j) (40 * s + 4 * d + j) 0) (va_up_le (csN_le b3 j) (by omega)); rw [← upd_nI] at z; exact nx hlt _ _ (by rw [yes hpos ((b2i_ne0 _).mp c_38)]; exact z) (hF.trans (MF.arr (by omega)))) | exact nx hlt _ _ (by rw [no (fun z => by have y := (b2i_eq0 _).mp c_38; rw [show cov4 (mVc (tS U (csN U s v j)) v) (mVc (tS U (csN U s v j)) (csN U s v j (40 * s + 4 * d + j) - 1)) = true from z.2] at y; cases y)]; exact hM1) hF | exact nx hlt _ _ (by rw [no (fun z => by have := n_dn c_28 bj; omega)]; exact hM1) hF
          · refine gw_al0 d_R_comeToStand_41 ?_
            refine gw_get d_R_comeToStand_42 (by assumption) (by rfl) ?_
            refine gw_push d_R_comeToStand_45 ?_
            refine gw_il1 d_R_comeToStand_47 ?_
            refine gw_imul d_R_comeToStand_48 ?_; first | rw [m_4] | rw [m_40] | rw [m_160] | rw [m_20] | skip
            refine gw_push d_R_comeToStand_49 ?_
            refine gw_il3 d_R_comeToStand_50 ?_
            refine gw_imul d_R_comeToStand_51 ?_; first | rw [m_4] | rw [m_40] | rw [m_160] | rw [m_20] | skip
            refine gw_iadd d_R_comeToStand_52 ?_; first | rw [nI_add] | rw [p_4] | rw [p_40] | skip
            refine gw_il4 d_R_comeToStand_53 ?_
            refine gw_iadd d_R_comeToStand_55 ?_; first | rw [nI_add] | rw [p_4] | rw [p_40] | skip
            refine gw_push d_R_comeToStand_56 ?_
            refine gw_iast d_R_comeToStand_57 g5 (40 * s + 4 * d + j) rfl (by omega) (by omega) ?_
            first | (have z := hM1.putS (f := va_up (csN U s v j) (40 * s + 4 * d + j) 0) (va_up_le (csN_le b3 j) (by omega)); rw [← upd_nI] at z; exact nx hlt _ _ (by rw [yes hpos ((b2i_ne0 _).mp c_38)]; exact z) (hF.trans (MF.arr (by omega)))) | exact nx hlt _ _ (by rw [no (fun z => by have y := (b2i_eq0 _).mp c_38; rw [show cov4 (mVc (tS U (csN U s v j)) v) (mVc (tS U (csN U s v j)) (csN U s v j (40 * s + 4 * d + j) - 1)) = true from z.2] at y; cases y)]; exact hM1) hF | exact nx hlt _ _ (by rw [no (fun z => by have := n_dn c_28 bj; omega)]; exact hM1) hF
  refine gw_al0 d_R_comeToStand_0 ?_
  refine gw_get d_R_comeToStand_1 (by assumption) (by rfl) ?_
  refine gw_il2 d_R_comeToStand_4 ?_
  refine gw_iald d_R_comeToStand_5 a0 v rfl hv (by omega) ?_; rw [← hd]
  refine gw_is3 d_R_comeToStand_6 ?_
  refine gw_push d_R_comeToStand_7 ?_
  refine gw_is4 d_R_comeToStand_8 ?_
  exact loop 5 0 h _ (by omega) (by omega) hM0 MF.refl
end RefE
