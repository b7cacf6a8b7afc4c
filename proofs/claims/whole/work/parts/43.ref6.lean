/-! ===== the reference: unload, visitUpTo ===== -/
def mUlS (c s j : Nat) (P : gU × Int32) : gU × Int32 := if cov4 (mKn P.1 (160 * s + 40 * s + 4 * uD P.1 (uR P.1 (20 * c + j)))) (mVc P.1 (uR P.1 (20 * c + j))) = true then P else if 300 < mHr P.1 s (uR P.1 (20 * c + j)) 4 then (P.1, P.2 + 1) else (csU P.1 s (uR P.1 (20 * c + j)), P.2)
def mUl (U : gU) (c s : Nat) (lf : Int32) : Nat → gU × Int32
  | 0 => (U, lf)
  | j + 1 => mUlS c s j (mUl U c s lf j)
theorem mUl_keep {U : gU} {c s : Nat} {lf : Int32} : ∀ j, uR (mUl U c s lf j).1 = uR U ∧ uM (mUl U c s lf j).1 = uM U ∧ uD (mUl U c s lf j).1 = uD U ∧ uL (mUl U c s lf j).1 = uL U ∧ uV (mUl U c s lf j).1 = uV U ∧ uK (mUl U c s lf j).1 = uK U ∧ uF (mUl U c s lf j).1 = uF U
  | 0 => ⟨rfl, rfl, rfl, rfl, rfl, rfl, rfl⟩
  | j + 1 => by
    have ih := mUl_keep (U := U) (c := c) (s := s) (lf := lf) j
    rw [mUl, mUlS]
    split
    · exact ih
    · split
      · exact ih
      · exact ih
def shN (R : Nat → Nat) (c mv : Nat) : Nat → Nat → Nat
  | 0 => R
  | k + 1 => va_up (shN R c mv k) (20 * c + k) (shN R c mv k (20 * c + k + mv))
theorem shN_lt {R : Nat → Nat} (hB : ∀ k, R k < 4100) {c mv : Nat} : ∀ n k, shN R c mv n k < 4100
  | 0 => hB
  | n + 1 => by
    rw [shN]
    exact va_up_lt (shN_lt hB n) (shN_lt hB n _)
def ulU (U : gU) (c s : Nat) (lf : Int32) (mv : Nat) : gU := tR (tM (mUl U c s lf mv).1 (va_up (uM U) c (uM U c - mv))) (shN (uR U) c mv (uM U c - mv))
def cpN (N : Nat → Int32) (c s : Nat) : Nat → Nat → Int32
  | 0 => N
  | k + 1 => upd (cpN N c s k) (160 * (4 + c) + k) (cpN N c s k (160 * s + k))
def mLd (c lim : Nat) : List Nat → gU → gU
  | [], U => U
  | v :: r, U => if uM U c < lim then (if 8 + mBy U v ≤ rmN U c (uM U c) then mLd c lim r (tM (tR U (va_up (uR U) (20 * c + uM U c) v)) (va_up (uM U) c (uM U c + 1))) else mLd c lim r U) else U
def NCh (U : gU) (s : Nat) (ds : Int32) : List Nat → Prop
  | [] => True
  | v :: r => mNx U s ds (some v) 40 = r.head? ∧ v < 4100 ∧ NCh U s ds r
/-- after unloading: learning, dropping, the table -/
def vt4 (U : gU) (c s : Nat) : gU :=
  tN (tS (tN U (lnN U c s 4)) (dmN (tN U (lnN U c s 4)) s 40)) (cpN (lnN U c s 4) c s 160)
def EqU (U U' : gU) : Prop := uD U' = uD U ∧ uV U' = uV U ∧ uS U' = uS U ∧ uN U' = uN U ∧ uL U' = uL U
theorem mVc_cg {U U' : gU} (h : EqU U U') (v : Nat) : mVc U' v = mVc U v := by unfold mVc; rw [h.2.1]
theorem mKn_cg {U U' : gU} (h : EqU U U') (v : Nat) : mKn U' v = mKn U v := by unfold mKn; rw [h.2.2.2.1]
theorem mBy_cg {U U' : gU} (h : EqU U U') (v : Nat) : mBy U' v = mBy U v := by unfold mBy; rw [h.2.2.2.2]
theorem mLkN_cg {U U' : gU} (h : EqU U U') {s v : Nat} {ds : Int32} : ∀ o, mLkN U' s v ds o = mLkN U s v ds o
  | 0 => rfl
  | o + 1 => by rw [mLkN, mLkN, mLkN_cg h o, mLk, mLk, mVc_cg h, mKn_cg h, h.1]
theorem mSn_cg {U U' : gU} (h : EqU U U') (v w : Nat) : mSn U' v w = mSn U v w := by
  unfold mSn mSm; rw [mVc_cg h, mVc_cg h, h.1]
theorem mNx_cg {U U' : gU} (h : EqU U U') {s : Nat} {ds : Int32} {la : Option Nat} : ∀ k, mNx U' s ds la k = mNx U s ds la k
  | 0 => rfl
  | k + 1 => by
    rw [mNx, mNx, mNx_cg h k, h.2.2.1]
    simp only [mLkN_cg h, mSn_cg h]
theorem rmN_cg {U U' : gU} {c : Nat} (hL : uL U' = uL U) : ∀ n, (∀ k, k < n → uR U' (20 * c + k) = uR U (20 * c + k)) → rmN U' c n = rmN U c n
  | 0, _ => rfl
  | n + 1, h => by
    rw [rmN, rmN, rmN_cg hL n (fun k hk => h k (by omega)), h n (by omega)]
    unfold mBy; rw [hL]
section RefG
variable {G : gG} {l : Launch} {h : gHp} {sz m : Nat} {A : Nat → Nat} {th : Int32} {vs : Nat} {lf : Int32} {U : gU}
theorem c_R_unload (hM : MV h m A th vs lf U) {c s mo : Nat} (hc : c < 3) (hs : s < 4) (hmo : mo < 2147483648) : SM G l 4 y_R_unload M_R_unload [.ref m, .int (nI c), .int (nI s), .int (nI mo)] h sz 0 0 (fun r h' sz' => r = .inl (some (.int (if uM U c ≤ mo then nI (mo - uM U c) else -1))) ∧ MV h' m A th vs (mUl U c s lf (min (uM U c) mo)).2 (ulU U c s lf (min (uM U c) mo)) ∧ MF h h' m A ∧ sz' = sz) := by
  have b5 := hM.2.2.2.2.2.2.2.2.2.2.2.2.2.2.2 c
  refine SM.of (lv0 := [some (.ref m), some (.int (nI c)), some (.int (nI s)), some (.int (nI mo)), none, none]) (by decide +kernel) rfl ⟨rfl, rfl⟩ rfl (by simp [Value.category]) (Nat.le_of_ble_eq_true rfl) ?_
  obtain ⟨mv, hmv⟩ : ∃ mv, mv = min (uM U c) mo := ⟨_, rfl⟩
  rw [← hmv]
  have hret : (if uM U c ≤ mo then nI (mo - uM U c) else -1) = if 0 < uM U c - mv then -1 else nI (mo - mv) := by
    by_cases q : uM U c ≤ mo
    · rw [if_pos q, if_neg (by omega), hmv, Nat.min_eq_left q]
    · rw [if_neg q, if_pos (by omega)]
  rw [hret]
  have keep := mUl_keep (U := U) (c := c) (s := s) (lf := lf)
  have loop2 : ∀ n k (h1 : gHp), k ≤ uM U c - mv → uM U c - mv - k < n → MV h1 m A th vs (mUl U c s lf mv).2 (tR (tM (mUl U c s lf mv).1 (va_up (uM U) c (uM U c - mv))) (shN (uR U) c mv k)) → MF h h1 m A → GM G l 4 0 0 (fun r h' sz' => r = .inl (some (.int (if 0 < uM U c - mv then -1 else nI (mo - mv)))) ∧ MV h' m A th vs (mUl U c s lf mv).2 (ulU U c s lf mv) ∧ MF h h' m A ∧ sz' = sz) M_R_unload 109 [some (.ref m), some (.int (nI c)), some (.int (nI s)), some (.int (nI mo)), some (.int (nI mv)), some (.int (nI k))] [] h1 sz 0 0 := by
    intro n
    induction n with
    | zero => intro k _ _ hj; exact absurd hj (Nat.not_lt_zero _)
    | succ n ih =>
      intro k h1 hk hm hM1 hF
      have g0 := hM1.1
      have g7 := hM1.2.2.2.2.2.2.2.2.1
      have g8 := hM1.2.2.2.2.2.2.2.2.2.1
      have b4 := hM1.2.2.2.2.2.2.2.2.2.2.2.2.2.2.1
      have e7 : nI (uM (tR (tM (mUl U c s lf mv).1 (va_up (uM U) c (uM U c - mv))) (shN (uR U) c mv k)) c) = nI (uM U c - mv) := by
        show nI (va_up (uM U) c (uM U c - mv) c) = _
        rw [va_up_self]
      refine gw_il5 d_R_unload_109 ?_
      refine gw_al0 d_R_unload_111 ?_
      refine gw_get d_R_unload_112 (by assumption) (by rfl) ?_
      refine gw_il1 d_R_unload_115 ?_
      refine gw_iald d_R_unload_116 g7 c rfl hc (by omega) ?_; rw [e7]
      refine gw_icge d_R_unload_117 (fun c_117 => ?_) (fun c_117 => ?_)
      · refine gw_al0 d_R_unload_153 ?_
        refine gw_get d_R_unload_154 (by assumption) (by rfl) ?_
        refine gw_il1 d_R_unload_157 ?_
        have q4 := n_le c_117 (by omega) (by omega); obtain rfl : k = uM U c - mv := (by omega); refine gw_iald d_R_unload_158 g7 c rfl hc (by omega) ?_; rw [e7]
        refine gw_ifle d_R_unload_159 (fun c_159 => ?_) (fun c_159 => ?_)
        · refine gw_il3 d_R_unload_166 ?_
          refine gw_il4 d_R_unload_167 ?_
          refine gw_isub d_R_unload_169 ?_; rw [pk_sub (by omega)]
          first | exact gw_iret d_R_unload_170 rfl (Nat.le_refl _) (Nat.le_refl _) ⟨by rw [if_neg (by have := n_le (b := 0) c_159 (by omega) (by decide); omega)], hM1, hF, rfl⟩ | exact gw_iret d_R_unload_170 rfl (Nat.le_refl _) (Nat.le_refl _) ⟨by rw [if_pos (n_nle (b := 0) c_159 (by omega) (by decide))], hM1, hF, rfl⟩
        · refine gw_push d_R_unload_162 ?_
          refine gw_goto d_R_unload_163 ?_
          first | exact gw_iret d_R_unload_170 rfl (Nat.le_refl _) (Nat.le_refl _) ⟨by rw [if_neg (by have := n_le (b := 0) c_159 (by omega) (by decide); omega)], hM1, hF, rfl⟩ | exact gw_iret d_R_unload_170 rfl (Nat.le_refl _) (Nat.le_refl _) ⟨by rw [if_pos (n_nle (b := 0) c_159 (by omega) (by decide))], hM1, hF, rfl⟩
      · refine gw_al0 d_R_unload_120 ?_
        refine gw_get d_R_unload_121 (by assumption) (by rfl) ?_
        refine gw_push d_R_unload_124 ?_
        refine gw_il1 d_R_unload_126 ?_
        refine gw_imul d_R_unload_127 ?_; first | rw [m_4] | rw [m_40] | rw [m_160] | rw [m_20] | skip
        refine gw_il5 d_R_unload_128 ?_
        refine gw_iadd d_R_unload_130 ?_; first | rw [nI_add] | rw [p_4] | rw [p_40] | skip
        refine gw_al0 d_R_unload_131 ?_
        refine gw_get d_R_unload_132 (by assumption) (by rfl) ?_
        refine gw_push d_R_unload_135 ?_
        refine gw_il1 d_R_unload_137 ?_
        refine gw_imul d_R_unload_138 ?_; first | rw [m_4] | rw [m_40] | rw [m_160] | rw [m_20] | skip
        refine gw_il5 d_R_unload_139 ?_
        refine gw_iadd d_R_unload_141 ?_; first | rw [nI_add] | rw [p_4] | rw [p_40] | skip
        refine gw_il4 d_R_unload_142 ?_
        refine gw_iadd d_R_unload_144 ?_; first | rw [nI_add] | rw [p_4] | rw [p_40] | skip
        have hlt := n_nle c_117 (by omega) (by omega); refine gw_iald d_R_unload_145 g8 (20 * c + k + mv) rfl (by omega) (by omega) ?_
        refine gw_iast d_R_unload_146 g8 (20 * c + k) rfl (by omega) (by omega) ?_
        have z := hM1.putR (f := shN (uR U) c mv (k + 1)) (by rw [shN]; exact va_up_lt b4 (b4 _)); rw [show (fun i => nI (shN (uR U) c mv (k + 1) i)) = upd (fun i => nI (shN (uR U) c mv k i)) (20 * c + k) (nI (shN (uR U) c mv k (20 * c + k + mv))) from (upd_nI _ _ _).symm] at z; exact gw_ii5 d_R_unload_147 (by rw [n_s]; exact gw_goto d_R_unload_150 (ih (k + 1) _ (by omega) (by omega) z (hF.trans (MF.arr (by omega)))))
  have loop : ∀ n j (h1 : gHp) q5, j ≤ mv → mv - j < n → MV h1 m A th vs (mUl U c s lf j).2 (mUl U c s lf j).1 → MF h h1 m A → GM G l 4 0 0 (fun r h' sz' => r = .inl (some (.int (if 0 < uM U c - mv then -1 else nI (mo - mv)))) ∧ MV h' m A th vs (mUl U c s lf mv).2 (ulU U c s lf mv) ∧ MF h h' m A ∧ sz' = sz) M_R_unload 3 [some (.ref m), some (.int (nI c)), some (.int (nI s)), some (.int (nI mo)), some (.int (nI j)), q5] [] h1 sz 0 0 := by
    intro n
    induction n with
    | zero => intro j _ _ _ hj; exact absurd hj (Nat.not_lt_zero _)
    | succ n ih =>
      intro j h1 q5 hj hm hM1 hF
      have kj := keep j
      have g0 := hM1.1
      have gD := hM1.2.1
      have g7 := hM1.2.2.2.2.2.2.2.2.1
      have g8 := hM1.2.2.2.2.2.2.2.2.2.1
      have b1 := hM1.2.2.2.2.2.2.2.2.2.2.2.1
      have b3 := hM1.2.2.2.2.2.2.2.2.2.2.2.2.2.1
      have b4 := hM1.2.2.2.2.2.2.2.2.2.2.2.2.2.2.1
      have b5' := hM1.2.2.2.2.2.2.2.2.2.2.2.2.2.2.2
      have e7 : nI (uM (mUl U c s lf j).1 c) = nI (uM U c) := by rw [kj.2.1]
      have p91 : j = mv → ∀ w5, GM G l 4 0 0 (fun r h' sz' => r = .inl (some (.int (if 0 < uM U c - mv then -1 else nI (mo - mv)))) ∧ MV h' m A th vs (mUl U c s lf mv).2 (ulU U c s lf mv) ∧ MF h h' m A ∧ sz' = sz) M_R_unload 91 [some (.ref m), some (.int (nI c)), some (.int (nI s)), some (.int (nI mo)), some (.int (nI j)), w5] [] h1 sz 0 0 := by
        intro q w5
        subst q
        refine gw_al0 d_R_unload_91 ?_
        refine gw_get d_R_unload_92 (by assumption) (by rfl) ?_
        refine gw_il1 d_R_unload_95 ?_
        refine gw_al0 d_R_unload_96 ?_
        refine gw_get d_R_unload_97 (by assumption) (by rfl) ?_
        refine gw_il1 d_R_unload_100 ?_
        refine gw_iald d_R_unload_101 g7 c rfl hc (by omega) ?_; rw [e7]
        refine gw_il4 d_R_unload_102 ?_
        refine gw_isub d_R_unload_104 ?_; rw [pk_sub (by omega)]
        refine gw_iast d_R_unload_105 g7 c rfl hc (by omega) ?_
        refine gw_push d_R_unload_106 ?_
        refine gw_is5 d_R_unload_107 ?_
        have z := hM1.putM (f := va_up (uM U) c (uM U c - j)) (by rw [← kj.2.1]; exact va_up_le b5' (by have := b5' c; omega)); rw [show (fun i => nI (va_up (uM U) c (uM U c - j) i)) = upd (fun i => nI (uM (mUl U c s lf j).1 i)) c (nI (uM U c - j)) from by rw [kj.2.1]; exact (upd_nI _ _ _).symm] at z; refine loop2 (uM U c + 1) 0 _ (by omega) (by omega) ?_ (hF.trans (MF.arr (by omega))); rw [show shN (uR U) c j 0 = uR (tM (mUl U c s lf j).1 (va_up (uM U) c (uM U c - j))) from kj.1.symm]; exact z
      have nx : ∀ w5 (h2 : gHp), j < mv → MV h2 m A th vs (mUl U c s lf (j + 1)).2 (mUl U c s lf (j + 1)).1 → MF h h2 m A → GM G l 4 0 0 (fun r h' sz' => r = .inl (some (.int (if 0 < uM U c - mv then -1 else nI (mo - mv)))) ∧ MV h' m A th vs (mUl U c s lf mv).2 (ulU U c s lf mv) ∧ MF h h' m A ∧ sz' = sz) M_R_unload 88 [some (.ref m), some (.int (nI c)), some (.int (nI s)), some (.int (nI mo)), some (.int (nI (j + 1))), w5] [] h2 sz 0 0 := by
        intro w5 h2 hlt hM2 hF2
        exact gw_goto d_R_unload_88 (ih (j + 1) h2 w5 (by omega) (by omega) hM2 hF2)
      obtain ⟨v, hv⟩ : ∃ v, v = uR (mUl U c s lf j).1 (20 * c + j) := ⟨_, rfl⟩
      have hv4 : v < 4100 := by rw [hv]; exact b4 _
      have bd := b1 v
      have st : mUl U c s lf (j + 1) = if cov4 (mKn (mUl U c s lf j).1 (160 * s + 40 * s + 4 * uD (mUl U c s lf j).1 v)) (mVc (mUl U c s lf j).1 v) = true then mUl U c s lf j else if 300 < mHr (mUl U c s lf j).1 s v 4 then ((mUl U c s lf j).1, (mUl U c s lf j).2 + 1) else (csU (mUl U c s lf j).1 s v, (mUl U c s lf j).2) := by
        rw [mUl, mUlS, ← hv]
      refine gw_il4 d_R_unload_3 ?_
      refine gw_al0 d_R_unload_5 ?_
      refine gw_get d_R_unload_6 (by assumption) (by rfl) ?_
      refine gw_il1 d_R_unload_9 ?_
      refine gw_iald d_R_unload_10 g7 c rfl hc (by omega) ?_; rw [e7]
      refine gw_icge d_R_unload_11 (fun c_11 => ?_) (fun c_11 => ?_)
      · first | exact p91 (by have := n_le c_17 (by omega) (by omega); omega) _ | exact p91 (by have := n_le c_11 (by omega) (by omega); omega) _
      · refine gw_il4 d_R_unload_14 ?_
        refine gw_il3 d_R_unload_16 ?_
        refine gw_icge d_R_unload_17 (fun c_17 => ?_) (fun c_17 => ?_)
        · first | exact p91 (by have := n_le c_17 (by omega) (by omega); omega) _ | exact p91 (by have := n_le c_11 (by omega) (by omega); omega) _
        · refine gw_al0 d_R_unload_20 ?_
          refine gw_get d_R_unload_21 (by assumption) (by rfl) ?_
          refine gw_push d_R_unload_24 ?_
          refine gw_il1 d_R_unload_26 ?_
          refine gw_imul d_R_unload_27 ?_; first | rw [m_4] | rw [m_40] | rw [m_160] | rw [m_20] | skip
          refine gw_il4 d_R_unload_28 ?_
          refine gw_iadd d_R_unload_30 ?_; first | rw [nI_add] | rw [p_4] | rw [p_40] | skip
          have hl1 := n_nle c_11 (by omega) (by omega); have hl2 := n_nle c_17 (by omega) (by omega); refine gw_iald d_R_unload_31 g8 (20 * c + j) rfl (by omega) (by omega) ?_; rw [← hv]
          refine gw_is5 d_R_unload_32 ?_
          refine gw_ii4 d_R_unload_34 ?_; rw [n_s]
          refine gw_al0 d_R_unload_37 ?_
          refine gw_il5 d_R_unload_38 ?_
          refine gw_il2 d_R_unload_40 ?_
          refine gw_il2 d_R_unload_41 ?_
          refine gw_al0 d_R_unload_42 ?_
          refine gw_get d_R_unload_43 (by assumption) (by rfl) ?_
          refine gw_il5 d_R_unload_46 ?_
          refine gw_iald d_R_unload_48 gD v rfl hv4 (by omega) ?_
          refine gw_rS3 d_R_unload_49 cs_R_unload_49 c_R_at ?_
          refine gw_rV2 d_R_unload_52 cs_R_unload_52 g0 (c_R_isCovered hM1 hv4 (by omega)) ?_
          refine gw_ifne d_R_unload_55 (fun c_55 => ?_) (fun c_55 => ?_)
          · first | exact nx _ _ (by omega) (by rw [st, if_neg (by rw [(b2i_eq0 _).mp c_55]; decide), if_neg (by simpa using (b2i_ne0 _).mp c_65)]; exact w1) (hF.trans w2) | exact nx _ _ (by omega) (by rw [st, if_neg (by rw [(b2i_eq0 _).mp c_55]; decide), if_pos (by simpa using (b2i_eq0 _).mp c_65)]; exact hM2) (hF.trans MF.obj) | exact nx _ _ (by omega) (by rw [st, if_pos ((b2i_ne0 _).mp c_55)]; exact hM1) hF
          · refine gw_al0 d_R_unload_58 ?_
            refine gw_il2 d_R_unload_59 ?_
            refine gw_il5 d_R_unload_60 ?_
            refine gw_rV2 d_R_unload_62 cs_R_unload_62 g0 (c_R_hasRoom hM1 hs hv4) ?_
            refine gw_ifeq d_R_unload_65 (fun c_65 => ?_) (fun c_65 => ?_)
            · refine gw_al0 d_R_unload_78 ?_
              refine gw_dup d_R_unload_79 rfl ?_
              refine gw_get d_R_unload_80 (by assumption) (by rfl) ?_
              refine gw_push d_R_unload_83 ?_
              refine gw_iadd d_R_unload_84 ?_; first | rw [nI_add] | rw [p_4] | rw [p_40] | skip
              refine gw_pf11 d_R_unload_85 g0 rfl rfl ?_; have hM2 := hM1.ob (th' := th) (vs' := vs) (lf' := (mUl U c s lf j).2 + 1)
              first | exact nx _ _ (by omega) (by rw [st, if_neg (by rw [(b2i_eq0 _).mp c_55]; decide), if_neg (by simpa using (b2i_ne0 _).mp c_65)]; exact w1) (hF.trans w2) | exact nx _ _ (by omega) (by rw [st, if_neg (by rw [(b2i_eq0 _).mp c_55]; decide), if_pos (by simpa using (b2i_eq0 _).mp c_65)]; exact hM2) (hF.trans MF.obj) | exact nx _ _ (by omega) (by rw [st, if_pos ((b2i_ne0 _).mp c_55)]; exact hM1) hF
            · refine gw_al0 d_R_unload_68 ?_
              refine gw_il2 d_R_unload_69 ?_
              refine gw_il5 d_R_unload_70 ?_
              refine gw_vV2 d_R_unload_72 cs_R_unload_72 g0 (c_R_comeToStand hM1 hs hv4) (fun h3 sz3 hq hz => ?_); obtain ⟨w1, w2, w3⟩ := hq; subst w3
              refine gw_goto d_R_unload_75 ?_
              first | exact nx _ _ (by omega) (by rw [st, if_neg (by rw [(b2i_eq0 _).mp c_55]; decide), if_neg (by simpa using (b2i_ne0 _).mp c_65)]; exact w1) (hF.trans w2) | exact nx _ _ (by omega) (by rw [st, if_neg (by rw [(b2i_eq0 _).mp c_55]; decide), if_pos (by simpa using (b2i_eq0 _).mp c_65)]; exact hM2) (hF.trans MF.obj) | exact nx _ _ (by omega) (by rw [st, if_pos ((b2i_ne0 _).mp c_55)]; exact hM1) hF
  refine gw_push d_R_unload_0 ?_
  refine gw_is4 d_R_unload_1 ?_
  exact loop (mv + 1) 0 h _ (by omega) (by omega) hM MF.refl
end RefG
