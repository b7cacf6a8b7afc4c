/-! ===== the reference: what reads (2) ===== -/
def covN (u w : Nat → Int32) : Nat → Bool
  | 0 => true
  | j + 1 => covN u w j && !decide (u j < w j)
theorem covN_4 (u w : Nat → Int32) : covN u w 4 = cov4 u w := by
  show ((((true && _) && _) && _) && _) = _
  unfold cov4
  simp only [Bool.true_and, Bool.and_assoc]
def dfN (u w : Nat → Int32) : Nat → Nat → Int32
  | 0, _ => 0
  | k + 1, j => if u j - w j = 0 then dfN u w k (j + 1) else u j - w j
def mAl (U : gU) (s : Nat) : Nat → Int32
  | 0 => 0
  | j + 1 => if 0 < uS U (40 * s + j) then mAl U s j + mBy U (uS U (40 * s + j) - 1) else mAl U s j
def mHr (U : gU) (s v : Nat) : Nat → Int32
  | 0 => mAl U s 40 + mBy U v
  | j + 1 => if 0 < uS U (40 * s + 4 * uD U v + j) ∧ cov4 (mVc U v) (mVc U (uS U (40 * s + 4 * uD U v + j) - 1)) = true then mHr U s v j - mBy U (uS U (40 * s + 4 * uD U v + j) - 1) else mHr U s v j
def mSm (U : gU) (v : Nat) : Int32 := mVc U v 0 + mVc U v 1 + mVc U v 2 + mVc U v 3
def mSn (U : gU) (v w : Nat) : Bool := if mSm U v = mSm U w then (if nI (uD U v) = nI (uD U w) then decide (dfN (mVc U v) (mVc U w) 4 0 < 0) else decide (nI (uD U v) < nI (uD U w))) else decide (mSm U v < mSm U w)
def mLk (U : gU) (s v : Nat) (ds : Int32) (o : Nat) : Bool := decide (o ≠ s) && (decide ((ds >>> (nI o &&& 31)) &&& 1 = 1) && !cov4 (mKn U (160 * s + 40 * o + 4 * uD U v)) (mVc U v))
def mLkN (U : gU) (s v : Nat) (ds : Int32) : Nat → Bool
  | 0 => false
  | o + 1 => mLkN U s v ds o || mLk U s v ds o
def mCt (U : gU) (s d : Nat) (mk : Bool) : Nat → Nat
  | 0 => 0
  | j + 1 => if 0 < uS U (40 * s + 4 * d + j) ∧ decide (uL U (uS U (40 * s + 4 * d + j) - 1) < 0) = mk then mCt U s d mk j + 1 else mCt U s d mk j
def sbB (U : gU) (s d S : Nat) : Nat → Nat
  | 0 => 0
  | o + 1 => if 0 < S ∧ 0 < uS U (40 * s + 4 * d + o) ∧ ¬ uL U (uS U (40 * s + 4 * d + o) - 1) < 0 ∧ dfN (mVc U (uS U (40 * s + 4 * d + o) - 1)) (mVc U (S - 1)) 4 0 < 0 then sbB U s d S o + 1 else sbB U s d S o
def sbF (U : gU) (s d : Nat) (k : Int32) : Nat → Nat → Option Nat
  | 0, _ => none
  | n + 1, j => if 0 < uS U (40 * s + 4 * d + j) ∧ ¬ uL U (uS U (40 * s + 4 * d + j) - 1) < 0 ∧ nI (sbB U s d (uS U (40 * s + 4 * d + j)) 4) = k then some (uS U (40 * s + 4 * d + j) - 1) else sbF U s d k n (j + 1)
def oI : Option Nat → Int32
  | none => -1
  | some v => nI v
def rmN (U : gU) (c : Nat) : Nat → Int32
  | 0 => 100
  | k + 1 => rmN U c k - 8 - mBy U (uR U (20 * c + k))
section RefC
variable {G : gG} {l : Launch} {h : gHp} {sz m : Nat} {A : Nat → Nat} {th : Int32} {vs : Nat} {lf : Int32} {U : gU}
theorem c_R_isCovered (hM : MV h m A th vs lf U) {v p : Nat} (hv : v < 4100) (hp : p + 4 ≤ 1120) : SM G l 2 y_R_isCovered M_R_isCovered [.ref m, .int (nI v), .int (nI p)] h sz 0 0 (qR (.int (b2i (cov4 (mKn U p) (mVc U v)))) h sz) := by
  have hM0 := hM
  obtain ⟨h0, a0, a1, a2, a3, a4, a5, a6, a7, a8, hd, hB⟩ := hM
  refine SM.of (lv0 := [some (.ref m), some (.int (nI v)), some (.int (nI p)), none, none]) (by decide +kernel) rfl ⟨rfl, rfl⟩ rfl (by simp [Value.category]) (Nat.le_of_ble_eq_true rfl) ?_
  have loop : ∀ n j, j ≤ 4 → 4 - j < n → GM G l 2 0 0 (qR (.int (b2i (cov4 (mKn U p) (mVc U v)))) h sz) M_R_isCovered 5 [some (.ref m), some (.int (nI v)), some (.int (nI p)), some (.int (b2i (covN (mKn U p) (mVc U v) j))), some (.int (nI j))] [] h sz 0 0 := by
    intro n
    induction n with
    | zero => intro j _ hj; exact absurd hj (Nat.not_lt_zero _)
    | succ n ih =>
      intro j hj hm
      have nx : j < 4 → ∀ b, covN (mKn U p) (mVc U v) (j + 1) = b → GM G l 2 0 0 (qR (.int (b2i (cov4 (mKn U p) (mVc U v)))) h sz) M_R_isCovered 40 [some (.ref m), some (.int (nI v)), some (.int (nI p)), some (.int (b2i b)), some (.int (nI j))] [] h sz 0 0 := by
        intro hlt b hb
        have z := ih (j + 1) (by omega) (by omega)
        rw [hb] at z
        exact gw_ii4 d_R_isCovered_40 (by rw [n_s]; exact gw_goto d_R_isCovered_43 z)
      refine gw_il4 d_R_isCovered_5 ?_
      refine gw_push d_R_isCovered_7 ?_
      refine gw_icge d_R_isCovered_8 (fun c_8 => ?_) (fun c_8 => ?_)
      · refine gw_il3 d_R_isCovered_46 ?_
        have q4 := n_le (a := 4) c_8 (by decide) (by omega); obtain rfl : j = 4 := (by omega); exact gw_zret d_R_isCovered_47 rfl (b2i_01 _) (Nat.le_refl _) (Nat.le_refl _) ⟨by rw [covN_4], rfl, rfl⟩
      · refine gw_il3 d_R_isCovered_11 ?_
        refine gw_ifeq d_R_isCovered_12 (fun c_12 => ?_) (fun c_12 => ?_)
        · refine gw_push d_R_isCovered_38 ?_
          refine gw_is3 d_R_isCovered_39 ?_
          first | exact nx hlt true (by rw [covN, (b2i_ne0 _).mp c_12, decide_eq_false (show ¬ mKn U p j < mVc U v j from c_31)]; rfl) | exact nx hlt false (by rw [covN, decide_eq_true (show mKn U p j < mVc U v j from c_31)]; simp) | exact nx (n_nle (a := 4) c_8 (by decide) (by omega)) false (by rw [covN, (b2i_eq0 _).mp c_12]; rfl)
        · refine gw_al0 d_R_isCovered_15 ?_
          refine gw_get d_R_isCovered_16 (by assumption) (by rfl) ?_
          refine gw_il2 d_R_isCovered_19 ?_
          refine gw_il4 d_R_isCovered_20 ?_
          refine gw_iadd d_R_isCovered_22 ?_; first | rw [nI_add] | rw [p_4] | rw [p_40] | skip
          have hlt := n_nle (a := 4) c_8 (by decide) (by omega); refine gw_iald d_R_isCovered_23 a6 (p + j) rfl (by omega) (by omega) ?_
          refine gw_al0 d_R_isCovered_24 ?_
          refine gw_il1 d_R_isCovered_25 ?_
          refine gw_il4 d_R_isCovered_26 ?_
          refine gw_rV2 d_R_isCovered_28 cs_R_isCovered_28 h0 (c_R_counterOf hM0 hv hlt) ?_
          refine gw_iclt d_R_isCovered_31 (fun c_31 => ?_) (fun c_31 => ?_)
          · refine gw_push d_R_isCovered_38 ?_
            refine gw_is3 d_R_isCovered_39 ?_
            first | exact nx hlt true (by rw [covN, (b2i_ne0 _).mp c_12, decide_eq_false (show ¬ mKn U p j < mVc U v j from c_31)]; rfl) | exact nx hlt false (by rw [covN, decide_eq_true (show mKn U p j < mVc U v j from c_31)]; simp) | exact nx (n_nle (a := 4) c_8 (by decide) (by omega)) false (by rw [covN, (b2i_eq0 _).mp c_12]; rfl)
          · refine gw_push d_R_isCovered_34 ?_
            refine gw_goto d_R_isCovered_35 ?_
            refine gw_is3 d_R_isCovered_39 ?_
            first | exact nx hlt true (by rw [covN, (b2i_ne0 _).mp c_12, decide_eq_false (show ¬ mKn U p j < mVc U v j from c_31)]; rfl) | exact nx hlt false (by rw [covN, decide_eq_true (show mKn U p j < mVc U v j from c_31)]; simp) | exact nx (n_nle (a := 4) c_8 (by decide) (by omega)) false (by rw [covN, (b2i_eq0 _).mp c_12]; rfl)
  refine gw_push d_R_isCovered_0 ?_
  refine gw_is3 d_R_isCovered_1 ?_
  refine gw_push d_R_isCovered_2 ?_
  refine gw_is4 d_R_isCovered_3 ?_
  exact loop 5 0 (by omega) (by omega)
theorem c_R_covers (hM : MV h m A th vs lf U) {v w : Nat} (hv : v < 4100) (hw : w < 4100) : SM G l 2 y_R_covers M_R_covers [.ref m, .int (nI v), .int (nI w)] h sz 0 0 (qR (.int (b2i (cov4 (mVc U v) (mVc U w)))) h sz) := by
  have hM0 := hM
  obtain ⟨h0, a0, a1, a2, a3, a4, a5, a6, a7, a8, hd, hB⟩ := hM
  refine SM.of (lv0 := [some (.ref m), some (.int (nI v)), some (.int (nI w)), none, none]) (by decide +kernel) rfl ⟨rfl, rfl⟩ rfl (by simp [Value.category]) (Nat.le_of_ble_eq_true rfl) ?_
  have loop : ∀ n j, j ≤ 4 → 4 - j < n → GM G l 2 0 0 (qR (.int (b2i (cov4 (mVc U v) (mVc U w)))) h sz) M_R_covers 5 [some (.ref m), some (.int (nI v)), some (.int (nI w)), some (.int (b2i (covN (mVc U v) (mVc U w) j))), some (.int (nI j))] [] h sz 0 0 := by
    intro n
    induction n with
    | zero => intro j _ hj; exact absurd hj (Nat.not_lt_zero _)
    | succ n ih =>
      intro j hj hm
      have nx : j < 4 → ∀ b, covN (mVc U v) (mVc U w) (j + 1) = b → GM G l 2 0 0 (qR (.int (b2i (cov4 (mVc U v) (mVc U w)))) h sz) M_R_covers 38 [some (.ref m), some (.int (nI v)), some (.int (nI w)), some (.int (b2i b)), some (.int (nI j))] [] h sz 0 0 := by
        intro hlt b hb
        have z := ih (j + 1) (by omega) (by omega)
        rw [hb] at z
        exact gw_ii4 d_R_covers_38 (by rw [n_s]; exact gw_goto d_R_covers_41 z)
      refine gw_il4 d_R_covers_5 ?_
      refine gw_push d_R_covers_7 ?_
      refine gw_icge d_R_covers_8 (fun c_8 => ?_) (fun c_8 => ?_)
      · refine gw_il3 d_R_covers_44 ?_
        have q4 := n_le (a := 4) c_8 (by decide) (by omega); obtain rfl : j = 4 := (by omega); exact gw_zret d_R_covers_45 rfl (b2i_01 _) (Nat.le_refl _) (Nat.le_refl _) ⟨by rw [covN_4], rfl, rfl⟩
      · refine gw_il3 d_R_covers_11 ?_
        refine gw_ifeq d_R_covers_12 (fun c_12 => ?_) (fun c_12 => ?_)
        · refine gw_push d_R_covers_36 ?_
          refine gw_is3 d_R_covers_37 ?_
          first | exact nx hlt true (by rw [covN, (b2i_ne0 _).mp c_12, decide_eq_false (show ¬ mVc U v j < mVc U w j from c_29)]; rfl) | exact nx hlt false (by rw [covN, decide_eq_true (show mVc U v j < mVc U w j from c_29)]; simp) | exact nx (n_nle (a := 4) c_8 (by decide) (by omega)) false (by rw [covN, (b2i_eq0 _).mp c_12]; rfl)
        · refine gw_al0 d_R_covers_15 ?_
          refine gw_il1 d_R_covers_16 ?_
          refine gw_il4 d_R_covers_17 ?_
          have hlt := n_nle (a := 4) c_8 (by decide) (by omega); refine gw_rV2 d_R_covers_19 cs_R_covers_19 h0 (c_R_counterOf hM0 hv hlt) ?_
          refine gw_al0 d_R_covers_22 ?_
          refine gw_il2 d_R_covers_23 ?_
          refine gw_il4 d_R_covers_24 ?_
          refine gw_rV2 d_R_covers_26 cs_R_covers_26 h0 (c_R_counterOf hM0 hw hlt) ?_
          refine gw_iclt d_R_covers_29 (fun c_29 => ?_) (fun c_29 => ?_)
          · refine gw_push d_R_covers_36 ?_
            refine gw_is3 d_R_covers_37 ?_
            first | exact nx hlt true (by rw [covN, (b2i_ne0 _).mp c_12, decide_eq_false (show ¬ mVc U v j < mVc U w j from c_29)]; rfl) | exact nx hlt false (by rw [covN, decide_eq_true (show mVc U v j < mVc U w j from c_29)]; simp) | exact nx (n_nle (a := 4) c_8 (by decide) (by omega)) false (by rw [covN, (b2i_eq0 _).mp c_12]; rfl)
          · refine gw_push d_R_covers_32 ?_
            refine gw_goto d_R_covers_33 ?_
            refine gw_is3 d_R_covers_37 ?_
            first | exact nx hlt true (by rw [covN, (b2i_ne0 _).mp c_12, decide_eq_false (show ¬ mVc U v j < mVc U w j from c_29)]; rfl) | exact nx hlt false (by rw [covN, decide_eq_true (show mVc U v j < mVc U w j from c_29)]; simp) | exact nx (n_nle (a := 4) c_8 (by decide) (by omega)) false (by rw [covN, (b2i_eq0 _).mp c_12]; rfl)
  refine gw_push d_R_covers_0 ?_
  refine gw_is3 d_R_covers_1 ?_
  refine gw_push d_R_covers_2 ?_
  refine gw_is4 d_R_covers_3 ?_
  exact loop 5 0 (by omega) (by omega)
theorem c_R_compare (hM : MV h m A th vs lf U) {v w : Nat} (hv : v < 4100) (hw : w < 4100) : SM G l 2 y_R_compare M_R_compare [.ref m, .int (nI v), .int (nI w)] h sz 0 0 (qR (.int (dfN (mVc U v) (mVc U w) 4 0)) h sz) := by
  have hM0 := hM
  obtain ⟨h0, a0, a1, a2, a3, a4, a5, a6, a7, a8, hd, hB⟩ := hM
  refine SM.of (lv0 := [some (.ref m), some (.int (nI v)), some (.int (nI w)), none, none]) (by decide +kernel) rfl ⟨rfl, rfl⟩ rfl (by simp [Value.category]) (Nat.le_of_ble_eq_true rfl) ?_
  have loop : ∀ n j q, j + n = 4 → dfN (mVc U v) (mVc U w) 4 0 = dfN (mVc U v) (mVc U w) n j → GM G l 2 0 0 (qR (.int (dfN (mVc U v) (mVc U w) 4 0)) h sz) M_R_compare 2 [some (.ref m), some (.int (nI v)), some (.int (nI w)), some (.int (nI j)), q] [] h sz 0 0 := by
    intro n
    induction n with
    | zero =>
      intro j q hj hI
      obtain rfl : j = 4 := by omega
      refine gw_il3 d_R_compare_2 ?_
      refine gw_push d_R_compare_3 ?_
      refine gw_icge d_R_compare_4 (fun c_4 => ?_) (fun c_4 => absurd (by decide) c_4)
      refine gw_push d_R_compare_36 ?_
      exact gw_iret d_R_compare_37 rfl (Nat.le_refl _) (Nat.le_refl _) ⟨by rw [hI]; rfl, rfl, rfl⟩
    | succ n ih =>
      intro j q hj hI
      rw [show dfN (mVc U v) (mVc U w) (n + 1) j = if mVc U v j - mVc U w j = 0 then dfN (mVc U v) (mVc U w) n (j + 1) else mVc U v j - mVc U w j from rfl] at hI
      refine gw_il3 d_R_compare_2 ?_
      refine gw_push d_R_compare_3 ?_
      refine gw_icge d_R_compare_4 (fun c_4 => absurd (n_le (a := 4) c_4 (by decide) (by omega)) (by omega)) (fun c_4 => ?_)
      refine gw_al0 d_R_compare_7 ?_
      refine gw_il1 d_R_compare_8 ?_
      refine gw_il3 d_R_compare_9 ?_
      refine gw_rV2 d_R_compare_10 cs_R_compare_10 h0 (c_R_counterOf hM0 hv (j := j) (by omega)) ?_
      refine gw_al0 d_R_compare_13 ?_
      refine gw_il2 d_R_compare_14 ?_
      refine gw_il3 d_R_compare_15 ?_
      refine gw_rV2 d_R_compare_16 cs_R_compare_16 h0 (c_R_counterOf hM0 hw (j := j) (by omega)) ?_
      refine gw_isub d_R_compare_19 ?_
      refine gw_is4 d_R_compare_20 ?_
      refine gw_il4 d_R_compare_22 ?_
      refine gw_ifeq d_R_compare_24 (fun c_24 => ?_) (fun c_24 => ?_)
      · exact gw_ii3 d_R_compare_30 (by rw [n_s]; exact gw_goto d_R_compare_33 (ih (j + 1) _ (by omega) (by rw [hI, if_pos c_24])))
      · refine gw_il4 d_R_compare_27 ?_
        exact gw_iret d_R_compare_29 rfl (Nat.le_refl _) (Nat.le_refl _) ⟨by rw [hI, if_neg c_24], rfl, rfl⟩
  refine gw_push d_R_compare_0 ?_
  refine gw_is3 d_R_compare_1 ?_
  exact loop 4 0 _ (by omega) rfl
theorem c_R_allBytes (hM : MV h m A th vs lf U) {s : Nat} (hs : s < 4) : SM G l 2 y_R_allBytes M_R_allBytes [.ref m, .int (nI s)] h sz 0 0 (qR (.int (mAl U s 40)) h sz) := by
  have hM0 := hM
  obtain ⟨h0, a0, a1, a2, a3, a4, a5, a6, a7, a8, hd, -, -, b3, -⟩ := hM
  refine SM.of (lv0 := [some (.ref m), some (.int (nI s)), none, none]) (by decide +kernel) rfl ⟨rfl, rfl⟩ rfl (by simp [Value.category]) (Nat.le_of_ble_eq_true rfl) ?_
  have loop : ∀ n j, j ≤ 40 → 40 - j < n → GM G l 2 0 0 (qR (.int (mAl U s 40)) h sz) M_R_allBytes 7 [some (.ref m), some (.int (nI s)), some (.int (mAl U s j)), some (.int (nI (40 * s + j)))] [] h sz 0 0 := by
    intro n
    induction n with
    | zero => intro j _ hj; exact absurd hj (Nat.not_lt_zero _)
    | succ n ih =>
      intro j hj hm
      have b := b3 (40 * s + j)
      have nx : 40 * s + j < 40 * s + 40 → ∀ x, mAl U s (j + 1) = x → GM G l 2 0 0 (qR (.int (mAl U s 40)) h sz) M_R_allBytes 46 [some (.ref m), some (.int (nI s)), some (.int x), some (.int (nI (40 * s + j)))] [] h sz 0 0 := by
        intro hlt x hb
        have z := ih (j + 1) (by omega) (by omega)
        rw [hb] at z
        exact gw_ii3 d_R_allBytes_46 (by rw [n_s]; exact gw_goto d_R_allBytes_49 z)
      refine gw_il3 d_R_allBytes_7 ?_
      refine gw_push d_R_allBytes_8 ?_
      refine gw_il1 d_R_allBytes_10 ?_
      refine gw_imul d_R_allBytes_11 ?_; first | rw [m_4] | rw [m_40] | rw [m_160] | rw [m_20] | skip
      refine gw_push d_R_allBytes_12 ?_
      refine gw_iadd d_R_allBytes_14 ?_; first | rw [nI_add] | rw [p_4] | rw [p_40] | skip
      refine gw_icge d_R_allBytes_15 (fun c_15 => ?_) (fun c_15 => ?_)
      · refine gw_il2 d_R_allBytes_52 ?_
        have q4 := n_le c_15 (by omega) (by omega); obtain rfl : j = 40 := (by omega); exact gw_iret d_R_allBytes_53 rfl (Nat.le_refl _) (Nat.le_refl _) ⟨rfl, rfl, rfl⟩
      · refine gw_al0 d_R_allBytes_18 ?_
        refine gw_get d_R_allBytes_19 (by assumption) (by rfl) ?_
        refine gw_il3 d_R_allBytes_22 ?_
        have hlt := n_nle c_15 (by omega) (by omega); refine gw_iald d_R_allBytes_23 a5 (40 * s + j) rfl (by omega) (by omega) ?_
        refine gw_ifle d_R_allBytes_24 (fun c_24 => ?_) (fun c_24 => ?_)
        · refine gw_il2 d_R_allBytes_44 ?_
          refine gw_is2 d_R_allBytes_45 ?_
          first | exact nx hlt _ (by rw [mAl, if_pos hpos]) | exact nx hlt _ (by rw [mAl, if_neg (by have := n_le (b := 0) c_24 (by omega) (by decide); omega)])
        · refine gw_il2 d_R_allBytes_27 ?_
          refine gw_al0 d_R_allBytes_28 ?_
          refine gw_al0 d_R_allBytes_29 ?_
          refine gw_get d_R_allBytes_30 (by assumption) (by rfl) ?_
          refine gw_il3 d_R_allBytes_33 ?_
          refine gw_iald d_R_allBytes_34 a5 (40 * s + j) rfl (by omega) (by omega) ?_
          refine gw_push d_R_allBytes_35 ?_
          have hpos := n_nle (b := 0) c_24 (by omega) (by decide); refine gw_isub d_R_allBytes_36 ?_; rw [n_m1 hpos]
          refine gw_rV1 d_R_allBytes_37 cs_R_allBytes_37 h0 (c_R_bytesOf hM0 (by omega)) ?_
          refine gw_iadd d_R_allBytes_40 ?_; first | rw [nI_add] | rw [p_4] | rw [p_40] | skip
          refine gw_goto d_R_allBytes_41 ?_
          refine gw_is2 d_R_allBytes_45 ?_
          first | exact nx hlt _ (by rw [mAl, if_pos hpos]) | exact nx hlt _ (by rw [mAl, if_neg (by have := n_le (b := 0) c_24 (by omega) (by decide); omega)])
  refine gw_push d_R_allBytes_0 ?_
  refine gw_is2 d_R_allBytes_1 ?_
  refine gw_push d_R_allBytes_2 ?_
  refine gw_il1 d_R_allBytes_4 ?_
  refine gw_imul d_R_allBytes_5 ?_; first | rw [m_4] | rw [m_40] | rw [m_160] | rw [m_20] | skip
  refine gw_is3 d_R_allBytes_6 ?_
  exact loop 41 0 (by omega) (by omega)
theorem c_R_hasRoom (hM : MV h m A th vs lf U) {s v : Nat} (hs : s < 4) (hv : v < 4100) : SM G l 3 y_R_hasRoom M_R_hasRoom [.ref m, .int (nI s), .int (nI v)] h sz 0 0 (qR (.int (b2i (!decide (300 < mHr U s v 4)))) h sz) := by
  have hM0 := hM
  obtain ⟨h0, a0, a1, a2, a3, a4, a5, a6, a7, a8, hd, b1, b2, b3, -⟩ := hM
  have bd := b1 v
  refine SM.of (lv0 := [some (.ref m), some (.int (nI s)), some (.int (nI v)), none, none, none]) (by decide +kernel) rfl ⟨rfl, rfl⟩ rfl (by simp [Value.category]) (Nat.le_of_ble_eq_true rfl) ?_
  have loop : ∀ n j q, j ≤ 4 → 4 - j < n → GM G l 3 0 0 (qR (.int (b2i (!decide (300 < mHr U s v 4)))) h sz) M_R_hasRoom 15 [some (.ref m), some (.int (nI s)), some (.int (nI v)), some (.int (mHr U s v j)), some (.int (nI j)), q] [] h sz 0 0 := by
    intro n
    induction n with
    | zero => intro j _ _ hj; exact absurd hj (Nat.not_lt_zero _)
    | succ n ih =>
      intro j q hj hm
      have b := b3 (40 * s + 4 * uD U v + j)
      have nx : j < 4 → ∀ x q', mHr U s v (j + 1) = x → GM G l 3 0 0 (qR (.int (b2i (!decide (300 < mHr U s v 4)))) h sz) M_R_hasRoom 64 [some (.ref m), some (.int (nI s)), some (.int (nI v)), some (.int x), some (.int (nI j)), q'] [] h sz 0 0 := by
        intro hlt x q' hb
        have z := ih (j + 1) q' (by omega) (by omega)
        rw [hb] at z
        exact gw_ii4 d_R_hasRoom_64 (by rw [n_s]; exact gw_goto d_R_hasRoom_67 z)
      refine gw_il4 d_R_hasRoom_15 ?_
      refine gw_push d_R_hasRoom_17 ?_
      refine gw_icge d_R_hasRoom_18 (fun c_18 => ?_) (fun c_18 => ?_)
      · refine gw_il3 d_R_hasRoom_70 ?_
        refine gw_push d_R_hasRoom_71 ?_
        refine gw_icgt d_R_hasRoom_74 (fun c_74 => ?_) (fun c_74 => ?_)
        · refine gw_push d_R_hasRoom_81 ?_
          have q4 := n_le (a := 4) c_18 (by decide) (by omega); obtain rfl : j = 4 := (by omega); first | exact gw_zret d_R_hasRoom_82 rfl (by decide) (Nat.le_refl _) (Nat.le_refl _) ⟨by rw [decide_eq_true c_74]; rfl, rfl, rfl⟩ | exact gw_zret d_R_hasRoom_82 rfl (by decide) (Nat.le_refl _) (Nat.le_refl _) ⟨by rw [decide_eq_false c_74]; rfl, rfl, rfl⟩
        · refine gw_push d_R_hasRoom_77 ?_
          refine gw_goto d_R_hasRoom_78 ?_
          have q4 := n_le (a := 4) c_18 (by decide) (by omega); obtain rfl : j = 4 := (by omega); first | exact gw_zret d_R_hasRoom_82 rfl (by decide) (Nat.le_refl _) (Nat.le_refl _) ⟨by rw [decide_eq_true c_74]; rfl, rfl, rfl⟩ | exact gw_zret d_R_hasRoom_82 rfl (by decide) (Nat.le_refl _) (Nat.le_refl _) ⟨by rw [decide_eq_false c_74]; rfl, rfl, rfl⟩
      · refine gw_al0 d_R_hasRoom_21 ?_
        refine gw_il1 d_R_hasRoom_22 ?_
        refine gw_al0 d_R_hasRoom_23 ?_
        refine gw_get d_R_hasRoom_24 (by assumption) (by rfl) ?_
        refine gw_il2 d_R_hasRoom_27 ?_
        have hlt := n_nle (a := 4) c_18 (by decide) (by omega); refine gw_iald d_R_hasRoom_28 a0 v rfl hv (by omega) ?_
        refine gw_il4 d_R_hasRoom_29 ?_
        refine gw_rV3 d_R_hasRoom_31 cs_R_hasRoom_31 h0 (c_R_standing hM0 hs bd hlt) ?_
        refine gw_is5 d_R_hasRoom_34 ?_
        refine gw_il5 d_R_hasRoom_36 ?_
        refine gw_iflt d_R_hasRoom_38 (fun c_38 => ?_) (fun c_38 => ?_)
        · refine gw_il3 d_R_hasRoom_62 ?_
          refine gw_is3 d_R_hasRoom_63 ?_
          first | exact nx hlt _ _ (by rw [mHr, if_pos (And.intro hpos ((b2i_ne0 _).mp c_48))]) | exact nx hlt _ _ (by rw [mHr, if_neg (fun z => by have y := (b2i_eq0 _).mp c_48; rw [z.2] at y; cases y)]) | exact nx hlt _ _ (by rw [mHr, if_neg (fun z => by have := n_dn c_38 b; omega)])
        · have hpos := n_up c_38; rw [n_m1 hpos]; refine gw_al0 d_R_hasRoom_41 ?_
          refine gw_il2 d_R_hasRoom_42 ?_
          refine gw_il5 d_R_hasRoom_43 ?_
          refine gw_rV2 d_R_hasRoom_45 cs_R_hasRoom_45 h0 (c_R_covers hM0 hv (by omega)) ?_
          refine gw_ifeq d_R_hasRoom_48 (fun c_48 => ?_) (fun c_48 => ?_)
          · refine gw_il3 d_R_hasRoom_62 ?_
            refine gw_is3 d_R_hasRoom_63 ?_
            first | exact nx hlt _ _ (by rw [mHr, if_pos (And.intro hpos ((b2i_ne0 _).mp c_48))]) | exact nx hlt _ _ (by rw [mHr, if_neg (fun z => by have y := (b2i_eq0 _).mp c_48; rw [z.2] at y; cases y)]) | exact nx hlt _ _ (by rw [mHr, if_neg (fun z => by have := n_dn c_38 b; omega)])
          · refine gw_il3 d_R_hasRoom_51 ?_
            refine gw_al0 d_R_hasRoom_52 ?_
            refine gw_il5 d_R_hasRoom_53 ?_
            refine gw_rV1 d_R_hasRoom_55 cs_R_hasRoom_55 h0 (c_R_bytesOf hM0 (by omega)) ?_
            refine gw_isub d_R_hasRoom_58 ?_
            refine gw_goto d_R_hasRoom_59 ?_
            refine gw_is3 d_R_hasRoom_63 ?_
            first | exact nx hlt _ _ (by rw [mHr, if_pos (And.intro hpos ((b2i_ne0 _).mp c_48))]) | exact nx hlt _ _ (by rw [mHr, if_neg (fun z => by have y := (b2i_eq0 _).mp c_48; rw [z.2] at y; cases y)]) | exact nx hlt _ _ (by rw [mHr, if_neg (fun z => by have := n_dn c_38 b; omega)])
  refine gw_al0 d_R_hasRoom_0 ?_
  refine gw_il1 d_R_hasRoom_1 ?_
  refine gw_rV1 d_R_hasRoom_2 cs_R_hasRoom_2 h0 (c_R_allBytes hM0 hs) ?_
  refine gw_al0 d_R_hasRoom_5 ?_
  refine gw_il2 d_R_hasRoom_6 ?_
  refine gw_rV1 d_R_hasRoom_7 cs_R_hasRoom_7 h0 (c_R_bytesOf hM0 hv) ?_
  refine gw_iadd d_R_hasRoom_10 ?_; first | rw [nI_add] | rw [p_4] | rw [p_40] | skip
  refine gw_is3 d_R_hasRoom_11 ?_
  refine gw_push d_R_hasRoom_12 ?_
  refine gw_is4 d_R_hasRoom_13 ?_
  exact loop 5 0 _ (by omega) (by omega)
theorem c_R_isSooner (hM : MV h m A th vs lf U) {v w : Nat} (hv : v < 4100) (hw : w < 4100) : SM G l 3 y_R_isSooner M_R_isSooner [.ref m, .int (nI v), .int (nI w)] h sz 0 0 (qR (.int (b2i (mSn U v w))) h sz) := by
  have hM0 := hM
  obtain ⟨h0, a0, a1, a2, a3, a4, a5, a6, a7, a8, hd, b1, b2, b3, -⟩ := hM
  refine SM.of (lv0 := [some (.ref m), some (.int (nI v)), some (.int (nI w))]) (by decide +kernel) rfl ⟨rfl, rfl⟩ rfl (by simp [Value.category]) (Nat.le_of_ble_eq_true rfl) ?_
  refine gw_al0 d_R_isSooner_0 ?_
  refine gw_il1 d_R_isSooner_1 ?_
  refine gw_rV1 d_R_isSooner_2 cs_R_isSooner_2 h0 (c_R_sumOf hM0 hv) ?_
  refine gw_al0 d_R_isSooner_5 ?_
  refine gw_il2 d_R_isSooner_6 ?_
  refine gw_rV1 d_R_isSooner_7 cs_R_isSooner_7 h0 (c_R_sumOf hM0 hw) ?_
  refine gw_iceq d_R_isSooner_10 (fun c_10 => ?_) (fun c_10 => ?_)
  · refine gw_al0 d_R_isSooner_32 ?_
    refine gw_get d_R_isSooner_33 (by assumption) (by rfl) ?_
    refine gw_il1 d_R_isSooner_36 ?_
    refine gw_iald d_R_isSooner_37 a0 v rfl hv (by omega) ?_
    refine gw_al0 d_R_isSooner_38 ?_
    refine gw_get d_R_isSooner_39 (by assumption) (by rfl) ?_
    refine gw_il2 d_R_isSooner_42 ?_
    refine gw_iald d_R_isSooner_43 a0 w rfl hw (by omega) ?_
    refine gw_iceq d_R_isSooner_44 (fun c_44 => ?_) (fun c_44 => ?_)
    · refine gw_al0 d_R_isSooner_68 ?_
      refine gw_il1 d_R_isSooner_69 ?_
      refine gw_il2 d_R_isSooner_70 ?_
      refine gw_rV2 d_R_isSooner_71 cs_R_isSooner_71 h0 (c_R_compare hM0 hv hw) ?_
      refine gw_ifge d_R_isSooner_74 (fun c_74 => ?_) (fun c_74 => ?_)
      · refine gw_push d_R_isSooner_81 ?_
        exact gw_zret d_R_isSooner_82 rfl (by decide) (Nat.le_refl _) (Nat.le_refl _) ⟨by first | (rw [mSn, if_neg (show ¬ mSm U v = mSm U w from c_10), decide_eq_true (show mSm U v < mSm U w from Int32.not_le.mp c_23)]; rfl) | (rw [mSn, if_neg (show ¬ mSm U v = mSm U w from c_10), decide_eq_false (show ¬ mSm U v < mSm U w from Int32.not_lt.mpr c_23)]; rfl) | (rw [mSn, if_pos (show mSm U v = mSm U w from c_10), if_neg c_44, decide_eq_true (Int32.not_le.mp c_59)]; rfl) | (rw [mSn, if_pos (show mSm U v = mSm U w from c_10), if_neg c_44, decide_eq_false (Int32.not_lt.mpr c_59)]; rfl) | (rw [mSn, if_pos (show mSm U v = mSm U w from c_10), if_pos c_44, decide_eq_true (Int32.not_le.mp c_74)]; rfl) | (rw [mSn, if_pos (show mSm U v = mSm U w from c_10), if_pos c_44, decide_eq_false (Int32.not_lt.mpr c_74)]; rfl), rfl, rfl⟩
      · refine gw_push d_R_isSooner_77 ?_
        refine gw_goto d_R_isSooner_78 ?_
        exact gw_zret d_R_isSooner_82 rfl (by decide) (Nat.le_refl _) (Nat.le_refl _) ⟨by first | (rw [mSn, if_neg (show ¬ mSm U v = mSm U w from c_10), decide_eq_true (show mSm U v < mSm U w from Int32.not_le.mp c_23)]; rfl) | (rw [mSn, if_neg (show ¬ mSm U v = mSm U w from c_10), decide_eq_false (show ¬ mSm U v < mSm U w from Int32.not_lt.mpr c_23)]; rfl) | (rw [mSn, if_pos (show mSm U v = mSm U w from c_10), if_neg c_44, decide_eq_true (Int32.not_le.mp c_59)]; rfl) | (rw [mSn, if_pos (show mSm U v = mSm U w from c_10), if_neg c_44, decide_eq_false (Int32.not_lt.mpr c_59)]; rfl) | (rw [mSn, if_pos (show mSm U v = mSm U w from c_10), if_pos c_44, decide_eq_true (Int32.not_le.mp c_74)]; rfl) | (rw [mSn, if_pos (show mSm U v = mSm U w from c_10), if_pos c_44, decide_eq_false (Int32.not_lt.mpr c_74)]; rfl), rfl, rfl⟩
    · refine gw_al0 d_R_isSooner_47 ?_
      refine gw_get d_R_isSooner_48 (by assumption) (by rfl) ?_
      refine gw_il1 d_R_isSooner_51 ?_
      refine gw_iald d_R_isSooner_52 a0 v rfl hv (by omega) ?_
      refine gw_al0 d_R_isSooner_53 ?_
      refine gw_get d_R_isSooner_54 (by assumption) (by rfl) ?_
      refine gw_il2 d_R_isSooner_57 ?_
      refine gw_iald d_R_isSooner_58 a0 w rfl hw (by omega) ?_
      refine gw_icge d_R_isSooner_59 (fun c_59 => ?_) (fun c_59 => ?_)
      · refine gw_push d_R_isSooner_66 ?_
        exact gw_zret d_R_isSooner_67 rfl (by decide) (Nat.le_refl _) (Nat.le_refl _) ⟨by first | (rw [mSn, if_neg (show ¬ mSm U v = mSm U w from c_10), decide_eq_true (show mSm U v < mSm U w from Int32.not_le.mp c_23)]; rfl) | (rw [mSn, if_neg (show ¬ mSm U v = mSm U w from c_10), decide_eq_false (show ¬ mSm U v < mSm U w from Int32.not_lt.mpr c_23)]; rfl) | (rw [mSn, if_pos (show mSm U v = mSm U w from c_10), if_neg c_44, decide_eq_true (Int32.not_le.mp c_59)]; rfl) | (rw [mSn, if_pos (show mSm U v = mSm U w from c_10), if_neg c_44, decide_eq_false (Int32.not_lt.mpr c_59)]; rfl) | (rw [mSn, if_pos (show mSm U v = mSm U w from c_10), if_pos c_44, decide_eq_true (Int32.not_le.mp c_74)]; rfl) | (rw [mSn, if_pos (show mSm U v = mSm U w from c_10), if_pos c_44, decide_eq_false (Int32.not_lt.mpr c_74)]; rfl), rfl, rfl⟩
      · refine gw_push d_R_isSooner_62 ?_
        refine gw_goto d_R_isSooner_63 ?_
        exact gw_zret d_R_isSooner_67 rfl (by decide) (Nat.le_refl _) (Nat.le_refl _) ⟨by first | (rw [mSn, if_neg (show ¬ mSm U v = mSm U w from c_10), decide_eq_true (show mSm U v < mSm U w from Int32.not_le.mp c_23)]; rfl) | (rw [mSn, if_neg (show ¬ mSm U v = mSm U w from c_10), decide_eq_false (show ¬ mSm U v < mSm U w from Int32.not_lt.mpr c_23)]; rfl) | (rw [mSn, if_pos (show mSm U v = mSm U w from c_10), if_neg c_44, decide_eq_true (Int32.not_le.mp c_59)]; rfl) | (rw [mSn, if_pos (show mSm U v = mSm U w from c_10), if_neg c_44, decide_eq_false (Int32.not_lt.mpr c_59)]; rfl) | (rw [mSn, if_pos (show mSm U v = mSm U w from c_10), if_pos c_44, decide_eq_true (Int32.not_le.mp c_74)]; rfl) | (rw [mSn, if_pos (show mSm U v = mSm U w from c_10), if_pos c_44, decide_eq_false (Int32.not_lt.mpr c_74)]; rfl), rfl, rfl⟩
  · refine gw_al0 d_R_isSooner_13 ?_
    refine gw_il1 d_R_isSooner_14 ?_
    refine gw_rV1 d_R_isSooner_15 cs_R_isSooner_15 h0 (c_R_sumOf hM0 hv) ?_
    refine gw_al0 d_R_isSooner_18 ?_
    refine gw_il2 d_R_isSooner_19 ?_
    refine gw_rV1 d_R_isSooner_20 cs_R_isSooner_20 h0 (c_R_sumOf hM0 hw) ?_
    refine gw_icge d_R_isSooner_23 (fun c_23 => ?_) (fun c_23 => ?_)
    · refine gw_push d_R_isSooner_30 ?_
      exact gw_zret d_R_isSooner_31 rfl (by decide) (Nat.le_refl _) (Nat.le_refl _) ⟨by first | (rw [mSn, if_neg (show ¬ mSm U v = mSm U w from c_10), decide_eq_true (show mSm U v < mSm U w from Int32.not_le.mp c_23)]; rfl) | (rw [mSn, if_neg (show ¬ mSm U v = mSm U w from c_10), decide_eq_false (show ¬ mSm U v < mSm U w from Int32.not_lt.mpr c_23)]; rfl) | (rw [mSn, if_pos (show mSm U v = mSm U w from c_10), if_neg c_44, decide_eq_true (Int32.not_le.mp c_59)]; rfl) | (rw [mSn, if_pos (show mSm U v = mSm U w from c_10), if_neg c_44, decide_eq_false (Int32.not_lt.mpr c_59)]; rfl) | (rw [mSn, if_pos (show mSm U v = mSm U w from c_10), if_pos c_44, decide_eq_true (Int32.not_le.mp c_74)]; rfl) | (rw [mSn, if_pos (show mSm U v = mSm U w from c_10), if_pos c_44, decide_eq_false (Int32.not_lt.mpr c_74)]; rfl), rfl, rfl⟩
    · refine gw_push d_R_isSooner_26 ?_
      refine gw_goto d_R_isSooner_27 ?_
      exact gw_zret d_R_isSooner_31 rfl (by decide) (Nat.le_refl _) (Nat.le_refl _) ⟨by first | (rw [mSn, if_neg (show ¬ mSm U v = mSm U w from c_10), decide_eq_true (show mSm U v < mSm U w from Int32.not_le.mp c_23)]; rfl) | (rw [mSn, if_neg (show ¬ mSm U v = mSm U w from c_10), decide_eq_false (show ¬ mSm U v < mSm U w from Int32.not_lt.mpr c_23)]; rfl) | (rw [mSn, if_pos (show mSm U v = mSm U w from c_10), if_neg c_44, decide_eq_true (Int32.not_le.mp c_59)]; rfl) | (rw [mSn, if_pos (show mSm U v = mSm U w from c_10), if_neg c_44, decide_eq_false (Int32.not_lt.mpr c_59)]; rfl) | (rw [mSn, if_pos (show mSm U v = mSm U w from c_10), if_pos c_44, decide_eq_true (Int32.not_le.mp c_74)]; rfl) | (rw [mSn, if_pos (show mSm U v = mSm U w from c_10), if_pos c_44, decide_eq_false (Int32.not_lt.mpr c_74)]; rfl), rfl, rfl⟩
end RefC
