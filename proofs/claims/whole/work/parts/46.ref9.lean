/-! ===== the reference: its public methods (2) ===== -/
def mSk (U : gU) (s k : Nat) : Bool := decide (0 < uS U (40 * s + k)) && !decide (uL U (uS U (40 * s + k) - 1) < 0)
def mSq (U : gU) (a b k : Nat) : Bool := (mSk U a k == mSk U b k) && (!mSk U a k || decide (uS U (40 * a + k) = uS U (40 * b + k)))
def mSa (U : gU) (a b : Nat) : Nat → Bool
  | 0 => true
  | k + 1 => mSa U a b k && mSq U a b k
def mMk (U : gU) (s : Nat) : Nat → Nat
  | 0 => 0
  | d + 1 => mMk U s d + mCt U s d true 4
def zrN (N : Nat → Int32) (c : Nat) : Nat → Nat → Int32
  | 0 => N
  | k + 1 => upd (zrN N c k) (160 * (4 + c) + k) 0
def cpR (R : Nat → Nat) (c e : Nat) : Nat → Nat → Nat
  | 0 => R
  | k + 1 => va_up (cpR R c e k) (20 * e + k) (cpR R c e k (20 * c + k))
theorem cpR_lt {R : Nat → Nat} (hB : ∀ k, R k < 4100) {c e : Nat} : ∀ n k, cpR R c e n k < 4100
  | 0 => hB
  | n + 1 => by
    rw [cpR]
    exact va_up_lt (cpR_lt hB n) (cpR_lt hB n _)
def cpT (N : Nat → Int32) (c e : Nat) : Nat → Nat → Int32
  | 0 => N
  | k + 1 => upd (cpT N c e k) (160 * (4 + e) + k) (cpT N c e k (160 * (4 + c) + k))
section RefJ
variable {G : gG} {l : Launch} {h : gHp} {sz m : Nat} {A : Nat → Nat} {th : Int32} {vs : Nat} {lf : Int32} {U : gU}
theorem c_R_counter (hM : MV h m A th vs lf U) {s d k j : Int32} : SM G l 4 y_R_counter M_R_counter [.ref m, .int s, .int d, .int k, .int j] h sz 0 0 (mP h m A vs lf U (match mSb U s d k with | none => 1 | some v => if okN j 4 then 0 else 2) (match mSb U s d k with | none => 0 | some v => if okN j 4 then mVc U v j.toNatClampNeg else 0) sz) := by
  have h0 := hM.1
  have hB := hM.2.2.2.2.2.2.2.2.2.2.2
  refine SM.of (lv0 := [some (.ref m), some (.int s), some (.int d), some (.int k), some (.int j), none]) (by decide +kernel) rfl ⟨rfl, rfl⟩ rfl (by simp [Value.category]) (Nat.le_of_ble_eq_true rfl) ?_
  refine gw_sib_counter hM (by omega) (by omega) (by omega) ?_
  cases hb : mSb U s d k with
  | none =>
    refine gw_is5 d_R_counter_19 ?_
    refine gw_al0 d_R_counter_21 ?_
    refine gw_il5 d_R_counter_22 ?_
    refine gw_ifge d_R_counter_24 (fun c_24 => absurd c_24 (by decide)) (fun c_24 => ?_)
    refine gw_push d_R_counter_27 ?_
    refine gw_goto d_R_counter_28 ?_
    refine gw_pf0 d_R_counter_46 h0 rfl rfl ?_
    refine gw_al0 d_R_counter_49 ?_
    refine gw_get d_R_counter_50 (gUp_self _ _ _) (by rfl) ?_
    refine gw_ifle d_R_counter_53 (fun c_53 => absurd c_53 (by decide)) (fun c_53 => ?_)
    refine gw_push d_R_counter_56 ?_
    refine gw_goto d_R_counter_57 ?_
    exact gw_iret d_R_counter_68 rfl (Nat.le_refl _) (Nat.le_refl _) ⟨rfl, hM.ob, MF.obj, rfl⟩
  | some v =>
    have hv := mSb_lt hB hb
    rw [show oI (some v) = nI v from rfl]
    cases hj : okN j 4
    · refine gw_is5 d_R_counter_19 ?_
      refine gw_al0 d_R_counter_21 ?_
      refine gw_il5 d_R_counter_22 ?_
      refine gw_ifge d_R_counter_24 (fun c_24 => ?_) (fun c_24 => absurd (Int32.not_lt.mp (nI_pos (by omega))) c_24)
      refine gw_il4 d_R_counter_31 ?_
      refine gw_push d_R_counter_33 ?_
      refine gw_push d_R_counter_34 ?_
      refine gw_rS3 d_R_counter_35 cs_R_counter_35 (c_R_within (n := 3) (by decide)) ?_; rw [hj]
      refine gw_ifne d_R_counter_38 (fun c_38 => absurd rfl c_38) (fun c_38 => ?_)
      refine gw_push d_R_counter_41 ?_
      refine gw_goto d_R_counter_42 ?_
      refine gw_pf0 d_R_counter_46 h0 rfl rfl ?_
      refine gw_al0 d_R_counter_49 ?_
      refine gw_get d_R_counter_50 (gUp_self _ _ _) (by rfl) ?_
      refine gw_ifle d_R_counter_53 (fun c_53 => absurd c_53 (by decide)) (fun c_53 => ?_)
      refine gw_push d_R_counter_56 ?_
      refine gw_goto d_R_counter_57 ?_
      exact gw_iret d_R_counter_68 rfl (Nat.le_refl _) (Nat.le_refl _) ⟨by simp, by simpa using hM.ob, MF.obj, rfl⟩
    · obtain ⟨j', hj', rfl⟩ := okN_t (by decide) hj
      have hM1 : MV (gUp h m (gO 6 [.int 0, .int (nI vs), .ref (A 0), .ref (A 1), .ref (A 2), .ref (A 3), .ref (A 4), .ref (A 5), .ref (A 6), .ref (A 7), .ref (A 8), .int lf])) m A 0 vs lf U := hM.ob
      refine gw_is5 d_R_counter_19 ?_
      refine gw_al0 d_R_counter_21 ?_
      refine gw_il5 d_R_counter_22 ?_
      refine gw_ifge d_R_counter_24 (fun c_24 => ?_) (fun c_24 => absurd (Int32.not_lt.mp (nI_pos (by omega))) c_24)
      refine gw_il4 d_R_counter_31 ?_
      refine gw_push d_R_counter_33 ?_
      refine gw_push d_R_counter_34 ?_
      refine gw_rS3 d_R_counter_35 cs_R_counter_35 (c_R_within (n := 3) (by decide)) ?_; rw [hj]
      refine gw_ifne d_R_counter_38 (fun c_38 => ?_) (fun c_38 => absurd c_38 (by decide))
      refine gw_push d_R_counter_45 ?_
      refine gw_pf0 d_R_counter_46 h0 rfl rfl ?_
      refine gw_al0 d_R_counter_49 ?_
      refine gw_get d_R_counter_50 (gUp_self _ _ _) (by rfl) ?_
      refine gw_ifle d_R_counter_53 (fun c_53 => ?_) (fun c_53 => absurd (by decide) c_53)
      refine gw_al0 d_R_counter_60 ?_
      refine gw_il5 d_R_counter_61 ?_
      refine gw_il4 d_R_counter_63 ?_
      refine gw_rV2 d_R_counter_65 cs_R_counter_65 hM1.1 (c_R_counterOf hM1 hv hj') ?_
      exact gw_iret d_R_counter_68 rfl (Nat.le_refl _) (Nat.le_refl _) ⟨by simp [nI_clamp (show j' < 2 ^ 31 by omega)], by simpa using hM1, MF.obj, rfl⟩
theorem gw_sib_byteOf (hM : MV h m A th vs lf U) {s d k j : Int32} {Q : gRs → gHp → Nat → Prop} (kk : GM G l 4 0 0 Q M_R_byteOf 19 [some (.ref m), some (.int s), some (.int d), some (.int k), some (.int j), none] [.int (oI (mSb U s d k))] h sz 0 0) : GM G l 4 0 0 Q M_R_byteOf 0 [some (.ref m), some (.int s), some (.int d), some (.int k), some (.int j), none] [] h sz 0 0 := by
  have h0 := hM.1
  cases hp : (okN s 4 && okN d 10)
  · rw [mSb, hp] at kk
    refine gw_il1 d_R_byteOf_0 ?_
    refine gw_il2 d_R_byteOf_1 ?_
    refine gw_rS2 d_R_byteOf_2 cs_R_byteOf_2 c_R_isPlace ?_; rw [hp]
    refine gw_ifeq d_R_byteOf_5 (fun c_5 => ?_) (fun c_5 => absurd rfl c_5)
    refine gw_push d_R_byteOf_18 ?_
    exact kk
  · rw [mSb, hp] at kk
    obtain ⟨hp1, hp2⟩ := Bool.and_eq_true_iff.mp hp
    obtain ⟨i, hi, rfl⟩ := okN_t (by decide) hp1
    obtain ⟨i2, hi2, rfl⟩ := okN_t (by decide) hp2
    rw [nI_clamp (by omega), nI_clamp (by omega)] at kk
    refine gw_il1 d_R_byteOf_0 ?_
    refine gw_il2 d_R_byteOf_1 ?_
    refine gw_rS2 d_R_byteOf_2 cs_R_byteOf_2 c_R_isPlace ?_; rw [hp]
    refine gw_ifeq d_R_byteOf_5 (fun c_5 => absurd c_5 (by decide)) (fun c_5 => ?_)
    refine gw_al0 d_R_byteOf_8 ?_
    refine gw_il1 d_R_byteOf_9 ?_
    refine gw_il2 d_R_byteOf_10 ?_
    refine gw_il3 d_R_byteOf_11 ?_
    refine gw_rV3 d_R_byteOf_12 cs_R_byteOf_12 h0 (c_R_sibling hM hi hi2) ?_
    refine gw_goto d_R_byteOf_15 ?_
    exact kk
theorem c_R_byteOf (hM : MV h m A th vs lf U) {s d k i : Int32} : SM G l 4 y_R_byteOf M_R_byteOf [.ref m, .int s, .int d, .int k, .int i] h sz 0 0 (mP h m A vs lf U (match mSb U s d k with | none => 1 | some v => if i < -1 ∨ ¬ i < uL U v then 2 else 0) (match mSb U s d k with | none => 0 | some v => if i < -1 ∨ ¬ i < uL U v then 0 else if i < 0 then uL U v else (uF U v + i) - (uF U v + i) / 256 * 256) sz) := by
  have h0 := hM.1
  have hB := hM.2.2.2.2.2.2.2.2.2.2.2
  have a2 := hM.2.2.2.1
  refine SM.of (lv0 := [some (.ref m), some (.int s), some (.int d), some (.int k), some (.int i), none]) (by decide +kernel) rfl ⟨rfl, rfl⟩ rfl (by simp [Value.category]) (Nat.le_of_ble_eq_true rfl) ?_
  refine gw_sib_byteOf hM ?_
  cases hb : mSb U s d k with
  | none =>
    refine gw_is5 d_R_byteOf_19 ?_
    refine gw_al0 d_R_byteOf_21 ?_
    refine gw_il5 d_R_byteOf_22 ?_
    refine gw_ifge d_R_byteOf_24 (fun c_24 => absurd c_24 (by decide)) (fun c_24 => ?_)
    refine gw_push d_R_byteOf_27 ?_
    refine gw_goto d_R_byteOf_28 ?_
    refine gw_pf0 d_R_byteOf_54 h0 rfl rfl ?_
    refine gw_al0 d_R_byteOf_57 ?_
    refine gw_get d_R_byteOf_58 (gUp_self _ _ _) (by rfl) ?_
    refine gw_ifle d_R_byteOf_61 (fun c_61 => absurd c_61 (by decide)) (fun c_61 => ?_)
    refine gw_push d_R_byteOf_64 ?_
    exact gw_iret d_R_byteOf_65 rfl (Nat.le_refl _) (Nat.le_refl _) ⟨rfl, hM.ob, MF.obj, rfl⟩
  | some v =>
    have hv := mSb_lt hB hb
    rw [show oI (some v) = nI v from rfl]
    by_cases hi : i < -1 ∨ ¬ i < uL U v
    · have fin : GM G l 4 0 0 (mP h m A vs lf U (if i < -1 ∨ ¬ i < uL U v then 2 else 0) (if i < -1 ∨ ¬ i < uL U v then 0 else if i < 0 then uL U v else (uF U v + i) - (uF U v + i) / 256 * 256) sz) M_R_byteOf 49 [some (.ref m), some (.int s), some (.int d), some (.int k), some (.int i), some (.int (nI v))] [.ref m] h sz 0 0 := by
        rw [if_pos hi, if_pos hi]
        refine gw_push d_R_byteOf_49 ?_
        refine gw_goto d_R_byteOf_50 ?_
        refine gw_pf0 d_R_byteOf_54 h0 rfl rfl ?_
        refine gw_al0 d_R_byteOf_57 ?_
        refine gw_get d_R_byteOf_58 (gUp_self _ _ _) (by rfl) ?_
        refine gw_ifle d_R_byteOf_61 (fun c_61 => absurd c_61 (by decide)) (fun c_61 => ?_)
        refine gw_push d_R_byteOf_64 ?_
        exact gw_iret d_R_byteOf_65 rfl (Nat.le_refl _) (Nat.le_refl _) ⟨rfl, hM.ob, MF.obj, rfl⟩
      refine gw_is5 d_R_byteOf_19 ?_
      refine gw_al0 d_R_byteOf_21 ?_
      refine gw_il5 d_R_byteOf_22 ?_
      refine gw_ifge d_R_byteOf_24 (fun c_24 => ?_) (fun c_24 => absurd (Int32.not_lt.mp (nI_pos (by omega))) c_24)
      refine gw_il4 d_R_byteOf_31 ?_
      refine gw_push d_R_byteOf_33 ?_
      refine gw_iclt d_R_byteOf_34 (fun c_34 => ?_) (fun c_34 => ?_)
      · exact fin
      · refine gw_il4 d_R_byteOf_37 ?_
        refine gw_al0 d_R_byteOf_39 ?_
        refine gw_get d_R_byteOf_40 (by assumption) (by rfl) ?_
        refine gw_il5 d_R_byteOf_43 ?_
        refine gw_iald d_R_byteOf_45 a2 v rfl hv (by omega) ?_
        refine gw_iclt d_R_byteOf_46 (fun c_46 => absurd c_46 (hi.resolve_left c_34)) (fun c_46 => ?_)
        exact fin
    · have hi1 : ¬ i < -1 := fun z => hi (Or.inl z)
      have hi2 : i < uL U v := Decidable.byContradiction (fun z => hi (Or.inr z))
      have hM1 : MV (gUp h m (gO 6 [.int 0, .int (nI vs), .ref (A 0), .ref (A 1), .ref (A 2), .ref (A 3), .ref (A 4), .ref (A 5), .ref (A 6), .ref (A 7), .ref (A 8), .int lf])) m A 0 vs lf U := hM.ob
      have g0 := hM1.1
      have g2 := hM1.2.2.2.1
      have g3 := hM1.2.2.2.2.1
      show GM G l 4 0 0 (mP h m A vs lf U (if i < -1 ∨ ¬ i < uL U v then 2 else 0) (if i < -1 ∨ ¬ i < uL U v then 0 else if i < 0 then uL U v else (uF U v + i) - (uF U v + i) / 256 * 256) sz) M_R_byteOf 19 _ _ _ _ _ _
      rw [if_neg hi, if_neg hi]
      refine gw_is5 d_R_byteOf_19 ?_
      refine gw_al0 d_R_byteOf_21 ?_
      refine gw_il5 d_R_byteOf_22 ?_
      refine gw_ifge d_R_byteOf_24 (fun c_24 => ?_) (fun c_24 => absurd (Int32.not_lt.mp (nI_pos (by omega))) c_24)
      refine gw_il4 d_R_byteOf_31 ?_
      refine gw_push d_R_byteOf_33 ?_
      refine gw_iclt d_R_byteOf_34 (fun c_34 => absurd c_34 hi1) (fun c_34 => ?_)
      refine gw_il4 d_R_byteOf_37 ?_
      refine gw_al0 d_R_byteOf_39 ?_
      refine gw_get d_R_byteOf_40 (by assumption) (by rfl) ?_
      refine gw_il5 d_R_byteOf_43 ?_
      refine gw_iald d_R_byteOf_45 a2 v rfl hv (by omega) ?_
      refine gw_iclt d_R_byteOf_46 (fun c_46 => ?_) (fun c_46 => absurd hi2 c_46)
      refine gw_push d_R_byteOf_53 ?_
      refine gw_pf0 d_R_byteOf_54 h0 rfl rfl ?_
      refine gw_al0 d_R_byteOf_57 ?_
      refine gw_get d_R_byteOf_58 (gUp_self _ _ _) (by rfl) ?_
      refine gw_ifle d_R_byteOf_61 (fun c_61 => ?_) (fun c_61 => absurd (by decide) c_61)
      refine gw_il4 d_R_byteOf_66 ?_
      refine gw_ifge d_R_byteOf_68 (fun c_68 => ?_) (fun c_68 => ?_)
      · refine gw_al0 d_R_byteOf_81 ?_
        refine gw_get d_R_byteOf_82 (by assumption) (by rfl) ?_
        refine gw_il5 d_R_byteOf_85 ?_
        refine gw_iald d_R_byteOf_87 g3 v rfl hv (by omega) ?_
        refine gw_il4 d_R_byteOf_88 ?_
        refine gw_iadd d_R_byteOf_90 ?_
        refine gw_push d_R_byteOf_91 ?_
        refine gw_irem d_R_byteOf_94 (by decide) ?_
        first | exact gw_iret d_R_byteOf_95 rfl (Nat.le_refl _) (Nat.le_refl _) ⟨by rw [if_pos (Int32.not_le.mp c_68)], hM1, MF.obj, rfl⟩ | exact gw_iret d_R_byteOf_95 rfl (Nat.le_refl _) (Nat.le_refl _) ⟨by rw [if_neg (Int32.not_lt.mpr c_68)], hM1, MF.obj, rfl⟩
      · refine gw_al0 d_R_byteOf_71 ?_
        refine gw_get d_R_byteOf_72 (by assumption) (by rfl) ?_
        refine gw_il5 d_R_byteOf_75 ?_
        refine gw_iald d_R_byteOf_77 g2 v rfl hv (by omega) ?_
        refine gw_goto d_R_byteOf_78 ?_
        first | exact gw_iret d_R_byteOf_95 rfl (Nat.le_refl _) (Nat.le_refl _) ⟨by rw [if_pos (Int32.not_le.mp c_68)], hM1, MF.obj, rfl⟩ | exact gw_iret d_R_byteOf_95 rfl (Nat.le_refl _) (Nat.le_refl _) ⟨by rw [if_neg (Int32.not_lt.mpr c_68)], hM1, MF.obj, rfl⟩
theorem c_R_known (hM : MV h m A th vs lf U) {s o d j : Int32} : SM G l 3 y_R_known M_R_known [.ref m, .int s, .int o, .int d, .int j] h sz 0 0 (mP h m A vs lf U (if okN s 4 && okN d 10 && okN o 4 then (if okN j 4 then 0 else 2) else 1) (if okN s 4 && okN d 10 && okN o 4 then (if okN j 4 then uN U (160 * s.toNatClampNeg + 40 * o.toNatClampNeg + 4 * d.toNatClampNeg + j.toNatClampNeg) else 0) else 0) sz) := by
  have h0 := hM.1
  refine SM.of (lv0 := [some (.ref m), some (.int s), some (.int o), some (.int d), some (.int j)]) (by decide +kernel) rfl ⟨rfl, rfl⟩ rfl (by simp [Value.category]) (Nat.le_of_ble_eq_true rfl) ?_
  cases hp : (okN s 4 && okN d 10)
  · refine gw_al0 d_R_known_0 ?_
    refine gw_il1 d_R_known_1 ?_
    refine gw_il3 d_R_known_2 ?_
    refine gw_rS2 d_R_known_3 cs_R_known_3 c_R_isPlace ?_; rw [hp]
    refine gw_ifeq d_R_known_6 (fun c_6 => ?_) (fun c_6 => absurd rfl c_6)
    refine gw_push d_R_known_18 ?_
    refine gw_goto d_R_known_19 ?_
    refine gw_pf0 d_R_known_37 h0 rfl rfl ?_
    refine gw_al0 d_R_known_40 ?_
    refine gw_get d_R_known_41 (gUp_self _ _ _) (by rfl) ?_
    refine gw_ifle d_R_known_44 (fun c_44 => absurd c_44 (by decide)) (fun c_44 => ?_)
    refine gw_push d_R_known_47 ?_
    refine gw_goto d_R_known_48 ?_
    exact gw_iret d_R_known_65 rfl (Nat.le_refl _) (Nat.le_refl _) ⟨rfl, hM.ob, MF.obj, rfl⟩
  · cases ho : okN o 4
    · refine gw_al0 d_R_known_0 ?_
      refine gw_il1 d_R_known_1 ?_
      refine gw_il3 d_R_known_2 ?_
      refine gw_rS2 d_R_known_3 cs_R_known_3 c_R_isPlace ?_; rw [hp]
      refine gw_ifeq d_R_known_6 (fun c_6 => absurd c_6 (by decide)) (fun c_6 => ?_)
      refine gw_il2 d_R_known_9 ?_
      refine gw_push d_R_known_10 ?_
      refine gw_push d_R_known_11 ?_
      refine gw_rS3 d_R_known_12 cs_R_known_12 (c_R_within (n := 3) (by decide)) ?_; rw [ho]
      refine gw_ifne d_R_known_15 (fun c_15 => absurd rfl c_15) (fun c_15 => ?_)
      refine gw_push d_R_known_18 ?_
      refine gw_goto d_R_known_19 ?_
      refine gw_pf0 d_R_known_37 h0 rfl rfl ?_
      refine gw_al0 d_R_known_40 ?_
      refine gw_get d_R_known_41 (gUp_self _ _ _) (by rfl) ?_
      refine gw_ifle d_R_known_44 (fun c_44 => absurd c_44 (by decide)) (fun c_44 => ?_)
      refine gw_push d_R_known_47 ?_
      refine gw_goto d_R_known_48 ?_
      exact gw_iret d_R_known_65 rfl (Nat.le_refl _) (Nat.le_refl _) ⟨rfl, hM.ob, MF.obj, rfl⟩
    · cases hj : okN j 4
      · refine gw_al0 d_R_known_0 ?_
        refine gw_il1 d_R_known_1 ?_
        refine gw_il3 d_R_known_2 ?_
        refine gw_rS2 d_R_known_3 cs_R_known_3 c_R_isPlace ?_; rw [hp]
        refine gw_ifeq d_R_known_6 (fun c_6 => absurd c_6 (by decide)) (fun c_6 => ?_)
        refine gw_il2 d_R_known_9 ?_
        refine gw_push d_R_known_10 ?_
        refine gw_push d_R_known_11 ?_
        refine gw_rS3 d_R_known_12 cs_R_known_12 (c_R_within (n := 3) (by decide)) ?_; rw [ho]
        refine gw_ifne d_R_known_15 (fun c_15 => ?_) (fun c_15 => absurd c_15 (by decide))
        refine gw_il4 d_R_known_22 ?_
        refine gw_push d_R_known_24 ?_
        refine gw_push d_R_known_25 ?_
        refine gw_rS3 d_R_known_26 cs_R_known_26 (c_R_within (n := 3) (by decide)) ?_; rw [hj]
        refine gw_ifne d_R_known_29 (fun c_29 => absurd rfl c_29) (fun c_29 => ?_)
        refine gw_push d_R_known_32 ?_
        refine gw_goto d_R_known_33 ?_
        refine gw_pf0 d_R_known_37 h0 rfl rfl ?_
        refine gw_al0 d_R_known_40 ?_
        refine gw_get d_R_known_41 (gUp_self _ _ _) (by rfl) ?_
        refine gw_ifle d_R_known_44 (fun c_44 => absurd c_44 (by decide)) (fun c_44 => ?_)
        refine gw_push d_R_known_47 ?_
        refine gw_goto d_R_known_48 ?_
        exact gw_iret d_R_known_65 rfl (Nat.le_refl _) (Nat.le_refl _) ⟨rfl, hM.ob, MF.obj, rfl⟩
      · obtain ⟨hp1, hp2⟩ := Bool.and_eq_true_iff.mp hp
        obtain ⟨i, hi, rfl⟩ := okN_t (by decide) hp1
        obtain ⟨i2, hi2, rfl⟩ := okN_t (by decide) hp2
        obtain ⟨o', ho', rfl⟩ := okN_t (by decide) ho
        obtain ⟨j', hj', rfl⟩ := okN_t (by decide) hj
        have hM1 : MV (gUp h m (gO 6 [.int 0, .int (nI vs), .ref (A 0), .ref (A 1), .ref (A 2), .ref (A 3), .ref (A 4), .ref (A 5), .ref (A 6), .ref (A 7), .ref (A 8), .int lf])) m A 0 vs lf U := hM.ob
        have g0 := hM1.1
        have g6 := hM1.2.2.2.2.2.2.2.1
        refine gw_al0 d_R_known_0 ?_
        refine gw_il1 d_R_known_1 ?_
        refine gw_il3 d_R_known_2 ?_
        refine gw_rS2 d_R_known_3 cs_R_known_3 c_R_isPlace ?_; rw [hp]
        refine gw_ifeq d_R_known_6 (fun c_6 => absurd c_6 (by decide)) (fun c_6 => ?_)
        refine gw_il2 d_R_known_9 ?_
        refine gw_push d_R_known_10 ?_
        refine gw_push d_R_known_11 ?_
        refine gw_rS3 d_R_known_12 cs_R_known_12 (c_R_within (n := 3) (by decide)) ?_; rw [ho]
        refine gw_ifne d_R_known_15 (fun c_15 => ?_) (fun c_15 => absurd c_15 (by decide))
        refine gw_il4 d_R_known_22 ?_
        refine gw_push d_R_known_24 ?_
        refine gw_push d_R_known_25 ?_
        refine gw_rS3 d_R_known_26 cs_R_known_26 (c_R_within (n := 3) (by decide)) ?_; rw [hj]
        refine gw_ifne d_R_known_29 (fun c_29 => ?_) (fun c_29 => absurd c_29 (by decide))
        refine gw_push d_R_known_36 ?_
        refine gw_pf0 d_R_known_37 h0 rfl rfl ?_
        refine gw_al0 d_R_known_40 ?_
        refine gw_get d_R_known_41 (gUp_self _ _ _) (by rfl) ?_
        refine gw_ifle d_R_known_44 (fun c_44 => ?_) (fun c_44 => absurd (by decide) c_44)
        refine gw_al0 d_R_known_51 ?_
        refine gw_get d_R_known_52 (by assumption) (by rfl) ?_
        refine gw_il1 d_R_known_55 ?_
        refine gw_il2 d_R_known_56 ?_
        refine gw_il3 d_R_known_57 ?_
        refine gw_rS3 d_R_known_58 cs_R_known_58 c_R_at ?_
        refine gw_il4 d_R_known_61 ?_
        refine gw_iadd d_R_known_63 ?_; first | rw [nI_add] | rw [p_4] | rw [p_40] | skip
        refine gw_iald d_R_known_64 g6 (160 * i + 40 * o' + 4 * i2 + j') rfl (by omega) (by omega) ?_
        exact gw_iret d_R_known_65 rfl (Nat.le_refl _) (Nat.le_refl _) ⟨by rw [nI_clamp (by omega), nI_clamp (by omega), nI_clamp (by omega), nI_clamp (by omega)]; rfl, hM1, MF.obj, rfl⟩
theorem c_R_bytes (hM : MV h m A th vs lf U) {s : Int32} : SM G l 3 y_R_bytes M_R_bytes [.ref m, .int s] h sz 0 0 (mP h m A vs lf U (if okN s 4 then 0 else 1) (if okN s 4 then mAl U s.toNatClampNeg 40 else 0) sz) := by
  have h0 := hM.1
  refine SM.of (lv0 := [some (.ref m), some (.int s)]) (by decide +kernel) rfl ⟨rfl, rfl⟩ rfl (by simp [Value.category]) (Nat.le_of_ble_eq_true rfl) ?_
  cases hp : okN s 4
  · refine gw_al0 d_R_bytes_0 ?_
    refine gw_il1 d_R_bytes_1 ?_
    refine gw_push d_R_bytes_2 ?_
    refine gw_push d_R_bytes_3 ?_
    refine gw_rS3 d_R_bytes_4 cs_R_bytes_4 (c_R_within (n := 3) (by decide)) ?_; rw [hp]
    refine gw_ifeq d_R_bytes_7 (fun c_7 => ?_) (fun c_7 => absurd rfl c_7)
    refine gw_push d_R_bytes_14 ?_
    refine gw_pf0 d_R_bytes_15 h0 rfl rfl ?_
    refine gw_al0 d_R_bytes_18 ?_
    refine gw_get d_R_bytes_19 (gUp_self _ _ _) (by rfl) ?_
    refine gw_ifle d_R_bytes_22 (fun c_22 => absurd c_22 (by decide)) (fun c_22 => ?_)
    refine gw_push d_R_bytes_25 ?_
    refine gw_goto d_R_bytes_26 ?_
    exact gw_iret d_R_bytes_34 rfl (Nat.le_refl _) (Nat.le_refl _) ⟨rfl, hM.ob, MF.obj, rfl⟩
  · obtain ⟨i, hi, rfl⟩ := okN_t (by decide) hp
    have hM1 : MV (gUp h m (gO 6 [.int 0, .int (nI vs), .ref (A 0), .ref (A 1), .ref (A 2), .ref (A 3), .ref (A 4), .ref (A 5), .ref (A 6), .ref (A 7), .ref (A 8), .int lf])) m A 0 vs lf U := hM.ob
    refine gw_al0 d_R_bytes_0 ?_
    refine gw_il1 d_R_bytes_1 ?_
    refine gw_push d_R_bytes_2 ?_
    refine gw_push d_R_bytes_3 ?_
    refine gw_rS3 d_R_bytes_4 cs_R_bytes_4 (c_R_within (n := 3) (by decide)) ?_; rw [hp]
    refine gw_ifeq d_R_bytes_7 (fun c_7 => absurd c_7 (by decide)) (fun c_7 => ?_)
    refine gw_push d_R_bytes_10 ?_
    refine gw_goto d_R_bytes_11 ?_
    refine gw_pf0 d_R_bytes_15 h0 rfl rfl ?_
    refine gw_al0 d_R_bytes_18 ?_
    refine gw_get d_R_bytes_19 (gUp_self _ _ _) (by rfl) ?_
    refine gw_ifle d_R_bytes_22 (fun c_22 => ?_) (fun c_22 => absurd (by decide) c_22)
    refine gw_al0 d_R_bytes_29 ?_
    refine gw_il1 d_R_bytes_30 ?_
    refine gw_rV1 d_R_bytes_31 cs_R_bytes_31 hM1.1 (c_R_allBytes hM1 hi) ?_
    exact gw_iret d_R_bytes_34 rfl (Nat.le_refl _) (Nat.le_refl _) ⟨by rw [nI_clamp (by omega)]; rfl, hM1, MF.obj, rfl⟩
theorem c_R_room (hM : MV h m A th vs lf U) {s : Int32} : SM G l 3 y_R_room M_R_room [.ref m, .int s] h sz 0 0 (mP h m A vs lf U (if okN s 3 then 0 else 1) (if okN s 3 then rmN U s.toNatClampNeg (uM U s.toNatClampNeg) else 0) sz) := by
  have h0 := hM.1
  refine SM.of (lv0 := [some (.ref m), some (.int s)]) (by decide +kernel) rfl ⟨rfl, rfl⟩ rfl (by simp [Value.category]) (Nat.le_of_ble_eq_true rfl) ?_
  cases hp : okN s 3
  · refine gw_al0 d_R_room_0 ?_
    refine gw_il1 d_R_room_1 ?_
    refine gw_push d_R_room_2 ?_
    refine gw_push d_R_room_3 ?_
    refine gw_rS3 d_R_room_4 cs_R_room_4 (c_R_within (n := 2) (by decide)) ?_; rw [hp]
    refine gw_ifeq d_R_room_7 (fun c_7 => ?_) (fun c_7 => absurd rfl c_7)
    refine gw_push d_R_room_14 ?_
    refine gw_pf0 d_R_room_15 h0 rfl rfl ?_
    refine gw_al0 d_R_room_18 ?_
    refine gw_get d_R_room_19 (gUp_self _ _ _) (by rfl) ?_
    refine gw_ifle d_R_room_22 (fun c_22 => absurd c_22 (by decide)) (fun c_22 => ?_)
    refine gw_push d_R_room_25 ?_
    refine gw_goto d_R_room_26 ?_
    exact gw_iret d_R_room_34 rfl (Nat.le_refl _) (Nat.le_refl _) ⟨rfl, hM.ob, MF.obj, rfl⟩
  · obtain ⟨i, hi, rfl⟩ := okN_t (by decide) hp
    have hM1 : MV (gUp h m (gO 6 [.int 0, .int (nI vs), .ref (A 0), .ref (A 1), .ref (A 2), .ref (A 3), .ref (A 4), .ref (A 5), .ref (A 6), .ref (A 7), .ref (A 8), .int lf])) m A 0 vs lf U := hM.ob
    refine gw_al0 d_R_room_0 ?_
    refine gw_il1 d_R_room_1 ?_
    refine gw_push d_R_room_2 ?_
    refine gw_push d_R_room_3 ?_
    refine gw_rS3 d_R_room_4 cs_R_room_4 (c_R_within (n := 2) (by decide)) ?_; rw [hp]
    refine gw_ifeq d_R_room_7 (fun c_7 => absurd c_7 (by decide)) (fun c_7 => ?_)
    refine gw_push d_R_room_10 ?_
    refine gw_goto d_R_room_11 ?_
    refine gw_pf0 d_R_room_15 h0 rfl rfl ?_
    refine gw_al0 d_R_room_18 ?_
    refine gw_get d_R_room_19 (gUp_self _ _ _) (by rfl) ?_
    refine gw_ifle d_R_room_22 (fun c_22 => ?_) (fun c_22 => absurd (by decide) c_22)
    refine gw_al0 d_R_room_29 ?_
    refine gw_il1 d_R_room_30 ?_
    refine gw_rV1 d_R_room_31 cs_R_room_31 hM1.1 (c_R_roomOf hM1 hi) ?_
    exact gw_iret d_R_room_34 rfl (Nat.le_refl _) (Nat.le_refl _) ⟨by rw [nI_clamp (by omega)]; rfl, hM1, MF.obj, rfl⟩
theorem c_R_leftOut (hM : MV h m A th vs lf U) : SM G l 1 y_R_leftOut M_R_leftOut [.ref m] h sz 0 0 (mP h m A vs lf U 0 lf sz) := by
  have h0 := hM.1
  refine SM.of (lv0 := [some (.ref m)]) (by decide +kernel) rfl ⟨rfl, rfl⟩ rfl (by simp [Value.category]) (Nat.le_of_ble_eq_true rfl) ?_
  refine gw_al0 d_R_leftOut_0 ?_
  refine gw_push d_R_leftOut_1 ?_
  refine gw_pf0 d_R_leftOut_2 h0 rfl rfl ?_
  refine gw_al0 d_R_leftOut_5 ?_
  refine gw_get d_R_leftOut_6 (gUp_self _ _ _) (by rfl) ?_
  exact gw_iret d_R_leftOut_9 rfl (Nat.le_refl _) (Nat.le_refl _) ⟨rfl, hM.ob, MF.obj, rfl⟩
theorem c_R_thrown (hM : MV h m A th vs lf U) : SM G l 1 y_R_thrown M_R_thrown [.ref m] h sz 0 0 (qR (.int th) h sz) := by
  have h0 := hM.1
  refine SM.of (lv0 := [some (.ref m)]) (by decide +kernel) rfl ⟨rfl, rfl⟩ rfl (by simp [Value.category]) (Nat.le_of_ble_eq_true rfl) ?_
  refine gw_al0 d_R_thrown_0 ?_
  refine gw_get d_R_thrown_1 (by assumption) (by rfl) ?_
  exact gw_iret d_R_thrown_4 rfl (Nat.le_refl _) (Nat.le_refl _) ⟨rfl, rfl, rfl⟩
end RefJ
