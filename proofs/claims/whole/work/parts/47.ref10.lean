/-! ===== the reference: its public methods (3) ===== -/
section RefK
variable {G : gG} {l : Launch} {h : gHp} {sz m : Nat} {A : Nat → Nat} {th : Int32} {vs : Nat} {lf : Int32} {U : gU}
theorem c_R_marks (hM : MV h m A th vs lf U) {s : Int32} : SM G l 3 y_R_marks M_R_marks [.ref m, .int s] h sz 0 0 (mP h m A vs lf U (if okN s 4 then 0 else 1) (if okN s 4 then nI (mMk U s.toNatClampNeg 10) else 0) sz) := by
  have h0 := hM.1
  refine SM.of (lv0 := [some (.ref m), some (.int s), none, none]) (by decide +kernel) rfl ⟨rfl, rfl⟩ rfl (by simp [Value.category]) (Nat.le_of_ble_eq_true rfl) ?_
  cases hp : okN s 4
  · refine gw_al0 d_R_marks_0 ?_
    refine gw_il1 d_R_marks_1 ?_
    refine gw_push d_R_marks_2 ?_
    refine gw_push d_R_marks_3 ?_
    refine gw_rS3 d_R_marks_4 cs_R_marks_4 (c_R_within (n := 3) (by decide)) ?_; rw [hp]
    refine gw_ifeq d_R_marks_7 (fun c_7 => ?_) (fun c_7 => absurd rfl c_7)
    refine gw_push d_R_marks_14 ?_
    refine gw_pf0 d_R_marks_15 h0 rfl rfl ?_
    refine gw_push d_R_marks_18 ?_
    refine gw_is2 d_R_marks_19 ?_
    refine gw_push d_R_marks_20 ?_
    refine gw_is3 d_R_marks_21 ?_
    refine gw_il3 d_R_marks_22 ?_
    refine gw_push d_R_marks_23 ?_
    refine gw_icge d_R_marks_25 (fun c_25 => absurd c_25 (by decide)) (fun c_25 => ?_)
    refine gw_al0 d_R_marks_28 ?_
    refine gw_get d_R_marks_29 (gUp_self _ _ _) (by rfl) ?_
    refine gw_ifne d_R_marks_32 (fun c_32 => ?_) (fun c_32 => absurd c_32 (by decide))
    refine gw_il2 d_R_marks_51 ?_
    exact gw_iret d_R_marks_52 rfl (Nat.le_refl _) (Nat.le_refl _) ⟨rfl, hM.ob, MF.obj, rfl⟩
  · obtain ⟨i, hi, rfl⟩ := okN_t (by decide) hp
    rw [nI_clamp (by omega)]
    have hM1 : MV (gUp h m (gO 6 [.int 0, .int (nI vs), .ref (A 0), .ref (A 1), .ref (A 2), .ref (A 3), .ref (A 4), .ref (A 5), .ref (A 6), .ref (A 7), .ref (A 8), .int lf])) m A 0 vs lf U := hM.ob
    have g0 := hM1.1
    have loop : ∀ n d, d ≤ 10 → 10 - d < n → GM G l 3 0 0 (mP h m A vs lf U (if true = true then 0 else 1) (if true = true then nI (mMk U i 10) else 0) sz) M_R_marks 22 [some (.ref m), some (.int (nI i)), some (.int (nI (mMk U i d))), some (.int (nI d))] [] (gUp h m (gO 6 [.int 0, .int (nI vs), .ref (A 0), .ref (A 1), .ref (A 2), .ref (A 3), .ref (A 4), .ref (A 5), .ref (A 6), .ref (A 7), .ref (A 8), .int lf])) sz 0 0 := by
      intro n
      induction n with
      | zero => intro d _ hj; exact absurd hj (Nat.not_lt_zero _)
      | succ n ih =>
        intro d hd hm
        refine gw_il3 d_R_marks_22 ?_
        refine gw_push d_R_marks_23 ?_
        refine gw_icge d_R_marks_25 (fun c_25 => ?_) (fun c_25 => ?_)
        · refine gw_il2 d_R_marks_51 ?_
          have q4 := n_le (a := 10) c_25 (by decide) (by omega); obtain rfl : d = 10 := (by omega); exact gw_iret d_R_marks_52 rfl (Nat.le_refl _) (Nat.le_refl _) ⟨rfl, hM1, MF.obj, rfl⟩
        · refine gw_al0 d_R_marks_28 ?_
          refine gw_get d_R_marks_29 (by assumption) (by rfl) ?_
          refine gw_ifne d_R_marks_32 (fun c_32 => absurd rfl c_32) (fun c_32 => ?_)
          refine gw_il2 d_R_marks_35 ?_
          refine gw_al0 d_R_marks_36 ?_
          refine gw_il1 d_R_marks_37 ?_
          refine gw_il3 d_R_marks_38 ?_
          refine gw_push d_R_marks_39 ?_
          have hlt := n_nle (a := 10) c_25 (by decide) (by omega); refine gw_rV3 d_R_marks_40 cs_R_marks_40 g0 (c_R_count hM1 hi hlt (mk := true)) ?_
          refine gw_iadd d_R_marks_43 ?_; first | rw [nI_add] | rw [p_4] | rw [p_40] | skip
          refine gw_is2 d_R_marks_44 ?_
          exact gw_ii3 d_R_marks_45 (by rw [n_s]; exact gw_goto d_R_marks_48 (ih (d + 1) (by omega) (by omega)))
    refine gw_al0 d_R_marks_0 ?_
    refine gw_il1 d_R_marks_1 ?_
    refine gw_push d_R_marks_2 ?_
    refine gw_push d_R_marks_3 ?_
    refine gw_rS3 d_R_marks_4 cs_R_marks_4 (c_R_within (n := 3) (by decide)) ?_; rw [hp]
    refine gw_ifeq d_R_marks_7 (fun c_7 => absurd c_7 (by decide)) (fun c_7 => ?_)
    refine gw_push d_R_marks_10 ?_
    refine gw_goto d_R_marks_11 ?_
    refine gw_pf0 d_R_marks_15 h0 rfl rfl ?_
    refine gw_push d_R_marks_18 ?_
    refine gw_is2 d_R_marks_19 ?_
    refine gw_push d_R_marks_20 ?_
    refine gw_is3 d_R_marks_21 ?_
    exact loop 11 0 (by omega) (by omega)
theorem c_R_same (hM : MV h m A th vs lf U) {a b : Int32} : SM G l 3 y_R_same M_R_same [.ref m, .int a, .int b] h sz 0 0 (mP h m A vs lf U (if okN a 4 && okN b 4 then 0 else 1) (if okN a 4 && okN b 4 then b2i (mSa U a.toNatClampNeg b.toNatClampNeg 40) else 0) sz) := by
  have h0 := hM.1
  refine SM.of (lv0 := [some (.ref m), some (.int a), some (.int b), none, none, none, none, none, none]) (by decide +kernel) rfl ⟨rfl, rfl⟩ rfl (by simp [Value.category]) (Nat.le_of_ble_eq_true rfl) ?_
  have bad : ∀ q, q = false → GM G l 3 0 0 (mP h m A vs lf U (if q then 0 else 1) (if q then b2i (mSa U a.toNatClampNeg b.toNatClampNeg 40) else 0) sz) M_R_same 19 [some (.ref m), some (.int a), some (.int b), none, none, none, none, none, none] [.ref m] h sz 0 0 := by
    intro q hq
    subst hq
    refine gw_push d_R_same_19 ?_
    refine gw_goto d_R_same_20 ?_
    refine gw_pf0 d_R_same_24 h0 rfl rfl ?_
    refine gw_al0 d_R_same_27 ?_
    refine gw_get d_R_same_28 (gUp_self _ _ _) (by rfl) ?_
    refine gw_ifne d_R_same_31 (fun c_31 => ?_) (fun c_31 => absurd c_31 (by decide))
    refine gw_push d_R_same_38 ?_
    refine gw_is3 d_R_same_39 ?_
    refine gw_push d_R_same_40 ?_
    refine gw_is4 d_R_same_41 ?_
    refine gw_il4 d_R_same_43 ?_
    refine gw_push d_R_same_45 ?_
    refine gw_icge d_R_same_47 (fun c_47 => absurd c_47 (by decide)) (fun c_47 => ?_)
    refine gw_il3 d_R_same_50 ?_
    refine gw_ifeq d_R_same_51 (fun c_51 => ?_) (fun c_51 => absurd rfl c_51)
    refine gw_il3 d_R_same_161 ?_
    exact gw_zret d_R_same_162 rfl (by decide) (Nat.le_refl _) (Nat.le_refl _) ⟨rfl, hM.ob, MF.obj, rfl⟩
  cases hp : okN a 4
  · refine gw_al0 d_R_same_0 ?_
    refine gw_il1 d_R_same_1 ?_
    refine gw_push d_R_same_2 ?_
    refine gw_push d_R_same_3 ?_
    refine gw_rS3 d_R_same_4 cs_R_same_4 (c_R_within (n := 3) (by decide)) ?_; rw [hp]
    refine gw_ifeq d_R_same_7 (fun c_7 => ?_) (fun c_7 => absurd rfl c_7)
    exact bad _ rfl
  · cases hp2 : okN b 4
    · refine gw_al0 d_R_same_0 ?_
      refine gw_il1 d_R_same_1 ?_
      refine gw_push d_R_same_2 ?_
      refine gw_push d_R_same_3 ?_
      refine gw_rS3 d_R_same_4 cs_R_same_4 (c_R_within (n := 3) (by decide)) ?_; rw [hp]
      refine gw_ifeq d_R_same_7 (fun c_7 => absurd c_7 (by decide)) (fun c_7 => ?_)
      refine gw_il2 d_R_same_10 ?_
      refine gw_push d_R_same_11 ?_
      refine gw_push d_R_same_12 ?_
      refine gw_rS3 d_R_same_13 cs_R_same_13 (c_R_within (n := 3) (by decide)) ?_; rw [hp2]
      refine gw_ifne d_R_same_16 (fun c_16 => absurd rfl c_16) (fun c_16 => ?_)
      exact bad _ rfl
    · obtain ⟨i, hi, rfl⟩ := okN_t (by decide) hp
      obtain ⟨j, hj, rfl⟩ := okN_t (by decide) hp2
      rw [nI_clamp (by omega), nI_clamp (by omega)]
      have hM1 : MV (gUp h m (gO 6 [.int 0, .int (nI vs), .ref (A 0), .ref (A 1), .ref (A 2), .ref (A 3), .ref (A 4), .ref (A 5), .ref (A 6), .ref (A 7), .ref (A 8), .int lf])) m A 0 vs lf U := hM.ob
      have g0 := hM1.1
      have g2 := hM1.2.2.2.1
      have g5 := hM1.2.2.2.2.2.2.1
      have b3 := hM1.2.2.2.2.2.2.2.2.2.2.2.2.2.1
      obtain ⟨h1, hh1⟩ : ∃ h1, h1 = gUp h m (gO 6 [.int 0, .int (nI vs), .ref (A 0), .ref (A 1), .ref (A 2), .ref (A 3), .ref (A 4), .ref (A 5), .ref (A 6), .ref (A 7), .ref (A 8), .int lf]) := ⟨_, rfl⟩
      have hF1 : MF h h1 m A := by rw [hh1]; exact MF.obj
      rw [← hh1] at hM1 g0 g2 g5
      have loop : ∀ n k q5 q6 q7 q8, k ≤ 40 → 40 - k < n → GM G l 3 0 0 (mP h m A vs lf U 0 (b2i (mSa U i j 40)) sz) M_R_same 43 [some (.ref m), some (.int (nI i)), some (.int (nI j)), some (.int (b2i (mSa U i j k))), some (.int (nI k)), q5, q6, q7, q8] [] h1 sz 0 0 := by
        intro n
        induction n with
        | zero => intro k _ _ _ _ _ hj; exact absurd hj (Nat.not_lt_zero _)
        | succ n ih =>
          intro k q5 q6 q7 q8 hk hm
          have bi := b3 (40 * i + k)
          have bj := b3 (40 * j + k)
          by_cases hk4 : k = 40
          · subst hk4
            refine gw_il4 d_R_same_43 ?_
            refine gw_push d_R_same_45 ?_
            refine gw_icge d_R_same_47 (fun c_47 => ?_) (fun c_47 => absurd (by decide) c_47)
            refine gw_il3 d_R_same_161 ?_
            exact gw_zret d_R_same_162 rfl (b2i_01 _) (Nat.le_refl _) (Nat.le_refl _) ⟨rfl, hM1, hF1, rfl⟩
          · have hlt : k < 40 := by omega
            cases hs : mSa U i j k
            · have mon : ∀ e, mSa U i j (k + e) = false := by
                intro e
                induction e with
                | zero => exact hs
                | succ e ihe => show (mSa U i j (k + e) && _) = false; rw [ihe]; rfl
              have h40 := mon (40 - k)
              rw [show k + (40 - k) = 40 by omega] at h40
              rw [h40]
              refine gw_il4 d_R_same_43 ?_
              refine gw_push d_R_same_45 ?_
              refine gw_icge d_R_same_47 (fun c_47 => absurd (n_le (a := 40) c_47 (by decide) (by omega)) (by omega)) (fun c_47 => ?_)
              refine gw_il3 d_R_same_50 ?_
              refine gw_ifeq d_R_same_51 (fun c_51 => ?_) (fun c_51 => absurd rfl c_51)
              refine gw_il3 d_R_same_161 ?_
              exact gw_zret d_R_same_162 rfl (by decide) (Nat.le_refl _) (Nat.le_refl _) ⟨rfl, hM1, hF1, rfl⟩
            · have nx : ∀ x w5 w6 w7 w8, mSq U i j k = x → GM G l 3 0 0 (mP h m A vs lf U 0 (b2i (mSa U i j 40)) sz) M_R_same 155 [some (.ref m), some (.int (nI i)), some (.int (nI j)), some (.int (b2i x)), some (.int (nI k)), w5, w6, w7, w8] [] h1 sz 0 0 := by
                intro x w5 w6 w7 w8 hx
                have z := ih (k + 1) w5 w6 w7 w8 (by omega) (by omega)
                rw [show mSa U i j (k + 1) = x from by rw [mSa, hs, hx]; rfl] at z
                exact gw_ii4 d_R_same_155 (by rw [n_s]; exact gw_goto d_R_same_158 z)
              have p130 : ∀ o1 o2 : Bool, o1 = mSk U i k → o2 = mSk U j k → ∀ v5 v6, v5 = nI (uS U (40 * i + k)) - 1 → v6 = nI (uS U (40 * j + k)) - 1 → GM G l 3 0 0 (mP h m A vs lf U 0 (b2i (mSa U i j 40)) sz) M_R_same 130 [some (.ref m), some (.int (nI i)), some (.int (nI j)), some (.int 1), some (.int (nI k)), some (.int v5), some (.int v6), some (.int (b2i o1)), some (.int (b2i o2))] [] h1 sz 0 0 := by
                intro o1 o2 e1 e2 v5 v6 e5 e6
                have inj : v5 = v6 ↔ uS U (40 * i + k) = uS U (40 * j + k) := by
                  rw [e5, e6]
                  constructor
                  · intro z
                    have z2 : nI (uS U (40 * i + k)) - 1 + 1 = nI (uS U (40 * j + k)) - 1 + 1 := by rw [z]
                    rw [Int32.sub_add_cancel, Int32.sub_add_cancel] at z2
                    exact n_eq z2 (by omega) (by omega)
                  · intro z; rw [z]
                have hsq : mSq U i j k = ((o1 == o2) && (!o1 || decide (v5 = v6))) := by
                  rw [mSq, ← e1, ← e2, decide_eq_decide.mpr inj]
                refine gw_il7 d_R_same_130 ?_
                refine gw_il8 d_R_same_132 ?_
                refine gw_icne d_R_same_134 (fun c_134 => ?_) (fun c_134 => ?_)
                · refine gw_push d_R_same_153 ?_
                  refine gw_is3 d_R_same_154 ?_
                  first | exact nx true _ _ _ _ (by rw [hsq, b2i_inj c_134, decide_eq_true c_146]; simp) | exact nx false _ _ _ _ (by rw [hsq, decide_eq_false c_146, (b2i_ne0 _).mp c_139]; simp) | exact nx true _ _ _ _ (by rw [hsq, b2i_inj c_134.symm, (b2i_eq0 _).mp c_139]; simp) | exact nx false _ _ _ _ (by rw [hsq]; cases o1 <;> cases o2 <;> first | rfl | exact absurd rfl c_134)
                · refine gw_il7 d_R_same_137 ?_
                  refine gw_ifeq d_R_same_139 (fun c_139 => ?_) (fun c_139 => ?_)
                  · refine gw_push d_R_same_149 ?_
                    refine gw_goto d_R_same_150 ?_
                    refine gw_is3 d_R_same_154 ?_
                    first | exact nx true _ _ _ _ (by rw [hsq, b2i_inj c_134, decide_eq_true c_146]; simp) | exact nx false _ _ _ _ (by rw [hsq, decide_eq_false c_146, (b2i_ne0 _).mp c_139]; simp) | exact nx true _ _ _ _ (by rw [hsq, b2i_inj c_134.symm, (b2i_eq0 _).mp c_139]; simp) | exact nx false _ _ _ _ (by rw [hsq]; cases o1 <;> cases o2 <;> first | rfl | exact absurd rfl c_134)
                  · refine gw_il5 d_R_same_142 ?_
                    refine gw_il6 d_R_same_144 ?_
                    refine gw_icne d_R_same_146 (fun c_146 => ?_) (fun c_146 => ?_)
                    · refine gw_push d_R_same_153 ?_
                      refine gw_is3 d_R_same_154 ?_
                      first | exact nx true _ _ _ _ (by rw [hsq, b2i_inj c_134, decide_eq_true c_146]; simp) | exact nx false _ _ _ _ (by rw [hsq, decide_eq_false c_146, (b2i_ne0 _).mp c_139]; simp) | exact nx true _ _ _ _ (by rw [hsq, b2i_inj c_134.symm, (b2i_eq0 _).mp c_139]; simp) | exact nx false _ _ _ _ (by rw [hsq]; cases o1 <;> cases o2 <;> first | rfl | exact absurd rfl c_134)
                    · refine gw_push d_R_same_149 ?_
                      refine gw_goto d_R_same_150 ?_
                      refine gw_is3 d_R_same_154 ?_
                      first | exact nx true _ _ _ _ (by rw [hsq, b2i_inj c_134, decide_eq_true c_146]; simp) | exact nx false _ _ _ _ (by rw [hsq, decide_eq_false c_146, (b2i_ne0 _).mp c_139]; simp) | exact nx true _ _ _ _ (by rw [hsq, b2i_inj c_134.symm, (b2i_eq0 _).mp c_139]; simp) | exact nx false _ _ _ _ (by rw [hsq]; cases o1 <;> cases o2 <;> first | rfl | exact absurd rfl c_134)
              have p108 : ∀ o1 : Bool, o1 = mSk U i k → ∀ v5, v5 = nI (uS U (40 * i + k)) - 1 → ∀ w8, GM G l 3 0 0 (mP h m A vs lf U 0 (b2i (mSa U i j 40)) sz) M_R_same 108 [some (.ref m), some (.int (nI i)), some (.int (nI j)), some (.int 1), some (.int (nI k)), some (.int v5), some (.int (nI (uS U (40 * j + k)) - 1)), some (.int (b2i o1)), w8] [] h1 sz 0 0 := by
                intro o1 e1 v5 e5 w8
                refine gw_il6 d_R_same_108 ?_
                refine gw_iflt d_R_same_110 (fun c_110 => ?_) (fun c_110 => ?_)
                · refine gw_push d_R_same_127 ?_
                  refine gw_is8 d_R_same_128 ?_
                  first | exact p130 o1 true e1 (by rw [mSk, decide_eq_true hpos, decide_eq_false c_120]; rfl) _ _ e5 e6.symm | exact p130 o1 false e1 (by rw [mSk, decide_eq_true c_120]; simp) _ _ e5 e6.symm | exact p130 o1 false e1 (by rw [mSk, decide_eq_false (by have := n_dn c_110 bj; omega)]; rfl) _ _ e5 rfl
                · have hpos := n_up c_110; have e6 := n_m1 hpos; rw [n_m1 hpos]; refine gw_al0 d_R_same_113 ?_
                  refine gw_get d_R_same_114 (by assumption) (by rfl) ?_
                  refine gw_il6 d_R_same_117 ?_
                  refine gw_iald d_R_same_119 g2 (uS U (40 * j + k) - 1) rfl (by omega) (by omega) ?_
                  refine gw_iflt d_R_same_120 (fun c_120 => ?_) (fun c_120 => ?_)
                  · refine gw_push d_R_same_127 ?_
                    refine gw_is8 d_R_same_128 ?_
                    first | exact p130 o1 true e1 (by rw [mSk, decide_eq_true hpos, decide_eq_false c_120]; rfl) _ _ e5 e6.symm | exact p130 o1 false e1 (by rw [mSk, decide_eq_true c_120]; simp) _ _ e5 e6.symm | exact p130 o1 false e1 (by rw [mSk, decide_eq_false (by have := n_dn c_110 bj; omega)]; rfl) _ _ e5 rfl
                  · refine gw_push d_R_same_123 ?_
                    refine gw_goto d_R_same_124 ?_
                    refine gw_is8 d_R_same_128 ?_
                    first | exact p130 o1 true e1 (by rw [mSk, decide_eq_true hpos, decide_eq_false c_120]; rfl) _ _ e5 e6.symm | exact p130 o1 false e1 (by rw [mSk, decide_eq_true c_120]; simp) _ _ e5 e6.symm | exact p130 o1 false e1 (by rw [mSk, decide_eq_false (by have := n_dn c_110 bj; omega)]; rfl) _ _ e5 rfl
              refine gw_il4 d_R_same_43 ?_
              refine gw_push d_R_same_45 ?_
              refine gw_icge d_R_same_47 (fun c_47 => absurd (n_le (a := 40) c_47 (by decide) (by omega)) (by omega)) (fun c_47 => ?_)
              refine gw_il3 d_R_same_50 ?_
              refine gw_ifeq d_R_same_51 (fun c_51 => absurd c_51 (by decide)) (fun c_51 => ?_)
              refine gw_al0 d_R_same_54 ?_
              refine gw_get d_R_same_55 (by assumption) (by rfl) ?_
              refine gw_push d_R_same_58 ?_
              refine gw_il1 d_R_same_60 ?_
              refine gw_imul d_R_same_61 ?_; first | rw [m_4] | rw [m_40] | rw [m_160] | rw [m_20] | skip
              refine gw_il4 d_R_same_62 ?_
              refine gw_iadd d_R_same_64 ?_; first | rw [nI_add] | rw [p_4] | rw [p_40] | skip
              refine gw_iald d_R_same_65 g5 (40 * i + k) rfl (by omega) (by omega) ?_
              refine gw_push d_R_same_66 ?_
              refine gw_isub d_R_same_67 ?_
              refine gw_is5 d_R_same_68 ?_
              refine gw_al0 d_R_same_70 ?_
              refine gw_get d_R_same_71 (by assumption) (by rfl) ?_
              refine gw_push d_R_same_74 ?_
              refine gw_il2 d_R_same_76 ?_
              refine gw_imul d_R_same_77 ?_; first | rw [m_4] | rw [m_40] | rw [m_160] | rw [m_20] | skip
              refine gw_il4 d_R_same_78 ?_
              refine gw_iadd d_R_same_80 ?_; first | rw [nI_add] | rw [p_4] | rw [p_40] | skip
              refine gw_iald d_R_same_81 g5 (40 * j + k) rfl (by omega) (by omega) ?_
              refine gw_push d_R_same_82 ?_
              refine gw_isub d_R_same_83 ?_
              refine gw_is6 d_R_same_84 ?_
              refine gw_il5 d_R_same_86 ?_
              refine gw_iflt d_R_same_88 (fun c_88 => ?_) (fun c_88 => ?_)
              · refine gw_push d_R_same_105 ?_
                refine gw_is7 d_R_same_106 ?_
                first | exact p108 true (by rw [mSk, decide_eq_true hpos, decide_eq_false c_98]; rfl) _ e5.symm _ | exact p108 false (by rw [mSk, decide_eq_true c_98]; simp) _ e5.symm _ | exact p108 false (by rw [mSk, decide_eq_false (by have := n_dn c_88 bi; omega)]; rfl) _ rfl _
              · have hpos := n_up c_88; have e5 := n_m1 hpos; rw [n_m1 hpos]; refine gw_al0 d_R_same_91 ?_
                refine gw_get d_R_same_92 (by assumption) (by rfl) ?_
                refine gw_il5 d_R_same_95 ?_
                refine gw_iald d_R_same_97 g2 (uS U (40 * i + k) - 1) rfl (by omega) (by omega) ?_
                refine gw_iflt d_R_same_98 (fun c_98 => ?_) (fun c_98 => ?_)
                · refine gw_push d_R_same_105 ?_
                  refine gw_is7 d_R_same_106 ?_
                  first | exact p108 true (by rw [mSk, decide_eq_true hpos, decide_eq_false c_98]; rfl) _ e5.symm _ | exact p108 false (by rw [mSk, decide_eq_true c_98]; simp) _ e5.symm _ | exact p108 false (by rw [mSk, decide_eq_false (by have := n_dn c_88 bi; omega)]; rfl) _ rfl _
                · refine gw_push d_R_same_101 ?_
                  refine gw_goto d_R_same_102 ?_
                  refine gw_is7 d_R_same_106 ?_
                  first | exact p108 true (by rw [mSk, decide_eq_true hpos, decide_eq_false c_98]; rfl) _ e5.symm _ | exact p108 false (by rw [mSk, decide_eq_true c_98]; simp) _ e5.symm _ | exact p108 false (by rw [mSk, decide_eq_false (by have := n_dn c_88 bi; omega)]; rfl) _ rfl _
      refine gw_al0 d_R_same_0 ?_
      refine gw_il1 d_R_same_1 ?_
      refine gw_push d_R_same_2 ?_
      refine gw_push d_R_same_3 ?_
      refine gw_rS3 d_R_same_4 cs_R_same_4 (c_R_within (n := 3) (by decide)) ?_; rw [hp]
      refine gw_ifeq d_R_same_7 (fun c_7 => absurd c_7 (by decide)) (fun c_7 => ?_)
      refine gw_il2 d_R_same_10 ?_
      refine gw_push d_R_same_11 ?_
      refine gw_push d_R_same_12 ?_
      refine gw_rS3 d_R_same_13 cs_R_same_13 (c_R_within (n := 3) (by decide)) ?_; rw [hp2]
      refine gw_ifne d_R_same_16 (fun c_16 => ?_) (fun c_16 => absurd c_16 (by decide))
      refine gw_push d_R_same_23 ?_
      refine gw_pf0 d_R_same_24 h0 rfl rfl ?_; rw [← hh1]
      refine gw_al0 d_R_same_27 ?_
      refine gw_get d_R_same_28 g0 (by rfl) ?_
      refine gw_ifne d_R_same_31 (fun c_31 => absurd rfl c_31) (fun c_31 => ?_)
      refine gw_push d_R_same_34 ?_
      refine gw_goto d_R_same_35 ?_
      refine gw_is3 d_R_same_39 ?_
      refine gw_push d_R_same_40 ?_
      refine gw_is4 d_R_same_41 ?_
      exact loop 41 0 _ _ _ _ (by omega) (by omega)
end RefK
