/-! ===== the reference: what changes (2) ===== -/
def mkV (U : gU) (p s v : Nat) : Nat → Nat → Int32
  | 0 => uV U
  | j + 1 => upd (mkV U p s v j) (4 * v + j) (uN U (p + j) + (if j = s then 1 else 0))
def mkU (U : gU) (v s d : Nat) (n fl : Int32) : gU := tV (tF (tL (tK (tD U (va_up (uD U) v d)) (va_up (uK U) v s)) (upd (uL U) v n)) (upd (uF U) v fl)) (mkV U (160 * s + 40 * s + 4 * d) s v 4)
def lnN (U : gU) (c s : Nat) : Nat → Nat → Int32
  | 0 => uN U
  | o + 1 => if o = s then lnN U c s o else jnV (lnN U c s o) (160 * s + 40 * o) (fun k => lnN U c s o (160 * (4 + c) + 40 * o + k)) 40
def mAh (U : gU) (s v p : Nat) : Nat → Bool
  | 0 => true
  | o + 1 => mAh U s v p o && cov4 (mKn U (160 * s + 40 * o + 4 * p)) (mVc U v)
def mGn (U : gU) (s k : Nat) : Bool := decide (0 < uS U (40 * s + k)) && (decide (uL U (uS U (40 * s + k) - 1) < 0) && mAh U s (uS U (40 * s + k) - 1) (k / 4) 4)
def dmN (U : gU) (s : Nat) : Nat → Nat → Nat
  | 0 => uS U
  | k + 1 => if mGn U s k = true then va_up (dmN U s k) (40 * s + k) 0 else dmN U s k
theorem dmN_le {U : gU} (hB : ∀ k, uS U k ≤ 4100) {s : Nat} : ∀ n k, dmN U s n k ≤ 4100
  | 0 => hB
  | n + 1 => by
    rw [dmN]
    split
    · exact va_up_le (dmN_le hB n) (by omega)
    · exact dmN_le hB n
theorem dmN_at {U : gU} {s : Nat} : ∀ n k, n ≤ k → dmN U s n (40 * s + k) = uS U (40 * s + k)
  | 0, _, _ => rfl
  | n + 1, k, hk => by
    rw [dmN]
    split
    · rw [va_up_ne _ _ (by omega)]; exact dmN_at n k (by omega)
    · exact dmN_at n k (by omega)
theorem n_div4 : ∀ {k : Nat}, k < 40 → nI k / 4 = nI (k / 4) := by
  have h : ∀ k, k < 40 → nI k / 4 = nI (k / 4) := by decide +kernel
  exact fun {k} hk => h k hk
section RefF
variable {G : gG} {l : Launch} {h : gHp} {sz m : Nat} {A : Nat → Nat} {th : Int32} {vs : Nat} {lf : Int32} {U : gU}
def mkR (h : gHp) (m : Nat) (A : Nat → Nat) (th : Int32) (vs : Nat) (lf : Int32) (U : gU) (s d : Nat) (n fl : Int32) (r : gRs) (h' : gHp) : Prop :=
  (uN U (160 * s + 40 * s + 4 * d + s) = 200 ∧ r = .inl (some (.int 3)) ∧ MV h' m A th vs lf U ∧ MF h h' m A) ∨
  (¬ uN U (160 * s + 40 * s + 4 * d + s) = 200 ∧ 300 < mHr (mkU U vs s d n fl) s vs 4 ∧ r = .inl (some (.int 3)) ∧ MV h' m A th vs lf (mkU U vs s d n fl) ∧ MF h h' m A) ∨
  (¬ uN U (160 * s + 40 * s + 4 * d + s) = 200 ∧ ¬ 300 < mHr (mkU U vs s d n fl) s vs 4 ∧ r = .inl (some (.int 0)) ∧ MV h' m A th (vs + 1) lf (csU (mkU U vs s d n fl) s vs) ∧ MF h h' m A)
theorem c_R_make (hM : MV h m A th vs lf U) {s d : Nat} (hs : s < 4) (hd : d < 10) (hv : vs < 4100) {n fl : Int32} : SM G l 4 y_R_make M_R_make [.ref m, .int (nI s), .int (nI d), .int n, .int fl] h sz 0 0 (fun r h' sz' => mkR h m A th vs lf U s d n fl r h' ∧ sz' = sz) := by
  have hM0 := hM
  obtain ⟨h0, a0, a1, a2, a3, a4, a5, a6, a7, a8, hd', b1, b2, b3, b4, b5⟩ := hM
  refine SM.of (lv0 := [some (.ref m), some (.int (nI s)), some (.int (nI d)), some (.int n), some (.int fl), none, none, none]) (by decide +kernel) rfl ⟨rfl, rfl⟩ rfl (by simp [Value.category]) (Nat.le_of_ble_eq_true rfl) ?_
  obtain ⟨p, hp⟩ : ∃ p, p = 160 * s + 40 * s + 4 * d := ⟨_, rfl⟩
  obtain ⟨U4, hU4⟩ : ∃ U4, U4 = tF (tL (tK (tD U (va_up (uD U) vs d)) (va_up (uK U) vs s)) (upd (uL U) vs n)) (upd (uF U) vs fl) := ⟨_, rfl⟩
  have eN4 : uN U4 = uN U := by rw [hU4]; rfl
  have eV4 : uV U4 = uV U := by rw [hU4]; rfl
  have e5 : tV U4 (mkV U p s vs 4) = mkU U vs s d n fl := by rw [mkU, hU4, hp]
  have loop : ∀ k j (h1 : gHp), ¬ uN U (160 * s + 40 * s + 4 * d + s) = 200 → j ≤ 4 → 4 - j < k → MV h1 m A th vs lf (tV U4 (mkV U p s vs j)) → MF h h1 m A → GM G l 4 0 0 (fun r h' sz' => mkR h m A th vs lf U s d n fl r h' ∧ sz' = sz) M_R_make 67 [some (.ref m), some (.int (nI s)), some (.int (nI d)), some (.int n), some (.int fl), some (.int (nI p)), some (.int (nI vs)), some (.int (nI j))] [] h1 sz 0 0 := by
    intro k
    induction k with
    | zero => intro j _ _ _ hj; exact absurd hj (Nat.not_lt_zero _)
    | succ k ih =>
      intro j h1 hno hj hm hM1 hF
      have g0 := hM1.1
      have g4 := hM1.2.2.2.2.2.1
      have g6 := hM1.2.2.2.2.2.2.2.1
      have nx : j < 4 → ∀ x, x = uN U (p + j) + (if j = s then 1 else 0) → GM G l 4 0 0 (fun r h' sz' => mkR h m A th vs lf U s d n fl r h' ∧ sz' = sz) M_R_make 106 [some (.ref m), some (.int (nI s)), some (.int (nI d)), some (.int n), some (.int fl), some (.int (nI p)), some (.int (nI vs)), some (.int (nI j))] [.int x, .int (nI (4 * vs + j)), .ref (A 4)] h1 sz 0 0 := by
        intro hlt x hx
        refine gw_iast d_R_make_106 g4 (4 * vs + j) rfl (by omega) (by omega) ?_
        refine gw_ii7 d_R_make_107 ?_
        rw [n_s, hx]
        exact gw_goto d_R_make_110 (ih (j + 1) _ hno (by omega) (by omega) (hM1.putV (f := mkV U p s vs (j + 1))) (hF.trans (MF.arr (by omega))))
      refine gw_il7 d_R_make_67 ?_
      refine gw_push d_R_make_69 ?_
      refine gw_icge d_R_make_70 (fun c_70 => ?_) (fun c_70 => ?_)
      · refine gw_al0 d_R_make_113 ?_
        refine gw_il1 d_R_make_114 ?_
        refine gw_il6 d_R_make_115 ?_
        have q4 := n_le (a := 4) c_70 (by decide) (by omega); obtain rfl : j = 4 := (by omega); rw [e5] at hM1; refine gw_rV2 d_R_make_117 cs_R_make_117 g0 (c_R_hasRoom hM1 hs hv) ?_
        refine gw_ifne d_R_make_120 (fun c_120 => ?_) (fun c_120 => ?_)
        · refine gw_al0 d_R_make_125 ?_
          refine gw_dup d_R_make_126 rfl ?_
          refine gw_get d_R_make_127 (by assumption) (by rfl) ?_
          refine gw_push d_R_make_130 ?_
          refine gw_iadd d_R_make_131 ?_; rw [n_s]
          refine gw_pf1 d_R_make_132 g0 rfl rfl ?_; have hM2 := hM1.ob (th' := th) (vs' := vs + 1) (lf' := lf); have k0 := hM2.1
          refine gw_al0 d_R_make_135 ?_
          refine gw_il1 d_R_make_136 ?_
          refine gw_il6 d_R_make_137 ?_
          refine gw_vV2 d_R_make_139 cs_R_make_139 k0 (c_R_comeToStand hM2 hs hv) (fun h3 sz3 hq hz => ?_); obtain ⟨w1, w2, w3⟩ := hq; subst w3
          refine gw_push d_R_make_142 ?_
          exact gw_iret d_R_make_143 rfl (Nat.le_refl _) (Nat.le_refl _) ⟨Or.inr (Or.inr ⟨hno, by simpa using (b2i_ne0 _).mp c_120, rfl, w1, (hF.trans MF.obj).trans w2⟩), rfl⟩
        · refine gw_push d_R_make_123 ?_
          exact gw_iret d_R_make_124 rfl (Nat.le_refl _) (Nat.le_refl _) ⟨Or.inr (Or.inl ⟨hno, by simpa using (b2i_eq0 _).mp c_120, rfl, hM1, hF⟩), rfl⟩
      · refine gw_al0 d_R_make_73 ?_
        refine gw_get d_R_make_74 (by assumption) (by rfl) ?_
        refine gw_push d_R_make_77 ?_
        refine gw_il6 d_R_make_78 ?_
        refine gw_imul d_R_make_80 ?_; first | rw [m_4] | rw [m_40] | rw [m_160] | rw [m_20] | skip
        refine gw_il7 d_R_make_81 ?_
        refine gw_iadd d_R_make_83 ?_; first | rw [nI_add] | rw [p_4] | rw [p_40] | skip
        refine gw_al0 d_R_make_84 ?_
        refine gw_get d_R_make_85 (by assumption) (by rfl) ?_
        refine gw_il5 d_R_make_88 ?_
        refine gw_il7 d_R_make_90 ?_
        refine gw_iadd d_R_make_92 ?_; first | rw [nI_add] | rw [p_4] | rw [p_40] | skip
        have hlt := n_nle (a := 4) c_70 (by decide) (by omega); refine gw_iald d_R_make_93 g6 (p + j) rfl (by omega) (by omega) ?_; rw [show uN (tV U4 (mkV U p s vs j)) = uN U from eN4]
        refine gw_il7 d_R_make_94 ?_
        refine gw_il1 d_R_make_96 ?_
        refine gw_icne d_R_make_97 (fun c_97 => ?_) (fun c_97 => ?_)
        · refine gw_push d_R_make_104 ?_
          refine gw_iadd d_R_make_105 ?_
          first | exact nx hlt _ (by rw [if_pos (n_eq c_97 (by omega) (by omega))]) | exact nx hlt _ (by rw [if_neg (fun z => c_97 (by rw [z]))])
        · refine gw_push d_R_make_100 ?_
          refine gw_goto d_R_make_101 ?_
          refine gw_iadd d_R_make_105 ?_
          first | exact nx hlt _ (by rw [if_pos (n_eq c_97 (by omega) (by omega))]) | exact nx hlt _ (by rw [if_neg (fun z => c_97 (by rw [z]))])
  refine gw_il1 d_R_make_0 ?_
  refine gw_il1 d_R_make_1 ?_
  refine gw_il2 d_R_make_2 ?_
  refine gw_rS3 d_R_make_3 cs_R_make_3 c_R_at ?_; rw [← hp]
  refine gw_is5 d_R_make_6 ?_
  refine gw_al0 d_R_make_8 ?_
  refine gw_get d_R_make_9 (by assumption) (by rfl) ?_
  refine gw_il5 d_R_make_12 ?_
  refine gw_il1 d_R_make_14 ?_
  refine gw_iadd d_R_make_15 ?_; first | rw [nI_add] | rw [p_4] | rw [p_40] | skip
  refine gw_iald d_R_make_16 a6 (p + s) rfl (by omega) (by omega) ?_
  refine gw_push d_R_make_17 ?_
  refine gw_icne d_R_make_20 (fun c_20 => ?_) (fun c_20 => ?_)
  · refine gw_al0 d_R_make_25 ?_
    refine gw_get d_R_make_26 (by assumption) (by rfl) ?_
    refine gw_is6 d_R_make_29 ?_
    refine gw_al0 d_R_make_31 ?_
    refine gw_get d_R_make_32 (by assumption) (by rfl) ?_
    refine gw_il6 d_R_make_35 ?_
    refine gw_il2 d_R_make_37 ?_
    refine gw_iast d_R_make_38 a0 vs rfl hv (by omega) ?_; rw [upd_nI]; have hM1 := hM0.putD (f := va_up (uD U) vs d) (va_up_lt b1 hd); have k10 := hM1.1; have k11 := hM1.2.2.1
    refine gw_al0 d_R_make_39 ?_
    refine gw_get d_R_make_40 (by assumption) (by rfl) ?_
    refine gw_il6 d_R_make_43 ?_
    refine gw_il1 d_R_make_45 ?_
    refine gw_iast d_R_make_46 k11 vs rfl hv (by omega) ?_; rw [upd_nI]; have hM2 := hM1.putK (f := va_up (uK U) vs s) (va_up_lt b2 hs); have k20 := hM2.1; have k22 := hM2.2.2.2.1
    refine gw_al0 d_R_make_47 ?_
    refine gw_get d_R_make_48 (by assumption) (by rfl) ?_
    refine gw_il6 d_R_make_51 ?_
    refine gw_il3 d_R_make_53 ?_
    refine gw_iast d_R_make_54 k22 vs rfl hv (by omega) ?_; have hM3 := hM2.putL (f := upd (uL U) vs n); have k30 := hM3.1; have k33 := hM3.2.2.2.2.1
    refine gw_al0 d_R_make_55 ?_
    refine gw_get d_R_make_56 (by assumption) (by rfl) ?_
    refine gw_il6 d_R_make_59 ?_
    refine gw_il4 d_R_make_61 ?_
    refine gw_iast d_R_make_63 k33 vs rfl hv (by omega) ?_; have hM4 := hM3.putF (f := upd (uF U) vs fl)
    refine gw_push d_R_make_64 ?_
    refine gw_is7 d_R_make_65 ?_
    exact loop 5 0 _ (by rw [← hp]; exact c_20) (by omega) (by omega) (by rw [show tV U4 (mkV U p s vs 0) = U4 from by rw [mkV, ← eV4]; rfl, hU4]; exact hM4) ((((MF.arr (k := 0) (by omega)).trans (MF.arr (k := 1) (by omega))).trans (MF.arr (k := 2) (by omega))).trans (MF.arr (k := 3) (by omega)))
  · refine gw_push d_R_make_23 ?_
    exact gw_iret d_R_make_24 rfl (Nat.le_refl _) (Nat.le_refl _) ⟨Or.inl ⟨by rw [← hp]; exact c_20, rfl, hM0, MF.refl⟩, rfl⟩
theorem c_R_learn (hM : MV h m A th vs lf U) {c s : Nat} (hc : c < 3) (hs : s < 4) : SM G l 2 y_R_learn M_R_learn [.ref m, .int (nI c), .int (nI s)] h sz 0 0 (qV (fun h' sz' => MV h' m A th vs lf (tN U (lnN U c s 4)) ∧ MF h h' m A ∧ sz' = sz)) := by
  refine SM.of (lv0 := [some (.ref m), some (.int (nI c)), some (.int (nI s)), none, none, none, none]) (by decide +kernel) rfl ⟨rfl, rfl⟩ rfl (by simp [Value.category]) (Nat.le_of_ble_eq_true rfl) ?_
  have loop : ∀ n o (h1 : gHp) q4 q5 q6, o ≤ 4 → 4 - o < n → MV h1 m A th vs lf (tN U (lnN U c s o)) → MF h h1 m A → GM G l 2 0 0 (qV (fun h' sz' => MV h' m A th vs lf (tN U (lnN U c s 4)) ∧ MF h h' m A ∧ sz' = sz)) M_R_learn 2 [some (.ref m), some (.int (nI c)), some (.int (nI s)), some (.int (nI o)), q4, q5, q6] [] h1 sz 0 0 := by
    intro n
    induction n with
    | zero => intro o _ _ _ _ _ hj; exact absurd hj (Nat.not_lt_zero _)
    | succ n ih =>
      intro o h1 q4 q5 q6 ho hm hM1 hF
      have p93 : o < 4 → ∀ w4 w5 w6 (h2 : gHp), MV h2 m A th vs lf (tN U (lnN U c s (o + 1))) → MF h h2 m A → GM G l 2 0 0 (qV (fun h' sz' => MV h' m A th vs lf (tN U (lnN U c s 4)) ∧ MF h h' m A ∧ sz' = sz)) M_R_learn 93 [some (.ref m), some (.int (nI c)), some (.int (nI s)), some (.int (nI o)), w4, w5, w6] [] h2 sz 0 0 := by
        intro hlt w4 w5 w6 h2 hM2 hF2
        exact gw_ii3 d_R_learn_93 (by rw [n_s]; exact gw_goto d_R_learn_96 (ih (o + 1) h2 w4 w5 w6 (by omega) (by omega) hM2 hF2))
      by_cases hos : o = s
      · subst hos
        refine gw_il3 d_R_learn_2 ?_
        refine gw_push d_R_learn_3 ?_
        refine gw_icge d_R_learn_4 (fun c_4 => absurd (n_le (a := 4) c_4 (by decide) (by omega)) (by omega)) (fun c_4 => ?_)
        refine gw_push d_R_learn_7 ?_
        refine gw_is4 d_R_learn_8 ?_
        refine gw_il4 d_R_learn_10 ?_
        refine gw_push d_R_learn_12 ?_
        refine gw_icge d_R_learn_14 (fun c_14 => absurd c_14 (by decide)) (fun c_14 => ?_)
        refine gw_il3 d_R_learn_17 ?_
        refine gw_il2 d_R_learn_18 ?_
        refine gw_iceq d_R_learn_19 (fun c_19 => ?_) (fun c_19 => absurd rfl c_19)
        exact p93 hs _ _ _ h1 (by rw [lnN, if_pos rfl]; exact hM1) hF
      · by_cases ho4 : o = 4
        · subst ho4
          refine gw_il3 d_R_learn_2 ?_
          refine gw_push d_R_learn_3 ?_
          refine gw_icge d_R_learn_4 (fun c_4 => ?_) (fun c_4 => absurd (by decide) c_4)
          exact gw_vret d_R_learn_99 rfl (Nat.le_refl _) (Nat.le_refl _) ⟨rfl, hM1, hF, rfl⟩
        · have hlt : o < 4 := by omega
          obtain ⟨f, hf⟩ : ∃ f, f = lnN U c s o := ⟨_, rfl⟩
          obtain ⟨g, hg⟩ : ∃ g : Nat → Int32, g = fun k => f (160 * (4 + c) + 40 * o + k) := ⟨_, rfl⟩
          have inner : ∀ n2 j (h2 : gHp) w5 w6, j ≤ 40 → 40 - j < n2 → MV h2 m A th vs lf (tN U (jnV f (160 * s + 40 * o) g j)) → MF h h2 m A → GM G l 2 0 0 (qV (fun h' sz' => MV h' m A th vs lf (tN U (lnN U c s 4)) ∧ MF h h' m A ∧ sz' = sz)) M_R_learn 10 [some (.ref m), some (.int (nI c)), some (.int (nI s)), some (.int (nI o)), some (.int (nI j)), w5, w6] [] h2 sz 0 0 := by
            intro n2
            induction n2 with
            | zero => intro j _ _ _ _ hj; exact absurd hj (Nat.not_lt_zero _)
            | succ n2 ih2 =>
              intro j h2 w5 w6 hj hm2 hM2 hF2
              have g0 := hM2.1
              have g6 := hM2.2.2.2.2.2.2.2.1
              rw [show uN (tN U (jnV f (160 * s + 40 * o) g j)) = jnV f (160 * s + 40 * o) g j from rfl] at g6
              have eg : jnV f (160 * s + 40 * o) g j (160 * (4 + c) + 40 * o + j) = g j := by
                rw [jnV, if_neg (by omega), hg]
              have nx : j < 40 → ∀ x v5 v6, x = mxI (jnV f (160 * s + 40 * o) g j (160 * s + 40 * o + j)) (g j) → GM G l 2 0 0 (qV (fun h' sz' => MV h' m A th vs lf (tN U (lnN U c s 4)) ∧ MF h h' m A ∧ sz' = sz)) M_R_learn 86 [some (.ref m), some (.int (nI c)), some (.int (nI s)), some (.int (nI o)), some (.int (nI j)), v5, v6] [.int x, .int (nI (160 * s + 40 * o + j)), .ref (A 6)] h2 sz 0 0 := by
                intro hlt2 x v5 v6 hx
                refine gw_iast d_R_learn_86 g6 (160 * s + 40 * o + j) rfl (by omega) (by omega) ?_
                refine gw_ii4 d_R_learn_87 ?_
                rw [n_s, hx, jnV_s]
                exact gw_goto d_R_learn_90 (ih2 (j + 1) _ v5 v6 (by omega) (by omega) hM2.putN (hF2.trans (MF.arr (by omega))))
              refine gw_il4 d_R_learn_10 ?_
              refine gw_push d_R_learn_12 ?_
              refine gw_icge d_R_learn_14 (fun c_14 => ?_) (fun c_14 => ?_)
              · have q4 := n_le (a := 40) c_14 (by decide) (by omega); obtain rfl : j = 40 := (by omega); exact p93 hlt _ _ _ h2 (by rw [lnN, if_neg hos, ← hf, ← hg]; exact hM2) hF2
              · refine gw_il3 d_R_learn_17 ?_
                refine gw_il2 d_R_learn_18 ?_
                have hlt2 := n_nle (a := 40) c_14 (by decide) (by omega); refine gw_iceq d_R_learn_19 (fun c_19 => absurd (n_eq c_19 (by omega) (by omega)) hos) (fun c_19 => ?_)
                refine gw_il2 d_R_learn_22 ?_
                refine gw_il3 d_R_learn_23 ?_
                refine gw_push d_R_learn_24 ?_
                refine gw_rS3 d_R_learn_25 cs_R_learn_25 (c_R_at (d := 0)) ?_; rw [show 160 * s + 40 * o + 4 * 0 = 160 * s + 40 * o by omega]
                refine gw_il4 d_R_learn_28 ?_
                refine gw_iadd d_R_learn_30 ?_; first | rw [nI_add] | rw [p_4] | rw [p_40] | skip
                refine gw_is5 d_R_learn_31 ?_
                refine gw_push d_R_learn_33 ?_
                refine gw_il1 d_R_learn_34 ?_
                refine gw_iadd d_R_learn_35 ?_; first | rw [nI_add] | rw [p_4] | rw [p_40] | skip
                refine gw_il3 d_R_learn_36 ?_
                refine gw_push d_R_learn_37 ?_
                refine gw_rS3 d_R_learn_38 cs_R_learn_38 (c_R_at (d := 0)) ?_; rw [show 160 * (4 + c) + 40 * o + 4 * 0 = 160 * (4 + c) + 40 * o by omega]
                refine gw_il4 d_R_learn_41 ?_
                refine gw_iadd d_R_learn_43 ?_; first | rw [nI_add] | rw [p_4] | rw [p_40] | skip
                refine gw_is6 d_R_learn_44 ?_
                refine gw_al0 d_R_learn_46 ?_
                refine gw_get d_R_learn_47 (by assumption) (by rfl) ?_
                refine gw_il5 d_R_learn_50 ?_
                refine gw_al0 d_R_learn_52 ?_
                refine gw_get d_R_learn_53 (by assumption) (by rfl) ?_
                refine gw_il6 d_R_learn_56 ?_
                refine gw_iald d_R_learn_58 g6 (160 * (4 + c) + 40 * o + j) rfl (by omega) (by omega) ?_; rw [eg]
                refine gw_al0 d_R_learn_59 ?_
                refine gw_get d_R_learn_60 (by assumption) (by rfl) ?_
                refine gw_il5 d_R_learn_63 ?_
                refine gw_iald d_R_learn_65 g6 (160 * s + 40 * o + j) rfl (by omega) (by omega) ?_
                refine gw_icle d_R_learn_66 (fun c_66 => ?_) (fun c_66 => ?_)
                · refine gw_al0 d_R_learn_79 ?_
                  refine gw_get d_R_learn_80 (by assumption) (by rfl) ?_
                  refine gw_il5 d_R_learn_83 ?_
                  refine gw_iald d_R_learn_85 g6 (160 * s + 40 * o + j) rfl (by omega) (by omega) ?_
                  first | exact nx hlt2 _ _ _ (mx_pos c_66) | exact nx hlt2 _ _ _ (mx_neg c_66)
                · refine gw_al0 d_R_learn_69 ?_
                  refine gw_get d_R_learn_70 (by assumption) (by rfl) ?_
                  refine gw_il6 d_R_learn_73 ?_
                  refine gw_iald d_R_learn_75 g6 (160 * (4 + c) + 40 * o + j) rfl (by omega) (by omega) ?_; rw [eg]
                  refine gw_goto d_R_learn_76 ?_
                  first | exact nx hlt2 _ _ _ (mx_pos c_66) | exact nx hlt2 _ _ _ (mx_neg c_66)
          refine gw_il3 d_R_learn_2 ?_
          refine gw_push d_R_learn_3 ?_
          refine gw_icge d_R_learn_4 (fun c_4 => absurd (n_le (a := 4) c_4 (by decide) (by omega)) (by omega)) (fun c_4 => ?_)
          refine gw_push d_R_learn_7 ?_
          refine gw_is4 d_R_learn_8 ?_
          exact inner 41 0 h1 _ _ (by omega) (by omega) (by rw [jnV_0, hf]; exact hM1) hF
  refine gw_push d_R_learn_0 ?_
  refine gw_is3 d_R_learn_1 ?_
  exact loop 5 0 h _ _ _ (by omega) (by omega) hM MF.refl
theorem c_R_dropMarks (hM : MV h m A th vs lf U) {s : Nat} (hs : s < 4) : SM G l 3 y_R_dropMarks M_R_dropMarks [.ref m, .int (nI s)] h sz 0 0 (qV (fun h' sz' => MV h' m A th vs lf (tS U (dmN U s 40)) ∧ MF h h' m A ∧ sz' = sz)) := by
  have b3 := hM.2.2.2.2.2.2.2.2.2.2.2.2.2.1
  refine SM.of (lv0 := [some (.ref m), some (.int (nI s)), none, none, none, none]) (by decide +kernel) rfl ⟨rfl, rfl⟩ rfl (by simp [Value.category]) (Nat.le_of_ble_eq_true rfl) ?_
  have loop : ∀ n k (h1 : gHp) q3 q4 q5, k ≤ 40 → 40 - k < n → MV h1 m A th vs lf (tS U (dmN U s k)) → MF h h1 m A → GM G l 3 0 0 (qV (fun h' sz' => MV h' m A th vs lf (tS U (dmN U s 40)) ∧ MF h h' m A ∧ sz' = sz)) M_R_dropMarks 2 [some (.ref m), some (.int (nI s)), some (.int (nI k)), q3, q4, q5] [] h1 sz 0 0 := by
    intro n
    induction n with
    | zero => intro k _ _ _ _ _ hj; exact absurd hj (Nat.not_lt_zero _)
    | succ n ih =>
      intro k h1 q3 q4 q5 hk hm hM1 hF
      have g0 := hM1.1
      have g2 := hM1.2.2.2.1
      have g5 := hM1.2.2.2.2.2.2.1
      have ea : uS (tS U (dmN U s k)) (40 * s + k) = uS U (40 * s + k) := dmN_at k k (Nat.le_refl _)
      have b := b3 (40 * s + k)
      obtain ⟨v, hv⟩ : ∃ v, v = uS U (40 * s + k) - 1 := ⟨_, rfl⟩
      have p78 : k < 40 → ∀ g w3 w5, g = mGn U s k → GM G l 3 0 0 (qV (fun h' sz' => MV h' m A th vs lf (tS U (dmN U s 40)) ∧ MF h h' m A ∧ sz' = sz)) M_R_dropMarks 78 [some (.ref m), some (.int (nI s)), some (.int (nI k)), w3, some (.int (b2i g)), w5] [] h1 sz 0 0 := by
        intro hlt g w3 w5 hg
        refine gw_al0 d_R_dropMarks_78 ?_
        refine gw_get d_R_dropMarks_79 (by assumption) (by rfl) ?_
        refine gw_push d_R_dropMarks_82 ?_
        refine gw_il1 d_R_dropMarks_84 ?_
        refine gw_imul d_R_dropMarks_85 ?_; first | rw [m_4] | rw [m_40] | rw [m_160] | rw [m_20] | skip
        refine gw_il2 d_R_dropMarks_86 ?_
        refine gw_iadd d_R_dropMarks_87 ?_; first | rw [nI_add] | rw [p_4] | rw [p_40] | skip
        refine gw_il4 d_R_dropMarks_88 ?_
        refine gw_ifeq d_R_dropMarks_90 (fun c_90 => ?_) (fun c_90 => ?_)
        · refine gw_al0 d_R_dropMarks_97 ?_
          refine gw_get d_R_dropMarks_98 (by assumption) (by rfl) ?_
          refine gw_push d_R_dropMarks_101 ?_
          refine gw_il1 d_R_dropMarks_103 ?_
          refine gw_imul d_R_dropMarks_104 ?_; first | rw [m_4] | rw [m_40] | rw [m_160] | rw [m_20] | skip
          refine gw_il2 d_R_dropMarks_105 ?_
          refine gw_iadd d_R_dropMarks_106 ?_; first | rw [nI_add] | rw [p_4] | rw [p_40] | skip
          refine gw_iald d_R_dropMarks_107 g5 (40 * s + k) rfl (by omega) (by omega) ?_
          refine gw_iast d_R_dropMarks_108 g5 (40 * s + k) rfl (by omega) (by omega) ?_
          first | (have z := hM1.putS (f := va_up (dmN U s k) (40 * s + k) 0) (va_up_le (dmN_le b3 k) (by omega)); rw [← upd_nI] at z; exact gw_ii2 d_R_dropMarks_109 (by rw [n_s]; exact gw_goto d_R_dropMarks_112 (ih (k + 1) _ _ _ _ (by omega) (by omega) (by rw [dmN, if_pos (hg.symm.trans ((b2i_ne0 _).mp c_90))]; exact z) (hF.trans (MF.arr (by omega)))))) | (have z := hM1.putS (f := dmN U s k) (dmN_le b3 k); exact gw_ii2 d_R_dropMarks_109 (by rw [n_s]; exact gw_goto d_R_dropMarks_112 (ih (k + 1) _ _ _ _ (by omega) (by omega) (by rw [dmN, if_neg (by rw [← hg, (b2i_eq0 _).mp c_90]; decide), upd_same (fun i => nI (uS (tS U (dmN U s k)) i))]; exact z) (hF.trans (MF.arr (by omega))))))
        · refine gw_push d_R_dropMarks_93 ?_
          refine gw_goto d_R_dropMarks_94 ?_
          refine gw_iast d_R_dropMarks_108 g5 (40 * s + k) rfl (by omega) (by omega) ?_
          first | (have z := hM1.putS (f := va_up (dmN U s k) (40 * s + k) 0) (va_up_le (dmN_le b3 k) (by omega)); rw [← upd_nI] at z; exact gw_ii2 d_R_dropMarks_109 (by rw [n_s]; exact gw_goto d_R_dropMarks_112 (ih (k + 1) _ _ _ _ (by omega) (by omega) (by rw [dmN, if_pos (hg.symm.trans ((b2i_ne0 _).mp c_90))]; exact z) (hF.trans (MF.arr (by omega)))))) | (have z := hM1.putS (f := dmN U s k) (dmN_le b3 k); exact gw_ii2 d_R_dropMarks_109 (by rw [n_s]; exact gw_goto d_R_dropMarks_112 (ih (k + 1) _ _ _ _ (by omega) (by omega) (by rw [dmN, if_neg (by rw [← hg, (b2i_eq0 _).mp c_90]; decide), upd_same (fun i => nI (uS (tS U (dmN U s k)) i))]; exact z) (hF.trans (MF.arr (by omega))))))
      have p45 : k < 40 → 0 < uS U (40 * s + k) → uL U v < 0 → ∀ n2 o w5, w5 = some (.int (nI o)) → o ≤ 4 → 4 - o < n2 → GM G l 3 0 0 (qV (fun h' sz' => MV h' m A th vs lf (tS U (dmN U s 40)) ∧ MF h h' m A ∧ sz' = sz)) M_R_dropMarks 45 [some (.ref m), some (.int (nI s)), some (.int (nI k)), some (.int (nI v)), some (.int (b2i (mAh U s v (k / 4) o))), w5] [] h1 sz 0 0 := by
        intro hlt hpos hL n2
        have fin : ∀ g, mAh U s v (k / 4) 4 = g → g = mGn U s k := by
          intro g z
          rw [mGn, ← hv, decide_eq_true hpos, decide_eq_true hL, z]; rfl
        have mon : ∀ o, mAh U s v (k / 4) o = false → ∀ i, mAh U s v (k / 4) (o + i) = false := by
          intro o z i
          induction i with
          | zero => exact z
          | succ i ihi => show (mAh U s v (k / 4) (o + i) && _) = false; rw [ihi]; rfl
        induction n2 with
        | zero => intro o _ _ _ hj; exact absurd hj (Nat.not_lt_zero _)
        | succ n2 ih2 =>
          intro o w5 hw5 ho hm2
          subst hw5
          refine gw_il5 d_R_dropMarks_45 ?_
          refine gw_push d_R_dropMarks_47 ?_
          refine gw_icge d_R_dropMarks_48 (fun c_48 => ?_) (fun c_48 => ?_)
          · first | (have q4 := n_le (a := 4) c_48 (by decide) (by omega); obtain rfl : o = 4 := (by omega); exact p78 hlt _ _ _ (fin _ rfl)) | (have y := mon o ((b2i_eq0 _).mp c_53) (4 - o); rw [show o + (4 - o) = 4 by omega] at y; exact p78 hlt _ _ _ (by rw [(b2i_eq0 _).mp c_53]; exact fin _ y))
          · refine gw_il4 d_R_dropMarks_51 ?_
            refine gw_ifeq d_R_dropMarks_53 (fun c_53 => ?_) (fun c_53 => ?_)
            · first | (have q4 := n_le (a := 4) c_48 (by decide) (by omega); obtain rfl : o = 4 := (by omega); exact p78 hlt _ _ _ (fin _ rfl)) | (have y := mon o ((b2i_eq0 _).mp c_53) (4 - o); rw [show o + (4 - o) = 4 by omega] at y; exact p78 hlt _ _ _ (by rw [(b2i_eq0 _).mp c_53]; exact fin _ y))
            · refine gw_al0 d_R_dropMarks_56 ?_
              refine gw_il3 d_R_dropMarks_57 ?_
              refine gw_il1 d_R_dropMarks_58 ?_
              refine gw_il5 d_R_dropMarks_59 ?_
              refine gw_il2 d_R_dropMarks_61 ?_
              refine gw_push d_R_dropMarks_62 ?_
              have hlt4 := n_nle (a := 4) c_48 (by decide) (by omega); refine gw_idiv d_R_dropMarks_63 (by decide) ?_; rw [n_div4 hlt]
              refine gw_rS3 d_R_dropMarks_64 cs_R_dropMarks_64 c_R_at ?_
              refine gw_rV2 d_R_dropMarks_67 cs_R_dropMarks_67 g0 (c_R_isCovered hM1 (by omega) (by omega)) ?_
              refine gw_is4 d_R_dropMarks_70 ?_
              exact gw_ii5 d_R_dropMarks_72 (by rw [n_s]; exact gw_goto d_R_dropMarks_75 (by have z := ih2 (o + 1) _ rfl (by omega) (by omega); rw [show mAh U s v (k / 4) (o + 1) = cov4 (mKn U (160 * s + 40 * o + 4 * (k / 4))) (mVc U v) from by rw [mAh, (b2i_ne0 _).mp c_53]; rfl] at z; exact z))
      have p45f : k < 40 → ∀ w3, mGn U s k = false → GM G l 3 0 0 (qV (fun h' sz' => MV h' m A th vs lf (tS U (dmN U s 40)) ∧ MF h h' m A ∧ sz' = sz)) M_R_dropMarks 45 [some (.ref m), some (.int (nI s)), some (.int (nI k)), w3, some (.int 0), some (.int 0)] [] h1 sz 0 0 := by
        intro hlt w3 hno
        refine gw_il5 d_R_dropMarks_45 ?_
        refine gw_push d_R_dropMarks_47 ?_
        refine gw_icge d_R_dropMarks_48 (fun c_48 => absurd c_48 (by decide)) (fun c_48 => ?_)
        refine gw_il4 d_R_dropMarks_51 ?_
        refine gw_ifeq d_R_dropMarks_53 (fun c_53 => ?_) (fun c_53 => absurd rfl c_53)
        exact p78 hlt false _ _ hno.symm
      refine gw_il2 d_R_dropMarks_2 ?_
      refine gw_push d_R_dropMarks_3 ?_
      refine gw_icge d_R_dropMarks_5 (fun c_5 => ?_) (fun c_5 => ?_)
      · have q4 := n_le (a := 40) c_5 (by decide) (by omega); obtain rfl : k = 40 := (by omega); exact gw_vret d_R_dropMarks_115 rfl (Nat.le_refl _) (Nat.le_refl _) ⟨rfl, hM1, hF, rfl⟩
      · refine gw_al0 d_R_dropMarks_8 ?_
        refine gw_get d_R_dropMarks_9 (by assumption) (by rfl) ?_
        refine gw_push d_R_dropMarks_12 ?_
        refine gw_il1 d_R_dropMarks_14 ?_
        refine gw_imul d_R_dropMarks_15 ?_; first | rw [m_4] | rw [m_40] | rw [m_160] | rw [m_20] | skip
        refine gw_il2 d_R_dropMarks_16 ?_
        refine gw_iadd d_R_dropMarks_17 ?_; first | rw [nI_add] | rw [p_4] | rw [p_40] | skip
        have hlt := n_nle (a := 40) c_5 (by decide) (by omega); refine gw_iald d_R_dropMarks_18 g5 (40 * s + k) rfl (by omega) (by omega) ?_; rw [ea]
        refine gw_push d_R_dropMarks_19 ?_
        refine gw_isub d_R_dropMarks_20 ?_
        refine gw_is3 d_R_dropMarks_21 ?_
        refine gw_il3 d_R_dropMarks_22 ?_
        refine gw_iflt d_R_dropMarks_23 (fun c_23 => ?_) (fun c_23 => ?_)
        · refine gw_push d_R_dropMarks_39 ?_
          refine gw_is4 d_R_dropMarks_40 ?_
          refine gw_push d_R_dropMarks_42 ?_
          refine gw_is5 d_R_dropMarks_43 ?_
          first | exact p45 hlt hpos (Int32.not_le.mp c_32) 5 0 _ rfl (by omega) (by omega) | exact p45f hlt _ (by rw [mGn, ← hv, decide_eq_false (Int32.not_lt.mpr c_32)]; simp) | exact p45f hlt _ (by rw [mGn, decide_eq_false (by have := n_dn c_23 b; omega)]; rfl)
        · have hpos := n_up c_23; rw [n_m1 hpos, ← hv]; refine gw_al0 d_R_dropMarks_26 ?_
          refine gw_get d_R_dropMarks_27 (by assumption) (by rfl) ?_
          refine gw_il3 d_R_dropMarks_30 ?_
          refine gw_iald d_R_dropMarks_31 g2 v rfl (by omega) (by omega) ?_; rw [show uL (tS U (dmN U s k)) = uL U from rfl]
          refine gw_ifge d_R_dropMarks_32 (fun c_32 => ?_) (fun c_32 => ?_)
          · refine gw_push d_R_dropMarks_39 ?_
            refine gw_is4 d_R_dropMarks_40 ?_
            refine gw_push d_R_dropMarks_42 ?_
            refine gw_is5 d_R_dropMarks_43 ?_
            first | exact p45 hlt hpos (Int32.not_le.mp c_32) 5 0 _ rfl (by omega) (by omega) | exact p45f hlt _ (by rw [mGn, ← hv, decide_eq_false (Int32.not_lt.mpr c_32)]; simp) | exact p45f hlt _ (by rw [mGn, decide_eq_false (by have := n_dn c_23 b; omega)]; rfl)
          · refine gw_push d_R_dropMarks_35 ?_
            refine gw_goto d_R_dropMarks_36 ?_
            refine gw_is4 d_R_dropMarks_40 ?_
            refine gw_push d_R_dropMarks_42 ?_
            refine gw_is5 d_R_dropMarks_43 ?_
            first | exact p45 hlt hpos (Int32.not_le.mp c_32) 5 0 _ rfl (by omega) (by omega) | exact p45f hlt _ (by rw [mGn, ← hv, decide_eq_false (Int32.not_lt.mpr c_32)]; simp) | exact p45f hlt _ (by rw [mGn, decide_eq_false (by have := n_dn c_23 b; omega)]; rfl)
  refine gw_push d_R_dropMarks_0 ?_
  refine gw_is2 d_R_dropMarks_1 ?_
  exact loop 41 0 h _ _ _ (by omega) (by omega) hM MF.refl
end RefF
