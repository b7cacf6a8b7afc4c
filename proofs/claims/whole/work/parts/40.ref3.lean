/-! ===== the reference: what reads (3) ===== -/
def mNx (U : gU) (s : Nat) (ds : Int32) (la : Option Nat) : Nat → Option Nat
  | 0 => none
  | k + 1 => if 0 < uS U (40 * s + k) ∧ mLkN U s (uS U (40 * s + k) - 1) ds 4 = true ∧ (∀ w, la = some w → mSn U w (uS U (40 * s + k) - 1) = true) ∧ (∀ f, mNx U s ds la k = some f → mSn U (uS U (40 * s + k) - 1) f = true) then some (uS U (40 * s + k) - 1) else mNx U s ds la k
section RefD
variable {G : gG} {l : Launch} {h : gHp} {sz m : Nat} {A : Nat → Nat} {th : Int32} {vs : Nat} {lf : Int32} {U : gU}
theorem mNx_lt (hB : MBd U) {s : Nat} {ds : Int32} {la : Option Nat} : ∀ k f, mNx U s ds la k = some f → f < 4100 := by
  intro k
  induction k with
  | zero => intro f q; cases q
  | succ k ih =>
    intro f q
    rw [mNx] at q
    split at q
    · cases q
      have := hB.2.2.1 (40 * s + k)
      omega
    · exact ih f q
theorem c_R_isLacked (hM : MV h m A th vs lf U) {s v : Nat} (hs : s < 4) (hv : v < 4100) {ds : Int32} : SM G l 3 y_R_isLacked M_R_isLacked [.ref m, .int (nI s), .int (nI v), .int ds] h sz 0 0 (qR (.int (b2i (mLkN U s v ds 4))) h sz) := by
  have hM0 := hM
  obtain ⟨h0, a0, a1, a2, a3, a4, a5, a6, a7, a8, hd, b1, b2, b3, -⟩ := hM
  have bd := b1 v
  refine SM.of (lv0 := [some (.ref m), some (.int (nI s)), some (.int (nI v)), some (.int ds), none, none, none]) (by decide +kernel) rfl ⟨rfl, rfl⟩ rfl (by simp [Value.category]) (Nat.le_of_ble_eq_true rfl) ?_
  have loop : ∀ n j q, j ≤ 4 → 4 - j < n → GM G l 3 0 0 (qR (.int (b2i (mLkN U s v ds 4))) h sz) M_R_isLacked 6 [some (.ref m), some (.int (nI s)), some (.int (nI v)), some (.int ds), some (.int (b2i (mLkN U s v ds j))), some (.int (nI j)), q] [] h sz 0 0 := by
    intro n
    induction n with
    | zero => intro j _ _ hj; exact absurd hj (Nat.not_lt_zero _)
    | succ n ih =>
      intro j q hj hm
      have nx : j < 4 → ∀ b q', mLkN U s v ds (j + 1) = b → GM G l 3 0 0 (qR (.int (b2i (mLkN U s v ds 4))) h sz) M_R_isLacked 72 [some (.ref m), some (.int (nI s)), some (.int (nI v)), some (.int ds), some (.int (b2i b)), some (.int (nI j)), q'] [] h sz 0 0 := by
        intro hlt b q' hb
        have z := ih (j + 1) q' (by omega) (by omega)
        rw [hb] at z
        exact gw_ii5 d_R_isLacked_72 (by rw [n_s]; exact gw_goto d_R_isLacked_75 z)
      have p35 : j < 4 → ∀ g : Bool, g = (decide (j ≠ s) && decide ((ds >>> (nI j &&& 31)) &&& 1 = 1)) → GM G l 3 0 0 (qR (.int (b2i (mLkN U s v ds 4))) h sz) M_R_isLacked 35 [some (.ref m), some (.int (nI s)), some (.int (nI v)), some (.int ds), some (.int (b2i (mLkN U s v ds j))), some (.int (nI j)), some (.int (b2i g))] [] h sz 0 0 := by
        intro hlt g hg
        have hk : mLkN U s v ds (j + 1) = (mLkN U s v ds j || (g && !cov4 (mKn U (160 * s + 40 * j + 4 * uD U v)) (mVc U v))) := by
          rw [mLkN, mLk, hg, Bool.and_assoc]
        refine gw_il4 d_R_isLacked_35 ?_
        refine gw_ifne d_R_isLacked_37 (fun c_37 => ?_) (fun c_37 => ?_)
        · refine gw_push d_R_isLacked_65 ?_
          refine gw_goto d_R_isLacked_66 ?_
          refine gw_is4 d_R_isLacked_70 ?_
          first | exact nx hlt true _ (by rw [hk, (b2i_eq0 _).mp c_62, (b2i_ne0 _).mp c_42]; simp) | exact nx hlt false _ (by rw [hk, (b2i_ne0 _).mp c_62, (b2i_eq0 _).mp c_37]; simp) | exact nx hlt false _ (by rw [hk, (b2i_eq0 _).mp c_42, (b2i_eq0 _).mp c_37]; simp) | exact nx hlt true _ (by rw [hk, (b2i_ne0 _).mp c_37]; simp)
        · refine gw_il6 d_R_isLacked_40 ?_
          refine gw_ifeq d_R_isLacked_42 (fun c_42 => ?_) (fun c_42 => ?_)
          · refine gw_push d_R_isLacked_69 ?_
            refine gw_is4 d_R_isLacked_70 ?_
            first | exact nx hlt true _ (by rw [hk, (b2i_eq0 _).mp c_62, (b2i_ne0 _).mp c_42]; simp) | exact nx hlt false _ (by rw [hk, (b2i_ne0 _).mp c_62, (b2i_eq0 _).mp c_37]; simp) | exact nx hlt false _ (by rw [hk, (b2i_eq0 _).mp c_42, (b2i_eq0 _).mp c_37]; simp) | exact nx hlt true _ (by rw [hk, (b2i_ne0 _).mp c_37]; simp)
          · refine gw_al0 d_R_isLacked_45 ?_
            refine gw_il2 d_R_isLacked_46 ?_
            refine gw_il1 d_R_isLacked_47 ?_
            refine gw_il5 d_R_isLacked_48 ?_
            refine gw_al0 d_R_isLacked_50 ?_
            refine gw_get d_R_isLacked_51 (by assumption) (by rfl) ?_
            refine gw_il2 d_R_isLacked_54 ?_
            refine gw_iald d_R_isLacked_55 a0 v rfl hv (by omega) ?_
            refine gw_rS3 d_R_isLacked_56 cs_R_isLacked_56 c_R_at ?_
            refine gw_rV2 d_R_isLacked_59 cs_R_isLacked_59 h0 (c_R_isCovered hM0 hv (by omega)) ?_
            refine gw_ifne d_R_isLacked_62 (fun c_62 => ?_) (fun c_62 => ?_)
            · refine gw_push d_R_isLacked_69 ?_
              refine gw_is4 d_R_isLacked_70 ?_
              first | exact nx hlt true _ (by rw [hk, (b2i_eq0 _).mp c_62, (b2i_ne0 _).mp c_42]; simp) | exact nx hlt false _ (by rw [hk, (b2i_ne0 _).mp c_62, (b2i_eq0 _).mp c_37]; simp) | exact nx hlt false _ (by rw [hk, (b2i_eq0 _).mp c_42, (b2i_eq0 _).mp c_37]; simp) | exact nx hlt true _ (by rw [hk, (b2i_ne0 _).mp c_37]; simp)
            · refine gw_push d_R_isLacked_65 ?_
              refine gw_goto d_R_isLacked_66 ?_
              refine gw_is4 d_R_isLacked_70 ?_
              first | exact nx hlt true _ (by rw [hk, (b2i_eq0 _).mp c_62, (b2i_ne0 _).mp c_42]; simp) | exact nx hlt false _ (by rw [hk, (b2i_ne0 _).mp c_62, (b2i_eq0 _).mp c_37]; simp) | exact nx hlt false _ (by rw [hk, (b2i_eq0 _).mp c_42, (b2i_eq0 _).mp c_37]; simp) | exact nx hlt true _ (by rw [hk, (b2i_ne0 _).mp c_37]; simp)
      refine gw_il5 d_R_isLacked_6 ?_
      refine gw_push d_R_isLacked_8 ?_
      refine gw_icge d_R_isLacked_9 (fun c_9 => ?_) (fun c_9 => ?_)
      · refine gw_il4 d_R_isLacked_78 ?_
        have q4 := n_le (a := 4) c_9 (by decide) (by omega); obtain rfl : j = 4 := (by omega); exact gw_zret d_R_isLacked_80 rfl (b2i_01 _) (Nat.le_refl _) (Nat.le_refl _) ⟨rfl, rfl, rfl⟩
      · refine gw_il5 d_R_isLacked_12 ?_
        refine gw_il1 d_R_isLacked_14 ?_
        have hlt := n_nle (a := 4) c_9 (by decide) (by omega); refine gw_iceq d_R_isLacked_15 (fun c_15 => ?_) (fun c_15 => ?_)
        · refine gw_push d_R_isLacked_32 ?_
          refine gw_is6 d_R_isLacked_33 ?_
          first | exact p35 hlt true (by rw [decide_eq_true (show j ≠ s from fun z => c_15 (by rw [z])), decide_eq_true c_25]; rfl) | exact p35 hlt false (by rw [decide_eq_false (show ¬ j ≠ s from fun z => z (n_eq c_15 (by omega) (by omega)))]; rfl) | exact p35 hlt false (by rw [decide_eq_false c_25, Bool.and_false])
        · refine gw_il3 d_R_isLacked_18 ?_
          refine gw_il5 d_R_isLacked_19 ?_
          refine gw_ishr d_R_isLacked_21 ?_
          refine gw_push d_R_isLacked_22 ?_
          refine gw_iand d_R_isLacked_23 ?_
          refine gw_push d_R_isLacked_24 ?_
          refine gw_icne d_R_isLacked_25 (fun c_25 => ?_) (fun c_25 => ?_)
          · refine gw_push d_R_isLacked_32 ?_
            refine gw_is6 d_R_isLacked_33 ?_
            first | exact p35 hlt true (by rw [decide_eq_true (show j ≠ s from fun z => c_15 (by rw [z])), decide_eq_true c_25]; rfl) | exact p35 hlt false (by rw [decide_eq_false (show ¬ j ≠ s from fun z => z (n_eq c_15 (by omega) (by omega)))]; rfl) | exact p35 hlt false (by rw [decide_eq_false c_25, Bool.and_false])
          · refine gw_push d_R_isLacked_28 ?_
            refine gw_goto d_R_isLacked_29 ?_
            refine gw_is6 d_R_isLacked_33 ?_
            first | exact p35 hlt true (by rw [decide_eq_true (show j ≠ s from fun z => c_15 (by rw [z])), decide_eq_true c_25]; rfl) | exact p35 hlt false (by rw [decide_eq_false (show ¬ j ≠ s from fun z => z (n_eq c_15 (by omega) (by omega)))]; rfl) | exact p35 hlt false (by rw [decide_eq_false c_25, Bool.and_false])
  refine gw_push d_R_isLacked_0 ?_
  refine gw_is4 d_R_isLacked_1 ?_
  refine gw_push d_R_isLacked_3 ?_
  refine gw_is5 d_R_isLacked_4 ?_
  exact loop 5 0 _ (by omega) (by omega)
theorem c_R_count (hM : MV h m A th vs lf U) {s d : Nat} (hs : s < 4) (hd : d < 10) {mk : Bool} : SM G l 2 y_R_count M_R_count [.ref m, .int (nI s), .int (nI d), .int (b2i mk)] h sz 0 0 (qR (.int (nI (mCt U s d mk 4))) h sz) := by
  have hM0 := hM
  obtain ⟨h0, a0, a1, a2, a3, a4, a5, a6, a7, a8, hd', b1, b2, b3, -⟩ := hM
  refine SM.of (lv0 := [some (.ref m), some (.int (nI s)), some (.int (nI d)), some (.int (b2i mk)), none, none, none]) (by decide +kernel) rfl ⟨rfl, rfl⟩ rfl (by simp [Value.category]) (Nat.le_of_ble_eq_true rfl) ?_
  have loop : ∀ n j q, j ≤ 4 → 4 - j < n → GM G l 2 0 0 (qR (.int (nI (mCt U s d mk 4))) h sz) M_R_count 6 [some (.ref m), some (.int (nI s)), some (.int (nI d)), some (.int (b2i mk)), some (.int (nI (mCt U s d mk j))), some (.int (nI j)), q] [] h sz 0 0 := by
    intro n
    induction n with
    | zero => intro j _ _ hj; exact absurd hj (Nat.not_lt_zero _)
    | succ n ih =>
      intro j q hj hm
      have b := b3 (40 * s + 4 * d + j)
      have nx : j < 4 → ∀ x q', mCt U s d mk (j + 1) = x → GM G l 2 0 0 (qR (.int (nI (mCt U s d mk 4))) h sz) M_R_count 57 [some (.ref m), some (.int (nI s)), some (.int (nI d)), some (.int (b2i mk)), some (.int (nI x)), some (.int (nI j)), q'] [] h sz 0 0 := by
        intro hlt x q' hb
        have z := ih (j + 1) q' (by omega) (by omega)
        rw [hb] at z
        exact gw_ii5 d_R_count_57 (by rw [n_s]; exact gw_goto d_R_count_60 z)
      have p42 : j < 4 → 0 < uS U (40 * s + 4 * d + j) → ∀ g : Bool, g = decide (uL U (uS U (40 * s + 4 * d + j) - 1) < 0) → ∀ q', GM G l 2 0 0 (qR (.int (nI (mCt U s d mk 4))) h sz) M_R_count 42 [some (.ref m), some (.int (nI s)), some (.int (nI d)), some (.int (b2i mk)), some (.int (nI (mCt U s d mk j))), some (.int (nI j)), q'] [.int (b2i g)] h sz 0 0 := by
        intro hlt hpos g hg q'
        refine gw_il3 d_R_count_42 ?_
        refine gw_icne d_R_count_43 (fun c_43 => ?_) (fun c_43 => ?_)
        · refine gw_il4 d_R_count_53 ?_
          refine gw_is4 d_R_count_55 ?_
          first | exact nx hlt _ _ (by rw [mCt, if_pos (And.intro hpos (hg.symm.trans (b2i_inj c_43)))]) | exact nx hlt _ _ (by rw [mCt, if_neg (fun z => c_43 (by rw [hg, z.2]))])
        · refine gw_il4 d_R_count_46 ?_
          refine gw_push d_R_count_48 ?_
          refine gw_iadd d_R_count_49 ?_; rw [n_s]
          refine gw_goto d_R_count_50 ?_
          refine gw_is4 d_R_count_55 ?_
          first | exact nx hlt _ _ (by rw [mCt, if_pos (And.intro hpos (hg.symm.trans (b2i_inj c_43)))]) | exact nx hlt _ _ (by rw [mCt, if_neg (fun z => c_43 (by rw [hg, z.2]))])
      refine gw_il5 d_R_count_6 ?_
      refine gw_push d_R_count_8 ?_
      refine gw_icge d_R_count_9 (fun c_9 => ?_) (fun c_9 => ?_)
      · refine gw_il4 d_R_count_63 ?_
        have q4 := n_le (a := 4) c_9 (by decide) (by omega); obtain rfl : j = 4 := (by omega); exact gw_iret d_R_count_65 rfl (Nat.le_refl _) (Nat.le_refl _) ⟨rfl, rfl, rfl⟩
      · refine gw_al0 d_R_count_12 ?_
        refine gw_il1 d_R_count_13 ?_
        refine gw_il2 d_R_count_14 ?_
        refine gw_il5 d_R_count_15 ?_
        have hlt := n_nle (a := 4) c_9 (by decide) (by omega); refine gw_rV3 d_R_count_17 cs_R_count_17 h0 (c_R_standing hM0 hs hd hlt) ?_
        refine gw_is6 d_R_count_20 ?_
        refine gw_il6 d_R_count_22 ?_
        refine gw_iflt d_R_count_24 (fun c_24 => ?_) (fun c_24 => ?_)
        · refine gw_il4 d_R_count_53 ?_; refine gw_is4 d_R_count_55 ?_; exact nx hlt _ _ (by rw [mCt, if_neg (fun z => by have := n_dn c_24 b; omega)])
        · have hpos := n_up c_24; rw [n_m1 hpos]; refine gw_al0 d_R_count_27 ?_
          refine gw_get d_R_count_28 (by assumption) (by rfl) ?_
          refine gw_il6 d_R_count_31 ?_
          refine gw_iald d_R_count_33 a2 (uS U (40 * s + 4 * d + j) - 1) rfl (by omega) (by omega) ?_
          refine gw_ifge d_R_count_34 (fun c_34 => ?_) (fun c_34 => ?_)
          · refine gw_push d_R_count_41 ?_
            first | exact p42 hlt hpos true (by rw [decide_eq_true (Int32.not_le.mp c_34)]) _ | exact p42 hlt hpos false (by rw [decide_eq_false (Int32.not_lt.mpr c_34)]) _
          · refine gw_push d_R_count_37 ?_
            refine gw_goto d_R_count_38 ?_
            first | exact p42 hlt hpos true (by rw [decide_eq_true (Int32.not_le.mp c_34)]) _ | exact p42 hlt hpos false (by rw [decide_eq_false (Int32.not_lt.mpr c_34)]) _
  refine gw_push d_R_count_0 ?_
  refine gw_is4 d_R_count_1 ?_
  refine gw_push d_R_count_3 ?_
  refine gw_is5 d_R_count_4 ?_
  exact loop 5 0 _ (by omega) (by omega)
theorem c_R_roomOf (hM : MV h m A th vs lf U) {c : Nat} (hc : c < 3) : SM G l 2 y_R_roomOf M_R_roomOf [.ref m, .int (nI c)] h sz 0 0 (qR (.int (rmN U c (uM U c))) h sz) := by
  have hM0 := hM
  obtain ⟨h0, a0, a1, a2, a3, a4, a5, a6, a7, a8, hd, b1, b2, b3, b4, b5⟩ := hM
  have b := b5 c
  refine SM.of (lv0 := [some (.ref m), some (.int (nI c)), none, none]) (by decide +kernel) rfl ⟨rfl, rfl⟩ rfl (by simp [Value.category]) (Nat.le_of_ble_eq_true rfl) ?_
  have loop : ∀ n j, j ≤ uM U c → uM U c - j < n → GM G l 2 0 0 (qR (.int (rmN U c (uM U c))) h sz) M_R_roomOf 5 [some (.ref m), some (.int (nI c)), some (.int (rmN U c j)), some (.int (nI j))] [] h sz 0 0 := by
    intro n
    induction n with
    | zero => intro j _ hj; exact absurd hj (Nat.not_lt_zero _)
    | succ n ih =>
      intro j hj hm
      refine gw_il3 d_R_roomOf_5 ?_
      refine gw_al0 d_R_roomOf_6 ?_
      refine gw_get d_R_roomOf_7 (by assumption) (by rfl) ?_
      refine gw_il1 d_R_roomOf_10 ?_
      refine gw_iald d_R_roomOf_11 a7 c rfl hc (by omega) ?_
      refine gw_icge d_R_roomOf_12 (fun c_12 => ?_) (fun c_12 => ?_)
      · refine gw_il2 d_R_roomOf_42 ?_
        have q4 := n_le c_12 (by omega) (by omega); obtain rfl : j = uM U c := (by omega); exact gw_iret d_R_roomOf_43 rfl (Nat.le_refl _) (Nat.le_refl _) ⟨rfl, rfl, rfl⟩
      · refine gw_il2 d_R_roomOf_15 ?_
        refine gw_push d_R_roomOf_16 ?_
        refine gw_isub d_R_roomOf_18 ?_
        refine gw_al0 d_R_roomOf_19 ?_
        refine gw_al0 d_R_roomOf_20 ?_
        refine gw_get d_R_roomOf_21 (by assumption) (by rfl) ?_
        refine gw_push d_R_roomOf_24 ?_
        refine gw_il1 d_R_roomOf_26 ?_
        refine gw_imul d_R_roomOf_27 ?_; first | rw [m_4] | rw [m_40] | rw [m_160] | rw [m_20] | skip
        refine gw_il3 d_R_roomOf_28 ?_
        refine gw_iadd d_R_roomOf_29 ?_; first | rw [nI_add] | rw [p_4] | rw [p_40] | skip
        have hlt := n_nle c_12 (by omega) (by omega); refine gw_iald d_R_roomOf_30 a8 (20 * c + j) rfl (by omega) (by omega) ?_
        refine gw_rV1 d_R_roomOf_31 cs_R_roomOf_31 h0 (c_R_bytesOf hM0 (b4 _)) ?_
        refine gw_isub d_R_roomOf_34 ?_
        refine gw_is2 d_R_roomOf_35 ?_
        exact gw_ii3 d_R_roomOf_36 (by rw [n_s]; exact gw_goto d_R_roomOf_39 (ih (j + 1) (by omega) (by omega)))
  refine gw_push d_R_roomOf_0 ?_
  refine gw_is2 d_R_roomOf_2 ?_
  refine gw_push d_R_roomOf_3 ?_
  refine gw_is3 d_R_roomOf_4 ?_
  exact loop (uM U c + 1) 0 (by omega) (by omega)
end RefD
