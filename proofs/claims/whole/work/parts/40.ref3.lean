/-! ===== the reference: what reads (3) ===== -/
def mNx (U : gU) (s : Nat) (ds : Int32) (la : Option Nat) : Nat → Option Nat
  | 0 => none
  | k + 1 => if 0 < uS U (40 * s + k) ∧ mLkN U s (uS U (40 * s + k) - 1) ds 4 = true ∧ (∀ w, la = some w → mSn U w (uS U (40 * s + k) - 1) = true) ∧ (∀ f, mNx U s ds la k = some f → mSn U (uS U (40 * s + k) - 1) f = true) then some (uS U (40 * s + k) - 1) else mNx U s ds la k
theorem b2i_inj {a b : Bool} (h : b2i a = b2i b) : a = b := by cases a <;> cases b <;> first | rfl | exact absurd h (by decide)
section RefD
variable {G : gG} {l : Launch} {h : gHp} {sz m : Nat} {A : Nat → Nat} {th : Int32} {vs : Nat} {lf : Int32} {U : gU}
theorem mNx_lt (hB : MBd U) {s : Nat} {ds : Int32} {la : Option Nat} : ∀ k f, mNx U s ds la k = some f → f < 4100 := by
  intro k
  induction k with
  | zero => intro f q; cases q
  | succ k ih =>
    intro f q
    rw [mNx] at q
    split at q
    · cases q
      have := hB.2.2.1 (40 * s + k)
      omega
    · exact ih f q
theorem c_R_isLacked (hM : MV h m A th vs lf U) {s v : Nat} (hs : s < 4) (hv : v < 4100) {ds : Int32} : SM G l 3 y_R_isLacked M_R_isLacked [.ref m, .int (nI s), .int (nI v), .int ds] h sz 0 0 (qR (.int (b2i (mLkN U s v ds 4))) h sz) := by
  have hM0 := hM
  obtain ⟨h0, a0, a1, a2, a3, a4, a5, a6, a7, a8, hd, b1, b2, b3, -⟩ := hM
  have bd := b1 v
  refine SM.of (lv0 := [some (.ref m), some (.int (nI s)), some (.int (nI v)), some (.int ds), none, none, none]) (by decide +kernel) rfl ⟨rfl, rfl⟩ rfl (by simp [Value.category]) (Nat.le_of_ble_eq_true rfl) ?_
  have loop : ∀ n j q, j ≤ 4 → 4 - j < n → GM G l 3 0 0 (qR (.int (b2i (mLkN U s v ds 4))) h sz) M_R_isLacked 6 [some (.ref m), some (.int (nI s)), some (.int (nI v)), some (.int ds), some (.int (b2i (mLkN U s v ds j))), some (.int (nI j)), q] [] h sz 0 0 := by
    intro n
    induction n with
    | zero => intro j _ _ hj; exact absurd hj (Nat.not_lt_zero _)
    | succ n ih =>
      intro j q hj hm
      have nx : j < 4 → ∀ b q', mLkN U s v ds (j + 1) = b → GM G l 3 0 0 (qR (.int (b2i (mLkN U s v ds 4))) h sz) M_R_isLacked 72 [some (.ref m), some (.int (nI s)), some (.int (nI v)), some (.int ds), some (.int (b2i b)), some (.int (nI j)), q'] [] h sz 0 0 := by
        intro hlt b q' hb
        have z := ih (j + 1) q' (by omega) (by omega)
        rw [hb] at z
        exact gw_ii5 d_R_isLacked_72 (by rw [n_s]; exact gw_goto d_R_isLacked_75 z)
      have p35 : j < 4 → ∀ g : Bool, g = (decide (j ≠ s) && decide ((ds >>> (nI j &&& 31)) &&& 1 = 1)) → GM G l 3 0 0 (qR (.int (b2i (mLkN U s v ds 4))) h sz) M_R_isLacked 35 [some (.ref m), some (.int (nI s)), some (.int (nI v)), some (.int ds), some (.int (b2i (mLkN U s v ds j))), some (.int (nI j)), some (.int (b2i g))] [] h sz 0 0 := by
        intro hlt g hg
        have hk : mLkN U s v ds (j + 1) = (mLkN U s v ds j || (g && !cov4 (mKn U (160 * s + 40 * j + 4 * uD U v)) (mVc U v))) := by
          rw [mLkN, mLk, hg, Bool.and_assoc]
        refine gw_il4 d_R_isLacked_35 ?_
        refine gw_ifne d_R_isLacked_37 (fun c_37 => ?_) (fun c_37 => ?_)
        · refine gw_push d_R_isLacked_65 ?_
          refine gw_goto d_R_isLacked_66 ?_
          refine gw_is4 d_R_isLacked_70 ?_
          first | exact nx hlt true _ (by rw [hk, (b2i_eq0 _).mp c_62, (b2i_ne0 _).mp c_42]; simp) | exact nx hlt false _ (by rw [hk, (b2i_ne0 _).mp c_62, (b2i_eq0 _).mp c_37]; simp) | exact nx hlt false _ (by rw [hk, (b2i_eq0 _).mp c_42, (b2i_eq0 _).mp c_37]; simp) | exact nx hlt true _ (by rw [hk, (b2i_ne0 _).mp c_37]; simp)
        · refine gw_il6 d_R_isLacked_40 ?_
          refine gw_ifeq d_R_isLacked_42 (fun c_42 => ?_) (fun c_42 => ?_)
          · refine gw_push d_R_isLacked_69 ?_
            refine gw_is4 d_R_isLacked_70 ?_
            first | exact nx hlt true _ (by rw [hk, (b2i_eq0 _).mp c_62, (b2i_ne0 _).mp c_42]; simp) | exact nx hlt false _ (by rw [hk, (b2i_ne0 _).mp c_62, (b2i_eq0 _).mp c_37]; simp) | exact nx hlt false _ (by rw [hk, (b2i_eq0 _).mp c_42, (b2i_eq0 _).mp c_37]; simp) | exact nx hlt true _ (by rw [hk, (b2i_ne0 _).mp c_37]; simp)
          · refine gw_al0 d_R_isLacked_45 ?_
            refine gw_il2 d_R_isLacked_46 ?_
            refine gw_il1 d_R_isLacked_47 ?_
            refine gw_il5 d_R_isLacked_48 ?_
            refine gw_al0 d_R_isLacked_50 ?_
            refine gw_get d_R_isLacked_51 (by assumption) (by rfl) ?_
            refine gw_il2 d_R_isLacked_54 ?_
            refine gw_iald d_R_isLacked_55 a0 v rfl hv (by omega) ?_
            refine gw_rS3 d_R_isLacked_56 cs_R_isLacked_56 c_R_at ?_
            refine gw_rV2 d_R_isLacked_59 cs_R_isLacked_59 h0 (c_R_isCovered hM0 hv (by omega)) ?_
            refine gw_ifne d_R_isLacked_62 (fun c_62 => ?_) (fun c_62 => ?_)
            · refine gw_push d_R_isLacked_69 ?_
              refine gw_is4 d_R_isLacked_70 ?_
              first | exact nx hlt true _ (by rw [hk, (b2i_eq0 _).mp c_62, (b2i_ne0 _).mp c_42]; simp) | exact nx hlt false _ (by rw [hk, (b2i_ne0 _).mp c_62, (b2i_eq0 _).mp c_37]; simp) | exact nx hlt false _ (by rw [hk, (b2i_eq0 _).mp c_42, (b2i_eq0 _).mp c_37]; simp) | exact nx hlt true _ (by rw [hk, (b2i_ne0 _).mp c_37]; simp)
            · refine gw_push d_R_isLacked_65 ?_
              refine gw_goto d_R_isLacked_66 ?_
              refine gw_is4 d_R_isLacked_70 ?_
              first | exact nx hlt true _ (by rw [hk, (b2i_eq0 _).mp c_62, (b2i_ne0 _).mp c_42]; simp) | exact nx hlt false _ (by rw [hk, (b2i_ne0 _).mp c_62, (b2i_eq0 _).mp c_37]; simp) | exact nx hlt false _ (by rw [hk, (b2i_eq0 _).mp c_42, (b2i_eq0 _).mp c_37]; simp) | exact nx hlt true _ (by rw [hk, (b2i_ne0 _).mp c_37]; simp)
      refine gw_il5 d_R_isLacked_6 ?_
      refine gw_push d_R_isLacked_8 ?_
      refine gw_icge d_R_isLacked_9 (fun c_9 => ?_) (fun c_9 => ?_)
      · refine gw_il4 d_R_isLacked_78 ?_
        have q4 := n_le (a := 4) c_9 (by decide) (by omega); obtain rfl : j = 4 := (by omega); exact gw_zret d_R_isLacked_80 rfl (b2i_01 _) (Nat.le_refl _) (Nat.le_refl _) ⟨rfl, rfl, rfl⟩
      · refine gw_il5 d_R_isLacked_12 ?_
        refine gw_il1 d_R_isLacked_14 ?_
        have hlt := n_nle (a := 4) c_9 (by decide) (by omega); refine gw_iceq d_R_isLacked_15 (fun c_15 => ?_) (fun c_15 => ?_)
        · refine gw_push d_R_isLacked_32 ?_
          refine gw_is6 d_R_isLacked_33 ?_
          first | exact p35 hlt true (by rw [decide_eq_true (show j ≠ s from fun z => c_15 (by rw [z])), decide_eq_true c_25]; rfl) | exact p35 hlt false (by rw [decide_eq_false (show ¬ j ≠ s from fun z => z (n_eq c_15 (by omega) (by omega)))]; rfl) | exact p35 hlt false (by rw [decide_eq_false c_25, Bool.and_false])
        · refine gw_il3 d_R_isLacked_18 ?_
          refine gw_il5 d_R_isLacked_19 ?_
          refine gw_ishr d_R_isLacked_21 ?_
          refine gw_push d_R_isLacked_22 ?_
          refine gw_iand d_R_isLacked_23 ?_
          refine gw_push d_R_isLacked_24 ?_
          refine gw_icne d_R_isLacked_25 (fun c_25 => ?_) (fun c_25 => ?_)
          · refine gw_push d_R_isLacked_32 ?_
            refine gw_is6 d_R_isLacked_33 ?_
            first | exact p35 hlt true (by rw [decide_eq_true (show j ≠ s from fun z => c_15 (by rw [z])), decide_eq_true c_25]; rfl) | exact p35 hlt false (by rw [decide_eq_false (show ¬ j ≠ s from fun z => z (n_eq c_15 (by omega) (by omega)))]; rfl) | exact p35 hlt false (by rw [decide_eq_false c_25, Bool.and_false])
          · refine gw_push d_R_isLacked_28 ?_
            refine gw_goto d_R_isLacked_29 ?_
            refine gw_is6 d_R_isLacked_33 ?_
            first | exact p35 hlt true (by rw [decide_eq_true (show j ≠ s from fun z => c_15 (by rw [z])), decide_eq_true c_25]; rfl) | exact p35 hlt false (by rw [decide_eq_false (show ¬ j ≠ s from fun z => z (n_eq c_15 (by omega) (by omega)))]; rfl) | exact p35 hlt false (by rw [decide_eq_false c_25, Bool.and_false])
  refine gw_push d_R_isLacked_0 ?_
  refine gw_is4 d_R_isLacked_1 ?_
  refine gw_push d_R_isLacked_3 ?_
  refine gw_is5 d_R_isLacked_4 ?_
  exact loop 5 0 _ (by omega) (by omega)
theorem c_R_count (hM : MV h m A th vs lf U) {s d : Nat} (hs : s < 4) (hd : d < 10) {mk : Bool} : SM G l 2 y_R_count M_R_count [.ref m, .int (nI s), .int (nI d), .int (b2i mk)] h sz 0 0 (qR (.int (nI (mCt U s d mk 4))) h sz) := by
  have hM0 := hM
  obtain ⟨h0, a0, a1, a2, a3, a4, a5, a6, a7, a8, hd', b1, b2, b3, -⟩ := hM
  refine SM.of (lv0 := [some (.ref m), some (.int (nI s)), some (.int (nI d)), some (.int (b2i mk)), none, none, none]) (by decide +kernel) rfl ⟨rfl, rfl⟩ rfl (by simp [Value.category]) (Nat.le_of_ble_eq_true rfl) ?_
  have loop : ∀ n j q, j ≤ 4 → 4 - j < n → GM G l 2 0 0 (qR (.int (nI (mCt U s d mk 4))) h sz) M_R_count 6 [some (.ref m), some (.int (nI s)), some (.int (nI d)), some (.int (b2i mk)), some (.int (nI (mCt U s d mk j))), some (.int (nI j)), q] [] h sz 0 0 := by
    intro n
    induction n with
    | zero => intro j _ _ hj; exact absurd hj (Nat.not_lt_zero _)
    | succ n ih =>
      intro j q hj hm
      have b := b3 (40 * s + 4 * d + j)
      have nx : j < 4 → ∀ x q', mCt U s d mk (j + 1) = x → GM G l 2 0 0 (qR (.int (nI (mCt U s d mk 4))) h sz) M_R_count 57 [some (.ref m), some (.int (nI s)), some (.int (nI d)), some (.int (b2i mk)), some (.int (nI x)), some (.int (nI j)), q'] [] h sz 0 0 := by
        intro hlt x q' hb
        have z := ih (j + 1) q' (by omega) (by omega)
        rw [hb] at z
        exact gw_ii5 d_R_count_57 (by rw [n_s]; exact gw_goto d_R_count_60 z)
      have p42 : j < 4 → 0 < uS U (40 * s + 4 * d + j) → ∀ g : Bool, g = decide (uL U (uS U (40 * s + 4 * d + j) - 1) < 0) → ∀ q', GM G l 2 0 0 (qR (.int (nI (mCt U s d mk 4))) h sz) M_R_count 42 [some (.ref m), some (.int (nI s)), some (.int (nI d)), some (.int (b2i mk)), some (.int (nI (mCt U s d mk j))), some (.int (nI j)), q'] [.int (b2i g)] h sz 0 0 := by
        intro hlt hpos g hg q'
        refine gw_il3 d_R_count_42 ?_
        refine gw_icne d_R_count_43 (fun c_43 => ?_) (fun c_43 => ?_)
        · refine gw_il4 d_R_count_53 ?_
          refine gw_is4 d_R_count_55 ?_
          first | exact nx hlt _ _ (by rw [mCt, if_pos (And.intro hpos (hg.symm.trans (b2i_inj c_43)))]) | exact nx hlt _ _ (by rw [mCt, if_neg (fun z => c_43 (by rw [hg, z.2]))])
        · refine gw_il4 d_R_count_46 ?_
          refine gw_push d_R_count_48 ?_
          refine gw_iadd d_R_count_49 ?_; rw [n_s]
          refine gw_goto d_R_count_50 ?_
          refine gw_is4 d_R_count_55 ?_
          first | exact nx hlt _ _ (by rw [mCt, if_pos (And.intro hpos (hg.symm.trans (b2i_inj c_43)))]) | exact nx hlt _ _ (by rw [mCt, if_neg (fun z => c_43 (by rw [hg, z.2]))])
      refine gw_il5 d_R_count_6 ?_
      refine gw_push d_R_count_8 ?_
      refine gw_icge d_R_count_9 (fun c_9 => ?_) (fun c_9 => ?_)
      · refine gw_il4 d_R_count_63 ?_
        have q4 := n_le (a := 4) c_9 (by decide) (by omega); obtain rfl : j = 4 := (by omega); exact gw_iret d_R_count_65 rfl (Nat.le_refl _) (Nat.le_refl _) ⟨rfl, rfl, rfl⟩
      · refine gw_al0 d_R_count_12 ?_
        refine gw_il1 d_R_count_13 ?_
        refine gw_il2 d_R_count_14 ?_
        refine gw_il5 d_R_count_15 ?_
        have hlt := n_nle (a := 4) c_9 (by decide) (by omega); refine gw_rV3 d_R_count_17 cs_R_count_17 h0 (c_R_standing hM0 hs hd hlt) ?_
        refine gw_is6 d_R_count_20 ?_
        refine gw_il6 d_R_count_22 ?_
        refine gw_iflt d_R_count_24 (fun c_24 => ?_) (fun c_24 => ?_)
        · refine gw_il4 d_R_count_53 ?_; refine gw_is4 d_R_count_55 ?_; exact nx hlt _ _ (by rw [mCt, if_neg (fun z => by have := n_dn c_24 b; omega)])
        · have hpos := n_up c_24; rw [n_m1 hpos]; refine gw_al0 d_R_count_27 ?_
          refine gw_get d_R_count_28 (by assumption) (by rfl) ?_
          refine gw_il6 d_R_count_31 ?_
          refine gw_iald d_R_count_33 a2 (uS U (40 * s + 4 * d + j) - 1) rfl (by omega) (by omega) ?_
          refine gw_ifge d_R_count_34 (fun c_34 => ?_) (fun c_34 => ?_)
          · refine gw_push d_R_count_41 ?_
            first | exact p42 hlt hpos true (by rw [decide_eq_true (Int32.not_le.mp c_34)]) _ | exact p42 hlt hpos false (by rw [decide_eq_false (Int32.not_lt.mpr c_34)]) _
          · refine gw_push d_R_count_37 ?_
            refine gw_goto d_R_count_38 ?_
            first | exact p42 hlt hpos true (by rw [decide_eq_true (Int32.not_le.mp c_34)]) _ | exact p42 hlt hpos false (by rw [decide_eq_false (Int32.not_lt.mpr c_34)]) _
  refine gw_push d_R_count_0 ?_
  refine gw_is4 d_R_count_1 ?_
  refine gw_push d_R_count_3 ?_
  refine gw_is5 d_R_count_4 ?_
  exact loop 5 0 _ (by omega) (by omega)
theorem c_R_roomOf (hM : MV h m A th vs lf U) {c : Nat} (hc : c < 3) : SM G l 2 y_R_roomOf M_R_roomOf [.ref m, .int (nI c)] h sz 0 0 (qR (.int (rmN U c (uM U c))) h sz) := by
  have hM0 := hM
  obtain ⟨h0, a0, a1, a2, a3, a4, a5, a6, a7, a8, hd, b1, b2, b3, b4, b5⟩ := hM
  have b := b5 c
  refine SM.of (lv0 := [some (.ref m), some (.int (nI c)), none, none]) (by decide +kernel) rfl ⟨rfl, rfl⟩ rfl (by simp [Value.category]) (Nat.le_of_ble_eq_true rfl) ?_
  have loop : ∀ n j, j ≤ uM U c → uM U c - j < n → GM G l 2 0 0 (qR (.int (rmN U c (uM U c))) h sz) M_R_roomOf 5 [some (.ref m), some (.int (nI c)), some (.int (rmN U c j)), some (.int (nI j))] [] h sz 0 0 := by
    intro n
    induction n with
    | zero => intro j _ hj; exact absurd hj (Nat.not_lt_zero _)
    | succ n ih =>
      intro j hj hm
      refine gw_il3 d_R_roomOf_5 ?_
      refine gw_al0 d_R_roomOf_6 ?_
      refine gw_get d_R_roomOf_7 (by assumption) (by rfl) ?_
      refine gw_il1 d_R_roomOf_10 ?_
      refine gw_iald d_R_roomOf_11 a7 c rfl hc (by omega) ?_
      refine gw_icge d_R_roomOf_12 (fun c_12 => ?_) (fun c_12 => ?_)
      · refine gw_il2 d_R_roomOf_42 ?_
        have q4 := n_le c_12 (by omega) (by omega); obtain rfl : j = uM U c := (by omega); exact gw_iret d_R_roomOf_43 rfl (Nat.le_refl _) (Nat.le_refl _) ⟨rfl, rfl, rfl⟩
      · refine gw_il2 d_R_roomOf_15 ?_
        refine gw_push d_R_roomOf_16 ?_
        refine gw_isub d_R_roomOf_18 ?_
        refine gw_al0 d_R_roomOf_19 ?_
        refine gw_al0 d_R_roomOf_20 ?_
        refine gw_get d_R_roomOf_21 (by assumption) (by rfl) ?_
        refine gw_push d_R_roomOf_24 ?_
        refine gw_il1 d_R_roomOf_26 ?_
        refine gw_imul d_R_roomOf_27 ?_; first | rw [m_4] | rw [m_40] | rw [m_160] | rw [m_20] | skip
        refine gw_il3 d_R_roomOf_28 ?_
        refine gw_iadd d_R_roomOf_29 ?_; first | rw [nI_add] | rw [p_4] | rw [p_40] | skip
        have hlt := n_nle c_12 (by omega) (by omega); refine gw_iald d_R_roomOf_30 a8 (20 * c + j) rfl (by omega) (by omega) ?_
        refine gw_rV1 d_R_roomOf_31 cs_R_roomOf_31 h0 (c_R_bytesOf hM0 (b4 _)) ?_
        refine gw_isub d_R_roomOf_34 ?_
        refine gw_is2 d_R_roomOf_35 ?_
        exact gw_ii3 d_R_roomOf_36 (by rw [n_s]; exact gw_goto d_R_roomOf_39 (ih (j + 1) (by omega) (by omega)))
  refine gw_push d_R_roomOf_0 ?_
  refine gw_is2 d_R_roomOf_2 ?_
  refine gw_push d_R_roomOf_3 ?_
  refine gw_is3 d_R_roomOf_4 ?_
  exact loop (uM U c + 1) 0 (by omega) (by omega)
theorem sbB_le {s d S : Nat} : ∀ o, sbB U s d S o ≤ o
  | 0 => Nat.le_refl _
  | o + 1 => by
    have := sbB_le (s := s) (d := d) (S := S) o
    rw [sbB]; split <;> omega
theorem c_R_sibling (hM : MV h m A th vs lf U) {s d : Nat} (hs : s < 4) (hd : d < 10) {k : Int32} : SM G l 3 y_R_sibling M_R_sibling [.ref m, .int (nI s), .int (nI d), .int k] h sz 0 0 (qR (.int (oI (sbF U s d k 4 0))) h sz) := by
  have hM0 := hM
  obtain ⟨h0, a0, a1, a2, a3, a4, a5, a6, a7, a8, hd', b1, b2, b3, -⟩ := hM
  refine SM.of (lv0 := [some (.ref m), some (.int (nI s)), some (.int (nI d)), some (.int k), none, none, none, none, none]) (by decide +kernel) rfl ⟨rfl, rfl⟩ rfl (by simp [Value.category]) (Nat.le_of_ble_eq_true rfl) ?_
  have loop : ∀ n j q5 q6 q7 q8, j + n = 4 → sbF U s d k 4 0 = sbF U s d k n j → GM G l 3 0 0 (qR (.int (oI (sbF U s d k 4 0))) h sz) M_R_sibling 3 [some (.ref m), some (.int (nI s)), some (.int (nI d)), some (.int k), some (.int (nI j)), q5, q6, q7, q8] [] h sz 0 0 := by
    intro n
    induction n with
    | zero =>
      intro j q5 q6 q7 q8 hj hI
      obtain rfl : j = 4 := by omega
      refine gw_il4 d_R_sibling_3 ?_
      refine gw_push d_R_sibling_5 ?_
      refine gw_icge d_R_sibling_6 (fun c_6 => ?_) (fun c_6 => absurd (by decide) c_6)
      refine gw_push d_R_sibling_119 ?_
      exact gw_iret d_R_sibling_120 rfl (Nat.le_refl _) (Nat.le_refl _) ⟨by rw [hI]; rfl, rfl, rfl⟩
    | succ n ih =>
      intro j q5 q6 q7 q8 hj hI
      have b := b3 (40 * s + 4 * d + j)
      rw [show sbF U s d k (n + 1) j = if 0 < uS U (40 * s + 4 * d + j) ∧ ¬ uL U (uS U (40 * s + 4 * d + j) - 1) < 0 ∧ nI (sbB U s d (uS U (40 * s + 4 * d + j)) 4) = k then some (uS U (40 * s + 4 * d + j) - 1) else sbF U s d k n (j + 1) from rfl] at hI
      have p113 : ∀ w5 w6 w7 w8, ¬ (0 < uS U (40 * s + 4 * d + j) ∧ ¬ uL U (uS U (40 * s + 4 * d + j) - 1) < 0 ∧ nI (sbB U s d (uS U (40 * s + 4 * d + j)) 4) = k) → GM G l 3 0 0 (qR (.int (oI (sbF U s d k 4 0))) h sz) M_R_sibling 113 [some (.ref m), some (.int (nI s)), some (.int (nI d)), some (.int k), some (.int (nI j)), w5, w6, w7, w8] [] h sz 0 0 := by
        intro w5 w6 w7 w8 hno
        rw [if_neg hno] at hI
        exact gw_ii4 d_R_sibling_113 (by rw [n_s]; exact gw_goto d_R_sibling_116 (ih (j + 1) w5 w6 w7 w8 (by omega) hI))
      have p89 : ∀ w7 w8, GM G l 3 0 0 (qR (.int (oI (sbF U s d k 4 0))) h sz) M_R_sibling 89 [some (.ref m), some (.int (nI s)), some (.int (nI d)), some (.int k), some (.int (nI j)), some (.int (nI (uS U (40 * s + 4 * d + j)) - 1)), some (.int (nI (sbB U s d (uS U (40 * s + 4 * d + j)) 4))), w7, w8] [] h sz 0 0 := by
        intro w7 w8
        refine gw_il5 d_R_sibling_89 ?_
        refine gw_iflt d_R_sibling_91 (fun c_91 => ?_) (fun c_91 => ?_)
        · first | exact p113 _ _ _ _ (fun z => c_107 z.2.2) | exact p113 _ _ _ _ (fun z => z.2.1 c_101) | exact p113 _ _ _ _ (fun z => by have := n_dn c_91 b; omega)
        · have hpos := n_up c_91; rw [n_m1 hpos]; refine gw_al0 d_R_sibling_94 ?_
          refine gw_get d_R_sibling_95 (by assumption) (by rfl) ?_
          refine gw_il5 d_R_sibling_98 ?_
          refine gw_iald d_R_sibling_100 a2 (uS U (40 * s + 4 * d + j) - 1) rfl (by omega) (by omega) ?_
          refine gw_iflt d_R_sibling_101 (fun c_101 => ?_) (fun c_101 => ?_)
          · first | exact p113 _ _ _ _ (fun z => c_107 z.2.2) | exact p113 _ _ _ _ (fun z => z.2.1 c_101) | exact p113 _ _ _ _ (fun z => by have := n_dn c_91 b; omega)
          · refine gw_il6 d_R_sibling_104 ?_
            refine gw_il3 d_R_sibling_106 ?_
            refine gw_icne d_R_sibling_107 (fun c_107 => ?_) (fun c_107 => ?_)
            · first | exact p113 _ _ _ _ (fun z => c_107 z.2.2) | exact p113 _ _ _ _ (fun z => z.2.1 c_101) | exact p113 _ _ _ _ (fun z => by have := n_dn c_91 b; omega)
            · refine gw_il5 d_R_sibling_110 ?_
              exact gw_iret d_R_sibling_112 rfl (Nat.le_refl _) (Nat.le_refl _) ⟨by rw [hI, if_pos (And.intro hpos (And.intro c_101 c_107))]; rfl, rfl, rfl⟩
      have inner : ∀ n2 o w8, o ≤ 4 → 4 - o < n2 → GM G l 3 0 0 (qR (.int (oI (sbF U s d k 4 0))) h sz) M_R_sibling 25 [some (.ref m), some (.int (nI s)), some (.int (nI d)), some (.int k), some (.int (nI j)), some (.int (nI (uS U (40 * s + 4 * d + j)) - 1)), some (.int (nI (sbB U s d (uS U (40 * s + 4 * d + j)) o))), some (.int (nI o)), w8] [] h sz 0 0 := by
        intro n2
        induction n2 with
        | zero => intro o _ _ ho; exact absurd ho (Nat.not_lt_zero _)
        | succ n2 ih2 =>
          intro o w8 ho hm
          have bo := b3 (40 * s + 4 * d + o)
          have nx : o < 4 → ∀ x v5 v8, v5 = nI (uS U (40 * s + 4 * d + j)) - 1 → sbB U s d (uS U (40 * s + 4 * d + j)) (o + 1) = x → GM G l 3 0 0 (qR (.int (oI (sbF U s d k 4 0))) h sz) M_R_sibling 83 [some (.ref m), some (.int (nI s)), some (.int (nI d)), some (.int k), some (.int (nI j)), some (.int v5), some (.int (nI x)), some (.int (nI o)), v8] [] h sz 0 0 := by
            intro hlt x v5 v8 h5 hb
            have z := ih2 (o + 1) v8 (by omega) (by omega)
            rw [hb] at z
            subst h5
            exact gw_ii7 d_R_sibling_83 (by rw [n_s]; exact gw_goto d_R_sibling_86 z)
          refine gw_il7 d_R_sibling_25 ?_
          refine gw_push d_R_sibling_27 ?_
          refine gw_icge d_R_sibling_28 (fun c_28 => ?_) (fun c_28 => ?_)
          · have q4 := n_le (a := 4) c_28 (by decide) (by omega); obtain rfl : o = 4 := (by omega); exact p89 _ _
          · refine gw_al0 d_R_sibling_31 ?_
            refine gw_il1 d_R_sibling_32 ?_
            refine gw_il2 d_R_sibling_33 ?_
            refine gw_il7 d_R_sibling_34 ?_
            have hlt := n_nle (a := 4) c_28 (by decide) (by omega); refine gw_rV3 d_R_sibling_36 cs_R_sibling_36 h0 (c_R_standing hM0 hs hd hlt) ?_
            refine gw_is8 d_R_sibling_39 ?_
            refine gw_il5 d_R_sibling_41 ?_
            refine gw_iflt d_R_sibling_43 (fun c_43 => ?_) (fun c_43 => ?_)
            · refine gw_il6 d_R_sibling_79 ?_
              refine gw_is6 d_R_sibling_81 ?_
              first | exact nx hlt _ _ _ e5.symm (by rw [sbB, if_pos (And.intro hp5 (And.intro hp8 (And.intro c_58 (Int32.not_le.mp c_69))))]) | exact nx hlt _ _ _ e5.symm (by rw [sbB, if_neg (fun z => absurd z.2.2.2 (Int32.not_lt.mpr c_69))]) | exact nx hlt _ _ _ e5.symm (by rw [sbB, if_neg (fun z => z.2.2.1 c_58)]) | exact nx hlt _ _ _ rfl (by rw [sbB, if_neg (fun z => by have := n_dn c_48 bo; omega)]) | exact nx hlt _ _ _ rfl (by rw [sbB, if_neg (fun z => by have := n_dn c_43 b; omega)])
            · refine gw_il8 d_R_sibling_46 ?_
              refine gw_iflt d_R_sibling_48 (fun c_48 => ?_) (fun c_48 => ?_)
              · refine gw_il6 d_R_sibling_79 ?_
                refine gw_is6 d_R_sibling_81 ?_
                first | exact nx hlt _ _ _ e5.symm (by rw [sbB, if_pos (And.intro hp5 (And.intro hp8 (And.intro c_58 (Int32.not_le.mp c_69))))]) | exact nx hlt _ _ _ e5.symm (by rw [sbB, if_neg (fun z => absurd z.2.2.2 (Int32.not_lt.mpr c_69))]) | exact nx hlt _ _ _ e5.symm (by rw [sbB, if_neg (fun z => z.2.2.1 c_58)]) | exact nx hlt _ _ _ rfl (by rw [sbB, if_neg (fun z => by have := n_dn c_48 bo; omega)]) | exact nx hlt _ _ _ rfl (by rw [sbB, if_neg (fun z => by have := n_dn c_43 b; omega)])
              · have hp5 := n_up c_43; have hp8 := n_up c_48; have e5 := n_m1 hp5; rw [n_m1 hp5, n_m1 hp8]; refine gw_al0 d_R_sibling_51 ?_
                refine gw_get d_R_sibling_52 (by assumption) (by rfl) ?_
                refine gw_il8 d_R_sibling_55 ?_
                refine gw_iald d_R_sibling_57 a2 (uS U (40 * s + 4 * d + o) - 1) rfl (by omega) (by omega) ?_
                refine gw_iflt d_R_sibling_58 (fun c_58 => ?_) (fun c_58 => ?_)
                · refine gw_il6 d_R_sibling_79 ?_
                  refine gw_is6 d_R_sibling_81 ?_
                  first | exact nx hlt _ _ _ e5.symm (by rw [sbB, if_pos (And.intro hp5 (And.intro hp8 (And.intro c_58 (Int32.not_le.mp c_69))))]) | exact nx hlt _ _ _ e5.symm (by rw [sbB, if_neg (fun z => absurd z.2.2.2 (Int32.not_lt.mpr c_69))]) | exact nx hlt _ _ _ e5.symm (by rw [sbB, if_neg (fun z => z.2.2.1 c_58)]) | exact nx hlt _ _ _ rfl (by rw [sbB, if_neg (fun z => by have := n_dn c_48 bo; omega)]) | exact nx hlt _ _ _ rfl (by rw [sbB, if_neg (fun z => by have := n_dn c_43 b; omega)])
                · refine gw_al0 d_R_sibling_61 ?_
                  refine gw_il8 d_R_sibling_62 ?_
                  refine gw_il5 d_R_sibling_64 ?_
                  refine gw_rV2 d_R_sibling_66 cs_R_sibling_66 h0 (c_R_compare hM0 (by omega) (by omega)) ?_
                  refine gw_ifge d_R_sibling_69 (fun c_69 => ?_) (fun c_69 => ?_)
                  · refine gw_il6 d_R_sibling_79 ?_
                    refine gw_is6 d_R_sibling_81 ?_
                    first | exact nx hlt _ _ _ e5.symm (by rw [sbB, if_pos (And.intro hp5 (And.intro hp8 (And.intro c_58 (Int32.not_le.mp c_69))))]) | exact nx hlt _ _ _ e5.symm (by rw [sbB, if_neg (fun z => absurd z.2.2.2 (Int32.not_lt.mpr c_69))]) | exact nx hlt _ _ _ e5.symm (by rw [sbB, if_neg (fun z => z.2.2.1 c_58)]) | exact nx hlt _ _ _ rfl (by rw [sbB, if_neg (fun z => by have := n_dn c_48 bo; omega)]) | exact nx hlt _ _ _ rfl (by rw [sbB, if_neg (fun z => by have := n_dn c_43 b; omega)])
                  · refine gw_il6 d_R_sibling_72 ?_
                    refine gw_push d_R_sibling_74 ?_
                    refine gw_iadd d_R_sibling_75 ?_; rw [n_s]
                    refine gw_goto d_R_sibling_76 ?_
                    refine gw_is6 d_R_sibling_81 ?_
                    first | exact nx hlt _ _ _ e5.symm (by rw [sbB, if_pos (And.intro hp5 (And.intro hp8 (And.intro c_58 (Int32.not_le.mp c_69))))]) | exact nx hlt _ _ _ e5.symm (by rw [sbB, if_neg (fun z => absurd z.2.2.2 (Int32.not_lt.mpr c_69))]) | exact nx hlt _ _ _ e5.symm (by rw [sbB, if_neg (fun z => z.2.2.1 c_58)]) | exact nx hlt _ _ _ rfl (by rw [sbB, if_neg (fun z => by have := n_dn c_48 bo; omega)]) | exact nx hlt _ _ _ rfl (by rw [sbB, if_neg (fun z => by have := n_dn c_43 b; omega)])
      refine gw_il4 d_R_sibling_3 ?_
      refine gw_push d_R_sibling_5 ?_
      refine gw_icge d_R_sibling_6 (fun c_6 => absurd (n_le (a := 4) c_6 (by decide) (by omega)) (by omega)) (fun c_6 => ?_)
      refine gw_al0 d_R_sibling_9 ?_
      refine gw_il1 d_R_sibling_10 ?_
      refine gw_il2 d_R_sibling_11 ?_
      refine gw_il4 d_R_sibling_12 ?_
      refine gw_rV3 d_R_sibling_14 cs_R_sibling_14 h0 (c_R_standing hM0 hs hd (by omega)) ?_
      refine gw_is5 d_R_sibling_17 ?_
      refine gw_push d_R_sibling_19 ?_
      refine gw_is6 d_R_sibling_20 ?_
      refine gw_push d_R_sibling_22 ?_
      refine gw_is7 d_R_sibling_23 ?_
      exact inner 5 0 _ (by omega) (by omega)
  refine gw_push d_R_sibling_0 ?_
  refine gw_is4 d_R_sibling_1 ?_
  exact loop 4 0 _ _ _ _ (by omega) rfl
theorem oI_neg {f : Option Nat} (hf : ∀ v, f = some v → v < 4100) (h : oI f < 0) : f = none := by
  cases f with
  | none => rfl
  | some v => exact absurd h (nI_pos (by have := hf v rfl; omega))
theorem oI_pos {f : Option Nat} (h : ¬ oI f < 0) : ∃ v, f = some v := by
  cases f with
  | none => exact absurd (by decide) h
  | some v => exact ⟨v, rfl⟩
theorem c_R_nextToLoad (hM : MV h m A th vs lf U) {s : Nat} (hs : s < 4) {ds : Int32} {la : Option Nat} (hla : ∀ w, la = some w → w < 4100) : SM G l 4 y_R_nextToLoad M_R_nextToLoad [.ref m, .int (nI s), .int ds, .int (oI la)] h sz 0 0 (qR (.int (oI (mNx U s ds la 40))) h sz) := by
  have hM0 := hM
  obtain ⟨h0, a0, a1, a2, a3, a4, a5, a6, a7, a8, hd', hB⟩ := hM
  have b3 := hB.2.2.1
  refine SM.of (lv0 := [some (.ref m), some (.int (nI s)), some (.int ds), some (.int (oI la)), none, none, none, none]) (by decide +kernel) rfl ⟨rfl, rfl⟩ rfl (by simp [Value.category]) (Nat.le_of_ble_eq_true rfl) ?_
  have loop : ∀ n j q6 q7, j ≤ 40 → 40 - j < n → GM G l 4 0 0 (qR (.int (oI (mNx U s ds la 40))) h sz) M_R_nextToLoad 6 [some (.ref m), some (.int (nI s)), some (.int ds), some (.int (oI la)), some (.int (oI (mNx U s ds la j))), some (.int (nI j)), q6, q7] [] h sz 0 0 := by
    intro n
    induction n with
    | zero => intro j _ _ _ hj; exact absurd hj (Nat.not_lt_zero _)
    | succ n ih =>
      intro j q6 q7 hj hm
      have b := b3 (40 * s + j)
      have nx : j < 40 → ∀ x w6 w7, mNx U s ds la (j + 1) = x → GM G l 4 0 0 (qR (.int (oI (mNx U s ds la 40))) h sz) M_R_nextToLoad 96 [some (.ref m), some (.int (nI s)), some (.int ds), some (.int (oI la)), some (.int (oI x)), some (.int (nI j)), w6, w7] [] h sz 0 0 := by
        intro hlt x w6 w7 hb
        have z := ih (j + 1) w6 w7 (by omega) (by omega)
        rw [hb] at z
        exact gw_ii5 d_R_nextToLoad_96 (by rw [n_s]; exact gw_goto d_R_nextToLoad_99 z)
      have p66t : j < 40 → 0 < uS U (40 * s + j) → mLkN U s (uS U (40 * s + j) - 1) ds 4 = true → (∀ w, la = some w → mSn U w (uS U (40 * s + j) - 1) = true) → GM G l 4 0 0 (qR (.int (oI (mNx U s ds la 40))) h sz) M_R_nextToLoad 66 [some (.ref m), some (.int (nI s)), some (.int ds), some (.int (oI la)), some (.int (oI (mNx U s ds la j))), some (.int (nI j)), some (.int (nI (uS U (40 * s + j) - 1))), some (.int 1)] [] h sz 0 0 := by
        intro hlt hpos hl hsn
        cases hf : mNx U s ds la j with
        | none =>
          refine gw_il7 d_R_nextToLoad_66 ?_
          refine gw_ifeq d_R_nextToLoad_68 (fun c_68 => absurd c_68 (by decide)) (fun c_68 => ?_)
          refine gw_il4 d_R_nextToLoad_71 ?_
          refine gw_iflt d_R_nextToLoad_73 (fun c_73 => ?_) (fun c_73 => absurd (by decide) c_73)
          refine gw_il6 d_R_nextToLoad_87 ?_
          refine gw_goto d_R_nextToLoad_89 ?_
          refine gw_is4 d_R_nextToLoad_94 ?_
          exact nx hlt (some (uS U (40 * s + j) - 1)) _ _ (by rw [mNx, if_pos (And.intro hpos (And.intro hl (And.intro hsn (fun f q => by rw [hf] at q; cases q))))])
        | some f =>
          have hfl := mNx_lt hB j f hf
          refine gw_il7 d_R_nextToLoad_66 ?_
          refine gw_ifeq d_R_nextToLoad_68 (fun c_68 => absurd c_68 (by decide)) (fun c_68 => ?_)
          refine gw_il4 d_R_nextToLoad_71 ?_
          refine gw_iflt d_R_nextToLoad_73 (fun c_73 => absurd c_73 (nI_pos (by omega))) (fun c_73 => ?_)
          refine gw_al0 d_R_nextToLoad_76 ?_
          refine gw_il6 d_R_nextToLoad_77 ?_
          refine gw_il4 d_R_nextToLoad_79 ?_
          refine gw_rV2 d_R_nextToLoad_81 cs_R_nextToLoad_81 h0 (c_R_isSooner hM0 (by omega) hfl) ?_
          refine gw_ifeq d_R_nextToLoad_84 (fun c_84 => ?_) (fun c_84 => ?_)
          · refine gw_il4 d_R_nextToLoad_92 ?_
            refine gw_is4 d_R_nextToLoad_94 ?_
            first | exact nx hlt (some (uS U (40 * s + j) - 1)) _ _ (by rw [mNx, if_pos (And.intro hpos (And.intro hl (And.intro hsn (fun f' q => by rw [hf] at q; cases q; exact (b2i_ne0 _).mp c_84))))]) | exact nx hlt (some f) _ _ (by rw [mNx, if_neg (fun z => by have y := z.2.2.2 f hf; rw [(b2i_eq0 _).mp c_84] at y; cases y), hf])
          · refine gw_il6 d_R_nextToLoad_87 ?_
            refine gw_goto d_R_nextToLoad_89 ?_
            refine gw_is4 d_R_nextToLoad_94 ?_
            first | exact nx hlt (some (uS U (40 * s + j) - 1)) _ _ (by rw [mNx, if_pos (And.intro hpos (And.intro hl (And.intro hsn (fun f' q => by rw [hf] at q; cases q; exact (b2i_ne0 _).mp c_84))))]) | exact nx hlt (some f) _ _ (by rw [mNx, if_neg (fun z => by have y := z.2.2.2 f hf; rw [(b2i_eq0 _).mp c_84] at y; cases y), hf])
      have p66f : j < 40 → ∀ w6, ¬ (0 < uS U (40 * s + j) ∧ mLkN U s (uS U (40 * s + j) - 1) ds 4 = true ∧ (∀ w, la = some w → mSn U w (uS U (40 * s + j) - 1) = true)) → GM G l 4 0 0 (qR (.int (oI (mNx U s ds la 40))) h sz) M_R_nextToLoad 66 [some (.ref m), some (.int (nI s)), some (.int ds), some (.int (oI la)), some (.int (oI (mNx U s ds la j))), some (.int (nI j)), w6, some (.int 0)] [] h sz 0 0 := by
        intro hlt w6 hno
        refine gw_il7 d_R_nextToLoad_66 ?_
        refine gw_ifeq d_R_nextToLoad_68 (fun c_68 => ?_) (fun c_68 => absurd rfl c_68)
        refine gw_il4 d_R_nextToLoad_92 ?_
        refine gw_is4 d_R_nextToLoad_94 ?_
        exact nx hlt _ _ _ (by rw [mNx, if_neg (fun z => hno (And.intro z.1 (And.intro z.2.1 z.2.2.1)))])
      refine gw_il5 d_R_nextToLoad_6 ?_
      refine gw_push d_R_nextToLoad_8 ?_
      refine gw_icge d_R_nextToLoad_10 (fun c_10 => ?_) (fun c_10 => ?_)
      · refine gw_il4 d_R_nextToLoad_102 ?_
        have q4 := n_le (a := 40) c_10 (by decide) (by omega); obtain rfl : j = 40 := (by omega); exact gw_iret d_R_nextToLoad_104 rfl (Nat.le_refl _) (Nat.le_refl _) ⟨rfl, rfl, rfl⟩
      · refine gw_al0 d_R_nextToLoad_13 ?_
        refine gw_get d_R_nextToLoad_14 (by assumption) (by rfl) ?_
        refine gw_push d_R_nextToLoad_17 ?_
        refine gw_il1 d_R_nextToLoad_19 ?_
        refine gw_imul d_R_nextToLoad_20 ?_; first | rw [m_4] | rw [m_40] | rw [m_160] | rw [m_20] | skip
        refine gw_il5 d_R_nextToLoad_21 ?_
        refine gw_iadd d_R_nextToLoad_23 ?_; first | rw [nI_add] | rw [p_4] | rw [p_40] | skip
        have hlt := n_nle (a := 40) c_10 (by decide) (by omega); refine gw_iald d_R_nextToLoad_24 a5 (40 * s + j) rfl (by omega) (by omega) ?_
        refine gw_push d_R_nextToLoad_25 ?_
        refine gw_isub d_R_nextToLoad_26 ?_
        refine gw_is6 d_R_nextToLoad_27 ?_
        refine gw_il6 d_R_nextToLoad_29 ?_
        refine gw_iflt d_R_nextToLoad_31 (fun c_31 => ?_) (fun c_31 => ?_)
        · refine gw_push d_R_nextToLoad_63 ?_
          refine gw_is7 d_R_nextToLoad_64 ?_
          first | exact p66t hlt hpos ((b2i_ne0 _).mp c_42) (fun w' q => by cases q; exact (b2i_ne0 _).mp c_56) | exact p66t hlt hpos ((b2i_ne0 _).mp c_42) (fun w' q => by rw [oI_neg hla c_46] at q; cases q) | exact p66f hlt _ (fun z => by have y := z.2.2 _ rfl; rw [(b2i_eq0 _).mp c_56] at y; cases y) | exact p66f hlt _ (fun z => by have y := z.2.1; rw [(b2i_eq0 _).mp c_42] at y; cases y) | exact p66f hlt _ (fun z => by have := n_dn c_31 b; omega)
        · have hpos := n_up c_31; rw [n_m1 hpos]; refine gw_al0 d_R_nextToLoad_34 ?_
          refine gw_il1 d_R_nextToLoad_35 ?_
          refine gw_il6 d_R_nextToLoad_36 ?_
          refine gw_il2 d_R_nextToLoad_38 ?_
          refine gw_rV3 d_R_nextToLoad_39 cs_R_nextToLoad_39 h0 (c_R_isLacked hM0 hs (by omega)) ?_
          refine gw_ifeq d_R_nextToLoad_42 (fun c_42 => ?_) (fun c_42 => ?_)
          · refine gw_push d_R_nextToLoad_63 ?_
            refine gw_is7 d_R_nextToLoad_64 ?_
            first | exact p66t hlt hpos ((b2i_ne0 _).mp c_42) (fun w' q => by cases q; exact (b2i_ne0 _).mp c_56) | exact p66t hlt hpos ((b2i_ne0 _).mp c_42) (fun w' q => by rw [oI_neg hla c_46] at q; cases q) | exact p66f hlt _ (fun z => by have y := z.2.2 _ rfl; rw [(b2i_eq0 _).mp c_56] at y; cases y) | exact p66f hlt _ (fun z => by have y := z.2.1; rw [(b2i_eq0 _).mp c_42] at y; cases y) | exact p66f hlt _ (fun z => by have := n_dn c_31 b; omega)
          · refine gw_il3 d_R_nextToLoad_45 ?_
            refine gw_iflt d_R_nextToLoad_46 (fun c_46 => ?_) (fun c_46 => ?_)
            · refine gw_push d_R_nextToLoad_59 ?_
              refine gw_goto d_R_nextToLoad_60 ?_
              refine gw_is7 d_R_nextToLoad_64 ?_
              first | exact p66t hlt hpos ((b2i_ne0 _).mp c_42) (fun w' q => by cases q; exact (b2i_ne0 _).mp c_56) | exact p66t hlt hpos ((b2i_ne0 _).mp c_42) (fun w' q => by rw [oI_neg hla c_46] at q; cases q) | exact p66f hlt _ (fun z => by have y := z.2.2 _ rfl; rw [(b2i_eq0 _).mp c_56] at y; cases y) | exact p66f hlt _ (fun z => by have y := z.2.1; rw [(b2i_eq0 _).mp c_42] at y; cases y) | exact p66f hlt _ (fun z => by have := n_dn c_31 b; omega)
            · refine gw_al0 d_R_nextToLoad_49 ?_
              refine gw_il3 d_R_nextToLoad_50 ?_
              refine gw_il6 d_R_nextToLoad_51 ?_
              obtain ⟨w, hw⟩ := oI_pos c_46; subst hw; refine gw_rV2 d_R_nextToLoad_53 cs_R_nextToLoad_53 h0 (c_R_isSooner hM0 (hla w rfl) (by omega)) ?_
              refine gw_ifeq d_R_nextToLoad_56 (fun c_56 => ?_) (fun c_56 => ?_)
              · refine gw_push d_R_nextToLoad_63 ?_
                refine gw_is7 d_R_nextToLoad_64 ?_
                first | exact p66t hlt hpos ((b2i_ne0 _).mp c_42) (fun w' q => by cases q; exact (b2i_ne0 _).mp c_56) | exact p66t hlt hpos ((b2i_ne0 _).mp c_42) (fun w' q => by rw [oI_neg hla c_46] at q; cases q) | exact p66f hlt _ (fun z => by have y := z.2.2 _ rfl; rw [(b2i_eq0 _).mp c_56] at y; cases y) | exact p66f hlt _ (fun z => by have y := z.2.1; rw [(b2i_eq0 _).mp c_42] at y; cases y) | exact p66f hlt _ (fun z => by have := n_dn c_31 b; omega)
              · refine gw_push d_R_nextToLoad_59 ?_
                refine gw_goto d_R_nextToLoad_60 ?_
                refine gw_is7 d_R_nextToLoad_64 ?_
                first | exact p66t hlt hpos ((b2i_ne0 _).mp c_42) (fun w' q => by cases q; exact (b2i_ne0 _).mp c_56) | exact p66t hlt hpos ((b2i_ne0 _).mp c_42) (fun w' q => by rw [oI_neg hla c_46] at q; cases q) | exact p66f hlt _ (fun z => by have y := z.2.2 _ rfl; rw [(b2i_eq0 _).mp c_56] at y; cases y) | exact p66f hlt _ (fun z => by have y := z.2.1; rw [(b2i_eq0 _).mp c_42] at y; cases y) | exact p66f hlt _ (fun z => by have := n_dn c_31 b; omega)
  refine gw_push d_R_nextToLoad_0 ?_
  refine gw_is4 d_R_nextToLoad_1 ?_
  refine gw_push d_R_nextToLoad_3 ?_
  refine gw_is5 d_R_nextToLoad_4 ?_
  exact loop 41 0 _ _ (by omega) (by omega)
end RefD
