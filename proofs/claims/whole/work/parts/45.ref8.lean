/-! ===== the reference: its public methods (1) ===== -/
def mP (h : gHp) (m : Nat) (A : Nat → Nat) (vs : Nat) (lf : Int32) (U : gU) (T X : Int32) (sz : Nat) : gRs → gHp → Nat → Prop := fun r h' sz' => r = .inl (some (.int X)) ∧ MV h' m A T vs lf U ∧ MF h h' m A ∧ sz' = sz
def mkP (h : gHp) (m : Nat) (A : Nat → Nat) (vs : Nat) (lf : Int32) (U : gU) (i j : Nat) (n fl T : Int32) (h' : gHp) : Prop :=
  ((uN U (160 * i + 40 * i + 4 * j + i) = 200 ∧ MV h' m A T vs lf U) ∨
  (¬ uN U (160 * i + 40 * i + 4 * j + i) = 200 ∧ 300 < mHr (mkU U vs i j n fl) i vs 4 ∧ MV h' m A T vs lf (mkU U vs i j n fl)) ∨
  (¬ uN U (160 * i + 40 * i + 4 * j + i) = 200 ∧ ¬ 300 < mHr (mkU U vs i j n fl) i vs 4 ∧ MV h' m A 0 (vs + 1) lf (csU (mkU U vs i j n fl) i vs))) ∧ MF h h' m A
section RefI
variable {G : gG} {l : Launch} {h : gHp} {sz m : Nat} {A : Nat → Nat} {th : Int32} {vs : Nat} {lf : Int32} {U : gU}
theorem c_R_edit (hM : MV h m A th vs lf U) (hv : vs < 4100) {s d n fl : Int32} : SM G l 5 y_R_edit M_R_edit [.ref m, .int s, .int d, .int n, .int fl] h sz 0 0 (fun r h' sz' => r = .inl none ∧ sz' = sz ∧ (((okN s 4 && okN d 10) = false ∧ MV h' m A 1 vs lf U ∧ MF h h' m A) ∨ ((okN s 4 && okN d 10) = true ∧ (okN n 41 && okN fl 256) = false ∧ MV h' m A 2 vs lf U ∧ MF h h' m A) ∨ ((okN n 41 && okN fl 256) = true ∧ ∃ i j, i < 4 ∧ j < 10 ∧ s = nI i ∧ d = nI j ∧ mkP h m A vs lf U i j n fl 3 h'))) := by
  have h0 := hM.1
  refine SM.of (lv0 := [some (.ref m), some (.int s), some (.int d), some (.int n), some (.int fl)]) (by decide +kernel) rfl ⟨rfl, rfl⟩ rfl (by simp [Value.category]) (Nat.le_of_ble_eq_true rfl) ?_
  cases hp : (okN s 4 && okN d 10)
  · refine gw_al0 d_R_edit_0 ?_
    refine gw_il1 d_R_edit_1 ?_
    refine gw_il2 d_R_edit_2 ?_
    refine gw_rS2 d_R_edit_3 cs_R_edit_3 c_R_isPlace ?_; rw [hp]
    refine gw_ifne d_R_edit_6 (fun c_6 => absurd rfl c_6) (fun c_6 => ?_)
    refine gw_push d_R_edit_9 ?_
    refine gw_goto d_R_edit_10 ?_
    refine gw_pf0 d_R_edit_40 h0 rfl rfl ?_
    refine gw_al0 d_R_edit_43 ?_
    refine gw_get d_R_edit_44 (gUp_self _ _ _) (by rfl) ?_
    refine gw_ifne d_R_edit_47 (fun c_47 => ?_) (fun c_47 => absurd c_47 (by decide))
    exact gw_vret d_R_edit_63 rfl (Nat.le_refl _) (Nat.le_refl _) ⟨rfl, rfl, Or.inl ⟨rfl, hM.ob, MF.obj⟩⟩
  · cases hn : okN n 41
    · refine gw_al0 d_R_edit_0 ?_
      refine gw_il1 d_R_edit_1 ?_
      refine gw_il2 d_R_edit_2 ?_
      refine gw_rS2 d_R_edit_3 cs_R_edit_3 c_R_isPlace ?_; rw [hp]
      refine gw_ifne d_R_edit_6 (fun c_6 => ?_) (fun c_6 => absurd c_6 (by decide))
      refine gw_il3 d_R_edit_13 ?_
      refine gw_push d_R_edit_14 ?_
      refine gw_push d_R_edit_15 ?_
      refine gw_rS3 d_R_edit_17 cs_R_edit_17 (c_R_within (n := 40) (by decide)) ?_; rw [hn]
      refine gw_ifeq d_R_edit_20 (fun c_20 => ?_) (fun c_20 => absurd rfl c_20)
      refine gw_push d_R_edit_35 ?_
      refine gw_goto d_R_edit_36 ?_
      refine gw_pf0 d_R_edit_40 h0 rfl rfl ?_
      refine gw_al0 d_R_edit_43 ?_
      refine gw_get d_R_edit_44 (gUp_self _ _ _) (by rfl) ?_
      refine gw_ifne d_R_edit_47 (fun c_47 => ?_) (fun c_47 => absurd c_47 (by decide))
      exact gw_vret d_R_edit_63 rfl (Nat.le_refl _) (Nat.le_refl _) ⟨rfl, rfl, Or.inr (Or.inl ⟨rfl, rfl, hM.ob, MF.obj⟩)⟩
    · cases hf : okN fl 256
      · refine gw_al0 d_R_edit_0 ?_
        refine gw_il1 d_R_edit_1 ?_
        refine gw_il2 d_R_edit_2 ?_
        refine gw_rS2 d_R_edit_3 cs_R_edit_3 c_R_isPlace ?_; rw [hp]
        refine gw_ifne d_R_edit_6 (fun c_6 => ?_) (fun c_6 => absurd c_6 (by decide))
        refine gw_il3 d_R_edit_13 ?_
        refine gw_push d_R_edit_14 ?_
        refine gw_push d_R_edit_15 ?_
        refine gw_rS3 d_R_edit_17 cs_R_edit_17 (c_R_within (n := 40) (by decide)) ?_; rw [hn]
        refine gw_ifeq d_R_edit_20 (fun c_20 => absurd c_20 (by decide)) (fun c_20 => ?_)
        refine gw_il4 d_R_edit_23 ?_
        refine gw_push d_R_edit_25 ?_
        refine gw_push d_R_edit_26 ?_
        refine gw_rS3 d_R_edit_29 cs_R_edit_29 (c_R_within (n := 255) (by decide)) ?_; rw [hf]
        refine gw_ifne d_R_edit_32 (fun c_32 => absurd rfl c_32) (fun c_32 => ?_)
        refine gw_push d_R_edit_35 ?_
        refine gw_goto d_R_edit_36 ?_
        refine gw_pf0 d_R_edit_40 h0 rfl rfl ?_
        refine gw_al0 d_R_edit_43 ?_
        refine gw_get d_R_edit_44 (gUp_self _ _ _) (by rfl) ?_
        refine gw_ifne d_R_edit_47 (fun c_47 => ?_) (fun c_47 => absurd c_47 (by decide))
        exact gw_vret d_R_edit_63 rfl (Nat.le_refl _) (Nat.le_refl _) ⟨rfl, rfl, Or.inr (Or.inl ⟨rfl, rfl, hM.ob, MF.obj⟩)⟩
      · obtain ⟨hp1, hp2⟩ := Bool.and_eq_true_iff.mp hp
        obtain ⟨i, hi, rfl⟩ := okN_t (by decide) hp1
        obtain ⟨j, hj, rfl⟩ := okN_t (by decide) hp2
        have hM1 : MV (gUp h m (gO 6 [.int 0, .int (nI vs), .ref (A 0), .ref (A 1), .ref (A 2), .ref (A 3), .ref (A 4), .ref (A 5), .ref (A 6), .ref (A 7), .ref (A 8), .int lf])) m A 0 vs lf U := hM.ob
        refine gw_al0 d_R_edit_0 ?_
        refine gw_il1 d_R_edit_1 ?_
        refine gw_il2 d_R_edit_2 ?_
        refine gw_rS2 d_R_edit_3 cs_R_edit_3 c_R_isPlace ?_; rw [hp]
        refine gw_ifne d_R_edit_6 (fun c_6 => ?_) (fun c_6 => absurd c_6 (by decide))
        refine gw_il3 d_R_edit_13 ?_
        refine gw_push d_R_edit_14 ?_
        refine gw_push d_R_edit_15 ?_
        refine gw_rS3 d_R_edit_17 cs_R_edit_17 (c_R_within (n := 40) (by decide)) ?_; rw [hn]
        refine gw_ifeq d_R_edit_20 (fun c_20 => absurd c_20 (by decide)) (fun c_20 => ?_)
        refine gw_il4 d_R_edit_23 ?_
        refine gw_push d_R_edit_25 ?_
        refine gw_push d_R_edit_26 ?_
        refine gw_rS3 d_R_edit_29 cs_R_edit_29 (c_R_within (n := 255) (by decide)) ?_; rw [hf]
        refine gw_ifne d_R_edit_32 (fun c_32 => ?_) (fun c_32 => absurd c_32 (by decide))
        refine gw_push d_R_edit_39 ?_
        refine gw_pf0 d_R_edit_40 h0 rfl rfl ?_
        refine gw_al0 d_R_edit_43 ?_
        refine gw_get d_R_edit_44 (gUp_self _ _ _) (by rfl) ?_
        refine gw_ifne d_R_edit_47 (fun c_47 => absurd rfl c_47) (fun c_47 => ?_)
        refine gw_al0 d_R_edit_50 ?_
        refine gw_al0 d_R_edit_51 ?_
        refine gw_il1 d_R_edit_52 ?_
        refine gw_il2 d_R_edit_53 ?_
        refine gw_il3 d_R_edit_54 ?_
        refine gw_il4 d_R_edit_55 ?_
        refine gw_cV4 d_R_edit_57 cs_R_edit_57 hM1.1 (c_R_make hM1 hi hj hv) (fun v h1 sz1 hq hz => ?_) (fun E h1 sz1 hq _ => by obtain ⟨hq1 | hq1 | hq1, -⟩ := hq; (· cases hq1.2.1); (· cases hq1.2.2.1); cases hq1.2.2.1)
        obtain ⟨⟨w1, w2, w3, w4⟩ | ⟨w1, w2, w3, w4, w5⟩ | ⟨w1, w2, w3, w4, w5⟩, w6⟩ := hq
        · cases w2; subst w6; exact gw_pf0 d_R_edit_60 w3.1 rfl rfl (gw_vret d_R_edit_63 rfl (Nat.le_refl _) (Nat.le_refl _) ⟨rfl, rfl, Or.inr (Or.inr ⟨rfl, i, j, hi, hj, rfl, rfl, Or.inl ⟨w1, w3.ob⟩, (MF.obj.trans w4).trans MF.obj⟩)⟩)
        · cases w3; subst w6; exact gw_pf0 d_R_edit_60 w4.1 rfl rfl (gw_vret d_R_edit_63 rfl (Nat.le_refl _) (Nat.le_refl _) ⟨rfl, rfl, Or.inr (Or.inr ⟨rfl, i, j, hi, hj, rfl, rfl, Or.inr (Or.inl ⟨w1, w2, w4.ob⟩), (MF.obj.trans w5).trans MF.obj⟩)⟩)
        · cases w3; subst w6; exact gw_pf0 d_R_edit_60 w4.1 rfl rfl (gw_vret d_R_edit_63 rfl (Nat.le_refl _) (Nat.le_refl _) ⟨rfl, rfl, Or.inr (Or.inr ⟨rfl, i, j, hi, hj, rfl, rfl, Or.inr (Or.inr ⟨w1, w2, w4.ob⟩), (MF.obj.trans w5).trans MF.obj⟩)⟩)
theorem c_R_erase (hM : MV h m A th vs lf U) (hv : vs < 4100) {s d : Int32} : SM G l 5 y_R_erase M_R_erase [.ref m, .int s, .int d] h sz 0 0 (fun r h' sz' => r = .inl none ∧ sz' = sz ∧ (((okN s 4 && okN d 10) = false ∧ MV h' m A 1 vs lf U ∧ MF h h' m A) ∨ (∃ i j, i < 4 ∧ j < 10 ∧ s = nI i ∧ d = nI j ∧ mkP h m A vs lf U i j (-1) 0 2 h'))) := by
  have h0 := hM.1
  refine SM.of (lv0 := [some (.ref m), some (.int s), some (.int d)]) (by decide +kernel) rfl ⟨rfl, rfl⟩ rfl (by simp [Value.category]) (Nat.le_of_ble_eq_true rfl) ?_
  cases hp : (okN s 4 && okN d 10)
  · refine gw_al0 d_R_erase_0 ?_
    refine gw_il1 d_R_erase_1 ?_
    refine gw_il2 d_R_erase_2 ?_
    refine gw_rS2 d_R_erase_3 cs_R_erase_3 c_R_isPlace ?_; rw [hp]
    refine gw_ifeq d_R_erase_6 (fun c_6 => ?_) (fun c_6 => absurd rfl c_6)
    refine gw_push d_R_erase_13 ?_
    refine gw_pf0 d_R_erase_14 h0 rfl rfl ?_
    refine gw_al0 d_R_erase_17 ?_
    refine gw_get d_R_erase_18 (gUp_self _ _ _) (by rfl) ?_
    refine gw_ifne d_R_erase_21 (fun c_21 => ?_) (fun c_21 => absurd c_21 (by decide))
    exact gw_vret d_R_erase_44 rfl (Nat.le_refl _) (Nat.le_refl _) ⟨rfl, rfl, Or.inl ⟨rfl, hM.ob, MF.obj⟩⟩
  · obtain ⟨hp1, hp2⟩ := Bool.and_eq_true_iff.mp hp
    obtain ⟨i, hi, rfl⟩ := okN_t (by decide) hp1
    obtain ⟨j, hj, rfl⟩ := okN_t (by decide) hp2
    have hM1 : MV (gUp h m (gO 6 [.int 0, .int (nI vs), .ref (A 0), .ref (A 1), .ref (A 2), .ref (A 3), .ref (A 4), .ref (A 5), .ref (A 6), .ref (A 7), .ref (A 8), .int lf])) m A 0 vs lf U := hM.ob
    refine gw_al0 d_R_erase_0 ?_
    refine gw_il1 d_R_erase_1 ?_
    refine gw_il2 d_R_erase_2 ?_
    refine gw_rS2 d_R_erase_3 cs_R_erase_3 c_R_isPlace ?_; rw [hp]
    refine gw_ifeq d_R_erase_6 (fun c_6 => absurd c_6 (by decide)) (fun c_6 => ?_)
    refine gw_push d_R_erase_9 ?_
    refine gw_goto d_R_erase_10 ?_
    refine gw_pf0 d_R_erase_14 h0 rfl rfl ?_
    refine gw_al0 d_R_erase_17 ?_
    refine gw_get d_R_erase_18 (gUp_self _ _ _) (by rfl) ?_
    refine gw_ifne d_R_erase_21 (fun c_21 => absurd rfl c_21) (fun c_21 => ?_)
    refine gw_al0 d_R_erase_24 ?_
    refine gw_al0 d_R_erase_25 ?_
    refine gw_il1 d_R_erase_26 ?_
    refine gw_il2 d_R_erase_27 ?_
    refine gw_push d_R_erase_28 ?_
    refine gw_push d_R_erase_29 ?_
    refine gw_cV4 d_R_erase_30 cs_R_erase_30 hM1.1 (c_R_make hM1 hi hj hv) (fun v h1 sz1 hq hz => ?_) (fun E h1 sz1 hq _ => by obtain ⟨hq1 | hq1 | hq1, -⟩ := hq; (· cases hq1.2.1); (· cases hq1.2.2.1); cases hq1.2.2.1)
    obtain ⟨⟨w1, w2, w3, w4⟩ | ⟨w1, w2, w3, w4, w5⟩ | ⟨w1, w2, w3, w4, w5⟩, w6⟩ := hq
    · cases w2; subst w6; exact gw_ifle d_R_erase_33 (fun c => absurd c (by decide)) (fun c => gw_push d_R_erase_36 (gw_goto d_R_erase_37 (gw_pf0 d_R_erase_41 w3.1 rfl rfl (gw_vret d_R_erase_44 rfl (Nat.le_refl _) (Nat.le_refl _) ⟨rfl, rfl, Or.inr ⟨i, j, hi, hj, rfl, rfl, Or.inl ⟨w1, w3.ob⟩, (MF.obj.trans w4).trans MF.obj⟩⟩))))
    · cases w3; subst w6; exact gw_ifle d_R_erase_33 (fun c => absurd c (by decide)) (fun c => gw_push d_R_erase_36 (gw_goto d_R_erase_37 (gw_pf0 d_R_erase_41 w4.1 rfl rfl (gw_vret d_R_erase_44 rfl (Nat.le_refl _) (Nat.le_refl _) ⟨rfl, rfl, Or.inr ⟨i, j, hi, hj, rfl, rfl, Or.inr (Or.inl ⟨w1, w2, w4.ob⟩), (MF.obj.trans w5).trans MF.obj⟩⟩))))
    · cases w3; subst w6; exact gw_ifle d_R_erase_33 (fun c => gw_push d_R_erase_40 (gw_pf0 d_R_erase_41 w4.1 rfl rfl (gw_vret d_R_erase_44 rfl (Nat.le_refl _) (Nat.le_refl _) ⟨rfl, rfl, Or.inr ⟨i, j, hi, hj, rfl, rfl, Or.inr (Or.inr ⟨w1, w2, w4.ob⟩), (MF.obj.trans w5).trans MF.obj⟩⟩))) (fun c => absurd (by decide) c)
theorem c_R_siblings (hM : MV h m A th vs lf U) {s d : Int32} : SM G l 3 y_R_siblings M_R_siblings [.ref m, .int s, .int d] h sz 0 0 (mP h m A vs lf U (if okN s 4 && okN d 10 then 0 else 1) (if okN s 4 && okN d 10 then nI (mCt U s.toNatClampNeg d.toNatClampNeg false 4) else 0) sz) := by
  have h0 := hM.1
  refine SM.of (lv0 := [some (.ref m), some (.int s), some (.int d)]) (by decide +kernel) rfl ⟨rfl, rfl⟩ rfl (by simp [Value.category]) (Nat.le_of_ble_eq_true rfl) ?_
  cases hp : (okN s 4 && okN d 10)
  · refine gw_al0 d_R_siblings_0 ?_
    refine gw_il1 d_R_siblings_1 ?_
    refine gw_il2 d_R_siblings_2 ?_
    refine gw_rS2 d_R_siblings_3 cs_R_siblings_3 c_R_isPlace ?_; rw [hp]
    refine gw_ifeq d_R_siblings_6 (fun c_6 => ?_) (fun c_6 => absurd rfl c_6)
    refine gw_push d_R_siblings_13 ?_
    refine gw_pf0 d_R_siblings_14 h0 rfl rfl ?_
    refine gw_al0 d_R_siblings_17 ?_
    refine gw_get d_R_siblings_18 (gUp_self _ _ _) (by rfl) ?_
    refine gw_ifle d_R_siblings_21 (fun c_21 => absurd c_21 (by decide)) (fun c_21 => ?_)
    refine gw_push d_R_siblings_24 ?_
    refine gw_goto d_R_siblings_25 ?_
    exact gw_iret d_R_siblings_35 rfl (Nat.le_refl _) (Nat.le_refl _) ⟨rfl, hM.ob, MF.obj, rfl⟩
  · obtain ⟨hp1, hp2⟩ := Bool.and_eq_true_iff.mp hp
    obtain ⟨i, hi, rfl⟩ := okN_t (by decide) hp1
    obtain ⟨j, hj, rfl⟩ := okN_t (by decide) hp2
    have hM1 : MV (gUp h m (gO 6 [.int 0, .int (nI vs), .ref (A 0), .ref (A 1), .ref (A 2), .ref (A 3), .ref (A 4), .ref (A 5), .ref (A 6), .ref (A 7), .ref (A 8), .int lf])) m A 0 vs lf U := hM.ob
    refine gw_al0 d_R_siblings_0 ?_
    refine gw_il1 d_R_siblings_1 ?_
    refine gw_il2 d_R_siblings_2 ?_
    refine gw_rS2 d_R_siblings_3 cs_R_siblings_3 c_R_isPlace ?_; rw [hp]
    refine gw_ifeq d_R_siblings_6 (fun c_6 => absurd c_6 (by decide)) (fun c_6 => ?_)
    refine gw_push d_R_siblings_9 ?_
    refine gw_goto d_R_siblings_10 ?_
    refine gw_pf0 d_R_siblings_14 h0 rfl rfl ?_
    refine gw_al0 d_R_siblings_17 ?_
    refine gw_get d_R_siblings_18 (gUp_self _ _ _) (by rfl) ?_
    refine gw_ifle d_R_siblings_21 (fun c_21 => ?_) (fun c_21 => absurd (by decide) c_21)
    refine gw_al0 d_R_siblings_28 ?_
    refine gw_il1 d_R_siblings_29 ?_
    refine gw_il2 d_R_siblings_30 ?_
    refine gw_push d_R_siblings_31 ?_
    refine gw_rV3 d_R_siblings_32 cs_R_siblings_32 hM1.1 (c_R_count hM1 hi hj (mk := false)) ?_
    exact gw_iret d_R_siblings_35 rfl (Nat.le_refl _) (Nat.le_refl _) ⟨by rw [nI_clamp (by omega), nI_clamp (by omega)]; rfl, hM1, MF.obj, rfl⟩
/-- the version that the reference finds -/
def mSb (U : gU) (s d k : Int32) : Option Nat := if okN s 4 && okN d 10 then sbF U s.toNatClampNeg d.toNatClampNeg k 4 0 else none
theorem sbF_lt (hB : MBd U) {s d : Nat} {k : Int32} : ∀ n j v, sbF U s d k n j = some v → v < 4100 := by
  intro n
  induction n with
  | zero => intro j v q; cases q
  | succ n ih =>
    intro j v q
    rw [sbF] at q
    split at q
    · cases q
      have := hB.2.2.1 (40 * s + 4 * d + j)
      omega
    · exact ih _ _ q
theorem mSb_lt (hB : MBd U) {s d k : Int32} {v : Nat} (h : mSb U s d k = some v) : v < 4100 := by
  unfold mSb at h
  split at h
  · exact sbF_lt hB _ _ _ h
  · cases h
theorem gw_sib_counter (hM : MV h m A th vs lf U) {s d k j : Int32} {Q : gRs → gHp → Nat → Prop} {D MC MS k0 w0 : Nat} (hD : 4 ≤ D) (hMC : k0 ≤ MC) (hMS : w0 ≤ MS) (kk : GM G l D MC MS Q M_R_counter 19 [some (.ref m), some (.int s), some (.int d), some (.int k), some (.int j), none] [.int (oI (mSb U s d k))] h sz k0 w0) : GM G l D MC MS Q M_R_counter 0 [some (.ref m), some (.int s), some (.int d), some (.int k), some (.int j), none] [] h sz k0 w0 := by
  have h0 := hM.1
  have hRm : gRm (gRoom D MC MS) 3 M_R_sibling := ⟨by show 16 * 3 + 1 ≤ 16 * D; omega, by show 8 + (M_R_sibling.2.1 + 11) + 128 * 3 ≤ 128 * D; have : M_R_sibling.2.1 = 9 := rfl; omega⟩
  have hRm2 : gRm (gRoom D MC MS) 2 M_R_isPlace := ⟨by show 16 * 2 + 1 ≤ 16 * D; omega, by show 8 + (M_R_isPlace.2.1 + 11) + 128 * 2 ≤ 128 * D; have : M_R_isPlace.2.1 = 2 := rfl; omega⟩
  cases hp : (okN s 4 && okN d 10)
  · rw [mSb, hp] at kk
    refine gw_il1 d_R_counter_0 ?_
    refine gw_il2 d_R_counter_1 ?_
    refine gw_rS2 d_R_counter_2 cs_R_counter_2 c_R_isPlace ?_ (hR := hRm2) (hcs := by show k0 + 0 ≤ MC; omega) (hss := by show w0 + 0 ≤ MS; omega); rw [hp]
    refine gw_ifeq d_R_counter_5 (fun c_5 => ?_) (fun c_5 => absurd rfl c_5)
    refine gw_push d_R_counter_18 ?_
    exact kk
  · rw [mSb, hp] at kk
    obtain ⟨hp1, hp2⟩ := Bool.and_eq_true_iff.mp hp
    obtain ⟨i, hi, rfl⟩ := okN_t (by decide) hp1
    obtain ⟨i2, hi2, rfl⟩ := okN_t (by decide) hp2
    rw [nI_clamp (by omega), nI_clamp (by omega)] at kk
    refine gw_il1 d_R_counter_0 ?_
    refine gw_il2 d_R_counter_1 ?_
    refine gw_rS2 d_R_counter_2 cs_R_counter_2 c_R_isPlace ?_ (hR := hRm2) (hcs := by show k0 + 0 ≤ MC; omega) (hss := by show w0 + 0 ≤ MS; omega); rw [hp]
    refine gw_ifeq d_R_counter_5 (fun c_5 => absurd c_5 (by decide)) (fun c_5 => ?_)
    refine gw_al0 d_R_counter_8 ?_
    refine gw_il1 d_R_counter_9 ?_
    refine gw_il2 d_R_counter_10 ?_
    refine gw_il3 d_R_counter_11 ?_
    refine gw_rV3 d_R_counter_12 cs_R_counter_12 h0 (c_R_sibling hM hi hi2) ?_ (hR := hRm) (hcs := by show k0 + 0 ≤ MC; omega) (hss := by show w0 + 0 ≤ MS; omega)
    refine gw_goto d_R_counter_15 ?_
    exact kk
end RefI
