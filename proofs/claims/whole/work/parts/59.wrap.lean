/-! ===== the law's wrappers ===== -/
theorem kl_mem {c : Cond} (h : c ∈ lw_tbl ∧ goodWord c = true) : c ∈ gW := List.mem_filter.mpr h
theorem kl_13 : Cond.classLink "FolderRoundsLaw" 13 eN ∈ gW := kl_mem (by decide +kernel)
theorem kl_15 : Cond.classLink "FolderRoundsLaw" 15 eI ∈ gW := kl_mem (by decide +kernel)
theorem kl_17 : Cond.classLink "FolderRoundsLaw" 17 eU ∈ gW := kl_mem (by decide +kernel)
theorem kl_31 : Cond.classLink "FolderRoundsLaw" 31 eX ∈ gW := kl_mem (by decide +kernel)
/-- what a wrapper with an answer leaves -/
def lwO (Q0 : gRs → gHp → Nat → Prop) (oa : Nat) (Es : List String) : gRs → gHp → Nat → Prop := fun r h' sz' => (∃ (X : Int32) (h0 : gHp) (f : Nat → Int64) (Y : Int64), Q0 (.inl (some (.int X))) h0 sz' ∧ h0 oa = some (gL 1 f) ∧ Y = X.toInt64 ∧ h' = gUp h0 oa (gL 1 (vp_updL f 0 Y)) ∧ r = .inl (some (.int 0))) ∨ ∃ (i : Nat) (E : String), Es[i]? = some E ∧ Q0 (.inr E) h' sz' ∧ r = .inl (some (.int (nI (i + 1))))
/-- .. without an answer -/
def lwV (Q0 : gRs → gHp → Nat → Prop) (Es : List String) : gRs → gHp → Nat → Prop := fun r h' sz' => (Q0 (.inl none) h' sz' ∧ r = .inl (some (.int 0))) ∨ ∃ (i : Nat) (E : String), Es[i]? = some E ∧ Q0 (.inr E) h' sz' ∧ r = .inl (some (.int (nI (i + 1))))
section Wrap
variable {G : gG} {l : Launch} {h : gHp} {sz x oa : Nat} {fs : List Value} {Q0 : gRs → gHp → Nat → Prop}
theorem c_L_siblings {p0 p1 : Int32} (hx : h x = some (gO 5 fs)) (hM : SM G l 5 y_F_siblings M_F_siblings [.ref x, .int p0, .int p1] h sz 4 24 Q0) (hv : ∀ r h1 sz1, Q0 r h1 sz1 → (∃ (X : Int32) (f : Nat → Int64), r = .inl (some (.int X)) ∧ h1 oa = some (gL 1 f)) ∨ ∃ E, r = .inr E ∧ E ∈ ([eN] : List String)) : SM G l 6 y_L_siblings M_L_siblings [.ref x, .int p0, .int p1, .ref oa] h sz 4 24 (lwO Q0 oa [eN]) := by
  refine SM.ofH (lv0 := [some (.ref x), some (.int p0), some (.int p1), some (.ref oa), none]) (by decide +kernel) (by decide) ⟨rfl, rfl⟩ rfl (by simp [Value.category]) (Nat.le_of_ble_eq_true rfl) ?_
  refine gw_al3 d_L_siblings_0 ?_
  refine gw_push d_L_siblings_1 ?_
  refine gw_al0 d_L_siblings_2 ?_
  refine gw_il1 d_L_siblings_3 ?_
  refine gw_il2 d_L_siblings_4 ?_
  refine gw_callV (As := [.int p0, .int p1]) d_L_siblings_5 cs_L_siblings_5 hx rfl rfl (Nat.le_of_ble_eq_true rfl) ⟨by decide, by decide⟩ (Nat.le_of_ble_eq_true rfl) (Nat.le_of_ble_eq_true rfl) hM (fun v h1 sz1 hq hz => ?_) (fun E h1 sz1 hq hz => ?_)
  · rcases hv _ _ _ hq with ⟨X, f, e1, ho⟩ | ⟨E, e1, -⟩
    · cases e1
      refine gw_i2l d_L_siblings_8 ?_
      refine gw_last d_L_siblings_9 ho 0 rfl (by omega) (by omega) ?_
      refine gw_goto d_L_siblings_10 ?_
      refine gw_push d_L_siblings_17 ?_
      exact gw_iret d_L_siblings_18 rfl (by decide) (by decide) (Or.inl ⟨X, h1, f, _, hq, ho, rfl, rfl, rfl⟩)
    · cases e1
  · rcases hv _ _ _ hq with ⟨X, f, e1, -⟩ | ⟨E9, e1, hE⟩
    · cases e1
    · cases e1
      simp only [List.mem_cons, List.not_mem_nil, or_false] at hE
      rcases hE with rfl
      · exact gx_catch (nm := eN) ((tableOf M_L_siblings.2.2.2.2.1).take 0) ((tableOf M_L_siblings.2.2.2.2.1)[0]'(by decide)) ((tableOf M_L_siblings.2.2.2.2.1).drop 1) rfl (fun z hz => by cases hz) rfl (by decide) kl_13 (by simp [gNwl]) (fun q => gw_as4 d_L_siblings_13 (gw_push d_L_siblings_15 (gw_iret d_L_siblings_16 rfl (by decide) (by decide) (Or.inr ⟨0, eN, rfl, hq, rfl⟩))))
theorem c_L_counter {p0 p1 p2 p3 : Int32} (hx : h x = some (gO 5 fs)) (hM : SM G l 6 y_F_counter M_F_counter [.ref x, .int p0, .int p1, .int p2, .int p3] h sz 4 24 Q0) (hv : ∀ r h1 sz1, Q0 r h1 sz1 → (∃ (X : Int32) (f : Nat → Int64), r = .inl (some (.int X)) ∧ h1 oa = some (gL 1 f)) ∨ ∃ E, r = .inr E ∧ E ∈ ([eN, eX] : List String)) : SM G l 7 y_L_counter M_L_counter [.ref x, .int p0, .int p1, .int p2, .int p3, .ref oa] h sz 4 24 (lwO Q0 oa [eN, eX]) := by
  refine SM.ofH (lv0 := [some (.ref x), some (.int p0), some (.int p1), some (.int p2), some (.int p3), some (.ref oa), none]) (by decide +kernel) (by decide) ⟨rfl, rfl⟩ rfl (by simp [Value.category]) (Nat.le_of_ble_eq_true rfl) ?_
  refine gw_al5 d_L_counter_0 ?_
  refine gw_push d_L_counter_2 ?_
  refine gw_al0 d_L_counter_3 ?_
  refine gw_il1 d_L_counter_4 ?_
  refine gw_il2 d_L_counter_5 ?_
  refine gw_il3 d_L_counter_6 ?_
  refine gw_il4 d_L_counter_7 ?_
  refine gw_callV (As := [.int p0, .int p1, .int p2, .int p3]) d_L_counter_9 cs_L_counter_9 hx rfl rfl (Nat.le_of_ble_eq_true rfl) ⟨by decide, by decide⟩ (Nat.le_of_ble_eq_true rfl) (Nat.le_of_ble_eq_true rfl) hM (fun v h1 sz1 hq hz => ?_) (fun E h1 sz1 hq hz => ?_)
  · rcases hv _ _ _ hq with ⟨X, f, e1, ho⟩ | ⟨E, e1, -⟩
    · cases e1
      refine gw_i2l d_L_counter_12 ?_
      refine gw_last d_L_counter_13 ho 0 rfl (by omega) (by omega) ?_
      refine gw_goto d_L_counter_14 ?_
      refine gw_push d_L_counter_25 ?_
      exact gw_iret d_L_counter_26 rfl (by decide) (by decide) (Or.inl ⟨X, h1, f, _, hq, ho, rfl, rfl, rfl⟩)
    · cases e1
  · rcases hv _ _ _ hq with ⟨X, f, e1, -⟩ | ⟨E9, e1, hE⟩
    · cases e1
    · cases e1
      simp only [List.mem_cons, List.not_mem_nil, or_false] at hE
      rcases hE with rfl | rfl
      · exact gx_catch (nm := eN) ((tableOf M_L_counter.2.2.2.2.1).take 0) ((tableOf M_L_counter.2.2.2.2.1)[0]'(by decide)) ((tableOf M_L_counter.2.2.2.2.1).drop 1) rfl (fun z hz => by cases hz) rfl (by decide) kl_13 (by simp [gNwl]) (fun q => gw_as6 d_L_counter_17 (gw_push d_L_counter_19 (gw_iret d_L_counter_20 rfl (by decide) (by decide) (Or.inr ⟨0, eN, rfl, hq, rfl⟩))))
      · exact gx_catch (nm := eX) ((tableOf M_L_counter.2.2.2.2.1).take 1) ((tableOf M_L_counter.2.2.2.2.1)[1]'(by decide)) ((tableOf M_L_counter.2.2.2.2.1).drop 2) rfl (fun z hz => by have hz2 : z ∈ [(tableOf M_L_counter.2.2.2.2.1)[0]'(by decide)] := hz; rw [List.mem_singleton.mp hz2]; exact ⟨by decide, eN, kl_13, by simp [gNc]⟩) rfl (by decide) kl_31 (by simp [gNwl]) (fun q => gw_as6 d_L_counter_21 (gw_push d_L_counter_23 (gw_iret d_L_counter_24 rfl (by decide) (by decide) (Or.inr ⟨1, eX, rfl, hq, rfl⟩))))
theorem c_L_byteOf {p0 p1 p2 p3 : Int32} (hx : h x = some (gO 5 fs)) (hM : SM G l 6 y_F_byteOf M_F_byteOf [.ref x, .int p0, .int p1, .int p2, .int p3] h sz 4 24 Q0) (hv : ∀ r h1 sz1, Q0 r h1 sz1 → (∃ (X : Int32) (f : Nat → Int64), r = .inl (some (.int X)) ∧ h1 oa = some (gL 1 f)) ∨ ∃ E, r = .inr E ∧ E ∈ ([eN, eX] : List String)) : SM G l 7 y_L_byteOf M_L_byteOf [.ref x, .int p0, .int p1, .int p2, .int p3, .ref oa] h sz 4 24 (lwO Q0 oa [eN, eX]) := by
  refine SM.ofH (lv0 := [some (.ref x), some (.int p0), some (.int p1), some (.int p2), some (.int p3), some (.ref oa), none]) (by decide +kernel) (by decide) ⟨rfl, rfl⟩ rfl (by simp [Value.category]) (Nat.le_of_ble_eq_true rfl) ?_
  refine gw_al5 d_L_byteOf_0 ?_
  refine gw_push d_L_byteOf_2 ?_
  refine gw_al0 d_L_byteOf_3 ?_
  refine gw_il1 d_L_byteOf_4 ?_
  refine gw_il2 d_L_byteOf_5 ?_
  refine gw_il3 d_L_byteOf_6 ?_
  refine gw_il4 d_L_byteOf_7 ?_
  refine gw_callV (As := [.int p0, .int p1, .int p2, .int p3]) d_L_byteOf_9 cs_L_byteOf_9 hx rfl rfl (Nat.le_of_ble_eq_true rfl) ⟨by decide, by decide⟩ (Nat.le_of_ble_eq_true rfl) (Nat.le_of_ble_eq_true rfl) hM (fun v h1 sz1 hq hz => ?_) (fun E h1 sz1 hq hz => ?_)
  · rcases hv _ _ _ hq with ⟨X, f, e1, ho⟩ | ⟨E, e1, -⟩
    · cases e1
      refine gw_i2l d_L_byteOf_12 ?_
      refine gw_last d_L_byteOf_13 ho 0 rfl (by omega) (by omega) ?_
      refine gw_goto d_L_byteOf_14 ?_
      refine gw_push d_L_byteOf_25 ?_
      exact gw_iret d_L_byteOf_26 rfl (by decide) (by decide) (Or.inl ⟨X, h1, f, _, hq, ho, rfl, rfl, rfl⟩)
    · cases e1
  · rcases hv _ _ _ hq with ⟨X, f, e1, -⟩ | ⟨E9, e1, hE⟩
    · cases e1
    · cases e1
      simp only [List.mem_cons, List.not_mem_nil, or_false] at hE
      rcases hE with rfl | rfl
      · exact gx_catch (nm := eN) ((tableOf M_L_byteOf.2.2.2.2.1).take 0) ((tableOf M_L_byteOf.2.2.2.2.1)[0]'(by decide)) ((tableOf M_L_byteOf.2.2.2.2.1).drop 1) rfl (fun z hz => by cases hz) rfl (by decide) kl_13 (by simp [gNwl]) (fun q => gw_as6 d_L_byteOf_17 (gw_push d_L_byteOf_19 (gw_iret d_L_byteOf_20 rfl (by decide) (by decide) (Or.inr ⟨0, eN, rfl, hq, rfl⟩))))
      · exact gx_catch (nm := eX) ((tableOf M_L_byteOf.2.2.2.2.1).take 1) ((tableOf M_L_byteOf.2.2.2.2.1)[1]'(by decide)) ((tableOf M_L_byteOf.2.2.2.2.1).drop 2) rfl (fun z hz => by have hz2 : z ∈ [(tableOf M_L_byteOf.2.2.2.2.1)[0]'(by decide)] := hz; rw [List.mem_singleton.mp hz2]; exact ⟨by decide, eN, kl_13, by simp [gNc]⟩) rfl (by decide) kl_31 (by simp [gNwl]) (fun q => gw_as6 d_L_byteOf_21 (gw_push d_L_byteOf_23 (gw_iret d_L_byteOf_24 rfl (by decide) (by decide) (Or.inr ⟨1, eX, rfl, hq, rfl⟩))))
theorem c_L_visit {p0 p1 p2 : Int32} (hx : h x = some (gO 5 fs)) (hM : SM G l 11 y_F_visit M_F_visit [.ref x, .int p0, .int p1, .int p2] h sz 146 10380 Q0) (hv : ∀ r h1 sz1, Q0 r h1 sz1 → (∃ (X : Int32) (f : Nat → Int64), r = .inl (some (.int X)) ∧ h1 oa = some (gL 1 f)) ∨ ∃ E, r = .inr E ∧ E ∈ ([eN] : List String)) : SM G l 12 y_L_visit M_L_visit [.ref x, .int p0, .int p1, .int p2, .ref oa] h sz 146 10380 (lwO Q0 oa [eN]) := by
  refine SM.ofH (lv0 := [some (.ref x), some (.int p0), some (.int p1), some (.int p2), some (.ref oa), none]) (by decide +kernel) (by decide) ⟨rfl, rfl⟩ rfl (by simp [Value.category]) (Nat.le_of_ble_eq_true rfl) ?_
  refine gw_al4 d_L_visit_0 ?_
  refine gw_push d_L_visit_2 ?_
  refine gw_al0 d_L_visit_3 ?_
  refine gw_il1 d_L_visit_4 ?_
  refine gw_il2 d_L_visit_5 ?_
  refine gw_il3 d_L_visit_6 ?_
  refine gw_callV (As := [.int p0, .int p1, .int p2]) d_L_visit_7 cs_L_visit_7 hx rfl rfl (Nat.le_of_ble_eq_true rfl) ⟨by decide, by decide⟩ (Nat.le_of_ble_eq_true rfl) (Nat.le_of_ble_eq_true rfl) hM (fun v h1 sz1 hq hz => ?_) (fun E h1 sz1 hq hz => ?_)
  · rcases hv _ _ _ hq with ⟨X, f, e1, ho⟩ | ⟨E, e1, -⟩
    · cases e1
      refine gw_i2l d_L_visit_10 ?_
      refine gw_last d_L_visit_11 ho 0 rfl (by omega) (by omega) ?_
      refine gw_goto d_L_visit_12 ?_
      refine gw_push d_L_visit_19 ?_
      exact gw_iret d_L_visit_20 rfl (by decide) (by decide) (Or.inl ⟨X, h1, f, _, hq, ho, rfl, rfl, rfl⟩)
    · cases e1
  · rcases hv _ _ _ hq with ⟨X, f, e1, -⟩ | ⟨E9, e1, hE⟩
    · cases e1
    · cases e1
      simp only [List.mem_cons, List.not_mem_nil, or_false] at hE
      rcases hE with rfl
      · exact gx_catch (nm := eN) ((tableOf M_L_visit.2.2.2.2.1).take 0) ((tableOf M_L_visit.2.2.2.2.1)[0]'(by decide)) ((tableOf M_L_visit.2.2.2.2.1).drop 1) rfl (fun z hz => by cases hz) rfl (by decide) kl_13 (by simp [gNwl]) (fun q => gw_as5 d_L_visit_15 (gw_push d_L_visit_17 (gw_iret d_L_visit_18 rfl (by decide) (by decide) (Or.inr ⟨0, eN, rfl, hq, rfl⟩))))
theorem c_L_cut {p0 p1 p2 p3 : Int32} (hx : h x = some (gO 5 fs)) (hM : SM G l 11 y_F_cut M_F_cut [.ref x, .int p0, .int p1, .int p2, .int p3] h sz 147 10386 Q0) (hv : ∀ r h1 sz1, Q0 r h1 sz1 → (∃ (X : Int32) (f : Nat → Int64), r = .inl (some (.int X)) ∧ h1 oa = some (gL 1 f)) ∨ ∃ E, r = .inr E ∧ E ∈ ([eN, eI] : List String)) : SM G l 12 y_L_cut M_L_cut [.ref x, .int p0, .int p1, .int p2, .int p3, .ref oa] h sz 147 10386 (lwO Q0 oa [eN, eI]) := by
  refine SM.ofH (lv0 := [some (.ref x), some (.int p0), some (.int p1), some (.int p2), some (.int p3), some (.ref oa), none]) (by decide +kernel) (by decide) ⟨rfl, rfl⟩ rfl (by simp [Value.category]) (Nat.le_of_ble_eq_true rfl) ?_
  refine gw_al5 d_L_cut_0 ?_
  refine gw_push d_L_cut_2 ?_
  refine gw_al0 d_L_cut_3 ?_
  refine gw_il1 d_L_cut_4 ?_
  refine gw_il2 d_L_cut_5 ?_
  refine gw_il3 d_L_cut_6 ?_
  refine gw_il4 d_L_cut_7 ?_
  refine gw_callV (As := [.int p0, .int p1, .int p2, .int p3]) d_L_cut_9 cs_L_cut_9 hx rfl rfl (Nat.le_of_ble_eq_true rfl) ⟨by decide, by decide⟩ (Nat.le_of_ble_eq_true rfl) (Nat.le_of_ble_eq_true rfl) hM (fun v h1 sz1 hq hz => ?_) (fun E h1 sz1 hq hz => ?_)
  · rcases hv _ _ _ hq with ⟨X, f, e1, ho⟩ | ⟨E, e1, -⟩
    · cases e1
      refine gw_i2l d_L_cut_12 ?_
      refine gw_last d_L_cut_13 ho 0 rfl (by omega) (by omega) ?_
      refine gw_goto d_L_cut_14 ?_
      refine gw_push d_L_cut_25 ?_
      exact gw_iret d_L_cut_26 rfl (by decide) (by decide) (Or.inl ⟨X, h1, f, _, hq, ho, rfl, rfl, rfl⟩)
    · cases e1
  · rcases hv _ _ _ hq with ⟨X, f, e1, -⟩ | ⟨E9, e1, hE⟩
    · cases e1
    · cases e1
      simp only [List.mem_cons, List.not_mem_nil, or_false] at hE
      rcases hE with rfl | rfl
      · exact gx_catch (nm := eN) ((tableOf M_L_cut.2.2.2.2.1).take 0) ((tableOf M_L_cut.2.2.2.2.1)[0]'(by decide)) ((tableOf M_L_cut.2.2.2.2.1).drop 1) rfl (fun z hz => by cases hz) rfl (by decide) kl_13 (by simp [gNwl]) (fun q => gw_as6 d_L_cut_17 (gw_push d_L_cut_19 (gw_iret d_L_cut_20 rfl (by decide) (by decide) (Or.inr ⟨0, eN, rfl, hq, rfl⟩))))
      · exact gx_catch (nm := eI) ((tableOf M_L_cut.2.2.2.2.1).take 1) ((tableOf M_L_cut.2.2.2.2.1)[1]'(by decide)) ((tableOf M_L_cut.2.2.2.2.1).drop 2) rfl (fun z hz => by have hz2 : z ∈ [(tableOf M_L_cut.2.2.2.2.1)[0]'(by decide)] := hz; rw [List.mem_singleton.mp hz2]; exact ⟨by decide, eN, kl_13, by simp [gNc]⟩) rfl (by decide) kl_15 (by simp [gNwl]) (fun q => gw_as6 d_L_cut_21 (gw_push d_L_cut_23 (gw_iret d_L_cut_24 rfl (by decide) (by decide) (Or.inr ⟨1, eI, rfl, hq, rfl⟩))))
theorem c_L_lose {p0 : Int32} (hx : h x = some (gO 5 fs)) (hM : SM G l 5 y_F_lose M_F_lose [.ref x, .int p0] h sz 1 6 Q0) (hv : ∀ r h1 sz1, Q0 r h1 sz1 → (∃ (X : Int32) (f : Nat → Int64), r = .inl (some (.int X)) ∧ h1 oa = some (gL 1 f)) ∨ ∃ E, r = .inr E ∧ E ∈ ([eN] : List String)) : SM G l 6 y_L_lose M_L_lose [.ref x, .int p0, .ref oa] h sz 1 6 (lwO Q0 oa [eN]) := by
  refine SM.ofH (lv0 := [some (.ref x), some (.int p0), some (.ref oa), none]) (by decide +kernel) (by decide) ⟨rfl, rfl⟩ rfl (by simp [Value.category]) (Nat.le_of_ble_eq_true rfl) ?_
  refine gw_al2 d_L_lose_0 ?_
  refine gw_push d_L_lose_1 ?_
  refine gw_al0 d_L_lose_2 ?_
  refine gw_il1 d_L_lose_3 ?_
  refine gw_callV (As := [.int p0]) d_L_lose_4 cs_L_lose_4 hx rfl rfl (Nat.le_of_ble_eq_true rfl) ⟨by decide, by decide⟩ (Nat.le_of_ble_eq_true rfl) (Nat.le_of_ble_eq_true rfl) hM (fun v h1 sz1 hq hz => ?_) (fun E h1 sz1 hq hz => ?_)
  · rcases hv _ _ _ hq with ⟨X, f, e1, ho⟩ | ⟨E, e1, -⟩
    · cases e1
      refine gw_i2l d_L_lose_7 ?_
      refine gw_last d_L_lose_8 ho 0 rfl (by omega) (by omega) ?_
      refine gw_goto d_L_lose_9 ?_
      refine gw_push d_L_lose_15 ?_
      exact gw_iret d_L_lose_16 rfl (by decide) (by decide) (Or.inl ⟨X, h1, f, _, hq, ho, rfl, rfl, rfl⟩)
    · cases e1
  · rcases hv _ _ _ hq with ⟨X, f, e1, -⟩ | ⟨E9, e1, hE⟩
    · cases e1
    · cases e1
      simp only [List.mem_cons, List.not_mem_nil, or_false] at hE
      rcases hE with rfl
      · exact gx_catch (nm := eN) ((tableOf M_L_lose.2.2.2.2.1).take 0) ((tableOf M_L_lose.2.2.2.2.1)[0]'(by decide)) ((tableOf M_L_lose.2.2.2.2.1).drop 1) rfl (fun z hz => by cases hz) rfl (by decide) kl_13 (by simp [gNwl]) (fun q => gw_as3 d_L_lose_12 (gw_push d_L_lose_13 (gw_iret d_L_lose_14 rfl (by decide) (by decide) (Or.inr ⟨0, eN, rfl, hq, rfl⟩))))
theorem c_L_known {p0 p1 p2 p3 : Int32} (hx : h x = some (gO 5 fs)) (hM : SM G l 5 y_F_known M_F_known [.ref x, .int p0, .int p1, .int p2, .int p3] h sz 4 24 Q0) (hv : ∀ r h1 sz1, Q0 r h1 sz1 → (∃ (X : Int32) (f : Nat → Int64), r = .inl (some (.int X)) ∧ h1 oa = some (gL 1 f)) ∨ ∃ E, r = .inr E ∧ E ∈ ([eN, eX] : List String)) : SM G l 6 y_L_known M_L_known [.ref x, .int p0, .int p1, .int p2, .int p3, .ref oa] h sz 4 24 (lwO Q0 oa [eN, eX]) := by
  refine SM.ofH (lv0 := [some (.ref x), some (.int p0), some (.int p1), some (.int p2), some (.int p3), some (.ref oa), none]) (by decide +kernel) (by decide) ⟨rfl, rfl⟩ rfl (by simp [Value.category]) (Nat.le_of_ble_eq_true rfl) ?_
  refine gw_al5 d_L_known_0 ?_
  refine gw_push d_L_known_2 ?_
  refine gw_al0 d_L_known_3 ?_
  refine gw_il1 d_L_known_4 ?_
  refine gw_il2 d_L_known_5 ?_
  refine gw_il3 d_L_known_6 ?_
  refine gw_il4 d_L_known_7 ?_
  refine gw_callV (As := [.int p0, .int p1, .int p2, .int p3]) d_L_known_9 cs_L_known_9 hx rfl rfl (Nat.le_of_ble_eq_true rfl) ⟨by decide, by decide⟩ (Nat.le_of_ble_eq_true rfl) (Nat.le_of_ble_eq_true rfl) hM (fun v h1 sz1 hq hz => ?_) (fun E h1 sz1 hq hz => ?_)
  · rcases hv _ _ _ hq with ⟨X, f, e1, ho⟩ | ⟨E, e1, -⟩
    · cases e1
      refine gw_i2l d_L_known_12 ?_
      refine gw_last d_L_known_13 ho 0 rfl (by omega) (by omega) ?_
      refine gw_goto d_L_known_14 ?_
      refine gw_push d_L_known_25 ?_
      exact gw_iret d_L_known_26 rfl (by decide) (by decide) (Or.inl ⟨X, h1, f, _, hq, ho, rfl, rfl, rfl⟩)
    · cases e1
  · rcases hv _ _ _ hq with ⟨X, f, e1, -⟩ | ⟨E9, e1, hE⟩
    · cases e1
    · cases e1
      simp only [List.mem_cons, List.not_mem_nil, or_false] at hE
      rcases hE with rfl | rfl
      · exact gx_catch (nm := eN) ((tableOf M_L_known.2.2.2.2.1).take 0) ((tableOf M_L_known.2.2.2.2.1)[0]'(by decide)) ((tableOf M_L_known.2.2.2.2.1).drop 1) rfl (fun z hz => by cases hz) rfl (by decide) kl_13 (by simp [gNwl]) (fun q => gw_as6 d_L_known_17 (gw_push d_L_known_19 (gw_iret d_L_known_20 rfl (by decide) (by decide) (Or.inr ⟨0, eN, rfl, hq, rfl⟩))))
      · exact gx_catch (nm := eX) ((tableOf M_L_known.2.2.2.2.1).take 1) ((tableOf M_L_known.2.2.2.2.1)[1]'(by decide)) ((tableOf M_L_known.2.2.2.2.1).drop 2) rfl (fun z hz => by have hz2 : z ∈ [(tableOf M_L_known.2.2.2.2.1)[0]'(by decide)] := hz; rw [List.mem_singleton.mp hz2]; exact ⟨by decide, eN, kl_13, by simp [gNc]⟩) rfl (by decide) kl_31 (by simp [gNwl]) (fun q => gw_as6 d_L_known_21 (gw_push d_L_known_23 (gw_iret d_L_known_24 rfl (by decide) (by decide) (Or.inr ⟨1, eX, rfl, hq, rfl⟩))))
theorem c_L_marks {p0 : Int32} (hx : h x = some (gO 5 fs)) (hM : SM G l 5 y_F_marks M_F_marks [.ref x, .int p0] h sz 4 24 Q0) (hv : ∀ r h1 sz1, Q0 r h1 sz1 → (∃ (X : Int32) (f : Nat → Int64), r = .inl (some (.int X)) ∧ h1 oa = some (gL 1 f)) ∨ ∃ E, r = .inr E ∧ E ∈ ([eN] : List String)) : SM G l 6 y_L_marks M_L_marks [.ref x, .int p0, .ref oa] h sz 4 24 (lwO Q0 oa [eN]) := by
  refine SM.ofH (lv0 := [some (.ref x), some (.int p0), some (.ref oa), none]) (by decide +kernel) (by decide) ⟨rfl, rfl⟩ rfl (by simp [Value.category]) (Nat.le_of_ble_eq_true rfl) ?_
  refine gw_al2 d_L_marks_0 ?_
  refine gw_push d_L_marks_1 ?_
  refine gw_al0 d_L_marks_2 ?_
  refine gw_il1 d_L_marks_3 ?_
  refine gw_callV (As := [.int p0]) d_L_marks_4 cs_L_marks_4 hx rfl rfl (Nat.le_of_ble_eq_true rfl) ⟨by decide, by decide⟩ (Nat.le_of_ble_eq_true rfl) (Nat.le_of_ble_eq_true rfl) hM (fun v h1 sz1 hq hz => ?_) (fun E h1 sz1 hq hz => ?_)
  · rcases hv _ _ _ hq with ⟨X, f, e1, ho⟩ | ⟨E, e1, -⟩
    · cases e1
      refine gw_i2l d_L_marks_7 ?_
      refine gw_last d_L_marks_8 ho 0 rfl (by omega) (by omega) ?_
      refine gw_goto d_L_marks_9 ?_
      refine gw_push d_L_marks_15 ?_
      exact gw_iret d_L_marks_16 rfl (by decide) (by decide) (Or.inl ⟨X, h1, f, _, hq, ho, rfl, rfl, rfl⟩)
    · cases e1
  · rcases hv _ _ _ hq with ⟨X, f, e1, -⟩ | ⟨E9, e1, hE⟩
    · cases e1
    · cases e1
      simp only [List.mem_cons, List.not_mem_nil, or_false] at hE
      rcases hE with rfl
      · exact gx_catch (nm := eN) ((tableOf M_L_marks.2.2.2.2.1).take 0) ((tableOf M_L_marks.2.2.2.2.1)[0]'(by decide)) ((tableOf M_L_marks.2.2.2.2.1).drop 1) rfl (fun z hz => by cases hz) rfl (by decide) kl_13 (by simp [gNwl]) (fun q => gw_as3 d_L_marks_12 (gw_push d_L_marks_13 (gw_iret d_L_marks_14 rfl (by decide) (by decide) (Or.inr ⟨0, eN, rfl, hq, rfl⟩))))
theorem c_L_bytes {p0 : Int32} (hx : h x = some (gO 5 fs)) (hM : SM G l 5 y_F_bytes M_F_bytes [.ref x, .int p0] h sz 4 24 Q0) (hv : ∀ r h1 sz1, Q0 r h1 sz1 → (∃ (X : Int32) (f : Nat → Int64), r = .inl (some (.int X)) ∧ h1 oa = some (gL 1 f)) ∨ ∃ E, r = .inr E ∧ E ∈ ([eN] : List String)) : SM G l 6 y_L_bytes M_L_bytes [.ref x, .int p0, .ref oa] h sz 4 24 (lwO Q0 oa [eN]) := by
  refine SM.ofH (lv0 := [some (.ref x), some (.int p0), some (.ref oa), none]) (by decide +kernel) (by decide) ⟨rfl, rfl⟩ rfl (by simp [Value.category]) (Nat.le_of_ble_eq_true rfl) ?_
  refine gw_al2 d_L_bytes_0 ?_
  refine gw_push d_L_bytes_1 ?_
  refine gw_al0 d_L_bytes_2 ?_
  refine gw_il1 d_L_bytes_3 ?_
  refine gw_callV (As := [.int p0]) d_L_bytes_4 cs_L_bytes_4 hx rfl rfl (Nat.le_of_ble_eq_true rfl) ⟨by decide, by decide⟩ (Nat.le_of_ble_eq_true rfl) (Nat.le_of_ble_eq_true rfl) hM (fun v h1 sz1 hq hz => ?_) (fun E h1 sz1 hq hz => ?_)
  · rcases hv _ _ _ hq with ⟨X, f, e1, ho⟩ | ⟨E, e1, -⟩
    · cases e1
      refine gw_i2l d_L_bytes_7 ?_
      refine gw_last d_L_bytes_8 ho 0 rfl (by omega) (by omega) ?_
      refine gw_goto d_L_bytes_9 ?_
      refine gw_push d_L_bytes_15 ?_
      exact gw_iret d_L_bytes_16 rfl (by decide) (by decide) (Or.inl ⟨X, h1, f, _, hq, ho, rfl, rfl, rfl⟩)
    · cases e1
  · rcases hv _ _ _ hq with ⟨X, f, e1, -⟩ | ⟨E9, e1, hE⟩
    · cases e1
    · cases e1
      simp only [List.mem_cons, List.not_mem_nil, or_false] at hE
      rcases hE with rfl
      · exact gx_catch (nm := eN) ((tableOf M_L_bytes.2.2.2.2.1).take 0) ((tableOf M_L_bytes.2.2.2.2.1)[0]'(by decide)) ((tableOf M_L_bytes.2.2.2.2.1).drop 1) rfl (fun z hz => by cases hz) rfl (by decide) kl_13 (by simp [gNwl]) (fun q => gw_as3 d_L_bytes_12 (gw_push d_L_bytes_13 (gw_iret d_L_bytes_14 rfl (by decide) (by decide) (Or.inr ⟨0, eN, rfl, hq, rfl⟩))))
theorem c_L_room {p0 : Int32} (hx : h x = some (gO 5 fs)) (hM : SM G l 5 y_F_room M_F_room [.ref x, .int p0] h sz 4 24 Q0) (hv : ∀ r h1 sz1, Q0 r h1 sz1 → (∃ (X : Int32) (f : Nat → Int64), r = .inl (some (.int X)) ∧ h1 oa = some (gL 1 f)) ∨ ∃ E, r = .inr E ∧ E ∈ ([eN] : List String)) : SM G l 6 y_L_room M_L_room [.ref x, .int p0, .ref oa] h sz 4 24 (lwO Q0 oa [eN]) := by
  refine SM.ofH (lv0 := [some (.ref x), some (.int p0), some (.ref oa), none]) (by decide +kernel) (by decide) ⟨rfl, rfl⟩ rfl (by simp [Value.category]) (Nat.le_of_ble_eq_true rfl) ?_
  refine gw_al2 d_L_room_0 ?_
  refine gw_push d_L_room_1 ?_
  refine gw_al0 d_L_room_2 ?_
  refine gw_il1 d_L_room_3 ?_
  refine gw_callV (As := [.int p0]) d_L_room_4 cs_L_room_4 hx rfl rfl (Nat.le_of_ble_eq_true rfl) ⟨by decide, by decide⟩ (Nat.le_of_ble_eq_true rfl) (Nat.le_of_ble_eq_true rfl) hM (fun v h1 sz1 hq hz => ?_) (fun E h1 sz1 hq hz => ?_)
  · rcases hv _ _ _ hq with ⟨X, f, e1, ho⟩ | ⟨E, e1, -⟩
    · cases e1
      refine gw_i2l d_L_room_7 ?_
      refine gw_last d_L_room_8 ho 0 rfl (by omega) (by omega) ?_
      refine gw_goto d_L_room_9 ?_
      refine gw_push d_L_room_15 ?_
      exact gw_iret d_L_room_16 rfl (by decide) (by decide) (Or.inl ⟨X, h1, f, _, hq, ho, rfl, rfl, rfl⟩)
    · cases e1
  · rcases hv _ _ _ hq with ⟨X, f, e1, -⟩ | ⟨E9, e1, hE⟩
    · cases e1
    · cases e1
      simp only [List.mem_cons, List.not_mem_nil, or_false] at hE
      rcases hE with rfl
      · exact gx_catch (nm := eN) ((tableOf M_L_room.2.2.2.2.1).take 0) ((tableOf M_L_room.2.2.2.2.1)[0]'(by decide)) ((tableOf M_L_room.2.2.2.2.1).drop 1) rfl (fun z hz => by cases hz) rfl (by decide) kl_13 (by simp [gNwl]) (fun q => gw_as3 d_L_room_12 (gw_push d_L_room_13 (gw_iret d_L_room_14 rfl (by decide) (by decide) (Or.inr ⟨0, eN, rfl, hq, rfl⟩))))
theorem c_L_item {p0 p1 p2 : Int32} (hx : h x = some (gO 5 fs)) (hM : SM G l 5 y_F_item M_F_item [.ref x, .int p0, .int p1, .int p2] h sz 4 24 Q0) (hv : ∀ r h1 sz1, Q0 r h1 sz1 → (∃ (X : Int32) (f : Nat → Int64), r = .inl (some (.int X)) ∧ h1 oa = some (gL 1 f)) ∨ ∃ E, r = .inr E ∧ E ∈ ([eN, eX] : List String)) : SM G l 6 y_L_item M_L_item [.ref x, .int p0, .int p1, .int p2, .ref oa] h sz 4 24 (lwO Q0 oa [eN, eX]) := by
  refine SM.ofH (lv0 := [some (.ref x), some (.int p0), some (.int p1), some (.int p2), some (.ref oa), none]) (by decide +kernel) (by decide) ⟨rfl, rfl⟩ rfl (by simp [Value.category]) (Nat.le_of_ble_eq_true rfl) ?_
  refine gw_al4 d_L_item_0 ?_
  refine gw_push d_L_item_2 ?_
  refine gw_al0 d_L_item_3 ?_
  refine gw_il1 d_L_item_4 ?_
  refine gw_il2 d_L_item_5 ?_
  refine gw_il3 d_L_item_6 ?_
  refine gw_callV (As := [.int p0, .int p1, .int p2]) d_L_item_7 cs_L_item_7 hx rfl rfl (Nat.le_of_ble_eq_true rfl) ⟨by decide, by decide⟩ (Nat.le_of_ble_eq_true rfl) (Nat.le_of_ble_eq_true rfl) hM (fun v h1 sz1 hq hz => ?_) (fun E h1 sz1 hq hz => ?_)
  · rcases hv _ _ _ hq with ⟨X, f, e1, ho⟩ | ⟨E, e1, -⟩
    · cases e1
      refine gw_i2l d_L_item_10 ?_
      refine gw_last d_L_item_11 ho 0 rfl (by omega) (by omega) ?_
      refine gw_goto d_L_item_12 ?_
      refine gw_push d_L_item_23 ?_
      exact gw_iret d_L_item_24 rfl (by decide) (by decide) (Or.inl ⟨X, h1, f, _, hq, ho, rfl, rfl, rfl⟩)
    · cases e1
  · rcases hv _ _ _ hq with ⟨X, f, e1, -⟩ | ⟨E9, e1, hE⟩
    · cases e1
    · cases e1
      simp only [List.mem_cons, List.not_mem_nil, or_false] at hE
      rcases hE with rfl | rfl
      · exact gx_catch (nm := eN) ((tableOf M_L_item.2.2.2.2.1).take 0) ((tableOf M_L_item.2.2.2.2.1)[0]'(by decide)) ((tableOf M_L_item.2.2.2.2.1).drop 1) rfl (fun z hz => by cases hz) rfl (by decide) kl_13 (by simp [gNwl]) (fun q => gw_as5 d_L_item_15 (gw_push d_L_item_17 (gw_iret d_L_item_18 rfl (by decide) (by decide) (Or.inr ⟨0, eN, rfl, hq, rfl⟩))))
      · exact gx_catch (nm := eX) ((tableOf M_L_item.2.2.2.2.1).take 1) ((tableOf M_L_item.2.2.2.2.1)[1]'(by decide)) ((tableOf M_L_item.2.2.2.2.1).drop 2) rfl (fun z hz => by have hz2 : z ∈ [(tableOf M_L_item.2.2.2.2.1)[0]'(by decide)] := hz; rw [List.mem_singleton.mp hz2]; exact ⟨by decide, eN, kl_13, by simp [gNc]⟩) rfl (by decide) kl_31 (by simp [gNwl]) (fun q => gw_as5 d_L_item_19 (gw_push d_L_item_21 (gw_iret d_L_item_22 rfl (by decide) (by decide) (Or.inr ⟨1, eX, rfl, hq, rfl⟩))))
theorem c_L_same {p0 p1 : Int32} (hx : h x = some (gO 5 fs)) (hM : SM G l 6 y_F_same M_F_same [.ref x, .int p0, .int p1] h sz 4 24 Q0) (hv : ∀ r h1 sz1, Q0 r h1 sz1 → (∃ (X : Int32) (f : Nat → Int64), r = .inl (some (.int X)) ∧ h1 oa = some (gL 1 f) ∧ (X = 0 ∨ X = 1)) ∨ ∃ E, r = .inr E ∧ E ∈ ([eN] : List String)) : SM G l 7 y_L_same M_L_same [.ref x, .int p0, .int p1, .ref oa] h sz 4 24 (lwO Q0 oa [eN]) := by
  refine SM.ofH (lv0 := [some (.ref x), some (.int p0), some (.int p1), some (.ref oa), none]) (by decide +kernel) (by decide) ⟨rfl, rfl⟩ rfl (by simp [Value.category]) (Nat.le_of_ble_eq_true rfl) ?_
  refine gw_al3 d_L_same_0 ?_
  refine gw_push d_L_same_1 ?_
  refine gw_al0 d_L_same_2 ?_
  refine gw_il1 d_L_same_3 ?_
  refine gw_il2 d_L_same_4 ?_
  refine gw_callV (As := [.int p0, .int p1]) d_L_same_5 cs_L_same_5 hx rfl rfl (Nat.le_of_ble_eq_true rfl) ⟨by decide, by decide⟩ (Nat.le_of_ble_eq_true rfl) (Nat.le_of_ble_eq_true rfl) hM (fun v h1 sz1 hq hz => ?_) (fun E h1 sz1 hq hz => ?_)
  · rcases hv _ _ _ hq with ⟨X, f, e1, ho, hX⟩ | ⟨E, e1, -⟩
    · cases e1
      rcases hX with rfl | rfl
      · refine gw_ifeq d_L_same_8 (fun c_8 => ?_) (fun c_8 => absurd rfl c_8)
        refine gw_lconst (v := 0) d_L_same_15 (by decide) ?_
        refine gw_last d_L_same_16 ho 0 rfl (by omega) (by omega) ?_
        refine gw_goto d_L_same_17 ?_
        refine gw_push d_L_same_24 ?_
        exact gw_iret d_L_same_25 rfl (by decide) (by decide) (Or.inl ⟨_, h1, f, _, hq, ho, rfl, rfl, rfl⟩)
      · refine gw_ifeq d_L_same_8 (fun c_8 => absurd c_8 (by decide)) (fun c_8 => ?_)
        refine gw_lconst (v := 1) d_L_same_11 (by decide) ?_
        refine gw_goto d_L_same_12 ?_
        refine gw_last d_L_same_16 ho 0 rfl (by omega) (by omega) ?_
        refine gw_goto d_L_same_17 ?_
        refine gw_push d_L_same_24 ?_
        exact gw_iret d_L_same_25 rfl (by decide) (by decide) (Or.inl ⟨_, h1, f, _, hq, ho, rfl, rfl, rfl⟩)
    · cases e1
  · rcases hv _ _ _ hq with ⟨X, f, e1, -⟩ | ⟨E9, e1, hE⟩
    · cases e1
    · cases e1
      simp only [List.mem_cons, List.not_mem_nil, or_false] at hE
      rcases hE with rfl
      · exact gx_catch (nm := eN) ((tableOf M_L_same.2.2.2.2.1).take 0) ((tableOf M_L_same.2.2.2.2.1)[0]'(by decide)) ((tableOf M_L_same.2.2.2.2.1).drop 1) rfl (fun z hz => by cases hz) rfl (by decide) kl_13 (by simp [gNwl]) (fun q => gw_as4 d_L_same_20 (gw_push d_L_same_22 (gw_iret d_L_same_23 rfl (by decide) (by decide) (Or.inr ⟨0, eN, rfl, hq, rfl⟩))))
theorem c_L_edit {p0 p1 p2 p3 : Int32} (hx : h x = some (gO 5 fs)) (hM : SM G l 10 y_F_edit M_F_edit [.ref x, .int p0, .int p1, .int p2, .int p3] h sz 6 98 Q0) (hv : ∀ r h1 sz1, Q0 r h1 sz1 → r = .inl none ∨ ∃ E, r = .inr E ∧ E ∈ ([eN, eI, eU] : List String)) : SM G l 11 y_L_edit M_L_edit [.ref x, .int p0, .int p1, .int p2, .int p3] h sz 6 98 (lwV Q0 [eN, eI, eU]) := by
  refine SM.ofH (lv0 := [some (.ref x), some (.int p0), some (.int p1), some (.int p2), some (.int p3), none]) (by decide +kernel) (by decide) ⟨rfl, rfl⟩ rfl (by simp [Value.category]) (Nat.le_of_ble_eq_true rfl) ?_
  refine gw_al0 d_L_edit_0 ?_
  refine gw_il1 d_L_edit_1 ?_
  refine gw_il2 d_L_edit_2 ?_
  refine gw_il3 d_L_edit_3 ?_
  refine gw_il4 d_L_edit_4 ?_
  refine gw_callV (As := [.int p0, .int p1, .int p2, .int p3]) d_L_edit_6 cs_L_edit_6 hx rfl rfl (Nat.le_of_ble_eq_true rfl) ⟨by decide, by decide⟩ (Nat.le_of_ble_eq_true rfl) (Nat.le_of_ble_eq_true rfl) hM (fun v h1 sz1 hq hz => ?_) (fun E h1 sz1 hq hz => ?_)
  · rcases hv _ _ _ hq with e1 | ⟨E, e1, -⟩
    · cases e1
      refine gw_goto d_L_edit_9 ?_
      refine gw_push d_L_edit_24 ?_
      exact gw_iret d_L_edit_25 rfl (by decide) (by decide) (Or.inl ⟨hq, rfl⟩)
    · cases e1
  · rcases hv _ _ _ hq with e1 | ⟨E9, e1, hE⟩
    · cases e1
    · cases e1
      simp only [List.mem_cons, List.not_mem_nil, or_false] at hE
      rcases hE with rfl | rfl | rfl
      · exact gx_catch (nm := eN) ((tableOf M_L_edit.2.2.2.2.1).take 0) ((tableOf M_L_edit.2.2.2.2.1)[0]'(by decide)) ((tableOf M_L_edit.2.2.2.2.1).drop 1) rfl (fun z hz => by cases hz) rfl (by decide) kl_13 (by simp [gNwl]) (fun q => gw_as5 d_L_edit_12 (gw_push d_L_edit_14 (gw_iret d_L_edit_15 rfl (by decide) (by decide) (Or.inr ⟨0, eN, rfl, hq, rfl⟩))))
      · exact gx_catch (nm := eI) ((tableOf M_L_edit.2.2.2.2.1).take 1) ((tableOf M_L_edit.2.2.2.2.1)[1]'(by decide)) ((tableOf M_L_edit.2.2.2.2.1).drop 2) rfl (fun z hz => by have hz2 : z ∈ [(tableOf M_L_edit.2.2.2.2.1)[0]'(by decide)] := hz; rw [List.mem_singleton.mp hz2]; exact ⟨by decide, eN, kl_13, by simp [gNc]⟩) rfl (by decide) kl_15 (by simp [gNwl]) (fun q => gw_as5 d_L_edit_16 (gw_push d_L_edit_18 (gw_iret d_L_edit_19 rfl (by decide) (by decide) (Or.inr ⟨1, eI, rfl, hq, rfl⟩))))
      · exact gx_catch (nm := eU) ((tableOf M_L_edit.2.2.2.2.1).take 2) ((tableOf M_L_edit.2.2.2.2.1)[2]'(by decide)) ((tableOf M_L_edit.2.2.2.2.1).drop 3) rfl (fun z hz => by have hz2 : z ∈ [(tableOf M_L_edit.2.2.2.2.1)[0]'(by decide), (tableOf M_L_edit.2.2.2.2.1)[1]'(by decide)] := hz; rcases List.mem_cons.mp hz2 with q | q; (· rw [q]; exact ⟨by decide, eN, kl_13, by simp [gNc]⟩); rw [List.mem_singleton.mp q]; exact ⟨by decide, eI, kl_15, by simp [gNc]⟩) rfl (by decide) kl_17 (by simp [gNwl]) (fun q => gw_as5 d_L_edit_20 (gw_push d_L_edit_22 (gw_iret d_L_edit_23 rfl (by decide) (by decide) (Or.inr ⟨2, eU, rfl, hq, rfl⟩))))
theorem c_L_erase {p0 p1 : Int32} (hx : h x = some (gO 5 fs)) (hM : SM G l 10 y_F_erase M_F_erase [.ref x, .int p0, .int p1] h sz 6 98 Q0) (hv : ∀ r h1 sz1, Q0 r h1 sz1 → r = .inl none ∨ ∃ E, r = .inr E ∧ E ∈ ([eN, eU] : List String)) : SM G l 11 y_L_erase M_L_erase [.ref x, .int p0, .int p1] h sz 6 98 (lwV Q0 [eN, eU]) := by
  refine SM.ofH (lv0 := [some (.ref x), some (.int p0), some (.int p1), none]) (by decide +kernel) (by decide) ⟨rfl, rfl⟩ rfl (by simp [Value.category]) (Nat.le_of_ble_eq_true rfl) ?_
  refine gw_al0 d_L_erase_0 ?_
  refine gw_il1 d_L_erase_1 ?_
  refine gw_il2 d_L_erase_2 ?_
  refine gw_callV (As := [.int p0, .int p1]) d_L_erase_3 cs_L_erase_3 hx rfl rfl (Nat.le_of_ble_eq_true rfl) ⟨by decide, by decide⟩ (Nat.le_of_ble_eq_true rfl) (Nat.le_of_ble_eq_true rfl) hM (fun v h1 sz1 hq hz => ?_) (fun E h1 sz1 hq hz => ?_)
  · rcases hv _ _ _ hq with e1 | ⟨E, e1, -⟩
    · cases e1
      refine gw_goto d_L_erase_6 ?_
      refine gw_push d_L_erase_15 ?_
      exact gw_iret d_L_erase_16 rfl (by decide) (by decide) (Or.inl ⟨hq, rfl⟩)
    · cases e1
  · rcases hv _ _ _ hq with e1 | ⟨E9, e1, hE⟩
    · cases e1
    · cases e1
      simp only [List.mem_cons, List.not_mem_nil, or_false] at hE
      rcases hE with rfl | rfl
      · exact gx_catch (nm := eN) ((tableOf M_L_erase.2.2.2.2.1).take 0) ((tableOf M_L_erase.2.2.2.2.1)[0]'(by decide)) ((tableOf M_L_erase.2.2.2.2.1).drop 1) rfl (fun z hz => by cases hz) rfl (by decide) kl_13 (by simp [gNwl]) (fun q => gw_as3 d_L_erase_9 (gw_push d_L_erase_10 (gw_iret d_L_erase_11 rfl (by decide) (by decide) (Or.inr ⟨0, eN, rfl, hq, rfl⟩))))
      · exact gx_catch (nm := eU) ((tableOf M_L_erase.2.2.2.2.1).take 1) ((tableOf M_L_erase.2.2.2.2.1)[1]'(by decide)) ((tableOf M_L_erase.2.2.2.2.1).drop 2) rfl (fun z hz => by have hz2 : z ∈ [(tableOf M_L_erase.2.2.2.2.1)[0]'(by decide)] := hz; rw [List.mem_singleton.mp hz2]; exact ⟨by decide, eN, kl_13, by simp [gNc]⟩) rfl (by decide) kl_17 (by simp [gNwl]) (fun q => gw_as3 d_L_erase_12 (gw_push d_L_erase_13 (gw_iret d_L_erase_14 rfl (by decide) (by decide) (Or.inr ⟨1, eU, rfl, hq, rfl⟩))))
theorem c_L_copy {p0 p1 : Int32} (hx : h x = some (gO 5 fs)) (hM : SM G l 9 y_F_copy M_F_copy [.ref x, .int p0, .int p1] h sz 50 3468 Q0) (hv : ∀ r h1 sz1, Q0 r h1 sz1 → r = .inl none ∨ ∃ E, r = .inr E ∧ E ∈ ([eN] : List String)) : SM G l 10 y_L_copy M_L_copy [.ref x, .int p0, .int p1] h sz 50 3468 (lwV Q0 [eN]) := by
  refine SM.ofH (lv0 := [some (.ref x), some (.int p0), some (.int p1), none]) (by decide +kernel) (by decide) ⟨rfl, rfl⟩ rfl (by simp [Value.category]) (Nat.le_of_ble_eq_true rfl) ?_
  refine gw_al0 d_L_copy_0 ?_
  refine gw_il1 d_L_copy_1 ?_
  refine gw_il2 d_L_copy_2 ?_
  refine gw_callV (As := [.int p0, .int p1]) d_L_copy_3 cs_L_copy_3 hx rfl rfl (Nat.le_of_ble_eq_true rfl) ⟨by decide, by decide⟩ (Nat.le_of_ble_eq_true rfl) (Nat.le_of_ble_eq_true rfl) hM (fun v h1 sz1 hq hz => ?_) (fun E h1 sz1 hq hz => ?_)
  · rcases hv _ _ _ hq with e1 | ⟨E, e1, -⟩
    · cases e1
      refine gw_goto d_L_copy_6 ?_
      refine gw_push d_L_copy_12 ?_
      exact gw_iret d_L_copy_13 rfl (by decide) (by decide) (Or.inl ⟨hq, rfl⟩)
    · cases e1
  · rcases hv _ _ _ hq with e1 | ⟨E9, e1, hE⟩
    · cases e1
    · cases e1
      simp only [List.mem_cons, List.not_mem_nil, or_false] at hE
      rcases hE with rfl
      · exact gx_catch (nm := eN) ((tableOf M_L_copy.2.2.2.2.1).take 0) ((tableOf M_L_copy.2.2.2.2.1)[0]'(by decide)) ((tableOf M_L_copy.2.2.2.2.1).drop 1) rfl (fun z hz => by cases hz) rfl (by decide) kl_13 (by simp [gNwl]) (fun q => gw_as3 d_L_copy_9 (gw_push d_L_copy_10 (gw_iret d_L_copy_11 rfl (by decide) (by decide) (Or.inr ⟨0, eN, rfl, hq, rfl⟩))))
end Wrap
