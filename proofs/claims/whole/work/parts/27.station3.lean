/-! ===== Station: contracts that change it (2) ===== -/
theorem del_take {L F : List Nat} {k y : Nat} (hk : 0 < k) (hkL : k ≤ L.length) (hy : L[k - 1]? = some y) : delA (L.take k ++ F) (k - 1) = L.take (k - 1) ++ F := by
  have h1 : L.take k = L.take (k - 1) ++ [y] := by
    have := take_s hy
    rwa [show k - 1 + 1 = k by omega] at this
  unfold delA
  have hl : (L.take (k - 1)).length = k - 1 := by simp; omega
  have hl2 : (L.take k).length = k := by simp; omega
  rw [show k - 1 + 1 = k by omega, List.take_append_of_le_length (by rw [hl2]; omega), List.take_take, Nat.min_eq_left (by omega), List.drop_append_of_le_length (by rw [hl2]; omega), List.drop_eq_nil_of_le (by rw [hl2]; omega), List.nil_append]
theorem keep_take {L : List Nat} {p : Nat → Bool} {k y : Nat} (hk : 0 < k) (hy : L[k - 1]? = some y) (hp : p y = true) : L.take k ++ (L.drop k).filter p = L.take (k - 1) ++ (L.drop (k - 1)).filter p := by
  have h1 : L.take k = L.take (k - 1) ++ [y] := by
    have := take_s hy
    rwa [show k - 1 + 1 = k by omega] at this
  rw [drop_c hy, List.filter_cons, if_pos hp, h1, show k - 1 + 1 = k by omega, List.append_assoc]; rfl
theorem gone_take {L : List Nat} {p : Nat → Bool} {k y : Nat} (hk : 0 < k) (hy : L[k - 1]? = some y) (hp : p y = false) : L.take (k - 1) ++ (L.drop k).filter p = L.take (k - 1) ++ (L.drop (k - 1)).filter p := by
  rw [drop_c hy, List.filter_cons, if_neg (by rw [hp]; decide), show k - 1 + 1 = k by omega]
theorem cur_get {L F : List Nat} {k y : Nat} (hk : 0 < k) (hkL : k ≤ L.length) (hy : L[k - 1]? = some y) : (L.take k ++ F)[k - 1]? = some y := by
  rw [List.getElem?_append_left (by simp; omega), List.getElem?_take_of_lt (by omega)]; exact hy
/-- a list stays when another kind of cell changes -/
theorem LV.other {G : gG} {h : gHp} {a e b : Nat} {L : List Nat} {E E' : gE} (hL : LV G h a e L) (hb : h b = some E) (h0 : ∀ fs, E ≠ gO 0 fs ∧ E ≠ gO 4 fs) (h4 : ∀ n g, E ≠ gR 4 n g) : LV G (gUp h b E') a e L := by
  obtain ⟨⟨mo, ha⟩, h48, hel, h3⟩ := hL
  have hab : a ≠ b := by rintro rfl; rw [ha] at hb; exact (h0 _).1 (Option.some.inj hb).symm
  refine ⟨⟨mo, by rw [gUp_ne _ _ hab]; exact ha⟩, h48, fun y hy => ?_, ?_⟩
  · obtain ⟨fs, hfs⟩ := hel y hy
    refine ⟨fs, ?_⟩
    rw [gUp_ne]
    · exact hfs
    · rintro rfl; rw [hfs] at hb; exact (h0 _).2 (Option.some.inj hb).symm
  · rcases h3 with q | ⟨cap, g, q1, q2⟩
    · exact Or.inl q
    · refine Or.inr ⟨cap, g, ?_, q2⟩
      rw [gUp_ne]
      · exact q1
      · rintro rfl; rw [q1] at hb; exact h4 _ _ (Option.some.inj hb).symm
section Sta3
variable {G : gG} {l : Launch} {h : gHp} {sz : Nat} {V : gV} {s i a e t c : Nat} {L : List Nat} {f : Nat → Int32} {x : Nat}
theorem c_S_removeReplaced (hV : SV G V h s i a e L t c f) (hx : VA h V x) : SM G l 4 y_S_removeReplaced M_S_removeReplaced [.ref s, .ref x] h sz 0 0 (qV (fun h' sz' => LV G h' a e (L.filter (fun y => !vRp V x y)) ∧ Fr h h' sz [a, e] ∧ sz' = sz)) := by
  obtain ⟨hs, hL, hT, hi, hA⟩ := hV
  obtain ⟨mo, ha⟩ := hL.1
  have h48 := hL.2.1
  refine SM.of (lv0 := [some (.ref s), some (.ref x), none]) (by decide +kernel) rfl ⟨rfl, rfl⟩ rfl (by simp [Value.category]) (Nat.le_of_ble_eq_true rfl) ?_
  refine GW.dce (fun hdce => ?_)
  refine GW.wf (fun wf => ?_)
  have loop : ∀ m k (h1 : gHp), k ≤ L.length → k < m → LV G h1 a e (L.take k ++ (L.drop k).filter (fun y => !vRp V x y)) → Fr h h1 sz [a, e] → GM G l 4 0 0 (qV (fun h' sz' => LV G h' a e (L.filter (fun y => !vRp V x y)) ∧ Fr h h' sz [a, e] ∧ sz' = sz)) M_S_removeReplaced 10 [some (.ref s), some (.ref x), some (.int (nI k - 1))] [] h1 sz 0 0 := by
    intro m
    induction m with
    | zero => intro k _ _ hk; exact absurd hk (Nat.not_lt_zero _)
    | succ m ih =>
      intro k h1 hk hm hL1 hF
      have hs1 := hL.fr wf hdce hF hs (by simp) (by simp)
      obtain ⟨mo1, ha1⟩ := hL1.1
      have hx1 := hx.fr hL wf hdce hF
      have hxo := hx1.1
      by_cases hk0 : k = 0
      · subst hk0
        refine gw_il2 d_S_removeReplaced_10 ?_
        refine gw_iflt d_S_removeReplaced_11 (fun c_11 => ?_) (fun c_11 => absurd n_neg1 c_11)
        exact gw_vret d_S_removeReplaced_47 rfl (Nat.le_refl _) (Nat.le_refl _) ⟨rfl, by simpa using hL1, hF, rfl⟩
      · obtain ⟨y, hy⟩ := get_ex (L := L) (j := k - 1) (by omega)
        have hyA := (hA y (List.mem_of_getElem? hy)).fr hL wf hdce hF
        have hy1 := hyA.1
        have hcur := cur_get (F := (L.drop k).filter (fun y => !vRp V x y)) (by omega) hk hy
        have e1 : nI k - 1 = nI (k - 1) := n_m1 (by omega)
        have e2 : nI (k - 1) + (-1) = nI (k - 1) - 1 := by rw [Int32.sub_eq_add_neg]
        rw [e1]
        refine gw_il2 d_S_removeReplaced_10 ?_
        refine gw_iflt d_S_removeReplaced_11 (fun c_11 => absurd c_11 (nI_pos (by omega))) (fun c_11 => ?_)
        refine gw_al1 d_S_removeReplaced_14 ?_
        refine gw_al0 d_S_removeReplaced_15 ?_
        refine gw_get d_S_removeReplaced_16 (by assumption) (by rfl) ?_
        refine gw_il2 d_S_removeReplaced_19 ?_
        refine gw_rV1 d_S_removeReplaced_20 cs_S_removeReplaced_20 ha1 (c_A_get hL1 hcur) ?_
        refine gw_castV d_S_removeReplaced_23 cl_S_removeReplaced_23 (by assumption) ?_
        refine gw_rV1 d_S_removeReplaced_26 cs_S_removeReplaced_26 hxo (c_V_replaces hx1.1 hx1.2.1 hyA.1 hyA.2.1) ?_; rw [show (decide (nI (vDoc V x) = nI (vDoc V y)) && cov4 (vVec V x) (vVec V y)) = vRp V x y from by rw [vRp, decide_eq_decide.mpr (nI_eq (by have := hx.2.2; omega) (by have := hyA.2.2; omega))]]
        refine gw_ifeq d_S_removeReplaced_29 (fun c_29 => ?_) (fun c_29 => ?_)
        · first | exact gw_ii2 d_S_removeReplaced_41 (by rw [e2]; exact gw_goto d_S_removeReplaced_44 (ih (k - 1) _ (by omega) (by omega) w2 (hF.trans w3 (Nat.le_refl _)))) | exact gw_ii2 d_S_removeReplaced_41 (by rw [e2]; exact gw_goto d_S_removeReplaced_44 (ih (k - 1) _ (by omega) (by omega) (by rw [← keep_take (p := fun y => !vRp V x y) (by omega) hy (by rw [(b2i_eq0 _).mp c_29]; rfl)]; exact hL1) hF))
        · refine gw_al0 d_S_removeReplaced_32 ?_
          refine gw_get d_S_removeReplaced_33 (by assumption) (by rfl) ?_
          refine gw_il2 d_S_removeReplaced_36 ?_
          refine gw_cV1 d_S_removeReplaced_37 cs_S_removeReplaced_37 ha1 (c_A_remove hL1 hcur) (fun v h' sz' hp hz => ?_) (fun E h' sz' hp _ => by cases hp.1); obtain ⟨w1, w2, w3, rfl⟩ := hp; cases w1; rw [del_take (by omega) hk hy, gone_take (p := fun y => !vRp V x y) (by omega) hy (by rw [(b2i_ne0 _).mp c_29]; rfl)] at w2
          refine gw_pop d_S_removeReplaced_40 rfl ?_
          first | exact gw_ii2 d_S_removeReplaced_41 (by rw [e2]; exact gw_goto d_S_removeReplaced_44 (ih (k - 1) _ (by omega) (by omega) w2 (hF.trans w3 (Nat.le_refl _)))) | exact gw_ii2 d_S_removeReplaced_41 (by rw [e2]; exact gw_goto d_S_removeReplaced_44 (ih (k - 1) _ (by omega) (by omega) (by rw [← keep_take (p := fun y => !vRp V x y) (by omega) hy (by rw [(b2i_eq0 _).mp c_29]; rfl)]; exact hL1) hF))
  refine gw_al0 d_S_removeReplaced_0 ?_
  refine gw_get d_S_removeReplaced_1 (by assumption) (by rfl) ?_
  refine gw_rV0 d_S_removeReplaced_4 cs_S_removeReplaced_4 ha (c_A_size hL) ?_
  refine gw_push d_S_removeReplaced_7 ?_
  refine gw_isub d_S_removeReplaced_8 ?_
  refine gw_is2 d_S_removeReplaced_9 ?_
  exact loop (L.length + 1) L.length h (Nat.le_refl _) (by omega) (by simpa using hL) Fr.refl
theorem c_S_dropMarks (hV : SV G V h s i a e L t c f) : SM G l 4 y_S_dropMarksThatAllHave M_S_dropMarksThatAllHave [.ref s] h sz 0 0 (qV (fun h' sz' => LV G h' a e (L.filter (fun y => !(vMk V y && (tCv V f 0 y && (tCv V f 1 y && (tCv V f 2 y && tCv V f 3 y)))))) ∧ Fr h h' sz [a, e] ∧ sz' = sz)) := by
  obtain ⟨hs, hL, hT, hi, hA⟩ := hV
  obtain ⟨mo, ha⟩ := hL.1
  have h48 := hL.2.1
  obtain ⟨p, hp⟩ : ∃ p : Nat → Bool, p = fun y => !(vMk V y && (tCv V f 0 y && (tCv V f 1 y && (tCv V f 2 y && tCv V f 3 y)))) := ⟨_, rfl⟩
  rw [← hp]
  refine SM.of (lv0 := [some (.ref s), none, none]) (by decide +kernel) rfl ⟨rfl, rfl⟩ rfl (by simp [Value.category]) (Nat.le_of_ble_eq_true rfl) ?_
  refine GW.dce (fun hdce => ?_)
  refine GW.wf (fun wf => ?_)
  have loop : ∀ m k (h1 : gHp) q2, k ≤ L.length → k < m → LV G h1 a e (L.take k ++ (L.drop k).filter p) → Fr h h1 sz [a, e] → GM G l 4 0 0 (qV (fun h' sz' => LV G h' a e (L.filter p) ∧ Fr h h' sz [a, e] ∧ sz' = sz)) M_S_dropMarksThatAllHave 10 [some (.ref s), some (.int (nI k - 1)), q2] [] h1 sz 0 0 := by
    intro m
    induction m with
    | zero => intro k _ _ _ hk; exact absurd hk (Nat.not_lt_zero _)
    | succ m ih =>
      intro k h1 q2 hk hm hL1 hF
      have hs1 := hL.fr wf hdce hF hs (by simp) (by simp)
      obtain ⟨mo1, ha1⟩ := hL1.1
      have hT1 := TV.fr hL wf hdce hF hT
      by_cases hk0 : k = 0
      · subst hk0
        refine gw_il1 d_S_dropMarksThatAllHave_10 ?_
        refine gw_iflt d_S_dropMarksThatAllHave_11 (fun c_11 => ?_) (fun c_11 => absurd n_neg1 c_11)
        exact gw_vret d_S_dropMarksThatAllHave_56 rfl (Nat.le_refl _) (Nat.le_refl _) ⟨rfl, by simpa using hL1, hF, rfl⟩
      · obtain ⟨y, hy⟩ := get_ex (L := L) (j := k - 1) (by omega)
        have hyA := (hA y (List.mem_of_getElem? hy)).fr hL wf hdce hF
        have hy1 := hyA.1
        have hcur := cur_get (F := (L.drop k).filter p) (by omega) hk hy
        have e1 : nI k - 1 = nI (k - 1) := n_m1 (by omega)
        have e2 : nI (k - 1) + (-1) = nI (k - 1) - 1 := by rw [Int32.sub_eq_add_neg]
        have hV1 : SV G V h1 s i a e (L.take k ++ (L.drop k).filter p) t c f := ⟨hs1, hL1, hT1, hi, fun z hz => by
          refine (hA z ?_).fr hL wf hdce hF
          rcases List.mem_append.mp hz with q | q
          · exact List.mem_of_mem_take q
          · exact List.mem_of_mem_drop (List.mem_filter.mp q).1⟩
        rw [e1]
        refine gw_il1 d_S_dropMarksThatAllHave_10 ?_
        refine gw_iflt d_S_dropMarksThatAllHave_11 (fun c_11 => absurd c_11 (nI_pos (by omega))) (fun c_11 => ?_)
        refine gw_al0 d_S_dropMarksThatAllHave_14 ?_
        refine gw_get d_S_dropMarksThatAllHave_15 (by assumption) (by rfl) ?_
        refine gw_il1 d_S_dropMarksThatAllHave_18 ?_
        refine gw_rV1 d_S_dropMarksThatAllHave_19 cs_S_dropMarksThatAllHave_19 ha1 (c_A_get hL1 hcur) ?_
        refine gw_castV d_S_dropMarksThatAllHave_22 cl_S_dropMarksThatAllHave_22 (by assumption) ?_
        refine gw_as2 d_S_dropMarksThatAllHave_25 ?_
        refine gw_al2 d_S_dropMarksThatAllHave_26 ?_
        refine gw_rV0 d_S_dropMarksThatAllHave_27 cs_S_dropMarksThatAllHave_27 hy1 (c_V_isMark hyA.1) ?_
        refine gw_ifeq d_S_dropMarksThatAllHave_30 (fun c_30 => ?_) (fun c_30 => ?_)
        · first | exact gw_ii1 d_S_dropMarksThatAllHave_50 (by rw [e2]; exact gw_goto d_S_dropMarksThatAllHave_53 (ih (k - 1) _ _ (by omega) (by omega) w2 (hF.trans w3 (Nat.le_refl _)))) | exact gw_ii1 d_S_dropMarksThatAllHave_50 (by rw [e2]; exact gw_goto d_S_dropMarksThatAllHave_53 (ih (k - 1) _ _ (by omega) (by omega) (by rw [← keep_take (p := p) (by omega) hy (by rw [hp]; show (!(vMk V y && _)) = true; first | rw [show vMk V y = false from (b2i_eq0 _).mp c_30]; rfl | rw [(b2i_eq0 _).mp c_38, Bool.and_false]; rfl)]; exact hL1) hF))
        · refine gw_al0 d_S_dropMarksThatAllHave_33 ?_
          refine gw_al2 d_S_dropMarksThatAllHave_34 ?_
          refine gw_rV1 d_S_dropMarksThatAllHave_35 cs_S_dropMarksThatAllHave_35 hs1 (c_S_allHave hV1 hyA) ?_
          refine gw_ifeq d_S_dropMarksThatAllHave_38 (fun c_38 => ?_) (fun c_38 => ?_)
          · first | exact gw_ii1 d_S_dropMarksThatAllHave_50 (by rw [e2]; exact gw_goto d_S_dropMarksThatAllHave_53 (ih (k - 1) _ _ (by omega) (by omega) w2 (hF.trans w3 (Nat.le_refl _)))) | exact gw_ii1 d_S_dropMarksThatAllHave_50 (by rw [e2]; exact gw_goto d_S_dropMarksThatAllHave_53 (ih (k - 1) _ _ (by omega) (by omega) (by rw [← keep_take (p := p) (by omega) hy (by rw [hp]; show (!(vMk V y && _)) = true; first | rw [show vMk V y = false from (b2i_eq0 _).mp c_30]; rfl | rw [(b2i_eq0 _).mp c_38, Bool.and_false]; rfl)]; exact hL1) hF))
          · refine gw_al0 d_S_dropMarksThatAllHave_41 ?_
            refine gw_get d_S_dropMarksThatAllHave_42 (by assumption) (by rfl) ?_
            refine gw_il1 d_S_dropMarksThatAllHave_45 ?_
            refine gw_cV1 d_S_dropMarksThatAllHave_46 cs_S_dropMarksThatAllHave_46 ha1 (c_A_remove hL1 hcur) (fun v h' sz' hp9 hz => ?_) (fun E h' sz' hp9 _ => by cases hp9.1); obtain ⟨w1, w2, w3, rfl⟩ := hp9; cases w1; rw [del_take (by omega) hk hy, gone_take (p := p) (by omega) hy (by rw [hp]; show (!(vMk V y && _)) = false; rw [show vMk V y = true from (b2i_ne0 _).mp c_30, (b2i_ne0 _).mp c_38]; rfl)] at w2
            refine gw_pop d_S_dropMarksThatAllHave_49 rfl ?_
            first | exact gw_ii1 d_S_dropMarksThatAllHave_50 (by rw [e2]; exact gw_goto d_S_dropMarksThatAllHave_53 (ih (k - 1) _ _ (by omega) (by omega) w2 (hF.trans w3 (Nat.le_refl _)))) | exact gw_ii1 d_S_dropMarksThatAllHave_50 (by rw [e2]; exact gw_goto d_S_dropMarksThatAllHave_53 (ih (k - 1) _ _ (by omega) (by omega) (by rw [← keep_take (p := p) (by omega) hy (by rw [hp]; show (!(vMk V y && _)) = true; first | rw [show vMk V y = false from (b2i_eq0 _).mp c_30]; rfl | rw [(b2i_eq0 _).mp c_38, Bool.and_false]; rfl)]; exact hL1) hF))
  refine gw_al0 d_S_dropMarksThatAllHave_0 ?_
  refine gw_get d_S_dropMarksThatAllHave_1 (by assumption) (by rfl) ?_
  refine gw_rV0 d_S_dropMarksThatAllHave_4 cs_S_dropMarksThatAllHave_4 ha (c_A_size hL) ?_
  refine gw_push d_S_dropMarksThatAllHave_7 ?_
  refine gw_isub d_S_dropMarksThatAllHave_8 ?_
  refine gw_is1 d_S_dropMarksThatAllHave_9 ?_
  exact loop (L.length + 1) L.length h _ (Nat.le_refl _) (by omega) (by simpa using hL) Fr.refl
theorem c_S_insert (hV : SV G V h s i a e L t c f) (h47 : L.length < 48) (hx : VA h V x) : SM G l 7 y_S_insert M_S_insert [.ref s, .ref x] h sz 1 72 (qV (gLP G h sz a e (insS V x L))) := by
  obtain ⟨hs, hL, hT, hi, hA⟩ := hV
  obtain ⟨mo, ha⟩ := hL.1
  have h48 := hL.2.1
  refine SM.of (lv0 := [some (.ref s), some (.ref x), none]) (by decide +kernel) rfl ⟨rfl, rfl⟩ rfl (by simp [Value.category]) (Nat.le_of_ble_eq_true rfl) ?_
  have loop : ∀ m k, k ≤ L.length → k < m → plc V x L L.length = plc V x L k → GM G l 7 1 72 (qV (gLP G h sz a e (insS V x L))) M_S_insert 8 [some (.ref s), some (.ref x), some (.int (nI k))] [] h sz 0 0 := by
    intro m
    induction m with
    | zero => intro k _ hk; exact absurd hk (Nat.not_lt_zero _)
    | succ m ih =>
      intro k hk hm hI
      have hend : plc V x L L.length = k → GM G l 7 1 72 (qV (gLP G h sz a e (insS V x L))) M_S_insert 38 [some (.ref s), some (.ref x), some (.int (nI k))] [] h sz 0 0 := by
        intro hpk
        refine gw_al0 d_S_insert_38 ?_
        refine gw_get d_S_insert_39 (by assumption) (by rfl) ?_
        refine gw_il2 d_S_insert_42 ?_
        refine gw_al1 d_S_insert_43 ?_
        refine gw_vV2 d_S_insert_44 cs_S_insert_44 ha (c_A_addAt hL h47 hk hx.1) (fun h' sz' hp hz => ?_)
        exact gw_vret d_S_insert_47 rfl (by omega) (by omega) ⟨rfl, by rw [insS, hpk]; exact hp⟩
      by_cases hk0 : k = 0
      · subst hk0
        refine gw_il2 d_S_insert_8 ?_
        refine gw_ifle d_S_insert_9 (fun c_9 => ?_) (fun c_9 => absurd (Int32.le_refl _) c_9)
        exact hend hI
      · obtain ⟨y, hy⟩ := get_ex (L := L) (j := k - 1) (by omega)
        have hyA := hA y (List.mem_of_getElem? hy)
        have hy1 := hyA.1
        have hpk : plc V x L k = if 0 < vCm V y x then plc V x L (k - 1) else k := by
          obtain ⟨k', rfl⟩ : ∃ m, k = m + 1 := ⟨k - 1, by omega⟩
          show (if 0 < vCm V (L.getD k' 0) x then plc V x L k' else k' + 1) = _
          have hgd : L.getD k' 0 = y := by rw [List.getD_eq_getElem?_getD]; simp at hy; simp [hy]
          rw [hgd]; rfl
        refine gw_il2 d_S_insert_8 ?_
        refine gw_ifle d_S_insert_9 (fun c_9 => absurd (n_le (b := 0) c_9 (by omega) (by omega)) (by omega)) (fun c_9 => ?_)
        refine gw_al0 d_S_insert_12 ?_
        refine gw_get d_S_insert_13 (by assumption) (by rfl) ?_
        refine gw_il2 d_S_insert_16 ?_
        refine gw_push d_S_insert_17 ?_
        refine gw_isub d_S_insert_18 ?_; rw [n_m1 (by omega)]
        refine gw_rV1 d_S_insert_19 cs_S_insert_19 ha (c_A_get hL hy) ?_
        refine gw_castV d_S_insert_22 cl_S_insert_22 (by assumption) ?_
        refine gw_al1 d_S_insert_25 ?_
        refine gw_rV1 d_S_insert_26 cs_S_insert_26 hy1 (c_V_compareWith hyA.1 hyA.2.1 hx.1 hx.2.1) ?_; rw [show lxs (vVec V y) (vVec V x) (cmpI (nI (vDoc V y)) (nI (vDoc V x))) 4 = vCm V y x from rfl]
        refine gw_ifle d_S_insert_29 (fun c_29 => ?_) (fun c_29 => ?_)
        · exact hend (by rw [hI, hpk, if_neg (Int32.not_lt.mpr c_29)])
        · refine gw_ii2 d_S_insert_32 (by rw [n_p (by omega)]; exact gw_goto d_S_insert_35 (ih (k - 1) (by omega) (by omega) (by rw [hI, hpk, if_pos (Int32.not_le.mp c_29)])))
  refine gw_al0 d_S_insert_0 ?_
  refine gw_get d_S_insert_1 (by assumption) (by rfl) ?_
  refine gw_rV0 d_S_insert_4 cs_S_insert_4 ha (c_A_size hL) ?_
  refine gw_is2 d_S_insert_7 ?_
  exact loop (L.length + 1) L.length (Nat.le_refl _) (by omega) rfl
/-- what takeIn leaves: the list, the table -/
theorem c_S_takeIn (hV : SV G V h s i a e L t c f) (h47 : L.length < 48) (hx : VA h V x) : SM G l 8 y_S_takeIn M_S_takeIn [.ref s, .ref x] h sz 1 72 (fun r h' sz' => (300 < L.foldl (fun b y => if vRp V x y then b else b + vBy V y) (vBy V x) ∧ r = .inl (some (.int 0)) ∧ h' = h ∧ sz' = sz) ∨ (¬ 300 < L.foldl (fun b y => if vRp V x y then b else b + vBy V y) (vBy V x) ∧ r = .inl (some (.int 1)) ∧ ∃ e', LV G h' a e' (insS V x (L.filter (fun y => !vRp V x y))) ∧ TV h' t c (jnV f ((i * 10 + vDoc V x) * 4) (vVec V x) 4) ∧ Fr h h' sz [a, e, c] ∧ (e' = e ∨ (sz ≤ e' ∧ e' < sz')) ∧ sz ≤ sz')) := by
  have hV0 := hV
  obtain ⟨hs, hL, hT, hi, hA⟩ := hV
  obtain ⟨mo, ha⟩ := hL.1
  have h48 := hL.2.1
  refine SM.of (lv0 := [some (.ref s), some (.ref x)]) (by decide +kernel) rfl ⟨rfl, rfl⟩ rfl (by simp [Value.category]) (Nat.le_of_ble_eq_true rfl) ?_
  refine GW.dce (fun hdce => ?_)
  refine GW.wf (fun wf => ?_)
  refine gw_al0 d_S_takeIn_0 ?_
  refine gw_al1 d_S_takeIn_1 ?_
  refine gw_rV1 d_S_takeIn_2 cs_S_takeIn_2 hs (c_S_bytesWith hV0 hx) ?_
  refine gw_push d_S_takeIn_5 ?_
  refine gw_icle d_S_takeIn_8 (fun c_8 => ?_) (fun c_8 => ?_)
  · refine gw_al0 d_S_takeIn_13 ?_
    refine gw_al1 d_S_takeIn_14 ?_
    refine gw_vV1 d_S_takeIn_15 cs_S_takeIn_15 hs (c_S_removeReplaced hV0 hx) (fun h1 sz1 hp hz => ?_); obtain ⟨hL1, hF1, w9⟩ := hp; subst w9; have hs1 := hL.fr wf hdce hF1 hs (by simp) (by simp); have hx1 := hx.fr hL wf hdce hF1; have hT1 := TV.fr hL wf hdce hF1 hT; have hV1 : SV G V h1 s i a e (L.filter (fun y => !vRp V x y)) t c f := ⟨hs1, hL1, hT1, hi, fun z hz => (hA z (List.mem_filter.mp hz).1).fr hL wf hdce hF1⟩
    refine gw_al0 d_S_takeIn_18 ?_
    refine gw_al1 d_S_takeIn_19 ?_
    refine GW.wf (fun wf1 => ?_); refine gw_vV1 d_S_takeIn_20 cs_S_takeIn_20 hs1 (c_S_insert hV1 (Nat.lt_of_le_of_lt (List.length_filter_le _ _) h47) hx1) (fun h2 sz2 hp hz2 => ?_); obtain ⟨e', hL2, hF2, he2, hsz2⟩ := hp; have hs2 := hL1.fr wf1 hdce hF2 hs1 (by simp) (by simp); have hx2 := hx1.fr hL1 wf1 hdce hF2; have hT2 := TV.fr hL1 wf1 hdce hF2 hT1; have ht2 := hT2.1
    refine gw_al0 d_S_takeIn_23 ?_
    refine gw_get d_S_takeIn_24 (by assumption) (by rfl) ?_
    refine gw_al0 d_S_takeIn_27 ?_
    refine gw_get d_S_takeIn_28 (by assumption) (by rfl) ?_
    refine gw_al1 d_S_takeIn_31 ?_
    refine gw_vV2 d_S_takeIn_32 cs_S_takeIn_32 ht2 (c_T_joinVersion hT2 hi hx2.2.2 hx2.1 hx2.2.1) (fun h3 sz3 hp hz3 => ?_); obtain ⟨w8, w9⟩ := hp; subst w8; subst w9
    refine gw_push d_S_takeIn_35 ?_
    refine gw_zret d_S_takeIn_36 rfl (Or.inr rfl) (by omega) (by omega) (Or.inr ⟨Int32.not_lt.mpr c_8, rfl, e', ?_, ?_, ?_, he2, hsz2⟩)
    · exact LV.other hL2 hT2.2 (by simp) (by simp)
    · exact ⟨by rw [gUp_ne _ _ (by intro q; have z1 := hT2.1; have z2 := hT2.2; rw [q, z2] at z1; simp at z1)]; exact hT2.1, gUp_self _ _ _⟩
    · exact (((hF1.trans hF2 (Nat.le_refl _)).mono (by simp)).up (Or.inl (by simp)))
  · refine gw_push d_S_takeIn_11 ?_
    exact gw_zret d_S_takeIn_12 rfl (Or.inl rfl) (by omega) (by omega) (Or.inl ⟨Int32.not_le.mp c_8, rfl, rfl, rfl⟩)
end Sta3
