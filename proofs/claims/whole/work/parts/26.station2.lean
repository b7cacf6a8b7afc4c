/-! ===== Station: contracts that change it ===== -/
/-- a cell that is neither a list nor a list's array stays when a list changes -/
theorem LV.fr {G : gG} {h h1 : gHp} {sz a e : Nat} {L : List Nat} (hL : LV G h a e L) (wf : ∀ a e, h a = some e → gBase G ≤ a ∧ a < sz) (hdce : gDce G < gBase G) (hF : Fr h h1 sz [a, e]) {b : Nat} {E : gE} (hb : h b = some E) (h0 : ∀ fs, E ≠ gO 0 fs) (h4 : ∀ n g, E ≠ gR 4 n g) : h1 b = some E := by
  rw [hF b (wf b _ hb).2]
  · exact hb
  · intro q
    simp only [List.mem_cons, List.not_mem_nil, or_false] at q
    rcases q with rfl | rfl
    · obtain ⟨⟨mo, ha⟩, -⟩ := hL
      rw [ha] at hb
      exact h0 _ (Option.some.inj hb).symm
    · obtain ⟨-, -, -, h3⟩ := hL
      rcases h3 with ⟨rfl, -⟩ | ⟨cap, g, q1, -⟩
      · have := (wf _ _ hb).1; omega
      · rw [q1] at hb
        exact h4 _ _ (Option.some.inj hb).symm
theorem VA.fr {G : gG} {V : gV} {h h1 : gHp} {sz a e : Nat} {L : List Nat} (hL : LV G h a e L) (wf : ∀ a e, h a = some e → gBase G ≤ a ∧ a < sz) (hdce : gDce G < gBase G) (hF : Fr h h1 sz [a, e]) {y : Nat} (hy : VA h V y) : VA h1 V y :=
  ⟨hL.fr wf hdce hF hy.1 (by simp) (by simp), hL.fr wf hdce hF hy.2.1 (by simp) (by simp), hy.2.2⟩
theorem TV.fr {G : gG} {h h1 : gHp} {sz a e t c : Nat} {f : Nat → Int32} {L : List Nat} (hL : LV G h a e L) (wf : ∀ a e, h a = some e → gBase G ≤ a ∧ a < sz) (hdce : gDce G < gBase G) (hF : Fr h h1 sz [a, e]) (hT : TV h t c f) : TV h1 t c f :=
  ⟨hL.fr wf hdce hF hT.1 (by simp) (by simp), hL.fr wf hdce hF hT.2 (by simp) (by simp)⟩
def skp (V : gV) (L : List Nat) (j : Nat) : Nat := j + ((L.drop j).takeWhile (vMk V)).length
theorem drop_c {L : List Nat} {j y : Nat} (hy : L[j]? = some y) : L.drop j = y :: L.drop (j + 1) := by
  obtain ⟨hlt, e1⟩ := List.getElem?_eq_some_iff.mp hy
  rw [List.drop_eq_getElem_cons hlt, e1]
theorem skp_end {V : gV} {L : List Nat} {j : Nat} (h : L.length ≤ j) : skp V L j = j := by
  unfold skp
  rw [List.drop_eq_nil_of_le h]; rfl
theorem skp_mk {V : gV} {L : List Nat} {j y : Nat} (hy : L[j]? = some y) (hm : vMk V y = true) : skp V L j = skp V L (j + 1) := by
  unfold skp
  rw [drop_c hy, List.takeWhile_cons, if_pos hm, List.length_cons]; omega
theorem skp_no {V : gV} {L : List Nat} {j y : Nat} (hy : L[j]? = some y) (hm : vMk V y = false) : skp V L j = j := by
  unfold skp
  rw [drop_c hy, List.takeWhile_cons, if_neg (by rw [hm]; decide)]; rfl
/-- the same, two by two -/
def smL (V : gV) : List Nat → List Nat → Bool
  | [], [] => true
  | x :: r, y :: r' => decide (vCm V x y = 0) && smL V r r'
  | _, _ => false
theorem smL_cc (V : gV) (x y : Nat) (r r' : List Nat) : smL V (x :: r) (y :: r') = (decide (vCm V x y = 0) && smL V r r') := rfl
theorem smL_cn (V : gV) (x : Nat) (r : List Nat) : smL V (x :: r) [] = false := rfl
theorem smL_nc (V : gV) (y : Nat) (r : List Nat) : smL V [] (y :: r) = false := rfl
theorem smL_nn (V : gV) : smL V [] [] = true := rfl
/-- those without marks from j on, by the first place behind marks -/
theorem skp_f {V : gV} {L : List Nat} : ∀ (n j : Nat), L.length - j = n → j ≤ L.length → skp V L j ≤ L.length ∧ (L.drop j).filter (fun y => !vMk V y) = (L.drop (skp V L j)).filter (fun y => !vMk V y) ∧ (∀ y, L[skp V L j]? = some y → vMk V y = false) := by
  intro n
  induction n with
  | zero =>
    intro j hn hj
    have : j = L.length := by omega
    subst this
    rw [skp_end (Nat.le_refl _)]
    exact ⟨Nat.le_refl _, rfl, fun y hy => by simp at hy⟩
  | succ n ih =>
    intro j hn hj
    obtain ⟨y, hy⟩ := get_ex (L := L) (j := j) (by omega)
    cases hm : vMk V y
    · rw [skp_no hy hm]
      exact ⟨hj, rfl, fun z hz => by rw [hy] at hz; cases hz; exact hm⟩
    · obtain ⟨i1, i2, i3⟩ := ih (j + 1) (by omega) (by omega)
      rw [skp_mk hy hm]
      refine ⟨i1, ?_, i3⟩
      rw [← i2, drop_c hy, List.filter_cons, if_neg (by rw [hm]; decide)]
/-- where x is put -/
def plc (V : gV) (x : Nat) (L : List Nat) : Nat → Nat
  | 0 => 0
  | k + 1 => if 0 < vCm V (L.getD k 0) x then plc V x L k else k + 1
theorem plc_le {V : gV} {x : Nat} {L : List Nat} : ∀ k, plc V x L k ≤ k
  | 0 => Nat.le_refl _
  | k + 1 => by
    unfold plc
    have := plc_le (V := V) (x := x) (L := L) k
    split <;> omega
def insS (V : gV) (x : Nat) (L : List Nat) : List Nat := insA L (plc V x L L.length) x
def lrn (f f2 : Nat → Int32) (i : Nat) : Nat → Nat → Int32
  | 0 => f
  | n + 1 => if n = i then lrn f f2 i n else jnV (lrn f f2 i n) (n * 40) (fun k => f2 (n * 40 + k)) 40
theorem n_km1 {k : Nat} (hk : 0 < k) : nI k - 1 + (-1) = nI (k - 1) - 1 := by
  rw [n_m1 hk]
  obtain ⟨k, rfl⟩ : ∃ m, k = m + 1 := ⟨k - 1, by omega⟩
  show nI k + (-1) = nI k - 1
  rw [Int32.sub_eq_add_neg]
theorem n_neg1 : nI 0 - 1 < 0 := by decide
section Sta2
variable {G : gG} {l : Launch} {h : gHp} {sz : Nat} {V : gV} {s i a e t c : Nat} {L : List Nat} {f : Nat → Int32} {x : Nat}
theorem c_S_skipMarks (hV : SV G V h s i a e L t c f) {j : Nat} (hj : j ≤ L.length) : SM G l 4 y_S_skipMarks M_S_skipMarks [.ref s, .int (nI j)] h sz 0 0 (qR (.int (nI (skp V L j))) h sz) := by
  obtain ⟨hs, hL, hT, hi, hA⟩ := hV
  obtain ⟨mo, ha⟩ := hL.1
  have h48 := hL.2.1
  refine SM.of (lv0 := [some (.ref s), some (.int (nI j)), none]) (by decide +kernel) rfl ⟨rfl, rfl⟩ rfl (by simp [Value.category]) (Nat.le_of_ble_eq_true rfl) ?_
  have loop : ∀ m k, k ≤ L.length → L.length - k < m → skp V L j = skp V L k → GM G l 4 0 0 (qR (.int (nI (skp V L j))) h sz) M_S_skipMarks 2 [some (.ref s), some (.int (nI j)), some (.int (nI k))] [] h sz 0 0 := by
    intro m
    induction m with
    | zero => intro j _ hj; exact absurd hj (Nat.not_lt_zero _)
    | succ m ih =>
      intro k hk hm hI
      refine gw_il2 d_S_skipMarks_2 ?_
      refine gw_al0 d_S_skipMarks_3 ?_
      refine gw_get d_S_skipMarks_4 (by assumption) (by rfl) ?_
      refine gw_rV0 d_S_skipMarks_7 cs_S_skipMarks_7 ha (c_A_size hL) ?_
      refine gw_icge d_S_skipMarks_10 (fun c_10 => ?_) (fun c_10 => ?_)
      · refine gw_il2 d_S_skipMarks_36 ?_
        first | (have q4 := n_le c_10 (by omega) (by omega); exact gw_iret d_S_skipMarks_37 rfl (Nat.le_refl _) (Nat.le_refl _) ⟨by rw [hI, skp_end q4], rfl, rfl⟩) | exact gw_iret d_S_skipMarks_37 rfl (Nat.le_refl _) (Nat.le_refl _) ⟨by rw [hI, skp_no hy ((b2i_eq0 _).mp c_27)], rfl, rfl⟩
      · refine gw_al0 d_S_skipMarks_13 ?_
        refine gw_get d_S_skipMarks_14 (by assumption) (by rfl) ?_
        refine gw_il2 d_S_skipMarks_17 ?_
        have hlt := n_nle c_10 (by omega) (by omega); obtain ⟨y, hy⟩ := get_ex hlt; have hyA := hA y (List.mem_of_getElem? hy); have hy1 := hyA.1; refine gw_rV1 d_S_skipMarks_18 cs_S_skipMarks_18 ha (c_A_get hL hy) ?_
        refine gw_castV d_S_skipMarks_21 cl_S_skipMarks_21 (by assumption) ?_
        refine gw_rV0 d_S_skipMarks_24 cs_S_skipMarks_24 hy1 (c_V_isMark hyA.1) ?_
        refine gw_ifeq d_S_skipMarks_27 (fun c_27 => ?_) (fun c_27 => ?_)
        · refine gw_il2 d_S_skipMarks_36 ?_
          first | (have q4 := n_le c_10 (by omega) (by omega); exact gw_iret d_S_skipMarks_37 rfl (Nat.le_refl _) (Nat.le_refl _) ⟨by rw [hI, skp_end q4], rfl, rfl⟩) | exact gw_iret d_S_skipMarks_37 rfl (Nat.le_refl _) (Nat.le_refl _) ⟨by rw [hI, skp_no hy ((b2i_eq0 _).mp c_27)], rfl, rfl⟩
        · refine gw_ii2 d_S_skipMarks_30 (by rw [n_s]; exact gw_goto d_S_skipMarks_33 (ih (k + 1) (by omega) (by omega) (by rw [hI, skp_mk hy ((b2i_ne0 _).mp c_27)])))
  refine gw_il1 d_S_skipMarks_0 ?_
  refine gw_is2 d_S_skipMarks_1 ?_
  exact loop (L.length + 1) j hj (by omega) rfl
theorem c_S_hasSameSiblingsAs (hV : SV G V h s i a e L t c f) {s2 i2 a2 e2 t2 c2 : Nat} {L2 : List Nat} {f2 : Nat → Int32} (hV2 : SV G V h s2 i2 a2 e2 L2 t2 c2 f2) : SM G l 5 y_S_hasSameSiblingsAs M_S_hasSameSiblingsAs [.ref s, .ref s2] h sz 0 0 (qR (.int (b2i (smL V (L.filter (fun y => !vMk V y)) (L2.filter (fun y => !vMk V y))))) h sz) := by
  have hVb := hV2
  obtain ⟨hs, hL, hT, hi, hA⟩ := hV
  obtain ⟨hs2, hL2, hT2, hi2, hA2⟩ := hV2
  obtain ⟨mo, ha⟩ := hL.1
  obtain ⟨mo2, ha2⟩ := hL2.1
  have h48 := hL.2.1
  have h482 := hL2.2.1
  refine SM.of (lv0 := [some (.ref s), some (.ref s2), none, none, none]) (by decide +kernel) rfl ⟨rfl, rfl⟩ rfl (by simp [Value.category]) (Nat.le_of_ble_eq_true rfl) ?_
  have loop : ∀ m j k q4, j ≤ L.length → L.length - j < m → k ≤ L2.length → (∀ y, L2[k]? = some y → vMk V y = false) → smL V (L.filter (fun y => !vMk V y)) (L2.filter (fun y => !vMk V y)) = smL V ((L.drop j).filter (fun y => !vMk V y)) ((L2.drop k).filter (fun y => !vMk V y)) → GM G l 5 0 0 (qR (.int (b2i (smL V (L.filter (fun y => !vMk V y)) (L2.filter (fun y => !vMk V y))))) h sz) M_S_hasSameSiblingsAs 8 [some (.ref s), some (.ref s2), some (.int (nI k)), some (.int (nI j)), q4] [] h sz 0 0 := by
    intro m
    induction m with
    | zero => intro j _ _ _ hj; exact absurd hj (Nat.not_lt_zero _)
    | succ m ih =>
      intro j k q4 hj hm hk hnm hI
      refine gw_il3 d_S_hasSameSiblingsAs_8 ?_
      refine gw_al0 d_S_hasSameSiblingsAs_9 ?_
      refine gw_get d_S_hasSameSiblingsAs_10 (by assumption) (by rfl) ?_
      refine gw_rV0 d_S_hasSameSiblingsAs_13 cs_S_hasSameSiblingsAs_13 ha (c_A_size hL) ?_
      refine gw_icge d_S_hasSameSiblingsAs_16 (fun c_16 => ?_) (fun c_16 => ?_)
      · refine gw_il2 d_S_hasSameSiblingsAs_89 ?_
        refine gw_al1 d_S_hasSameSiblingsAs_90 ?_
        refine gw_get d_S_hasSameSiblingsAs_91 (by assumption) (by rfl) ?_
        have q4 := n_le c_16 (by omega) (by omega); rw [List.drop_eq_nil_of_le q4, List.filter_nil] at hI; refine gw_rV0 d_S_hasSameSiblingsAs_94 cs_S_hasSameSiblingsAs_94 ha2 (c_A_size hL2) ?_
        refine gw_iclt d_S_hasSameSiblingsAs_97 (fun c_97 => ?_) (fun c_97 => ?_)
        · refine gw_push d_S_hasSameSiblingsAs_104 ?_
          first | (have q9 := n_lt c_97 (by omega) (by omega); obtain ⟨z, hz⟩ := get_ex q9; rw [drop_c hz, List.filter_cons, if_pos (by rw [hnm z hz]; rfl), smL_nc] at hI; exact gw_zret d_S_hasSameSiblingsAs_105 rfl (Or.inl rfl) (Nat.le_refl _) (Nat.le_refl _) ⟨by rw [hI]; rfl, rfl, rfl⟩) | (have q9 := n_nlt c_97 (by omega) (by omega); rw [List.drop_eq_nil_of_le q9, List.filter_nil, smL_nn] at hI; exact gw_zret d_S_hasSameSiblingsAs_105 rfl (Or.inr rfl) (Nat.le_refl _) (Nat.le_refl _) ⟨by rw [hI]; rfl, rfl, rfl⟩)
        · refine gw_push d_S_hasSameSiblingsAs_100 ?_
          refine gw_goto d_S_hasSameSiblingsAs_101 ?_
          first | (have q9 := n_lt c_97 (by omega) (by omega); obtain ⟨z, hz⟩ := get_ex q9; rw [drop_c hz, List.filter_cons, if_pos (by rw [hnm z hz]; rfl), smL_nc] at hI; exact gw_zret d_S_hasSameSiblingsAs_105 rfl (Or.inl rfl) (Nat.le_refl _) (Nat.le_refl _) ⟨by rw [hI]; rfl, rfl, rfl⟩) | (have q9 := n_nlt c_97 (by omega) (by omega); rw [List.drop_eq_nil_of_le q9, List.filter_nil, smL_nn] at hI; exact gw_zret d_S_hasSameSiblingsAs_105 rfl (Or.inr rfl) (Nat.le_refl _) (Nat.le_refl _) ⟨by rw [hI]; rfl, rfl, rfl⟩)
      · refine gw_al0 d_S_hasSameSiblingsAs_19 ?_
        refine gw_get d_S_hasSameSiblingsAs_20 (by assumption) (by rfl) ?_
        refine gw_il3 d_S_hasSameSiblingsAs_23 ?_
        have hlt := n_nle c_16 (by omega) (by omega); obtain ⟨y, hy⟩ := get_ex hlt; have hyA := hA y (List.mem_of_getElem? hy); have hy1 := hyA.1; rw [drop_c hy, List.filter_cons] at hI; refine gw_rV1 d_S_hasSameSiblingsAs_24 cs_S_hasSameSiblingsAs_24 ha (c_A_get hL hy) ?_
        refine gw_castV d_S_hasSameSiblingsAs_27 cl_S_hasSameSiblingsAs_27 (by assumption) ?_
        refine gw_as4 d_S_hasSameSiblingsAs_30 ?_
        refine gw_al4 d_S_hasSameSiblingsAs_32 ?_
        refine gw_rV0 d_S_hasSameSiblingsAs_34 cs_S_hasSameSiblingsAs_34 hy1 (c_V_isMark hyA.1) ?_
        refine gw_ifeq d_S_hasSameSiblingsAs_37 (fun c_37 => ?_) (fun c_37 => ?_)
        · refine gw_il2 d_S_hasSameSiblingsAs_43 ?_
          refine gw_al1 d_S_hasSameSiblingsAs_44 ?_
          refine gw_get d_S_hasSameSiblingsAs_45 (by assumption) (by rfl) ?_
          refine gw_rV0 d_S_hasSameSiblingsAs_48 cs_S_hasSameSiblingsAs_48 ha2 (c_A_size hL2) ?_
          refine gw_icge d_S_hasSameSiblingsAs_51 (fun c_51 => ?_) (fun c_51 => ?_)
          · refine gw_push d_S_hasSameSiblingsAs_73 ?_
            first | (rw [show vMk V y = false from (b2i_eq0 _).mp c_37, if_pos (show (!false) = true from rfl), drop_c hz, List.filter_cons, if_pos (by rw [hnm z hz]; rfl), smL_cc, decide_eq_false c_70, Bool.false_and] at hI; exact gw_zret d_S_hasSameSiblingsAs_74 rfl (Or.inl rfl) (Nat.le_refl _) (Nat.le_refl _) ⟨by rw [hI]; rfl, rfl, rfl⟩) | (have q9 := n_le c_51 (by omega) (by omega); rw [show vMk V y = false from (b2i_eq0 _).mp c_37, if_pos (show (!false) = true from rfl), List.drop_eq_nil_of_le q9, List.filter_nil, smL_cn] at hI; exact gw_zret d_S_hasSameSiblingsAs_74 rfl (Or.inl rfl) (Nat.le_refl _) (Nat.le_refl _) ⟨by rw [hI]; rfl, rfl, rfl⟩)
          · refine gw_al4 d_S_hasSameSiblingsAs_54 ?_
            refine gw_al1 d_S_hasSameSiblingsAs_56 ?_
            refine gw_get d_S_hasSameSiblingsAs_57 (by assumption) (by rfl) ?_
            refine gw_il2 d_S_hasSameSiblingsAs_60 ?_
            have hlt2 := n_nle c_51 (by omega) (by omega); obtain ⟨z, hz⟩ := get_ex hlt2; have hzA := hA2 z (List.mem_of_getElem? hz); have hz1 := hzA.1; refine gw_rV1 d_S_hasSameSiblingsAs_61 cs_S_hasSameSiblingsAs_61 ha2 (c_A_get hL2 hz) ?_
            refine gw_castV d_S_hasSameSiblingsAs_64 cl_S_hasSameSiblingsAs_64 (by assumption) ?_
            refine gw_rV1 d_S_hasSameSiblingsAs_67 cs_S_hasSameSiblingsAs_67 hy1 (c_V_compareWith hyA.1 hyA.2.1 hzA.1 hzA.2.1) ?_; rw [show lxs (vVec V y) (vVec V z) (cmpI (nI (vDoc V y)) (nI (vDoc V z))) 4 = vCm V y z from rfl]
            refine gw_ifeq d_S_hasSameSiblingsAs_70 (fun c_70 => ?_) (fun c_70 => ?_)
            · refine gw_al1 d_S_hasSameSiblingsAs_75 ?_
              refine gw_il2 d_S_hasSameSiblingsAs_76 ?_
              refine gw_push d_S_hasSameSiblingsAs_77 ?_
              refine gw_iadd d_S_hasSameSiblingsAs_78 ?_; rw [n_s]
              refine gw_rV1 d_S_hasSameSiblingsAs_79 cs_S_hasSameSiblingsAs_79 hs2 (c_S_skipMarks hVb (j := k + 1) (by omega)) ?_
              refine gw_is2 d_S_hasSameSiblingsAs_82 ?_
              first | (rw [show vMk V y = true from (b2i_ne0 _).mp c_37] at hI; exact gw_ii3 d_S_hasSameSiblingsAs_83 (by rw [n_s]; exact gw_goto d_S_hasSameSiblingsAs_86 (ih (j + 1) k _ (by omega) (by omega) hk hnm hI))) | (obtain ⟨g1, g2, g3⟩ := skp_f (V := V) (L := L2) _ (k + 1) rfl (by omega); rw [show vMk V y = false from (b2i_eq0 _).mp c_37, drop_c hz, List.filter_cons, if_pos (show (!false) = true from rfl), if_pos (by rw [hnm z hz]; rfl), smL_cc, decide_eq_true c_70, Bool.true_and, g2] at hI; exact gw_ii3 d_S_hasSameSiblingsAs_83 (by rw [n_s]; exact gw_goto d_S_hasSameSiblingsAs_86 (ih (j + 1) (skp V L2 (k + 1)) _ (by omega) (by omega) g1 g3 hI)))
            · refine gw_push d_S_hasSameSiblingsAs_73 ?_
              first | (rw [show vMk V y = false from (b2i_eq0 _).mp c_37, if_pos (show (!false) = true from rfl), drop_c hz, List.filter_cons, if_pos (by rw [hnm z hz]; rfl), smL_cc, decide_eq_false c_70, Bool.false_and] at hI; exact gw_zret d_S_hasSameSiblingsAs_74 rfl (Or.inl rfl) (Nat.le_refl _) (Nat.le_refl _) ⟨by rw [hI]; rfl, rfl, rfl⟩) | (have q9 := n_le c_51 (by omega) (by omega); rw [show vMk V y = false from (b2i_eq0 _).mp c_37, if_pos (show (!false) = true from rfl), List.drop_eq_nil_of_le q9, List.filter_nil, smL_cn] at hI; exact gw_zret d_S_hasSameSiblingsAs_74 rfl (Or.inl rfl) (Nat.le_refl _) (Nat.le_refl _) ⟨by rw [hI]; rfl, rfl, rfl⟩)
        · refine gw_goto d_S_hasSameSiblingsAs_40 ?_
          first | (rw [show vMk V y = true from (b2i_ne0 _).mp c_37] at hI; exact gw_ii3 d_S_hasSameSiblingsAs_83 (by rw [n_s]; exact gw_goto d_S_hasSameSiblingsAs_86 (ih (j + 1) k _ (by omega) (by omega) hk hnm hI))) | (obtain ⟨g1, g2, g3⟩ := skp_f (V := V) (L := L2) _ (k + 1) rfl (by omega); rw [show vMk V y = false from (b2i_eq0 _).mp c_37, drop_c hz, List.filter_cons, if_pos (show (!false) = true from rfl), if_pos (by rw [hnm z hz]; rfl), smL_cc, decide_eq_true c_70, Bool.true_and, g2] at hI; exact gw_ii3 d_S_hasSameSiblingsAs_83 (by rw [n_s]; exact gw_goto d_S_hasSameSiblingsAs_86 (ih (j + 1) (skp V L2 (k + 1)) _ (by omega) (by omega) g1 g3 hI)))
  refine gw_al1 d_S_hasSameSiblingsAs_0 ?_
  refine gw_push d_S_hasSameSiblingsAs_1 ?_
  refine gw_rV1 d_S_hasSameSiblingsAs_2 cs_S_hasSameSiblingsAs_2 hs2 (c_S_skipMarks hVb (j := 0) (by omega)) ?_
  refine gw_is2 d_S_hasSameSiblingsAs_5 ?_
  refine gw_push d_S_hasSameSiblingsAs_6 ?_
  refine gw_is3 d_S_hasSameSiblingsAs_7 ?_
  obtain ⟨g1, g2, g3⟩ := skp_f (V := V) (L := L2) _ 0 rfl (by omega); exact loop (L.length + 1) 0 (skp V L2 0) _ (by omega) (by omega) g1 g3 (by rw [← g2]; rfl)
end Sta2
