/-! ===== FolderRounds: what changes (3): a visit ===== -/
def vSm (V : gV) (x : Nat) : Int32 := smN (vVec V x) 4
def plb (V : gV) (x : Nat) (L : List Nat) : Nat → Nat
  | 0 => 0
  | k + 1 => if vSm V x < vSm V (L.getD k 0) then plb V x L k else k + 1
theorem plb_le {V : gV} {x : Nat} {L : List Nat} : ∀ k, plb V x L k ≤ k
  | 0 => Nat.le_refl _
  | k + 1 => by rw [plb]; split; (· exact Nat.le_succ_of_le (plb_le k)); exact Nat.le_refl _
def insB (V : gV) (x : Nat) (L : List Nat) : List Nat := insA L (plb V x L L.length) x
theorem insB_len {V : gV} {x : Nat} {L : List Nat} : (insB V x L).length = L.length + 1 := insA_len (plb_le _)
/-- what is to be loaded of L -/
def chL (V : gV) (f : Nat → Int32) (i : Nat) (ds : Int32) (L : List Nat) : List Nat := L.foldl (fun a x => if vLkA V f i ds x then insB V x a else a) []
def ldR (V : gV) (mo : Nat) (R : List Nat) : List Nat → List Nat
  | [] => R
  | x :: r => if R.length < mo then (if 8 + vBy V x ≤ rmL V R then ldR V mo (R ++ [x]) r else ldR V mo R r) else R
abbrev gT : Type := (Nat → List Nat) × (Nat → Nat → Int32) × Int32
def ulS (V : gV) (i c : Nat) (T : gT) : gT := match T.1 (4 + c) with
  | [] => T
  | x :: r => if tCv V (T.2.1 i) i x then (va_up T.1 (4 + c) r, T.2.1, T.2.2) else if 300 < bwL V x (T.1 i) then (va_up T.1 (4 + c) r, T.2.1, T.2.2 + 1) else (va_up (va_up T.1 (4 + c) r) i (tkL V x (T.1 i)), va_up T.2.1 i (jnV (T.2.1 i) ((i * 10 + vDoc V x) * 4) (vVec V x) 4), T.2.2)
def ulN (V : gV) (i c : Nat) : Nat → gT → gT
  | 0, T => T
  | n + 1, T => ulS V i c (ulN V i c n T)
theorem chL_len {V : gV} {f : Nat → Int32} {i : Nat} {ds : Int32} : ∀ (L : List Nat), (chL V f i ds L).length ≤ L.length := by
  intro L
  unfold chL
  have h : ∀ (L a : List Nat), (L.foldl (fun a x => if vLkA V f i ds x then insB V x a else a) a).length ≤ a.length + L.length := by
    intro L
    induction L with
    | nil => intro a; simp
    | cons y r ih =>
      intro a
      rw [List.foldl_cons]
      split
      · have := ih (insB V y a); rw [insB_len] at this; simp; omega
      · have := ih a; simp; omega
  simpa using h L []
theorem chL_mem {V : gV} {f : Nat → Int32} {i : Nat} {ds : Int32} : ∀ (L : List Nat) (y : Nat), y ∈ chL V f i ds L → y ∈ L := by
  intro L y
  unfold chL
  have h : ∀ (L a : List Nat), y ∈ (L.foldl (fun a x => if vLkA V f i ds x then insB V x a else a) a) → y ∈ a ∨ y ∈ L := by
    intro L
    induction L with
    | nil => intro a q; exact Or.inl q
    | cons z r ih =>
      intro a q
      rw [List.foldl_cons] at q
      rcases ih _ q with w | w
      · split at w
        · rcases insA_mem w with w | w
          · exact Or.inr (by rw [w]; simp)
          · exact Or.inl w
        · exact Or.inl w
      · exact Or.inr (List.mem_cons_of_mem _ w)
  intro q
  rcases h L [] q with w | w
  · cases w
  · exact w
theorem ldR_mem {V : gV} {mo : Nat} : ∀ (L R : List Nat) (y : Nat), y ∈ ldR V mo R L → y ∈ R ∨ y ∈ L := by
  intro L
  induction L with
  | nil => intro R y q; exact Or.inl q
  | cons z r ih =>
    intro R y q
    rw [ldR] at q
    split at q
    · split at q
      · rcases ih _ _ q with w | w
        · rcases List.mem_append.mp w with w | w
          · exact Or.inl w
          · simp at w; exact Or.inr (by rw [w]; simp)
        · exact Or.inr (List.mem_cons_of_mem _ w)
      · rcases ih _ _ q with w | w
        · exact Or.inl w
        · exact Or.inr (List.mem_cons_of_mem _ w)
    · exact Or.inl q
theorem up_up {α : Type} (f : Nat → α) (k : Nat) (a b : α) : va_up (va_up f k a) k b = va_up f k b := by
  funext j
  by_cases hj : j = k
  · subst hj; rw [va_up_self, va_up_self]
  · rw [va_up_ne _ _ hj, va_up_ne _ _ hj, va_up_ne _ _ hj]
section Vis
variable {G : gG} {l : Launch} {V : gV} {Y : gLay} {h : gHp} {el : Nat → Nat} {LL : Nat → List Nat} {F : Nat → Nat → Int32} {lo : Int32} {sz : Nat}
theorem c_F_addBySum (hC : CI G V Y h el LL F lo) {x : Nat} (hx : VA h V x) (h47 : (LL 7).length < 48) : SM G l 7 y_F_addBySum M_F_addBySum [.ref (lFo Y), .ref x] h sz 1 72 (qV (gLP G h sz (lLa Y 7) (el 7) (insB V x (LL 7)))) := by
  have hF := hC.1
  have hL := hC.2.2.2.2.2.1 7 (by omega)
  have hA := hC.2.2.2.2.2.2.2.2.2.2 7 (by omega)
  obtain ⟨mo, ha⟩ := hL.1
  have h48 := hL.2.1
  have hx1 := hx.1
  refine SM.of (lv0 := [some (.ref (lFo Y)), some (.ref x), none, none]) (by decide +kernel) rfl ⟨rfl, rfl⟩ rfl (by simp [Value.category]) (Nat.le_of_ble_eq_true rfl) ?_
  have loop : ∀ m k, k ≤ (LL 7).length → k < m → plb V x (LL 7) (LL 7).length = plb V x (LL 7) k → GM G l 7 1 72 (qV (gLP G h sz (lLa Y 7) (el 7) (insB V x (LL 7)))) M_F_addBySum 13 [some (.ref (lFo Y)), some (.ref x), some (.int (vSm V x)), some (.int (nI k))] [] h sz 0 0 := by
    intro m
    induction m with
    | zero => intro k _ hk; exact absurd hk (Nat.not_lt_zero _)
    | succ m ih =>
      intro k hk hm hI
      have hend : plb V x (LL 7) (LL 7).length = k → GM G l 7 1 72 (qV (gLP G h sz (lLa Y 7) (el 7) (insB V x (LL 7)))) M_F_addBySum 43 [some (.ref (lFo Y)), some (.ref x), some (.int (vSm V x)), some (.int (nI k))] [] h sz 0 0 := by
        intro hpk
        refine gw_al0 d_F_addBySum_43 ?_
        refine gw_get d_F_addBySum_44 (by assumption) (by rfl) ?_
        refine gw_il3 d_F_addBySum_47 ?_
        refine gw_al1 d_F_addBySum_48 ?_
        refine gw_vV2 d_F_addBySum_49 cs_F_addBySum_49 ha (c_A_addAt hL h47 hk hx.1) (fun h' sz' hp hz => ?_)
        exact gw_vret d_F_addBySum_52 rfl (by omega) (by omega) ⟨rfl, by rw [insB, hpk]; exact hp⟩
      by_cases hk0 : k = 0
      · subst hk0
        refine gw_il3 d_F_addBySum_13 ?_
        refine gw_ifle d_F_addBySum_14 (fun c_14 => ?_) (fun c_14 => absurd (Int32.le_refl _) c_14)
        exact hend hI
      · obtain ⟨y, hy⟩ := get_ex (L := LL 7) (j := k - 1) (by omega)
        have hyA := hA y (List.mem_of_getElem? hy)
        have hy1 := hyA.1
        have hpk : plb V x (LL 7) k = if vSm V x < vSm V y then plb V x (LL 7) (k - 1) else k := by
          obtain ⟨k', rfl⟩ : ∃ m, k = m + 1 := ⟨k - 1, by omega⟩
          show (if vSm V x < vSm V ((LL 7).getD k' 0) then plb V x (LL 7) k' else k' + 1) = _
          have hgd : (LL 7).getD k' 0 = y := by rw [List.getD_eq_getElem?_getD]; simp at hy; simp [hy]
          rw [hgd]; rfl
        refine gw_il3 d_F_addBySum_13 ?_
        refine gw_ifle d_F_addBySum_14 (fun c_14 => absurd (n_le (b := 0) c_14 (by omega) (by omega)) (by omega)) (fun c_14 => ?_)
        refine gw_al0 d_F_addBySum_17 ?_
        refine gw_get d_F_addBySum_18 (by assumption) (by rfl) ?_
        refine gw_il3 d_F_addBySum_21 ?_
        refine gw_push d_F_addBySum_22 ?_
        refine gw_isub d_F_addBySum_23 ?_; rw [n_m1 (by omega)]
        refine gw_rV1 d_F_addBySum_24 cs_F_addBySum_24 ha (c_A_get hL hy) ?_
        refine gw_castV d_F_addBySum_27 cl_F_addBySum_27 (by assumption) ?_
        refine gw_rV0 d_F_addBySum_30 cs_F_addBySum_30 hy1 (c_V_sumOfCounters hyA.1 hyA.2.1) ?_; rw [show smN (vVec V y) 4 = vSm V y from rfl]
        refine gw_il2 d_F_addBySum_33 ?_
        refine gw_icle d_F_addBySum_34 (fun c_34 => ?_) (fun c_34 => ?_)
        · exact hend (by rw [hI, hpk, if_neg (Int32.not_lt.mpr c_34)])
        · refine gw_ii3 d_F_addBySum_37 (by rw [n_p (by omega)]; exact gw_goto d_F_addBySum_40 (ih (k - 1) (by omega) (by omega) (by rw [hI, hpk, if_pos (Int32.not_le.mp c_34)])))
  refine gw_al1 d_F_addBySum_0 ?_
  refine gw_rV0 d_F_addBySum_1 cs_F_addBySum_1 hx1 (c_V_sumOfCounters hx.1 hx.2.1) ?_; rw [show smN (vVec V x) 4 = vSm V x from rfl]
  refine gw_is2 d_F_addBySum_4 ?_
  refine gw_al0 d_F_addBySum_5 ?_
  refine gw_get d_F_addBySum_6 (by assumption) (by rfl) ?_
  refine gw_rV0 d_F_addBySum_9 cs_F_addBySum_9 ha (c_A_size hL) ?_
  refine gw_is3 d_F_addBySum_12 ?_
  exact loop ((LL 7).length + 1) (LL 7).length (Nat.le_refl _) (by omega) rfl
theorem c_F_chooseWhatToLoad (hC : CI G V Y h el LL F lo) {i : Nat} (hi : i < 4) {ds : Int32} : SM G l 8 y_F_chooseWhatToLoad M_F_chooseWhatToLoad [.ref (lFo Y), .ref (lSo Y i), .int ds] h sz 48 3456 (qV (fun h' sz' => ∃ el', CI G V Y h' el' (va_up LL 7 (chL V (F i) i ds (LL i))) F lo ∧ CQ Y el h sz el' h' sz')) := by
  have hF := hC.1
  have hL := hC.2.2.2.2.2.1 7 (by omega)
  obtain ⟨mo, ha⟩ := hL.1
  have hAi := hC.2.2.2.2.2.2.2.2.2.2 i (by omega)
  have h48 := (hC.2.2.2.2.2.1 i (by omega)).2.1
  refine SM.of (lv0 := [some (.ref (lFo Y)), some (.ref (lSo Y i)), some (.int ds), none, none]) (by decide +kernel) rfl ⟨rfl, rfl⟩ rfl (by simp [Value.category]) (Nat.le_of_ble_eq_true rfl) ?_
  refine GW.dce (fun hdce => ?_)
  refine GW.wf (fun wf => ?_)
  have loop : ∀ m j (h1 : gHp) (sz1 : Nat) (el1 : Nat → Nat) v4, j ≤ (LL i).length → (LL i).length - j < m → CI G V Y h1 el1 (va_up LL 7 (chL V (F i) i ds ((LL i).take j))) F lo → CQ Y el h sz el1 h1 sz1 → GM G l 8 48 3456 (qV (fun h' sz' => ∃ el', CI G V Y h' el' (va_up LL 7 (chL V (F i) i ds (LL i))) F lo ∧ CQ Y el h sz el' h' sz')) M_F_chooseWhatToLoad 9 [some (.ref (lFo Y)), some (.ref (lSo Y i)), some (.int ds), some (.int (nI j)), v4] [] h1 sz1 j (72 * j) := by
    intro m
    induction m with
    | zero => intro j _ _ _ _ _ hj; exact absurd hj (Nat.not_lt_zero _)
    | succ m ih =>
      intro j h1 sz1 el1 v4 hj hm hC1 hq
      refine GW.wf (fun wf1 => ?_)
      have hF1 := hC1.1
      have hV1 := hC1.sv hi
      rw [va_up_ne _ _ (show i ≠ 7 by omega)] at hV1
      have hso1 := hV1.1
      have hL1 := hV1.2.1
      obtain ⟨mo1, ha1⟩ := hL1.1
      have h7len : ((va_up LL 7 (chL V (F i) i ds ((LL i).take j))) 7).length ≤ j := by
        rw [va_up_self]
        refine Nat.le_trans (chL_len _) ?_
        simp; omega
      refine gw_il3 d_F_chooseWhatToLoad_9 ?_
      refine gw_al1 d_F_chooseWhatToLoad_10 ?_
      refine gw_get d_F_chooseWhatToLoad_11 (by assumption) (by rfl) ?_
      refine gw_rV0 d_F_chooseWhatToLoad_14 cs_F_chooseWhatToLoad_14 ha1 (c_A_size hL1) ?_ (hcs := by show j ≤ 48; omega) (hss := by show 72 * j ≤ 3456; omega)
      refine gw_icge d_F_chooseWhatToLoad_17 (fun c_17 => ?_) (fun c_17 => ?_)
      · have q4 := n_le c_17 (by omega) (by omega); obtain rfl : j = (LL i).length := (by omega); rw [List.take_length] at hC1; exact gw_vret d_F_chooseWhatToLoad_55 rfl (by omega) (by omega) ⟨rfl, _, hC1, hq⟩
      · refine gw_al1 d_F_chooseWhatToLoad_20 ?_
        refine gw_get d_F_chooseWhatToLoad_21 (by assumption) (by rfl) ?_
        refine gw_il3 d_F_chooseWhatToLoad_24 ?_
        have hlt := n_nle c_17 (by omega) (by omega); obtain ⟨y, hy⟩ := get_ex hlt; have hyA := hV1.2.2.2.2 y (List.mem_of_getElem? hy); have hy1 := hyA.1; refine gw_rV1 d_F_chooseWhatToLoad_25 cs_F_chooseWhatToLoad_25 ha1 (c_A_get hL1 hy) ?_ (hcs := by show j ≤ 48; omega) (hss := by show 72 * j ≤ 3456; omega)
        refine gw_castV d_F_chooseWhatToLoad_28 cl_F_chooseWhatToLoad_28 (by assumption) ?_
        refine gw_as4 d_F_chooseWhatToLoad_31 ?_
        refine gw_al1 d_F_chooseWhatToLoad_33 ?_
        refine gw_il2 d_F_chooseWhatToLoad_34 ?_
        refine gw_al4 d_F_chooseWhatToLoad_35 ?_
        refine gw_rV2 d_F_chooseWhatToLoad_37 cs_F_chooseWhatToLoad_37 hso1 (c_S_knowsLackAmong hV1 hyA) ?_ (hcs := by show j ≤ 48; omega) (hss := by show 72 * j ≤ 3456; omega)
        refine gw_ifeq d_F_chooseWhatToLoad_40 (fun c_40 => ?_) (fun c_40 => ?_)
        · first | exact gw_ii3 d_F_chooseWhatToLoad_49 (by rw [n_s]; exact gw_goto d_F_chooseWhatToLoad_52 (ih (j + 1) h2 sz2 _ _ (by omega) (by omega) (by rw [show va_up LL 7 (chL V (F i) i ds ((LL i).take (j + 1))) = va_up (va_up LL 7 (chL V (F i) i ds ((LL i).take j))) 7 (insB V y ((va_up LL 7 (chL V (F i) i ds ((LL i).take j))) 7)) from by rw [up_up, va_up_self, take_s hy]; unfold chL; rw [List.foldl_append, List.foldl_cons, List.foldl_nil, if_pos ((b2i_ne0 _).mp c_40)]]; exact hC2) hq2)) | exact gw_ii3 d_F_chooseWhatToLoad_49 (by rw [n_s]; exact GW.widen (k' := j + 1) (w' := 72 * (j + 1)) (by omega) (by omega) (gw_goto d_F_chooseWhatToLoad_52 (ih (j + 1) h1 sz1 _ _ (by omega) (by omega) (by rw [show chL V (F i) i ds ((LL i).take (j + 1)) = chL V (F i) i ds ((LL i).take j) from by rw [take_s hy]; unfold chL; rw [List.foldl_append, List.foldl_cons, List.foldl_nil, if_neg (by rw [show vLkA V (F i) i ds y = false from (b2i_eq0 _).mp c_40]; decide)]]; exact hC1) hq)))
        · refine gw_al0 d_F_chooseWhatToLoad_43 ?_
          refine gw_al4 d_F_chooseWhatToLoad_44 ?_
          refine gw_vV1 d_F_chooseWhatToLoad_46 cs_F_chooseWhatToLoad_46 hF1 (c_F_addBySum hC1 hyA (by omega)) (fun h2 sz2 hp hz2 => ?_) (hcs := by show j + 1 ≤ 48; omega) (hss := by show 72 * j + 72 ≤ 3456; omega); obtain ⟨e', w1, w2, w3, w4⟩ := hp; have hC2 := hC1.list wf1 hdce (k := 7) (by omega) w1 w2 (w3.elim Or.inl (fun q => Or.inr q.1)) (fun z hz => by rcases insA_mem hz with rfl | q; (· exact hyA); exact hC1.2.2.2.2.2.2.2.2.2.2 7 (by omega) z q); have hq2 := hq.trans (CQ.ofFr (k := 7) (by omega) w2 (w3.elim Or.inl (fun q => Or.inr q.1)) w4)
          first | exact gw_ii3 d_F_chooseWhatToLoad_49 (by rw [n_s]; exact gw_goto d_F_chooseWhatToLoad_52 (ih (j + 1) h2 sz2 _ _ (by omega) (by omega) (by rw [show va_up LL 7 (chL V (F i) i ds ((LL i).take (j + 1))) = va_up (va_up LL 7 (chL V (F i) i ds ((LL i).take j))) 7 (insB V y ((va_up LL 7 (chL V (F i) i ds ((LL i).take j))) 7)) from by rw [up_up, va_up_self, take_s hy]; unfold chL; rw [List.foldl_append, List.foldl_cons, List.foldl_nil, if_pos ((b2i_ne0 _).mp c_40)]]; exact hC2) hq2)) | exact gw_ii3 d_F_chooseWhatToLoad_49 (by rw [n_s]; exact GW.widen (k' := j + 1) (w' := 72 * (j + 1)) (by omega) (by omega) (gw_goto d_F_chooseWhatToLoad_52 (ih (j + 1) h1 sz1 _ _ (by omega) (by omega) (by rw [show chL V (F i) i ds ((LL i).take (j + 1)) = chL V (F i) i ds ((LL i).take j) from by rw [take_s hy]; unfold chL; rw [List.foldl_append, List.foldl_cons, List.foldl_nil, if_neg (by rw [show vLkA V (F i) i ds y = false from (b2i_eq0 _).mp c_40]; decide)]]; exact hC1) hq)))
  refine gw_al0 d_F_chooseWhatToLoad_0 ?_
  refine gw_get d_F_chooseWhatToLoad_1 (by assumption) (by rfl) ?_
  refine gw_vV0 d_F_chooseWhatToLoad_4 cs_F_chooseWhatToLoad_4 ha (c_A_clear hL) (fun h1 sz1 hp hz => ?_); obtain ⟨w1, w2, w3⟩ := hp; subst w3
  refine gw_push d_F_chooseWhatToLoad_7 ?_
  refine gw_is3 d_F_chooseWhatToLoad_8 ?_
  exact loop ((LL i).length + 1) 0 h1 _ _ _ (by omega) (by omega) (hC.list wf hdce (k := 7) (by omega) (L' := []) w1 w2 (Or.inl rfl) (fun _ q => by cases q)) (CQ.ofFr (k := 7) (by omega) w2 (Or.inl rfl) (Nat.le_refl _))
end Vis
