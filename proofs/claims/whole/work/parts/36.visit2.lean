/-! ===== FolderRounds: what changes (4): a visit ===== -/
theorem ulN_row {V : gV} {i c : Nat} (hi : i < 4) {T : gT} : ∀ n, (ulN V i c n T).1 (4 + c) = (T.1 (4 + c)).drop n
  | 0 => by simp [ulN]
  | n + 1 => by
    have ih := ulN_row (V := V) (c := c) hi (T := T) n
    rw [ulN, ulS]
    split
    · rename_i q
      rw [q] at ih
      rw [q, List.drop_add_one_eq_tail_drop, ← ih]; rfl
    · rename_i x r q
      rw [q] at ih
      rw [List.drop_add_one_eq_tail_drop, ← ih, List.tail_cons]
      split
      · exact va_up_self _ _ _
      · split
        · exact va_up_self _ _ _
        · show va_up (va_up _ (4 + c) r) i _ (4 + c) = r
          rw [va_up_ne _ _ (by omega), va_up_self]
def gtF (T : gT) (i c : Nat) : Nat → Int32 := lrn (T.2.1 i) (T.2.1 (4 + c)) i 4
def dmL (V : gV) (f : Nat → Int32) (L : List Nat) : List Nat := L.filter (fun y => !(vMk V y && (tCv V f 0 y && (tCv V f 1 y && (tCv V f 2 y && tCv V f 3 y)))))
def gtC (V : gV) (i c : Nat) (ds : Int32) (T : gT) : List Nat := chL V (gtF T i c) i ds (dmL V (gtF T i c) (T.1 i))
/-- learning, dropping, loading -/
def gt2 (V : gV) (i c : Nat) (ds : Int32) (mo : Nat) (T : gT) : gT := (va_up (va_up (va_up T.1 i (dmL V (gtF T i c) (T.1 i))) 7 (gtC V i c ds T)) (4 + c) (ldR V mo [] (gtC V i c ds T)), va_up (va_up T.2.1 i (gtF T i c)) (4 + c) (va_cpy (gtF T i c) (T.2.1 (4 + c)) 0 0 160), T.2.2)
def gtT (V : gV) (i c : Nat) (ds : Int32) (mo : Nat) (T : gT) : gT := if mo < (T.1 (4 + c)).length then ulN V i c mo T else gt2 V i c ds (mo - (T.1 (4 + c)).length) (ulN V i c (T.1 (4 + c)).length T)
def gtR (V : gV) (i c : Nat) (ds : Int32) (mo : Nat) (T : gT) : Int32 := if mo < (T.1 (4 + c)).length then 0 else nI (ldR V (mo - (T.1 (4 + c)).length) [] (gtC V i c ds (ulN V i c (T.1 (4 + c)).length T))).length
section Vis2
variable {G : gG} {l : Launch} {V : gV} {Y : gLay} {h : gHp} {el : Nat → Nat} {LL : Nat → List Nat} {F : Nat → Nat → Int32} {lo : Int32} {sz : Nat}
theorem c_F_load (hC : CI G V Y h el LL F lo) {i c mo : Nat} (hi : i < 4) (hc : c < 3) (hmo : mo < 2147483648) (h0 : LL (4 + c) = []) {ds : Int32} : SM G l 9 y_F_load M_F_load [.ref (lFo Y), .ref (lCo Y c), .ref (lSo Y i), .int ds, .int (nI mo)] h sz 96 6912 (fun r h' sz' => r = .inl (some (.int (nI (ldR V mo [] (chL V (F i) i ds (LL i))).length))) ∧ ∃ el', CI G V Y h' el' (va_up (va_up LL 7 (chL V (F i) i ds (LL i))) (4 + c) (ldR V mo [] (chL V (F i) i ds (LL i)))) F lo ∧ CQ Y el h sz el' h' sz') := by
  have hF := hC.1
  have h48 := (hC.2.2.2.2.2.1 i (by omega)).2.1
  obtain ⟨tl, htl⟩ : ∃ tl, tl = chL V (F i) i ds (LL i) := ⟨_, rfl⟩
  have htn : tl.length ≤ 48 := by rw [htl]; exact Nat.le_trans (chL_len _) h48
  rw [← htl]
  refine SM.of (lv0 := [some (.ref (lFo Y)), some (.ref (lCo Y c)), some (.ref (lSo Y i)), some (.int ds), some (.int (nI mo)), none, none, none]) (by decide +kernel) rfl ⟨rfl, rfl⟩ rfl (by simp [Value.category]) (Nat.le_of_ble_eq_true rfl) ?_
  refine GW.dce (fun hdce => ?_)
  have loop : ∀ m j (R : List Nat) (h1 : gHp) (sz1 : Nat) (el1 : Nat → Nat) v7, j ≤ tl.length → tl.length - j < m → R.length ≤ j → ldR V mo [] tl = ldR V mo R (tl.drop j) → CI G V Y h1 el1 (va_up (va_up LL 7 tl) (4 + c) R) F lo → CQ Y el h sz el1 h1 sz1 → GM G l 9 96 6912 (fun r h' sz' => r = .inl (some (.int (nI (ldR V mo [] tl).length))) ∧ ∃ el', CI G V Y h' el' (va_up (va_up LL 7 tl) (4 + c) (ldR V mo [] tl)) F lo ∧ CQ Y el h sz el' h' sz') M_F_load 12 [some (.ref (lFo Y)), some (.ref (lCo Y c)), some (.ref (lSo Y i)), some (.int ds), some (.int (nI mo)), some (.int (nI R.length)), some (.int (nI j)), v7] [] h1 sz1 (48 + j) (3456 + 72 * j) := by
    intro m
    induction m with
    | zero => intro j _ _ _ _ _ _ hj; exact absurd hj (Nat.not_lt_zero _)
    | succ m ih =>
      intro j R h1 sz1 el1 v7 hj hm hRj hI hC1 hq
      refine GW.wf (fun wf1 => ?_)
      have hF1 := hC1.1
      have hV1 := hC1.cv hc
      rw [va_up_self] at hV1
      have hso1 := hV1.1
      have hL1 := hV1.2.1
      obtain ⟨mo1, ha1⟩ := hL1.1
      have hL7 := hC1.2.2.2.2.2.1 7 (by omega)
      have hA7 := hC1.2.2.2.2.2.2.2.2.2.2 7 (by omega)
      rw [va_up_ne _ _ (show 7 ≠ 4 + c by omega), va_up_self] at hL7 hA7
      obtain ⟨mo7, ha7⟩ := hL7.1
      refine gw_il6 d_F_load_12 ?_
      refine gw_al0 d_F_load_14 ?_
      refine gw_get d_F_load_15 (by assumption) (by rfl) ?_
      refine gw_rV0 d_F_load_18 cs_F_load_18 ha7 (c_A_size hL7) ?_ (hcs := by show 48 + j ≤ 96; omega) (hss := by show 3456 + 72 * j ≤ 6912; omega)
      refine gw_icge d_F_load_21 (fun c_21 => ?_) (fun c_21 => ?_)
      · refine gw_il5 d_F_load_76 ?_
        first | (have q4 := n_le c_28 (by omega) (by omega); have e9 : ldR V mo R (tl.drop j) = R := (by cases tl.drop j; (· rfl); rw [ldR, if_neg (by omega)]); rw [hI, e9]; exact gw_iret d_F_load_78 rfl (by show 48 + j ≤ 96; omega) (by show 3456 + 72 * j ≤ 6912; omega) ⟨rfl, _, hC1, hq⟩) | (have q4 := n_le c_21 (by omega) (by omega); have e9 : ldR V mo R (tl.drop j) = R := (by rw [List.drop_eq_nil_of_le q4]; rfl); rw [hI, e9]; exact gw_iret d_F_load_78 rfl (by show 48 + j ≤ 96; omega) (by show 3456 + 72 * j ≤ 6912; omega) ⟨rfl, _, hC1, hq⟩)
      · refine gw_il5 d_F_load_24 ?_
        refine gw_il4 d_F_load_26 ?_
        refine gw_icge d_F_load_28 (fun c_28 => ?_) (fun c_28 => ?_)
        · refine gw_il5 d_F_load_76 ?_
          first | (have q4 := n_le c_28 (by omega) (by omega); have e9 : ldR V mo R (tl.drop j) = R := (by cases tl.drop j; (· rfl); rw [ldR, if_neg (by omega)]); rw [hI, e9]; exact gw_iret d_F_load_78 rfl (by show 48 + j ≤ 96; omega) (by show 3456 + 72 * j ≤ 6912; omega) ⟨rfl, _, hC1, hq⟩) | (have q4 := n_le c_21 (by omega) (by omega); have e9 : ldR V mo R (tl.drop j) = R := (by rw [List.drop_eq_nil_of_le q4]; rfl); rw [hI, e9]; exact gw_iret d_F_load_78 rfl (by show 48 + j ≤ 96; omega) (by show 3456 + 72 * j ≤ 6912; omega) ⟨rfl, _, hC1, hq⟩)
        · refine gw_al0 d_F_load_31 ?_
          refine gw_get d_F_load_32 (by assumption) (by rfl) ?_
          refine gw_il6 d_F_load_35 ?_
          have hlt := n_nle c_21 (by omega) (by omega); obtain ⟨y, hy⟩ := get_ex hlt; have hyA := hA7 y (List.mem_of_getElem? hy); have hy1 := hyA.1; refine gw_rV1 d_F_load_37 cs_F_load_37 ha7 (c_A_get hL7 hy) ?_ (hcs := by show 48 + j ≤ 96; omega) (hss := by show 3456 + 72 * j ≤ 6912; omega)
          refine gw_castV d_F_load_40 cl_F_load_40 (by assumption) ?_
          refine gw_as7 d_F_load_43 ?_
          refine gw_al7 d_F_load_45 ?_
          refine gw_rV0 d_F_load_47 cs_F_load_47 hy1 (c_V_roomTaken hyA.1) ?_ (hcs := by show 48 + j ≤ 96; omega) (hss := by show 3456 + 72 * j ≤ 6912; omega)
          refine gw_al1 d_F_load_50 ?_
          refine gw_rV0 d_F_load_51 cs_F_load_51 hso1 (c_C_roomLeft hV1) ?_ (hcs := by show 48 + j ≤ 96; omega) (hss := by show 3456 + 72 * j ≤ 6912; omega); have hRm := n_nle c_28 (by omega) (by omega); rw [drop_c hy, ldR, if_pos hRm] at hI
          refine gw_icgt d_F_load_54 (fun c_54 => ?_) (fun c_54 => ?_)
          · first | exact gw_ii6 d_F_load_70 (by rw [n_s]; exact GW.widen (k' := 48 + (j + 1)) (w' := 3456 + 72 * (j + 1)) (by omega) (by omega) (gw_goto d_F_load_73 (by have z := ih (j + 1) (R ++ [y]) h2 sz2 _ (some (.ref y)) (by omega) (by omega) (by simp; omega) hI hC2 hq2; rw [List.length_append, List.length_singleton] at z; exact z))) | (rw [if_neg (show ¬ 8 + vBy V y ≤ rmL V R from Int32.not_le.mpr c_54)] at hI; exact gw_ii6 d_F_load_70 (by rw [n_s]; exact GW.widen (k' := 48 + (j + 1)) (w' := 3456 + 72 * (j + 1)) (by omega) (by omega) (gw_goto d_F_load_73 (ih (j + 1) R h1 sz1 _ (some (.ref y)) (by omega) (by omega) (by omega) hI hC1 hq))))
          · refine gw_al1 d_F_load_57 ?_
            refine gw_get d_F_load_58 (by assumption) (by rfl) ?_
            refine gw_al7 d_F_load_61 ?_
            refine gw_cV1 d_F_load_63 cs_F_load_63 ha1 (c_A_add hL1 (by omega) hyA.1) (fun v h2 sz2 hp hz => ?_) (fun E h2 sz2 hp _ => by cases hp.1) (hcs := by show 48 + j + 1 ≤ 96; omega) (hss := by show 3456 + 72 * j + 72 ≤ 6912; omega); obtain ⟨w0, e', w1, w2, w3, w4⟩ := hp; cases w0; have hC2 := hC1.list wf1 hdce (k := 4 + c) (by omega) w1 w2 (w3.elim Or.inl (fun q => Or.inr q.1)) (fun z hz => by rcases List.mem_append.mp hz with q | q; (· exact hV1.2.2.2 z q); simp at q; rw [q]; exact hyA); rw [up_up] at hC2; have hq2 := hq.trans (CQ.ofFr (k := 4 + c) (by omega) w2 (w3.elim Or.inl (fun q => Or.inr q.1)) w4); rw [if_pos (show 8 + vBy V y ≤ rmL V R from Int32.not_lt.mp c_54)] at hI
            refine gw_pop d_F_load_66 rfl ?_
            refine gw_ii5 d_F_load_67 ?_; rw [n_s]
            first | exact gw_ii6 d_F_load_70 (by rw [n_s]; exact GW.widen (k' := 48 + (j + 1)) (w' := 3456 + 72 * (j + 1)) (by omega) (by omega) (gw_goto d_F_load_73 (by have z := ih (j + 1) (R ++ [y]) h2 sz2 _ (some (.ref y)) (by omega) (by omega) (by simp; omega) hI hC2 hq2; rw [List.length_append, List.length_singleton] at z; exact z))) | (rw [if_neg (show ¬ 8 + vBy V y ≤ rmL V R from Int32.not_le.mpr c_54)] at hI; exact gw_ii6 d_F_load_70 (by rw [n_s]; exact GW.widen (k' := 48 + (j + 1)) (w' := 3456 + 72 * (j + 1)) (by omega) (by omega) (gw_goto d_F_load_73 (ih (j + 1) R h1 sz1 _ (some (.ref y)) (by omega) (by omega) (by omega) hI hC1 hq))))
  refine gw_al0 d_F_load_0 ?_
  refine gw_al2 d_F_load_1 ?_
  refine gw_il3 d_F_load_2 ?_
  refine gw_vV2 d_F_load_3 cs_F_load_3 hF (c_F_chooseWhatToLoad hC hi) (fun h1 sz1 hp hz => ?_); obtain ⟨el1, w1, w2⟩ := hp; rw [← htl] at w1
  refine gw_push d_F_load_6 ?_
  refine gw_is5 d_F_load_7 ?_
  refine gw_push d_F_load_9 ?_
  refine gw_is6 d_F_load_10 ?_
  exact loop (tl.length + 1) 0 [] h1 sz1 el1 _ (by omega) (by omega) (by simp) rfl (by rw [show va_up (va_up LL 7 tl) (4 + c) [] = va_up LL 7 tl from by rw [← h0, show LL (4 + c) = va_up LL 7 tl (4 + c) from (va_up_ne _ _ (by omega)).symm, up_id]]; exact w1) w2
theorem ulS_c {T : gT} {i c x : Nat} {r : List Nat} (h : T.1 (4 + c) = x :: r) : ulS V i c T = if tCv V (T.2.1 i) i x then (va_up T.1 (4 + c) r, T.2.1, T.2.2) else if 300 < bwL V x (T.1 i) then (va_up T.1 (4 + c) r, T.2.1, T.2.2 + 1) else (va_up (va_up T.1 (4 + c) r) i (tkL V x (T.1 i)), va_up T.2.1 i (jnV (T.2.1 i) ((i * 10 + vDoc V x) * 4) (vVec V x) 4), T.2.2) := by
  rw [ulS, h]
theorem c_F_unload (hC : CI G V Y h el LL F lo) {i c mo : Nat} (hi : i < 4) (hc : c < 3) (hmo : mo < 2147483648) (hb : ∀ j, j < min (LL (4 + c)).length mo → ((ulN V i c j (LL, F, lo)).1 i).length < 48) : SM G l 9 y_F_unload M_F_unload [.ref (lFo Y), .ref (lCo Y c), .ref (lSo Y i), .int (nI mo)] h sz 48 3456 (fun r h' sz' => r = .inl (some (.int (nI (min (LL (4 + c)).length mo)))) ∧ ∃ el', CI G V Y h' el' (ulN V i c (min (LL (4 + c)).length mo) (LL, F, lo)).1 (ulN V i c (min (LL (4 + c)).length mo) (LL, F, lo)).2.1 (ulN V i c (min (LL (4 + c)).length mo) (LL, F, lo)).2.2 ∧ CQ Y el h sz el' h' sz') := by
  have hV := hC.cv hc
  have hso := hV.1
  have hL := hV.2.1
  have h48 := hL.2.1
  obtain ⟨mo0, ha⟩ := hL.1
  obtain ⟨T0, hT0⟩ : ∃ T0 : gT, T0 = (LL, F, lo) := ⟨_, rfl⟩
  rw [← hT0] at hb ⊢
  have hrow0 : T0.1 (4 + c) = LL (4 + c) := by rw [hT0]
  refine SM.of (lv0 := [some (.ref (lFo Y)), some (.ref (lCo Y c)), some (.ref (lSo Y i)), some (.int (nI mo)), none, none, none]) (by decide +kernel) rfl ⟨rfl, rfl⟩ rfl (by simp [Value.category]) (Nat.le_of_ble_eq_true rfl) ?_
  refine GW.dce (fun hdce => ?_)
  obtain ⟨du, hdu⟩ : ∃ du, du = min (LL (4 + c)).length mo := ⟨_, rfl⟩
  rw [← hdu] at hb ⊢
  have loop : ∀ m j (h1 : gHp) (sz1 : Nat) (el1 : Nat → Nat) v6, j ≤ du → du - j < m → CI G V Y h1 el1 (ulN V i c j T0).1 (ulN V i c j T0).2.1 (ulN V i c j T0).2.2 → CQ Y el h sz el1 h1 sz1 → GM G l 9 48 3456 (fun r h' sz' => r = .inl (some (.int (nI du))) ∧ ∃ el', CI G V Y h' el' (ulN V i c du T0).1 (ulN V i c du T0).2.1 (ulN V i c du T0).2.2 ∧ CQ Y el h sz el' h' sz') M_F_unload 16 [some (.ref (lFo Y)), some (.ref (lCo Y c)), some (.ref (lSo Y i)), some (.int (nI mo)), some (.int (nI du)), some (.int (nI j)), v6] [] h1 sz1 j (72 * j) := by
    intro m
    induction m with
    | zero => intro j _ _ _ _ _ hj; exact absurd hj (Nat.not_lt_zero _)
    | succ m ih =>
      intro j h1 sz1 el1 v6 hj hm hC1 hq
      refine GW.wf (fun wf1 => ?_)
      have hrow := ulN_row (V := V) (c := c) hi (T := T0) j
      rw [hrow0] at hrow
      have hF1 := hC1.1
      have hV1 := hC1.cv hc
      have hso1 := hV1.1
      have hL1 := hV1.2.1
      obtain ⟨mo1, ha1⟩ := hL1.1
      by_cases hjd : j = du
      · subst hjd
        refine gw_il5 d_F_unload_16 ?_
        refine gw_il4 d_F_unload_18 ?_
        refine gw_icge d_F_unload_20 (fun c_20 => ?_) (fun c_20 => absurd (Int32.le_refl _) c_20)
        refine gw_il4 d_F_unload_80 ?_
        exact gw_iret d_F_unload_82 rfl (by omega) (by omega) ⟨rfl, _, hC1, hq⟩
      · have hjlen : j < (LL (4 + c)).length := by omega
        obtain ⟨x, hx⟩ := get_ex hjlen
        rw [drop_c hx] at hrow
        obtain ⟨r, hr⟩ : ∃ r, r = (LL (4 + c)).drop (j + 1) := ⟨_, rfl⟩
        rw [← hr] at hrow
        have hx0 : ((ulN V i c j T0).1 (4 + c))[0]? = some x := by rw [hrow]; rfl
        have hxA := hV1.2.2.2 x (List.mem_of_getElem? hx0)
        have hdel : delA ((ulN V i c j T0).1 (4 + c)) 0 = r := by rw [hrow]; rfl
        have hst := ulS_c (V := V) (i := i) hrow
        have hbj := hb j (by omega)
        have hii : va_up (ulN V i c j T0).1 (4 + c) r i = (ulN V i c j T0).1 i := va_up_ne _ _ (by omega)
        refine gw_il5 d_F_unload_16 ?_
        refine gw_il4 d_F_unload_18 ?_
        refine gw_icge d_F_unload_20 (fun c_20 => absurd (n_le c_20 (by omega) (by omega)) (by omega)) (fun c_20 => ?_)
        refine gw_al1 d_F_unload_23 ?_
        refine gw_get d_F_unload_24 (by assumption) (by rfl) ?_
        refine gw_rV0 d_F_unload_27 cs_F_unload_27 ha1 (c_A_isEmpty hL1) ?_ (hcs := by show j ≤ 48; omega) (hss := by show 72 * j ≤ 3456; omega)
        refine gw_ifne d_F_unload_30 (fun c_30 => absurd (by rw [hrow]; rfl) c_30) (fun c_30 => ?_)
        refine gw_al1 d_F_unload_33 ?_
        refine gw_get d_F_unload_34 (by assumption) (by rfl) ?_
        refine gw_push d_F_unload_37 ?_
        refine gw_cV1 d_F_unload_38 cs_F_unload_38 ha1 (c_A_remove hL1 hx0) (fun v h2 sz2 hp hz => ?_) (fun E h2 sz2 hp _ => by cases hp.1) (hcs := by show j ≤ 48; omega) (hss := by show 72 * j ≤ 3456; omega); obtain ⟨w0, w1, w2, w3⟩ := hp; cases w0; subst w3; rw [hdel] at w1; have hC2 := hC1.list wf1 hdce (k := 4 + c) (by omega) w1 w2 (Or.inl rfl) (fun z hz => hV1.2.2.2 z (by rw [hrow]; exact List.mem_cons_of_mem _ hz)); have hq2 := hq.trans (CQ.ofFr (k := 4 + c) (by omega) w2 (Or.inl rfl) (Nat.le_refl _)); have hxA2 := hxA.fr hL1 wf1 hdce w2; have hx2 := hxA2.1; have hS2 := hC2.sv hi; rw [hii] at hS2; have hs2 := hS2.1; have hF2 := hC2.1
        refine gw_castV d_F_unload_41 cl_F_unload_41 (by assumption) ?_
        refine gw_as6 d_F_unload_44 ?_
        refine gw_al2 d_F_unload_46 ?_
        refine gw_al6 d_F_unload_47 ?_
        refine gw_rV1 d_F_unload_49 cs_F_unload_49 hs2 (c_S_lacks hS2 hxA2) ?_ (hcs := by show j ≤ 48; omega) (hss := by show 72 * j ≤ 3456; omega)
        refine gw_ifeq d_F_unload_52 (fun c_52 => ?_) (fun c_52 => ?_)
        · first | exact gw_ii5 d_F_unload_74 (by rw [n_s]; exact GW.widen (k' := j + 1) (w' := 72 * (j + 1)) (by omega) (by omega) (gw_goto d_F_unload_77 (ih (j + 1) _ _ _ _ (by omega) (by omega) (by rw [ulN, hst, if_neg (by rw [(by simpa using (b2i_ne0 _).mp c_52 : tCv V ((ulN V i c j T0).2.1 i) i x = false)]; decide), if_neg (show ¬ 300 < bwL V x ((ulN V i c j T0).1 i) from w5)]; exact z1) (hq2.trans z2)))) | exact gw_ii5 d_F_unload_74 (by rw [n_s]; exact GW.widen (k' := j + 1) (w' := 72 * (j + 1)) (by omega) (by omega) (gw_goto d_F_unload_77 (ih (j + 1) _ _ _ _ (by omega) (by omega) (by rw [ulN, hst, if_pos (by simpa using (b2i_eq0 _).mp c_52 : tCv V ((ulN V i c j T0).2.1 i) i x = true)]; exact hC2) hq2)))
        · refine gw_al2 d_F_unload_55 ?_
          refine gw_al6 d_F_unload_56 ?_
          refine GW.wf (fun wf2 => ?_); refine gw_cV1 d_F_unload_58 cs_F_unload_58 hs2 (c_S_takeIn hS2 hbj hxA2) (fun v h3 sz3 hp hz3 => ?_) (fun E h3 sz3 hp _ => by exact hp.elim (fun z => by cases z.2.1) (fun z => by cases z.2.1)) (hcs := by show j + 1 ≤ 48; omega) (hss := by show 72 * j + 72 ≤ 3456; omega); rcases hp with ⟨w5, w6, w7, w8⟩ | ⟨w5, w6, e', w7, w8, w9, w10, w11⟩
          · cases w6; subst w7; subst w8
            refine gw_ifne d_F_unload_61 (fun c_61 => absurd rfl c_61) (fun c_61 => ?_)
            refine gw_al0 d_F_unload_64 ?_
            refine gw_dup d_F_unload_65 rfl ?_
            refine gw_get d_F_unload_66 hF2 (by rfl) ?_
            refine gw_push d_F_unload_69 ?_
            refine gw_iadd d_F_unload_70 ?_
            refine gw_pf3 d_F_unload_71 hF2 rfl rfl ?_
            exact gw_ii5 d_F_unload_74 (by rw [n_s]; exact gw_goto d_F_unload_77 (ih (j + 1) _ _ _ _ (by omega) (by omega) (by rw [ulN, hst, if_neg (by rw [(by simpa using (b2i_ne0 _).mp c_52 : tCv V ((ulN V i c j T0).2.1 i) i x = false)]; decide), if_pos (show 300 < bwL V x ((ulN V i c j T0).1 i) from w5)]; exact hC2.left) (hq2.trans (CQ.ofLeft (Nat.le_refl _)))))
          cases w6; obtain ⟨z1, z2⟩ := hC2.both wf2 hdce (k := i) (t := i) (by omega) (by omega) w7 w8.2 w9 (w10.elim Or.inl (fun q => Or.inr q.1)) (fun y hy => by rcases insA_mem hy with rfl | q; (· exact hxA2); exact hS2.2.2.2.2 y (List.mem_filter.mp q).1) w11
          refine gw_ifne d_F_unload_61 (fun c_61 => ?_) (fun c_61 => absurd c_61 (by decide))
          first | exact gw_ii5 d_F_unload_74 (by rw [n_s]; exact GW.widen (k' := j + 1) (w' := 72 * (j + 1)) (by omega) (by omega) (gw_goto d_F_unload_77 (ih (j + 1) _ _ _ _ (by omega) (by omega) (by rw [ulN, hst, if_neg (by rw [(by simpa using (b2i_ne0 _).mp c_52 : tCv V ((ulN V i c j T0).2.1 i) i x = false)]; decide), if_neg (show ¬ 300 < bwL V x ((ulN V i c j T0).1 i) from w5)]; exact z1) (hq2.trans z2)))) | exact gw_ii5 d_F_unload_74 (by rw [n_s]; exact GW.widen (k' := j + 1) (w' := 72 * (j + 1)) (by omega) (by omega) (gw_goto d_F_unload_77 (ih (j + 1) _ _ _ _ (by omega) (by omega) (by rw [ulN, hst, if_pos (by simpa using (b2i_eq0 _).mp c_52 : tCv V ((ulN V i c j T0).2.1 i) i x = true)]; exact hC2) hq2)))
  refine gw_al1 d_F_unload_0 ?_
  refine gw_get d_F_unload_1 (by assumption) (by rfl) ?_
  refine gw_rV0 d_F_unload_4 cs_F_unload_4 ha (c_A_size hL) ?_
  refine gw_il3 d_F_unload_7 ?_
  refine gw_rS2 d_F_unload_8 cs_F_unload_8 c_J_min ?_; rw [mnI_n (by omega) hmo, ← hdu]
  refine gw_is4 d_F_unload_11 ?_
  refine gw_push d_F_unload_13 ?_
  refine gw_is5 d_F_unload_14 ?_
  exact loop (du + 1) 0 h sz el _ (by omega) (by omega) (by rw [hT0]; exact hC) (CQ.refl (Nat.le_refl _))
theorem c_F_goThrough (hC : CI G V Y h el LL F lo) {i c mo : Nat} (hi : i < 4) (hc : c < 3) (hmo : mo < 2147483648) (hb : ∀ j, j < min (LL (4 + c)).length mo → ((ulN V i c j (LL, F, lo)).1 i).length < 48) {ds : Int32} : SM G l 10 y_F_goThrough M_F_goThrough [.ref (lFo Y), .ref (lCo Y c), .ref (lSo Y i), .int ds, .int (nI mo)] h sz 144 10368 (fun r h' sz' => r = .inl (some (.int (gtR V i c ds mo (LL, F, lo)))) ∧ ∃ el', CI G V Y h' el' (gtT V i c ds mo (LL, F, lo)).1 (gtT V i c ds mo (LL, F, lo)).2.1 (gtT V i c ds mo (LL, F, lo)).2.2 ∧ CQ Y el h sz el' h' sz') := by
  have hF := hC.1
  have h48 := (hC.2.2.2.2.2.1 (4 + c) (by omega)).2.1
  obtain ⟨T1, hT1⟩ : ∃ T1 : gT, T1 = ulN V i c (min (LL (4 + c)).length mo) (LL, F, lo) := ⟨_, rfl⟩
  have hrow := ulN_row (V := V) (c := c) hi (T := (LL, F, lo)) (min (LL (4 + c)).length mo)
  rw [← hT1] at hrow
  refine SM.of (lv0 := [some (.ref (lFo Y)), some (.ref (lCo Y c)), some (.ref (lSo Y i)), some (.int ds), some (.int (nI mo)), none]) (by decide +kernel) rfl ⟨rfl, rfl⟩ rfl (by simp [Value.category]) (Nat.le_of_ble_eq_true rfl) ?_
  refine GW.dce (fun hdce => ?_)
  refine gw_al0 d_F_goThrough_0 ?_
  refine gw_al1 d_F_goThrough_1 ?_
  refine gw_al2 d_F_goThrough_2 ?_
  refine gw_il4 d_F_goThrough_3 ?_
  refine gw_cV3 d_F_goThrough_5 cs_F_goThrough_5 hF (c_F_unload hC hi hc hmo hb) (fun v h1 sz1 hp hz => ?_) (fun E h1 sz1 hp _ => by cases hp.1); obtain ⟨w0, el1, hC1, hq1⟩ := hp; cases w0; rw [← hT1] at hC1
  refine GW.wf (fun wf1 => ?_)
  have hF1 := hC1.1
  have hV1 := hC1.cv hc
  have hso1 := hV1.1
  have hL1 := hV1.2.1
  obtain ⟨mo1, ha1⟩ := hL1.1
  have hS1 := hC1.sv hi
  have hs1 := hS1.1
  have hTc := hV1.2.2.1
  by_cases hm : mo < (LL (4 + c)).length
  · have e1 : gtT V i c ds mo (LL, F, lo) = T1 := by rw [gtT, if_pos (show mo < (((LL, F, lo) : gT).1 (4 + c)).length from hm), hT1, Nat.min_eq_right (by omega)]
    have e2 : gtR V i c ds mo (LL, F, lo) = 0 := by rw [gtR, if_pos (show mo < (((LL, F, lo) : gT).1 (4 + c)).length from hm)]
    rw [e1, e2]
    have hne : (T1.1 (4 + c)).isEmpty = false := by
      rw [hrow, Nat.min_eq_right (by omega)]
      obtain ⟨x, hx⟩ := get_ex hm
      show ((LL (4 + c)).drop mo).isEmpty = false
      rw [drop_c hx]; rfl
    refine gw_is5 d_F_goThrough_8 ?_
    refine gw_al1 d_F_goThrough_10 ?_
    refine gw_get d_F_goThrough_11 (by assumption) (by rfl) ?_
    refine gw_rV0 d_F_goThrough_14 cs_F_goThrough_14 ha1 (c_A_isEmpty hL1) ?_
    refine gw_ifne d_F_goThrough_17 (fun c_17 => absurd (by rw [hne]; rfl) c_17) (fun c_17 => ?_)
    refine gw_push d_F_goThrough_20 ?_
    exact gw_iret d_F_goThrough_21 rfl (by decide) (by decide) ⟨rfl, _, hC1, hq1⟩
  · have hmin : min (LL (4 + c)).length mo = (LL (4 + c)).length := Nat.min_eq_left (by omega)
    have e1 : gtT V i c ds mo (LL, F, lo) = gt2 V i c ds (mo - (LL (4 + c)).length) T1 := by rw [gtT, if_neg (show ¬ mo < (((LL, F, lo) : gT).1 (4 + c)).length from hm), hT1, hmin]
    have e2 : gtR V i c ds mo (LL, F, lo) = nI (ldR V (mo - (LL (4 + c)).length) [] (gtC V i c ds T1)).length := by rw [gtR, if_neg (show ¬ mo < (((LL, F, lo) : gT).1 (4 + c)).length from hm), hT1, hmin]
    rw [e1, e2, hmin]
    have hrow0 : T1.1 (4 + c) = [] := by rw [hrow, hmin]; exact List.drop_length
    have hcc : lTc Y (4 + c) ≠ lTc Y i := fun q => by have := hC.2.2.2.2.2.2.2.2.2.1 _ _ (by omega) (by omega) q; omega
    refine gw_is5 d_F_goThrough_8 ?_
    refine gw_al1 d_F_goThrough_10 ?_
    refine gw_get d_F_goThrough_11 (by assumption) (by rfl) ?_
    refine gw_rV0 d_F_goThrough_14 cs_F_goThrough_14 ha1 (c_A_isEmpty hL1) ?_
    refine gw_ifne d_F_goThrough_17 (fun c_17 => ?_) (fun c_17 => absurd c_17 (by rw [hrow0]; decide))
    refine gw_al2 d_F_goThrough_22 ?_
    refine gw_al1 d_F_goThrough_23 ?_
    refine gw_get d_F_goThrough_24 (by assumption) (by rfl) ?_
    refine gw_vV1 d_F_goThrough_27 cs_F_goThrough_27 hs1 (c_S_learn hS1 hTc hcc) (fun h2 sz2 hp hz => ?_); obtain ⟨w1, w2⟩ := hp; subst w1; subst w2; have hC2 := hC1.table (k := i) (by omega) (f' := gtF T1 i c); have hq2 := hq1.trans (CQ.ofTable (k := i) (by omega) (E := gI 160 (gtF T1 i c)) (Nat.le_refl _)); have hS2 := hC2.sv hi; rw [va_up_self] at hS2; have hs2 := hS2.1; have hV2 := hC2.cv hc; have hso2 := hV2.1
    refine gw_al2 d_F_goThrough_30 ?_
    refine GW.wf (fun wf2 => ?_); refine gw_vV0 d_F_goThrough_31 cs_F_goThrough_31 hs2 (c_S_dropMarks hS2) (fun h3 sz3 hp hz3 => ?_); obtain ⟨w1, w2, w3⟩ := hp; subst w3; have hC3 := hC2.list wf2 hdce (k := i) (by omega) w1 w2 (Or.inl rfl) (fun y hy => hS2.2.2.2.2 y (List.mem_filter.mp hy).1); have hq3 := hq2.trans (CQ.ofFr (k := i) (by omega) w2 (Or.inl rfl) (Nat.le_refl _)); have hS3 := hC3.sv hi; have hs3 := hS3.1; have hV3 := hC3.cv hc; have hso3 := hV3.1; have hT3 := hV3.2.2.1; have ht3 := hT3.1; have hT4 := hS3.2.2.1; rw [va_up_ne _ _ (show 4 + c ≠ i by omega)] at hT3; rw [va_up_self] at hT4
    refine gw_al1 d_F_goThrough_34 ?_
    refine gw_get d_F_goThrough_35 (by assumption) (by rfl) ?_
    refine gw_al2 d_F_goThrough_38 ?_
    refine gw_get d_F_goThrough_39 (by assumption) (by rfl) ?_
    refine gw_vV1 d_F_goThrough_42 cs_F_goThrough_42 ht3 (c_T_become hT3 hT4) (fun h4 sz4 hp hz4 => ?_); obtain ⟨w4, w5⟩ := hp; subst w4; subst w5; have hC4 := hC3.table (k := 4 + c) (by omega) (f' := va_cpy (gtF T1 i c) (T1.2.1 (4 + c)) 0 0 160); have hq4 := hq3.trans (CQ.ofTable (k := 4 + c) (by omega) (E := gI 160 (va_cpy (gtF T1 i c) (T1.2.1 (4 + c)) 0 0 160)) (Nat.le_refl _)); have hF4 := hC4.1
    refine gw_al0 d_F_goThrough_45 ?_
    refine gw_al1 d_F_goThrough_46 ?_
    refine gw_al2 d_F_goThrough_47 ?_
    refine gw_il3 d_F_goThrough_48 ?_
    refine gw_il4 d_F_goThrough_49 ?_
    refine gw_il5 d_F_goThrough_51 ?_
    refine gw_isub d_F_goThrough_53 ?_; rw [pk_sub (by omega)]
    refine gw_cV4 d_F_goThrough_54 cs_F_goThrough_54 hF4 (c_F_load hC4 hi hc (by omega) (by rw [va_up_ne _ _ (show 4 + c ≠ i by omega)]; exact hrow0)) (fun v h5 sz5 hp hz5 => ?_) (fun E h5 sz5 hp _ => by cases hp.1); obtain ⟨w0, el5, w6, w7⟩ := hp; cases w0; have w8 := hq4.trans w7; rw [va_up_ne _ _ (show i ≠ 4 + c by omega), va_up_self, va_up_self] at w6
    refine gw_iret d_F_goThrough_57 rfl (by decide) (by decide) ⟨?_, el5, ?_, w8⟩
    · rw [va_up_ne _ _ (show i ≠ 4 + c by omega), va_up_self, va_up_self]; rfl
    · exact w6
theorem c_F_visit (htr : l.stackTraces = false) (hC : CI G V Y h el LL F lo) (hb : ∀ i c, i < 4 → c < 3 → ∀ j, j < (LL (4 + c)).length → ((ulN V i c j (LL, F, lo)).1 i).length < 48) {ca s ds : Int32} : SM G l 11 y_F_visit M_F_visit [.ref (lFo Y), .int ca, .int s, .int ds] h sz 146 10380 (fun r h' sz' => ((okN ca 3 && okN s 4) = false ∧ r = .inr eN ∧ h' = h ∧ sz ≤ sz') ∨ (∃ i c, i < 4 ∧ c < 3 ∧ s = nI i ∧ ca = nI c ∧ r = .inl (some (.int (gtR V i c ds 1000000 (LL, F, lo)))) ∧ ∃ el', CI G V Y h' el' (gtT V i c ds 1000000 (LL, F, lo)).1 (gtT V i c ds 1000000 (LL, F, lo)).2.1 (gtT V i c ds 1000000 (LL, F, lo)).2.2 ∧ CQ Y el h sz el' h' sz')) := by
  have hF := hC.1
  refine SM.of (lv0 := [some (.ref (lFo Y)), some (.int ca), some (.int s), some (.int ds)]) (by decide +kernel) rfl ⟨rfl, rfl⟩ rfl (by simp [Value.category]) (Nat.le_of_ble_eq_true rfl) ?_
  cases hs : okN ca 3
  · refine gw_al0 d_F_visit_0 ?_
    refine gw_al0 d_F_visit_1 ?_
    refine gw_il1 d_F_visit_2 ?_
    exact gw_xV1 d_F_visit_3 cs_F_visit_3 hF (c_F_cartridgeAt htr hC) (by rw [hs]; rfl) rfl (fun sz' hz => Or.inl ⟨by simp, rfl, rfl, hz⟩)
  · obtain ⟨c, hc, rfl⟩ := okN_t (by decide) hs
    refine gw_al0 d_F_visit_0 ?_
    refine gw_al0 d_F_visit_1 ?_
    refine gw_il1 d_F_visit_2 ?_
    refine gw_oV1 d_F_visit_3 cs_F_visit_3 hF (c_F_cartridgeAt htr hC) (by rw [hs]; rfl) (fun sz0 hz => ?_); rw [nI_clamp (by omega)]
    refine gw_al0 d_F_visit_6 ?_
    refine gw_il2 d_F_visit_7 ?_
    cases hs2 : okN s 4
    · exact gw_xV1 d_F_visit_8 cs_F_visit_8 hF (c_F_stationAt htr hC) (by rw [hs2]; rfl) rfl (fun sz' hz2 => Or.inl ⟨by simp, rfl, rfl, by omega⟩)
    · obtain ⟨i, hi, rfl⟩ := okN_t (by decide) hs2
      refine gw_oV1 d_F_visit_8 cs_F_visit_8 hF (c_F_stationAt htr hC) (by rw [hs2]; rfl) (fun sz1 hz1 => ?_); rw [nI_clamp (by omega)]
      refine gw_il3 d_F_visit_11 ?_
      refine gw_push d_F_visit_12 ?_
      refine gw_cV4 d_F_visit_14 cs_F_visit_14 hF (c_F_goThrough hC hi hc (mo := 1000000) (by decide) (fun j hj => hb i c hi hc j (by omega))) (fun v h2 sz2 hp hz2 => ?_) (fun E h2 sz2 hp _ => by cases hp.1); obtain ⟨w0, el2, w1, w2⟩ := hp; cases w0
      exact gw_iret d_F_visit_17 rfl (by decide) (by decide) (Or.inr ⟨i, c, hi, hc, rfl, rfl, rfl, el2, w1, (CQ.refl (by omega)).trans w2⟩)
theorem c_F_cut (htr : l.stackTraces = false) (hC : CI G V Y h el LL F lo) (hb : ∀ i c, i < 4 → c < 3 → ∀ j, j < (LL (4 + c)).length → ((ulN V i c j (LL, F, lo)).1 i).length < 48) {ca s ds n : Int32} : SM G l 11 y_F_cut M_F_cut [.ref (lFo Y), .int ca, .int s, .int ds, .int n] h sz 147 10386 (fun r h' sz' => ((okN ca 3 && okN s 4) = false ∧ r = .inr eN ∧ h' = h ∧ sz ≤ sz') ∨ ((okN ca 3 && okN s 4) = true ∧ n < 0 ∧ r = .inr eI ∧ h' = h ∧ sz ≤ sz') ∨ (∃ i c mo, i < 4 ∧ c < 3 ∧ s = nI i ∧ ca = nI c ∧ n = nI mo ∧ mo < 2147483648 ∧ r = .inl (some (.int (gtR V i c ds mo (LL, F, lo)))) ∧ ∃ el', CI G V Y h' el' (gtT V i c ds mo (LL, F, lo)).1 (gtT V i c ds mo (LL, F, lo)).2.1 (gtT V i c ds mo (LL, F, lo)).2.2 ∧ CQ Y el h sz el' h' sz')) := by
  have hF := hC.1
  refine SM.of (lv0 := [some (.ref (lFo Y)), some (.int ca), some (.int s), some (.int ds), some (.int n), none, none]) (by decide +kernel) rfl ⟨rfl, rfl⟩ rfl (by simp [Value.category]) (Nat.le_of_ble_eq_true rfl) ?_
  cases hs : okN ca 3
  · refine gw_al0 d_F_cut_0 ?_
    refine gw_il1 d_F_cut_1 ?_
    exact gw_xV1 d_F_cut_2 cs_F_cut_2 hF (c_F_cartridgeAt htr hC) (by rw [hs]; rfl) rfl (fun sz' hz => Or.inl ⟨by simp, rfl, rfl, hz⟩)
  · obtain ⟨c, hc, rfl⟩ := okN_t (by decide) hs
    refine gw_al0 d_F_cut_0 ?_
    refine gw_il1 d_F_cut_1 ?_
    refine gw_oV1 d_F_cut_2 cs_F_cut_2 hF (c_F_cartridgeAt htr hC) (by rw [hs]; rfl) (fun sz0 hz => ?_); rw [nI_clamp (by omega)]
    refine gw_as5 d_F_cut_5 ?_
    refine gw_al0 d_F_cut_7 ?_
    refine gw_il2 d_F_cut_8 ?_
    cases hs2 : okN s 4
    · exact gw_xV1 d_F_cut_9 cs_F_cut_9 hF (c_F_stationAt htr hC) (by rw [hs2]; rfl) rfl (fun sz' hz2 => Or.inl ⟨by simp, rfl, rfl, by omega⟩)
    · obtain ⟨i, hi, rfl⟩ := okN_t (by decide) hs2
      refine gw_oV1 d_F_cut_9 cs_F_cut_9 hF (c_F_stationAt htr hC) (by rw [hs2]; rfl) (fun sz1 hz1 => ?_); rw [nI_clamp (by omega)]
      refine gw_as6 d_F_cut_12 ?_
      refine gw_il4 d_F_cut_14 ?_
      refine gw_ifge d_F_cut_16 (fun c_16 => ?_) (fun c_16 => ?_)
      · refine gw_al0 d_F_cut_27 ?_
        refine gw_al5 d_F_cut_28 ?_
        refine gw_al6 d_F_cut_30 ?_
        refine gw_il3 d_F_cut_32 ?_
        refine gw_il4 d_F_cut_33 ?_
        obtain ⟨mo, hmo, rfl⟩ := nI_of (Int32.not_lt.mpr c_16); refine gw_cV4 d_F_cut_35 cs_F_cut_35 hF (c_F_goThrough hC hi hc hmo (fun j hj => hb i c hi hc j (by omega))) (fun v h2 sz2 hp hz2 => ?_) (fun E h2 sz2 hp _ => by cases hp.1); obtain ⟨w0, el2, w1, w2⟩ := hp; cases w0
        exact gw_iret d_F_cut_38 rfl (by decide) (by decide) (Or.inr (Or.inr ⟨i, c, mo, hi, hc, rfl, rfl, rfl, hmo, rfl, el2, w1, (CQ.refl (by omega)).trans w2⟩))
      · exact gw_throw th_F_cut_19 htr rfl (by decide) (Nat.le_of_ble_eq_true rfl) (by decide) (by decide) (fun sz2 hz2 => Or.inr (Or.inl ⟨rfl, Int32.not_le.mp c_16, rfl, rfl, by omega⟩))
end Vis2
