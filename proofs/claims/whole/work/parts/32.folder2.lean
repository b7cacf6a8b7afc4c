/-! ===== FolderRounds: what reads (2) ===== -/
section Sw
variable {G : gG} {l : Launch} {Z : State → Array Value → List Frame → State → Prop} {R : Room} {M : gM} {pc : Nat} {lv : List (Option Value)} {st : List Value} {h : gHp} {sz k w : Nat}
theorem gw_lookup {dflt : Int} {ps : Array (Int × Int)} {len : Nat} {x : Int32} {off : Int} {tgt : Nat} (hd : decode M.1 pc = .ok (.lookupswitch dflt ps, len)) (hp : (ps.toList.zip (ps.toList.drop 1)).all (fun (a, next) => a.1 < next.1) = true) (ho : Op.lookupswitch.offset ps.toList dflt x.toInt = off) (ht : (pc : Int) + off = (tgt : Int)) (kk : GW G l Z R M tgt lv st h sz k w) : GW G l Z R M pc lv (.int x :: st) h sz k w := by
  intro p e s m args below meth c H locs ls F hS hR hz hl
  exact lv_lookup F.1 F.2.1 hd hp ho ht (kk p e s m args below meth c H locs ls F hS hR hz hl)
theorem gw_tableIn {dflt lo hi : Int} {offs : Array Int} {len : Nat} {x : Int32} {off : Int} {tgt : Nat} (hd : decode M.1 pc = .ok (.tableswitch dflt lo hi offs, len)) (h1 : ¬ x.toInt < lo) (h2 : ¬ hi < x.toInt) (ho : offs[(x.toInt - lo).toNat]? = some off) (ht : (pc : Int) + off = (tgt : Int)) (kk : GW G l Z R M tgt lv st h sz k w) : GW G l Z R M pc lv (.int x :: st) h sz k w := by
  intro p e s m args below meth c H locs ls F hS hR hz hl
  exact lv_tableIn F.1 F.2.1 hd h1 h2 ho ht (kk p e s m args below meth c H locs ls F hS hR hz hl)
end Sw
section Fold2
variable {G : gG} {l : Launch} {V : gV} {Y : gLay} {h : gHp} {el : Nat → Nat} {LL : Nat → List Nat} {F : Nat → Nat → Int32} {lo : Int32} {sz : Nat}
def oSiblings (V : gV) (LL : Nat → List Nat) (s d : Int32) : gRs := if okN s 4 && okN d 10 then .inl (some (.int (nI ((LL s.toNatClampNeg).countP (vHb V d))))) else .inr eN
theorem c_F_siblings (htr : l.stackTraces = false) (hC : CI G V Y h el LL F lo) {s d : Int32} : SM G l 5 y_F_siblings M_F_siblings [.ref (lFo Y), .int s, .int d] h sz 4 24 (qO (oSiblings V LL s d) h sz) := by
  have hF := hC.1
  refine SM.of (lv0 := [some (.ref (lFo Y)), some (.int s), some (.int d), none]) (by decide +kernel) rfl ⟨rfl, rfl⟩ rfl (by simp [Value.category]) (Nat.le_of_ble_eq_true rfl) ?_
  cases hs : okN s 4
  · refine gw_al0 d_F_siblings_0 ?_
    refine gw_il1 d_F_siblings_1 ?_
    exact gw_xV1 d_F_siblings_2 cs_F_siblings_2 hF (c_F_stationAt htr hC) (by rw [hs]; rfl) rfl (fun sz' hz => ⟨by rw [oSiblings, hs]; rfl, rfl, hz⟩)
  · obtain ⟨i, hi, rfl⟩ := okN_t (by decide) hs
    have hV := hC.sv hi
    have hso := hV.1
    refine gw_al0 d_F_siblings_0 ?_
    refine gw_il1 d_F_siblings_1 ?_
    refine gw_oV1 d_F_siblings_2 cs_F_siblings_2 hF (c_F_stationAt htr hC) (by rw [hs]; rfl) (fun sz' hz => ?_); rw [nI_clamp (by omega)]
    refine gw_as3 d_F_siblings_5 ?_
    refine gw_il2 d_F_siblings_6 ?_
    cases hd : okN d 10
    · exact gw_xS1 d_F_siblings_7 cs_F_siblings_7 (c_F_checkDocument htr) (by rw [hd]; rfl) rfl (fun sz' hz2 => ⟨by rw [oSiblings, hs, hd]; rfl, rfl, by omega⟩)
    · refine gw_uS1 d_F_siblings_7 cs_F_siblings_7 (c_F_checkDocument htr) (by rw [hd]; rfl) (fun sz2 hz2 => ?_)
      refine gw_al3 d_F_siblings_10 ?_
      refine gw_il2 d_F_siblings_11 ?_
      refine gw_rV1 d_F_siblings_12 cs_F_siblings_12 hso (c_S_countSiblings hV) ?_
      exact gw_iret d_F_siblings_15 rfl (by decide) (by decide) ⟨by rw [oSiblings, hs, hd, nI_clamp (by omega)]; rfl, rfl, by omega⟩
def oCounter (V : gV) (LL : Nat → List Nat) (s d k j : Int32) : gRs := match sibA V LL s d k with
  | none => .inr eN
  | some x => if okN j 4 then .inl (some (.int (vVec V x j.toNatClampNeg))) else .inr eX
theorem sibA_in {s d k : Int32} {x : Nat} (h : sibA V LL s d k = some x) : ∃ i, i < 4 ∧ s = nI i ∧ x ∈ LL i := by
  unfold sibA at h
  cases hs : okN s 4
  · rw [hs] at h; cases h
  · obtain ⟨i, hi, rfl⟩ := okN_t (by decide) hs
    rw [hs] at h
    cases hd : okN d 10
    · rw [hd] at h; cases h
    · rw [hd, nI_clamp (by omega)] at h
      have hk : ∀ (L : List Nat) (b : Nat), kth (vHb V d) k L b = some x → x ∈ L := by
        intro L
        induction L with
        | nil => intro b q; cases q
        | cons y r ih =>
          intro b q
          rw [kth] at q
          split at q
          · split at q
            · cases q; exact List.mem_cons_self
            · exact List.mem_cons_of_mem _ (ih _ q)
          · exact List.mem_cons_of_mem _ (ih _ q)
      exact ⟨i, hi, rfl, hk _ _ h⟩
theorem CI.sib (hC : CI G V Y h el LL F lo) {s d k : Int32} {x : Nat} (hx : sibA V LL s d k = some x) : VA h V x := by
  obtain ⟨i, hi, -, q⟩ := sibA_in hx
  exact hC.2.2.2.2.2.2.2.2.2.2 i (by omega) x q
theorem c_F_counter (htr : l.stackTraces = false) (hC : CI G V Y h el LL F lo) {s d k j : Int32} : SM G l 6 y_F_counter M_F_counter [.ref (lFo Y), .int s, .int d, .int k, .int j] h sz 4 24 (qO (oCounter V LL s d k j) h sz) := by
  have hF := hC.1
  refine SM.of (lv0 := [some (.ref (lFo Y)), some (.int s), some (.int d), some (.int k), some (.int j), none]) (by decide +kernel) rfl ⟨rfl, rfl⟩ rfl (by simp [Value.category]) (Nat.le_of_ble_eq_true rfl) ?_
  refine gw_al0 d_F_counter_0 ?_
  refine gw_il1 d_F_counter_1 ?_
  refine gw_il2 d_F_counter_2 ?_
  refine gw_il3 d_F_counter_3 ?_
  cases hx : sibA V LL s d k with
  | none => exact gw_xV3 d_F_counter_4 cs_F_counter_4 hF (c_F_siblingAt htr hC) (by rw [hx]) rfl (fun sz' hz => ⟨by rw [oCounter, hx], rfl, hz⟩)
  | some x =>
    have hxA := hC.sib hx
    have hx1 := hxA.1
    refine gw_oV3 d_F_counter_4 cs_F_counter_4 hF (c_F_siblingAt htr hC) (by rw [hx]) (fun sz' hz => ?_)
    refine gw_as5 d_F_counter_7 ?_
    refine gw_il4 d_F_counter_9 ?_
    cases hj : okN j 4
    · exact gw_xS1 d_F_counter_11 cs_F_counter_11 (c_F_checkCounter htr) (by rw [hj]; rfl) rfl (fun sz' hz2 => ⟨by rw [oCounter, hx]; simp [hj], rfl, by omega⟩)
    · obtain ⟨i, hi, rfl⟩ := okN_t (by decide) hj
      refine gw_uS1 d_F_counter_11 cs_F_counter_11 (c_F_checkCounter htr) (by rw [hj]; rfl) (fun sz2 hz2 => ?_)
      refine gw_al5 d_F_counter_14 ?_
      refine gw_get d_F_counter_16 (by assumption) (by rfl) ?_
      refine gw_il4 d_F_counter_19 ?_
      refine gw_iald d_F_counter_21 hxA.2.1 i rfl hi (by omega) ?_
      exact gw_iret d_F_counter_22 rfl (by decide) (by decide) ⟨by rw [oCounter, hx]; simp [hj, nI_clamp (show i < 2 ^ 31 by omega)], rfl, by omega⟩
def oByteOf (V : gV) (LL : Nat → List Nat) (s d k i : Int32) : gRs := match sibA V LL s d k with
  | none => .inr eN
  | some x => if i < -1 ∨ ¬ i < vLen V x then .inr eX else .inl (some (.int (if i = -1 then vLen V x else (vFil V x + i) - (vFil V x + i) / 256 * 256)))
theorem c_F_byteOf (htr : l.stackTraces = false) (hC : CI G V Y h el LL F lo) {s d k i : Int32} : SM G l 6 y_F_byteOf M_F_byteOf [.ref (lFo Y), .int s, .int d, .int k, .int i] h sz 4 24 (qO (oByteOf V LL s d k i) h sz) := by
  have hF := hC.1
  refine SM.of (lv0 := [some (.ref (lFo Y)), some (.int s), some (.int d), some (.int k), some (.int i), none]) (by decide +kernel) rfl ⟨rfl, rfl⟩ rfl (by simp [Value.category]) (Nat.le_of_ble_eq_true rfl) ?_
  refine gw_al0 d_F_byteOf_0 ?_
  refine gw_il1 d_F_byteOf_1 ?_
  refine gw_il2 d_F_byteOf_2 ?_
  refine gw_il3 d_F_byteOf_3 ?_
  cases hx : sibA V LL s d k with
  | none => exact gw_xV3 d_F_byteOf_4 cs_F_byteOf_4 hF (c_F_siblingAt htr hC) (by rw [hx]) rfl (fun sz' hz => ⟨by rw [oByteOf, hx], rfl, hz⟩)
  | some x =>
    have hxA := hC.sib hx
    have hx1 := hxA.1
    refine gw_oV3 d_F_byteOf_4 cs_F_byteOf_4 hF (c_F_siblingAt htr hC) (by rw [hx]) (fun sz' hz => ?_)
    refine gw_as5 d_F_byteOf_7 ?_
    refine gw_il4 d_F_byteOf_9 ?_
    refine gw_push d_F_byteOf_11 ?_
    refine gw_iclt d_F_byteOf_12 (fun c_12 => ?_) (fun c_12 => ?_)
    · exact gw_throw th_F_byteOf_25 htr rfl (by decide) (Nat.le_of_ble_eq_true rfl) (by decide) (by decide) (fun sz2 hz2 => ⟨by rw [oByteOf, hx]; first | (have q := c_22; simp [q]) | (have q := c_12; simp [q]), rfl, by omega⟩)
    · refine gw_il4 d_F_byteOf_15 ?_
      refine gw_al5 d_F_byteOf_17 ?_
      refine gw_get d_F_byteOf_19 (by assumption) (by rfl) ?_
      refine gw_iclt d_F_byteOf_22 (fun c_22 => ?_) (fun c_22 => ?_)
      · refine gw_il4 d_F_byteOf_33 ?_
        refine gw_push d_F_byteOf_35 ?_
        refine gw_icne d_F_byteOf_36 (fun c_36 => ?_) (fun c_36 => ?_)
        · refine gw_al5 d_F_byteOf_47 ?_
          refine gw_get d_F_byteOf_49 (by assumption) (by rfl) ?_
          refine gw_il4 d_F_byteOf_52 ?_
          refine gw_iadd d_F_byteOf_54 ?_
          refine gw_push d_F_byteOf_55 ?_
          refine gw_irem d_F_byteOf_58 (by decide) ?_
          exact gw_iret d_F_byteOf_59 rfl (by decide) (by decide) ⟨by rw [oByteOf, hx]; show _ = if _ then _ else _; rw [if_neg (fun z => z.elim c_12 (fun y => y c_22))]; first | rw [if_pos c_36] | rw [if_neg c_36], rfl, by omega⟩
        · refine gw_al5 d_F_byteOf_39 ?_
          refine gw_get d_F_byteOf_41 (by assumption) (by rfl) ?_
          refine gw_goto d_F_byteOf_44 ?_
          exact gw_iret d_F_byteOf_59 rfl (by decide) (by decide) ⟨by rw [oByteOf, hx]; show _ = if _ then _ else _; rw [if_neg (fun z => z.elim c_12 (fun y => y c_22))]; first | rw [if_pos c_36] | rw [if_neg c_36], rfl, by omega⟩
      · exact gw_throw th_F_byteOf_25 htr rfl (by decide) (Nat.le_of_ble_eq_true rfl) (by decide) (by decide) (fun sz2 hz2 => ⟨by rw [oByteOf, hx]; first | (have q := c_22; simp [q]) | (have q := c_12; simp [q]), rfl, by omega⟩)
def oKnown (F : Nat → Nat → Int32) (s o d j : Int32) : gRs := if okN s 4 && (okN o 4 && okN d 10) then (if okN j 4 then .inl (some (.int (F s.toNatClampNeg ((o.toNatClampNeg * 10 + d.toNatClampNeg) * 4 + j.toNatClampNeg)))) else .inr eX) else .inr eN
theorem c_F_known (htr : l.stackTraces = false) (hC : CI G V Y h el LL F lo) {s o d j : Int32} : SM G l 5 y_F_known M_F_known [.ref (lFo Y), .int s, .int o, .int d, .int j] h sz 4 24 (qO (oKnown F s o d j) h sz) := by
  have hF := hC.1
  refine SM.of (lv0 := [some (.ref (lFo Y)), some (.int s), some (.int o), some (.int d), some (.int j), none]) (by decide +kernel) rfl ⟨rfl, rfl⟩ rfl (by simp [Value.category]) (Nat.le_of_ble_eq_true rfl) ?_
  cases hs : okN s 4
  · refine gw_al0 d_F_known_0 ?_
    refine gw_il1 d_F_known_1 ?_
    exact gw_xV1 d_F_known_2 cs_F_known_2 hF (c_F_stationAt htr hC) (by rw [hs]; rfl) rfl (fun sz' hz => ⟨by rw [oKnown, hs]; rfl, rfl, hz⟩)
  · obtain ⟨i, hi, rfl⟩ := okN_t (by decide) hs
    have hV := hC.sv hi
    have hso := hV.1
    have hT := hV.2.2.1
    have ht := hT.1
    refine gw_al0 d_F_known_0 ?_
    refine gw_il1 d_F_known_1 ?_
    refine gw_oV1 d_F_known_2 cs_F_known_2 hF (c_F_stationAt htr hC) (by rw [hs]; rfl) (fun sz' hz => ?_); rw [nI_clamp (by omega)]
    refine gw_as5 d_F_known_5 ?_
    refine gw_il2 d_F_known_7 ?_
    cases ho : okN o 4
    · exact gw_xS1 d_F_known_8 cs_F_known_8 (c_F_checkStation htr) (by rw [ho]; rfl) rfl (fun sz' hz2 => ⟨by rw [oKnown, hs, ho]; rfl, rfl, by omega⟩)
    · obtain ⟨o', ho', rfl⟩ := okN_t (by decide) ho
      refine gw_uS1 d_F_known_8 cs_F_known_8 (c_F_checkStation htr) (by rw [ho]; rfl) (fun sz2 hz2 => ?_)
      refine gw_il3 d_F_known_11 ?_
      cases hd : okN d 10
      · exact gw_xS1 d_F_known_12 cs_F_known_12 (c_F_checkDocument htr) (by rw [hd]; rfl) rfl (fun sz' hz3 => ⟨by rw [oKnown, hs, ho, hd]; rfl, rfl, by omega⟩)
      · obtain ⟨d', hd', rfl⟩ := okN_t (by decide) hd
        refine gw_uS1 d_F_known_12 cs_F_known_12 (c_F_checkDocument htr) (by rw [hd]; rfl) (fun sz3 hz3 => ?_)
        refine gw_il4 d_F_known_15 ?_
        cases hj : okN j 4
        · exact gw_xS1 d_F_known_17 cs_F_known_17 (c_F_checkCounter htr) (by rw [hj]; rfl) rfl (fun sz' hz4 => ⟨by rw [oKnown, hs, ho, hd, hj]; rfl, rfl, by omega⟩)
        · obtain ⟨j', hj', rfl⟩ := okN_t (by decide) hj
          refine gw_uS1 d_F_known_17 cs_F_known_17 (c_F_checkCounter htr) (by rw [hj]; rfl) (fun sz4 hz4 => ?_)
          refine gw_al5 d_F_known_20 ?_
          refine gw_get d_F_known_22 (by assumption) (by rfl) ?_
          refine gw_il2 d_F_known_25 ?_
          refine gw_il3 d_F_known_26 ?_
          refine gw_il4 d_F_known_27 ?_
          refine gw_rV3 d_F_known_29 cs_F_known_29 ht (c_T_counterAt hT ho' hd' hj') ?_
          exact gw_iret d_F_known_32 rfl (by decide) (by decide) ⟨by rw [oKnown, hs, ho, hd, hj, nI_clamp (by omega), nI_clamp (by omega), nI_clamp (by omega), nI_clamp (by omega)]; rfl, rfl, by omega⟩
def oMarks (V : gV) (LL : Nat → List Nat) (s : Int32) : gRs := if okN s 4 then .inl (some (.int (nI ((LL s.toNatClampNeg).countP (vMk V))))) else .inr eN
theorem c_F_marks (htr : l.stackTraces = false) (hC : CI G V Y h el LL F lo) {s : Int32} : SM G l 5 y_F_marks M_F_marks [.ref (lFo Y), .int s] h sz 4 24 (qO (oMarks V LL s) h sz) := by
  have hF := hC.1
  refine SM.of (lv0 := [some (.ref (lFo Y)), some (.int s)]) (by decide +kernel) rfl ⟨rfl, rfl⟩ rfl (by simp [Value.category]) (Nat.le_of_ble_eq_true rfl) ?_
  cases hs : okN s 4
  · refine gw_al0 d_F_marks_0 ?_
    refine gw_il1 d_F_marks_1 ?_
    exact gw_xV1 d_F_marks_2 cs_F_marks_2 hF (c_F_stationAt htr hC) (by rw [hs]; rfl) rfl (fun sz' hz => ⟨by rw [oMarks, hs]; rfl, rfl, hz⟩)
  · obtain ⟨i, hi, rfl⟩ := okN_t (by decide) hs
    have hV := hC.sv hi
    have hso := hV.1
    refine gw_al0 d_F_marks_0 ?_
    refine gw_il1 d_F_marks_1 ?_
    refine gw_oV1 d_F_marks_2 cs_F_marks_2 hF (c_F_stationAt htr hC) (by rw [hs]; rfl) (fun sz' hz => ?_); rw [nI_clamp (by omega)]
    refine gw_rV0 d_F_marks_5 cs_F_marks_5 hso (c_S_countMarks hV) ?_
    exact gw_iret d_F_marks_8 rfl (by decide) (by decide) ⟨by rw [oMarks, hs, nI_clamp (by omega)]; rfl, rfl, by omega⟩
def oBytes (V : gV) (LL : Nat → List Nat) (s : Int32) : gRs := if okN s 4 then .inl (some (.int ((LL s.toNatClampNeg).foldl (fun b y => b + vBy V y) 0))) else .inr eN
theorem c_F_bytes (htr : l.stackTraces = false) (hC : CI G V Y h el LL F lo) {s : Int32} : SM G l 5 y_F_bytes M_F_bytes [.ref (lFo Y), .int s] h sz 4 24 (qO (oBytes V LL s) h sz) := by
  have hF := hC.1
  refine SM.of (lv0 := [some (.ref (lFo Y)), some (.int s)]) (by decide +kernel) rfl ⟨rfl, rfl⟩ rfl (by simp [Value.category]) (Nat.le_of_ble_eq_true rfl) ?_
  cases hs : okN s 4
  · refine gw_al0 d_F_bytes_0 ?_
    refine gw_il1 d_F_bytes_1 ?_
    exact gw_xV1 d_F_bytes_2 cs_F_bytes_2 hF (c_F_stationAt htr hC) (by rw [hs]; rfl) rfl (fun sz' hz => ⟨by rw [oBytes, hs]; rfl, rfl, hz⟩)
  · obtain ⟨i, hi, rfl⟩ := okN_t (by decide) hs
    have hV := hC.sv hi
    have hso := hV.1
    refine gw_al0 d_F_bytes_0 ?_
    refine gw_il1 d_F_bytes_1 ?_
    refine gw_oV1 d_F_bytes_2 cs_F_bytes_2 hF (c_F_stationAt htr hC) (by rw [hs]; rfl) (fun sz' hz => ?_); rw [nI_clamp (by omega)]
    refine gw_rV0 d_F_bytes_5 cs_F_bytes_5 hso (c_S_countBytes hV) ?_
    exact gw_iret d_F_bytes_8 rfl (by decide) (by decide) ⟨by rw [oBytes, hs, nI_clamp (by omega)]; rfl, rfl, by omega⟩
def oSame (V : gV) (LL : Nat → List Nat) (a b : Int32) : gRs := if okN a 4 && okN b 4 then .inl (some (.int (b2i (smL V ((LL a.toNatClampNeg).filter (fun y => !vMk V y)) ((LL b.toNatClampNeg).filter (fun y => !vMk V y)))))) else .inr eN
theorem c_F_same (htr : l.stackTraces = false) (hC : CI G V Y h el LL F lo) {a b : Int32} : SM G l 6 y_F_same M_F_same [.ref (lFo Y), .int a, .int b] h sz 4 24 (qO (oSame V LL a b) h sz) := by
  have hF := hC.1
  refine SM.of (lv0 := [some (.ref (lFo Y)), some (.int a), some (.int b), none, none]) (by decide +kernel) rfl ⟨rfl, rfl⟩ rfl (by simp [Value.category]) (Nat.le_of_ble_eq_true rfl) ?_
  cases hs : okN a 4
  · refine gw_al0 d_F_same_0 ?_
    refine gw_il1 d_F_same_1 ?_
    exact gw_xV1 d_F_same_2 cs_F_same_2 hF (c_F_stationAt htr hC) (by rw [hs]; rfl) rfl (fun sz' hz => ⟨by rw [oSame, hs]; rfl, rfl, hz⟩)
  · obtain ⟨i, hi, rfl⟩ := okN_t (by decide) hs
    have hV := hC.sv hi
    have hso := hV.1
    refine gw_al0 d_F_same_0 ?_
    refine gw_il1 d_F_same_1 ?_
    refine gw_oV1 d_F_same_2 cs_F_same_2 hF (c_F_stationAt htr hC) (by rw [hs]; rfl) (fun sz' hz => ?_); rw [nI_clamp (by omega)]
    refine gw_as3 d_F_same_5 ?_
    refine gw_al0 d_F_same_6 ?_
    refine gw_il2 d_F_same_7 ?_
    cases hb : okN b 4
    · exact gw_xV1 d_F_same_8 cs_F_same_8 hF (c_F_stationAt htr hC) (by rw [hb]; rfl) rfl (fun sz' hz2 => ⟨by rw [oSame, hs, hb]; rfl, rfl, by omega⟩)
    · obtain ⟨j, hj, rfl⟩ := okN_t (by decide) hb
      have hV2 := hC.sv hj
      refine gw_oV1 d_F_same_8 cs_F_same_8 hF (c_F_stationAt htr hC) (by rw [hb]; rfl) (fun sz2 hz2 => ?_); rw [nI_clamp (by omega)]
      refine gw_as4 d_F_same_11 ?_
      refine gw_al3 d_F_same_13 ?_
      refine gw_al4 d_F_same_14 ?_
      refine gw_rV1 d_F_same_16 cs_F_same_16 hso (c_S_hasSameSiblingsAs hV hV2) ?_
      exact gw_zret d_F_same_19 rfl (b2i_01 _) (by decide) (by decide) ⟨by rw [oSame, hs, hb, nI_clamp (by omega), nI_clamp (by omega)]; rfl, rfl, by omega⟩
def rmL (V : gV) (L : List Nat) : Int32 := L.foldl (fun b y => b - (8 + vBy V y)) 100
def oRoom (V : gV) (LL : Nat → List Nat) (c : Int32) : gRs := if okN c 3 then .inl (some (.int (rmL V (LL (4 + c.toNatClampNeg))))) else .inr eN
theorem c_F_room (htr : l.stackTraces = false) (hC : CI G V Y h el LL F lo) {c : Int32} : SM G l 5 y_F_room M_F_room [.ref (lFo Y), .int c] h sz 4 24 (qO (oRoom V LL c) h sz) := by
  have hF := hC.1
  refine SM.of (lv0 := [some (.ref (lFo Y)), some (.int c)]) (by decide +kernel) rfl ⟨rfl, rfl⟩ rfl (by simp [Value.category]) (Nat.le_of_ble_eq_true rfl) ?_
  cases hs : okN c 3
  · refine gw_al0 d_F_room_0 ?_
    refine gw_il1 d_F_room_1 ?_
    exact gw_xV1 d_F_room_2 cs_F_room_2 hF (c_F_cartridgeAt htr hC) (by rw [hs]; rfl) rfl (fun sz' hz => ⟨by rw [oRoom, hs]; rfl, rfl, hz⟩)
  · obtain ⟨i, hi, rfl⟩ := okN_t (by decide) hs
    have hV := hC.cv hi
    have hso := hV.1
    refine gw_al0 d_F_room_0 ?_
    refine gw_il1 d_F_room_1 ?_
    refine gw_oV1 d_F_room_2 cs_F_room_2 hF (c_F_cartridgeAt htr hC) (by rw [hs]; rfl) (fun sz' hz => ?_); rw [nI_clamp (by omega)]
    refine gw_rV0 d_F_room_5 cs_F_room_5 hso (c_C_roomLeft hV) ?_
    exact gw_iret d_F_room_8 rfl (by decide) (by decide) ⟨by rw [oRoom, hs, nI_clamp (by omega)]; rfl, rfl, by omega⟩
def oItem (V : gV) (LL : Nat → List Nat) (c k q : Int32) : gRs := if okN c 3 && okN k (LL (4 + c.toNatClampNeg)).length then (if okN q 6 then .inl (some (.int (let x := (LL (4 + c.toNatClampNeg)).getD k.toNatClampNeg 0; if q = 0 then nI (vDoc V x) else if q = 1 then vLen V x else vVec V x (q.toNatClampNeg - 2)))) else .inr eX) else .inr eN
theorem c_F_item (htr : l.stackTraces = false) (hC : CI G V Y h el LL F lo) {c k q : Int32} : SM G l 5 y_F_item M_F_item [.ref (lFo Y), .int c, .int k, .int q] h sz 4 24 (qO (oItem V LL c k q) h sz) := by
  have hF := hC.1
  refine SM.of (lv0 := [some (.ref (lFo Y)), some (.int c), some (.int k), some (.int q), none, none]) (by decide +kernel) rfl ⟨rfl, rfl⟩ rfl (by simp [Value.category]) (Nat.le_of_ble_eq_true rfl) ?_
  cases hs : okN c 3
  · refine gw_al0 d_F_item_0 ?_
    refine gw_il1 d_F_item_1 ?_
    exact gw_xV1 d_F_item_2 cs_F_item_2 hF (c_F_cartridgeAt htr hC) (by rw [hs]; rfl) rfl (fun sz' hz => ⟨by rw [oItem, hs]; rfl, rfl, hz⟩)
  · obtain ⟨i, hi, rfl⟩ := okN_t (by decide) hs
    have hV := hC.cv hi
    have hso := hV.1
    have hL := hV.2.1
    obtain ⟨mo, ha⟩ := hL.1
    have h48 := hL.2.1
    have hec : (nI i).toNatClampNeg = i := nI_clamp (by omega)
    have hrest : okN k (LL (4 + i)).length = true → ∀ sz', sz ≤ sz' → GM G l 5 4 24 (qO (oItem V LL (nI i) k q) h sz) M_F_item 31 [some (.ref (lFo Y)), some (.int (nI i)), some (.int k), some (.int q), some (.ref (lCo Y i)), none] [] h sz' 1 6 := by
      intro hk sz' hz
      obtain ⟨k', hk', rfl⟩ := okN_t (by omega) hk
      obtain ⟨x, hx⟩ := get_ex hk'
      have hxA := hV.2.2.2 x (List.mem_of_getElem? hx)
      have hx1 := hxA.1
      have hgd : (LL (4 + i)).getD k' 0 = x := by rw [List.getD_eq_getElem?_getD, hx]; rfl
      have hek : (nI k').toNatClampNeg = k' := nI_clamp (by omega)
      have h64 : ∀ q', q' < 6 → q = nI q' → GM G l 5 4 24 (qO (oItem V LL (nI i) (nI k') q) h sz) M_F_item 64 [some (.ref (lFo Y)), some (.int (nI i)), some (.int (nI k')), some (.int q), some (.ref (lCo Y i)), some (.ref x)] [.int q] h sz' 1 6 := by
        intro q' hq' hqe
        subst hqe
        have hq := okN_n (n := 6) (by decide) hq'
        have heq : (nI q').toNatClampNeg = q' := nI_clamp (by omega)
        have hfin : oItem V LL (nI i) (nI k') (nI q') = .inl (some (.int (if nI q' = 0 then nI (vDoc V x) else if nI q' = 1 then vLen V x else vVec V x (q' - 2)))) := by
          rw [oItem, hs, hec, hk, hq, hek, heq, hgd]; rfl
        by_cases q0 : q' = 0
        · subst q0
          refine gw_lookup (off := 28) (tgt := 92) d_F_item_64.1 (by decide) (by decide) (by decide) ?_
          refine gw_al5 d_F_item_92 ?_
          refine gw_get d_F_item_94 (by assumption) (by rfl) ?_
          exact gw_iret d_F_item_97 rfl (by decide) (by decide) ⟨by rw [hfin]; rfl, rfl, by omega⟩
        · by_cases q1 : q' = 1
          · subst q1
            refine gw_lookup (off := 34) (tgt := 98) d_F_item_64.1 (by decide) (by decide) (by decide) ?_
            refine gw_al5 d_F_item_98 ?_
            refine gw_get d_F_item_100 (by assumption) (by rfl) ?_
            exact gw_iret d_F_item_103 rfl (by decide) (by decide) ⟨by rw [hfin]; rfl, rfl, by omega⟩
          · have hoff : Op.lookupswitch.offset [((0 : Int), (28 : Int)), (1, 34)] 40 (nI q').toInt = 40 := by
              rw [nI_toInt (by omega)]
              rw [Op.lookupswitch.offset_cons, if_neg (by omega), Op.lookupswitch.offset_cons, if_neg (by omega)]; rfl
            refine gw_lookup (off := 40) (tgt := 104) d_F_item_64.1 (by decide) hoff (by decide) ?_
            refine gw_al5 d_F_item_104 ?_
            refine gw_get d_F_item_106 (by assumption) (by rfl) ?_
            refine gw_il3 d_F_item_109 ?_
            refine gw_push d_F_item_110 ?_
            refine gw_isub d_F_item_111 ?_; rw [n_lit 2, pk_sub (by omega)]
            refine gw_iald d_F_item_112 hxA.2.1 (q' - 2) rfl (by omega) (by omega) ?_
            exact gw_iret d_F_item_113 rfl (by decide) (by decide) ⟨by rw [hfin, if_neg (show ¬ nI q' = 0 from fun z => q0 (n_eq (b := 0) z (by omega) (by omega))), if_neg (show ¬ nI q' = 1 from fun z => q1 (n_eq (b := 1) z (by omega) (by omega)))], rfl, by omega⟩
      refine gw_il3 d_F_item_31 ?_
      refine gw_iflt d_F_item_32 (fun c_32 => ?_) (fun c_32 => ?_)
      · exact gw_throw th_F_item_41 htr rfl (by decide) (Nat.le_of_ble_eq_true rfl) (by decide) (by decide) (fun sz2 hz2 => ⟨by rw [oItem, hs, hec, hk]; first | (rw [okN_f1 c_32]; rfl) | (rw [okN_f2 6 c_38]; rfl), rfl, by omega⟩)
      · refine gw_il3 d_F_item_35 ?_
        refine gw_push d_F_item_36 ?_
        refine gw_iclt d_F_item_38 (fun c_38 => ?_) (fun c_38 => ?_)
        · refine gw_al4 d_F_item_49 ?_
          refine gw_get d_F_item_51 (by assumption) (by rfl) ?_
          refine gw_il2 d_F_item_54 ?_
          refine gw_rV1 d_F_item_55 cs_F_item_55 ha (c_A_get hL hx) ?_
          refine gw_castV d_F_item_58 cl_F_item_58 (by assumption) ?_
          refine gw_as5 d_F_item_61 ?_
          refine gw_il3 d_F_item_63 ?_
          obtain ⟨q', hq', hqe⟩ := okN_t (by decide) (okN_ok 6 c_32 c_38); exact h64 q' hq' hqe
        · exact gw_throw th_F_item_41 htr rfl (by decide) (Nat.le_of_ble_eq_true rfl) (by decide) (by decide) (fun sz2 hz2 => ⟨by rw [oItem, hs, hec, hk]; first | (rw [okN_f1 c_32]; rfl) | (rw [okN_f2 6 c_38]; rfl), rfl, by omega⟩)
    refine gw_al0 d_F_item_0 ?_
    refine gw_il1 d_F_item_1 ?_
    refine gw_oV1 d_F_item_2 cs_F_item_2 hF (c_F_cartridgeAt htr hC) (by rw [hs]; rfl) (fun sz' hz => ?_); rw [nI_clamp (by omega)]
    refine gw_as4 d_F_item_5 ?_
    refine gw_il2 d_F_item_7 ?_
    refine gw_iflt d_F_item_8 (fun c_8 => ?_) (fun c_8 => ?_)
    · exact gw_throw th_F_item_23 htr rfl (by decide) (Nat.le_of_ble_eq_true rfl) (by decide) (by decide) (fun sz2 hz2 => ⟨by rw [oItem, hs, hec]; first | (rw [okN_f1 c_8]; rfl) | (rw [okN_f2 _ c_20]; rfl), rfl, by omega⟩)
    · refine gw_il2 d_F_item_11 ?_
      refine gw_al4 d_F_item_12 ?_
      refine gw_get d_F_item_14 (by assumption) (by rfl) ?_
      refine gw_rV0 d_F_item_17 cs_F_item_17 ha (c_A_size hL) ?_
      refine gw_iclt d_F_item_20 (fun c_20 => ?_) (fun c_20 => ?_)
      · exact hrest (okN_ok _ c_8 c_20) _ hz
      · exact gw_throw th_F_item_23 htr rfl (by decide) (Nat.le_of_ble_eq_true rfl) (by decide) (by decide) (fun sz2 hz2 => ⟨by rw [oItem, hs, hec]; first | (rw [okN_f1 c_8]; rfl) | (rw [okN_f2 _ c_20]; rfl), rfl, by omega⟩)
theorem c_F_leftOut (hC : CI G V Y h el LL F lo) : SM G l 5 y_F_leftOut M_F_leftOut [.ref (lFo Y)] h sz 4 24 (qO (.inl (some (.int lo))) h sz) := by
  have hF := hC.1
  refine SM.of (lv0 := [some (.ref (lFo Y))]) (by decide +kernel) rfl ⟨rfl, rfl⟩ rfl (by simp [Value.category]) (Nat.le_of_ble_eq_true rfl) ?_
  refine gw_al0 d_F_leftOut_0 ?_
  refine gw_get d_F_leftOut_1 (by assumption) (by rfl) ?_
  exact gw_iret d_F_leftOut_4 rfl (by decide) (by decide) ⟨rfl, rfl, Nat.le_refl _⟩
end Fold2
