/-! ===== FolderRounds: what changes (2): a version is made ===== -/
def bwL (V : gV) (x : Nat) (L : List Nat) : Int32 := L.foldl (fun b y => if vRp V x y then b else b + vBy V y) (vBy V x)
def tkL (V : gV) (x : Nat) (L : List Nat) : List Nat := insS V x (L.filter (fun y => !vRp V x y))
def nwV (f : Nat → Int32) (i d : Nat) : Nat → Int32 := upd (va_cpy f (fun _ => 0) ((i * 10 + d) * 4) 0 4) i (va_cpy f (fun _ => 0) ((i * 10 + d) * 4) 0 4 i + 1)
def vNew (V : gV) (x d : Nat) (n fl : Int32) (q : Nat) (v : Nat → Int32) : gV := (va_up V.1 x d, va_up V.2.1 x n, va_up V.2.2.1 x fl, va_up V.2.2.2.1 x q, va_up V.2.2.2.2 x v)
theorem VA.new {V : gV} {h : gHp} {y x d : Nat} {n fl : Int32} {q : Nat} {v : Nat → Int32} (hy : VA h V y) (hn : y ≠ x) : VA h (vNew V x d n fl q v) y := by
  obtain ⟨h1, h2, h3⟩ := hy
  refine ⟨?_, ?_, ?_⟩
  · rw [show vDoc (vNew V x d n fl q v) y = vDoc V y from va_up_ne _ _ hn, show vLen (vNew V x d n fl q v) y = vLen V y from va_up_ne _ _ hn, show vFil (vNew V x d n fl q v) y = vFil V y from va_up_ne _ _ hn, show vQ (vNew V x d n fl q v) y = vQ V y from va_up_ne _ _ hn]; exact h1
  · rw [show vQ (vNew V x d n fl q v) y = vQ V y from va_up_ne _ _ hn, show vVec (vNew V x d n fl q v) y = vVec V y from va_up_ne _ _ hn]; exact h2
  · rw [show vDoc (vNew V x d n fl q v) y = vDoc V y from va_up_ne _ _ hn]; exact h3
theorem VA.self {V : gV} {h : gHp} {x d : Nat} {n fl : Int32} {q : Nat} {v : Nat → Int32} (h1 : h x = some (gO 4 [.int (nI d), .int n, .int fl, .ref q])) (h2 : h q = some (gI 4 v)) (h3 : d < 10) : VA h (vNew V x d n fl q v) x := by
  refine ⟨?_, ?_, ?_⟩
  · rw [show vDoc (vNew V x d n fl q v) x = d from va_up_self _ _ _, show vLen (vNew V x d n fl q v) x = n from va_up_self _ _ _, show vFil (vNew V x d n fl q v) x = fl from va_up_self _ _ _, show vQ (vNew V x d n fl q v) x = q from va_up_self _ _ _]; exact h1
  · rw [show vQ (vNew V x d n fl q v) x = q from va_up_self _ _ _, show vVec (vNew V x d n fl q v) x = v from va_up_self _ _ _]; exact h2
  · rw [show vDoc (vNew V x d n fl q v) x = d from va_up_self _ _ _]; exact h3
def mkQ (G : gG) (V : gV) (Y : gLay) (h : gHp) (sz : Nat) (el : Nat → Nat) (LL : Nat → List Nat) (F : Nat → Nat → Int32) (lo : Int32) (i d : Nat) (n fl : Int32) (r : gRs) (h' : gHp) (sz' : Nat) : Prop :=
  (¬ F i ((i * 10 + d) * 4 + i) < 200 ∧ r = .inr eU ∧ CI G V Y h' el LL F lo ∧ CQ Y el h sz el h' sz') ∨
  (F i ((i * 10 + d) * 4 + i) < 200 ∧ ∃ x q, sz ≤ x ∧ x < sz' ∧
    ((300 < bwL (vNew V x d n fl q (nwV (F i) i d)) x (LL i) ∧ r = .inr eU ∧ CI G V Y h' el LL F lo ∧ CQ Y el h sz el h' sz') ∨
     (¬ 300 < bwL (vNew V x d n fl q (nwV (F i) i d)) x (LL i) ∧ r = .inl none ∧ ∃ el', CI G (vNew V x d n fl q (nwV (F i) i d)) Y h' el' (va_up LL i (tkL (vNew V x d n fl q (nwV (F i) i d)) x (LL i))) (va_up F i (jnV (F i) ((i * 10 + d) * 4) (nwV (F i) i d) 4)) lo ∧ CQ Y el h sz el' h' sz')))
theorem n_le40 {n : Int32} (h : 40 < n) : ¬ n < nI 41 := by
  rw [Int32.lt_iff_toInt_lt] at h ⊢
  rw [nI_toInt (by decide)]
  have : (40 : Int32).toInt = 40 := by decide
  omega
theorem n_gt40 {n : Int32} (h : ¬ 40 < n) : n < nI 41 := by
  rw [Int32.lt_iff_toInt_lt] at h ⊢
  rw [nI_toInt (by decide)]
  have : (40 : Int32).toInt = 40 := by decide
  omega
section Make
variable {G : gG} {l : Launch} {V : gV} {Y : gLay} {h : gHp} {el : Nat → Nat} {LL : Nat → List Nat} {F : Nat → Nat → Int32} {lo : Int32} {sz : Nat}
theorem mkQ.back {i d : Nat} {n fl : Int32} {r : gRs} {h' : gHp} {sz0 sz' : Nat} (hz : sz ≤ sz0) (hm : mkQ G V Y h sz0 el LL F lo i d n fl r h' sz') : mkQ G V Y h sz el LL F lo i d n fl r h' sz' := by
  have c : ∀ {el'}, CQ Y el h sz0 el' h' sz' → CQ Y el h sz el' h' sz' := fun q => (CQ.refl hz).trans q
  rcases hm with ⟨a, b, e, f⟩ | ⟨a, x, q, b1, b2, ⟨e1, e2, e3, e4⟩ | ⟨e1, e2, el', e3, e4⟩⟩
  · exact Or.inl ⟨a, b, e, c f⟩
  · exact Or.inr ⟨a, x, q, by omega, b2, Or.inl ⟨e1, e2, e3, c e4⟩⟩
  · exact Or.inr ⟨a, x, q, by omega, b2, Or.inr ⟨e1, e2, el', e3, c e4⟩⟩
theorem mkQ.ret {i d : Nat} {n fl : Int32} {v : Option Value} {h' : gHp} {sz' : Nat} (hm : mkQ G V Y h sz el LL F lo i d n fl (.inl v) h' sz') : v = none := by
  rcases hm with ⟨a, b, e, f⟩ | ⟨a, x, q, b1, b2, ⟨e1, e2, e3, e4⟩ | ⟨e1, e2, el', e3, e4⟩⟩
  · cases b
  · cases e2
  · cases e2; rfl
theorem c_F_makeVersion (htr : l.stackTraces = false) (hC : CI G V Y h el LL F lo) {i d : Nat} (hi : i < 4) (hd : d < 10) (h47 : (LL i).length < 48) {n fl : Int32} : SM G l 9 y_F_makeVersion M_F_makeVersion [.ref (lSo Y i), .int (nI d), .int n, .int fl] h sz 4 86 (mkQ G V Y h sz el LL F lo i d n fl) := by
  have hV := hC.sv hi
  have hso := hV.1
  refine SM.of (lv0 := [some (.ref (lSo Y i)), some (.int (nI d)), some (.int n), some (.int fl)]) (by decide +kernel) rfl ⟨rfl, rfl⟩ rfl (by simp [Value.category]) (Nat.le_of_ble_eq_true rfl) ?_
  refine GW.dce (fun hdce => ?_)
  refine GW.wf (fun wf => ?_)
  obtain ⟨h1, hh1⟩ : ∃ h1 : gHp, h1 = gUp (gUp h sz (gI 4 (nwV (F i) i d))) (sz + 1) (gO 4 [.int (nI d), .int n, .int fl, .ref sz]) := ⟨_, rfl⟩
  have hext : ∀ b E, h b = some E → h1 b = some E := by
    intro b E q
    have := (wf b E q).2
    rw [hh1, gUp_ne _ _ (by omega), gUp_ne _ _ (by omega)]; exact q
  have hold : ∀ b, b < sz → h1 b = h b := by
    intro b q
    rw [hh1, gUp_ne _ _ (by omega), gUp_ne _ _ (by omega)]
  have hA := hC.2.2.2.2.2.2.2.2.2.2
  have hC1 : CI G V Y h1 el LL F lo := hC.ext hext (fun j hj x hx => ⟨hext _ _ (hA j hj x hx).1, hext _ _ (hA j hj x hx).2.1, (hA j hj x hx).2.2⟩)
  have hC2 : CI G (vNew V (sz + 1) d n fl sz (nwV (F i) i d)) Y h1 el LL F lo := hC.ext hext (fun j hj x hx => VA.new ⟨hext _ _ (hA j hj x hx).1, hext _ _ (hA j hj x hx).2.1, (hA j hj x hx).2.2⟩ (by have := (wf _ _ (hA j hj x hx).1).2; omega))
  have hxA : VA h1 (vNew V (sz + 1) d n fl sz (nwV (F i) i d)) (sz + 1) := by
    refine VA.self ?_ ?_ hd
    · rw [hh1, gUp_self]
    · rw [hh1, gUp_ne _ _ (by omega), gUp_self]
  have hV2 := hC2.sv hi
  have hso2 := hV2.1
  have wf1 : ∀ a e, h1 a = some e → gBase G ≤ a ∧ a < sz + 2 := by
    intro a e q
    have hb := (wf _ _ hso)
    by_cases q1 : a = sz + 1
    · omega
    · by_cases q2 : a = sz
      · omega
      · rw [hh1, gUp_ne _ _ q1, gUp_ne _ _ q2] at q
        have := wf a e q; omega
  refine gw_al0 d_F_makeVersion_0 ?_
  refine gw_il1 d_F_makeVersion_1 ?_
  refine gw_rV1 d_F_makeVersion_2 cs_F_makeVersion_2 hso (c_S_ownCounter hV hd) ?_
  refine gw_push d_F_makeVersion_5 ?_
  refine gw_iclt d_F_makeVersion_8 (fun c_8 => ?_) (fun c_8 => ?_)
  · refine gw_al0 d_F_makeVersion_19 ?_
    refine gw_al0 d_F_makeVersion_20 ?_
    refine gw_il1 d_F_makeVersion_21 ?_
    refine gw_il2 d_F_makeVersion_22 ?_
    refine gw_il3 d_F_makeVersion_23 ?_
    refine gw_cV3 d_F_makeVersion_24 cs_F_makeVersion_24 hso (c_S_nextVersion hV hd) (fun v h2 sz2 hp hz => ?_) (fun E h2 sz2 hp _ => by cases hp.1); obtain ⟨w1, w2, w3⟩ := hp; cases w1; subst w3; have w4 : h2 = h1 := w2.trans hh1.symm; subst w4
    refine gw_cV1 d_F_makeVersion_27 cs_F_makeVersion_27 hso2 (c_S_takeIn hV2 h47 hxA) (fun v h3 sz3 hp hz3 => ?_) (fun E h3 sz3 hp _ => by exact hp.elim (fun z => by cases z.2.1) (fun z => by cases z.2.1)); rcases hp with ⟨w5, w6, w7, w8⟩ | ⟨w5, w6, e', w7, w8, w9, w10, w11⟩
    · cases w6; subst w7; subst w8; exact gw_ifne d_F_makeVersion_30 (fun c_30 => absurd rfl c_30) (fun c_30 => gw_throw th_F_makeVersion_33 htr rfl (by decide) (Nat.le_of_ble_eq_true rfl) (by decide) (by decide) (fun sz' hz => Or.inr ⟨c_8, sz + 1, sz, by omega, by omega, Or.inl ⟨w5, rfl, hC1, CQ.ofNew hold (by omega)⟩⟩))
    cases w6
    refine gw_ifne d_F_makeVersion_30 (fun c_30 => ?_) (fun c_30 => absurd c_30 (by decide))
    have hd9 : vDoc (vNew V (sz + 1) d n fl sz (nwV (F i) i d)) (sz + 1) = d := va_up_self _ _ _; have hv9 : vVec (vNew V (sz + 1) d n fl sz (nwV (F i) i d)) (sz + 1) = nwV (F i) i d := va_up_self _ _ _; rw [hd9, hv9] at w8; obtain ⟨z1, z2⟩ := hC2.both wf1 hdce (k := i) (t := i) (by omega) (by omega) w7 w8.2 w9 (w10.elim Or.inl (fun q => Or.inr q.1)) (fun y hy => by rcases insA_mem hy with rfl | q; (· exact hxA); exact hC2.2.2.2.2.2.2.2.2.2.2 i (by omega) y (List.mem_filter.mp q).1) w11; exact gw_vret d_F_makeVersion_41 rfl (by decide) (by decide) (Or.inr ⟨c_8, sz + 1, sz, by omega, by omega, Or.inr ⟨w5, rfl, _, z1, (CQ.ofNew hold (by omega)).trans z2⟩⟩)
  · exact gw_throw th_F_makeVersion_11 htr rfl (by decide) (Nat.le_of_ble_eq_true rfl) (by decide) (by decide) (fun sz' hz => Or.inl ⟨c_8, rfl, hC, CQ.refl hz⟩)
theorem c_F_edit (htr : l.stackTraces = false) (hC : CI G V Y h el LL F lo) (h47 : ∀ i, i < 4 → (LL i).length < 48) {s d n fl : Int32} : SM G l 10 y_F_edit M_F_edit [.ref (lFo Y), .int s, .int d, .int n, .int fl] h sz 6 98 (fun r h' sz' => ((okN s 4 && okN d 10) = false ∧ r = .inr eN ∧ h' = h ∧ sz ≤ sz') ∨ ((okN s 4 && okN d 10) = true ∧ (okN n 41 && okN fl 256) = false ∧ r = .inr eI ∧ h' = h ∧ sz ≤ sz') ∨ ((okN n 41 && okN fl 256) = true ∧ ∃ i j, i < 4 ∧ j < 10 ∧ s = nI i ∧ d = nI j ∧ mkQ G V Y h sz el LL F lo i j n fl r h' sz')) := by
  have hF := hC.1
  refine SM.of (lv0 := [some (.ref (lFo Y)), some (.int s), some (.int d), some (.int n), some (.int fl), none]) (by decide +kernel) rfl ⟨rfl, rfl⟩ rfl (by simp [Value.category]) (Nat.le_of_ble_eq_true rfl) ?_
  cases hs : okN s 4
  · refine gw_al0 d_F_edit_0 ?_
    refine gw_il1 d_F_edit_1 ?_
    exact gw_xV1 d_F_edit_2 cs_F_edit_2 hF (c_F_stationAt htr hC) (by rw [hs]; rfl) rfl (fun sz' hz => Or.inl ⟨by simp, rfl, rfl, hz⟩)
  · obtain ⟨i, hi, rfl⟩ := okN_t (by decide) hs
    refine gw_al0 d_F_edit_0 ?_
    refine gw_il1 d_F_edit_1 ?_
    refine gw_oV1 d_F_edit_2 cs_F_edit_2 hF (c_F_stationAt htr hC) (by rw [hs]; rfl) (fun sz0 hz => ?_); rw [nI_clamp (by omega)]
    refine gw_as5 d_F_edit_5 ?_
    refine gw_il2 d_F_edit_7 ?_
    cases hd : okN d 10
    · exact gw_xS1 d_F_edit_8 cs_F_edit_8 (c_F_checkDocument htr) (by rw [hd]; rfl) rfl (fun sz' hz2 => Or.inl ⟨by simp, rfl, rfl, by omega⟩)
    · obtain ⟨j, hj, rfl⟩ := okN_t (by decide) hd
      refine gw_uS1 d_F_edit_8 cs_F_edit_8 (c_F_checkDocument htr) (by rw [hd]; rfl) (fun sz1 hz1 => ?_)
      refine gw_il3 d_F_edit_11 ?_
      refine gw_iflt d_F_edit_12 (fun c_12 => ?_) (fun c_12 => ?_)
      · exact gw_throw th_F_edit_34 htr rfl (by decide) (Nat.le_of_ble_eq_true rfl) (by decide) (by decide) (fun sz2 hz2 => Or.inr (Or.inl ⟨rfl, by first | (rw [okN_f1 c_12]; rfl) | (rw [okN_f2 (x := n) 41 (show ¬ n < nI 41 from n_le40 c_18)]; rfl) | (rw [okN_f1 c_23, Bool.and_false]) | (rw [okN_f2 256 c_31, Bool.and_false]), rfl, rfl, by omega⟩))
      · refine gw_il3 d_F_edit_15 ?_
        refine gw_push d_F_edit_16 ?_
        refine gw_icgt d_F_edit_18 (fun c_18 => ?_) (fun c_18 => ?_)
        · exact gw_throw th_F_edit_34 htr rfl (by decide) (Nat.le_of_ble_eq_true rfl) (by decide) (by decide) (fun sz2 hz2 => Or.inr (Or.inl ⟨rfl, by first | (rw [okN_f1 c_12]; rfl) | (rw [okN_f2 (x := n) 41 (show ¬ n < nI 41 from n_le40 c_18)]; rfl) | (rw [okN_f1 c_23, Bool.and_false]) | (rw [okN_f2 256 c_31, Bool.and_false]), rfl, rfl, by omega⟩))
        · refine gw_il4 d_F_edit_21 ?_
          refine gw_iflt d_F_edit_23 (fun c_23 => ?_) (fun c_23 => ?_)
          · exact gw_throw th_F_edit_34 htr rfl (by decide) (Nat.le_of_ble_eq_true rfl) (by decide) (by decide) (fun sz2 hz2 => Or.inr (Or.inl ⟨rfl, by first | (rw [okN_f1 c_12]; rfl) | (rw [okN_f2 (x := n) 41 (show ¬ n < nI 41 from n_le40 c_18)]; rfl) | (rw [okN_f1 c_23, Bool.and_false]) | (rw [okN_f2 256 c_31, Bool.and_false]), rfl, rfl, by omega⟩))
          · refine gw_il4 d_F_edit_26 ?_
            refine gw_push d_F_edit_28 ?_
            refine gw_iclt d_F_edit_31 (fun c_31 => ?_) (fun c_31 => ?_)
            · refine gw_al5 d_F_edit_42 ?_
              refine gw_il2 d_F_edit_44 ?_
              refine gw_il3 d_F_edit_45 ?_
              refine gw_il4 d_F_edit_46 ?_
              refine gw_callS (As := [.ref (lSo Y i), .int (nI j), .int n, .int fl]) d_F_edit_48 cs_F_edit_48 rfl rfl (Nat.le_of_ble_eq_true rfl) ⟨by decide, by decide⟩ (Nat.le_of_ble_eq_true rfl) (Nat.le_of_ble_eq_true rfl) (c_F_makeVersion htr hC hi hj (h47 i hi)) (fun v h2 sz2 hp hz2 => ?_) (fun E h2 sz2 hp hz2 => gx_out rfl (Or.inr (Or.inr ⟨by rw [okN_ok 41 c_12 (show n < nI 41 from n_gt40 c_18), okN_ok 256 c_23 c_31]; rfl, i, j, hi, hj, rfl, rfl, hp.back (by omega)⟩)) (by decide) (by decide)); obtain rfl := hp.ret
              refine gw_vret d_F_edit_51 rfl (by decide) (by decide) (Or.inr (Or.inr ⟨by rw [okN_ok 41 c_12 (show n < nI 41 from n_gt40 c_18), okN_ok 256 c_23 c_31]; rfl, i, j, hi, hj, rfl, rfl, ?_⟩)); exact hp.back (by omega)
            · exact gw_throw th_F_edit_34 htr rfl (by decide) (Nat.le_of_ble_eq_true rfl) (by decide) (by decide) (fun sz2 hz2 => Or.inr (Or.inl ⟨rfl, by first | (rw [okN_f1 c_12]; rfl) | (rw [okN_f2 (x := n) 41 (show ¬ n < nI 41 from n_le40 c_18)]; rfl) | (rw [okN_f1 c_23, Bool.and_false]) | (rw [okN_f2 256 c_31, Bool.and_false]), rfl, rfl, by omega⟩))
theorem c_F_erase (htr : l.stackTraces = false) (hC : CI G V Y h el LL F lo) (h47 : ∀ i, i < 4 → (LL i).length < 48) {s d : Int32} : SM G l 10 y_F_erase M_F_erase [.ref (lFo Y), .int s, .int d] h sz 6 98 (fun r h' sz' => ((okN s 4 && okN d 10) = false ∧ r = .inr eN ∧ h' = h ∧ sz ≤ sz') ∨ (∃ i j, i < 4 ∧ j < 10 ∧ s = nI i ∧ d = nI j ∧ mkQ G V Y h sz el LL F lo i j (-1) 0 r h' sz')) := by
  have hF := hC.1
  refine SM.of (lv0 := [some (.ref (lFo Y)), some (.int s), some (.int d), none]) (by decide +kernel) rfl ⟨rfl, rfl⟩ rfl (by simp [Value.category]) (Nat.le_of_ble_eq_true rfl) ?_
  cases hs : okN s 4
  · refine gw_al0 d_F_erase_0 ?_
    refine gw_il1 d_F_erase_1 ?_
    exact gw_xV1 d_F_erase_2 cs_F_erase_2 hF (c_F_stationAt htr hC) (by rw [hs]; rfl) rfl (fun sz' hz => Or.inl ⟨by simp, rfl, rfl, hz⟩)
  · obtain ⟨i, hi, rfl⟩ := okN_t (by decide) hs
    refine gw_al0 d_F_erase_0 ?_
    refine gw_il1 d_F_erase_1 ?_
    refine gw_oV1 d_F_erase_2 cs_F_erase_2 hF (c_F_stationAt htr hC) (by rw [hs]; rfl) (fun sz0 hz => ?_); rw [nI_clamp (by omega)]
    refine gw_as3 d_F_erase_5 ?_
    refine gw_il2 d_F_erase_6 ?_
    cases hd : okN d 10
    · exact gw_xS1 d_F_erase_7 cs_F_erase_7 (c_F_checkDocument htr) (by rw [hd]; rfl) rfl (fun sz' hz2 => Or.inl ⟨by simp, rfl, rfl, by omega⟩)
    · obtain ⟨j, hj, rfl⟩ := okN_t (by decide) hd
      refine gw_uS1 d_F_erase_7 cs_F_erase_7 (c_F_checkDocument htr) (by rw [hd]; rfl) (fun sz1 hz1 => ?_)
      refine gw_al3 d_F_erase_10 ?_
      refine gw_il2 d_F_erase_11 ?_
      refine gw_push d_F_erase_12 ?_
      refine gw_push d_F_erase_13 ?_
      refine gw_callS (As := [.ref (lSo Y i), .int (nI j), .int (-1), .int 0]) d_F_erase_14 cs_F_erase_14 rfl rfl (Nat.le_of_ble_eq_true rfl) ⟨by decide, by decide⟩ (Nat.le_of_ble_eq_true rfl) (Nat.le_of_ble_eq_true rfl) (c_F_makeVersion htr hC hi hj (h47 i hi)) (fun v h2 sz2 hp hz2 => ?_) (fun E h2 sz2 hp hz2 => gx_out rfl (Or.inr ⟨i, j, hi, hj, rfl, rfl, hp.back (by omega)⟩) (by decide) (by decide)); obtain rfl := hp.ret
      refine gw_vret d_F_erase_17 rfl (by decide) (by decide) (Or.inr ⟨i, j, hi, hj, rfl, rfl, ?_⟩); exact hp.back (by omega)
end Make
