/-! ===== FolderRounds: what changes (1) ===== -/
/-- the cells of the class that may be written -/
def CFr (Y : gLay) (el : Nat → Nat) (h h' : gHp) (sz : Nat) : Prop := ∀ b, b < sz → b ≠ lFo Y → (∀ i, i < 8 → b ≠ lLa Y i ∧ b ≠ el i) → (∀ i, i < 7 → b ≠ lTc Y i) → h' b = h b
def CQ (Y : gLay) (el : Nat → Nat) (h : gHp) (sz : Nat) (el1 : Nat → Nat) (h1 : gHp) (sz1 : Nat) : Prop := CFr Y el h h1 sz ∧ (∀ i, i < 8 → el1 i = el i ∨ sz ≤ el1 i) ∧ sz ≤ sz1
section CQs
variable {G : gG} {V : gV} {Y : gLay} {h h1 h2 : gHp} {el el1 el2 : Nat → Nat} {LL : Nat → List Nat} {F : Nat → Nat → Int32} {lo : Int32} {sz sz1 sz2 : Nat}
theorem CQ.refl (hz : sz ≤ sz1) : CQ Y el h sz el h sz1 := ⟨fun _ _ _ _ _ => rfl, fun _ _ => Or.inl rfl, hz⟩
theorem CQ.grow (a : CQ Y el h sz el1 h1 sz1) (hz : sz1 ≤ sz2) : CQ Y el h sz el1 h1 sz2 := ⟨a.1, a.2.1, Nat.le_trans a.2.2 hz⟩
theorem CQ.trans (a : CQ Y el h sz el1 h1 sz1) (b : CQ Y el1 h1 sz1 el2 h2 sz2) : CQ Y el h sz el2 h2 sz2 := by
  obtain ⟨a1, a2, a3⟩ := a
  obtain ⟨b1, b2, b3⟩ := b
  refine ⟨fun q hq h0 hl ht => ?_, fun i hi => ?_, Nat.le_trans a3 b3⟩
  · rw [b1 q (Nat.lt_of_lt_of_le hq a3) h0 (fun i hi => ⟨(hl i hi).1, ?_⟩) ht, a1 q hq h0 hl ht]
    rcases a2 i hi with w | w
    · rw [w]; exact (hl i hi).2
    · omega
  · rcases b2 i hi with w | w
    · rw [w]; exact a2 i hi
    · exact Or.inr (Nat.le_trans a3 w)
theorem CQ.ofFr {k : Nat} (hk : k < 8) {e' : Nat} (hF : Fr h h1 sz [lLa Y k, el k]) (he : e' = el k ∨ sz ≤ e') (hz : sz ≤ sz1) : CQ Y el h sz (va_up el k e') h1 sz1 := by
  refine ⟨fun q hq h0 hl ht => hF q hq ?_, fun i hi => ?_, hz⟩
  · intro z
    simp only [List.mem_cons, List.not_mem_nil, or_false] at z
    rcases z with z | z
    · exact (hl k hk).1 z
    · exact (hl k hk).2 z
  · by_cases hik : i = k
    · subst hik; rw [va_up_self]; exact he
    · rw [va_up_ne _ _ hik]; exact Or.inl rfl
theorem CQ.ofTable {k : Nat} (hk : k < 7) {E : gE} (hz : sz ≤ sz1) : CQ Y el h sz el (gUp h (lTc Y k) E) sz1 :=
  ⟨fun q _ _ _ ht => gUp_ne _ _ (ht k hk), fun _ _ => Or.inl rfl, hz⟩
theorem CQ.ofLeft {E : gE} (hz : sz ≤ sz1) : CQ Y el h sz el (gUp h (lFo Y) E) sz1 :=
  ⟨fun _ _ h0 _ _ => gUp_ne _ _ h0, fun _ _ => Or.inl rfl, hz⟩
theorem CQ.ofNew (hF : ∀ b, b < sz → h1 b = h b) (hz : sz ≤ sz1) : CQ Y el h sz el h1 sz1 :=
  ⟨fun q hq _ _ _ => hF q hq, fun _ _ => Or.inl rfl, hz⟩
/-- a list and a table have changed -/
theorem CI.both (hC : CI G V Y h el LL F lo) (wf : ∀ a e, h a = some e → gBase G ≤ a ∧ a < sz) (hdce : gDce G < gBase G) {k t : Nat} (hk : k < 8) (ht : t < 7) {e' : Nat} {L' : List Nat} {f' : Nat → Int32} (hL : LV G h1 (lLa Y k) e' L') (hc : h1 (lTc Y t) = some (gI 160 f')) (hF : Fr h h1 sz [lLa Y k, el k, lTc Y t]) (he : e' = el k ∨ sz ≤ e') (hV : ∀ x ∈ L', VA h V x) (hz : sz ≤ sz1) : CI G V Y h1 (va_up el k e') (va_up LL k L') (va_up F t f') lo ∧ CQ Y el h sz (va_up el k e') h1 sz1 := by
  obtain ⟨g, hg⟩ : ∃ g : gHp, g = fun b => if b = lTc Y t then h (lTc Y t) else h1 b := ⟨_, rfl⟩
  have g1 : ∀ b, b ≠ lTc Y t → g b = h1 b := fun b hb => by rw [hg]; exact if_neg hb
  have e1 : h1 = gUp g (lTc Y t) (gI 160 f') := by
    funext b
    by_cases hb : b = lTc Y t
    · subst hb; rw [gUp_self]; exact hc
    · rw [gUp_ne _ _ hb, g1 b hb]
  have hcc := (hC.2.2.2.2.2.2.1 t ht).2
  have hLg : LV G g (lLa Y k) e' L' := by
    obtain ⟨mo, ha⟩ := hL.1
    refine hL.keep (g1 _ ?_) (fun ⟨x, hx⟩ => g1 _ ?_) (fun x hx => g1 _ ?_)
    · intro q; rw [q, hc] at ha; simp at ha
    · intro q
      obtain ⟨-, -, -, h3⟩ := hL
      rcases h3 with ⟨w, -⟩ | ⟨cap, g', w, -⟩
      · rw [q] at w; have := (wf _ _ hcc).1; omega
      · rw [q, hc] at w; simp at w
    · intro q
      obtain ⟨fs, hfs⟩ := hL.2.2.1 x hx
      rw [q, hc] at hfs; simp at hfs
  have hFg : Fr h g sz [lLa Y k, el k] := by
    intro b hb hn
    by_cases hq : b = lTc Y t
    · subst hq; rw [hg]; exact if_pos rfl
    · rw [g1 b hq]
      exact hF b hb (fun z => by
        simp only [List.mem_cons, List.not_mem_nil, or_false] at z hn
        rcases z with z | z | z
        · exact hn (Or.inl z)
        · exact hn (Or.inr z)
        · exact hq z)
  have z1 := (hC.list wf hdce hk hLg hFg he hV).table ht (f' := f')
  have z2 := (CQ.ofFr (sz1 := sz1) hk hFg he hz).trans (CQ.ofTable (Y := Y) (k := t) ht (E := gI 160 f') (Nat.le_refl _))
  rw [← e1] at z1 z2
  exact ⟨z1, z2⟩
end CQs
theorem up_id {α : Type} (f : Nat → α) (k : Nat) : va_up f k (f k) = f := by
  funext b
  by_cases hb : b = k
  · subst hb; rw [va_up_self]
  · rw [va_up_ne _ _ hb]
section Chg
variable {G : gG} {l : Launch} {V : gV} {Y : gLay} {h : gHp} {el : Nat → Nat} {LL : Nat → List Nat} {F : Nat → Nat → Int32} {lo : Int32} {sz : Nat}
def lLs (f : Nat → Int32) (g : Nat → Int32) : Prop := ∀ i, i < 160 → f i = g i
theorem c_F_lose (htr : l.stackTraces = false) (hC : CI G V Y h el LL F lo) {c : Int32} : SM G l 5 y_F_lose M_F_lose [.ref (lFo Y), .int c] h sz 1 6 (fun r h' sz' => (okN c 3 = false ∧ r = .inr eN ∧ h' = h ∧ sz ≤ sz') ∨ (∃ i, i < 3 ∧ c = nI i ∧ r = .inl (some (.int (nI (LL (4 + i)).length))) ∧ ∃ f' el', lLs f' (fun _ => 0) ∧ CI G V Y h' el' (va_up LL (4 + i) []) (va_up F (4 + i) f') lo ∧ CQ Y el h sz el' h' sz')) := by
  have hF := hC.1
  refine SM.of (lv0 := [some (.ref (lFo Y)), some (.int c), none, none]) (by decide +kernel) rfl ⟨rfl, rfl⟩ rfl (by simp [Value.category]) (Nat.le_of_ble_eq_true rfl) ?_
  refine GW.dce (fun hdce => ?_)
  refine GW.wf (fun wf => ?_)
  cases hs : okN c 3
  · refine gw_al0 d_F_lose_0 ?_
    refine gw_il1 d_F_lose_1 ?_
    exact gw_xV1 d_F_lose_2 cs_F_lose_2 hF (c_F_cartridgeAt htr hC) (by rw [hs]; rfl) rfl (fun sz' hz => Or.inl ⟨rfl, rfl, rfl, hz⟩)
  · obtain ⟨i, hi, rfl⟩ := okN_t (by decide) hs
    have hV := hC.cv hi
    have hso := hV.1
    have hL := hV.2.1
    obtain ⟨mo, ha⟩ := hL.1
    have hT := hV.2.2.1
    refine gw_al0 d_F_lose_0 ?_
    refine gw_il1 d_F_lose_1 ?_
    refine gw_oV1 d_F_lose_2 cs_F_lose_2 hF (c_F_cartridgeAt htr hC) (by rw [hs]; rfl) (fun sz0 hz => ?_); rw [nI_clamp (by omega)]; have wf0 : ∀ a e, h a = some e → gBase G ≤ a ∧ a < sz0 := fun a e q => ⟨(wf a e q).1, Nat.lt_of_lt_of_le (wf a e q).2 hz⟩
    refine gw_as2 d_F_lose_5 ?_
    refine gw_al2 d_F_lose_6 ?_
    refine gw_get d_F_lose_7 (by assumption) (by rfl) ?_
    refine gw_rV0 d_F_lose_10 cs_F_lose_10 ha (c_A_size hL) ?_
    refine gw_is3 d_F_lose_13 ?_
    refine gw_al2 d_F_lose_14 ?_
    refine gw_get d_F_lose_15 (by assumption) (by rfl) ?_
    refine gw_vV0 d_F_lose_18 cs_F_lose_18 ha (c_A_clear hL) (fun h1 sz1 hp hz1 => ?_); obtain ⟨w1, w2, w3⟩ := hp; subst w3; have hC1 := hC.list wf0 hdce (k := 4 + i) (by omega) w1 w2 (Or.inl rfl) (by simp); have hV1 := hC1.cv hi; have hso1 := hV1.1; have hT1 := hV1.2.2.1; have ht1 := hT1.1
    refine gw_al2 d_F_lose_21 ?_
    refine gw_get d_F_lose_22 (by assumption) (by rfl) ?_
    refine gw_vV0 d_F_lose_25 cs_F_lose_25 ht1 (c_T_becomeZeros hT1) (fun h2 sz2 hp hz2 => ?_); obtain ⟨⟨g', w4, w5⟩, w6⟩ := hp; subst w4; subst w6
    refine gw_il3 d_F_lose_28 ?_
    exact gw_iret d_F_lose_29 rfl (by decide) (by decide) (Or.inr ⟨i, hi, rfl, rfl, g', _, w5, hC1.table (k := 4 + i) (by omega) (f' := g'), ((CQ.refl hz).trans (CQ.ofFr (k := 4 + i) (by omega) w2 (Or.inl rfl) (Nat.le_refl _))).trans (CQ.ofTable (k := 4 + i) (by omega) (Nat.le_refl _))⟩)
theorem c_F_copy (htr : l.stackTraces = false) (hC : CI G V Y h el LL F lo) {c c2 : Int32} (h47 : ∀ i, i < 3 → (LL (4 + i)).length ≤ 47) : SM G l 9 y_F_copy M_F_copy [.ref (lFo Y), .int c, .int c2] h sz 50 3468 (fun r h' sz' => ((okN c 3 && okN c2 3) = false ∧ r = .inr eN ∧ h' = h ∧ sz ≤ sz') ∨ (∃ i j, i < 3 ∧ j < 3 ∧ c = nI i ∧ c2 = nI j ∧ r = .inl none ∧ ∃ f' el', lLs f' (F (4 + i)) ∧ CI G V Y h' el' (va_up LL (4 + j) (LL (4 + i))) (va_up F (4 + j) f') lo ∧ CQ Y el h sz el' h' sz')) := by
  have hF := hC.1
  refine SM.of (lv0 := [some (.ref (lFo Y)), some (.int c), some (.int c2), none, none]) (by decide +kernel) rfl ⟨rfl, rfl⟩ rfl (by simp [Value.category]) (Nat.le_of_ble_eq_true rfl) ?_
  refine GW.dce (fun hdce => ?_)
  refine GW.wf (fun wf => ?_)
  cases hs : okN c 3
  · refine gw_al0 d_F_copy_0 ?_
    refine gw_il1 d_F_copy_1 ?_
    exact gw_xV1 d_F_copy_2 cs_F_copy_2 hF (c_F_cartridgeAt htr hC) (by rw [hs]; rfl) rfl (fun sz' hz => Or.inl ⟨by simp, rfl, rfl, hz⟩)
  · obtain ⟨i, hi, rfl⟩ := okN_t (by decide) hs
    refine gw_al0 d_F_copy_0 ?_
    refine gw_il1 d_F_copy_1 ?_
    refine gw_oV1 d_F_copy_2 cs_F_copy_2 hF (c_F_cartridgeAt htr hC) (by rw [hs]; rfl) (fun sz0 hz => ?_); rw [nI_clamp (by omega)]
    refine gw_as3 d_F_copy_5 ?_
    refine gw_al0 d_F_copy_6 ?_
    refine gw_il2 d_F_copy_7 ?_
    cases hs2 : okN c2 3
    · exact gw_xV1 d_F_copy_8 cs_F_copy_8 hF (c_F_cartridgeAt htr hC) (by rw [hs2]; rfl) rfl (fun sz' hz2 => Or.inl ⟨by simp, rfl, rfl, by omega⟩)
    · obtain ⟨j, hj, rfl⟩ := okN_t (by decide) hs2
      have hV := hC.cv hi
      have hV2 := hC.cv hj
      have hso := hV2.1
      refine gw_oV1 d_F_copy_8 cs_F_copy_8 hF (c_F_cartridgeAt htr hC) (by rw [hs2]; rfl) (fun sz1 hz1 => ?_); rw [nI_clamp (by omega)]; have wf1 : ∀ a e, h a = some e → gBase G ≤ a ∧ a < sz1 := fun a e q => ⟨(wf a e q).1, Nat.lt_of_lt_of_le (wf a e q).2 (by omega)⟩
      refine gw_as4 d_F_copy_11 ?_
      refine gw_il1 d_F_copy_13 ?_
      refine gw_il2 d_F_copy_14 ?_
      refine gw_iceq d_F_copy_15 (fun c_15 => ?_) (fun c_15 => ?_)
      · first | exact gw_vret d_F_copy_24 rfl (by decide) (by decide) (Or.inr ⟨i, j, hi, hj, rfl, rfl, rfl, _, _, fun q hq => by rw [va_cpy, if_pos (by omega)]; rw [Nat.sub_zero, Nat.zero_add], z1, (CQ.refl (by omega)).trans z2⟩) | (obtain rfl := n_eq c_15 (by omega) (by omega); refine gw_vret d_F_copy_24 rfl (by decide) (by decide) (Or.inr ⟨i, i, hi, hj, rfl, rfl, rfl, F (4 + i), el, fun _ _ => rfl, ?_, CQ.refl (by omega)⟩); rw [up_id, up_id]; exact hC)
      · refine gw_al4 d_F_copy_18 ?_
        refine gw_al3 d_F_copy_20 ?_
        have hij : i ≠ j := (fun q => c_15 (by rw [q])); refine gw_vV1 d_F_copy_21 cs_F_copy_21 hso (c_C_become hV2 hV (fun q => hij (by have := hC.2.2.2.2.2.2.2.1 _ _ (by omega) (by omega) q; omega)) (fun ⟨x, hx⟩ q => by have := hC.2.2.2.2.2.2.2.2.1 _ _ (by omega) (by omega) (by omega) q; have := (wf _ _ hx).1; omega) (h47 i hi)) (fun h2 sz2 hp hz2 => ?_); obtain ⟨e', w1, w2, w3, w4, w5⟩ := hp; obtain ⟨z1, z2⟩ := hC.both wf1 hdce (k := 4 + j) (t := 4 + j) (by omega) (by omega) w1 w2 w3 (w4.elim Or.inl (fun q => Or.inr q.1)) hV.2.2.2 w5
        first | exact gw_vret d_F_copy_24 rfl (by decide) (by decide) (Or.inr ⟨i, j, hi, hj, rfl, rfl, rfl, _, _, fun q hq => by rw [va_cpy, if_pos (by omega)]; rw [Nat.sub_zero, Nat.zero_add], z1, (CQ.refl (by omega)).trans z2⟩) | (obtain rfl := n_eq c_15 (by omega) (by omega); refine gw_vret d_F_copy_24 rfl (by decide) (by decide) (Or.inr ⟨i, i, hi, hj, rfl, rfl, rfl, F (4 + i), el, fun _ _ => rfl, ?_, CQ.refl (by omega)⟩); rw [up_id, up_id]; exact hC)
end Chg
