/-! ===== the two sides beside each other ===== -/
/-- a cell of the class -/
def clsE (Y : gLay) (E : gE) (b : Nat) : Prop := (∃ ci fs, E = gO ci fs ∧ ci ≤ 5) ∨ (∃ kd n g, E = gR kd n g) ∨ (∃ f, E = gI 4 f) ∨ ∃ f i, i < 7 ∧ b = lTc Y i ∧ E = gI 160 f
section Wo
variable {G : gG} {V : gV} {Y : gLay} {h h1 : gHp} {el el1 : Nat → Nat} {LL : Nat → List Nat} {F : Nat → Nat → Int32} {lo : Int32} {sz sz1 m oa : Nat} {A : Nat → Nat} {th : Int32} {vs : Nat} {lf : Int32} {U : gU}
theorem CI.keepG (hC : CI G V Y h el LL F lo) (hk : ∀ b E, h b = some E → clsE Y E b → h1 b = some E) : CI G V Y h1 el LL F lo := by
  obtain ⟨c1, ⟨fS, c2, c2b⟩, ⟨fC, c3, c3b⟩, c4, c5, c6, c7, c8, c9, c10, c11⟩ := hC
  have o : ∀ {b ci fs}, h b = some (gO ci fs) → ci ≤ 5 → h1 b = some (gO ci fs) := fun hb q => hk _ _ hb (Or.inl ⟨_, _, rfl, q⟩)
  have r : ∀ {b kd n g}, h b = some (gR kd n g) → h1 b = some (gR kd n g) := fun hb => hk _ _ hb (Or.inr (Or.inl ⟨_, _, _, rfl⟩))
  refine ⟨o c1 (by omega), ⟨fS, r c2, c2b⟩, ⟨fC, r c3, c3b⟩, fun i hi => o (c4 i hi) (by omega), fun i hi => o (c5 i hi) (by omega), fun i hi => ?_, fun i hi => ⟨o (c7 i hi).1 (by omega), hk _ _ (c7 i hi).2 (Or.inr (Or.inr (Or.inr ⟨_, i, hi, rfl, rfl⟩)))⟩, c8, c9, c10, fun i hi x hx => ⟨o (c11 i hi x hx).1 (by omega), hk _ _ (c11 i hi x hx).2.1 (Or.inr (Or.inr (Or.inl ⟨_, rfl⟩))), (c11 i hi x hx).2.2⟩⟩
  obtain ⟨⟨mo, ha⟩, h48, hel, h3⟩ := c6 i hi
  refine ⟨⟨mo, o ha (by omega)⟩, h48, fun x hx => ?_, ?_⟩
  · obtain ⟨fs, hfs⟩ := hel x hx
    exact ⟨fs, o hfs (by omega)⟩
  · rcases h3 with q | ⟨cap, g, q1, q2⟩
    · exact Or.inl q
    · exact Or.inr ⟨cap, g, r q1, q2⟩
theorem MV.arrI (hM : MV h m A th vs lf U) : ∀ k, k < 9 → ∃ n f, h (A k) = some (gI n f) ∧ n ≠ 4 ∧ (n = 160 → k = 5) := by
  obtain ⟨h0, a0, a1, a2, a3, a4, a5, a6, a7, a8, -⟩ := hM
  intro k hk
  match k, hk with
  | 0, _ => exact ⟨_, _, a0, by omega, by omega⟩
  | 1, _ => exact ⟨_, _, a1, by omega, by omega⟩
  | 2, _ => exact ⟨_, _, a2, by omega, by omega⟩
  | 3, _ => exact ⟨_, _, a3, by omega, by omega⟩
  | 4, _ => exact ⟨_, _, a4, by omega, by omega⟩
  | 5, _ => exact ⟨_, _, a5, by omega, by omega⟩
  | 6, _ => exact ⟨_, _, a6, by omega, by omega⟩
  | 7, _ => exact ⟨_, _, a7, by omega, by omega⟩
  | 8, _ => exact ⟨_, _, a8, by omega, by omega⟩
/-- the reference doesn't touch the class -/
theorem CI.mf (hC : CI G V Y h el LL F lo) (hM : MV h m A th vs lf U) (hsep : ∀ i, i < 7 → lTc Y i ≠ A 5) (hF : MF h h1 m A) : CI G V Y h1 el LL F lo := by
  refine hC.keepG (fun b E hb hc => ?_)
  rw [hF b ?_ ?_]
  · exact hb
  · intro q
    have h0 := hM.1
    rw [← q, hb] at h0
    rcases hc with ⟨ci, fs, rfl, hci⟩ | ⟨kd, n, g, rfl⟩ | ⟨f, rfl⟩ | ⟨f, i, hi, -, rfl⟩
    · simp at h0; omega
    · simp at h0
    · simp at h0
    · simp at h0
  · intro k hk q
    obtain ⟨n, f', a, n4, n160⟩ := hM.arrI k hk
    rw [← q, hb] at a
    rcases hc with ⟨ci, fs, rfl, hci⟩ | ⟨kd, n', g, rfl⟩ | ⟨f, rfl⟩ | ⟨f, i, hi, hbi, rfl⟩
    · simp at a
    · simp at a
    · simp at a; omega
    · simp at a
      have := n160 a.1.symm
      subst this
      exact hsep i hi (by rw [← hbi]; exact q)
/-- the class doesn't touch other cells -/
theorem CQ.apart (hC : CI G V Y h el LL F lo) (wf : ∀ a e, h a = some e → gBase G ≤ a ∧ a < sz) (hdce : gDce G < gBase G) (hq : CQ Y el h sz el1 h1 sz1) {b : Nat} {E : gE} (hb : h b = some E) (h5 : ∀ fs, E ≠ gO 5 fs) (h0 : ∀ fs, E ≠ gO 0 fs) (h4 : ∀ n g, E ≠ gR 4 n g) (hT : ∀ i, i < 7 → b ≠ lTc Y i) : h1 b = some E := by
  obtain ⟨c1, -, -, -, -, c6, -⟩ := hC
  rw [hq.1 b (wf b E hb).2 ?_ ?_ hT]
  · exact hb
  · rintro rfl; rw [hb] at c1; exact h5 _ (Option.some.inj c1)
  · intro i hi
    obtain ⟨⟨mo, ha⟩, -, -, h3⟩ := c6 i hi
    refine ⟨?_, ?_⟩
    · rintro rfl; rw [hb] at ha; exact h0 _ (Option.some.inj ha)
    · intro q
      rcases h3 with ⟨w, -⟩ | ⟨cap, g, w, -⟩
      · have := (wf b E hb).1; omega
      · rw [← q, hb] at w; exact h4 _ _ (Option.some.inj w)
theorem MV.cq (hM : MV h m A th vs lf U) (hC : CI G V Y h el LL F lo) (wf : ∀ a e, h a = some e → gBase G ≤ a ∧ a < sz) (hdce : gDce G < gBase G) (hsep : ∀ i, i < 7 → lTc Y i ≠ A 5) (hq : CQ Y el h sz el1 h1 sz1) : MV h1 m A th vs lf U := by
  have c7 := hC.2.2.2.2.2.2.1
  have arr : ∀ k, k < 9 → ∀ n f, h (A k) = some (gI n f) → h1 (A k) = some (gI n f) := by
    intro k hk n f ha
    refine CQ.apart hC wf hdce hq ha (by simp) (by simp) (by simp) (fun i hi q => ?_)
    have z := (c7 i hi).2
    rw [← q, ha] at z
    obtain ⟨n', f', a, n4, n160⟩ := hM.arrI k hk
    rw [ha] at a
    simp at a z
    have := n160 (by omega)
    subst this
    exact hsep i hi q.symm
  have hm : ∀ fs, h m = some (gO 6 fs) → h1 m = some (gO 6 fs) := fun fs ha => CQ.apart hC wf hdce hq ha (by simp) (by simp) (by simp) (fun i hi q => by
    have z := (c7 i hi).2
    rw [← q, ha] at z; simp at z)
  obtain ⟨h0, a0, a1, a2, a3, a4, a5, a6, a7, a8, r⟩ := hM
  exact ⟨hm _ h0, arr 0 (by omega) _ _ a0, arr 1 (by omega) _ _ a1, arr 2 (by omega) _ _ a2, arr 3 (by omega) _ _ a3, arr 4 (by omega) _ _ a4, arr 5 (by omega) _ _ a5, arr 6 (by omega) _ _ a6, arr 7 (by omega) _ _ a7, arr 8 (by omega) _ _ a8, r⟩
theorem CQ.out (hC : CI G V Y h el LL F lo) (wf : ∀ a e, h a = some e → gBase G ≤ a ∧ a < sz) (hdce : gDce G < gBase G) (hq : CQ Y el h sz el1 h1 sz1) {fo : Nat → Int64} (ho : h oa = some (gL 1 fo)) : h1 oa = some (gL 1 fo) :=
  CQ.apart hC wf hdce hq ho (by simp) (by simp) (by simp) (fun i hi q => by
    have z := (hC.2.2.2.2.2.2.1 i hi).2
    rw [← q, ho] at z; simp at z)
theorem MF.out (hM : MV h m A th vs lf U) (hF : MF h h1 m A) {fo : Nat → Int64} (ho : h oa = some (gL 1 fo)) : h1 oa = some (gL 1 fo) := by
  rw [hF oa ?_ ?_]
  · exact ho
  · rintro rfl; have z := hM.1; rw [ho] at z; simp at z
  · intro k hk q
    obtain ⟨n, f', a, -⟩ := hM.arrI k hk
    rw [← q, ho] at a; simp at a
/-- the answer's cell is written -/
theorem CI.put (hC : CI G V Y h el LL F lo) {fo f' : Nat → Int64} (ho : h oa = some (gL 1 fo)) : CI G V Y (gUp h oa (gL 1 f')) el LL F lo := by
  refine hC.keepG (fun b E hb hc => ?_)
  rw [gUp_ne]
  · exact hb
  · rintro rfl
    rw [ho] at hb
    rcases hc with ⟨ci, fs, rfl, hci⟩ | ⟨kd, n, g, rfl⟩ | ⟨f, rfl⟩ | ⟨f, i, hi, -, rfl⟩ <;> simp at hb
theorem MV.put (hM : MV h m A th vs lf U) {fo f' : Nat → Int64} (ho : h oa = some (gL 1 fo)) : MV (gUp h oa (gL 1 f')) m A th vs lf U := by
  have n : ∀ {b : Nat} {E : gE}, h b = some E → (∀ n f, E ≠ gL n f) → gUp h oa (gL 1 f') b = some E := by
    intro b E hb q
    rw [gUp_ne]
    · exact hb
    · rintro rfl; rw [ho] at hb; exact q _ _ (Option.some.inj hb).symm
  obtain ⟨h0, a0, a1, a2, a3, a4, a5, a6, a7, a8, r⟩ := hM
  exact ⟨n h0 (by simp), n a0 (by simp), n a1 (by simp), n a2 (by simp), n a3 (by simp), n a4 (by simp), n a5 (by simp), n a6 (by simp), n a7 (by simp), n a8 (by simp), r⟩
end Wo
/-- the class's outcome and the reference's agree -/
def AG (o : gRs) (Es : List String) (T X : Int32) : Prop := (∃ Z, o = .inl (some (.int Z)) ∧ T = 0 ∧ X = Z) ∨ ∃ (i : Nat) (E : String), Es[i]? = some E ∧ i < 3 ∧ o = .inr E ∧ T = nI (i + 1)
section Ag
variable {V : gV} {ad kn : Nat → Nat} {vc : Nat → Nat → Nat} {Ls : Nat → List Nat} {LL : Nat → List Nat} {F : Nat → Nat → Int32} {lo : Int32} {vs : Nat} {lf : Int32} {U : gU} {sz e : Nat}
theorem AG.siblings (h : Rel V ad kn vc Ls (LL, F, lo) vs lf U sz e) {s d : Int32} : AG (oSiblings V LL s d) [eN] (if okN s 4 && okN d 10 then 0 else 1) (if okN s 4 && okN d 10 then nI (mCt U s.toNatClampNeg d.toNatClampNeg false 4) else 0) := by
  unfold oSiblings
  cases hp : (okN s 4 && okN d 10)
  · exact Or.inr ⟨0, eN, rfl, by omega, rfl, rfl⟩
  · obtain ⟨hp1, hp2⟩ := Bool.and_eq_true_iff.mp hp
    obtain ⟨i, hi, rfl⟩ := okN_t (by decide) hp1
    obtain ⟨j, hj, rfl⟩ := okN_t (by decide) hp2
    rw [nI_clamp (by omega), nI_clamp (by omega)]
    exact Or.inl ⟨_, rfl, rfl, by rw [← h.siblings hi hj]; rfl⟩
theorem AG.counter (h : Rel V ad kn vc Ls (LL, F, lo) vs lf U sz e) {s d k j : Int32} : AG (oCounter V LL s d k j) [eN, eX] (match mSb U s d k with | none => 1 | some v => if okN j 4 then 0 else 2) (match mSb U s d k with | none => 0 | some v => if okN j 4 then mVc U v j.toNatClampNeg else 0) := by
  unfold oCounter
  rw [show sibA V LL s d k = (mSb U s d k).map ad from h.sib]
  cases hb : mSb U s d k with
  | none => exact Or.inr ⟨0, eN, rfl, by omega, rfl, rfl⟩
  | some v =>
    have hv := mSb_vs h hb
    show AG (if okN j 4 then .inl (some (.int (vVec V (ad v) j.toNatClampNeg))) else .inr eX) _ (if okN j 4 then 0 else 2) (if okN j 4 then mVc U v j.toNatClampNeg else 0)
    cases hj : okN j 4
    · exact Or.inr ⟨1, eX, rfl, by omega, rfl, rfl⟩
    · obtain ⟨j', hj', rfl⟩ := okN_t (by decide) hj
      rw [nI_clamp (by omega)]
      exact Or.inl ⟨_, rfl, rfl, by rw [((h.1 v hv).2.2.2.1 j' hj').1]; exact ((h.1 v hv).2.2.2.1 j' hj').2⟩
theorem AG.byteOf (h : Rel V ad kn vc Ls (LL, F, lo) vs lf U sz e) {s d k i : Int32} : AG (oByteOf V LL s d k i) [eN, eX] (match mSb U s d k with | none => 1 | some v => if i < -1 ∨ ¬ i < uL U v then 2 else 0) (match mSb U s d k with | none => 0 | some v => if i < -1 ∨ ¬ i < uL U v then 0 else if i < 0 then uL U v else (uF U v + i) - (uF U v + i) / 256 * 256) := by
  unfold oByteOf
  rw [show sibA V LL s d k = (mSb U s d k).map ad from h.sib]
  cases hb : mSb U s d k with
  | none => exact Or.inr ⟨0, eN, rfl, by omega, rfl, rfl⟩
  | some v =>
    have hv := mSb_vs h hb
    obtain ⟨a1, a2, a3, -⟩ := h.1 v hv
    show AG (if i < -1 ∨ ¬ i < vLen V (ad v) then .inr eX else .inl (some (.int (if i = -1 then vLen V (ad v) else (vFil V (ad v) + i) - (vFil V (ad v) + i) / 256 * 256)))) _ (if i < -1 ∨ ¬ i < uL U v then 2 else 0) (if i < -1 ∨ ¬ i < uL U v then 0 else if i < 0 then uL U v else (uF U v + i) - (uF U v + i) / 256 * 256)
    rw [a2, a3]
    by_cases q : i < -1 ∨ ¬ i < uL U v
    · rw [if_pos q, if_pos q, if_pos q]
      exact Or.inr ⟨1, eX, rfl, by omega, rfl, rfl⟩
    · rw [if_neg q, if_neg q, if_neg q]
      refine Or.inl ⟨_, rfl, rfl, ?_⟩
      have e : i < 0 ↔ i = -1 := by
        have q1 : ¬ i < -1 := fun z => q (Or.inl z)
        rw [Int32.lt_iff_toInt_lt] at q1 ⊢
        rw [← Int32.toInt_inj]
        have : (-1 : Int32).toInt = -1 := by decide
        have : (0 : Int32).toInt = 0 := by decide
        omega
      by_cases q2 : i = -1
      · rw [if_pos (e.mpr q2), if_pos q2]
      · rw [if_neg (fun z => q2 (e.mp z)), if_neg q2]
theorem AG.known (h : Rel V ad kn vc Ls (LL, F, lo) vs lf U sz e) {s o d j : Int32} : AG (oKnown F s o d j) [eN, eX] (if okN s 4 && okN d 10 && okN o 4 then (if okN j 4 then 0 else 2) else 1) (if okN s 4 && okN d 10 && okN o 4 then (if okN j 4 then uN U (160 * s.toNatClampNeg + 40 * o.toNatClampNeg + 4 * d.toNatClampNeg + j.toNatClampNeg) else 0) else 0) := by
  unfold oKnown
  rw [show (okN s 4 && (okN o 4 && okN d 10)) = (okN s 4 && okN d 10 && okN o 4) by cases okN s 4 <;> cases okN o 4 <;> cases okN d 10 <;> rfl]
  cases hp : (okN s 4 && okN d 10 && okN o 4)
  · exact Or.inr ⟨0, eN, rfl, by omega, rfl, rfl⟩
  · obtain ⟨hp0, hp3⟩ := Bool.and_eq_true_iff.mp hp
    obtain ⟨hp1, hp2⟩ := Bool.and_eq_true_iff.mp hp0
    cases hj : okN j 4
    · exact Or.inr ⟨1, eX, rfl, by omega, rfl, rfl⟩
    · obtain ⟨i, hi, rfl⟩ := okN_t (by decide) hp1
      obtain ⟨i2, hi2, rfl⟩ := okN_t (by decide) hp2
      obtain ⟨o', ho', rfl⟩ := okN_t (by decide) hp3
      obtain ⟨j', hj', rfl⟩ := okN_t (by decide) hj
      rw [nI_clamp (by omega), nI_clamp (by omega), nI_clamp (by omega), nI_clamp (by omega)]
      refine Or.inl ⟨_, rfl, rfl, ?_⟩
      have z := h.2.1.2 i ((o' * 10 + i2) * 4 + j') (by omega) (by omega)
      show uN U (160 * i + 40 * o' + 4 * i2 + j') = F i ((o' * 10 + i2) * 4 + j')
      rw [show F i ((o' * 10 + i2) * 4 + j') = uN U (160 * i + ((o' * 10 + i2) * 4 + j')) from z, show 160 * i + ((o' * 10 + i2) * 4 + j') = 160 * i + 40 * o' + 4 * i2 + j' by omega]
theorem AG.marks (h : Rel V ad kn vc Ls (LL, F, lo) vs lf U sz e) {s : Int32} : AG (oMarks V LL s) [eN] (if okN s 4 then 0 else 1) (if okN s 4 then nI (mMk U s.toNatClampNeg 10) else 0) := by
  unfold oMarks
  cases hp : okN s 4
  · exact Or.inr ⟨0, eN, rfl, by omega, rfl, rfl⟩
  · obtain ⟨i, hi, rfl⟩ := okN_t (by decide) hp
    rw [nI_clamp (by omega)]
    exact Or.inl ⟨_, rfl, rfl, by rw [← h.marks hi]; rfl⟩
theorem AG.bytes (h : Rel V ad kn vc Ls (LL, F, lo) vs lf U sz e) {s : Int32} : AG (oBytes V LL s) [eN] (if okN s 4 then 0 else 1) (if okN s 4 then mAl U s.toNatClampNeg 40 else 0) := by
  unfold oBytes
  cases hp : okN s 4
  · exact Or.inr ⟨0, eN, rfl, by omega, rfl, rfl⟩
  · obtain ⟨i, hi, rfl⟩ := okN_t (by decide) hp
    rw [nI_clamp (by omega)]
    exact Or.inl ⟨_, rfl, rfl, (h.bytes hi).symm⟩
theorem AG.room (h : Rel V ad kn vc Ls (LL, F, lo) vs lf U sz e) {s : Int32} : AG (oRoom V LL s) [eN] (if okN s 3 then 0 else 1) (if okN s 3 then rmN U s.toNatClampNeg (uM U s.toNatClampNeg) else 0) := by
  unfold oRoom
  cases hp : okN s 3
  · exact Or.inr ⟨0, eN, rfl, by omega, rfl, rfl⟩
  · obtain ⟨i, hi, rfl⟩ := okN_t (by decide) hp
    rw [nI_clamp (by omega)]
    exact Or.inl ⟨_, rfl, rfl, (h.room hi).symm⟩
theorem AG.same (h : Rel V ad kn vc Ls (LL, F, lo) vs lf U sz e) {a b : Int32} : AG (oSame V LL a b) [eN] (if okN a 4 && okN b 4 then 0 else 1) (if okN a 4 && okN b 4 then b2i (mSa U a.toNatClampNeg b.toNatClampNeg 40) else 0) := by
  unfold oSame
  cases hp : (okN a 4 && okN b 4)
  · exact Or.inr ⟨0, eN, rfl, by omega, rfl, rfl⟩
  · obtain ⟨hp1, hp2⟩ := Bool.and_eq_true_iff.mp hp
    obtain ⟨i, hi, rfl⟩ := okN_t (by decide) hp1
    obtain ⟨j, hj, rfl⟩ := okN_t (by decide) hp2
    rw [nI_clamp (by omega), nI_clamp (by omega)]
    exact Or.inl ⟨_, rfl, rfl, by rw [← h.same hi hj]; rfl⟩
theorem AG.item (h : Rel V ad kn vc Ls (LL, F, lo) vs lf U sz e) {c k q : Int32} : AG (oItem V LL c k q) [eN, eX] (if okN c 3 && okN k (uM U c.toNatClampNeg) then (if okN q 6 then 0 else 2) else 1) (if okN c 3 && okN k (uM U c.toNatClampNeg) then (if okN q 6 then (let v := uR U (20 * c.toNatClampNeg + k.toNatClampNeg); if q = 0 then nI (uD U v) else if q = 1 then uL U v else mVc U v (q.toNatClampNeg - 2)) else 0) else 0) := by
  unfold oItem
  cases hc : okN c 3
  · exact Or.inr ⟨0, eN, rfl, by omega, rfl, rfl⟩
  · obtain ⟨i, hi, rfl⟩ := okN_t (by decide) hc
    rw [nI_clamp (by omega)]
    have hlen : (LL (4 + i)).length = uM U i := h.rowLen hi
    rw [hlen]
    have b5 := h.2.2.2.2.2.2.2.2.2.2 i
    cases hk : okN k (uM U i)
    · exact Or.inr ⟨0, eN, rfl, by omega, rfl, rfl⟩
    · obtain ⟨k', hk', rfl⟩ := okN_t (by omega) hk
      cases hq : okN q 6
      · exact Or.inr ⟨1, eX, rfl, by omega, rfl, rfl⟩
      · obtain ⟨q', hq', rfl⟩ := okN_t (by decide) hq
        rw [nI_clamp (show k' < 2 ^ 31 by omega), nI_clamp (show q' < 2 ^ 31 by omega)]
        have hv := (h.2.2.2.2.1.2 i hi).2 k' hk'
        have hg : (LL (4 + i)).getD k' 0 = ad (uR U (20 * i + k')) := h.rowGet hi hk'
        obtain ⟨a1, a2, a3, a4, -⟩ := h.1 _ hv
        refine Or.inl ⟨_, rfl, rfl, ?_⟩
        show (if nI q' = 0 then nI (uD U (uR U (20 * i + k'))) else if nI q' = 1 then uL U (uR U (20 * i + k')) else mVc U (uR U (20 * i + k')) (q' - 2)) = (if nI q' = 0 then nI (vDoc V ((LL (4 + i)).getD k' 0)) else if nI q' = 1 then vLen V ((LL (4 + i)).getD k' 0) else vVec V ((LL (4 + i)).getD k' 0) (q' - 2))
        rw [hg, a1, a2]
        split
        · rfl
        · rename_i z0
          split
          · rfl
          · rename_i z1
            have hq2 : q' - 2 < 4 := by omega
            rw [(a4 _ hq2).1, (a4 _ hq2).2]
end Ag
