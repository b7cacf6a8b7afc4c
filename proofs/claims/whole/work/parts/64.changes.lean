/-! ===== the law's calls that change ===== -/
theorem ix1 {a E : String} {i : Nat} (h : [a][i]? = some E) : i = 0 ∧ E = a := by
  obtain ⟨p, q⟩ := List.getElem?_eq_some_iff.mp h
  simp at p; subst p; exact ⟨rfl, q.symm⟩
theorem ix2 {a c E : String} : ∀ {i : Nat}, [a, c][i]? = some E → (i = 0 ∧ E = a) ∨ (i = 1 ∧ E = c)
  | 0, h => Or.inl ⟨rfl, (Option.some.inj h).symm⟩
  | 1, h => Or.inr ⟨rfl, (Option.some.inj h).symm⟩
  | n + 2, h => by simp at h
theorem ix3 {a c d E : String} : ∀ {i : Nat}, [a, c, d][i]? = some E → (i = 0 ∧ E = a) ∨ (i = 1 ∧ E = c) ∨ (i = 2 ∧ E = d)
  | 0, h => Or.inl ⟨rfl, (Option.some.inj h).symm⟩
  | 1, h => Or.inr (Or.inl ⟨rfl, (Option.some.inj h).symm⟩)
  | 2, h => Or.inr (Or.inr ⟨rfl, (Option.some.inj h).symm⟩)
  | n + 3, h => by simp at h
section Mu
variable {G : gG} {l : Launch} {b L : Nat} {xs : Nat → Int32} {Y : gLay} {m oa t n : Nat} {A : Nat → Nat} {h : gHp} {sz k w : Nat}
theorem rd_lose {v5 v6 : Option Value} (htr : l.stackTraces = false) (hsep : ∀ i, i < 7 → lTc Y i ≠ A 5) (hW : WI G Y m A oa h sz n) (hn : n < 600) (ht : 5 * t + 5 ≤ L) (hL : L ≤ 2560) (hk : k + 1 ≤ 601024) (hw : w + 6 ≤ 7293033) (kk : ∀ h2 sz2 q5 q6, WI G Y m A oa h2 sz2 (n + 1) → GW G l (Zl G b L xs) room_1 M_L_law 1192 [some (.ref b), some (.ref (lFo Y)), some (.ref m), some (.ref oa), some (.int (nI (5 * t))), q5, q6] [] h2 sz2 (k + 1) (w + 6)) : GW G l (Zl G b L xs) room_1 M_L_law 660 [some (.ref b), some (.ref (lFo Y)), some (.ref m), some (.ref oa), some (.int (nI (5 * t))), v5, v6] [] h sz k w := by
  obtain ⟨V, el, LL, F, lo, th, vs, lf, U, ad, kn, vc, Ls, fo, hC, hM, hR, ho, hv⟩ := hW
  refine GW.wf (fun wf => ?_)
  refine GW.dce (fun hdce => ?_)
  refine lk_lose (A := A) (Wn := fun h2 sz2 => WI G Y m A oa h2 sz2 (n + 1)) ht hL hk hw (c_L_lose hC.1 (c_F_lose htr hC) (fun r h1 sz1 hq => ?_)) (fun r h1 sz1 hq => ?_) kk
  · rcases hq with ⟨-, e, -⟩ | ⟨i, hi, -, e, f', el', -, -, z⟩
    · exact Or.inr ⟨eN, e, by simp⟩
    · exact Or.inl ⟨_, fo, e, z.out hC wf hdce ho⟩
  · rcases hq with ⟨X0, h0, f, Y0, q1, q4, q5, q6, q7⟩ | ⟨i, E, q1, q2, q5⟩
    · rcases q1 with ⟨-, e, -⟩ | ⟨i, hi, ec, e, f', el', hf, hC1, hq1⟩
      · cases e
      · cases e
        have hM2 : MV h1 m A th vs lf U := by rw [q6]; exact (hM.cq hC wf hdce hsep hq1).put q4
        have hC2 := hC1.put (f' := vp_updL f 0 Y0) q4
        rw [← q6] at hC2
        have ho1 : h1 oa = some (gL 1 (vp_updL f 0 Y0)) := by rw [q6]; exact gUp_self _ _ _
        obtain ⟨kn', Ls', hR'⟩ := hR.lose hi hf
        refine ⟨0, _, _, q7, hM2.1, c_R_lose hM2, fun r' h2 sz2 hp => ?_⟩
        obtain ⟨p0, ⟨bad, -⟩ | ⟨i', hi', e', er', hM3, hF3⟩⟩ := hp
        · rw [ec, okN_n (by decide) hi] at bad; cases bad
        · have hii := n_eq (ec.symm.trans e') (by omega) (by omega)
          subst hii
          have hlen : (LL (4 + i)).length = uM U i := hR.rowLen hi
          exact ⟨_, er', ⟨0, vs, lf, _, hM3, rfl⟩, fun _ => ⟨_, hF3.out hM2 ho1, by rw [updL_0, q5, hlen]⟩, V, el', _, _, lo, 0, vs, lf, _, ad, kn', vc, Ls', _, hC2.mf hM2 hsep hF3, hM3, hR'.grow (by have := hq1.2.2; omega), hF3.out hM2 ho1, by omega⟩
    · obtain ⟨rfl, rfl⟩ := ix1 q1
      rcases q2 with ⟨eok, -, rfl, hz⟩ | ⟨i, hi, ec, e, -⟩
      · refine ⟨nI 1, _, _, q5, hM.1, c_R_lose hM, fun r' h2 sz2 hp => ?_⟩
        obtain ⟨p0, ⟨-, er', hM3, hF3⟩ | ⟨i', hi', e', -⟩⟩ := hp
        · exact ⟨_, er', ⟨1, vs, lf, _, hM3, rfl⟩, fun z => absurd z (by decide), V, el, LL, F, lo, 1, vs, lf, U, ad, kn, vc, Ls, _, hC.mf hM hsep hF3, hM3, hR.grow (by omega), hF3.out hM ho, by omega⟩
        · rw [e', okN_n (by decide) hi'] at eok; cases eok
      · cases e
theorem rd_copy {v5 v6 : Option Value} (htr : l.stackTraces = false) (hsep : ∀ i, i < 7 → lTc Y i ≠ A 5) (hW : WI G Y m A oa h sz n) (hn : n < 600) (ht : 5 * t + 5 ≤ L) (hL : L ≤ 2560) (hk : k + 50 ≤ 601024) (hw : w + 3468 ≤ 7293033) (kk : ∀ h2 sz2 q5 q6, WI G Y m A oa h2 sz2 (n + 1) → GW G l (Zl G b L xs) room_1 M_L_law 1192 [some (.ref b), some (.ref (lFo Y)), some (.ref m), some (.ref oa), some (.int (nI (5 * t))), q5, q6] [] h2 sz2 (k + 50) (w + 3468)) : GW G l (Zl G b L xs) room_1 M_L_law 716 [some (.ref b), some (.ref (lFo Y)), some (.ref m), some (.ref oa), some (.int (nI (5 * t))), v5, v6] [] h sz k w := by
  obtain ⟨V, el, LL, F, lo, th, vs, lf, U, ad, kn, vc, Ls, fo, hC, hM, hR, ho, hv⟩ := hW
  refine GW.wf (fun wf => ?_)
  refine GW.dce (fun hdce => ?_)
  have h47 : ∀ i, i < 3 → (LL (4 + i)).length ≤ 47 := fun i hi => by
    have z : (LL (4 + i)).length = uM U i := hR.rowLen hi
    have := hR.2.2.2.2.2.2.2.2.2.2 i
    omega
  refine lk_copy (A := A) (Wn := fun h2 sz2 => WI G Y m A oa h2 sz2 (n + 1)) ht hL hk hw (c_L_copy hC.1 (c_F_copy htr hC h47) (fun r h1 sz1 hq => ?_)) (fun r h1 sz1 hq => ?_) kk
  · rcases hq with ⟨-, e, -⟩ | ⟨i, j, hi, hj, -, -, e, -⟩
    · exact Or.inr ⟨eN, e, by simp⟩
    · exact Or.inl e
  · rcases hq with ⟨q1, q7⟩ | ⟨i, E, q1, q2, q5⟩
    · rcases q1 with ⟨-, e, -⟩ | ⟨i, j, hi, hj, ec, ed, e, f', el', hf, hC1, hq1⟩
      · cases e
      · have hM2 := hM.cq hC wf hdce hsep hq1
        have ho1 := hq1.out hC wf hdce ho
        obtain ⟨kn', Ls', hR'⟩ := hR.copy hi hj hf
        refine ⟨0, _, _, q7, hM2.1, c_R_copy hM2, fun r' h2 sz2 hp => ?_⟩
        obtain ⟨er', p0, ⟨bad, -⟩ | ⟨i', j', hi', hj', e', f'', hM3, hF3⟩⟩ := hp
        · rw [ec, ed, okN_n (by decide) hi, okN_n (by decide) hj] at bad; cases bad
        · have hii := n_eq (ec.symm.trans e') (by omega) (by omega)
          have hjj := n_eq (ed.symm.trans f'') (by omega) (by omega)
          subst hii; subst hjj
          exact ⟨er', ⟨0, vs, lf, _, hM3, rfl⟩, V, el', _, _, lo, 0, vs, lf, _, ad, kn', vc, Ls', _, hC1.mf hM2 hsep hF3, hM3, hR'.grow (by have := hq1.2.2; omega), hF3.out hM2 ho1, by omega⟩
    · obtain ⟨rfl, rfl⟩ := ix1 q1
      rcases q2 with ⟨eok, -, rfl, hz⟩ | ⟨i, j, hi, hj, ec, ed, e, -⟩
      · refine ⟨nI 1, _, _, q5, hM.1, c_R_copy hM, fun r' h2 sz2 hp => ?_⟩
        obtain ⟨er', p0, ⟨-, hM3, hF3⟩ | ⟨i', j', hi', hj', e', f'', -⟩⟩ := hp
        · exact ⟨er', ⟨1, vs, lf, _, hM3, rfl⟩, V, el, LL, F, lo, 1, vs, lf, U, ad, kn, vc, Ls, _, hC.mf hM hsep hF3, hM3, hR.grow (by omega), hF3.out hM ho, by omega⟩
        · rw [e', f'', okN_n (by decide) hi', okN_n (by decide) hj'] at eok; cases eok
      · cases e
/-- a version made on both sides -/
theorem mkB {V : gV} {el : Nat → Nat} {LL : Nat → List Nat} {F : Nat → Nat → Int32} {lo th : Int32} {vs : Nat} {lf : Int32} {U : gU} {ad kn : Nat → Nat} {vc : Nat → Nat → Nat} {Ls : Nat → List Nat} {fo : Nat → Int64} (hsep : ∀ i, i < 7 → lTc Y i ≠ A 5) (wf : ∀ a e, h a = some e → gBase G ≤ a ∧ a < sz) (hdce : gDce G < gBase G) (hC : CI G V Y h el LL F lo) (hM : MV h m A th vs lf U) (hR : Rel V ad kn vc Ls (LL, F, lo) vs lf U sz vs) (ho : h oa = some (gL 1 fo)) (hv : vs ≤ n) (hn : n < 600) {i d : Nat} (hi : i < 4) (hd : d < 10) {N fl : Int32} (hN : N = -1 ∨ ∃ q, q ≤ 40 ∧ N = nI q) {r : gRs} {h1 : gHp} {sz1 : Nat} (hq : mkQ G V Y h sz el LL F lo i d N fl r h1 sz1) : (r = .inl none ∨ r = .inr eU) ∧ MV h1 m A th vs lf U ∧ h1 oa = some (gL 1 fo) ∧ ∀ T3 h2, mkP h1 m A vs lf U i d N fl T3 h2 → ∃ (T : Int32) (vs' : Nat) (lf' : Int32) (U' : gU), MV h2 m A T vs' lf' U' ∧ (r = .inl none → T = 0) ∧ (r = .inr eU → T = T3) ∧ WI G Y m A oa h2 sz1 (n + 1) := by
  have hkn := hR.2.1.1 (ownP i d + i) (by unfold ownP; omega)
  have hF : F i ((i * 10 + d) * 4 + i) = nI (kn (ownP i d + i)) := by
    have z := hR.2.1.2 i ((i * 10 + d) * 4 + i) (by omega) (by omega)
    rw [show F i ((i * 10 + d) * 4 + i) = uN U (160 * i + ((i * 10 + d) * 4 + i)) from z, show 160 * i + ((i * 10 + d) * 4 + i) = ownP i d + i by unfold ownP; omega]
    exact hkn.1
  have hU : uN U (160 * i + 40 * i + 4 * d + i) = nI (kn (ownP i d + i)) := hkn.1
  have h200 : (F i ((i * 10 + d) * 4 + i) < 200 ↔ kn (ownP i d + i) < 200) ∧ (uN U (160 * i + 40 * i + 4 * d + i) = 200 ↔ kn (ownP i d + i) = 200) := by
    rw [hF, hU, n_lit 200, nI_ltI (by omega) (by omega), nI_eq (by omega) (by omega)]
    exact ⟨Iff.rfl, Iff.rfl⟩
  rcases hq with ⟨a, rfl, hC1, hq1⟩ | ⟨a, x, q, x1, x2, hab⟩
  · have hM1 := hM.cq hC wf hdce hsep hq1
    have ho1 := hq1.out hC wf hdce ho
    refine ⟨Or.inr rfl, hM1, ho1, fun T3 h2 hp => ?_⟩
    obtain ⟨⟨p1, p2⟩ | ⟨p1, -⟩ | ⟨p1, -⟩, p4⟩ := hp
    · exact ⟨T3, vs, lf, U, p2, fun z => by (cases z), fun _ => rfl, V, el, LL, F, lo, T3, vs, lf, U, ad, kn, vc, Ls, _, hC1.mf hM1 hsep p4, p2, hR.grow hq1.2.2, p4.out hM1 ho1, by omega⟩
    · exact absurd (h200.2.mpr (by have h9 : ¬ kn (ownP i d + i) < 200 := fun z => a (h200.1.mpr z); omega)) p1
    · exact absurd (h200.2.mpr (by have h9 : ¬ kn (ownP i d + i) < 200 := fun z => a (h200.1.mpr z); omega)) p1
  · have a' := h200.1.mp a
    obtain ⟨hrm, ad', kn', vc', Ls', hR2⟩ := hR.make (by omega) hi hd hN (fl := fl) (q := q) x1 x2 a'
    rcases hab with ⟨b1, rfl, hC1, hq1⟩ | ⟨b1, rfl, el', hC1, hq1⟩
    · have hM1 := hM.cq hC wf hdce hsep hq1
      have ho1 := hq1.out hC wf hdce ho
      refine ⟨Or.inr rfl, hM1, ho1, fun T3 h2 hp => ?_⟩
      obtain ⟨⟨p1, -⟩ | ⟨p1, p2, p3⟩ | ⟨p1, p2, -⟩, p4⟩ := hp
      · exact absurd (h200.2.mp p1) (by omega)
      · exact ⟨T3, vs, lf, _, p3, fun z => by (cases z), fun _ => rfl, V, el, LL, F, lo, T3, vs, lf, _, ad, kn, vc, Ls, _, hC1.mf hM1 hsep p4, p3, (hR.junk hi hd hN).grow hq1.2.2, p4.out hM1 ho1, by omega⟩
      · exact absurd (hrm ▸ b1) p2
    · have hM1 := hM.cq hC wf hdce hsep hq1
      have ho1 := hq1.out hC wf hdce ho
      refine ⟨Or.inl rfl, hM1, ho1, fun T3 h2 hp => ?_⟩
      obtain ⟨⟨p1, -⟩ | ⟨p1, p2, -⟩ | ⟨p1, p2, p3⟩, p4⟩ := hp
      · exact absurd (h200.2.mp p1) (by omega)
      · exact absurd (hrm.symm ▸ p2) b1
      · exact ⟨0, vs + 1, lf, _, p3, fun _ => rfl, fun z => by (cases z), _, el', _, _, lo, 0, vs + 1, lf, _, ad', kn', vc', Ls', _, hC1.mf hM1 hsep p4, p3, hR2, p4.out hM1 ho1, by omega⟩
theorem rd_edit {v5 v6 : Option Value} (htr : l.stackTraces = false) (hsep : ∀ i, i < 7 → lTc Y i ≠ A 5) (hW : WI G Y m A oa h sz n) (hn : n < 600) (ht : 5 * t + 5 ≤ L) (hL : L ≤ 2560) (hk : k + 6 ≤ 601024) (hw : w + 98 ≤ 7293033) (kk : ∀ h2 sz2 q5 q6, WI G Y m A oa h2 sz2 (n + 1) → GW G l (Zl G b L xs) room_1 M_L_law 1192 [some (.ref b), some (.ref (lFo Y)), some (.ref m), some (.ref oa), some (.int (nI (5 * t))), q5, q6] [] h2 sz2 (k + 6) (w + 98)) : GW G l (Zl G b L xs) room_1 M_L_law 116 [some (.ref b), some (.ref (lFo Y)), some (.ref m), some (.ref oa), some (.int (nI (5 * t))), v5, v6] [] h sz k w := by
  obtain ⟨V, el, LL, F, lo, th, vs, lf, U, ad, kn, vc, Ls, fo, hC, hM, hR, ho, hv⟩ := hW
  refine GW.wf (fun wf => ?_)
  refine GW.dce (fun hdce => ?_)
  have h47 : ∀ i, i < 4 → (LL i).length < 48 := fun i hi => by
    have z : (LL i).length ≤ 40 := (hR.len hi).2
    omega
  have hNn : (okN (xs (5 * t + 3)) 41 && okN (xs (5 * t + 4)) 256) = true → (xs (5 * t + 3) = -1 ∨ ∃ q, q ≤ 40 ∧ xs (5 * t + 3) = nI q) := fun z => by
    obtain ⟨q, hq, e⟩ := okN_t (by decide) (Bool.and_eq_true_iff.mp z).1
    exact Or.inr ⟨q, by omega, e⟩
  refine lk_edit (A := A) (Wn := fun h2 sz2 => WI G Y m A oa h2 sz2 (n + 1)) ht hL hk hw (c_L_edit hC.1 (c_F_edit htr hC h47) (fun r h1 sz1 hq => ?_)) (fun r h1 sz1 hq => ?_) kk
  · rcases hq with ⟨-, e, -⟩ | ⟨-, -, e, -⟩ | ⟨zn, i, j, hi, hj, -, -, hmk⟩
    · exact Or.inr ⟨eN, e, by simp⟩
    · exact Or.inr ⟨eI, e, by simp⟩
    · rcases (mkB hsep wf hdce hC hM hR ho hv hn hi hj (hNn zn) hmk).1 with e | e
      · exact Or.inl e
      · exact Or.inr ⟨eU, e, by simp⟩
  · have model : ∀ (r0 : Int32) (r9 : gRs) (i j : Nat), (okN (xs (5 * t + 3)) 41 && okN (xs (5 * t + 4)) 256) = true → i < 4 → j < 10 → xs (5 * t + 1) = nI i → xs (5 * t + 2) = nI j → mkQ G V Y h sz el LL F lo i j (xs (5 * t + 3)) (xs (5 * t + 4)) r9 h1 sz1 → r = .inl (some (.int r0)) → (r9 = .inl none → r0 = 0) → (r9 = .inr eU → r0 = 3) → ∃ (r0 : Int32) (Qm : gRs → gHp → Nat → Prop) (fs : List Value), r = .inl (some (.int r0)) ∧ h1 m = some (gO 6 fs) ∧ SM G l 5 y_R_edit M_R_edit [.ref m, .int (xs (5 * t + 1)), .int (xs (5 * t + 2)), .int (xs (5 * t + 3)), .int (xs (5 * t + 4))] h1 sz1 0 0 Qm ∧ ∀ r' h2 sz2, Qm r' h2 sz2 → r' = .inl none ∧ (∃ (T : Int32) (vs : Nat) (lf : Int32) (U : gU), MV h2 m A T vs lf U ∧ T = r0) ∧ WI G Y m A oa h2 sz2 (n + 1) := by
      intro r0 r9 i j zn hi hj ei ej hmk er z0 z3
      obtain ⟨m1, m2, m3, m4⟩ := mkB hsep wf hdce hC hM hR ho hv hn hi hj (hNn zn) hmk
      refine ⟨r0, _, _, er, m2.1, c_R_edit m2 (by omega), fun r' h2 sz2 hp => ?_⟩
      obtain ⟨e', rfl, ⟨bad, -⟩ | ⟨-, bad, -⟩ | ⟨-, i', j', hi', hj', ei', ej', hmp⟩⟩ := hp
      · rw [ei, ej, okN_n (by decide) hi, okN_n (by decide) hj] at bad; cases bad
      · rw [zn] at bad; cases bad
      · have hii := n_eq (ei.symm.trans ei') (by omega) (by omega)
        have hjj := n_eq (ej.symm.trans ej') (by omega) (by omega)
        subst hii; subst hjj
        obtain ⟨T, vs', lf', U', x1, x2, x3, x4⟩ := m4 3 h2 hmp
        refine ⟨e', ⟨T, vs', lf', U', x1, ?_⟩, x4⟩
        rcases m1 with y | y
        · rw [x2 y, z0 y]
        · rw [x3 y, z3 y]
    rcases hq with ⟨q1, q7⟩ | ⟨i, E, q1, q2, q5⟩
    · rcases q1 with ⟨-, e, -⟩ | ⟨-, -, e, -⟩ | ⟨zn, i, j, hi, hj, ei, ej, hmk⟩
      · first | (cases e; done) | exact absurd (Sum.inr.inj e) (by decide)
      · first | (cases e; done) | exact absurd (Sum.inr.inj e) (by decide)
      · exact model 0 _ i j zn hi hj ei ej hmk q7 (fun _ => rfl) (fun z => by (cases z))
    · rcases ix3 q1 with ⟨rfl, rfl⟩ | ⟨rfl, rfl⟩ | ⟨rfl, rfl⟩
      · rcases q2 with ⟨eok, -, rfl, hz⟩ | ⟨-, -, e, -⟩ | ⟨zn, i, j, hi, hj, ei, ej, hmk⟩
        · refine ⟨nI 1, _, _, q5, hM.1, c_R_edit hM (by omega), fun r' h2 sz2 hp => ?_⟩
          obtain ⟨e', rfl, ⟨-, hM3, hF3⟩ | ⟨bad, -⟩ | ⟨-, i', j', hi', hj', ei', ej', -⟩⟩ := hp
          · exact ⟨e', ⟨1, vs, lf, _, hM3, rfl⟩, V, el, LL, F, lo, 1, vs, lf, U, ad, kn, vc, Ls, _, hC.mf hM hsep hF3, hM3, hR.grow hz, hF3.out hM ho, by omega⟩
          · rw [eok] at bad; cases bad
          · rw [ei', ej', okN_n (by decide) hi', okN_n (by decide) hj'] at eok; cases eok
        · first | (cases e; done) | exact absurd (Sum.inr.inj e) (by decide)
        · rcases (mkB hsep wf hdce hC hM hR ho hv hn hi hj (hNn zn) hmk).1 with e | e <;> first | (cases e; done) | exact absurd (Sum.inr.inj e) (by decide)
      · rcases q2 with ⟨-, e, -⟩ | ⟨eok, eno, -, rfl, hz⟩ | ⟨zn, i, j, hi, hj, ei, ej, hmk⟩
        · first | (cases e; done) | exact absurd (Sum.inr.inj e) (by decide)
        · refine ⟨nI 2, _, _, q5, hM.1, c_R_edit hM (by omega), fun r' h2 sz2 hp => ?_⟩
          obtain ⟨e', rfl, ⟨bad, -⟩ | ⟨-, -, hM3, hF3⟩ | ⟨bad, -⟩⟩ := hp
          · rw [eok] at bad; cases bad
          · exact ⟨e', ⟨2, vs, lf, _, hM3, rfl⟩, V, el, LL, F, lo, 2, vs, lf, U, ad, kn, vc, Ls, _, hC.mf hM hsep hF3, hM3, hR.grow hz, hF3.out hM ho, by omega⟩
          · rw [eno] at bad; cases bad
        · rcases (mkB hsep wf hdce hC hM hR ho hv hn hi hj (hNn zn) hmk).1 with e | e <;> first | (cases e; done) | exact absurd (Sum.inr.inj e) (by decide)
      · rcases q2 with ⟨-, e, -⟩ | ⟨-, -, e, -⟩ | ⟨zn, i, j, hi, hj, ei, ej, hmk⟩
        · first | (cases e; done) | exact absurd (Sum.inr.inj e) (by decide)
        · first | (cases e; done) | exact absurd (Sum.inr.inj e) (by decide)
        · exact model 3 _ i j zn hi hj ei ej hmk q5 (fun z => by (cases z)) (fun _ => rfl)
theorem rd_erase {v5 v6 : Option Value} (htr : l.stackTraces = false) (hsep : ∀ i, i < 7 → lTc Y i ≠ A 5) (hW : WI G Y m A oa h sz n) (hn : n < 600) (ht : 5 * t + 5 ≤ L) (hL : L ≤ 2560) (hk : k + 6 ≤ 601024) (hw : w + 98 ≤ 7293033) (kk : ∀ h2 sz2 q5 q6, WI G Y m A oa h2 sz2 (n + 1) → GW G l (Zl G b L xs) room_1 M_L_law 1192 [some (.ref b), some (.ref (lFo Y)), some (.ref m), some (.ref oa), some (.int (nI (5 * t))), q5, q6] [] h2 sz2 (k + 6) (w + 98)) : GW G l (Zl G b L xs) room_1 M_L_law 188 [some (.ref b), some (.ref (lFo Y)), some (.ref m), some (.ref oa), some (.int (nI (5 * t))), v5, v6] [] h sz k w := by
  obtain ⟨V, el, LL, F, lo, th, vs, lf, U, ad, kn, vc, Ls, fo, hC, hM, hR, ho, hv⟩ := hW
  refine GW.wf (fun wf => ?_)
  refine GW.dce (fun hdce => ?_)
  have h47 : ∀ i, i < 4 → (LL i).length < 48 := fun i hi => by
    have z : (LL i).length ≤ 40 := (hR.len hi).2
    omega
  refine lk_erase (A := A) (Wn := fun h2 sz2 => WI G Y m A oa h2 sz2 (n + 1)) ht hL hk hw (c_L_erase hC.1 (c_F_erase htr hC h47) (fun r h1 sz1 hq => ?_)) (fun r h1 sz1 hq => ?_) kk
  · rcases hq with ⟨-, e, -⟩ | ⟨i, j, hi, hj, -, -, hmk⟩
    · exact Or.inr ⟨eN, e, by simp⟩
    · rcases (mkB hsep wf hdce hC hM hR ho hv hn hi hj (Or.inl rfl) hmk).1 with e | e
      · exact Or.inl e
      · exact Or.inr ⟨eU, e, by simp⟩
  · have model : ∀ (r0 : Int32) (r9 : gRs) (i j : Nat), i < 4 → j < 10 → xs (5 * t + 1) = nI i → xs (5 * t + 2) = nI j → mkQ G V Y h sz el LL F lo i j (-1) 0 r9 h1 sz1 → r = .inl (some (.int r0)) → (r9 = .inl none → r0 = 0) → (r9 = .inr eU → r0 = 2) → ∃ (r0 : Int32) (Qm : gRs → gHp → Nat → Prop) (fs : List Value), r = .inl (some (.int r0)) ∧ h1 m = some (gO 6 fs) ∧ SM G l 5 y_R_erase M_R_erase [.ref m, .int (xs (5 * t + 1)), .int (xs (5 * t + 2))] h1 sz1 0 0 Qm ∧ ∀ r' h2 sz2, Qm r' h2 sz2 → r' = .inl none ∧ (∃ (T : Int32) (vs : Nat) (lf : Int32) (U : gU), MV h2 m A T vs lf U ∧ T = r0) ∧ WI G Y m A oa h2 sz2 (n + 1) := by
      intro r0 r9 i j hi hj ei ej hmk er z0 z3
      obtain ⟨m1, m2, m3, m4⟩ := mkB hsep wf hdce hC hM hR ho hv hn hi hj (Or.inl rfl) hmk
      refine ⟨r0, _, _, er, m2.1, c_R_erase m2 (by omega), fun r' h2 sz2 hp => ?_⟩
      obtain ⟨e', rfl, ⟨bad, -⟩ | ⟨i', j', hi', hj', ei', ej', hmp⟩⟩ := hp
      · rw [ei, ej, okN_n (by decide) hi, okN_n (by decide) hj] at bad; cases bad
      · have hii := n_eq (ei.symm.trans ei') (by omega) (by omega)
        have hjj := n_eq (ej.symm.trans ej') (by omega) (by omega)
        subst hii; subst hjj
        obtain ⟨T, vs', lf', U', x1, x2, x3, x4⟩ := m4 2 h2 hmp
        refine ⟨e', ⟨T, vs', lf', U', x1, ?_⟩, x4⟩
        rcases m1 with y | y
        · rw [x2 y, z0 y]
        · rw [x3 y, z3 y]
    rcases hq with ⟨q1, q7⟩ | ⟨i, E, q1, q2, q5⟩
    · rcases q1 with ⟨-, e, -⟩ | ⟨i, j, hi, hj, ei, ej, hmk⟩
      · first | (cases e; done) | exact absurd (Sum.inr.inj e) (by decide)
      · exact model 0 _ i j hi hj ei ej hmk q7 (fun _ => rfl) (fun z => by (cases z))
    · rcases ix2 q1 with ⟨rfl, rfl⟩ | ⟨rfl, rfl⟩
      · rcases q2 with ⟨eok, -, rfl, hz⟩ | ⟨i, j, hi, hj, ei, ej, hmk⟩
        · refine ⟨nI 1, _, _, q5, hM.1, c_R_erase hM (by omega), fun r' h2 sz2 hp => ?_⟩
          obtain ⟨e', rfl, ⟨-, hM3, hF3⟩ | ⟨i', j', hi', hj', ei', ej', -⟩⟩ := hp
          · exact ⟨e', ⟨1, vs, lf, _, hM3, rfl⟩, V, el, LL, F, lo, 1, vs, lf, U, ad, kn, vc, Ls, _, hC.mf hM hsep hF3, hM3, hR.grow hz, hF3.out hM ho, by omega⟩
          · rw [ei', ej', okN_n (by decide) hi', okN_n (by decide) hj'] at eok; cases eok
        · rcases (mkB hsep wf hdce hC hM hR ho hv hn hi hj (Or.inl rfl) hmk).1 with e | e <;> first | (cases e; done) | exact absurd (Sum.inr.inj e) (by decide)
      · rcases q2 with ⟨-, e, -⟩ | ⟨i, j, hi, hj, ei, ej, hmk⟩
        · first | (cases e; done) | exact absurd (Sum.inr.inj e) (by decide)
        · exact model 2 _ i j hi hj ei ej hmk q5 (fun z => by (cases z)) (fun _ => rfl)
end Mu
