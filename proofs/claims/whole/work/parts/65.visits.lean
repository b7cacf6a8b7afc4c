/-! ===== the law's calls that change (2): visits ===== -/
section Vi
variable {G : gG} {l : Launch} {b L : Nat} {xs : Nat → Int32} {Y : gLay} {m oa t n : Nat} {A : Nat → Nat} {h : gHp} {sz k w : Nat}
/-- the orders of loading, for each cartridge and station -/
def visP (V : gV) (ad : Nat → Nat) (vc : Nat → Nat → Nat) (T : gT) (vs : Nat) (lf : Int32) (U : gU) (sz : Nat) (ds : Int32) (mo c s : Nat) (TL : List Nat) : Prop := mHc U lf c s ds mo TL ∧ (mo < uM U c → gtR V s c ds mo T = 0 ∧ ∃ kn' Ls', Rel V ad kn' vc Ls' (gtT V s c ds mo T) vs (mUl U c s lf (min (uM U c) mo)).2 (ulU U c s lf (min (uM U c) mo)) sz vs) ∧ (uM U c ≤ mo → gtR V s c ds mo T = nI (uM (mLd c (mo - uM U c) TL (vt4 (ulU U c s lf (min (uM U c) mo)) c s)) c) ∧ ∃ kn' Ls', Rel V ad kn' vc Ls' (gtT V s c ds mo T) vs (mUl U c s lf (min (uM U c) mo)).2 (mLd c (mo - uM U c) TL (vt4 (ulU U c s lf (min (uM U c) mo)) c s)) sz vs)
theorem visE {V : gV} {ad kn : Nat → Nat} {vc : Nat → Nat → Nat} {Ls : Nat → List Nat} {T : gT} {vs : Nat} {lf : Int32} {U : gU} (h : Rel V ad kn vc Ls T vs lf U sz vs) (hvs : vs ≤ 4100) (ds : Int32) (mo : Nat) : ∃ Lf : Nat → Nat → List Nat, ∀ c s, c < 3 → s < 4 → visP V ad vc T vs lf U sz ds mo c s (Lf c s) := by
  have e : ∀ c s, c < 3 → s < 4 → ∃ TL, visP V ad vc T vs lf U sz ds mo c s TL := by
    intro c s hc hs
    obtain ⟨TL, t1, t2, t3⟩ := h.vis hvs hc hs (ds := ds) (mo := mo)
    exact ⟨TL, t1, t2, fun q => ⟨(t3 q).2.2.1, (t3 q).2.2.2⟩⟩
  refine ⟨fun c s => if hcs : c < 3 ∧ s < 4 then Classical.choose (e c s hcs.1 hcs.2) else [], fun c s hc hs => ?_⟩
  show visP V ad vc T vs lf U sz ds mo c s (if hcs : c < 3 ∧ s < 4 then Classical.choose (e c s hcs.1 hcs.2) else [])
  rw [dif_pos ⟨hc, hs⟩]
  exact Classical.choose_spec (e c s hc hs)
theorem rd_visit {v5 v6 : Option Value} (htr : l.stackTraces = false) (hsep : ∀ i, i < 7 → lTc Y i ≠ A 5) (hW : WI G Y m A oa h sz n) (hn : n < 600) (ht : 5 * t + 5 ≤ L) (hL : L ≤ 2560) (hk : k + 146 ≤ 601024) (hw : w + 10380 ≤ 7293033) (kk : ∀ h2 sz2 q5 q6, WI G Y m A oa h2 sz2 (n + 1) → GW G l (Zl G b L xs) room_1 M_L_law 1192 [some (.ref b), some (.ref (lFo Y)), some (.ref m), some (.ref oa), some (.int (nI (5 * t))), q5, q6] [] h2 sz2 (k + 146) (w + 10380)) : GW G l (Zl G b L xs) room_1 M_L_law 488 [some (.ref b), some (.ref (lFo Y)), some (.ref m), some (.ref oa), some (.int (nI (5 * t))), v5, v6] [] h sz k w := by
  obtain ⟨V, el, LL, F, lo, th, vs, lf, U, ad, kn, vc, Ls, fo, hC, hM, hR, ho, hv⟩ := hW
  refine GW.wf (fun wf => ?_)
  refine GW.dce (fun hdce => ?_)
  have hvs : vs ≤ 4100 := by omega
  have hb : ∀ i c, i < 4 → c < 3 → ∀ j, j < (LL (4 + c)).length → ((ulN V i c j (LL, F, lo)).1 i).length < 48 := fun i c hi hc => hR.bnd hvs hc hi
  obtain ⟨Lf, hLf⟩ := visE hR hvs (xs (5 * t + 3)) 1000000
  have hby : ∀ v, ∃ q, q ≤ 40 ∧ mBy U v = nI q := fun v => ⟨byN U v, hR.by v⟩
  refine lk_visit (A := A) (Wn := fun h2 sz2 => WI G Y m A oa h2 sz2 (n + 1)) ht hL hk hw (c_L_visit hC.1 (c_F_visit htr hC hb) (fun r h1 sz1 hq => ?_)) (fun r h1 sz1 hq => ?_) kk
  · rcases hq with ⟨-, e, -⟩ | ⟨i, c, hi, hc, -, -, e, el', hC1, hq1⟩
    · exact Or.inr ⟨eN, e, by simp⟩
    · exact Or.inl ⟨_, fo, e, hq1.out hC wf hdce ho⟩
  · rcases hq with ⟨X0, h0, f, Y0, q1, q4, q5, q6, q7⟩ | ⟨i, E, q1, q2, q5⟩
    · rcases q1 with ⟨-, e, -⟩ | ⟨i, c, hi, hc, es, ec, e, el', hC1, hq1⟩
      · cases e
      · cases e
        have hM2 : MV h1 m A th vs lf U := by rw [q6]; exact (hM.cq hC wf hdce hsep hq1).put q4
        have hC2 := hC1.put (f' := vp_updL f 0 Y0) q4
        rw [← q6] at hC2
        have ho1 : h1 oa = some (gL 1 (vp_updL f 0 Y0)) := by rw [q6]; exact gUp_self _ _ _
        refine ⟨0, _, _, q7, hM2.1, c_R_visit hM2 hby (fun c s hc hs => (hLf c s hc hs).1), fun r' h2 sz2 hp => ?_⟩
        obtain ⟨p0, ⟨bad, -⟩ | ⟨i', c', hi', hc', es', ec', hmv, hF3⟩⟩ := hp
        · rw [es, ec, okN_n (by decide) hi, okN_n (by decide) hc] at bad; cases bad
        · have hii := n_eq (es.symm.trans es') (by omega) (by omega)
          have hcc := n_eq (ec.symm.trans ec') (by omega) (by omega)
          subst hii; subst hcc
          have b5 := hR.2.2.2.2.2.2.2.2.2.2 c
          rcases hmv with ⟨w1, -⟩ | ⟨w1, w2, w3⟩
          · omega
          · obtain ⟨eR, kn', Ls', hR'⟩ := (hLf c i hc hi).2.2 w1
            exact ⟨_, w2, ⟨0, vs, _, _, w3, rfl⟩, fun _ => ⟨_, hF3.out hM2 ho1, by rw [updL_0, q5, eR]⟩, V, el', _, _, _, 0, vs, _, _, ad, kn', vc, Ls', _, hC2.mf hM2 hsep hF3, w3, hR'.grow (by have := hq1.2.2; omega), hF3.out hM2 ho1, by omega⟩
    · obtain ⟨rfl, rfl⟩ := ix1 q1
      rcases q2 with ⟨eok, -, rfl, hz⟩ | ⟨i, c, hi, hc, es, ec, e, -⟩
      · refine ⟨nI 1, _, _, q5, hM.1, c_R_visit hM hby (fun c s hc hs => (hLf c s hc hs).1), fun r' h2 sz2 hp => ?_⟩
        obtain ⟨p0, ⟨-, er', hM3, hF3⟩ | ⟨i', c', hi', hc', es', ec', -⟩⟩ := hp
        · exact ⟨_, er', ⟨1, vs, lf, _, hM3, rfl⟩, fun z => absurd z (by decide), V, el, LL, F, lo, 1, vs, lf, U, ad, kn, vc, Ls, _, hC.mf hM hsep hF3, hM3, hR.grow (by omega), hF3.out hM ho, by omega⟩
        · rw [es', ec', okN_n (by decide) hi', okN_n (by decide) hc'] at eok; cases eok
      · cases e
theorem rd_cut {v5 v6 : Option Value} (htr : l.stackTraces = false) (hsep : ∀ i, i < 7 → lTc Y i ≠ A 5) (hW : WI G Y m A oa h sz n) (hn : n < 600) (ht : 5 * t + 5 ≤ L) (hL : L ≤ 2560) (hk : k + 147 ≤ 601024) (hw : w + 10386 ≤ 7293033) (kk : ∀ h2 sz2 q5 q6, WI G Y m A oa h2 sz2 (n + 1) → GW G l (Zl G b L xs) room_1 M_L_law 1192 [some (.ref b), some (.ref (lFo Y)), some (.ref m), some (.ref oa), some (.int (nI (5 * t))), q5, q6] [] h2 sz2 (k + 147) (w + 10386)) : GW G l (Zl G b L xs) room_1 M_L_law 568 [some (.ref b), some (.ref (lFo Y)), some (.ref m), some (.ref oa), some (.int (nI (5 * t))), v5, v6] [] h sz k w := by
  obtain ⟨V, el, LL, F, lo, th, vs, lf, U, ad, kn, vc, Ls, fo, hC, hM, hR, ho, hv⟩ := hW
  refine GW.wf (fun wf => ?_)
  refine GW.dce (fun hdce => ?_)
  have hvs : vs ≤ 4100 := by omega
  have hb : ∀ i c, i < 4 → c < 3 → ∀ j, j < (LL (4 + c)).length → ((ulN V i c j (LL, F, lo)).1 i).length < 48 := fun i c hi hc => hR.bnd hvs hc hi
  obtain ⟨Lf, hLf⟩ := visE hR hvs (xs (5 * t + 3)) (xs (5 * t + 4)).toNatClampNeg
  have hmo : ∀ mo, xs (5 * t + 4) = nI mo → mo < 2147483648 → (xs (5 * t + 4)).toNatClampNeg = mo := fun mo e1 e2 => by rw [e1, nI_clamp (by omega)]
  have hby : ∀ v, ∃ q, q ≤ 40 ∧ mBy U v = nI q := fun v => ⟨byN U v, hR.by v⟩
  have hch : ∀ mo, xs (5 * t + 4) = nI mo → mo < 2147483648 → ∀ c s, c < 3 → s < 4 → mHc U lf c s (xs (5 * t + 3)) mo (Lf c s) := fun mo e1 e2 c s hc hs => by
    have z := (hLf c s hc hs).1
    rw [hmo mo e1 e2] at z
    exact z
  refine lk_cut (A := A) (Wn := fun h2 sz2 => WI G Y m A oa h2 sz2 (n + 1)) ht hL hk hw (c_L_cut hC.1 (c_F_cut htr hC hb) (fun r h1 sz1 hq => ?_)) (fun r h1 sz1 hq => ?_) kk
  · rcases hq with ⟨-, e, -⟩ | ⟨-, -, e, -⟩ | ⟨i, c, mo, hi, hc, -, -, -, -, e, el', hC1, hq1⟩
    · exact Or.inr ⟨eN, e, by simp⟩
    · exact Or.inr ⟨eI, e, by simp⟩
    · exact Or.inl ⟨_, fo, e, hq1.out hC wf hdce ho⟩
  · rcases hq with ⟨X0, h0, f, Y0, q1, q4, q5, q6, q7⟩ | ⟨i, E, q1, q2, q5⟩
    · rcases q1 with ⟨-, e, -⟩ | ⟨-, -, e, -⟩ | ⟨i, c, mo, hi, hc, es, ec, en, hmo2, e, el', hC1, hq1⟩
      · cases e
      · cases e
      · cases e
        have hvp := hLf c i hc hi
        rw [hmo mo en hmo2] at hvp
        have hM2 : MV h1 m A th vs lf U := by rw [q6]; exact (hM.cq hC wf hdce hsep hq1).put q4
        have hC2 := hC1.put (f' := vp_updL f 0 Y0) q4
        rw [← q6] at hC2
        have ho1 : h1 oa = some (gL 1 (vp_updL f 0 Y0)) := by rw [q6]; exact gUp_self _ _ _
        refine ⟨0, _, _, q7, hM2.1, c_R_cut hM2 hby hch, fun r' h2 sz2 hp => ?_⟩
        obtain ⟨p0, ⟨bad, -⟩ | ⟨-, bad, -⟩ | ⟨i', c', mo', hi', hc', es', ec', en', hmo', hmv, hF3⟩⟩ := hp
        · rw [es, ec, okN_n (by decide) hi, okN_n (by decide) hc] at bad; cases bad
        · rw [en] at bad; exact absurd bad (nI_pos hmo2)
        · have hii := n_eq (es.symm.trans es') (by omega) (by omega)
          have hcc := n_eq (ec.symm.trans ec') (by omega) (by omega)
          have hmm := n_eq (en.symm.trans en') (by omega) (by omega)
          subst hii; subst hcc; subst hmm
          rcases hmv with ⟨w1, w2, w3⟩ | ⟨w1, w2, w3⟩
          · obtain ⟨eR, kn', Ls', hR'⟩ := hvp.2.1 w1
            exact ⟨_, w2, ⟨0, vs, _, _, w3, rfl⟩, fun _ => ⟨_, hF3.out hM2 ho1, by rw [updL_0, q5, eR]⟩, V, el', _, _, _, 0, vs, _, _, ad, kn', vc, Ls', _, hC2.mf hM2 hsep hF3, w3, hR'.grow (by have := hq1.2.2; omega), hF3.out hM2 ho1, by omega⟩
          · obtain ⟨eR, kn', Ls', hR'⟩ := hvp.2.2 w1
            exact ⟨_, w2, ⟨0, vs, _, _, w3, rfl⟩, fun _ => ⟨_, hF3.out hM2 ho1, by rw [updL_0, q5, eR]⟩, V, el', _, _, _, 0, vs, _, _, ad, kn', vc, Ls', _, hC2.mf hM2 hsep hF3, w3, hR'.grow (by have := hq1.2.2; omega), hF3.out hM2 ho1, by omega⟩
    · rcases ix2 q1 with ⟨rfl, rfl⟩ | ⟨rfl, rfl⟩
      · rcases q2 with ⟨eok, -, rfl, hz⟩ | ⟨-, -, e, -⟩ | ⟨i, c, mo, hi, hc, es, ec, en, hmo2, e, -⟩
        · refine ⟨nI 1, _, _, q5, hM.1, c_R_cut hM hby hch, fun r' h2 sz2 hp => ?_⟩
          obtain ⟨p0, ⟨-, er', hM3, hF3⟩ | ⟨bad, -⟩ | ⟨i', c', mo', hi', hc', es', ec', -⟩⟩ := hp
          · exact ⟨_, er', ⟨1, vs, lf, _, hM3, rfl⟩, fun z => absurd z (by decide), V, el, LL, F, lo, 1, vs, lf, U, ad, kn, vc, Ls, _, hC.mf hM hsep hF3, hM3, hR.grow (by omega), hF3.out hM ho, by omega⟩
          · rw [eok] at bad; cases bad
          · rw [es', ec', okN_n (by decide) hi', okN_n (by decide) hc'] at eok; cases eok
        · exact absurd (Sum.inr.inj e) (by decide)
        · cases e
      · rcases q2 with ⟨-, e, -⟩ | ⟨eok, en, -, rfl, hz⟩ | ⟨i, c, mo, hi, hc, es, ec, en, hmo2, e, -⟩
        · exact absurd (Sum.inr.inj e) (by decide)
        · refine ⟨nI 2, _, _, q5, hM.1, c_R_cut hM hby hch, fun r' h2 sz2 hp => ?_⟩
          obtain ⟨p0, ⟨bad, -⟩ | ⟨-, -, er', hM3, hF3⟩ | ⟨i', c', mo', hi', hc', es', ec', en', hmo', -⟩⟩ := hp
          · rw [eok] at bad; cases bad
          · exact ⟨_, er', ⟨2, vs, lf, _, hM3, rfl⟩, fun z => absurd z (by decide), V, el, LL, F, lo, 2, vs, lf, U, ad, kn, vc, Ls, _, hC.mf hM hsep hF3, hM3, hR.grow (by omega), hF3.out hM ho, by omega⟩
          · rw [en'] at en; exact absurd en (nI_pos hmo')
        · cases e
end Vi
