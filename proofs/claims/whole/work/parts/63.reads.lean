/-! ===== the law's calls that read ===== -/
theorem nd1 {a : String} : ∀ (i j : Nat) (E : String), [a][i]? = some E → [a][j]? = some E → i = j := by
  intro i j E h1 h2
  obtain ⟨p, -⟩ := List.getElem?_eq_some_iff.mp h1
  obtain ⟨q, -⟩ := List.getElem?_eq_some_iff.mp h2
  simp at p q; omega
theorem nd2 {a b : String} (hab : a ≠ b) : ∀ (i j : Nat) (E : String), [a, b][i]? = some E → [a, b][j]? = some E → i = j := by
  intro i j E h1 h2
  obtain ⟨p, p2⟩ := List.getElem?_eq_some_iff.mp h1
  obtain ⟨q, q2⟩ := List.getElem?_eq_some_iff.mp h2
  simp at p q
  match i, j, p, q with
  | 0, 0, _, _ => rfl
  | 1, 1, _, _ => rfl
  | 0, 1, _, _ => exact absurd (p2.trans q2.symm) hab
  | 1, 0, _, _ => exact absurd (q2.trans p2.symm) hab
theorem updL_0 (f : Nat → Int64) (y : Int64) : vp_updL f 0 y 0 = y := by simp [vp_updL]
section Rd
variable {G : gG} {l : Launch} {b L : Nat} {xs : Nat → Int32} {Y : gLay} {m oa t n : Nat} {A : Nat → Nat} {h : gHp} {sz k w : Nat}
theorem rdQ {V : gV} {el : Nat → Nat} {LL : Nat → List Nat} {F : Nat → Nat → Int32} {lo th : Int32} {vs : Nat} {lf : Int32} {U : gU} {ad kn : Nat → Nat} {vc : Nat → Nat → Nat} {Ls : Nat → List Nat} {fo : Nat → Int64} (hsep : ∀ i, i < 7 → lTc Y i ≠ A 5) (hC : CI G V Y h el LL F lo) (hM : MV h m A th vs lf U) (hR : Rel V ad kn vc Ls (LL, F, lo) vs lf U sz vs) (ho : h oa = some (gL 1 fo)) (hv : vs ≤ n) {o : gRs} {Es : List String} {T X : Int32} (hA : AG o Es T X) (hnd : ∀ (i j : Nat) (E : String), Es[i]? = some E → Es[j]? = some E → i = j) {d : Nat} {y : MethodName} {M : gM} {av : List Value} (hc : ∀ h1 sz1, MV h1 m A th vs lf U → SM G l d y M av h1 sz1 0 0 (mP h1 m A vs lf U T X sz1)) : ∀ r h1 sz1, lwO (qO o h sz) oa Es r h1 sz1 → ∃ (r0 : Int32) (Qm : gRs → gHp → Nat → Prop) (fs : List Value), r = .inl (some (.int r0)) ∧ h1 m = some (gO 6 fs) ∧ SM G l d y M av h1 sz1 0 0 Qm ∧ ∀ r' h2 sz2, Qm r' h2 sz2 → ∃ X' : Int32, r' = .inl (some (.int X')) ∧ (∃ (T : Int32) (vs : Nat) (lf : Int32) (U : gU), MV h2 m A T vs lf U ∧ T = r0) ∧ (r0 = 0 → ∃ f1, h2 oa = some (gL 1 f1) ∧ f1 0 = X'.toInt64) ∧ WI G Y m A oa h2 sz2 (n + 1) := by
  intro r h1 sz1 hq
  rcases hq with ⟨X0, h0, f, Y0, ⟨q1, q2, q3⟩, q4, q5, q6, q7⟩ | ⟨i, E, q1, ⟨q2, q3, q4⟩, q5⟩
  · subst q2
    have hT : T = 0 ∧ X = X0 := by
      rcases hA with ⟨Z, e1, e2, e3⟩ | ⟨i, E, -, -, e2, -⟩
      · rw [e1] at q1; cases q1; exact ⟨e2, e3⟩
      · rw [e2] at q1; cases q1
    have hM1 : MV h1 m A th vs lf U := by rw [q6]; exact hM.put ho
    have hC1 : CI G V Y h1 el LL F lo := by rw [q6]; exact hC.put ho
    have ho1 : h1 oa = some (gL 1 (vp_updL f 0 Y0)) := by rw [q6]; exact gUp_self _ _ _
    refine ⟨0, _, _, q7, hM1.1, hc h1 sz1 hM1, fun r' h2 sz2 hp => ?_⟩
    obtain ⟨p1, p2, p3, p4⟩ := hp
    have ho2 := p3.out hM1 ho1
    exact ⟨X, p1, ⟨T, vs, lf, U, p2, hT.1⟩, fun _ => ⟨_, ho2, by rw [updL_0, q5, hT.2]⟩, V, el, LL, F, lo, T, vs, lf, U, ad, kn, vc, Ls, _, hC1.mf hM1 hsep p3, p2, hR.grow (by omega), ho2, by omega⟩
  · subst q3
    have hT : T = nI (i + 1) ∧ i < 3 := by
      rcases hA with ⟨Z, e1, -⟩ | ⟨i', E', e1, e3, e2, e4⟩
      · rw [e1] at q2; cases q2
      · rw [e2] at q2; cases q2
        have := hnd i i' _ q1 e1
        subst this; exact ⟨e4, e3⟩
    refine ⟨nI (i + 1), _, _, q5, hM.1, hc h1 sz1 hM, fun r' h2 sz2 hp => ?_⟩
    obtain ⟨p1, p2, p3, p4⟩ := hp
    exact ⟨X, p1, ⟨T, vs, lf, U, p2, hT.1⟩, fun z => absurd (n_eq (b := 0) z (by omega) (by omega)) (by omega), V, el, LL, F, lo, T, vs, lf, U, ad, kn, vc, Ls, _, hC.mf hM hsep p3, p2, hR.grow (by omega), p3.out hM ho, by omega⟩
theorem rdS {V : gV} {el : Nat → Nat} {LL : Nat → List Nat} {F : Nat → Nat → Int32} {lo th : Int32} {vs : Nat} {lf : Int32} {U : gU} {ad kn : Nat → Nat} {vc : Nat → Nat → Nat} {Ls : Nat → List Nat} {fo : Nat → Int64} (hsep : ∀ i, i < 7 → lTc Y i ≠ A 5) (hC : CI G V Y h el LL F lo) (hM : MV h m A th vs lf U) (hR : Rel V ad kn vc Ls (LL, F, lo) vs lf U sz vs) (ho : h oa = some (gL 1 fo)) (hv : vs ≤ n) {o : gRs} {Es : List String} {T X : Int32} (hA : AG o Es T X) (hX : X = 0 ∨ X = 1) (hnd : ∀ (i j : Nat) (E : String), Es[i]? = some E → Es[j]? = some E → i = j) {d : Nat} {y : MethodName} {M : gM} {av : List Value} (hc : ∀ h1 sz1, MV h1 m A th vs lf U → SM G l d y M av h1 sz1 0 0 (mP h1 m A vs lf U T X sz1)) : ∀ r h1 sz1, lwO (qO o h sz) oa Es r h1 sz1 → ∃ (r0 : Int32) (Qm : gRs → gHp → Nat → Prop) (fs : List Value), r = .inl (some (.int r0)) ∧ h1 m = some (gO 6 fs) ∧ SM G l d y M av h1 sz1 0 0 Qm ∧ ∀ r' h2 sz2, Qm r' h2 sz2 → ∃ X' : Int32, r' = .inl (some (.int X')) ∧ (X' = 0 ∨ X' = 1) ∧ (∃ (T : Int32) (vs : Nat) (lf : Int32) (U : gU), MV h2 m A T vs lf U ∧ T = r0) ∧ (r0 = 0 → ∃ f1, h2 oa = some (gL 1 f1) ∧ f1 0 = X'.toInt64) ∧ WI G Y m A oa h2 sz2 (n + 1) := by
  intro r h1 sz1 hq
  rcases hq with ⟨X0, h0, f, Y0, ⟨q1, q2, q3⟩, q4, q5, q6, q7⟩ | ⟨i, E, q1, ⟨q2, q3, q4⟩, q5⟩
  · subst q2
    have hT : T = 0 ∧ X = X0 := by
      rcases hA with ⟨Z, e1, e2, e3⟩ | ⟨i, E, -, -, e2, -⟩
      · rw [e1] at q1; cases q1; exact ⟨e2, e3⟩
      · rw [e2] at q1; cases q1
    have hM1 : MV h1 m A th vs lf U := by rw [q6]; exact hM.put ho
    have hC1 : CI G V Y h1 el LL F lo := by rw [q6]; exact hC.put ho
    have ho1 : h1 oa = some (gL 1 (vp_updL f 0 Y0)) := by rw [q6]; exact gUp_self _ _ _
    refine ⟨0, _, _, q7, hM1.1, hc h1 sz1 hM1, fun r' h2 sz2 hp => ?_⟩
    obtain ⟨p1, p2, p3, p4⟩ := hp
    have ho2 := p3.out hM1 ho1
    exact ⟨X, p1, hX, ⟨T, vs, lf, U, p2, hT.1⟩, fun _ => ⟨_, ho2, by rw [updL_0, q5, hT.2]⟩, V, el, LL, F, lo, T, vs, lf, U, ad, kn, vc, Ls, _, hC1.mf hM1 hsep p3, p2, hR.grow (by omega), ho2, by omega⟩
  · subst q3
    have hT : T = nI (i + 1) ∧ i < 3 := by
      rcases hA with ⟨Z, e1, -⟩ | ⟨i', E', e1, e3, e2, e4⟩
      · rw [e1] at q2; cases q2
      · rw [e2] at q2; cases q2
        have := hnd i i' _ q1 e1
        subst this; exact ⟨e4, e3⟩
    refine ⟨nI (i + 1), _, _, q5, hM.1, hc h1 sz1 hM, fun r' h2 sz2 hp => ?_⟩
    obtain ⟨p1, p2, p3, p4⟩ := hp
    exact ⟨X, p1, hX, ⟨T, vs, lf, U, p2, hT.1⟩, fun z => absurd (n_eq (b := 0) z (by omega) (by omega)) (by omega), V, el, LL, F, lo, T, vs, lf, U, ad, kn, vc, Ls, _, hC.mf hM hsep p3, p2, hR.grow (by omega), p3.out hM ho, by omega⟩
theorem rd_siblings {v5 v6 : Option Value} (htr : l.stackTraces = false) (hsep : ∀ i, i < 7 → lTc Y i ≠ A 5) (hW : WI G Y m A oa h sz n) (hn : n < 600) (ht : 5 * t + 5 ≤ L) (hL : L ≤ 2560) (hk : k + 4 ≤ 601024) (hw : w + 24 ≤ 7293033) (kk : ∀ h2 sz2 q5 q6, WI G Y m A oa h2 sz2 (n + 1) → GW G l (Zl G b L xs) room_1 M_L_law 1192 [some (.ref b), some (.ref (lFo Y)), some (.ref m), some (.ref oa), some (.int (nI (5 * t))), q5, q6] [] h2 sz2 (k + 4) (w + 24)) : GW G l (Zl G b L xs) room_1 M_L_law 236 [some (.ref b), some (.ref (lFo Y)), some (.ref m), some (.ref oa), some (.int (nI (5 * t))), v5, v6] [] h sz k w := by
  obtain ⟨V, el, LL, F, lo, th, vs, lf, U, ad, kn, vc, Ls, fo, hC, hM, hR, ho, hv⟩ := hW
  have hA := AG.siblings hR (s := xs (5 * t + 1)) (d := xs (5 * t + 2))
  exact lk_siblings (A := A) (Wn := fun h2 sz2 => WI G Y m A oa h2 sz2 (n + 1)) ht hL hk hw (c_L_siblings hC.1 (c_F_siblings htr hC) (qO_v hA ho)) (rdQ hsep hC hM hR ho hv hA nd1 (fun h1 sz1 hM1 => c_R_siblings hM1)) kk
theorem rd_counter {v5 v6 : Option Value} (htr : l.stackTraces = false) (hsep : ∀ i, i < 7 → lTc Y i ≠ A 5) (hW : WI G Y m A oa h sz n) (hn : n < 600) (ht : 5 * t + 5 ≤ L) (hL : L ≤ 2560) (hk : k + 4 ≤ 601024) (hw : w + 24 ≤ 7293033) (kk : ∀ h2 sz2 q5 q6, WI G Y m A oa h2 sz2 (n + 1) → GW G l (Zl G b L xs) room_1 M_L_law 1192 [some (.ref b), some (.ref (lFo Y)), some (.ref m), some (.ref oa), some (.int (nI (5 * t))), q5, q6] [] h2 sz2 (k + 4) (w + 24)) : GW G l (Zl G b L xs) room_1 M_L_law 304 [some (.ref b), some (.ref (lFo Y)), some (.ref m), some (.ref oa), some (.int (nI (5 * t))), v5, v6] [] h sz k w := by
  obtain ⟨V, el, LL, F, lo, th, vs, lf, U, ad, kn, vc, Ls, fo, hC, hM, hR, ho, hv⟩ := hW
  have hA := AG.counter hR (s := xs (5 * t + 1)) (d := xs (5 * t + 2)) (k := xs (5 * t + 3)) (j := xs (5 * t + 4))
  exact lk_counter (A := A) (Wn := fun h2 sz2 => WI G Y m A oa h2 sz2 (n + 1)) ht hL hk hw (c_L_counter hC.1 (c_F_counter htr hC) (qO_v hA ho)) (rdQ hsep hC hM hR ho hv hA (nd2 (by decide)) (fun h1 sz1 hM1 => c_R_counter hM1)) kk
theorem rd_byteOf {v5 v6 : Option Value} (htr : l.stackTraces = false) (hsep : ∀ i, i < 7 → lTc Y i ≠ A 5) (hW : WI G Y m A oa h sz n) (hn : n < 600) (ht : 5 * t + 5 ≤ L) (hL : L ≤ 2560) (hk : k + 4 ≤ 601024) (hw : w + 24 ≤ 7293033) (kk : ∀ h2 sz2 q5 q6, WI G Y m A oa h2 sz2 (n + 1) → GW G l (Zl G b L xs) room_1 M_L_law 1192 [some (.ref b), some (.ref (lFo Y)), some (.ref m), some (.ref oa), some (.int (nI (5 * t))), q5, q6] [] h2 sz2 (k + 4) (w + 24)) : GW G l (Zl G b L xs) room_1 M_L_law 396 [some (.ref b), some (.ref (lFo Y)), some (.ref m), some (.ref oa), some (.int (nI (5 * t))), v5, v6] [] h sz k w := by
  obtain ⟨V, el, LL, F, lo, th, vs, lf, U, ad, kn, vc, Ls, fo, hC, hM, hR, ho, hv⟩ := hW
  have hA := AG.byteOf hR (s := xs (5 * t + 1)) (d := xs (5 * t + 2)) (k := xs (5 * t + 3)) (i := xs (5 * t + 4))
  exact lk_byteOf (A := A) (Wn := fun h2 sz2 => WI G Y m A oa h2 sz2 (n + 1)) ht hL hk hw (c_L_byteOf hC.1 (c_F_byteOf htr hC) (qO_v hA ho)) (rdQ hsep hC hM hR ho hv hA (nd2 (by decide)) (fun h1 sz1 hM1 => c_R_byteOf hM1)) kk
theorem rd_known {v5 v6 : Option Value} (htr : l.stackTraces = false) (hsep : ∀ i, i < 7 → lTc Y i ≠ A 5) (hW : WI G Y m A oa h sz n) (hn : n < 600) (ht : 5 * t + 5 ≤ L) (hL : L ≤ 2560) (hk : k + 4 ≤ 601024) (hw : w + 24 ≤ 7293033) (kk : ∀ h2 sz2 q5 q6, WI G Y m A oa h2 sz2 (n + 1) → GW G l (Zl G b L xs) room_1 M_L_law 1192 [some (.ref b), some (.ref (lFo Y)), some (.ref m), some (.ref oa), some (.int (nI (5 * t))), q5, q6] [] h2 sz2 (k + 4) (w + 24)) : GW G l (Zl G b L xs) room_1 M_L_law 764 [some (.ref b), some (.ref (lFo Y)), some (.ref m), some (.ref oa), some (.int (nI (5 * t))), v5, v6] [] h sz k w := by
  obtain ⟨V, el, LL, F, lo, th, vs, lf, U, ad, kn, vc, Ls, fo, hC, hM, hR, ho, hv⟩ := hW
  have hA := AG.known hR (s := xs (5 * t + 1)) (o := xs (5 * t + 2)) (d := xs (5 * t + 3)) (j := xs (5 * t + 4))
  exact lk_known (A := A) (Wn := fun h2 sz2 => WI G Y m A oa h2 sz2 (n + 1)) ht hL hk hw (c_L_known hC.1 (c_F_known htr hC) (qO_v hA ho)) (rdQ hsep hC hM hR ho hv hA (nd2 (by decide)) (fun h1 sz1 hM1 => c_R_known hM1)) kk
theorem rd_marks {v5 v6 : Option Value} (htr : l.stackTraces = false) (hsep : ∀ i, i < 7 → lTc Y i ≠ A 5) (hW : WI G Y m A oa h sz n) (hn : n < 600) (ht : 5 * t + 5 ≤ L) (hL : L ≤ 2560) (hk : k + 4 ≤ 601024) (hw : w + 24 ≤ 7293033) (kk : ∀ h2 sz2 q5 q6, WI G Y m A oa h2 sz2 (n + 1) → GW G l (Zl G b L xs) room_1 M_L_law 1192 [some (.ref b), some (.ref (lFo Y)), some (.ref m), some (.ref oa), some (.int (nI (5 * t))), q5, q6] [] h2 sz2 (k + 4) (w + 24)) : GW G l (Zl G b L xs) room_1 M_L_law 856 [some (.ref b), some (.ref (lFo Y)), some (.ref m), some (.ref oa), some (.int (nI (5 * t))), v5, v6] [] h sz k w := by
  obtain ⟨V, el, LL, F, lo, th, vs, lf, U, ad, kn, vc, Ls, fo, hC, hM, hR, ho, hv⟩ := hW
  have hA := AG.marks hR (s := xs (5 * t + 1))
  exact lk_marks (A := A) (Wn := fun h2 sz2 => WI G Y m A oa h2 sz2 (n + 1)) ht hL hk hw (c_L_marks hC.1 (c_F_marks htr hC) (qO_v hA ho)) (rdQ hsep hC hM hR ho hv hA nd1 (fun h1 sz1 hM1 => c_R_marks hM1)) kk
theorem rd_bytes {v5 v6 : Option Value} (htr : l.stackTraces = false) (hsep : ∀ i, i < 7 → lTc Y i ≠ A 5) (hW : WI G Y m A oa h sz n) (hn : n < 600) (ht : 5 * t + 5 ≤ L) (hL : L ≤ 2560) (hk : k + 4 ≤ 601024) (hw : w + 24 ≤ 7293033) (kk : ∀ h2 sz2 q5 q6, WI G Y m A oa h2 sz2 (n + 1) → GW G l (Zl G b L xs) room_1 M_L_law 1192 [some (.ref b), some (.ref (lFo Y)), some (.ref m), some (.ref oa), some (.int (nI (5 * t))), q5, q6] [] h2 sz2 (k + 4) (w + 24)) : GW G l (Zl G b L xs) room_1 M_L_law 912 [some (.ref b), some (.ref (lFo Y)), some (.ref m), some (.ref oa), some (.int (nI (5 * t))), v5, v6] [] h sz k w := by
  obtain ⟨V, el, LL, F, lo, th, vs, lf, U, ad, kn, vc, Ls, fo, hC, hM, hR, ho, hv⟩ := hW
  have hA := AG.bytes hR (s := xs (5 * t + 1))
  exact lk_bytes (A := A) (Wn := fun h2 sz2 => WI G Y m A oa h2 sz2 (n + 1)) ht hL hk hw (c_L_bytes hC.1 (c_F_bytes htr hC) (qO_v hA ho)) (rdQ hsep hC hM hR ho hv hA nd1 (fun h1 sz1 hM1 => c_R_bytes hM1)) kk
theorem rd_room {v5 v6 : Option Value} (htr : l.stackTraces = false) (hsep : ∀ i, i < 7 → lTc Y i ≠ A 5) (hW : WI G Y m A oa h sz n) (hn : n < 600) (ht : 5 * t + 5 ≤ L) (hL : L ≤ 2560) (hk : k + 4 ≤ 601024) (hw : w + 24 ≤ 7293033) (kk : ∀ h2 sz2 q5 q6, WI G Y m A oa h2 sz2 (n + 1) → GW G l (Zl G b L xs) room_1 M_L_law 1192 [some (.ref b), some (.ref (lFo Y)), some (.ref m), some (.ref oa), some (.int (nI (5 * t))), q5, q6] [] h2 sz2 (k + 4) (w + 24)) : GW G l (Zl G b L xs) room_1 M_L_law 1043 [some (.ref b), some (.ref (lFo Y)), some (.ref m), some (.ref oa), some (.int (nI (5 * t))), v5, v6] [] h sz k w := by
  obtain ⟨V, el, LL, F, lo, th, vs, lf, U, ad, kn, vc, Ls, fo, hC, hM, hR, ho, hv⟩ := hW
  have hA := AG.room hR (s := xs (5 * t + 1))
  exact lk_room (A := A) (Wn := fun h2 sz2 => WI G Y m A oa h2 sz2 (n + 1)) ht hL hk hw (c_L_room hC.1 (c_F_room htr hC) (qO_v hA ho)) (rdQ hsep hC hM hR ho hv hA nd1 (fun h1 sz1 hM1 => c_R_room hM1)) kk
theorem rd_item {v5 v6 : Option Value} (htr : l.stackTraces = false) (hsep : ∀ i, i < 7 → lTc Y i ≠ A 5) (hW : WI G Y m A oa h sz n) (hn : n < 600) (ht : 5 * t + 5 ≤ L) (hL : L ≤ 2560) (hk : k + 4 ≤ 601024) (hw : w + 24 ≤ 7293033) (kk : ∀ h2 sz2 q5 q6, WI G Y m A oa h2 sz2 (n + 1) → GW G l (Zl G b L xs) room_1 M_L_law 1192 [some (.ref b), some (.ref (lFo Y)), some (.ref m), some (.ref oa), some (.int (nI (5 * t))), q5, q6] [] h2 sz2 (k + 4) (w + 24)) : GW G l (Zl G b L xs) room_1 M_L_law 1099 [some (.ref b), some (.ref (lFo Y)), some (.ref m), some (.ref oa), some (.int (nI (5 * t))), v5, v6] [] h sz k w := by
  obtain ⟨V, el, LL, F, lo, th, vs, lf, U, ad, kn, vc, Ls, fo, hC, hM, hR, ho, hv⟩ := hW
  have hA := AG.item hR (c := xs (5 * t + 1)) (k := xs (5 * t + 2)) (q := xs (5 * t + 3))
  exact lk_item (A := A) (Wn := fun h2 sz2 => WI G Y m A oa h2 sz2 (n + 1)) ht hL hk hw (c_L_item hC.1 (c_F_item htr hC) (qO_v hA ho)) (rdQ hsep hC hM hR ho hv hA (nd2 (by decide)) (fun h1 sz1 hM1 => c_R_item hM1)) kk
theorem rd_same {v5 v6 : Option Value} (htr : l.stackTraces = false) (hsep : ∀ i, i < 7 → lTc Y i ≠ A 5) (hW : WI G Y m A oa h sz n) (hn : n < 600) (ht : 5 * t + 5 ≤ L) (hL : L ≤ 2560) (hk : k + 4 ≤ 601024) (hw : w + 24 ≤ 7293033) (kk : ∀ h2 sz2 q5 q6, WI G Y m A oa h2 sz2 (n + 1) → GW G l (Zl G b L xs) room_1 M_L_law 1192 [some (.ref b), some (.ref (lFo Y)), some (.ref m), some (.ref oa), some (.int (nI (5 * t))), q5, q6] [] h2 sz2 (k + 4) (w + 24)) : GW G l (Zl G b L xs) room_1 M_L_law 968 [some (.ref b), some (.ref (lFo Y)), some (.ref m), some (.ref oa), some (.int (nI (5 * t))), v5, v6] [] h sz k w := by
  obtain ⟨V, el, LL, F, lo, th, vs, lf, U, ad, kn, vc, Ls, fo, hC, hM, hR, ho, hv⟩ := hW
  have hA := AG.same hR (a := xs (5 * t + 1)) (b := xs (5 * t + 2))
  have hX : (if okN (xs (5 * t + 1)) 4 && okN (xs (5 * t + 2)) 4 then b2i (mSa U (xs (5 * t + 1)).toNatClampNeg (xs (5 * t + 2)).toNatClampNeg 40) else 0) = 0 ∨ (if okN (xs (5 * t + 1)) 4 && okN (xs (5 * t + 2)) 4 then b2i (mSa U (xs (5 * t + 1)).toNatClampNeg (xs (5 * t + 2)).toNatClampNeg 40) else 0) = 1 := by
    split
    · exact b2i_01 _
    · exact Or.inl rfl
  refine lk_same (A := A) (Wn := fun h2 sz2 => WI G Y m A oa h2 sz2 (n + 1)) ht hL hk hw (c_L_same hC.1 (c_F_same htr hC) (fun r h1 sz1 hq => ?_)) (fun r h1 sz1 hq => ?_) kk
  · obtain ⟨rfl, rfl, -⟩ := hq
    rcases hA with ⟨Z, e, -, e2⟩ | ⟨i, E, e1, -, e2, -⟩
    · exact Or.inl ⟨Z, fo, e, ho, by rw [← e2]; exact hX⟩
    · exact Or.inr ⟨E, e2, List.mem_of_getElem? e1⟩
  · exact rdS (l := l) hsep hC hM hR ho hv hA hX nd1 (fun h1 sz1 hM1 => c_R_same hM1) r h1 sz1 hq
theorem rd_leftOut {v5 v6 : Option Value} (hsep : ∀ i, i < 7 → lTc Y i ≠ A 5) (hW : WI G Y m A oa h sz n) (hk : k + 4 ≤ 601024) (hw : w + 24 ≤ 7293033) (kk : ∀ h2 sz2 q5 q6, WI G Y m A oa h2 sz2 (n + 1) → GW G l (Zl G b L xs) room_1 M_L_law 1192 [some (.ref b), some (.ref (lFo Y)), some (.ref m), some (.ref oa), some (.int (nI (5 * t))), q5, q6] [] h2 sz2 (k + 4) (w + 24)) : GW G l (Zl G b L xs) room_1 M_L_law 1179 [some (.ref b), some (.ref (lFo Y)), some (.ref m), some (.ref oa), some (.int (nI (5 * t))), v5, v6] [] h sz k w := by
  obtain ⟨V, el, LL, F, lo, th, vs, lf, U, ad, kn, vc, Ls, fo, hC, hM, hR, ho, hv⟩ := hW
  have hx := hC.1
  have hm := hM.1
  have hlo : lo = lf := hR.2.2.2.2.2.1
  refine gw_al1 d_L_law_1179 ?_
  refine gw_oV0 d_L_law_1180 cs_L_law_1180 hx (c_F_leftOut hC) rfl (fun sz1 hz => ?_) (hcs := hk) (hss := hw)
  refine gw_al2 d_L_law_1183 ?_
  refine gw_cV0 d_L_law_1184 cs_L_law_1184 hm (c_R_leftOut hM) (fun v h2 sz2 hp hz2 => ?_) (fun E h2 sz2 hp _ => by cases hp.1) (hcs := by show k + 4 + 0 ≤ 601024; omega) (hss := by show w + 24 + 0 ≤ 7293033; omega); obtain ⟨w1, w2, w3, w4⟩ := hp; cases w1; subst w4
  refine gw_iceq d_L_law_1187 (fun c_0 => ?_) (fun c_0 => absurd hlo c_0)
  exact kk h2 _ _ _ ⟨V, el, LL, F, lo, 0, vs, lf, U, ad, kn, vc, Ls, fo, hC.mf hM hsep w3, w2, hR.grow hz, w3.out hM ho, by omega⟩
end Rd
