/-! ===== a visit, a version made: both sides ===== -/
theorem ldR_big {V : gV} {m1 m2 : Nat} : ∀ (L R : List Nat), R.length + L.length ≤ m1 → R.length + L.length ≤ m2 → ldR V m1 R L = ldR V m2 R L
  | [], R, _, _ => rfl
  | x :: r, R, h1, h2 => by
    rw [List.length_cons] at h1 h2
    rw [ldR, ldR, if_pos (show R.length < m1 by omega), if_pos (show R.length < m2 by omega)]
    split
    · exact ldR_big r (R ++ [x]) (by simp; omega) (by simp; omega)
    · exact ldR_big r R (by omega) (by omega)
section RelZ
variable {V : gV} {ad kn : Nat → Nat} {vc : Nat → Nat → Nat} {Ls : Nat → List Nat} {T : gT} {vs : Nat} {lf : Int32} {U : gU} {sz e : Nat}
theorem Rel.l7 (h : Rel V ad kn vc Ls T vs lf U sz e) {T' : gT} (h1 : ∀ i, i < 7 → T'.1 i = T.1 i) (h2 : T'.2 = T.2) : Rel V ad kn vc Ls T' vs lf U sz e := by
  obtain ⟨rv, rk, rs, ri, rr, rl, rb⟩ := h
  exact ⟨rv, by rw [h2]; exact rk, rs, ri, ⟨fun i hi => by rw [h1 i hi]; exact rr.1 i hi, rr.2⟩, by rw [h2]; exact rl, rb⟩
theorem Rel.grow (h : Rel V ad kn vc Ls T vs lf U sz e) {sz' : Nat} (hz : sz ≤ sz') : Rel V ad kn vc Ls T vs lf U sz' e := by
  obtain ⟨rv, r⟩ := h
  exact ⟨fun v hv => ⟨(rv v hv).1, (rv v hv).2.1, (rv v hv).2.2.1, (rv v hv).2.2.2.1, (rv v hv).2.2.2.2.1, Nat.lt_of_lt_of_le (rv v hv).2.2.2.2.2.1 hz, (rv v hv).2.2.2.2.2.2⟩, r⟩
theorem Rel.bnd (h : Rel V ad kn vc Ls T vs lf U sz vs) (hvs : vs ≤ 4100) {c s : Nat} (hc : c < 3) (hs : s < 4) : ∀ j, j < (T.1 (4 + c)).length → ((ulN V s c j T).1 s).length < 48 := by
  intro j hj
  rw [h.rowLen hc] at hj
  obtain ⟨kn', Ls', h'⟩ := h.unl hvs hc hs j (by omega)
  have z := (h'.len hs).2
  rw [show (va_up (ulN V s c j T).1 (4 + c) (T.1 (4 + c)), (ulN V s c j T).2.1, (ulN V s c j T).2.2).1 s = (ulN V s c j T).1 s from va_up_ne _ _ (by omega)] at z
  omega
/-- a whole visit -/
theorem Rel.vis (h : Rel V ad kn vc Ls T vs lf U sz vs) (hvs : vs ≤ 4100) {c s : Nat} (hc : c < 3) (hs : s < 4) {ds : Int32} {mo : Nat} : ∃ TL, mHc U lf c s ds mo TL ∧ (mo < uM U c → gtR V s c ds mo T = 0 ∧ ∃ kn' Ls', Rel V ad kn' vc Ls' (gtT V s c ds mo T) vs (mUl U c s lf (min (uM U c) mo)).2 (ulU U c s lf (min (uM U c) mo)) sz vs) ∧ (uM U c ≤ mo → TL.length ≤ 40 ∧ gtC V s c ds (ulN V s c (T.1 (4 + c)).length T) = TL.map ad ∧ gtR V s c ds mo T = nI (uM (mLd c (mo - uM U c) TL (vt4 (ulU U c s lf (min (uM U c) mo)) c s)) c) ∧ ∃ kn' Ls', Rel V ad kn' vc Ls' (gtT V s c ds mo T) vs (mUl U c s lf (min (uM U c) mo)).2 (mLd c (mo - uM U c) TL (vt4 (ulU U c s lf (min (uM U c) mo)) c s)) sz vs) := by
  have hlen := h.rowLen hc
  by_cases hm : mo < uM U c
  · refine ⟨[], fun z => by omega, fun _ => ?_, fun z => by omega⟩
    rw [gtR, gtT, hlen, if_pos hm, if_pos hm, Nat.min_eq_right (by omega)]
    exact ⟨rfl, h.ulF hvs hc hs (by omega)⟩
  · have hmin : min (uM U c) mo = uM U c := Nat.min_eq_left (by omega)
    obtain ⟨kn1, Ls1, h1⟩ := h.ulF hvs hc hs (mv := uM U c) (Nat.le_refl _)
    obtain ⟨kn2, Ls2, h2⟩ := h1.vt hc hs
    obtain ⟨T1, hT1⟩ : ∃ T1, T1 = ulN V s c (uM U c) T := ⟨_, rfl⟩
    rw [← hT1] at h1 h2
    obtain ⟨TL, t1, t2, t3⟩ := h2.ch hs (ds := ds)
    have e1 : (va_up T1.1 s (dmL V (gtF T1 s c) (T1.1 s)), va_up (va_up T1.2.1 s (gtF T1 s c)) (4 + c) (va_cpy (gtF T1 s c) (T1.2.1 (4 + c)) 0 0 160), T1.2.2).2.1 s = gtF T1 s c := by
      show va_up (va_up T1.2.1 s (gtF T1 s c)) (4 + c) _ s = _
      rw [va_up_ne _ _ (by omega), va_up_self]
    have e2 : (va_up T1.1 s (dmL V (gtF T1 s c) (T1.1 s)), va_up (va_up T1.2.1 s (gtF T1 s c)) (4 + c) (va_cpy (gtF T1 s c) (T1.2.1 (4 + c)) 0 0 160), T1.2.2).1 s = dmL V (gtF T1 s c) (T1.1 s) := va_up_self _ _ _
    rw [e1, e2] at t1
    have hC : gtC V s c ds T1 = TL.map ad := t1
    have hch := h2.chn hvs hs t2 t3
    have hrow0 : T1.1 (4 + c) = [] := by
      rw [hT1, ulN_row hs, ← hlen]; exact List.drop_length
    have hM0 : uM (vt4 (ulU U c s lf (uM U c)) c s) c = 0 := by
      rw [vt4_M, ulU_M, va_up_self]; omega
    have hin : ∀ v ∈ TL, v < vs := fun v hv => h2.inS hs ((t3 v).mp hv).1
    obtain ⟨Ls3, h3⟩ := Rel.ld (V := V) (ad := ad) (kn := kn2) (vc := vc) (vs := vs) (lf := (mUl U c s lf (uM U c)).2) (sz := sz) (e := vs) hc (lim := mo - uM U c) TL _ _ Ls2 h2 hin hvs ⟨100, by rw [hM0]; decide, by rw [hM0]; rfl⟩
    have e3 : (va_up T1.1 s (dmL V (gtF T1 s c) (T1.1 s)), va_up (va_up T1.2.1 s (gtF T1 s c)) (4 + c) (va_cpy (gtF T1 s c) (T1.2.1 (4 + c)) 0 0 160), T1.2.2).1 (4 + c) = [] := by
      show va_up T1.1 s (dmL V (gtF T1 s c) (T1.1 s)) (4 + c) = []
      rw [va_up_ne _ _ (by omega)]; exact hrow0
    rw [e3] at h3
    have h3' : Rel V ad kn2 vc Ls3 (va_up (va_up T1.1 s (dmL V (gtF T1 s c) (T1.1 s))) (4 + c) (ldR V (mo - uM U c) [] (TL.map ad)), va_up (va_up T1.2.1 s (gtF T1 s c)) (4 + c) (va_cpy (gtF T1 s c) (T1.2.1 (4 + c)) 0 0 160), T1.2.2) vs (mUl U c s lf (uM U c)).2 (mLd c (mo - uM U c) TL (vt4 (ulU U c s lf (uM U c)) c s)) sz vs := h3
    have hfl := h3'.rowLen hc
    rw [show (va_up (va_up T1.1 s (dmL V (gtF T1 s c) (T1.1 s))) (4 + c) (ldR V (mo - uM U c) [] (TL.map ad)), va_up (va_up T1.2.1 s (gtF T1 s c)) (4 + c) (va_cpy (gtF T1 s c) (T1.2.1 (4 + c)) 0 0 160), T1.2.2).1 (4 + c) = ldR V (mo - uM U c) [] (TL.map ad) from va_up_self _ _ _] at hfl
    refine ⟨TL, fun _ => ?_, fun z => by omega, fun _ => ⟨?_, ?_, ?_, kn2, Ls3, ?_⟩⟩
    · rw [hmin]; exact hch
    · have z := chL_len (V := V) (f := gtF T1 s c) (i := s) (ds := ds) (dmL V (gtF T1 s c) (T1.1 s))
      rw [t1, List.length_map] at z
      have z2 := (h2.len hs).2
      rw [e2] at z2
      omega
    · rw [hlen, ← hT1]; exact hC
    · rw [gtR, hlen, if_neg (by omega), ← hT1, hC, hmin, hfl]
    · rw [gtT, hlen, if_neg (by omega), ← hT1, hmin]
      refine h3'.l7 (fun i hi => ?_) rfl
      show va_up (va_up (va_up T1.1 s (dmL V (gtF T1 s c) (T1.1 s))) 7 (gtC V s c ds T1)) (4 + c) (ldR V (mo - uM U c) [] (gtC V s c ds T1)) i = va_up (va_up T1.1 s (dmL V (gtF T1 s c) (T1.1 s))) (4 + c) (ldR V (mo - uM U c) [] (TL.map ad)) i
      rw [hC]
      by_cases q : i = 4 + c
      · subst q; rw [va_up_self, va_up_self]
      · rw [va_up_ne _ _ q, va_up_ne _ _ q, va_up_ne _ _ (show i ≠ 7 by omega)]
end RelZ
/-- a new version -/
theorem mkV_at {U : gU} {p s v : Nat} : ∀ n, n ≤ 4 → ∀ i, mkV U p s v n i = if 4 * v ≤ i ∧ i < 4 * v + n then uN U (p + (i - 4 * v)) + (if i - 4 * v = s then 1 else 0) else uV U i
  | 0, _, i => by rw [if_neg (by omega)]; rfl
  | n + 1, hn, i => by
    rw [mkV, upd_at]
    by_cases q : i = 4 * v + n
    · subst q; rw [if_pos rfl, if_pos (show 4 * v ≤ 4 * v + n ∧ 4 * v + n < 4 * v + (n + 1) by omega), Nat.add_sub_cancel_left]
    · rw [if_neg q, mkV_at n (by omega)]
      by_cases q2 : 4 * v ≤ i ∧ i < 4 * v + n
      · rw [if_pos q2, if_pos (show 4 * v ≤ i ∧ i < 4 * v + (n + 1) by omega)]
      · rw [if_neg q2, if_neg (show ¬ (4 * v ≤ i ∧ i < 4 * v + (n + 1)) by omega)]
theorem mkU_at (U : gU) (v s d : Nat) (n fl : Int32) : uD (mkU U v s d n fl) = va_up (uD U) v d ∧ uK (mkU U v s d n fl) = va_up (uK U) v s ∧ uL (mkU U v s d n fl) = upd (uL U) v n ∧ uF (mkU U v s d n fl) = upd (uF U) v fl ∧ uV (mkU U v s d n fl) = mkV U (160 * s + 40 * s + 4 * d) s v 4 ∧ uS (mkU U v s d n fl) = uS U ∧ uN (mkU U v s d n fl) = uN U ∧ uM (mkU U v s d n fl) = uM U ∧ uR (mkU U v s d n fl) = uR U := ⟨rfl, rfl, rfl, rfl, rfl, rfl, rfl, rfl, rfl⟩
theorem mkU_old {U : gU} {v s d : Nat} {n fl : Int32} {w : Nat} (hw : w < v) : uD (mkU U v s d n fl) w = uD U w ∧ uK (mkU U v s d n fl) w = uK U w ∧ uL (mkU U v s d n fl) w = uL U w ∧ uF (mkU U v s d n fl) w = uF U w ∧ ∀ j, j < 4 → mVc (mkU U v s d n fl) w j = mVc U w j := by
  obtain ⟨a1, a2, a3, a4, a5, -⟩ := mkU_at U v s d n fl
  refine ⟨by rw [a1, va_up_ne _ _ (by omega)], by rw [a2, va_up_ne _ _ (by omega)], by rw [a3, upd_at, if_neg (by omega)], by rw [a4, upd_at, if_neg (by omega)], fun j hj => ?_⟩
  unfold mVc
  rw [a5, mkV_at 4 (by omega), if_neg (by omega)]
section RelM
variable {V : gV} {ad kn : Nat → Nat} {vc : Nat → Nat → Nat} {Ls : Nat → List Nat} {T : gT} {vs : Nat} {lf : Int32} {U : gU} {sz e : Nat}
theorem Rel.i9' (h : Rel V ad kn vc Ls T vs lf U sz e) {i d : Nat} {n fl : Int32} (hn : n = -1 ∨ ∃ m, m ≤ 40 ∧ n = nI m) : ∀ v, uL (mkU U vs i d n fl) v = -1 ∨ ∃ m, m ≤ 40 ∧ uL (mkU U vs i d n fl) v = nI m := by
  intro v
  rw [(mkU_at U vs i d n fl).2.2.1, upd_at]
  by_cases q : v = vs
  · rw [if_pos q]; exact hn
  · rw [if_neg q]; exact h.2.2.2.1.2.2.2.2.2.2 v
theorem Rel.mbd' (h : Rel V ad kn vc Ls T vs lf U sz e) {i d : Nat} (hi : i < 4) (hd : d < 10) {n fl : Int32} : MBd (mkU U vs i d n fl) := by
  obtain ⟨b1, b2, b3, b4, b5⟩ := h.2.2.2.2.2.2
  exact ⟨va_up_lt b1 hd, va_up_lt b2 hi, b3, b4, b5⟩
/-- what lies behind the versions doesn't matter -/
theorem Rel.junk (h : Rel V ad kn vc Ls T vs lf U sz vs) {i d : Nat} (hi : i < 4) (hd : d < 10) {n fl : Int32} (hn : n = -1 ∨ ∃ m, m ≤ 40 ∧ n = nI m) : Rel V ad kn vc Ls T vs lf (mkU U vs i d n fl) sz vs := by
  have h9 := h.i9' (i := i) (d := d) (fl := fl) hn
  have hB := h.mbd' hi hd (n := n) (fl := fl)
  have h0 := h
  obtain ⟨rv, rk, rs, ri, rr, rl, rb⟩ := h
  obtain ⟨i3, i4, i5, i6, i7, i8, i9⟩ := ri
  have old := fun w (hw : w < vs) => mkU_old (U := U) (s := i) (d := d) (n := n) (fl := fl) hw
  have st : ∀ s k v, s < 4 → k < 40 → uS U (40 * s + k) = v + 1 → v < vs := fun s k v hs hk q => ((rs s hs).2.2 k hk v q).1
  refine ⟨fun v hv => ?_, rk, fun s hs => ?_, ⟨fun v hv hne j hj => ?_, i4, fun v hv hne j hj => ?_, fun s k v hs hk hq j hj => ?_, fun v w hv hw => ?_, fun v w hv hw => ?_, h9⟩, rr, rl, hB⟩
  · obtain ⟨a1, a2, a3, a4, a5, a6, a7⟩ := rv v hv
    obtain ⟨o1, o2, o3, o4, o5⟩ := old v hv
    exact ⟨by rw [o1]; exact a1, by rw [o3]; exact a2, by rw [o4]; exact a3, fun j hj => ⟨(a4 j hj).1, by rw [o5 j hj]; exact (a4 j hj).2⟩, a5, a6, a7⟩
  · obtain ⟨r1, r2, r3⟩ := rs s hs
    refine ⟨r1.imp_of_mem (fun {a b} ha hb hab => ?_), r2, fun k hk v hv => ?_⟩
    · unfold kyU
      rw [(old a (h0.inS hs ha)).1, (old b (h0.inS hs hb)).1]; exact hab
    · have z := r3 k hk v hv
      rw [(old v z.1).1, (old v z.1).2.1]; exact z
  · rw [(old v hv).1]; exact i3 v hv hne j hj
  · rw [(old v hv).1, (old v hv).2.1]; exact i5 v hv hne j hj
  · rw [(old v (st s k v hs hk hq)).1]; exact i6 s k v hs hk hq j hj
  · rw [(old v hv).1, (old v hv).2.1, (old w hw).1, (old w hw).2.1]; exact i7 v w hv hw
  · rw [(old v hv).1, (old w hw).1]; exact i8 v w hv hw
theorem vNew_ne {V : gV} {x d q y : Nat} {n fl : Int32} {v : Nat → Int32} (h : y ≠ x) : vDoc (vNew V x d n fl q v) y = vDoc V y ∧ vLen (vNew V x d n fl q v) y = vLen V y ∧ vFil (vNew V x d n fl q v) y = vFil V y ∧ vVec (vNew V x d n fl q v) y = vVec V y := ⟨va_up_ne _ _ h, va_up_ne _ _ h, va_up_ne _ _ h, va_up_ne _ _ h⟩
theorem vNew_at {V : gV} {x d q : Nat} {n fl : Int32} {v : Nat → Int32} : vDoc (vNew V x d n fl q v) x = d ∧ vLen (vNew V x d n fl q v) x = n ∧ vFil (vNew V x d n fl q v) x = fl ∧ vVec (vNew V x d n fl q v) x = v := ⟨va_up_self _ _ _, va_up_self _ _ _, va_up_self _ _ _, va_up_self _ _ _⟩
/-- a version is added; what it knows is not yet known -/
theorem Rel.add (h : Rel V ad kn vc Ls T vs lf U sz vs) {i d : Nat} (hi : i < 4) (hd : d < 10) {n fl : Int32} (hn : n = -1 ∨ ∃ m, m ≤ 40 ∧ n = nI m) {x q sz' : Nat} (hx : sz ≤ x) (hx2 : x < sz') (h200 : kn (ownP i d + i) < 200) : ∃ vc', vc' vs = (fun j => kn (ownP i d + j) + if j = i then 1 else 0) ∧ Rel (vNew V x d n fl q (nwV (T.2.1 i) i d)) (va_up ad vs x) kn vc' Ls T (vs + 1) lf (mkU U vs i d n fl) sz' vs := by
  have h9 := h.i9' (i := i) (d := d) (fl := fl) hn
  have hB := h.mbd' hi hd (n := n) (fl := fl)
  have h0 := h
  obtain ⟨rv, rk, rs, ri, rr, rl, rb⟩ := h
  obtain ⟨i3, i4, i5, i6, i7, i8, i9⟩ := ri
  have old := fun w (hw : w < vs) => mkU_old (U := U) (s := i) (d := d) (n := n) (fl := fl) hw
  obtain ⟨u1, u2, u3, u4, u5, u6, u7, u8, u9⟩ := mkU_at U vs i d n fl
  have nD : uD (mkU U vs i d n fl) vs = d := by rw [u1, va_up_self]
  have nK : uK (mkU U vs i d n fl) vs = i := by rw [u2, va_up_self]
  have st : ∀ s k v, s < 4 → k < 40 → uS U (40 * s + k) = v + 1 → v < vs := fun s k v hs hk q => ((rs s hs).2.2 k hk v q).1
  obtain ⟨N, hN⟩ : ∃ N : Nat → Nat, N = fun j => kn (ownP i d + j) + if j = i then 1 else 0 := ⟨_, rfl⟩
  have hNj : ∀ j, N j = kn (ownP i d + j) + if j = i then 1 else 0 := fun j => by rw [hN]
  have hvo : ∀ w, w < vs → va_up vc vs N w = vc w := fun w hw => va_up_ne _ _ (by omega)
  have hao : ∀ w, w < vs → va_up ad vs x w = ad w := fun w hw => va_up_ne _ _ (by omega)
  have hadx : ∀ w, w < vs → ad w ≠ x := fun w hw => by have := (rv w hw).2.2.2.2.2.1; omega
  refine ⟨va_up vc vs N, by rw [va_up_self, hN], fun v hv => ?_, rk, fun s hs => ?_, ⟨fun v hv hne j hj => ?_, i4, fun v hv hne j hj => ?_, fun s k v hs hk hq j hj => ?_, fun v w hv hw => ?_, fun v w hv hw => ?_, h9⟩, ⟨fun j hj => ?_, fun c hc => ?_⟩, rl, hB⟩
  · by_cases hvv : v = vs
    · subst hvv
      obtain ⟨e1, e2, e3, e4⟩ := vNew_at (V := V) (x := x) (d := d) (q := q) (n := n) (fl := fl) (v := nwV (T.2.1 i) i d)
      rw [va_up_self, va_up_self, e1, e2, e3, e4, nD, u3, u4, upd_at, if_pos rfl, upd_at, if_pos rfl]
      refine ⟨rfl, rfl, rfl, fun j hj => ?_, fun j hj => ?_, hx2, fun w hw hq => ?_⟩
      · have k1 := rk.1 (ownP i d + j) (by unfold ownP; omega)
        have cpy : va_cpy (T.2.1 i) (fun _ => 0) ((i * 10 + d) * 4) 0 4 j = nI (kn (ownP i d + j)) := by
          rw [va_cpy, if_pos (by omega), Nat.sub_zero, rk.2 i _ (by omega) (by omega), show 160 * i + ((i * 10 + d) * 4 + j) = ownP i d + j by unfold ownP; omega]
          exact k1.1
        constructor
        · unfold nwV
          rw [upd_at, hNj]
          by_cases q1 : j = i
          · rw [if_pos q1, if_pos q1]
            have cpy2 := cpy
            rw [q1] at cpy2 ⊢
            rw [cpy2, n_s]
          · rw [if_neg q1, if_neg q1, cpy]; rfl
        · unfold mVc
          rw [u5, mkV_at 4 (by omega), if_pos (by omega), Nat.add_sub_cancel_left, hNj]
          rw [show 160 * i + 40 * i + 4 * d + j = ownP i d + j from rfl, k1.1]
          by_cases q1 : j = i
          · rw [if_pos q1, if_pos q1, n_s]
          · rw [if_neg q1, if_neg q1]; rw [n_lit 0, nI_add]
      · have k1 := rk.1 (ownP i d + j) (by unfold ownP; omega)
        rw [hNj]
        by_cases q1 : j = i
        · rw [if_pos q1, q1]; omega
        · rw [if_neg q1]; omega
      · by_cases hww : w = v
        · exact hww.symm
        · exact absurd (by rw [hq, va_up_ne _ _ hww]) (hadx w (by omega))
    · have hv' : v < vs := by omega
      obtain ⟨a1, a2, a3, a4, a5, a6, a7⟩ := rv v hv'
      obtain ⟨o1, o2, o3, o4, o5⟩ := old v hv'
      obtain ⟨e1, e2, e3, e4⟩ := vNew_ne (V := V) (x := x) (d := d) (q := q) (n := n) (fl := fl) (v := nwV (T.2.1 i) i d) (hadx v hv')
      rw [hao v hv', hvo v hv', e1, e2, e3, e4, o1, o3, o4]
      refine ⟨a1, a2, a3, fun j hj => ⟨(a4 j hj).1, by rw [o5 j hj]; exact (a4 j hj).2⟩, a5, by omega, fun w hw hq => ?_⟩
      by_cases hww : w = vs
      · subst hww; rw [va_up_self] at hq; exact absurd hq (hadx v hv')
      · rw [hao w (by omega)] at hq; exact a7 w (by omega) hq
  · obtain ⟨r1, r2, r3⟩ := rs s hs
    refine ⟨r1.imp_of_mem (fun {a b} ha hb hab => ?_), r2, fun k hk v hv => ?_⟩
    · unfold kyU
      rw [(old a (h0.inS hs ha)).1, (old b (h0.inS hs hb)).1, hvo a (h0.inS hs ha), hvo b (h0.inS hs hb)]; exact hab
    · have z := r3 k hk v hv
      rw [(old v z.1).1, (old v z.1).2.1]; exact ⟨by omega, z.2⟩
  · have hv' : v < vs := by omega
    rw [(old v hv').1, hvo v hv']; exact i3 v hv' hne j hj
  · have hv' : v < vs := by omega
    rw [(old v hv').1, (old v hv').2.1, hvo v hv']; exact i5 v hv' hne j hj
  · have hv' := st s k v hs hk hq
    rw [(old v hv').1, hvo v hv']; exact i6 s k v hs hk hq j hj
  · by_cases hvv : v = vs
    · subst hvv
      by_cases hww : w = v
      · subst hww; intro _ _ _ j hj; exact Nat.le_refl _
      · have hw' : w < v := by omega
        rw [nD, nK, (old w hw').1, (old w hw').2.1, va_up_self, hvo w hw', hNj, if_pos rfl]
        intro q1 q2 q3
        have z := i3 w hw' (by omega) i hi
        rw [← q1] at z
        omega
    · have hv' : v < vs := by omega
      by_cases hww : w = vs
      · subst hww
        rw [nD, nK, (old v hv').1, (old v hv').2.1, va_up_self, hvo v hv']
        intro q1 q2 _ j hj
        have z := i5 v hv' (by omega) j hj
        rw [q1, q2] at z
        rw [hNj]; omega
      · have hw' : w < vs := by omega
        rw [(old v hv').1, (old v hv').2.1, (old w hw').1, (old w hw').2.1, hvo v hv', hvo w hw']; exact i7 v w hv' hw'
  · by_cases hvv : v = vs
    · subst hvv
      by_cases hww : w = v
      · intro _ _; exact hww.symm
      · have hw' : w < v := by omega
        rw [nD, (old w hw').1, va_up_self, hvo w hw']
        intro q1 q2
        exfalso
        have z := i3 w hw' (by omega) i hi
        have y := q2 i hi
        rw [hNj, if_pos rfl] at y
        rw [← q1] at z
        omega
    · have hv' : v < vs := by omega
      by_cases hww : w = vs
      · subst hww
        rw [nD, (old v hv').1, va_up_self, hvo v hv']
        intro q1 q2
        exfalso
        have z := i3 v hv' (by omega) i hi
        have y := q2 i hi
        rw [hNj, if_pos rfl] at y
        rw [q1] at z
        omega
      · have hw' : w < vs := by omega
        rw [(old v hv').1, (old w hw').1, hvo v hv', hvo w hw']; exact i8 v w hv' hw'
  · rw [rr.1 j hj]
    refine List.map_congr_left (fun v hv => ?_)
    have hv' : v < vs := by
      by_cases q4 : j < 4
      · exact h0.inS q4 hv
      · exact h0.inR (c := j - 4) (by omega) (by rw [show 4 + (j - 4) = j by omega]; exact hv)
    rw [hao v hv']
  · obtain ⟨c1, c2⟩ := rr.2 c hc
    exact ⟨c1, fun k hk => Nat.lt_succ_of_lt (c2 k hk)⟩
/-- a version is made and comes to stand -/
theorem Rel.make (h : Rel V ad kn vc Ls T vs lf U sz vs) (hvs : vs + 1 ≤ 4100) {i d : Nat} (hi : i < 4) (hd : d < 10) {n fl : Int32} (hn : n = -1 ∨ ∃ m, m ≤ 40 ∧ n = nI m) {x q sz' : Nat} (hx : sz ≤ x) (hx2 : x < sz') (h200 : kn (ownP i d + i) < 200) : bwL (vNew V x d n fl q (nwV (T.2.1 i) i d)) x (T.1 i) = mHr (mkU U vs i d n fl) i vs 4 ∧ ∃ ad' kn' vc' Ls', Rel (vNew V x d n fl q (nwV (T.2.1 i) i d)) ad' kn' vc' Ls' (va_up T.1 i (tkL (vNew V x d n fl q (nwV (T.2.1 i) i d)) x (T.1 i)), va_up T.2.1 i (jnV (T.2.1 i) ((i * 10 + d) * 4) (nwV (T.2.1 i) i d) 4), T.2.2) (vs + 1) lf (csU (mkU U vs i d n fl) i vs) sz' (vs + 1) := by
  obtain ⟨vc', hvc, h1⟩ := h.add hi hd hn (fl := fl) (q := q) hx hx2 h200
  have hax : va_up ad vs x vs = x := va_up_self _ _ _
  have nD : uD (mkU U vs i d n fl) vs = d := by rw [(mkU_at U vs i d n fl).1, va_up_self]
  have nK : uK (mkU U vs i d n fl) vs = i := by rw [(mkU_at U vs i d n fl).2.1, va_up_self]
  have hr := h1.room300 hi (show vs < vs + 1 by omega)
  rw [hax] at hr
  refine ⟨hr, ?_⟩
  obtain ⟨kn', Ls', h2⟩ := h1.step hvs hi (show vs < vs + 1 by omega) (fun z => by
    have := z i hi
    rw [hvc, nD] at this
    simp only [if_true] at this
    omega) (fun j hj hji => by
    rw [hvc, nD]
    show kn (ownP i d + j) + (if j = i then 1 else 0) ≤ _
    rw [if_neg hji]
    exact h.2.2.2.1.2.1 i d j hi hd hj) (Or.inl nK) (Or.inl rfl)
  rw [hax] at h2
  obtain ⟨e1, e2, e3, e4⟩ := vNew_at (V := V) (x := x) (d := d) (q := q) (n := n) (fl := fl) (v := nwV (T.2.1 i) i d)
  rw [e1, e4] at h2
  exact ⟨_, kn', vc', Ls', h2⟩
end RelM
