/-! ===== after unloading: learning, dropping, the table, on both sides ===== -/
theorem drop_range {n m : Nat} {f : Nat → Nat} : ((List.range n).map f).drop m = (List.range (n - m)).map (fun k => f (k + m)) := by
  refine List.ext_getElem (by simp) (fun i h1 h2 => ?_)
  simp [Nat.add_comm]
theorem lnN_at {U : gU} {c s : Nat} (hs : s < 4) : ∀ o, o ≤ 4 → ∀ t, lnN U c s o t = if 160 * s ≤ t ∧ t < 160 * s + 40 * o ∧ ¬ (160 * s + 40 * s ≤ t ∧ t < 160 * s + 40 * s + 40) then mxI (uN U t) (uN U (t - 160 * s + 160 * (4 + c))) else uN U t
  | 0, _, t => by rw [if_neg (by omega)]; rfl
  | o + 1, ho, t => by
    have ih := lnN_at (U := U) (c := c) hs o (by omega)
    rw [lnN]
    by_cases q : o = s
    · subst q
      rw [if_pos rfl, ih]
      by_cases q2 : 160 * o ≤ t ∧ t < 160 * o + 40 * o ∧ ¬ (160 * o + 40 * o ≤ t ∧ t < 160 * o + 40 * o + 40)
      · rw [if_pos q2, if_pos (by omega)]
      · rw [if_neg q2, if_neg (by omega)]
    · rw [if_neg q]
      unfold jnV
      by_cases q2 : 160 * s + 40 * o ≤ t ∧ t < 160 * s + 40 * o + 40
      · rw [if_pos q2, ih t, if_neg (by omega)]
        show mxI (uN U t) (lnN U c s o (160 * (4 + c) + 40 * o + (t - (160 * s + 40 * o)))) = _
        rw [ih (160 * (4 + c) + 40 * o + (t - (160 * s + 40 * o))), if_neg (by omega), if_pos (by omega), show 160 * (4 + c) + 40 * o + (t - (160 * s + 40 * o)) = t - 160 * s + 160 * (4 + c) by omega]
      · rw [if_neg q2, ih t]
        by_cases q3 : 160 * s ≤ t ∧ t < 160 * s + 40 * o ∧ ¬ (160 * s + 40 * s ≤ t ∧ t < 160 * s + 40 * s + 40)
        · rw [if_pos q3, if_pos (by omega)]
        · rw [if_neg q3, if_neg (by omega)]
theorem lrn_at {f f2 : Nat → Int32} {s : Nat} (hs : s < 4) : ∀ o, o ≤ 4 → ∀ i, lrn f f2 s o i = if i < 40 * o ∧ ¬ (40 * s ≤ i ∧ i < 40 * s + 40) then mxI (f i) (f2 i) else f i
  | 0, _, i => by rw [if_neg (by omega)]; rfl
  | o + 1, ho, i => by
    have ih := lrn_at (f := f) (f2 := f2) hs o (by omega)
    rw [lrn]
    by_cases q : o = s
    · subst q
      rw [if_pos rfl, ih]
      by_cases q2 : i < 40 * o ∧ ¬ (40 * o ≤ i ∧ i < 40 * o + 40)
      · rw [if_pos q2, if_pos (by omega)]
      · rw [if_neg q2, if_neg (by omega)]
    · rw [if_neg q]
      unfold jnV
      by_cases q2 : o * 40 ≤ i ∧ i < o * 40 + 40
      · rw [if_pos q2, ih i, if_neg (by omega), if_pos (by omega)]
        show mxI (f i) (f2 (o * 40 + (i - o * 40))) = _
        rw [show o * 40 + (i - o * 40) = i by omega]
      · rw [if_neg q2, ih i]
        by_cases q3 : i < 40 * o ∧ ¬ (40 * s ≤ i ∧ i < 40 * s + 40)
        · rw [if_pos q3, if_pos (by omega)]
        · rw [if_neg q3, if_neg (by omega)]
theorem dmN_sp {U : gU} {s : Nat} : ∀ n i, dmN U s n i = if 40 * s ≤ i ∧ i < 40 * s + n ∧ mGn U s (i - 40 * s) = true then 0 else uS U i
  | 0, i => by rw [if_neg (by omega)]; rfl
  | n + 1, i => by
    have ih := dmN_sp (U := U) (s := s) n i
    rw [dmN]
    by_cases q : i = 40 * s + n
    · subst q
      rw [if_neg (by omega)] at ih
      by_cases q2 : mGn U s n = true
      · rw [if_pos q2, va_up_self, if_pos ⟨by omega, by omega, by rw [Nat.add_sub_cancel_left]; exact q2⟩]
      · rw [if_neg q2, ih, if_neg (fun z => q2 (by have := z.2.2; rw [Nat.add_sub_cancel_left] at this; exact this))]
    · have e : (40 * s ≤ i ∧ i < 40 * s + (n + 1) ∧ mGn U s (i - 40 * s) = true) ↔ (40 * s ≤ i ∧ i < 40 * s + n ∧ mGn U s (i - 40 * s) = true) := ⟨fun ⟨a, b, c⟩ => ⟨a, by omega, c⟩, fun ⟨a, b, c⟩ => ⟨a, by omega, c⟩⟩
      have ih' : (if mGn U s n = true then va_up (dmN U s n) (40 * s + n) 0 else dmN U s n) i = dmN U s n i := by
        split
        · exact va_up_ne _ _ q
        · rfl
      rw [ih', ih]
      by_cases q2 : 40 * s ≤ i ∧ i < 40 * s + n ∧ mGn U s (i - 40 * s) = true
      · rw [if_pos q2, if_pos (e.mpr q2)]
      · rw [if_neg q2, if_neg (fun z => q2 (e.mp z))]
theorem cpN_at {N : Nat → Int32} {c s : Nat} (hs : s < 4) : ∀ n, n ≤ 160 → ∀ i, cpN N c s n i = if 160 * (4 + c) ≤ i ∧ i < 160 * (4 + c) + n then N (160 * s + (i - 160 * (4 + c))) else N i
  | 0, _, i => by rw [if_neg (by omega)]; rfl
  | n + 1, hn, i => by
    have ih := cpN_at (N := N) (c := c) hs n (by omega)
    rw [cpN, upd_at]
    by_cases q : i = 160 * (4 + c) + n
    · subst q; rw [if_pos rfl, ih, if_neg (by omega), if_pos (by omega), Nat.add_sub_cancel_left]
    · rw [if_neg q, ih]
      by_cases q2 : 160 * (4 + c) ≤ i ∧ i < 160 * (4 + c) + n
      · rw [if_pos q2, if_pos (by omega)]
      · rw [if_neg q2, if_neg (by omega)]
section RelX
variable {V : gV} {ad kn : Nat → Nat} {vc : Nat → Nat → Nat} {Ls : Nat → List Nat} {T : gT} {vs : Nat} {lf : Int32} {U : gU} {sz e : Nat}
/-- the tables change where no station speaks of itself -/
theorem Rel.tab2 (h : Rel V ad kn vc Ls T vs lf U sz e) {N' : Nat → Int32} {F' : Nat → Nat → Int32} (ho : ∀ s d j, s < 4 → d < 10 → j < 4 → N' (ownP s d + j) = uN U (ownP s d + j)) (hb : ∀ t, t < 1120 → ∃ n, n ≤ 200 ∧ N' t = nI n) (hF : ∀ t i, t < 7 → i < 160 → F' t i = N' (160 * t + i)) : ∃ kn', Rel V ad kn' vc Ls (T.1, F', T.2.2) vs lf (tN U N') sz e := by
  obtain ⟨rv, rk, rs, ri, rr, rl, rb⟩ := h
  obtain ⟨i3, i4, i5, i6, i7, i8, i9⟩ := ri
  have own : ∀ s d j, s < 4 → d < 10 → j < 4 → (N' (ownP s d + j)).toNatClampNeg = kn (ownP s d + j) := by
    intro s d j hs hd hj
    have k := rk.1 (ownP s d + j) (by unfold ownP; omega)
    rw [ho s d j hs hd hj, k.1, nI_clamp (by omega)]
  have hdv : ∀ v, uD U v < 10 := rb.1
  refine ⟨fun t => (N' t).toNatClampNeg, rv, ⟨fun t ht => ?_, hF⟩, rs, ⟨fun v hv hn j hj => ?_, fun s d j hs hd hj => ?_, fun v hv hn j hj => ?_, fun s k v hs hk hq j hj => ?_, i7, i8, i9⟩, rr, rl, rb⟩
  · obtain ⟨n, hn, e'⟩ := hb t ht
    show N' t = nI ((N' t).toNatClampNeg) ∧ (N' t).toNatClampNeg ≤ 200
    rw [e', nI_clamp (by omega)]; exact ⟨rfl, hn⟩
  · show vc v j ≤ (N' (ownP j (uD U v) + j)).toNatClampNeg
    rw [own j _ j hj (hdv v) hj]; exact i3 v hv hn j hj
  · show (N' (ownP s d + j)).toNatClampNeg ≤ (N' (ownP j d + j)).toNatClampNeg
    rw [own s d j hs hd hj, own j d j hj hd hj]; exact i4 s d j hs hd hj
  · show vc v j ≤ (N' (ownP (uK U v) (uD U v) + j)).toNatClampNeg
    rw [own _ _ j (rb.2.1 v) (hdv v) hj]; exact i5 v hv hn j hj
  · show vc v j ≤ (N' (ownP s (uD U v) + j)).toNatClampNeg
    rw [own s _ j hs (hdv v) hj]; exact i6 s k v hs hk hq j hj
theorem Rel.ulF (h : Rel V ad kn vc Ls T vs lf U sz vs) (hvs : vs ≤ 4100) {c s mv : Nat} (hc : c < 3) (hs : s < 4) (hmv : mv ≤ uM U c) : ∃ kn' Ls', Rel V ad kn' vc Ls' (ulN V s c mv T) vs (mUl U c s lf mv).2 (ulU U c s lf mv) sz vs := by
  obtain ⟨kn1, Ls1, h1⟩ := h.unl hvs hc hs mv hmv
  have kj := mUl_keep (U := U) (c := c) (s := s) (lf := lf) mv
  obtain ⟨b1, b2, b3, b4, b5⟩ := h.2.2.2.2.2.2
  have hin := (h.2.2.2.2.1.2 c hc).2
  have hb5 := b5 c
  obtain ⟨Ls2, h2⟩ := h1.rows hc (M' := va_up (uM U) c (uM U c - mv)) (R' := shN (uR U) c mv (uM U c - mv)) (fun q hq => by rw [va_up_ne _ _ hq, kj.2.1]) (by rw [va_up_self]; omega) (fun q k hq hqc hk => by rw [kj.2.1] at hk; have := b5 q; rw [kj.1, shN_at, if_neg (by omega)]) (fun k hk => by rw [va_up_self] at hk; rw [shN_at, if_pos (by omega), Nat.add_assoc]; exact hin _ (by omega)) (shN_lt b4 _) (L' := (T.1 (4 + c)).drop mv) (by
    rw [va_up_self, h.row hc, drop_range]
    refine List.map_congr_left (fun k hk => ?_)
    have := List.mem_range.mp hk
    rw [shN_at, if_pos (by omega), Nat.add_assoc])
  refine ⟨kn1, Ls2, ?_⟩
  rw [show va_up (va_up (ulN V s c mv T).1 (4 + c) (T.1 (4 + c))) (4 + c) ((T.1 (4 + c)).drop mv) = (ulN V s c mv T).1 from by rw [up_up, ← ulN_row (V := V) (c := c) hs, up_id]] at h2
  exact h2
theorem Rel.learn (h : Rel V ad kn vc Ls T vs lf U sz e) {c s : Nat} (hc : c < 3) (hs : s < 4) : ∃ kn', Rel V ad kn' vc Ls (T.1, va_up T.2.1 s (gtF T s c), T.2.2) vs lf (tN U (lnN U c s 4)) sz e := by
  have hK := h.2.1
  refine h.tab2 (fun t d j ht hd hj => ?_) (fun t ht => ?_) (fun t i ht hi => ?_)
  · rw [lnN_at hs 4 (by omega), if_neg (by unfold ownP; omega)]
  · rw [lnN_at hs 4 (by omega)]
    by_cases q : 160 * s ≤ t ∧ t < 160 * s + 40 * 4 ∧ ¬ (160 * s + 40 * s ≤ t ∧ t < 160 * s + 40 * s + 40)
    · rw [if_pos q]
      have k1 := hK.1 t ht
      have k2 := hK.1 (t - 160 * s + 160 * (4 + c)) (by omega)
      rw [k1.1, k2.1, mxI_n (by omega) (by omega)]
      exact ⟨_, by omega, rfl⟩
    · rw [if_neg q]
      exact ⟨kn t, (hK.1 t ht).2, (hK.1 t ht).1⟩
  · rw [lnN_at hs 4 (by omega)]
    by_cases q : t = s
    · subst q
      rw [va_up_self, gtF, lrn_at hs 4 (by omega)]
      by_cases q2 : i < 40 * 4 ∧ ¬ (40 * t ≤ i ∧ i < 40 * t + 40)
      · rw [if_pos q2, if_pos (by omega), hK.2 t i ht hi, hK.2 (4 + c) i (by omega) hi, show 160 * t + i - 160 * t + 160 * (4 + c) = 160 * (4 + c) + i by omega]
      · rw [if_neg q2, if_neg (by omega)]; exact hK.2 t i ht hi
    · rw [va_up_ne _ _ q, if_neg (by omega)]; exact hK.2 t i ht hi
theorem mAh_4 {U : gU} {s v p : Nat} : mAh U s v p 4 = (cov4 (mKn U (160 * s + 40 * 0 + 4 * p)) (mVc U v) && (cov4 (mKn U (160 * s + 40 * 1 + 4 * p)) (mVc U v) && (cov4 (mKn U (160 * s + 40 * 2 + 4 * p)) (mVc U v) && cov4 (mKn U (160 * s + 40 * 3 + 4 * p)) (mVc U v)))) := by
  show ((((true && _) && _) && _) && _) = _
  rw [Bool.true_and, Bool.and_assoc, Bool.and_assoc]
theorem Rel.drop (h : Rel V ad kn vc Ls T vs lf U sz e) {s : Nat} (hs : s < 4) : ∃ Ls', Rel V ad kn vc Ls' (va_up T.1 s (dmL V (T.2.1 s) (T.1 s)), T.2.1, T.2.2) vs lf (tS U (dmN U s 40)) sz e := by
  have h0 := h
  obtain ⟨rv, rk, rs, ri, rr, rl, rb⟩ := h
  obtain ⟨i3, i4, i5, i6, i7, i8, i9⟩ := ri
  obtain ⟨r1, r2, r3⟩ := rs s hs
  obtain ⟨g, hg⟩ : ∃ g : Nat → Bool, g = fun v => !(vMk V (ad v) && (tCv V (T.2.1 s) 0 (ad v) && (tCv V (T.2.1 s) 1 (ad v) && (tCv V (T.2.1 s) 2 (ad v) && tCv V (T.2.1 s) 3 (ad v))))) := ⟨_, rfl⟩
  have hgn : ∀ k v, k < 40 → uS U (40 * s + k) = v + 1 → mGn U s k = !g v := by
    intro k v hk hq
    obtain ⟨w1, w2, w3⟩ := r3 k hk v hq
    rw [hg]
    show _ = !!_
    rw [Bool.not_not, mGn, hq, Nat.add_sub_cancel, decide_eq_true (show 0 < v + 1 by omega), Bool.true_and, h0.mkV w1, mAh_4, ← w2, (h0.tcv w1 (show s < 7 by omega) (show 0 < 4 by omega)).1, (h0.tcv w1 (show s < 7 by omega) (show 1 < 4 by omega)).1, (h0.tcv w1 (show s < 7 by omega) (show 2 < 4 by omega)).1, (h0.tcv w1 (show s < 7 by omega) (show 3 < 4 by omega)).1]
  have hS : ∀ k w, k < 40 → (dmN U s 40 (40 * s + k) = w + 1 ↔ uS U (40 * s + k) = w + 1 ∧ g w = true) := by
    intro k w hk
    rw [dmN_sp]
    by_cases q : uS U (40 * s + k) = w + 1
    · have z := hgn k w hk q
      cases hgw : g w
      · rw [hgw] at z
        rw [if_pos ⟨by omega, by omega, by rw [Nat.add_sub_cancel_left]; exact z⟩]
        constructor
        · intro y; omega
        · rintro ⟨-, y⟩; cases y
      · rw [hgw] at z
        rw [if_neg (fun y => by have := y.2.2; rw [Nat.add_sub_cancel_left, z] at this; cases this)]
        exact ⟨fun y => ⟨y, rfl⟩, fun y => y.1⟩
    · constructor
      · intro z
        split at z
        · omega
        · exact absurd z q
      · rintro ⟨z, -⟩; exact absurd z q
  have hSt : ∀ t k, t < 4 → t ≠ s → k < 40 → dmN U s 40 (40 * t + k) = uS U (40 * t + k) := by
    intro t k ht hts hk
    rw [dmN_sp, if_neg (by omega)]
  refine ⟨va_up Ls s ((Ls s).filter g), rv, rk, ?_, ⟨i3, i4, i5, ?_, i7, i8, i9⟩, ⟨?_, ?_⟩, rl, ?_⟩
  · intro t ht
    by_cases q : t = s
    · subst q
      rw [va_up_self]
      refine ⟨r1.filter _, fun w => ?_, fun k hk w hw => ?_⟩
      · rw [List.mem_filter, r2]
        constructor
        · rintro ⟨⟨k, hk, z⟩, y⟩; exact ⟨k, hk, (hS k w hk).mpr ⟨z, y⟩⟩
        · rintro ⟨k, hk, z⟩
          obtain ⟨z1, z2⟩ := (hS k w hk).mp z
          exact ⟨⟨k, hk, z1⟩, z2⟩
      · exact r3 k hk w ((hS k w hk).mp hw).1
    · rw [va_up_ne _ _ q]
      refine ⟨(rs t ht).1, fun w => ?_, fun k hk w hw => ?_⟩
      · rw [(rs t ht).2.1 w]
        exact ⟨fun ⟨k, x, y⟩ => ⟨k, x, (hSt t k ht q x).trans y⟩, fun ⟨k, x, y⟩ => ⟨k, x, (hSt t k ht q x).symm.trans y⟩⟩
      · exact (rs t ht).2.2 k hk w ((hSt t k ht q hk).symm.trans hw)
  · intro t k w ht hk hw j hj
    by_cases q : t = s
    · subst q; exact i6 t k w ht hk ((hS k w hk).mp hw).1 j hj
    · exact i6 t k w ht hk ((hSt t k ht q hk).symm.trans hw) j hj
  · intro i hi
    show va_up T.1 s (dmL V (T.2.1 s) (T.1 s)) i = _
    by_cases q : i = s
    · subst q
      rw [va_up_self, va_up_self, dmL, rr.1 i hi, List.filter_map, hg]
      rfl
    · rw [va_up_ne _ _ q, va_up_ne _ _ q]; exact rr.1 i hi
  · intro c hc
    rw [va_up_ne _ _ (show 4 + c ≠ s by omega)]
    exact rr.2 c hc
  · obtain ⟨b1, b2, b3, b4, b5⟩ := rb
    exact ⟨b1, b2, dmN_le b3 40, b4, b5⟩
/-- until loading -/
theorem Rel.vt (h : Rel V ad kn vc Ls T vs lf U sz e) {c s : Nat} (hc : c < 3) (hs : s < 4) : ∃ kn' Ls', Rel V ad kn' vc Ls' (va_up T.1 s (dmL V (gtF T s c) (T.1 s)), va_up (va_up T.2.1 s (gtF T s c)) (4 + c) (va_cpy (gtF T s c) (T.2.1 (4 + c)) 0 0 160), T.2.2) vs lf (vt4 U c s) sz e := by
  obtain ⟨kn1, h1⟩ := h.learn hc hs
  obtain ⟨Ls2, h2⟩ := h1.drop hs
  rw [show (T.1, va_up T.2.1 s (gtF T s c), T.2.2).2.1 s = gtF T s c from va_up_self _ _ _] at h2
  have hK := h2.2.1
  have e1 : ∀ i, i < 160 → gtF T s c i = lnN U c s 4 (160 * s + i) := by
    intro i hi
    have z := hK.2 s i (by omega) hi
    rw [show (va_up (T.1, va_up T.2.1 s (gtF T s c), T.2.2).1 s (dmL V (gtF T s c) ((T.1, va_up T.2.1 s (gtF T s c), T.2.2).1 s)), (T.1, va_up T.2.1 s (gtF T s c), T.2.2).2.1, (T.1, va_up T.2.1 s (gtF T s c), T.2.2).2.2).2.1 s = gtF T s c from va_up_self _ _ _] at z
    exact z
  obtain ⟨kn3, h3⟩ := h2.tabl hc (N' := cpN (lnN U c s 4) c s 160) (f' := va_cpy (gtF T s c) (T.2.1 (4 + c)) 0 0 160) (fun t ht hn => by rw [cpN_at hs 160 (by omega), if_neg hn]; rfl) (fun i hi => by
    rw [cpN_at hs 160 (by omega), if_pos (by omega), Nat.add_sub_cancel_left, ← e1 i hi, va_cpy, if_pos (by omega), Nat.sub_zero, Nat.zero_add]) (fun i hi => ⟨kn1 (160 * s + i), (hK.1 _ (by omega)).2, by
    rw [cpN_at hs 160 (by omega), if_pos (by omega), Nat.add_sub_cancel_left]
    exact (hK.1 _ (by omega)).1⟩)
  exact ⟨kn3, Ls2, h3⟩
end RelX
