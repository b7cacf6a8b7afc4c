/-! ===== unloading, rows, losing and copying, on both sides ===== -/
theorem up_cm {α : Type} (f : Nat → α) {i j : Nat} (x y : α) (hij : i ≠ j) : va_up (va_up f i x) j y = va_up (va_up f j y) i x := by
  funext k
  by_cases h1 : k = i
  · subst h1; rw [va_up_ne _ _ hij, va_up_self, va_up_self]
  · by_cases h2 : k = j
    · subst h2; rw [va_up_self, va_up_ne _ _ h1, va_up_self]
    · rw [va_up_ne _ _ h2, va_up_ne _ _ h1, va_up_ne _ _ h1, va_up_ne _ _ h2]
theorem shN_at {R : Nat → Nat} {c mv : Nat} : ∀ n i, shN R c mv n i = if 20 * c ≤ i ∧ i < 20 * c + n then R (i + mv) else R i
  | 0, i => by rw [if_neg (by omega)]; rfl
  | n + 1, i => by
    have ih := shN_at (R := R) (c := c) (mv := mv) n i
    have ih2 := shN_at (R := R) (c := c) (mv := mv) n (20 * c + n + mv)
    rw [if_neg (by omega)] at ih2
    rw [shN]
    by_cases q : i = 20 * c + n
    · subst q; rw [va_up_self, ih2, if_pos (by omega)]
    · rw [va_up_ne _ _ q, ih]
      by_cases q2 : 20 * c ≤ i ∧ i < 20 * c + n
      · rw [if_pos q2, if_pos (by omega)]
      · rw [if_neg q2, if_neg (by omega)]
theorem cpR_at {R : Nat → Nat} {c e : Nat} (hce : c ≠ e) : ∀ n, n ≤ 20 → ∀ i, cpR R c e n i = if 20 * e ≤ i ∧ i < 20 * e + n then R (20 * c + (i - 20 * e)) else R i
  | 0, _, i => by rw [if_neg (by omega)]; rfl
  | n + 1, hn, i => by
    have ih := cpR_at (R := R) hce n (by omega)
    rw [cpR]
    by_cases q : i = 20 * e + n
    · subst q; rw [va_up_self, ih, if_neg (by omega), if_pos (by omega), Nat.add_sub_cancel_left]
    · rw [va_up_ne _ _ q, ih]
      by_cases q2 : 20 * e ≤ i ∧ i < 20 * e + n
      · rw [if_pos q2, if_pos (by omega)]
      · rw [if_neg q2, if_neg (by omega)]
theorem cpR_id {R : Nat → Nat} {c : Nat} : ∀ n, cpR R c c n = R
  | 0 => rfl
  | n + 1 => by rw [cpR, cpR_id n, up_id]
theorem upd_at (f : Nat → Int32) (k i : Nat) (x : Int32) : upd f k x i = if i = k then x else f i := rfl
theorem cpT_at {N : Nat → Int32} {c e : Nat} (hce : c ≠ e) : ∀ n, n ≤ 160 → ∀ i, cpT N c e n i = if 160 * (4 + e) ≤ i ∧ i < 160 * (4 + e) + n then N (160 * (4 + c) + (i - 160 * (4 + e))) else N i
  | 0, _, i => by rw [if_neg (by omega)]; rfl
  | n + 1, hn, i => by
    have ih := cpT_at (N := N) hce n (by omega)
    rw [cpT, upd_at]
    by_cases q : i = 160 * (4 + e) + n
    · subst q; rw [if_pos rfl, ih, if_neg (by omega), if_pos (by omega), Nat.add_sub_cancel_left]
    · rw [if_neg q, ih]
      by_cases q2 : 160 * (4 + e) ≤ i ∧ i < 160 * (4 + e) + n
      · rw [if_pos q2, if_pos (by omega)]
      · rw [if_neg q2, if_neg (by omega)]
theorem cpT_id {N : Nat → Int32} {c : Nat} : ∀ n, cpT N c c n = N
  | 0 => rfl
  | n + 1 => by rw [cpT, cpT_id n, upd_same]
theorem zrN_at {N : Nat → Int32} {c : Nat} : ∀ n i, zrN N c n i = if 160 * (4 + c) ≤ i ∧ i < 160 * (4 + c) + n then 0 else N i
  | 0, i => by rw [if_neg (by omega)]; rfl
  | n + 1, i => by
    have ih := zrN_at (N := N) (c := c) n i
    rw [zrN, upd_at]
    by_cases q : i = 160 * (4 + c) + n
    · rw [if_pos q, if_pos (by omega)]
    · rw [if_neg q, ih]
      by_cases q2 : 160 * (4 + c) ≤ i ∧ i < 160 * (4 + c) + n
      · rw [if_pos q2, if_pos (by omega)]
      · rw [if_neg q2, if_neg (by omega)]
section RelW
variable {V : gV} {ad kn : Nat → Nat} {vc : Nat → Nat → Nat} {Ls : Nat → List Nat} {T : gT} {vs : Nat} {lf : Int32} {U : gU} {sz e : Nat}
/-- a row becomes another -/
theorem Rel.rows (h : Rel V ad kn vc Ls T vs lf U sz e) {c : Nat} (hc : c < 3) {M' R' : Nat → Nat} (hM : ∀ q, q ≠ c → M' q = uM U q) (hMc : M' c ≤ 20) (hR : ∀ q k, q < 3 → q ≠ c → k < uM U q → R' (20 * q + k) = uR U (20 * q + k)) (hRc : ∀ k, k < M' c → R' (20 * c + k) < vs) (hRb : ∀ k, R' k < 4100) {L' : List Nat} (hL : L' = (List.range (M' c)).map (fun k => ad (R' (20 * c + k)))) : ∃ Ls', Rel V ad kn vc Ls' (va_up T.1 (4 + c) L', T.2.1, T.2.2) vs lf (tR (tM U M') R') sz e := by
  obtain ⟨rv, rk, rs, ri, rr, rl, rb⟩ := h
  refine ⟨va_up Ls (4 + c) ((List.range (M' c)).map (fun k => R' (20 * c + k))), rv, rk, ?_, ri, ⟨?_, ?_⟩, rl, ?_⟩
  · intro s hs
    rw [va_up_ne _ _ (show s ≠ 4 + c by omega)]
    exact rs s hs
  · intro i hi
    show va_up T.1 (4 + c) L' i = _
    by_cases q : i = 4 + c
    · subst q; rw [va_up_self, va_up_self, hL, List.map_map]; rfl
    · rw [va_up_ne _ _ q, va_up_ne _ _ q]; exact rr.1 i hi
  · intro q hq
    show va_up Ls (4 + c) _ (4 + q) = (List.range (M' q)).map (fun k => R' (20 * q + k)) ∧ ∀ k, k < M' q → R' (20 * q + k) < vs
    by_cases hqc : q = c
    · subst hqc; rw [va_up_self]; exact ⟨rfl, hRc⟩
    · rw [va_up_ne _ _ (show 4 + q ≠ 4 + c by omega), hM q hqc, (rr.2 q hq).1]
      refine ⟨?_, fun k hk => by rw [hR q k hq hqc hk]; exact (rr.2 q hq).2 k hk⟩
      refine List.map_congr_left (fun k hk => ?_)
      rw [hR q k hq hqc (List.mem_range.mp hk)]
  · obtain ⟨b1, b2, b3, b4, b5⟩ := rb
    refine ⟨b1, b2, b3, hRb, fun q => ?_⟩
    show M' q ≤ 20
    by_cases hqc : q = c
    · rw [hqc]; exact hMc
    · rw [hM q hqc]; exact b5 q
/-- a cartridge's table becomes another -/
theorem Rel.tabl (h : Rel V ad kn vc Ls T vs lf U sz e) {c : Nat} (hc : c < 3) {N' : Nat → Int32} {f' : Nat → Int32} (hN : ∀ t, t < 1120 → ¬ (160 * (4 + c) ≤ t ∧ t < 160 * (4 + c) + 160) → N' t = uN U t) (hf : ∀ i, i < 160 → f' i = N' (160 * (4 + c) + i)) (hb : ∀ i, i < 160 → ∃ n, n ≤ 200 ∧ N' (160 * (4 + c) + i) = nI n) : ∃ kn', Rel V ad kn' vc Ls (T.1, va_up T.2.1 (4 + c) f', T.2.2) vs lf (tN U N') sz e := by
  obtain ⟨rv, rk, rs, ri, rr, rl, rb⟩ := h
  obtain ⟨i3, i4, i5, i6, i7, i8, i9⟩ := ri
  have hkn : ∀ t, t < 1120 → (if 160 * (4 + c) ≤ t ∧ t < 160 * (4 + c) + 160 then (N' t).toNatClampNeg else kn t) ≤ 200 ∧ N' t = nI (if 160 * (4 + c) ≤ t ∧ t < 160 * (4 + c) + 160 then (N' t).toNatClampNeg else kn t) := by
    intro t ht
    by_cases q : 160 * (4 + c) ≤ t ∧ t < 160 * (4 + c) + 160
    · obtain ⟨n, hn, e'⟩ := hb (t - 160 * (4 + c)) (by omega)
      rw [show 160 * (4 + c) + (t - 160 * (4 + c)) = t by omega] at e'
      rw [if_pos q, e', nI_clamp (by omega)]
      exact ⟨hn, rfl⟩
    · rw [if_neg q, hN t ht q]; exact ⟨(rk.1 t ht).2, (rk.1 t ht).1⟩
  have own : ∀ s d j, s < 4 → d < 10 → j < 4 → (if 160 * (4 + c) ≤ ownP s d + j ∧ ownP s d + j < 160 * (4 + c) + 160 then (N' (ownP s d + j)).toNatClampNeg else kn (ownP s d + j)) = kn (ownP s d + j) := by
    intro s d j hs hd hj
    rw [if_neg (by unfold ownP; omega)]
  have hdv : ∀ v, uD U v < 10 := rb.1
  refine ⟨fun t => if 160 * (4 + c) ≤ t ∧ t < 160 * (4 + c) + 160 then (N' t).toNatClampNeg else kn t, rv, ⟨fun t ht => ⟨(hkn t ht).2, (hkn t ht).1⟩, fun t i ht hi => ?_⟩, rs, ⟨fun v hv hn j hj => ?_, fun s d j hs hd hj => ?_, fun v hv hn j hj => ?_, fun s k v hs hk hq j hj => ?_, i7, i8, i9⟩, rr, rl, rb⟩
  · show va_up T.2.1 (4 + c) f' t i = N' (160 * t + i)
    by_cases q : t = 4 + c
    · subst q; rw [va_up_self]; exact hf i hi
    · rw [va_up_ne _ _ q, hN _ (by omega) (by omega)]; exact rk.2 t i ht hi
  · show vc v j ≤ (if 160 * (4 + c) ≤ ownP j (uD U v) + j ∧ ownP j (uD U v) + j < 160 * (4 + c) + 160 then (N' (ownP j (uD U v) + j)).toNatClampNeg else kn (ownP j (uD U v) + j))
    rw [own j _ j hj (hdv v) hj]; exact i3 v hv hn j hj
  · show (if 160 * (4 + c) ≤ ownP s d + j ∧ ownP s d + j < 160 * (4 + c) + 160 then (N' (ownP s d + j)).toNatClampNeg else kn (ownP s d + j)) ≤ (if 160 * (4 + c) ≤ ownP j d + j ∧ ownP j d + j < 160 * (4 + c) + 160 then (N' (ownP j d + j)).toNatClampNeg else kn (ownP j d + j))
    rw [own s d j hs hd hj, own j d j hj hd hj]; exact i4 s d j hs hd hj
  · show vc v j ≤ (if 160 * (4 + c) ≤ ownP (uK U v) (uD U v) + j ∧ ownP (uK U v) (uD U v) + j < 160 * (4 + c) + 160 then (N' (ownP (uK U v) (uD U v) + j)).toNatClampNeg else kn (ownP (uK U v) (uD U v) + j))
    rw [own _ _ j (rb.2.1 v) (hdv v) hj]; exact i5 v hv hn j hj
  · show vc v j ≤ (if 160 * (4 + c) ≤ ownP s (uD U v) + j ∧ ownP s (uD U v) + j < 160 * (4 + c) + 160 then (N' (ownP s (uD U v) + j)).toNatClampNeg else kn (ownP s (uD U v) + j))
    rw [own s _ j hs (hdv v) hj]; exact i6 s k v hs hk hq j hj
theorem Rel.lose (h : Rel V ad kn vc Ls T vs lf U sz e) {c : Nat} (hc : c < 3) {f' : Nat → Int32} (hf : lLs f' (fun _ => 0)) : ∃ kn' Ls', Rel V ad kn' vc Ls' (va_up T.1 (4 + c) [], va_up T.2.1 (4 + c) f', T.2.2) vs lf (tN (tM U (va_up (uM U) c 0)) (zrN (uN U) c 160)) sz e := by
  have hb := h.2.2.2.2.2.2
  obtain ⟨Ls', h1⟩ := h.rows hc (M' := va_up (uM U) c 0) (R' := uR U) (fun q hq => va_up_ne _ _ hq) (by rw [va_up_self]; omega) (fun _ _ _ _ _ => rfl) (fun k hk => by rw [va_up_self] at hk; omega) hb.2.2.2.1 (L' := []) (by rw [va_up_self]; rfl)
  obtain ⟨kn', h2⟩ := h1.tabl hc (N' := zrN (uN U) c 160) (f' := f') (fun t ht hn => by rw [zrN_at, if_neg hn]; rfl) (fun i hi => by rw [zrN_at, if_pos (by omega)]; exact hf i hi) (fun i hi => ⟨0, by omega, by rw [zrN_at, if_pos (by omega)]; rfl⟩)
  exact ⟨kn', Ls', h2⟩
theorem Rel.copy (h : Rel V ad kn vc Ls T vs lf U sz e) {c d : Nat} (hc : c < 3) (hd : d < 3) {f' : Nat → Int32} (hf : lLs f' (T.2.1 (4 + c))) : ∃ kn' Ls', Rel V ad kn' vc Ls' (va_up T.1 (4 + d) (T.1 (4 + c)), va_up T.2.1 (4 + d) f', T.2.2) vs lf (tN (tR (tM U (va_up (uM U) d (uM U c))) (cpR (uR U) c d 20)) (cpT (uN U) c d 160)) sz e := by
  obtain ⟨b1, b2, b3, b4, b5⟩ := h.2.2.2.2.2.2
  have hrow := h.row hc
  have hR := h.2.2.2.2.1.2
  have hK := h.2.1
  by_cases hcd : c = d
  · subst hcd
    have e1 : tN (tR (tM U (va_up (uM U) c (uM U c))) (cpR (uR U) c c 20)) (cpT (uN U) c c 160) = U := by
      rw [up_id, cpR_id, cpT_id]; rfl
    rw [e1, up_id]
    obtain ⟨kn', h2⟩ := h.tabl hc (N' := uN U) (f' := f') (fun _ _ _ => rfl) (fun i hi => by rw [hf i hi]; exact hK.2 (4 + c) i (by omega) hi) (fun i hi => ⟨kn (160 * (4 + c) + i), (hK.1 _ (by omega)).2, (hK.1 _ (by omega)).1⟩)
    exact ⟨kn', Ls, h2⟩
  · obtain ⟨Ls', h1⟩ := h.rows hd (M' := va_up (uM U) d (uM U c)) (R' := cpR (uR U) c d 20) (fun q hq => va_up_ne _ _ hq) (by rw [va_up_self]; exact b5 c) (fun q k hq hqd hk => by have := b5 q; rw [cpR_at hcd 20 (by omega), if_neg (by omega)]) (fun k hk => by rw [va_up_self] at hk; have := b5 c; rw [cpR_at hcd 20 (by omega), if_pos (by omega), Nat.add_sub_cancel_left]; exact (hR c hc).2 k hk) (cpR_lt b4 20) (L' := T.1 (4 + c)) (by
      rw [va_up_self, hrow]
      refine List.map_congr_left (fun k hk => ?_)
      have := List.mem_range.mp hk
      have := b5 c
      rw [cpR_at hcd 20 (by omega), if_pos (by omega), Nat.add_sub_cancel_left])
    obtain ⟨kn', h2⟩ := h1.tabl hd (N' := cpT (uN U) c d 160) (f' := f') (fun t ht hn => by rw [cpT_at hcd 160 (by omega), if_neg hn]; rfl) (fun i hi => by rw [cpT_at hcd 160 (by omega), if_pos (by omega), Nat.add_sub_cancel_left, hf i hi]; exact hK.2 (4 + c) i (by omega) hi) (fun i hi => ⟨kn (160 * (4 + c) + i), (hK.1 _ (by omega)).2, by rw [cpT_at hcd 160 (by omega), if_pos (by omega), Nat.add_sub_cancel_left]; exact (hK.1 _ (by omega)).1⟩)
    exact ⟨kn', Ls', h2⟩
/-- unloading, step by step; the class's row is put back -/
theorem Rel.unl (h : Rel V ad kn vc Ls T vs lf U sz vs) (hvs : vs ≤ 4100) {c s : Nat} (hc : c < 3) (hs : s < 4) : ∀ j, j ≤ uM U c → ∃ kn' Ls', Rel V ad kn' vc Ls' (va_up (ulN V s c j T).1 (4 + c) (T.1 (4 + c)), (ulN V s c j T).2.1, (ulN V s c j T).2.2) vs (mUl U c s lf j).2 (mUl U c s lf j).1 sz vs := by
  have hrow := h.row hc
  have hin := (h.2.2.2.2.1.2 c hc).2
  intro j
  induction j with
  | zero =>
    intro _
    refine ⟨kn, Ls, ?_⟩
    rw [show va_up (ulN V s c 0 T).1 (4 + c) (T.1 (4 + c)) = T.1 from up_id _ _]
    exact h
  | succ j ih =>
    intro hj
    obtain ⟨kn1, Ls1, h1⟩ := ih (by omega)
    have kj := mUl_keep (U := U) (c := c) (s := s) (lf := lf) j
    obtain ⟨v, hv⟩ : ∃ v, v = uR U (20 * c + j) := ⟨_, rfl⟩
    have hvv : v < vs := by rw [hv]; exact hin j (by omega)
    have hdr : (ulN V s c j T).1 (4 + c) = ad v :: (T.1 (4 + c)).drop (j + 1) := by
      rw [ulN_row hs, drop_c (y := ad v)]
      rw [hrow, List.getElem?_map, List.getElem?_range (by omega), hv]; rfl
    have hstep : ulN V s c (j + 1) T = _ := ulS_c (V := V) (i := s) hdr
    have hms : mUl U c s lf (j + 1) = if cov4 (mKn (mUl U c s lf j).1 (160 * s + 40 * s + 4 * uD (mUl U c s lf j).1 v)) (mVc (mUl U c s lf j).1 v) = true then mUl U c s lf j else if 300 < mHr (mUl U c s lf j).1 s v 4 then ((mUl U c s lf j).1, (mUl U c s lf j).2 + 1) else (csU (mUl U c s lf j).1 s v, (mUl U c s lf j).2) := by
      rw [mUl, mUlS, kj.1, ← hv]
    have hTs : va_up (ulN V s c j T).1 (4 + c) (T.1 (4 + c)) s = (ulN V s c j T).1 s := va_up_ne _ _ (by omega)
    have tc := h1.tcv hvv (show s < 7 by omega) hs
    have hroom := h1.room300 hs hvv
    rw [show (va_up (ulN V s c j T).1 (4 + c) (T.1 (4 + c)), (ulN V s c j T).2.1, (ulN V s c j T).2.2).1 s = (ulN V s c j T).1 s from hTs] at hroom
    rw [hstep, hms]
    have tc1 : tCv V ((ulN V s c j T).2.1 s) s (ad v) = cov4 (mKn (mUl U c s lf j).1 (160 * s + 40 * s + 4 * uD (mUl U c s lf j).1 v)) (mVc (mUl U c s lf j).1 v) := tc.1
    rw [tc1, hroom]
    by_cases q : cov4 (mKn (mUl U c s lf j).1 (160 * s + 40 * s + 4 * uD (mUl U c s lf j).1 v)) (mVc (mUl U c s lf j).1 v) = true
    · rw [if_pos q, if_pos q]
      refine ⟨kn1, Ls1, ?_⟩
      show Rel V ad kn1 vc Ls1 (va_up (va_up (ulN V s c j T).1 (4 + c) _) (4 + c) (T.1 (4 + c)), _, _) _ _ _ _ _
      rw [up_up]
      exact h1
    · rw [if_neg q, if_neg q]
      by_cases q2 : 300 < mHr (mUl U c s lf j).1 s v 4
      · rw [if_pos q2, if_pos q2]
        refine ⟨kn1, Ls1, ?_⟩
        show Rel V ad kn1 vc Ls1 (va_up (va_up (ulN V s c j T).1 (4 + c) _) (4 + c) (T.1 (4 + c)), _, _) _ _ _ _ _
        rw [up_up]
        obtain ⟨r1, r2, r3, r4, r5, r6, r7⟩ := h1
        exact ⟨r1, r2, r3, r4, r5, by show (ulN V s c j T).2.2 + 1 = _; rw [show (ulN V s c j T).2.2 = (mUl U c s lf j).2 from r6], r7⟩
      · rw [if_neg q2, if_neg q2]
        obtain ⟨i3, -⟩ := h1.2.2.2.1
        obtain ⟨kn2, Ls2, h2⟩ := h1.step hvs hs hvv (fun z => q (tc.2.mpr z)) (fun j' hj' _ => i3 v hvv (by omega) j' hj') (Or.inr (by omega)) (Or.inr (Nat.le_refl _))
        refine ⟨kn2, Ls2, ?_⟩
        have e2 : va_up (va_up (va_up (ulN V s c j T).1 (4 + c) ((T.1 (4 + c)).drop (j + 1))) s (tkL V (ad v) ((ulN V s c j T).1 s))) (4 + c) (T.1 (4 + c)) = va_up (va_up (ulN V s c j T).1 (4 + c) (T.1 (4 + c))) s (tkL V (ad v) ((ulN V s c j T).1 s)) := by
          rw [up_cm _ _ _ (show s ≠ 4 + c by omega), up_up]
        show Rel V ad kn2 vc Ls2 (va_up (va_up (va_up (ulN V s c j T).1 (4 + c) ((T.1 (4 + c)).drop (j + 1))) s (tkL V (ad v) ((ulN V s c j T).1 s))) (4 + c) (T.1 (4 + c)), _, _) _ _ _ _ _
        rw [e2]
        rw [show (va_up (ulN V s c j T).1 (4 + c) (T.1 (4 + c)), (ulN V s c j T).2.1, (ulN V s c j T).2.2).1 s = (ulN V s c j T).1 s from hTs] at h2
        exact h2
end RelW
