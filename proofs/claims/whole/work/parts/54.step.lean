/-! ===== a version comes to stand, on both sides ===== -/
theorem insA_map {f : Nat → Nat} {L : List Nat} {p x : Nat} : insA (L.map f) p (f x) = (insA L p x).map f := by
  unfold insA
  rw [List.map_append, List.map_cons, List.map_take, List.map_drop]
theorem scn_map {g : Nat → Bool} {ad : Nat → Nat} {L : List Nat} : ∀ k, k ≤ L.length → scn g (L.map ad) k = scn (fun v => g (ad v)) L k
  | 0, _ => rfl
  | k + 1, h => by
    have e : (L.map ad).getD k 0 = ad (L.getD k 0) := by
      rw [List.getD_eq_getElem?_getD, List.getD_eq_getElem?_getD, List.getElem?_map, List.getElem?_eq_getElem (by omega)]
      rfl
    rw [scn, scn, e, scn_map k (by omega)]
theorem plc_scn {V : gV} {x : Nat} {L : List Nat} : ∀ k, plc V x L k = scn (fun y => decide (0 < vCm V y x)) L k
  | 0 => rfl
  | k + 1 => by
    rw [plc, scn, plc_scn k]
    by_cases q : 0 < vCm V (L.getD k 0) x
    · rw [if_pos q, if_pos (decide_eq_true q)]
    · rw [if_neg q, if_neg (by rw [decide_eq_false q]; decide)]
theorem plb_scn {V : gV} {x : Nat} {L : List Nat} : ∀ k, plb V x L k = scn (fun y => decide (vSm V x < vSm V y)) L k
  | 0 => rfl
  | k + 1 => by
    rw [plb, scn, plb_scn k]
    by_cases q : vSm V x < vSm V (L.getD k 0)
    · rw [if_pos q, if_pos (decide_eq_true q)]
    · rw [if_neg q, if_neg (by rw [decide_eq_false q]; decide)]
theorem csN_spec {U : gU} {s v : Nat} : ∀ n i, csN U s v n i = if 40 * s + 4 * uD U v ≤ i ∧ i < 40 * s + 4 * uD U v + n ∧ 0 < uS U i ∧ cov4 (mVc U v) (mVc U (uS U i - 1)) = true then 0 else uS U i
  | 0, i => by rw [if_neg (by omega)]; rfl
  | n + 1, i => by
    have ihp := csN_spec (U := U) (s := s) (v := v) n (40 * s + 4 * uD U v + n)
    rw [if_neg (by omega)] at ihp
    have ih := csN_spec (U := U) (s := s) (v := v) n i
    rw [csN, ihp]
    by_cases hi : i = 40 * s + 4 * uD U v + n
    · subst hi
      by_cases q : 0 < uS U (40 * s + 4 * uD U v + n) ∧ cov4 (mVc U v) (mVc U (uS U (40 * s + 4 * uD U v + n) - 1)) = true
      · rw [if_pos q, va_up_self, if_pos ⟨by omega, by omega, q.1, q.2⟩]
      · rw [if_neg q, ihp, if_neg (fun z => q ⟨z.2.2.1, z.2.2.2⟩)]
    · have e : (40 * s + 4 * uD U v ≤ i ∧ i < 40 * s + 4 * uD U v + (n + 1) ∧ 0 < uS U i ∧ cov4 (mVc U v) (mVc U (uS U i - 1)) = true) ↔ (40 * s + 4 * uD U v ≤ i ∧ i < 40 * s + 4 * uD U v + n ∧ 0 < uS U i ∧ cov4 (mVc U v) (mVc U (uS U i - 1)) = true) := by
        constructor
        · rintro ⟨a, b, c⟩; exact ⟨a, by omega, c⟩
        · rintro ⟨a, b, c⟩; exact ⟨a, by omega, c⟩
      by_cases q2 : 40 * s + 4 * uD U v ≤ i ∧ i < 40 * s + 4 * uD U v + n ∧ 0 < uS U i ∧ cov4 (mVc U v) (mVc U (uS U i - 1)) = true
      · rw [if_pos q2] at ih
        rw [if_pos (e.mpr q2)]
        split
        · rw [va_up_ne _ _ hi]; exact ih
        · exact ih
      · rw [if_neg q2] at ih
        rw [if_neg (fun z => q2 (e.mp z))]
        split
        · rw [va_up_ne _ _ hi]; exact ih
        · exact ih
def knJ (kn : Nat → Nat) (p : Nat) (w : Nat → Nat) (t : Nat) : Nat := if p ≤ t ∧ t < p + 4 then max (kn t) (w (t - p)) else kn t
theorem knJ_ge {kn : Nat → Nat} {p : Nat} {w : Nat → Nat} (t : Nat) : kn t ≤ knJ kn p w t := by
  unfold knJ; split <;> omega
theorem knJ_at {kn : Nat → Nat} {p : Nat} {w : Nat → Nat} {j : Nat} (hj : j < 4) : knJ kn p w (p + j) = max (kn (p + j)) (w j) := by
  unfold knJ; rw [if_pos (by omega), Nat.add_sub_cancel_left]
theorem knJ_ne {kn : Nat → Nat} {p : Nat} {w : Nat → Nat} {t : Nat} (h : ¬ (p ≤ t ∧ t < p + 4)) : knJ kn p w t = kn t := by
  unfold knJ; rw [if_neg h]
section RelU
variable {V : gV} {ad kn : Nat → Nat} {vc : Nat → Nat → Nat} {Ls : Nat → List Nat} {T : gT} {vs : Nat} {lf : Int32} {U : gU} {sz e : Nat}
/-- the slot of its maker is replaced -/
theorem Rel.maker (h : Rel V ad kn vc Ls T vs lf U sz e) {s v : Nat} (hs : s < 4) (hv : v < vs) (hlk : ¬ ∀ j, j < 4 → vc v j ≤ kn (ownP s (uD U v) + j)) {w : Nat} (hw : uS U (40 * s + (4 * uD U v + uK U v)) = w + 1) : w < vs ∧ uD U w = uD U v ∧ ∀ j, j < 4 → vc w j ≤ vc v j := by
  have hd := h.2.2.2.2.2.2.1 v
  have hk := h.2.2.2.2.2.2.2.1 v
  obtain ⟨w1, w2, w3⟩ := (h.2.2.1 s hs).2.2 _ (by omega) w hw
  have hD : uD U w = uD U v := by omega
  have hK : uK U w = uK U v := by omega
  refine ⟨w1, hD, ?_⟩
  obtain ⟨-, -, -, i6, i7, -, -⟩ := h.2.2.2.1
  by_cases q : vc w (uK U w) ≤ vc v (uK U w)
  · exact i7 w v w1 hv hD hK q
  · exfalso
    apply hlk
    have z := i7 v w hv w1 hD.symm hK.symm (by rw [← hK]; omega)
    intro j hj
    have y := i6 s _ w hs (by omega) hw j hj
    rw [hD] at y
    exact Nat.le_trans (z j hj) y
theorem Rel.tk (h : Rel V ad kn vc Ls T vs lf U sz e) {s v : Nat} (hs : s < 4) (hv : v < vs) (hlk : ¬ ∀ j, j < 4 → vc v j ≤ kn (ownP s (uD U v) + j)) : ∃ M : List Nat, tkL V (ad v) (T.1 s) = M.map ad ∧ M.Pairwise (fun a b => kyU U vc a < kyU U vc b) ∧ ∀ w, w ∈ M ↔ w = v ∨ (w ∈ Ls s ∧ ¬ (uD U v = uD U w ∧ ∀ j, j < 4 → vc w j ≤ vc v j)) := by
  obtain ⟨h1, h2, h3⟩ := h.2.2.1 s hs
  obtain ⟨-, -, -, i6, -, -, -⟩ := h.2.2.2.1
  obtain ⟨L, hL⟩ : ∃ L, L = (Ls s).filter (fun w => !vRp V (ad v) (ad w)) := ⟨_, rfl⟩
  have eL : (T.1 s).filter (fun y => !vRp V (ad v) y) = L.map ad := by
    rw [h.2.2.2.2.1.1 s (by omega), List.filter_map, hL]
    rfl
  have hLs : L.Pairwise (fun a b => kyU U vc a < kyU U vc b) := by rw [hL]; exact h1.filter _
  have hLm : ∀ w, w ∈ L ↔ w ∈ Ls s ∧ ¬ (uD U v = uD U w ∧ ∀ j, j < 4 → vc w j ≤ vc v j) := by
    intro w
    rw [hL, List.mem_filter]
    refine and_congr_right (fun hw => ?_)
    rw [← h.rp hv (h.inS hs hw)]
    simp
  have hin : ∀ w, w ∈ L → w < vs := fun w hw => h.inS hs ((hLm w).mp hw).1
  refine ⟨insA L (scn (fun w => decide (0 < vCm V (ad w) (ad v))) L L.length) v, ?_, ?_, ?_⟩
  · unfold tkL insS
    rw [eL, plc_scn, List.length_map, scn_map _ (Nat.le_refl _), insA_map]
  · have sp := scn_split (key := kyU U vc) (g := fun w => decide (0 < vCm V (ad w) (ad v))) (L := L) (x := v) hLs (fun y hy gy z hz hyz => by
      rw [decide_eq_true_eq, h.cm (hin y hy) hv, cmpK_gt] at gy
      rw [decide_eq_true_eq, h.cm (hin z hz) hv, cmpK_gt]
      omega)
    refine ins_sorted hLs (fun y hy => ?_) (fun y hy => ?_)
    · have hyL := List.mem_of_mem_take hy
      have g := sp.1 y hy
      rw [decide_eq_false_iff_not, h.cm (hin y hyL) hv, cmpK_gt] at g
      have ne : kyU U vc y ≠ kyU U vc v := by
        intro q
        have := h.keq (hin y hyL) hv q
        subst this
        obtain ⟨k, hk, e'⟩ := (h2 y).mp ((hLm y).mp hyL).1
        exact hlk (fun j hj => i6 s k y hs hk e' j hj)
      omega
    · have hyL := List.mem_of_mem_drop hy
      have g := sp.2 y hy
      rw [decide_eq_true_eq, h.cm (hin y hyL) hv, cmpK_gt] at g
      exact g
  · intro w
    rw [insA_iff, hLm]
theorem csU_S (U : gU) (s v : Nat) : uS (csU U s v) = va_up (csN U s v 4) (40 * s + 4 * uD U v + uK U v) (v + 1) := rfl
theorem csU_N (U : gU) (s v : Nat) : uN (csU U s v) = jnV (uN U) (160 * s + 40 * s + 4 * uD U v) (mVc U v) 4 := rfl
theorem csU_k (U : gU) (s v : Nat) : uD (csU U s v) = uD U ∧ uK (csU U s v) = uK U ∧ uL (csU U s v) = uL U ∧ uF (csU U s v) = uF U ∧ uV (csU U s v) = uV U ∧ uM (csU U s v) = uM U ∧ uR (csU U s v) = uR U := ⟨rfl, rfl, rfl, rfl, rfl, rfl, rfl⟩
theorem Rel.step (h : Rel V ad kn vc Ls T vs lf U sz e) (hvs : vs ≤ 4100) {s v : Nat} (hs : s < 4) (hv : v < vs) (hlk : ¬ ∀ j, j < 4 → vc v j ≤ kn (ownP s (uD U v) + j)) (h3 : ∀ j, j < 4 → j ≠ s → vc v j ≤ kn (ownP j (uD U v) + j)) (h5 : uK U v = s ∨ v ≠ e) (he : e = v ∨ vs ≤ e) : ∃ kn' Ls', Rel V ad kn' vc Ls' (va_up T.1 s (tkL V (ad v) (T.1 s)), va_up T.2.1 s (jnV (T.2.1 s) ((s * 10 + vDoc V (ad v)) * 4) (vVec V (ad v)) 4), T.2.2) vs lf (csU U s v) sz vs := by
  have hd := h.2.2.2.2.2.2.1 v
  have hk := h.2.2.2.2.2.2.2.1 v
  obtain ⟨M, m1, m2, m3⟩ := h.tk hs hv hlk
  obtain ⟨rv, rk, rs, ri, rr, rl, rb⟩ := h
  have h : Rel V ad kn vc Ls T vs lf U sz e := ⟨rv, rk, rs, ri, rr, rl, rb⟩
  obtain ⟨i3, i4, i5, i6, i7, i8, i9⟩ := ri
  obtain ⟨a1, a2, a3, a4, a5, a6, a7⟩ := rv v hv
  have ep : 160 * s + 40 * s + 4 * uD U v = ownP s (uD U v) := rfl
  -- the reference's slots afterwards
  have hS : ∀ i, uS (csU U s v) i = if i = 40 * s + 4 * uD U v + uK U v then v + 1 else if 40 * s + 4 * uD U v ≤ i ∧ i < 40 * s + 4 * uD U v + 4 ∧ 0 < uS U i ∧ cov4 (mVc U v) (mVc U (uS U i - 1)) = true then 0 else uS U i := by
    intro i
    rw [csU_S]
    by_cases q : i = 40 * s + 4 * uD U v + uK U v
    · rw [if_pos q, q, va_up_self]
    · rw [if_neg q, va_up_ne _ _ q, csN_spec]
  have hSt : ∀ t k, t < 4 → t ≠ s → k < 40 → uS (csU U s v) (40 * t + k) = uS U (40 * t + k) := by
    intro t k ht hts hk40
    rw [hS, if_neg (by omega), if_neg (by omega)]
  have hSs : ∀ k w, k < 40 → (uS (csU U s v) (40 * s + k) = w + 1 ↔ (k = 4 * uD U v + uK U v ∧ w = v) ∨ (k ≠ 4 * uD U v + uK U v ∧ uS U (40 * s + k) = w + 1 ∧ ¬ (uD U v = uD U w ∧ ∀ j, j < 4 → vc w j ≤ vc v j))) := by
    intro k w hk40
    rw [hS]
    by_cases q : k = 4 * uD U v + uK U v
    · rw [if_pos (by omega)]
      constructor
      · intro z; exact Or.inl ⟨q, by omega⟩
      · rintro (z | z)
        · omega
        · exact absurd q z.1
    · rw [if_neg (by omega)]
      constructor
      · intro z
        by_cases q2 : 40 * s + 4 * uD U v ≤ 40 * s + k ∧ 40 * s + k < 40 * s + 4 * uD U v + 4 ∧ 0 < uS U (40 * s + k) ∧ cov4 (mVc U v) (mVc U (uS U (40 * s + k) - 1)) = true
        · rw [if_pos q2] at z; omega
        · rw [if_neg q2] at z
          obtain ⟨w1, w2, w3⟩ := (rs s hs).2.2 k hk40 w z
          refine Or.inr ⟨q, z, fun y => q2 ⟨by omega, by omega, by omega, ?_⟩⟩
          rw [z, Nat.add_sub_cancel, h.cov hv w1]
          exact y.2
      · rintro (z | ⟨-, z1, z2⟩)
        · exact absurd z.1 q
        · obtain ⟨w1, w2, w3⟩ := (rs s hs).2.2 k hk40 w z1
          rw [if_neg (fun y => z2 ⟨by omega, (h.cov hv w1).mp (by have := y.2.2.2; rw [z1, Nat.add_sub_cancel] at this; exact this)⟩)]
          exact z1
  have hKN : ∀ t, t < 1120 → uN (csU U s v) t = nI (knJ kn (ownP s (uD U v)) (vc v) t) ∧ knJ kn (ownP s (uD U v)) (vc v) t ≤ 200 := by
    intro t ht
    obtain ⟨k1, k2⟩ := rk.1 t ht
    rw [csU_N, ep]
    unfold jnV knJ
    by_cases q : ownP s (uD U v) ≤ t ∧ t < ownP s (uD U v) + 4
    · rw [if_pos q, if_pos q, k1, (a4 (t - ownP s (uD U v)) (by omega)).2]
      have := a5 (t - ownP s (uD U v)) (by omega)
      rw [mxI_n (by omega) (by omega)]
      exact ⟨rfl, by omega⟩
    · rw [if_neg q, if_neg q]; exact ⟨k1, k2⟩
  have hge := knJ_ge (kn := kn) (p := ownP s (uD U v)) (w := vc v)
  refine ⟨knJ kn (ownP s (uD U v)) (vc v), va_up Ls s M, rv, ⟨hKN, ?_⟩, ?_, ⟨?_, ?_, ?_, ?_, i7, i8, i9⟩, ⟨?_, ?_⟩, rl, ?_⟩
  · intro t i ht hi
    show va_up T.2.1 s (jnV (T.2.1 s) ((s * 10 + vDoc V (ad v)) * 4) (vVec V (ad v)) 4) t i = _
    rw [csU_N]
    by_cases q : t = s
    · subst q
      rw [va_up_self, a1]
      unfold jnV
      by_cases q2 : (t * 10 + uD U v) * 4 ≤ i ∧ i < (t * 10 + uD U v) * 4 + 4
      · rw [if_pos q2, if_pos (by omega), rk.2 t i ht hi, (a4 (i - (t * 10 + uD U v) * 4) (by omega)).1, show 160 * t + i - (160 * t + 40 * t + 4 * uD U v) = i - (t * 10 + uD U v) * 4 by omega, (a4 (i - (t * 10 + uD U v) * 4) (by omega)).2]
      · rw [if_neg q2, if_neg (by omega)]; exact rk.2 t i ht hi
    · rw [va_up_ne _ _ q]
      unfold jnV
      rw [if_neg (by omega)]
      exact rk.2 t i ht hi
  · intro t ht
    by_cases q : t = s
    · subst q
      rw [va_up_self]
      refine ⟨m2, fun w => ?_, fun k hk40 w hw => ?_⟩
      · rw [m3]
        constructor
        · rintro (rfl | ⟨z1, z2⟩)
          · exact ⟨4 * uD U w + uK U w, by omega, (hSs _ _ (by omega)).mpr (Or.inl ⟨rfl, rfl⟩)⟩
          · obtain ⟨k, hk40, e'⟩ := ((rs t hs).2.1 w).mp z1
            refine ⟨k, hk40, (hSs k w hk40).mpr (Or.inr ⟨fun q => ?_, e', z2⟩)⟩
            rw [q] at e'
            obtain ⟨x1, x2, x3⟩ := h.maker hs hv hlk e'
            exact z2 ⟨x2.symm, x3⟩
        · rintro ⟨k, hk40, e'⟩
          rcases (hSs k w hk40).mp e' with ⟨-, z⟩ | ⟨-, z1, z2⟩
          · exact Or.inl z
          · exact Or.inr ⟨((rs t hs).2.1 w).mpr ⟨k, hk40, z1⟩, z2⟩
      · rcases (hSs k w hk40).mp hw with ⟨z1, z⟩ | ⟨-, z1, z2⟩
        · subst z
          exact ⟨hv, by show uD U w = _; omega, by show uK U w = _; omega⟩
        · exact (rs t hs).2.2 k hk40 w z1
    · rw [va_up_ne _ _ q]
      refine ⟨(rs t ht).1, fun w => ?_, fun k hk40 w hw => ?_⟩
      · rw [(rs t ht).2.1 w]
        exact ⟨fun ⟨k, x, y⟩ => ⟨k, x, by rw [hSt t k ht q x]; exact y⟩, fun ⟨k, x, y⟩ => ⟨k, x, by rw [hSt t k ht q x] at y; exact y⟩⟩
      · rw [hSt t k ht q hk40] at hw
        exact (rs t ht).2.2 k hk40 w hw
  · intro u hu _ j hj
    show vc u j ≤ knJ kn (ownP s (uD U v)) (vc v) (ownP j (uD U u) + j)
    by_cases q : u = v
    · subst q
      by_cases qj : j = s
      · subst qj; rw [knJ_at hj]; omega
      · exact Nat.le_trans (h3 j hj qj) (hge _)
    · exact Nat.le_trans (i3 u hu (by omega) j hj) (hge _)
  · intro t d j ht hd10 hj
    by_cases q : t = s ∧ d = uD U v
    · obtain ⟨rfl, rfl⟩ := q
      rw [knJ_at hj]
      by_cases qj : j = t
      · subst qj; rw [knJ_at hj]; exact Nat.le_refl _
      · have x1 := i4 t (uD U v) j ht hd10 hj
        have x2 := h3 j hj qj
        have x3 := hge (ownP j (uD U v) + j)
        omega
    · rw [knJ_ne (t := ownP t d + j) (by unfold ownP; omega)]
      exact Nat.le_trans (i4 t d j ht hd10 hj) (hge _)
  · intro u hu _ j hj
    show vc u j ≤ knJ kn (ownP s (uD U v)) (vc v) (ownP (uK U u) (uD U u) + j)
    by_cases q : u = v
    · subst q
      rcases h5 with z | z
      · rw [z, knJ_at hj]; omega
      · exact Nat.le_trans (i5 u hu z j hj) (hge _)
    · exact Nat.le_trans (i5 u hu (by omega) j hj) (hge _)
  · intro t k w ht hk40 hw j hj
    show vc w j ≤ knJ kn (ownP s (uD U v)) (vc v) (ownP t (uD U w) + j)
    by_cases q : t = s
    · subst q
      rcases (hSs k w hk40).mp hw with ⟨z1, z⟩ | ⟨-, z1, z2⟩
      · subst z; rw [knJ_at hj]; omega
      · exact Nat.le_trans (i6 t k w ht hk40 z1 j hj) (hge _)
    · rw [hSt t k ht q hk40] at hw
      exact Nat.le_trans (i6 t k w ht hk40 hw j hj) (hge _)
  · intro i hi
    show va_up T.1 s (tkL V (ad v) (T.1 s)) i = _
    by_cases q : i = s
    · subst q; rw [va_up_self, va_up_self]; exact m1
    · rw [va_up_ne _ _ q, va_up_ne _ _ q]; exact rr.1 i hi
  · intro c hc
    rw [va_up_ne _ _ (show 4 + c ≠ s by omega)]
    exact rr.2 c hc
  · obtain ⟨b1, b2, b3, b4, b5⟩ := rb
    refine ⟨b1, b2, ?_, b4, b5⟩
    rw [csU_S]
    exact va_up_le (csN_le b3 4) (by omega)
end RelU
