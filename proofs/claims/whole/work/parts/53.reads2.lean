/-! ===== what is read is the same (2) ===== -/
theorem kth_cg {p q : Nat → Bool} {k : Int32} : ∀ (L : List Nat) (b : Nat), (∀ v ∈ L, p v = q v) → kth p k L b = kth q k L b
  | [], _, _ => rfl
  | x :: r, b, h => by
    rw [kth, kth, h x List.mem_cons_self, kth_cg r _ (fun v hv => h v (List.mem_cons_of_mem _ hv)), kth_cg r _ (fun v hv => h v (List.mem_cons_of_mem _ hv))]
theorem sbB_sum {U : gU} {s d S : Nat} : ∀ n, sbB U s d S n = sT n (fun o => if 0 < S ∧ 0 < uS U (40 * s + 4 * d + o) ∧ ¬ uL U (uS U (40 * s + 4 * d + o) - 1) < 0 ∧ dfN (mVc U (uS U (40 * s + 4 * d + o) - 1)) (mVc U (S - 1)) 4 0 < 0 then 1 else 0)
  | 0 => rfl
  | n + 1 => by
    rw [sbB, sT, ← sbB_sum n]
    split <;> rfl
/-- what the reference's search asks of slot m -/
def sbQ (U : gU) (s d : Nat) (k : Int32) (m : Nat) : Prop := 0 < uS U (40 * s + 4 * d + m) ∧ ¬ uL U (uS U (40 * s + 4 * d + m) - 1) < 0 ∧ nI (sbB U s d (uS U (40 * s + 4 * d + m)) 4) = k
theorem sbF_some {U : gU} {s d : Nat} {k : Int32} : ∀ n j v, sbF U s d k n j = some v → ∃ m, m < j + n ∧ sbQ U s d k m ∧ uS U (40 * s + 4 * d + m) = v + 1
  | 0, j, v, h => by cases h
  | n + 1, j, v, h => by
    rw [sbF] at h
    split at h
    · rename_i q
      cases h
      have := q.1
      exact ⟨j, by omega, q, by omega⟩
    · obtain ⟨m, h1, h2⟩ := sbF_some n (j + 1) v h
      exact ⟨m, by omega, h2⟩
theorem sbF_none {U : gU} {s d : Nat} {k : Int32} : ∀ n j, sbF U s d k n j = none → ∀ m, j ≤ m → m < j + n → ¬ sbQ U s d k m
  | 0, j, _, m, h1, h2 => by omega
  | n + 1, j, h, m, h1, h2 => by
    rw [sbF] at h
    split at h
    · cases h
    · rename_i q
      by_cases hm : m = j
      · subst hm; exact q
      · exact sbF_none n (j + 1) h m (by omega) (by omega)
theorem mSa_iff {U : gU} {a b : Nat} : ∀ n, mSa U a b n = true ↔ ∀ k, k < n → mSq U a b k = true
  | 0 => ⟨fun _ k hk => absurd hk (Nat.not_lt_zero _), fun _ => rfl⟩
  | n + 1 => by
    rw [mSa, Bool.and_eq_true, mSa_iff n]
    constructor
    · rintro ⟨h1, h2⟩ k hk
      by_cases q : k = n
      · rw [q]; exact h2
      · exact h1 k (by omega)
    · intro h
      exact ⟨fun k hk => h k (by omega), h n (by omega)⟩
section RelT
variable {V : gV} {ad kn : Nat → Nat} {vc : Nat → Nat → Nat} {Ls : Nat → List Nat} {T : gT} {vs : Nat} {lf : Int32} {U : gU} {sz e : Nat}
theorem Rel.sibN (h : Rel V ad kn vc Ls T vs lf U sz e) {s d : Nat} (hs : s < 4) (hd : d < 10) {k : Int32} : kth (vHb V (nI d)) k (T.1 s) 0 = (sbF U s d k 4 0).map ad := by
  obtain ⟨h1, h2, h3⟩ := h.2.2.1 s hs
  have hlen := (h.len hs).1
  rw [h.2.2.2.2.1.1 s (by omega), kth_map, kth_cg (q := fun v => decide (uD U v = d) && decide (¬ uL U v < 0)) _ _ (fun v hv => h.hb (h.inS hs hv) hd)]
  refine congrArg (Option.map ad) ?_
  have hK := kth_iff (p := fun v => decide (uD U v = d) && decide (¬ uL U v < 0)) (k := k) (key := kyU U vc) (Ls s) 0 h1 (by omega)
  have hcnt : ∀ v, v < vs → uD U v = d → (Ls s).countP (fun z => (decide (uD U z = d) && decide (¬ uL U z < 0)) && decide (kyU U vc z < kyU U vc v)) = sbB U s d (v + 1) 4 := by
    intro v hv hD
    rw [h.cnt hs hd (fun w hw z => by simpa using (Bool.and_eq_true_iff.mp (Bool.and_eq_true_iff.mp z).1).1), sbB_sum]
    refine sT_cg 4 (fun m hm => ?_)
    by_cases q : 0 < uS U (40 * s + 4 * d + m)
    · obtain ⟨w1, w2, w3⟩ := h3 (4 * d + m) (by omega) (uS U (40 * s + 4 * d + m) - 1) (by rw [show 40 * s + (4 * d + m) = 40 * s + 4 * d + m by omega]; omega)
      have hDw : uD U (uS U (40 * s + 4 * d + m) - 1) = d := by omega
      have e1 : (kyU U vc (uS U (40 * s + 4 * d + m) - 1) < kyU U vc v) ↔ dfN (mVc U (uS U (40 * s + 4 * d + m) - 1)) (mVc U v) 4 0 < 0 := by
        rw [h.df w1 hv]
        unfold kyU ky
        rw [hDw, hD]
        omega
      rw [Nat.add_sub_cancel]
      by_cases q1 : uL U (uS U (40 * s + 4 * d + m) - 1) < 0
      · rw [if_neg (fun z => by have := z.2; simp [q1] at this), if_neg (fun z => z.2.2.1 q1)]
      · by_cases q2 : dfN (mVc U (uS U (40 * s + 4 * d + m) - 1)) (mVc U v) 4 0 < 0
        · rw [if_pos ⟨q, by simp [hDw, q1, e1.mpr q2]⟩, if_pos ⟨by omega, q, q1, q2⟩]
        · rw [if_neg (fun z => by have y := z.2; simp only [Bool.and_eq_true, decide_eq_true_eq] at y; exact q2 (e1.mp y.2)), if_neg (fun z => q2 z.2.2.2)]
    · rw [if_neg (fun z => q z.1), if_neg (fun z => q z.2.1)]
  cases hf : sbF U s d k 4 0 with
  | some v =>
    obtain ⟨m, hm, ⟨q1, q2, q3⟩, q4⟩ := sbF_some 4 0 v hf
    have e40 : uS U (40 * s + (4 * d + m)) = v + 1 := by rw [show 40 * s + (4 * d + m) = 40 * s + 4 * d + m by omega]; exact q4
    obtain ⟨w1, w2, w3⟩ := h3 (4 * d + m) (by omega) v e40
    rw [q4, Nat.add_sub_cancel] at q2
    rw [q4] at q3
    exact (hK v).mpr ⟨(h2 v).mpr ⟨4 * d + m, by omega, e40⟩, by simp [show uD U v = d by omega, q2], by rw [Nat.zero_add, hcnt v w1 (by omega)]; exact q3⟩
  | none =>
    cases hk : kth (fun v => decide (uD U v = d) && decide (¬ uL U v < 0)) k (Ls s) 0 with
    | none => rfl
    | some y =>
      exfalso
      obtain ⟨y1, y2, y3⟩ := (hK y).mp hk
      simp only [Bool.and_eq_true, decide_eq_true_eq] at y2
      obtain ⟨k', hk', e'⟩ := (h2 y).mp y1
      obtain ⟨w1, w2, w3⟩ := h3 k' hk' y e'
      rw [Nat.zero_add, hcnt y w1 y2.1] at y3
      have e4 : uS U (40 * s + 4 * d + (k' - 4 * d)) = y + 1 := by rw [show 40 * s + 4 * d + (k' - 4 * d) = 40 * s + k' by omega]; exact e'
      exact sbF_none 4 0 hf (k' - 4 * d) (by omega) (by omega) ⟨by omega, by rw [e4, Nat.add_sub_cancel]; exact y2.2, by rw [e4]; exact y3⟩
theorem Rel.sib (h : Rel V ad kn vc Ls T vs lf U sz e) {s d k : Int32} : sibA V T.1 s d k = (mSb U s d k).map ad := by
  unfold sibA mSb
  cases hp : (okN s 4 && okN d 10)
  · rfl
  · obtain ⟨hp1, hp2⟩ := Bool.and_eq_true_iff.mp hp
    obtain ⟨i, hi, rfl⟩ := okN_t (by decide) hp1
    obtain ⟨j, hj, rfl⟩ := okN_t (by decide) hp2
    rw [if_pos rfl, if_pos rfl, nI_clamp (by omega), nI_clamp (by omega)]
    exact h.sibN hi hj
theorem mSb_vs (h : Rel V ad kn vc Ls T vs lf U sz e) {s d k : Int32} {v : Nat} (hv : mSb U s d k = some v) : v < vs := by
  unfold mSb at hv
  cases hp : (okN s 4 && okN d 10)
  · rw [hp] at hv; cases hv
  · obtain ⟨hp1, hp2⟩ := Bool.and_eq_true_iff.mp hp
    obtain ⟨i, hi, rfl⟩ := okN_t (by decide) hp1
    obtain ⟨j, hj, rfl⟩ := okN_t (by decide) hp2
    rw [hp, if_pos rfl, nI_clamp (by omega), nI_clamp (by omega)] at hv
    obtain ⟨m, hm, -, q4⟩ := sbF_some 4 0 v hv
    exact ((h.2.2.1 i hi).2.2 (4 * j + m) (by omega) v (by rw [show 40 * i + (4 * j + m) = 40 * i + 4 * j + m by omega]; exact q4)).1
theorem Rel.keq (h : Rel V ad kn vc Ls T vs lf U sz e) {v w : Nat} (hv : v < vs) (hw : w < vs) (q : kyU U vc v = kyU U vc w) : v = w := by
  obtain ⟨e1, e2⟩ := ky_eq (h.1 v hv).2.2.2.2.1 (h.1 w hw).2.2.2.2.1 q
  exact h.2.2.2.1.2.2.2.2.2.1 v w hv hw e1 e2
theorem Rel.same (h : Rel V ad kn vc Ls T vs lf U sz e) {a b : Nat} (ha : a < 4) (hb : b < 4) : smL V ((T.1 a).filter (fun y => !vMk V y)) ((T.1 b).filter (fun y => !vMk V y)) = mSa U a b 40 := by
  obtain ⟨a1, a2, a3⟩ := h.2.2.1 a ha
  obtain ⟨b1, b2, b3⟩ := h.2.2.1 b hb
  have hf : ∀ s, s < 4 → (T.1 s).filter (fun y => !vMk V y) = ((Ls s).filter (fun v => !decide (uL U v < 0))).map ad := by
    intro s hs
    rw [h.2.2.2.2.1.1 s (by omega), List.filter_map]
    refine congrArg (List.map ad) (List.filter_congr (fun v hv => ?_))
    show (!vMk V (ad v)) = _
    rw [h.mkV (h.inS hs hv)]
  rw [hf a ha, hf b hb, Bool.eq_iff_iff, smL_iff _ _ (fun v hv w hw => by
    rw [h.cm (h.inS ha (List.mem_filter.mp hv).1) (h.inS hb (List.mem_filter.mp hw).1), cmpK_eq]
    exact ⟨fun q => h.keq (h.inS ha (List.mem_filter.mp hv).1) (h.inS hb (List.mem_filter.mp hw).1) q, fun q => by rw [q]⟩), mSa_iff]
  have mem : ∀ s, s < 4 → ∀ v, v ∈ (Ls s).filter (fun v => !decide (uL U v < 0)) ↔ ∃ k, k < 40 ∧ uS U (40 * s + k) = v + 1 ∧ ¬ uL U v < 0 := by
    intro s hs v
    rw [List.mem_filter, (h.2.2.1 s hs).2.1 v]
    constructor
    · rintro ⟨⟨k, hk, q⟩, z⟩; exact ⟨k, hk, q, by simpa using z⟩
    · rintro ⟨k, hk, q, z⟩; exact ⟨⟨k, hk, q⟩, by simpa using z⟩
  have sk : ∀ s k, mSk U s k = true ↔ 0 < uS U (40 * s + k) ∧ ¬ uL U (uS U (40 * s + k) - 1) < 0 := by
    intro s k
    unfold mSk
    simp
  have one : ∀ s t, s < 4 → t < 4 → (∀ v, v ∈ (Ls s).filter (fun v => !decide (uL U v < 0)) → v ∈ (Ls t).filter (fun v => !decide (uL U v < 0))) → ∀ k, k < 40 → mSk U s k = true → uS U (40 * t + k) = uS U (40 * s + k) := by
    intro s t hs ht hst k hk hq
    obtain ⟨q1, q2⟩ := (sk s k).mp hq
    obtain ⟨k', hk', r1, r2⟩ := (mem t ht _).mp (hst _ ((mem s hs (uS U (40 * s + k) - 1)).mpr ⟨k, hk, by omega, q2⟩))
    have x1 := (h.2.2.1 s hs).2.2 k hk (uS U (40 * s + k) - 1) (by omega)
    have x2 := (h.2.2.1 t ht).2.2 k' hk' (uS U (40 * s + k) - 1) r1
    have : k' = k := by omega
    subst this
    omega
  constructor
  · intro hE k hk
    unfold mSq
    cases q : mSk U a k
    · cases q2 : mSk U b k
      · rfl
      · have z := one b a hb ha (fun v hv => by rw [hE]; exact hv) k hk q2
        have : mSk U a k = true := by rw [sk, z]; exact (sk b k).mp q2
        rw [q] at this; cases this
    · have z := one a b ha hb (fun v hv => by rw [← hE]; exact hv) k hk q
      have : mSk U b k = true := by rw [sk, z]; exact (sk a k).mp q
      rw [this, z]; simp
  · intro hA
    have sub : ∀ s t, s < 4 → t < 4 → (∀ k, k < 40 → mSk U s k = true → uS U (40 * t + k) = uS U (40 * s + k)) → ∀ v, v ∈ (Ls s).filter (fun v => !decide (uL U v < 0)) → v ∈ (Ls t).filter (fun v => !decide (uL U v < 0)) := by
      intro s t hs ht hk v hv
      obtain ⟨k, k1, k2, k3⟩ := (mem s hs v).mp hv
      exact (mem t ht v).mpr ⟨k, k1, by rw [hk k k1 ((sk s k).mpr ⟨by omega, by rw [k2, Nat.add_sub_cancel]; exact k3⟩)]; exact k2, k3⟩
    have eq : ∀ k, k < 40 → (mSk U a k = mSk U b k) ∧ (mSk U a k = true → uS U (40 * a + k) = uS U (40 * b + k)) := by
      intro k hk
      have z := hA k hk
      unfold mSq at z
      simp only [Bool.and_eq_true, beq_iff_eq, Bool.or_eq_true, Bool.not_eq_true', decide_eq_true_eq] at z
      exact ⟨z.1, fun q => z.2.resolve_left (by rw [q]; decide)⟩
    exact sorted_ext (a1.filter _) (b1.filter _) (fun v => ⟨sub a b ha hb (fun k hk q => ((eq k hk).2 q).symm) v, sub b a hb ha (fun k hk q => (eq k hk).2 ((eq k hk).1.trans q)) v⟩)
theorem Rel.row (h : Rel V ad kn vc Ls T vs lf U sz e) {c : Nat} (hc : c < 3) : T.1 (4 + c) = (List.range (uM U c)).map (fun k => ad (uR U (20 * c + k))) := by
  rw [h.2.2.2.2.1.1 (4 + c) (by omega), (h.2.2.2.2.1.2 c hc).1, List.map_map]
  rfl
theorem Rel.room (h : Rel V ad kn vc Ls T vs lf U sz e) {c : Nat} (hc : c < 3) : rmL V (T.1 (4 + c)) = rmN U c (uM U c) := by
  rw [h.row hc]
  have hk := (h.2.2.2.2.1.2 c hc).2
  have : ∀ n, n ≤ uM U c → rmL V ((List.range n).map (fun k => ad (uR U (20 * c + k)))) = rmN U c n := by
    intro n
    induction n with
    | zero => intro _; rfl
    | succ n ih =>
      intro hn
      rw [List.range_succ, List.map_append, rmL, List.foldl_append, rmN, ← ih (by omega)]
      show _ - (8 + vBy V (ad (uR U (20 * c + n)))) = _
      rw [h.byV (hk n (by omega)), (h.by _).2, s_sub]
      rfl
  exact this _ (Nat.le_refl _)
theorem Rel.rowLen (h : Rel V ad kn vc Ls T vs lf U sz e) {c : Nat} (hc : c < 3) : (T.1 (4 + c)).length = uM U c := by
  rw [h.row hc]; simp
theorem Rel.rowGet (h : Rel V ad kn vc Ls T vs lf U sz e) {c k : Nat} (hc : c < 3) (hk : k < uM U c) : (T.1 (4 + c)).getD k 0 = ad (uR U (20 * c + k)) := by
  rw [h.row hc, List.getD_eq_getElem?_getD, List.getElem?_map, List.getElem?_range hk]
  rfl
end RelT
