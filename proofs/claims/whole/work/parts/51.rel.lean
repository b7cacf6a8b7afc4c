/-! ===== the relation between the class and the reference ===== -/
def ownP (s d : Nat) : Nat := 160 * s + 40 * s + 4 * d
def kyU (U : gU) (vc : Nat → Nat → Nat) (v : Nat) : Nat := ky (uD U v) (vc v)
def RV (V : gV) (ad : Nat → Nat) (vc : Nat → Nat → Nat) (vs sz : Nat) (U : gU) : Prop := ∀ v, v < vs → vDoc V (ad v) = uD U v ∧ vLen V (ad v) = uL U v ∧ vFil V (ad v) = uF U v ∧ (∀ j, j < 4 → vVec V (ad v) j = nI (vc v j) ∧ mVc U v j = nI (vc v j)) ∧ vB (vc v) ∧ ad v < sz ∧ ∀ w, w < vs → ad v = ad w → v = w
def RK (F : Nat → Nat → Int32) (kn : Nat → Nat) (U : gU) : Prop := (∀ t, t < 1120 → uN U t = nI (kn t) ∧ kn t ≤ 200) ∧ ∀ t i, t < 7 → i < 160 → F t i = uN U (160 * t + i)
def RS (U : gU) (vs : Nat) (vc : Nat → Nat → Nat) (Ls : Nat → List Nat) : Prop := ∀ s, s < 4 → (Ls s).Pairwise (fun a b => kyU U vc a < kyU U vc b) ∧ (∀ v, v ∈ Ls s ↔ ∃ k, k < 40 ∧ uS U (40 * s + k) = v + 1) ∧ ∀ k, k < 40 → ∀ v, uS U (40 * s + k) = v + 1 → v < vs ∧ uD U v = k / 4 ∧ uK U v = k % 4
def RI (U : gU) (kn : Nat → Nat) (vc : Nat → Nat → Nat) (vs e : Nat) : Prop :=
  (∀ v, v < vs → v ≠ e → ∀ j, j < 4 → vc v j ≤ kn (ownP j (uD U v) + j)) ∧ (∀ s d j, s < 4 → d < 10 → j < 4 → kn (ownP s d + j) ≤ kn (ownP j d + j)) ∧
  (∀ v, v < vs → v ≠ e → ∀ j, j < 4 → vc v j ≤ kn (ownP (uK U v) (uD U v) + j)) ∧ (∀ s k v, s < 4 → k < 40 → uS U (40 * s + k) = v + 1 → ∀ j, j < 4 → vc v j ≤ kn (ownP s (uD U v) + j)) ∧
  (∀ v w, v < vs → w < vs → uD U v = uD U w → uK U v = uK U w → vc v (uK U v) ≤ vc w (uK U v) → ∀ j, j < 4 → vc v j ≤ vc w j) ∧ (∀ v w, v < vs → w < vs → uD U v = uD U w → (∀ j, j < 4 → vc v j = vc w j) → v = w) ∧
  ∀ v, uL U v = -1 ∨ ∃ n, n ≤ 40 ∧ uL U v = nI n
def RR (LL Ls : Nat → List Nat) (ad : Nat → Nat) (vs : Nat) (U : gU) : Prop := (∀ i, i < 7 → LL i = (Ls i).map ad) ∧ ∀ c, c < 3 → Ls (4 + c) = (List.range (uM U c)).map (fun k => uR U (20 * c + k)) ∧ ∀ k, k < uM U c → uR U (20 * c + k) < vs
def Rel (V : gV) (ad : Nat → Nat) (kn : Nat → Nat) (vc : Nat → Nat → Nat) (Ls : Nat → List Nat) (T : gT) (vs : Nat) (lf : Int32) (U : gU) (sz e : Nat) : Prop :=
  RV V ad vc vs sz U ∧ RK T.2.1 kn U ∧ RS U vs vc Ls ∧ RI U kn vc vs e ∧ RR T.1 Ls ad vs U ∧ T.2.2 = lf ∧ MBd U
theorem len_neg {x : Int32} (h : x = -1 ∨ ∃ n, n ≤ 40 ∧ x = nI n) : x < 0 ↔ x = -1 := by
  rcases h with rfl | ⟨n, hn, rfl⟩
  · exact ⟨fun _ => rfl, fun _ => by decide⟩
  · refine ⟨fun z => absurd z (nI_pos (by omega)), fun z => ?_⟩
    rw [z]; decide
def byN (U : gU) (v : Nat) : Nat := (mBy U v).toNatClampNeg
section RelR
variable {V : gV} {ad kn : Nat → Nat} {vc : Nat → Nat → Nat} {Ls : Nat → List Nat} {T : gT} {vs : Nat} {lf : Int32} {U : gU} {sz e : Nat}
theorem RI.by (h : RI U kn vc vs e) (v : Nat) : byN U v ≤ 40 ∧ mBy U v = nI (byN U v) := by
  have h9 := h.2.2.2.2.2.2 v
  unfold byN
  have hl := len_neg h9
  unfold mBy
  rcases h9 with q | ⟨n, hn, q⟩
  · rw [if_pos (hl.mpr q)]; decide
  · rw [if_neg (by rw [q]; exact nI_pos (by omega)), q, nI_clamp (by omega)]; exact ⟨hn, rfl⟩
theorem Rel.by (h : Rel V ad kn vc Ls T vs lf U sz e) (v : Nat) : byN U v ≤ 40 ∧ mBy U v = nI (byN U v) := h.2.2.2.1.by v
theorem Rel.byV (h : Rel V ad kn vc Ls T vs lf U sz e) {v : Nat} (hv : v < vs) : vBy V (ad v) = nI (byN U v) := by
  rw [← (h.by v).2]
  have h9 := len_neg (h.2.2.2.1.2.2.2.2.2.2 v)
  unfold vBy byI mBy
  rw [(h.1 v hv).2.1]
  by_cases q : uL U v = -1
  · rw [if_pos q, if_pos (h9.mpr q)]
  · rw [if_neg q, if_neg (fun z => q (h9.mp z))]
theorem Rel.cm (h : Rel V ad kn vc Ls T vs lf U sz e) {v w : Nat} (hv : v < vs) (hw : w < vs) : vCm V (ad v) (ad w) = cmpK (kyU U vc v) (kyU U vc w) := by
  obtain ⟨a1, a2, a3, a4, a5, a6, a7⟩ := h.1 v hv
  obtain ⟨b1, b2, b3, b4, b5, b6, b7⟩ := h.1 w hw
  unfold vCm
  rw [a1, b1]
  exact lxs_ky (fun j hj => (a4 j hj).1) (fun j hj => (b4 j hj).1) a5 b5 (h.2.2.2.2.2.2.1 v) (h.2.2.2.2.2.2.1 w)
theorem Rel.df (h : Rel V ad kn vc Ls T vs lf U sz e) {v w : Nat} (hv : v < vs) (hw : w < vs) : dfN (mVc U v) (mVc U w) 4 0 < 0 ↔ kyV (vc v) < kyV (vc w) :=
  dfN_ky (fun j hj => ((h.1 v hv).2.2.2.1 j hj).2) (fun j hj => ((h.1 w hw).2.2.2.1 j hj).2) (h.1 v hv).2.2.2.2.1 (h.1 w hw).2.2.2.2.1
theorem Rel.cov (h : Rel V ad kn vc Ls T vs lf U sz e) {v w : Nat} (hv : v < vs) (hw : w < vs) : cov4 (mVc U v) (mVc U w) = true ↔ ∀ j, j < 4 → vc w j ≤ vc v j :=
  cov4_n (fun j hj => ((h.1 v hv).2.2.2.1 j hj).2) (fun j hj => ((h.1 w hw).2.2.2.1 j hj).2) (h.1 v hv).2.2.2.2.1 (h.1 w hw).2.2.2.2.1
theorem Rel.rp (h : Rel V ad kn vc Ls T vs lf U sz e) {v w : Nat} (hv : v < vs) (hw : w < vs) : vRp V (ad v) (ad w) = true ↔ uD U v = uD U w ∧ ∀ j, j < 4 → vc w j ≤ vc v j := by
  obtain ⟨a1, a2, a3, a4, a5, a6, a7⟩ := h.1 v hv
  obtain ⟨b1, b2, b3, b4, b5, b6, b7⟩ := h.1 w hw
  unfold vRp
  rw [Bool.and_eq_true, decide_eq_true_eq, a1, b1, cov4_n (fun j hj => (a4 j hj).1) (fun j hj => (b4 j hj).1) a5 b5]
/-- a table covers a version -/
theorem Rel.tcv (h : Rel V ad kn vc Ls T vs lf U sz e) {v t o : Nat} (hv : v < vs) (ht : t < 7) (ho : o < 4) : tCv V (T.2.1 t) o (ad v) = cov4 (mKn U (160 * t + 40 * o + 4 * uD U v)) (mVc U v) ∧ (cov4 (mKn U (160 * t + 40 * o + 4 * uD U v)) (mVc U v) = true ↔ ∀ j, j < 4 → vc v j ≤ kn (160 * t + 40 * o + 4 * uD U v + j)) := by
  obtain ⟨a1, a2, a3, a4, a5, a6, a7⟩ := h.1 v hv
  have hd := h.2.2.2.2.2.2.1 v
  have hK := h.2.1
  have e1 : ∀ j, j < 4 → T.2.1 t ((o * 10 + uD U v) * 4 + j) = mKn U (160 * t + 40 * o + 4 * uD U v) j := by
    intro j hj
    rw [hK.2 t _ ht (by omega), show 160 * t + ((o * 10 + uD U v) * 4 + j) = 160 * t + 40 * o + 4 * uD U v + j by omega]
    rfl
  have e2 : cov4 (mKn U (160 * t + 40 * o + 4 * uD U v)) (mVc U v) = true ↔ ∀ j, j < 4 → vc v j ≤ kn (160 * t + 40 * o + 4 * uD U v + j) :=
    cov4_n (u := fun j => kn (160 * t + 40 * o + 4 * uD U v + j)) (fun j hj => (hK.1 _ (by omega)).1) (fun j hj => (a4 j hj).2) (fun j hj => (hK.1 _ (by omega)).2) a5
  refine ⟨?_, e2⟩
  rw [Bool.eq_iff_iff, e2]
  unfold tCv
  rw [a1]
  exact cov4_n (u := fun j => kn (160 * t + 40 * o + 4 * uD U v + j)) (fun j hj => by rw [e1 j hj]; exact (hK.1 _ (by omega)).1) (fun j hj => (a4 j hj).1) (fun j hj => (hK.1 _ (by omega)).2) a5
theorem Rel.lk (h : Rel V ad kn vc Ls T vs lf U sz e) {v s : Nat} (hv : v < vs) (hs : s < 4) {ds : Int32} : vLkA V (T.2.1 s) s ds (ad v) = mLkN U s v ds 4 := by
  have e : ∀ o, o < 4 → vLk V (T.2.1 s) s ds (ad v) o = mLk U s v ds o := by
    intro o ho
    unfold vLk mLk
    rw [(h.tcv hv (by omega) ho).1]
  unfold vLkA
  rw [e 0 (by omega), e 1 (by omega), e 2 (by omega), e 3 (by omega)]
  show _ = ((((false || _) || _) || _) || _)
  rw [Bool.false_or, Bool.or_assoc, Bool.or_assoc]
theorem Rel.sm (h : Rel V ad kn vc Ls T vs lf U sz e) {v : Nat} (hv : v < vs) : vSm V (ad v) = nI (smK (vc v)) ∧ mSm U v = nI (smK (vc v)) :=
  ⟨(smN_n (fun j hj => ((h.1 v hv).2.2.2.1 j hj).1)).1, (smN_n (fun j hj => ((h.1 v hv).2.2.2.1 j hj).2)).2⟩
theorem smK_le {u : Nat → Nat} (h : vB u) : smK u ≤ 800 := by
  have := h 0 (by omega); have := h 1 (by omega); have := h 2 (by omega); have := h 3 (by omega)
  unfold smK; omega
theorem Rel.sn (h : Rel V ad kn vc Ls T vs lf U sz e) {v w : Nat} (hv : v < vs) (hw : w < vs) : mSn U v w = true ↔ snK (uD U v) (vc v) < snK (uD U w) (vc w) := by
  have hdv := h.2.2.2.2.2.2.1 v
  have hdw := h.2.2.2.2.2.2.1 w
  have bv := (h.1 v hv).2.2.2.2.1
  have bw := (h.1 w hw).2.2.2.2.1
  have s1 := smK_le bv
  have s2 := smK_le bw
  have k1 := ky_lt bv hdv
  have k2 := ky_lt bw hdw
  unfold mSn
  rw [(h.sm hv).2, (h.sm hw).2]
  unfold snK
  by_cases q : smK (vc v) = smK (vc w)
  · rw [if_pos (by rw [q]), q]
    by_cases q2 : uD U v = uD U w
    · rw [if_pos (by rw [q2]), decide_eq_true_eq, h.df hv hw]
      unfold ky
      rw [q2]; omega
    · rw [if_neg (fun z => q2 (n_eq z (by omega) (by omega))), decide_eq_true_eq, nI_ltI (by omega) (by omega)]
      unfold ky
      omega
  · rw [if_neg (fun z => q (n_eq z (by omega) (by omega))), decide_eq_true_eq, nI_ltI (by omega) (by omega)]
    omega
/-- slots are told apart by what lies in them -/
theorem Rel.slot (h : Rel V ad kn vc Ls T vs lf U sz e) {s : Nat} (hs : s < 4) : ∀ j k, j < 40 → k < 40 → 0 < uS U (40 * s + j) → uS U (40 * s + j) = uS U (40 * s + k) → j = k := by
  intro j k hj hk h0 hq
  obtain ⟨-, -, h3⟩ := h.2.2.1 s hs
  have a := h3 j hj (uS U (40 * s + j) - 1) (by omega)
  have b := h3 k hk (uS U (40 * s + j) - 1) (by omega)
  omega
theorem Rel.inS (h : Rel V ad kn vc Ls T vs lf U sz e) {s v : Nat} (hs : s < 4) (hv : v ∈ Ls s) : v < vs := by
  obtain ⟨-, h2, h3⟩ := h.2.2.1 s hs
  obtain ⟨k, hk, q⟩ := (h2 v).mp hv
  exact (h3 k hk v q).1
theorem Rel.inR (h : Rel V ad kn vc Ls T vs lf U sz e) {c v : Nat} (hc : c < 3) (hv : v ∈ Ls (4 + c)) : v < vs := by
  obtain ⟨-, h2⟩ := h.2.2.2.2.1
  obtain ⟨a, b⟩ := h2 c hc
  rw [a] at hv
  obtain ⟨k, hk, rfl⟩ := List.mem_map.mp hv
  exact b k (List.mem_range.mp hk)
theorem Rel.sum (h : Rel V ad kn vc Ls T vs lf U sz e) {s : Nat} (hs : s < 4) (f : Nat → Nat) : ((Ls s).map f).sum = sT 40 (fun k => if 0 < uS U (40 * s + k) then f (uS U (40 * s + k) - 1) else 0) := by
  obtain ⟨h1, h2, h3⟩ := h.2.2.1 s hs
  exact slots_sum (S := fun k => uS U (40 * s + k)) h1 (h.slot hs) h2 f
theorem Rel.len (h : Rel V ad kn vc Ls T vs lf U sz e) {s : Nat} (hs : s < 4) : (Ls s).length ≤ 40 ∧ (T.1 s).length ≤ 40 := by
  obtain ⟨h1, h2, h3⟩ := h.2.2.1 s hs
  have := slots_len (S := fun k => uS U (40 * s + k)) h1 (h.slot hs) h2
  rw [h.2.2.2.2.1.1 s (by omega), List.length_map]
  exact ⟨this, this⟩
/-- what stands of one document -/
theorem Rel.blk (h : Rel V ad kn vc Ls T vs lf U sz e) {s d : Nat} (hs : s < 4) (hd : d < 10) {f : Nat → Nat} (hf : ∀ v, v < vs → uD U v ≠ d → f v = 0) : ((Ls s).map f).sum = (fun k => if 0 < uS U (40 * s + k) then f (uS U (40 * s + k) - 1) else 0) (4 * d) + (fun k => if 0 < uS U (40 * s + k) then f (uS U (40 * s + k) - 1) else 0) (4 * d + 1) + (fun k => if 0 < uS U (40 * s + k) then f (uS U (40 * s + k) - 1) else 0) (4 * d + 2) + (fun k => if 0 < uS U (40 * s + k) then f (uS U (40 * s + k) - 1) else 0) (4 * d + 3) := by
  rw [h.sum hs f]
  refine sT_blk 40 (by omega) (fun k hk hn => ?_)
  obtain ⟨h1, h2, h3⟩ := h.2.2.1 s hs
  by_cases q : 0 < uS U (40 * s + k)
  · rw [if_pos q]
    have := h3 k hk (uS U (40 * s + k) - 1) (by omega)
    exact hf _ this.1 (by omega)
  · rw [if_neg q]
end RelR
