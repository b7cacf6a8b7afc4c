/-! ===== what is read is the same ===== -/
theorem s_sub {a b c : Int32} : a - (b + c) = a - b - c := by
  rw [Int32.sub_eq_add_neg, Int32.sub_eq_add_neg, Int32.sub_eq_add_neg, Int32.neg_add, Int32.add_assoc]
  first | rfl | rw [Int32.sub_eq_add_neg]
theorem mCt_sum {U : gU} {s d : Nat} {mk : Bool} : ∀ n, mCt U s d mk n = sT n (fun m => if 0 < uS U (40 * s + 4 * d + m) ∧ decide (uL U (uS U (40 * s + 4 * d + m) - 1) < 0) = mk then 1 else 0)
  | 0 => rfl
  | n + 1 => by
    rw [mCt, sT, ← mCt_sum n]
    split <;> rfl
theorem mMk_sum {U : gU} {s : Nat} : ∀ n, mMk U s n = sT n (fun d => mCt U s d true 4)
  | 0 => rfl
  | n + 1 => by rw [mMk, sT, mMk_sum n]
/-- what a slot holds -/
def sF (U : gU) (s : Nat) (f : Nat → Nat) (k : Nat) : Nat := if 0 < uS U (40 * s + k) then f (uS U (40 * s + k) - 1) else 0
theorem sF_if {U : gU} {s d m : Nat} {p : Nat → Prop} [DecidablePred p] {x : Nat → Nat} : sF U s (fun v => if p v then x v else 0) (4 * d + m) = if 0 < uS U (40 * s + 4 * d + m) ∧ p (uS U (40 * s + 4 * d + m) - 1) then x (uS U (40 * s + 4 * d + m) - 1) else 0 := by
  unfold sF
  rw [show 40 * s + (4 * d + m) = 40 * s + 4 * d + m by omega]
  by_cases q : 0 < uS U (40 * s + 4 * d + m)
  · rw [if_pos q]
    show (if p (uS U (40 * s + 4 * d + m) - 1) then x (uS U (40 * s + 4 * d + m) - 1) else 0) = _
    by_cases q2 : p (uS U (40 * s + 4 * d + m) - 1)
    · rw [if_pos q2, if_pos ⟨q, q2⟩]
    · rw [if_neg q2, if_neg (fun z => q2 z.2)]
  · rw [if_neg q, if_neg (fun z => q z.1)]
section RelS
variable {V : gV} {ad kn : Nat → Nat} {vc : Nat → Nat → Nat} {Ls : Nat → List Nat} {T : gT} {vs : Nat} {lf : Int32} {U : gU} {sz e : Nat}
theorem Rel.blk' (h : Rel V ad kn vc Ls T vs lf U sz e) {s d : Nat} (hs : s < 4) (hd : d < 10) {f : Nat → Nat} (hf : ∀ v, v < vs → uD U v ≠ d → f v = 0) : ((Ls s).map f).sum = sT 4 (fun m => sF U s f (4 * d + m)) := by
  rw [h.blk hs hd hf]
  show _ = 0 + sF U s f (4 * d + 0) + sF U s f (4 * d + 1) + sF U s f (4 * d + 2) + sF U s f (4 * d + 3)
  rw [Nat.zero_add]
  rfl
theorem Rel.mkV (h : Rel V ad kn vc Ls T vs lf U sz e) {v : Nat} (hv : v < vs) : vMk V (ad v) = decide (uL U v < 0) := by
  unfold vMk
  rw [(h.1 v hv).2.1, decide_eq_decide]
  exact (len_neg (h.2.2.2.1.2.2.2.2.2.2 v)).symm
theorem Rel.hb (h : Rel V ad kn vc Ls T vs lf U sz e) {v d : Nat} (hv : v < vs) (hd : d < 10) : vHb V (nI d) (ad v) = (decide (uD U v = d) && decide (¬ uL U v < 0)) := by
  unfold vHb
  have := h.2.2.2.2.2.2.1 v
  rw [(h.1 v hv).1, (h.1 v hv).2.1, decide_eq_decide.mpr (nI_eq (show uD U v < 2147483648 by omega) (show d < 2147483648 by omega))]
  congr 1
  rw [decide_eq_decide]
  exact not_congr (len_neg (h.2.2.2.1.2.2.2.2.2.2 v)).symm
/-- counting what stands of a document -/
theorem Rel.cnt (h : Rel V ad kn vc Ls T vs lf U sz e) {s d : Nat} (hs : s < 4) (hd : d < 10) {p : Nat → Bool} (hp : ∀ v, v < vs → p v = true → uD U v = d) : (Ls s).countP p = sT 4 (fun m => if 0 < uS U (40 * s + 4 * d + m) ∧ p (uS U (40 * s + 4 * d + m) - 1) = true then 1 else 0) := by
  rw [countP_sum, h.blk' hs hd (fun v hv hn => if_neg (fun z => hn (hp v hv z)))]
  exact sT_cg 4 (fun m _ => sF_if (p := fun v => p v = true) (x := fun _ => 1))
theorem cnt_map {L : List Nat} {ad : Nat → Nat} {p q : Nat → Bool} (h : ∀ v ∈ L, p (ad v) = q v) : (L.map ad).countP p = L.countP q := by
  rw [List.countP_map]
  exact List.countP_congr (fun v hv => by show p (ad v) = true ↔ _; rw [h v hv])
theorem Rel.siblings (h : Rel V ad kn vc Ls T vs lf U sz e) {s d : Nat} (hs : s < 4) (hd : d < 10) : (T.1 s).countP (vHb V (nI d)) = mCt U s d false 4 := by
  rw [h.2.2.2.2.1.1 s (by omega), cnt_map (q := fun v => decide (uD U v = d) && decide (¬ uL U v < 0)) (fun v hv => h.hb (h.inS hs hv) hd), h.cnt hs hd (fun v hv z => by simpa using (Bool.and_eq_true_iff.mp z).1), mCt_sum]
  refine sT_cg 4 (fun m hm => ?_)
  have h3 := (h.2.2.1 s hs).2.2
  by_cases q : 0 < uS U (40 * s + 4 * d + m)
  · have hD := (h3 (4 * d + m) (by omega) (uS U (40 * s + 4 * d + m) - 1) (by rw [show 40 * s + (4 * d + m) = 40 * s + 4 * d + m by omega]; omega)).2.1
    have e : ((decide (uD U (uS U (40 * s + 4 * d + m) - 1) = d) && decide (¬ uL U (uS U (40 * s + 4 * d + m) - 1) < 0)) = true) ↔ decide (uL U (uS U (40 * s + 4 * d + m) - 1) < 0) = false := by
      rw [decide_eq_true (show uD U (uS U (40 * s + 4 * d + m) - 1) = d by omega)]
      simp
    by_cases q2 : decide (uL U (uS U (40 * s + 4 * d + m) - 1) < 0) = false
    · rw [if_pos ⟨q, e.mpr q2⟩, if_pos ⟨q, q2⟩]
    · rw [if_neg (fun z => q2 (e.mp z.2)), if_neg (fun z => q2 z.2)]
  · rw [if_neg (fun z => q z.1), if_neg (fun z => q z.1)]
theorem Rel.marks (h : Rel V ad kn vc Ls T vs lf U sz e) {s : Nat} (hs : s < 4) : (T.1 s).countP (vMk V) = mMk U s 10 := by
  rw [h.2.2.2.2.1.1 s (by omega), cnt_map (q := fun v => decide (uL U v < 0)) (fun v hv => h.mkV (h.inS hs hv)), countP_sum, h.sum hs]
  show sT 40 (sF U s (fun v => if decide (uL U v < 0) = true then 1 else 0)) = _
  rw [sT_40, mMk_sum]
  refine sT_cg 10 (fun d hd => ?_)
  rw [mCt_sum]
  have e' : ∀ m, sF U s (fun v => if decide (uL U v < 0) = true then 1 else 0) (4 * d + m) = if 0 < uS U (40 * s + 4 * d + m) ∧ decide (uL U (uS U (40 * s + 4 * d + m) - 1) < 0) = true then 1 else 0 := fun m => sF_if (p := fun v => decide (uL U v < 0) = true) (x := fun _ => 1)
  rw [← sT_cg 4 (fun m _ => e' m)]
  obtain ⟨f, hf⟩ : ∃ f : Nat → Nat, f = fun v => if decide (uL U v < 0) = true then 1 else 0 := ⟨_, rfl⟩
  rw [← hf]
  show sF U s f (4 * d + 0) + sF U s f (4 * d + 1) + sF U s f (4 * d + 2) + sF U s f (4 * d + 3) = 0 + sF U s f (4 * d + 0) + sF U s f (4 * d + 1) + sF U s f (4 * d + 2) + sF U s f (4 * d + 3)
  rw [Nat.zero_add]
theorem Rel.allB (h : Rel V ad kn vc Ls T vs lf U sz e) (s : Nat) : ∀ n, mAl U s n = nI (sT n (fun k => if 0 < uS U (40 * s + k) then byN U (uS U (40 * s + k) - 1) else 0))
  | 0 => rfl
  | n + 1 => by
    rw [mAl, sT, h.allB s n]
    split
    · rw [(h.by _).2, nI_add]
    · rfl
theorem foldl_map' {by' : Nat → Int32} {ad : Nat → Nat} : ∀ (L : List Nat) (b : Int32), (L.map ad).foldl (fun b y => b + by' y) b = L.foldl (fun b v => b + by' (ad v)) b
  | [], _ => rfl
  | x :: r, b => by rw [List.map_cons, List.foldl_cons, List.foldl_cons, foldl_map' r]
theorem Rel.bytes (h : Rel V ad kn vc Ls T vs lf U sz e) {s : Nat} (hs : s < 4) : (T.1 s).foldl (fun b y => b + vBy V y) 0 = mAl U s 40 := by
  rw [h.2.2.2.2.1.1 s (by omega), foldl_map', show (0 : Int32) = nI 0 from rfl, foldl_n (f := byN U) _ 0 (fun v hv => h.byV (h.inS hs hv)), Nat.zero_add, h.sum hs, ← h.allB]
theorem Rel.rmA0 (h : Rel V ad kn vc Ls T vs lf U sz e) {v : Nat} : ∀ (L : List Nat) (b : Nat), (∀ w ∈ L, w < vs) → (L.map ad).foldl (fun b y => if vRp V (ad v) y then b else b + vBy V y) (nI b) = nI (b + (L.map (fun w => if vRp V (ad v) (ad w) then 0 else byN U w)).sum)
  | [], b, _ => by simp
  | x :: r, b, hw => by
    rw [List.map_cons, List.foldl_cons, List.map_cons, List.sum_cons]
    have hx := hw x List.mem_cons_self
    have hr := fun y hy => hw y (List.mem_cons_of_mem x hy)
    cases hp : vRp V (ad v) (ad x)
    · rw [if_neg (by decide), if_neg (by decide), h.byV hx, nI_add, h.rmA0 r (b + byN U x) hr, Nat.add_assoc]
    · rw [if_pos rfl, if_pos rfl, h.rmA0 r b hr, Nat.zero_add]
theorem Rel.rmA (h : Rel V ad kn vc Ls T vs lf U sz e) {s v : Nat} (hs : s < 4) (hv : v < vs) : bwL V (ad v) (T.1 s) = nI (byN U v + ((Ls s).map (fun w => if vRp V (ad v) (ad w) then 0 else byN U w)).sum) := by
  rw [bwL, h.2.2.2.2.1.1 s (by omega), h.byV hv, h.rmA0 (Ls s) (byN U v) (fun w hw => h.inS hs hw)]
theorem sum_split {p : Nat → Bool} {f : Nat → Nat} : ∀ L : List Nat, (L.map f).sum = (L.map (fun w => if p w then 0 else f w)).sum + (L.map (fun w => if p w then f w else 0)).sum
  | [] => rfl
  | x :: r => by
    simp only [List.map_cons, List.sum_cons]
    have ih := sum_split (p := p) (f := f) r
    split <;> omega
theorem sT_4e {g : Nat → Nat} : sT 4 g = g 0 + g 1 + g 2 + g 3 := by
  rw [sT, sT, sT, sT, sT, Nat.zero_add]
theorem sT_mono {g : Nat → Nat} : ∀ n k, sT n g ≤ sT (n + k) g
  | n, 0 => Nat.le_refl _
  | n, k + 1 => Nat.le_trans (sT_mono n k) (by rw [← Nat.add_assoc, sT]; omega)
theorem Rel.rmB (h : Rel V ad kn vc Ls T vs lf U sz e) {s v : Nat} (hs : s < 4) (hv : v < vs) {g : Nat → Nat} (hgm : ∀ m, g m = if 0 < uS U (40 * s + 4 * uD U v + m) ∧ vRp V (ad v) (ad (uS U (40 * s + 4 * uD U v + m) - 1)) = true then byN U (uS U (40 * s + 4 * uD U v + m) - 1) else 0) (htot : sT 4 g ≤ ((Ls s).map (byN U)).sum) : ∀ n, n ≤ 4 → mHr U s v n = nI (((Ls s).map (byN U)).sum + byN U v - sT n g) := by
  have hd := h.2.2.2.2.2.2.1 v
  have h3 := (h.2.2.1 s hs).2.2
  intro n
  induction n with
  | zero =>
    intro _
    rw [mHr, show sT 0 g = 0 from rfl, Nat.sub_zero, h.allB, (h.by v).2, nI_add, ← h.sum hs]
  | succ n ih =>
    intro hn
    have i1 := ih (by omega)
    have hmm := sT_mono (g := g) (n + 1) (4 - (n + 1))
    rw [show n + 1 + (4 - (n + 1)) = 4 by omega, sT] at hmm
    rw [sT, mHr]
    have hq : (0 < uS U (40 * s + 4 * uD U v + n) ∧ cov4 (mVc U v) (mVc U (uS U (40 * s + 4 * uD U v + n) - 1)) = true) ↔ (0 < uS U (40 * s + 4 * uD U v + n) ∧ vRp V (ad v) (ad (uS U (40 * s + 4 * uD U v + n) - 1)) = true) := by
      refine and_congr_right (fun q => ?_)
      obtain ⟨w1, w2, w3⟩ := h3 (4 * uD U v + n) (by omega) (uS U (40 * s + 4 * uD U v + n) - 1) (by rw [show 40 * s + (4 * uD U v + n) = 40 * s + 4 * uD U v + n by omega]; omega)
      rw [h.cov hv w1, h.rp hv w1]
      exact ⟨fun z => ⟨by omega, z⟩, fun z => z.2⟩
    by_cases q : 0 < uS U (40 * s + 4 * uD U v + n) ∧ vRp V (ad v) (ad (uS U (40 * s + 4 * uD U v + n) - 1)) = true
    · rw [if_pos (hq.mpr q), i1, (h.by _).2]
      have hgn : g n = byN U (uS U (40 * s + 4 * uD U v + n) - 1) := by rw [hgm]; exact if_pos q
      rw [hgn] at hmm ⊢
      rw [pk_sub (by omega), Nat.sub_sub]
    · rw [if_neg (fun z => q (hq.mp z)), i1]
      have hgn : g n = 0 := by rw [hgm]; exact if_neg q
      rw [hgn, Nat.add_zero]
/-- room at a station -/
theorem Rel.room300 (h : Rel V ad kn vc Ls T vs lf U sz e) {s v : Nat} (hs : s < 4) (hv : v < vs) : bwL V (ad v) (T.1 s) = mHr U s v 4 := by
  have hd := h.2.2.2.2.2.2.1 v
  have hsp := sum_split (p := fun w => vRp V (ad v) (ad w)) (f := byN U) (Ls s)
  have hb : ((Ls s).map (fun w => if vRp V (ad v) (ad w) = true then byN U w else 0)).sum = sT 4 (fun m => sF U s (fun w => if vRp V (ad v) (ad w) = true then byN U w else 0) (4 * uD U v + m)) := h.blk' hs hd (fun w hw hn => if_neg (fun z => hn ((h.rp hv hw).mp z).1.symm))
  rw [h.rmA hs hv, h.rmB hs hv (g := fun m => sF U s (fun w => if vRp V (ad v) (ad w) = true then byN U w else 0) (4 * uD U v + m)) (fun m => sF_if (p := fun w => vRp V (ad v) (ad w) = true)) (by rw [← hb, hsp]; exact Nat.le_add_left _ _) 4 (Nat.le_refl _), ← hb, hsp]
  refine congrArg nI ?_
  omega
end RelS
