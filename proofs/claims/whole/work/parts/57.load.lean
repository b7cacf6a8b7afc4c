/-! ===== loading, on both sides ===== -/
def snU (U : gU) (vc : Nat → Nat → Nat) (v : Nat) : Nat := snK (uD U v) (vc v)
/-- the reference may load v now -/
def nxQ (U : gU) (s : Nat) (ds : Int32) (vc : Nat → Nat → Nat) (la : Option Nat) (v : Nat) : Prop := mLkN U s v ds 4 = true ∧ ∀ w, la = some w → snU U vc w < snU U vc v
section RelY
variable {V : gV} {ad kn : Nat → Nat} {vc : Nat → Nat → Nat} {Ls : Nat → List Nat} {T : gT} {vs : Nat} {lf : Int32} {U : gU} {sz e : Nat}
theorem Rel.snq (h : Rel V ad kn vc Ls T vs lf U sz e) {v w : Nat} (hv : v < vs) (hw : w < vs) (q : snU U vc v = snU U vc w) : v = w := by
  have b1 := ky_lt (h.1 v hv).2.2.2.2.1 (h.2.2.2.2.2.2.1 v)
  have b2 := ky_lt (h.1 w hw).2.2.2.2.1 (h.2.2.2.2.2.2.1 w)
  refine h.keq hv hw ?_
  unfold snU snK at q
  unfold kyU
  omega
theorem Rel.nx (h : Rel V ad kn vc Ls T vs lf U sz e) {s : Nat} (hs : s < 4) {ds : Int32} {la : Option Nat} (hla : ∀ w, la = some w → w < vs) : ∀ n, n ≤ 40 → match mNx U s ds la n with
    | none => ∀ k v, k < n → uS U (40 * s + k) = v + 1 → ¬ nxQ U s ds vc la v
    | some f => (∃ k, k < n ∧ uS U (40 * s + k) = f + 1) ∧ nxQ U s ds vc la f ∧ ∀ k v, k < n → uS U (40 * s + k) = v + 1 → nxQ U s ds vc la v → snU U vc f ≤ snU U vc v := by
  have r3 := (h.2.2.1 s hs).2.2
  intro n
  induction n with
  | zero => intro _; show ∀ k v, k < 0 → _; intro k v hk; omega
  | succ n ih =>
    intro hn
    have ih := ih (by omega)
    rw [mNx]
    by_cases hS : 0 < uS U (40 * s + n)
    · obtain ⟨v, hv⟩ : ∃ v, uS U (40 * s + n) = v + 1 := ⟨uS U (40 * s + n) - 1, by omega⟩
      obtain ⟨w1, w2, w3⟩ := r3 n (by omega) v hv
      rw [hv, Nat.add_sub_cancel]
      have hq : (mLkN U s v ds 4 = true ∧ (∀ w, la = some w → mSn U w v = true)) ↔ nxQ U s ds vc la v := by
        unfold nxQ
        refine and_congr_right (fun _ => ⟨fun z w hw => (h.sn (hla w hw) w1).mp (z w hw), fun z w hw => (h.sn (hla w hw) w1).mpr (z w hw)⟩)
      cases hf : mNx U s ds la n with
      | none =>
        rw [hf] at ih
        by_cases q : nxQ U s ds vc la v
        · rw [if_pos ⟨by omega, (hq.mpr q).1, (hq.mpr q).2, fun f z => by cases z⟩]
          refine ⟨⟨n, by omega, hv⟩, q, fun k u hk hu hqu => ?_⟩
          by_cases hkn : k = n
          · subst hkn; rw [hv] at hu; have : u = v := by omega
            rw [this]; exact Nat.le_refl _
          · exact absurd hqu (ih k u (by omega) hu)
        · rw [if_neg (fun z => q (hq.mp ⟨z.2.1, z.2.2.1⟩))]
          intro k u hk hu
          by_cases hkn : k = n
          · subst hkn; rw [hv] at hu; have : u = v := by omega
            rw [this]; exact q
          · exact ih k u (by omega) hu
      | some f =>
        rw [hf] at ih
        obtain ⟨⟨kf, kf1, kf2⟩, f2, f3⟩ := ih
        have hfv : f < vs := (r3 kf (by omega) f kf2).1
        by_cases q : nxQ U s ds vc la v ∧ snU U vc v < snU U vc f
        · rw [if_pos ⟨by omega, (hq.mpr q.1).1, (hq.mpr q.1).2, fun f' z => by cases z; exact (h.sn w1 hfv).mpr q.2⟩]
          refine ⟨⟨n, by omega, hv⟩, q.1, fun k u hk hu hqu => ?_⟩
          by_cases hkn : k = n
          · subst hkn; rw [hv] at hu; have : u = v := by omega
            rw [this]; exact Nat.le_refl _
          · have := f3 k u (by omega) hu hqu
            omega
        · rw [if_neg (fun z => q ⟨hq.mp ⟨z.2.1, z.2.2.1⟩, (h.sn w1 hfv).mp (z.2.2.2 f rfl)⟩)]
          refine ⟨⟨kf, by omega, kf2⟩, f2, fun k u hk hu hqu => ?_⟩
          by_cases hkn : k = n
          · subst hkn; rw [hv] at hu; have hu' : u = v := by omega
            rw [hu'] at hqu ⊢
            by_cases q2 : snU U vc v < snU U vc f
            · exact absurd ⟨hqu, q2⟩ q
            · omega
          · exact f3 k u (by omega) hu hqu
    · rw [if_neg (fun z => hS z.1)]
      cases hf : mNx U s ds la n with
      | none =>
        rw [hf] at ih
        intro k u hk hu
        by_cases hkn : k = n
        · subst hkn; omega
        · exact ih k u (by omega) hu
      | some f =>
        rw [hf] at ih
        obtain ⟨⟨kf, kf1, kf2⟩, f2, f3⟩ := ih
        refine ⟨⟨kf, by omega, kf2⟩, f2, fun k u hk hu hqu => ?_⟩
        by_cases hkn : k = n
        · subst hkn; omega
        · exact f3 k u (by omega) hu hqu
/-- the list to be loaded is in the reference's order -/
theorem Rel.hd (h : Rel V ad kn vc Ls T vs lf U sz e) {s : Nat} (hs : s < 4) {ds : Int32} {TL pre r : List Nat} (hTL : TL = pre ++ r) (hso : TL.Pairwise (fun a b => snU U vc a < snU U vc b)) (hm : ∀ v, v ∈ TL ↔ v ∈ Ls s ∧ mLkN U s v ds 4 = true) {la : Option Nat} (hla : ∀ w, la = some w → w < vs) (hr : ∀ v, v ∈ TL → ((∀ w, la = some w → snU U vc w < snU U vc v) ↔ v ∈ r)) : mNx U s ds la 40 = r.head? := by
  have z := h.nx hs hla (ds := ds) 40 (Nat.le_refl _)
  have r2 := (h.2.2.1 s hs).2.1
  cases hf : mNx U s ds la 40 with
  | none =>
    rw [hf] at z
    cases r with
    | nil => rfl
    | cons x r' =>
      exfalso
      have hx : x ∈ TL := by rw [hTL]; simp
      obtain ⟨a1, a2⟩ := (hm x).mp hx
      obtain ⟨k, hk, e'⟩ := (r2 x).mp a1
      exact z k x hk e' ⟨a2, (hr x hx).mpr (by simp)⟩
  | some f =>
    rw [hf] at z
    obtain ⟨⟨kf, kf1, kf2⟩, f2, f3⟩ := z
    have hfT : f ∈ TL := (hm f).mpr ⟨(r2 f).mpr ⟨kf, kf1, kf2⟩, f2.1⟩
    have hfr : f ∈ r := (hr f hfT).mp f2.2
    cases r with
    | nil => cases hfr
    | cons x r' =>
      have hx : x ∈ TL := by rw [hTL]; simp
      obtain ⟨a1, a2⟩ := (hm x).mp hx
      obtain ⟨k, hk, e'⟩ := (r2 x).mp a1
      have hle := f3 k x hk e' ⟨a2, (hr x hx).mpr (by simp)⟩
      rcases List.mem_cons.mp hfr with rfl | hfr'
      · rfl
      · exfalso
        rw [hTL, List.pairwise_append, List.pairwise_cons] at hso
        have := hso.2.1.1 f hfr'
        omega
theorem Rel.chn (h : Rel V ad kn vc Ls T vs lf U sz e) (hvs : vs ≤ 4100) {s : Nat} (hs : s < 4) {ds : Int32} {TL : List Nat} (hso : TL.Pairwise (fun a b => snU U vc a < snU U vc b)) (hm : ∀ v, v ∈ TL ↔ v ∈ Ls s ∧ mLkN U s v ds 4 = true) : mNx U s ds none 40 = TL.head? ∧ NCh U s ds TL := by
  refine ⟨h.hd hs (pre := []) rfl hso hm (fun w z => by cases z) (fun v hv => ⟨fun _ => hv, fun _ w z => by cases z⟩), ?_⟩
  have go : ∀ (r pre : List Nat), TL = pre ++ r → NCh U s ds r := by
    intro r
    induction r with
    | nil => intro pre _; trivial
    | cons v r ih =>
      intro pre hp
      have hvT : v ∈ TL := by rw [hp]; simp
      have hvv := h.inS hs ((hm v).mp hvT).1
      have hp2 : TL = (pre ++ [v]) ++ r := by rw [hp]; simp
      have hso2 := hso
      rw [hp, List.pairwise_append, List.pairwise_cons] at hso2
      refine ⟨h.hd hs hp2 hso hm (fun w z => by cases z; exact hvv) (fun u hu => ?_), by omega, ih (pre ++ [v]) hp2⟩
      constructor
      · intro z
        have z := z v rfl
        rw [hp] at hu
        rcases List.mem_append.mp hu with hu | hu
        · have := hso2.2.2 u hu v (by simp)
          omega
        · rcases List.mem_cons.mp hu with rfl | hu
          · omega
          · exact hu
      · intro hu w z
        cases z
        exact hso2.2.1.1 u hu
  exact go TL [] rfl
/-- what the class chooses to load -/
theorem Rel.ch (h : Rel V ad kn vc Ls T vs lf U sz e) {s : Nat} (hs : s < 4) {ds : Int32} : ∃ TL : List Nat, chL V (T.2.1 s) s ds (T.1 s) = TL.map ad ∧ TL.Pairwise (fun a b => snU U vc a < snU U vc b) ∧ ∀ v, v ∈ TL ↔ v ∈ Ls s ∧ mLkN U s v ds 4 = true := by
  obtain ⟨r1, r2, r3⟩ := h.2.2.1 s hs
  have hsn : ∀ v, v < vs → snU U vc v = smK (vc v) * 1099511627776 + kyU U vc v ∧ kyU U vc v < 1099511627776 := fun v hv => ⟨rfl, (ky_lt (h.1 v hv).2.2.2.2.1 (h.2.2.2.2.2.2.1 v)).2⟩
  have go : ∀ (L A : List Nat), (∀ v ∈ L, v < vs) → (∀ v ∈ A, v < vs) → A.Pairwise (fun a b => snU U vc a < snU U vc b) → L.Pairwise (fun a b => kyU U vc a < kyU U vc b) → (∀ a ∈ A, ∀ b ∈ L, kyU U vc a < kyU U vc b) → ∃ B : List Nat, (L.map ad).foldl (fun a x => if vLkA V (T.2.1 s) s ds x then insB V x a else a) (A.map ad) = B.map ad ∧ B.Pairwise (fun a b => snU U vc a < snU U vc b) ∧ ∀ v, v ∈ B ↔ v ∈ A ∨ (v ∈ L ∧ mLkN U s v ds 4 = true) := by
    intro L
    induction L with
    | nil => intro A _ _ hA _ _; exact ⟨A, rfl, hA, fun v => by simp⟩
    | cons x r ih =>
      intro A hL hAv hA hLs hAL
      have hxv := hL x List.mem_cons_self
      rw [List.pairwise_cons] at hLs
      rw [List.map_cons, List.foldl_cons, h.lk hxv hs]
      cases hl : mLkN U s x ds 4
      · rw [if_neg (by decide)]
        obtain ⟨B, b1, b2, b3⟩ := ih A (fun v hv => hL v (List.mem_cons_of_mem _ hv)) hAv hA hLs.2 (fun a ha b hb => hAL a ha b (List.mem_cons_of_mem _ hb))
        refine ⟨B, b1, b2, fun v => ?_⟩
        rw [b3, List.mem_cons]
        constructor
        · rintro (z | ⟨z1, z2⟩)
          · exact Or.inl z
          · exact Or.inr ⟨Or.inr z1, z2⟩
        · rintro (z | ⟨rfl | z1, z2⟩)
          · exact Or.inl z
          · rw [hl] at z2; cases z2
          · exact Or.inr ⟨z1, z2⟩
      · rw [if_pos rfl]
        obtain ⟨p, hp⟩ : ∃ p, p = scn (fun w => decide (vSm V (ad x) < vSm V (ad w))) A A.length := ⟨_, rfl⟩
        have e1 : insB V (ad x) (A.map ad) = (insA A p x).map ad := by
          unfold insB
          rw [plb_scn, List.length_map, scn_map _ (Nat.le_refl _), insA_map, hp]
        have hgt : ∀ w, w < vs → ((decide (vSm V (ad x) < vSm V (ad w))) = true ↔ smK (vc x) < smK (vc w)) := by
          intro w hw
          have s1 := smK_le (h.1 x hxv).2.2.2.2.1
          have s2 := smK_le (h.1 w hw).2.2.2.2.1
          rw [decide_eq_true_eq, (h.sm hxv).1, (h.sm hw).1, nI_ltI (by omega) (by omega)]
        have sp := scn_split (key := snU U vc) (g := fun w => decide (vSm V (ad x) < vSm V (ad w))) (L := A) (x := x) hA (fun y hy gy z hz hyz => by
          rw [hgt y (hAv y hy)] at gy
          rw [hgt z (hAv z hz)]
          have q1 := hsn y (hAv y hy)
          have q2 := hsn z (hAv z hz)
          omega)
        rw [← hp] at sp
        have hA2 : (insA A p x).Pairwise (fun a b => snU U vc a < snU U vc b) := by
          refine ins_sorted hA (fun y hy => ?_) (fun y hy => ?_)
          · have hyA := List.mem_of_mem_take hy
            have g := sp.1 y hy
            have g2 : ¬ smK (vc x) < smK (vc y) := fun z => by have := (hgt y (hAv y hyA)).mpr z; rw [g] at this; cases this
            have k := hAL y hyA x List.mem_cons_self
            have q1 := hsn y (hAv y hyA)
            have q2 := hsn x hxv
            omega
          · have hyA := List.mem_of_mem_drop hy
            have g := (hgt y (hAv y hyA)).mp (sp.2 y hy)
            have q1 := hsn y (hAv y hyA)
            have q2 := hsn x hxv
            omega
        rw [e1]
        obtain ⟨B, b1, b2, b3⟩ := ih (insA A p x) (fun v hv => hL v (List.mem_cons_of_mem _ hv)) (fun v hv => by rcases insA_mem hv with rfl | z; (· exact hxv); exact hAv v z) hA2 hLs.2 (fun a ha b hb => by rcases insA_mem ha with rfl | z; (· exact hLs.1 b hb); exact hAL a z b (List.mem_cons_of_mem _ hb))
        refine ⟨B, b1, b2, fun v => ?_⟩
        rw [b3, insA_iff, List.mem_cons]
        constructor
        · rintro ((rfl | z) | ⟨z1, z2⟩)
          · exact Or.inr ⟨Or.inl rfl, hl⟩
          · exact Or.inl z
          · exact Or.inr ⟨Or.inr z1, z2⟩
        · rintro (z | ⟨rfl | z1, z2⟩)
          · exact Or.inl (Or.inr z)
          · exact Or.inl (Or.inl rfl)
          · exact Or.inr ⟨z1, z2⟩
  obtain ⟨B, b1, b2, b3⟩ := go (Ls s) [] (fun v hv => h.inS hs hv) (fun v hv => by cases hv) List.Pairwise.nil r1 (fun a ha => by cases ha)
  refine ⟨B, ?_, b2, fun v => ?_⟩
  · unfold chL
    rw [h.2.2.2.2.1.1 s (by omega)]
    exact b1
  · rw [b3]; simp
/-- the loading itself -/
theorem Rel.ld {c : Nat} (hc : c < 3) {lim : Nat} : ∀ (TL : List Nat) (T : gT) (U : gU) (Ls : Nat → List Nat), Rel V ad kn vc Ls T vs lf U sz e → (∀ v ∈ TL, v < vs) → vs ≤ 4100 → (∃ q, q + 8 * uM U c ≤ 100 ∧ rmN U c (uM U c) = nI q) → ∃ Ls', Rel V ad kn vc Ls' (va_up T.1 (4 + c) (ldR V lim (T.1 (4 + c)) (TL.map ad)), T.2.1, T.2.2) vs lf (mLd c lim TL U) sz e := by
  intro TL
  induction TL with
  | nil =>
    intro T U Ls h _ _ _
    refine ⟨Ls, ?_⟩
    show Rel V ad kn vc Ls (va_up T.1 (4 + c) (T.1 (4 + c)), T.2.1, T.2.2) vs lf U sz e
    rw [up_id]
    exact h
  | cons v r ih =>
    intro T U Ls h hv hvs hq
    obtain ⟨q, q1, q2⟩ := hq
    have hvv := hv v List.mem_cons_self
    have hlen := h.rowLen hc
    have hroom := h.room hc
    have hby := h.by v
    rw [List.map_cons, ldR, mLd, hlen, hroom, h.byV hvv, ← hby.2]
    by_cases c1 : uM U c < lim
    · rw [if_pos c1, if_pos c1]
      by_cases c2 : 8 + mBy U v ≤ rmN U c (uM U c)
      · rw [if_pos c2, if_pos c2]
        have hle : 8 + byN U v ≤ q := by
          rw [hby.2, q2, n_lit 8, nI_add] at c2
          exact n_le c2 (by omega) (by omega)
        obtain ⟨b1, b2, b3, b4, b5⟩ := h.2.2.2.2.2.2
        have hR := h.2.2.2.2.1.2
        obtain ⟨Ls1, h1⟩ := h.rows hc (M' := va_up (uM U) c (uM U c + 1)) (R' := va_up (uR U) (20 * c + uM U c) v) (fun p hp => va_up_ne _ _ hp) (by rw [va_up_self]; omega) (fun p k hp hpc hk => by have := b5 p; exact va_up_ne _ _ (by omega)) (fun k hk => by
          rw [va_up_self] at hk
          by_cases hkn : k = uM U c
          · rw [hkn, va_up_self]; exact hvv
          · rw [va_up_ne _ _ (by omega)]; exact (hR c hc).2 k (by omega)) (va_up_lt b4 (by omega)) (L' := T.1 (4 + c) ++ [ad v]) (by
          rw [va_up_self, List.range_succ, List.map_append, h.row hc]
          refine congr (congrArg _ (List.map_congr_left (fun k hk => ?_))) ?_
          · have := List.mem_range.mp hk
            rw [va_up_ne _ _ (by omega)]
          · show [ad v] = [ad (va_up (uR U) (20 * c + uM U c) v (20 * c + uM U c))]
            rw [va_up_self])
        have e0 : tR (tM U (va_up (uM U) c (uM U c + 1))) (va_up (uR U) (20 * c + uM U c) v) = tM (tR U (va_up (uR U) (20 * c + uM U c) v)) (va_up (uM U) c (uM U c + 1)) := rfl
        rw [e0] at h1
        obtain ⟨Ls2, h2⟩ := ih _ _ Ls1 h1 (fun w hw => hv w (List.mem_cons_of_mem _ hw)) hvs ⟨q - 8 - byN U v, by
          show q - 8 - byN U v + 8 * (va_up (uM U) c (uM U c + 1) c) ≤ 100
          rw [va_up_self]; omega, by
          show rmN (tM (tR U (va_up (uR U) (20 * c + uM U c) v)) (va_up (uM U) c (uM U c + 1))) c (va_up (uM U) c (uM U c + 1) c) = _
          rw [va_up_self, rmN, rmN_cg (U := U) (U' := tM (tR U (va_up (uR U) (20 * c + uM U c) v)) (va_up (uM U) c (uM U c + 1))) (c := c) rfl (uM U c) (fun k hk => va_up_ne _ _ (by omega)), q2]
          show nI q - 8 - mBy U (va_up (uR U) (20 * c + uM U c) v (20 * c + uM U c)) = _
          rw [va_up_self, hby.2, n_lit 8, pk_sub (by omega), pk_sub (by omega)]⟩
        refine ⟨Ls2, ?_⟩
        rw [show (va_up T.1 (4 + c) (T.1 (4 + c) ++ [ad v]), T.2.1, T.2.2).1 (4 + c) = T.1 (4 + c) ++ [ad v] from va_up_self _ _ _] at h2
        have h2' : Rel V ad kn vc Ls2 (va_up (va_up T.1 (4 + c) (T.1 (4 + c) ++ [ad v])) (4 + c) (ldR V lim (T.1 (4 + c) ++ [ad v]) (r.map ad)), T.2.1, T.2.2) vs lf _ sz e := h2
        rw [up_up] at h2'
        exact h2'
      · rw [if_neg c2, if_neg c2]
        exact ih T U Ls h (fun w hw => hv w (List.mem_cons_of_mem _ hw)) hvs ⟨q, q1, q2⟩
    · rw [if_neg c1, if_neg c1]
      refine ⟨Ls, ?_⟩
      rw [up_id]
      exact h
end RelY
