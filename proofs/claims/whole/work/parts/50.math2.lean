/-! ===== mathematics (2): sums, slots, places ===== -/
def sT : Nat → (Nat → Nat) → Nat
  | 0, _ => 0
  | n + 1, f => sT n f + f n
theorem sT_cg {f g : Nat → Nat} : ∀ n, (∀ k, k < n → f k = g k) → sT n f = sT n g
  | 0, _ => rfl
  | n + 1, h => by rw [sT, sT, sT_cg n (fun k hk => h k (by omega)), h n (by omega)]
theorem sT_0 {f : Nat → Nat} : ∀ n, (∀ k, k < n → f k = 0) → sT n f = 0
  | 0, _ => rfl
  | n + 1, h => by rw [sT, sT_0 n (fun k hk => h k (by omega)), h n (by omega)]
theorem sT_add {f g : Nat → Nat} : ∀ n, sT n (fun k => f k + g k) = sT n f + sT n g
  | 0 => rfl
  | n + 1 => by rw [sT, sT, sT, sT_add n]; omega
theorem sT_le {f : Nat → Nat} {b : Nat} (h : ∀ k, f k ≤ b) : ∀ n, sT n f ≤ n * b
  | 0 => by simp [sT]
  | n + 1 => by rw [sT, Nat.succ_mul]; have := sT_le h n; have := h n; omega
theorem sT_blk {f : Nat → Nat} {a : Nat} : ∀ n, a + 4 ≤ n → (∀ k, k < n → ¬ (a ≤ k ∧ k < a + 4) → f k = 0) → sT n f = f a + f (a + 1) + f (a + 2) + f (a + 3) := by
  intro n hn h
  obtain ⟨m, rfl⟩ : ∃ m, n = a + 4 + m := ⟨n - (a + 4), by omega⟩
  clear hn
  induction m with
  | zero =>
    rw [Nat.add_zero, sT, sT, sT, sT, sT_0 a (fun k hk => h k (by omega) (by omega))]
    omega
  | succ m ih =>
    rw [show a + 4 + (m + 1) = a + 4 + m + 1 by omega, sT, ih (fun k hk => h k (by omega)), h (a + 4 + m) (by omega) (by omega)]
    omega
theorem sT_4 {f : Nat → Nat} : ∀ n, sT (4 * n) f = sT n (fun d => f (4 * d) + f (4 * d + 1) + f (4 * d + 2) + f (4 * d + 3))
  | 0 => rfl
  | n + 1 => by
    rw [show 4 * (n + 1) = 4 * n + 3 + 1 by omega, sT, sT, sT, sT, sT, sT_4 n]
    omega
theorem sT_40 {f : Nat → Nat} : sT 40 f = sT 10 (fun d => f (4 * d) + f (4 * d + 1) + f (4 * d + 2) + f (4 * d + 3)) := sT_4 10
/-- the versions in slots -/
def sLs (S : Nat → Nat) : Nat → List Nat
  | 0 => []
  | n + 1 => if 0 < S n then sLs S n ++ [S n - 1] else sLs S n
theorem sLs_mem {S : Nat → Nat} {v : Nat} : ∀ n, v ∈ sLs S n ↔ ∃ k, k < n ∧ S k = v + 1
  | 0 => by simp [sLs]
  | n + 1 => by
    rw [sLs]
    split
    · rename_i q
      rw [List.mem_append, sLs_mem n, List.mem_singleton]
      constructor
      · rintro (⟨k, hk, e⟩ | e)
        · exact ⟨k, by omega, e⟩
        · exact ⟨n, by omega, by omega⟩
      · rintro ⟨k, hk, e⟩
        by_cases hkn : k = n
        · subst hkn; exact Or.inr (by omega)
        · exact Or.inl ⟨k, by omega, e⟩
    · rename_i q
      rw [sLs_mem n]
      constructor
      · rintro ⟨k, hk, e⟩; exact ⟨k, by omega, e⟩
      · rintro ⟨k, hk, e⟩
        by_cases hkn : k = n
        · subst hkn; omega
        · exact ⟨k, by omega, e⟩
theorem sLs_len {S : Nat → Nat} : ∀ n, (sLs S n).length ≤ n
  | 0 => by simp [sLs]
  | n + 1 => by
    have := sLs_len (S := S) n
    rw [sLs]; split
    · simp; omega
    · omega
theorem sLs_nodup {S : Nat → Nat} : ∀ n, (∀ j k, j < n → k < n → 0 < S j → S j = S k → j = k) → (sLs S n).Nodup
  | 0, _ => by simp [sLs]
  | n + 1, h => by
    rw [sLs]
    have ih := sLs_nodup (S := S) n (fun j k hj hk => h j k (by omega) (by omega))
    split
    · rename_i q
      rw [List.nodup_append]
      refine ⟨ih, by simp, fun a ha b hb => ?_⟩
      rw [List.mem_singleton] at hb
      obtain ⟨k, hk, e⟩ := (sLs_mem n).mp ha
      rintro rfl
      have := h k n (by omega) (by omega) (by omega) (by omega)
      omega
    · exact ih
theorem sLs_sum {S : Nat → Nat} {f : Nat → Nat} : ∀ n, ((sLs S n).map f).sum = sT n (fun k => if 0 < S k then f (S k - 1) else 0)
  | 0 => rfl
  | n + 1 => by
    rw [sLs, sT, ← sLs_sum n]
    split
    · simp
    · simp
theorem sorted_nodup {key : Nat → Nat} {L : List Nat} (hs : L.Pairwise (fun a b => key a < key b)) : L.Nodup :=
  hs.imp (fun {a b} h e => by rw [e] at h; exact Nat.lt_irrefl _ h)
theorem slots_perm {key : Nat → Nat} {L : List Nat} {S : Nat → Nat} {n : Nat} (hs : L.Pairwise (fun a b => key a < key b)) (hS : ∀ j k, j < n → k < n → 0 < S j → S j = S k → j = k) (hm : ∀ v, v ∈ L ↔ ∃ k, k < n ∧ S k = v + 1) : L.Perm (sLs S n) :=
  (List.perm_ext_iff_of_nodup (sorted_nodup hs) (sLs_nodup n hS)).mpr (fun v => by rw [hm, sLs_mem])
theorem slots_sum {key : Nat → Nat} {L : List Nat} {S : Nat → Nat} {n : Nat} (hs : L.Pairwise (fun a b => key a < key b)) (hS : ∀ j k, j < n → k < n → 0 < S j → S j = S k → j = k) (hm : ∀ v, v ∈ L ↔ ∃ k, k < n ∧ S k = v + 1) (f : Nat → Nat) : (L.map f).sum = sT n (fun k => if 0 < S k then f (S k - 1) else 0) := by
  rw [← sLs_sum]
  exact ((slots_perm hs hS hm).map f).sum_nat
theorem slots_len {key : Nat → Nat} {L : List Nat} {S : Nat → Nat} {n : Nat} (hs : L.Pairwise (fun a b => key a < key b)) (hS : ∀ j k, j < n → k < n → 0 < S j → S j = S k → j = k) (hm : ∀ v, v ∈ L ↔ ∃ k, k < n ∧ S k = v + 1) : L.length ≤ n := by
  rw [(slots_perm hs hS hm).length_eq]
  exact sLs_len n
theorem countP_sum {p : Nat → Bool} : ∀ L : List Nat, L.countP p = (L.map (fun v => if p v then 1 else 0)).sum
  | [] => rfl
  | x :: r => by
    rw [List.countP_cons, List.map_cons, List.sum_cons, countP_sum r]
    split <;> omega
theorem foldl_n {by' : Nat → Int32} {f : Nat → Nat} : ∀ (L : List Nat) (b : Nat), (∀ y ∈ L, by' y = nI (f y)) → L.foldl (fun b y => b + by' y) (nI b) = nI (b + (L.map f).sum)
  | [], b, _ => by simp
  | x :: r, b, h => by
    rw [List.foldl_cons, h x List.mem_cons_self, nI_add, foldl_n r (b + f x) (fun y hy => h y (List.mem_cons_of_mem _ hy)), List.map_cons, List.sum_cons, Nat.add_assoc]
theorem foldlf_n {by' : Nat → Int32} {f : Nat → Nat} {p : Nat → Bool} : ∀ (L : List Nat) (b : Nat), (∀ y ∈ L, by' y = nI (f y)) → L.foldl (fun b y => if p y then b else b + by' y) (nI b) = nI (b + (L.map (fun y => if p y then 0 else f y)).sum)
  | [], b, _ => by simp
  | x :: r, b, h => by
    rw [List.foldl_cons, List.map_cons, List.sum_cons]
    cases hp : p x
    · rw [if_neg (by decide), h x List.mem_cons_self, nI_add, foldlf_n r (b + f x) (fun y hy => h y (List.mem_cons_of_mem _ hy)), if_neg (by decide), Nat.add_assoc]
    · rw [if_pos rfl, if_pos rfl, foldlf_n r b (fun y hy => h y (List.mem_cons_of_mem _ hy)), Nat.zero_add]
theorem kth_iff {p : Nat → Bool} {k : Int32} {key : Nat → Nat} : ∀ (L : List Nat) (b : Nat), L.Pairwise (fun a b => key a < key b) → b + L.length < 1000 → ∀ y, kth p k L b = some y ↔ y ∈ L ∧ p y = true ∧ nI (b + L.countP (fun z => p z && decide (key z < key y))) = k := by
  intro L
  induction L with
  | nil => intro b _ _ y; simp [kth]
  | cons x r ih =>
    intro b hs hl y
    rw [List.pairwise_cons] at hs
    rw [List.length_cons] at hl
    have hx0 : ∀ q : Nat → Bool, (∀ z, q z = true → key z < key x) → r.countP q = 0 := by
      intro q hq
      rw [List.countP_eq_zero]
      intro z hz hqz
      have := hs.1 z hz
      have := hq z hqz
      omega
    have hcx : (x :: r).countP (fun z => p z && decide (key z < key x)) = 0 := by
      rw [List.countP_cons, hx0 _ (fun z hz => by simpa using (Bool.and_eq_true_iff.mp hz).2)]
      simp
    rw [kth]
    cases hp : p x
    · rw [if_neg (by decide), ih b hs.2 (by omega) y]
      constructor
      · rintro ⟨h1, h2, h3⟩
        refine ⟨List.mem_cons_of_mem _ h1, h2, ?_⟩
        rw [List.countP_cons, hp]; simpa using h3
      · rintro ⟨h1, h2, h3⟩
        rcases List.mem_cons.mp h1 with rfl | h1
        · rw [hp] at h2; cases h2
        · refine ⟨h1, h2, ?_⟩
          rw [List.countP_cons, hp] at h3; simpa using h3
    · rw [if_pos rfl]
      by_cases hb : nI b = k
      · rw [if_pos hb]
        constructor
        · intro e
          cases e
          exact ⟨List.mem_cons_self, hp, by rw [hcx]; exact hb⟩
        · rintro ⟨h1, h2, h3⟩
          rcases List.mem_cons.mp h1 with rfl | h1
          · rfl
          · exfalso
            rw [List.countP_cons, hp] at h3
            have hxy := hs.1 y h1
            simp [hxy] at h3
            have hcl := List.countP_le_length (p := fun z => p z && decide (key z < key y)) (l := r)
            have := n_eq (hb.trans h3.symm) (by omega) (by omega)
            omega
      · rw [if_neg hb, ih (b + 1) hs.2 (by omega) y]
        constructor
        · rintro ⟨h1, h2, h3⟩
          refine ⟨List.mem_cons_of_mem _ h1, h2, ?_⟩
          have hxy := hs.1 y h1
          rw [List.countP_cons, hp]
          simp [hxy]
          rw [show b + (r.countP (fun z => p z && decide (key z < key y)) + 1) = b + 1 + r.countP (fun z => p z && decide (key z < key y)) by omega]
          exact h3
        · rintro ⟨h1, h2, h3⟩
          rcases List.mem_cons.mp h1 with rfl | h1
          · rw [hcx] at h3; exact absurd h3 hb
          · refine ⟨h1, h2, ?_⟩
            have hxy := hs.1 y h1
            rw [List.countP_cons, hp] at h3
            simp [hxy] at h3
            rw [show b + 1 + r.countP (fun z => p z && decide (key z < key y)) = b + (r.countP (fun z => p z && decide (key z < key y)) + 1) by omega]
            exact h3
theorem kth_map {p : Nat → Bool} {k : Int32} {ad : Nat → Nat} : ∀ (L : List Nat) (b : Nat), kth p k (L.map ad) b = (kth (fun v => p (ad v)) k L b).map ad
  | [], b => rfl
  | x :: r, b => by
    rw [List.map_cons, kth, kth]
    split
    · split
      · rfl
      · exact kth_map r (b + 1)
    · exact kth_map r b
theorem smL_iff {V : gV} {ad : Nat → Nat} : ∀ (L M : List Nat), (∀ v ∈ L, ∀ w ∈ M, vCm V (ad v) (ad w) = 0 ↔ v = w) → (smL V (L.map ad) (M.map ad) = true ↔ L = M)
  | [], [], _ => by simp [smL]
  | [], y :: r, _ => by simp [smL]
  | x :: r, [], _ => by simp [smL]
  | x :: r, y :: r', h => by
    rw [List.map_cons, List.map_cons, smL_cc, Bool.and_eq_true, decide_eq_true_eq, h x List.mem_cons_self y List.mem_cons_self, smL_iff r r' (fun v hv w hw => h v (List.mem_cons_of_mem _ hv) w (List.mem_cons_of_mem _ hw)), List.cons.injEq]
/-- sorted lists with the same members are the same -/
theorem sorted_ext {key : Nat → Nat} {L M : List Nat} (hL : L.Pairwise (fun a b => key a < key b)) (hM : M.Pairwise (fun a b => key a < key b)) (h : ∀ v, v ∈ L ↔ v ∈ M) : L = M := by
  have hp : L.Perm M := (List.perm_ext_iff_of_nodup (sorted_nodup hL) (sorted_nodup hM)).mpr h
  exact hp.eq_of_pairwise (fun a b _ _ h1 h2 => absurd h1 (Nat.lt_asymm h2)) hL hM
