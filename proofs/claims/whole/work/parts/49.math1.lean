/-! ===== mathematics (1): keys, sums, lists ===== -/
def kyV (u : Nat → Nat) : Nat := ((u 0 * 256 + u 1) * 256 + u 2) * 256 + u 3
def ky (d : Nat) (u : Nat → Nat) : Nat := d * 4294967296 + kyV u
def smK (u : Nat → Nat) : Nat := u 0 + u 1 + u 2 + u 3
def snK (d : Nat) (u : Nat → Nat) : Nat := smK u * 1099511627776 + ky d u
def cmpK (a b : Nat) : Int32 := if a < b then -1 else if a = b then 0 else 1
theorem cmpI_n {a b : Nat} (ha : a < 2147483648) (hb : b < 2147483648) : cmpI (nI a) (nI b) = cmpK a b := by
  unfold cmpI cmpK
  by_cases h1 : a < b
  · rw [if_pos (nI_lt h1 hb), if_pos h1]
  · rw [if_neg (fun z => h1 (n_lt z ha hb)), if_neg h1]
    by_cases h2 : a = b
    · rw [if_pos (by rw [h2]), if_pos h2]
    · rw [if_neg (fun z => h2 (n_eq z ha hb)), if_neg h2]
theorem cmpK_s {x y u w : Nat} (hu : u < 256) (hw : w < 256) : (if cmpK x y = 0 then cmpK u w else cmpK x y) = cmpK (x * 256 + u) (y * 256 + w) := by
  unfold cmpK
  rcases Nat.lt_trichotomy x y with h | h | h
  · rw [if_pos h, if_neg (by decide), if_pos (by omega)]
  · subst h
    rw [if_neg (Nat.lt_irrefl _), if_pos rfl, if_pos rfl]
    rcases Nat.lt_trichotomy u w with h | h | h
    · rw [if_pos h, if_pos (by omega)]
    · rw [if_neg (by omega), if_pos h, if_neg (by omega), if_pos (by omega)]
    · rw [if_neg (by omega), if_neg (by omega), if_neg (by omega), if_neg (by omega)]
  · have e : (if x < y then (-1 : Int32) else if x = y then 0 else 1) = 1 := by rw [if_neg (by omega), if_neg (by omega)]
    rw [e, if_neg (by decide), if_neg (by omega), if_neg (by omega)]
theorem cmpK_lt {a b : Nat} : cmpK a b < 0 ↔ a < b := by
  unfold cmpK
  by_cases h1 : a < b
  · rw [if_pos h1]; exact ⟨fun _ => h1, fun _ => by decide⟩
  · rw [if_neg h1]
    by_cases h2 : a = b
    · rw [if_pos h2]; exact ⟨fun z => absurd z (by decide), fun z => absurd z h1⟩
    · rw [if_neg h2]; exact ⟨fun z => absurd z (by decide), fun z => absurd z h1⟩
theorem cmpK_gt {a b : Nat} : 0 < cmpK a b ↔ b < a := by
  unfold cmpK
  by_cases h1 : a < b
  · rw [if_pos h1]; exact ⟨fun z => absurd z (by decide), fun z => absurd z (by omega)⟩
  · rw [if_neg h1]
    by_cases h2 : a = b
    · rw [if_pos h2]; exact ⟨fun z => absurd z (by decide), fun z => absurd z (by omega)⟩
    · rw [if_neg h2]; exact ⟨fun _ => by omega, fun _ => by decide⟩
theorem cmpK_eq {a b : Nat} : cmpK a b = 0 ↔ a = b := by
  unfold cmpK
  by_cases h1 : a < b
  · rw [if_pos h1]; exact ⟨fun z => absurd z (by decide), fun z => absurd z (by omega)⟩
  · rw [if_neg h1]
    by_cases h2 : a = b
    · rw [if_pos h2]; exact ⟨fun _ => h2, fun _ => rfl⟩
    · rw [if_neg h2]; exact ⟨fun z => absurd z (by decide), fun z => absurd z h2⟩
/-- a vector of counters -/
def vB (u : Nat → Nat) : Prop := ∀ j, j < 4 → u j ≤ 200
theorem lxs_ky {u w : Nat → Nat} {U W : Nat → Int32} {d e : Nat} (hU : ∀ j, j < 4 → U j = nI (u j)) (hW : ∀ j, j < 4 → W j = nI (w j)) (hu : vB u) (hw : vB w) (hd : d < 10) (he : e < 10) : lxs U W (cmpI (nI d) (nI e)) 4 = cmpK (ky d u) (ky e w) := by
  have u0 := hu 0 (by omega); have u1 := hu 1 (by omega); have u2 := hu 2 (by omega); have u3 := hu 3 (by omega)
  have w0 := hw 0 (by omega); have w1 := hw 1 (by omega); have w2 := hw 2 (by omega); have w3 := hw 3 (by omega)
  have s1 : lxs U W (cmpI (nI d) (nI e)) 1 = cmpK (d * 256 + u 0) (e * 256 + w 0) := by
    show (if cmpI (nI d) (nI e) = 0 then cmpI (U 0) (W 0) else cmpI (nI d) (nI e)) = _
    rw [hU 0 (by omega), hW 0 (by omega), cmpI_n (by omega) (by omega), cmpI_n (by omega) (by omega), cmpK_s (by omega) (by omega)]
  have s2 : lxs U W (cmpI (nI d) (nI e)) 2 = cmpK ((d * 256 + u 0) * 256 + u 1) ((e * 256 + w 0) * 256 + w 1) := by
    show (if lxs U W (cmpI (nI d) (nI e)) 1 = 0 then cmpI (U 1) (W 1) else lxs U W (cmpI (nI d) (nI e)) 1) = _
    rw [s1, hU 1 (by omega), hW 1 (by omega), cmpI_n (by omega) (by omega), cmpK_s (by omega) (by omega)]
  have s3 : lxs U W (cmpI (nI d) (nI e)) 3 = cmpK (((d * 256 + u 0) * 256 + u 1) * 256 + u 2) (((e * 256 + w 0) * 256 + w 1) * 256 + w 2) := by
    show (if lxs U W (cmpI (nI d) (nI e)) 2 = 0 then cmpI (U 2) (W 2) else lxs U W (cmpI (nI d) (nI e)) 2) = _
    rw [s2, hU 2 (by omega), hW 2 (by omega), cmpI_n (by omega) (by omega), cmpK_s (by omega) (by omega)]
  show (if lxs U W (cmpI (nI d) (nI e)) 3 = 0 then cmpI (U 3) (W 3) else lxs U W (cmpI (nI d) (nI e)) 3) = _
  rw [s3, hU 3 (by omega), hW 3 (by omega), cmpI_n (by omega) (by omega), cmpK_s (by omega) (by omega)]
  rw [show ky d u = (((d * 256 + u 0) * 256 + u 1) * 256 + u 2) * 256 + u 3 by unfold ky kyV; omega, show ky e w = (((e * 256 + w 0) * 256 + w 1) * 256 + w 2) * 256 + w 3 by unfold ky kyV; omega]
theorem sub_t {a b : Nat} (ha : a ≤ 200) (hb : b ≤ 200) : (nI a - nI b).toInt = (a : Int) - b := by
  rw [Int32.toInt_sub, nI_toInt (by omega), nI_toInt (by omega)]
  exact Int.bmod_eq_of_le (by omega) (by omega)
theorem sub_0 {a b : Nat} (ha : a ≤ 200) (hb : b ≤ 200) : nI a - nI b = 0 ↔ a = b := by
  rw [← Int32.toInt_inj, sub_t ha hb, show (0 : Int32).toInt = 0 from rfl]
  omega
theorem sub_n {a b : Nat} (ha : a ≤ 200) (hb : b ≤ 200) : nI a - nI b < 0 ↔ a < b := by
  rw [Int32.lt_iff_toInt_lt, sub_t ha hb, show (0 : Int32).toInt = 0 from rfl]
  omega
theorem dfN_ky {u w : Nat → Nat} {U W : Nat → Int32} (hU : ∀ j, j < 4 → U j = nI (u j)) (hW : ∀ j, j < 4 → W j = nI (w j)) (hu : vB u) (hw : vB w) : dfN U W 4 0 < 0 ↔ kyV u < kyV w := by
  have u0 := hu 0 (by omega); have u1 := hu 1 (by omega); have u2 := hu 2 (by omega); have u3 := hu 3 (by omega)
  have w0 := hw 0 (by omega); have w1 := hw 1 (by omega); have w2 := hw 2 (by omega); have w3 := hw 3 (by omega)
  have e : dfN U W 4 0 = if U 0 - W 0 = 0 then (if U 1 - W 1 = 0 then (if U 2 - W 2 = 0 then (if U 3 - W 3 = 0 then 0 else U 3 - W 3) else U 2 - W 2) else U 1 - W 1) else U 0 - W 0 := rfl
  rw [e, hU 0 (by omega), hW 0 (by omega), hU 1 (by omega), hW 1 (by omega), hU 2 (by omega), hW 2 (by omega), hU 3 (by omega), hW 3 (by omega)]
  unfold kyV
  by_cases h0 : u 0 = w 0
  · rw [if_pos ((sub_0 u0 w0).mpr h0)]
    by_cases h1 : u 1 = w 1
    · rw [if_pos ((sub_0 u1 w1).mpr h1)]
      by_cases h2 : u 2 = w 2
      · rw [if_pos ((sub_0 u2 w2).mpr h2)]
        by_cases h3 : u 3 = w 3
        · rw [if_pos ((sub_0 u3 w3).mpr h3)]
          exact ⟨fun z => absurd z (by decide), fun z => by omega⟩
        · rw [if_neg (fun z => h3 ((sub_0 u3 w3).mp z)), sub_n u3 w3]; omega
      · rw [if_neg (fun z => h2 ((sub_0 u2 w2).mp z)), sub_n u2 w2]; omega
    · rw [if_neg (fun z => h1 ((sub_0 u1 w1).mp z)), sub_n u1 w1]; omega
  · rw [if_neg (fun z => h0 ((sub_0 u0 w0).mp z)), sub_n u0 w0]; omega
theorem cov4_n {u w : Nat → Nat} {U W : Nat → Int32} (hU : ∀ j, j < 4 → U j = nI (u j)) (hW : ∀ j, j < 4 → W j = nI (w j)) (hu : vB u) (hw : vB w) : cov4 U W = true ↔ ∀ j, j < 4 → w j ≤ u j := by
  rw [cov4_iff]
  constructor
  · intro h j hj
    have z := h j hj
    rw [hU j hj, hW j hj] at z
    exact n_nlt z (by have := hu j hj; omega) (by have := hw j hj; omega)
  · intro h j hj z
    rw [hU j hj, hW j hj] at z
    have := n_lt z (by have := hu j hj; omega) (by have := hw j hj; omega)
    have := h j hj
    omega
theorem ky_eq {u w : Nat → Nat} {d e : Nat} (hu : vB u) (hw : vB w) (h : ky d u = ky e w) : d = e ∧ ∀ j, j < 4 → u j = w j := by
  have u0 := hu 0 (by omega); have u1 := hu 1 (by omega); have u2 := hu 2 (by omega); have u3 := hu 3 (by omega)
  have w0 := hw 0 (by omega); have w1 := hw 1 (by omega); have w2 := hw 2 (by omega); have w3 := hw 3 (by omega)
  unfold ky kyV at h
  have e0 : d = e := by omega
  have e1 : u 0 = w 0 := by omega
  have e2 : u 1 = w 1 := by omega
  have e3 : u 2 = w 2 := by omega
  have e4 : u 3 = w 3 := by omega
  refine ⟨e0, fun j hj => ?_⟩
  match j, hj with
  | 0, _ => exact e1
  | 1, _ => exact e2
  | 2, _ => exact e3
  | 3, _ => exact e4
theorem ky_lt {u : Nat → Nat} {d : Nat} (hu : vB u) (hd : d < 10) : kyV u < 4294967296 ∧ ky d u < 1099511627776 := by
  have u0 := hu 0 (by omega); have u1 := hu 1 (by omega); have u2 := hu 2 (by omega); have u3 := hu 3 (by omega)
  unfold ky kyV
  omega
theorem smN_n {u : Nat → Nat} {U : Nat → Int32} (hU : ∀ j, j < 4 → U j = nI (u j)) : smN U 4 = nI (smK u) ∧ U 0 + U 1 + U 2 + U 3 = nI (smK u) := by
  have e : smN U 4 = (0 : Int32) + U 0 + U 1 + U 2 + U 3 := rfl
  rw [e, hU 0 (by omega), hU 1 (by omega), hU 2 (by omega), hU 3 (by omega), n_lit 0]
  unfold smK
  rw [nI_add, nI_add, nI_add, nI_add, nI_add, nI_add, nI_add, Nat.zero_add]
  exact ⟨rfl, rfl⟩
/-- scanning from behind -/
def scn (g : Nat → Bool) (L : List Nat) : Nat → Nat
  | 0 => 0
  | k + 1 => if g (L.getD k 0) then scn g L k else k + 1
theorem scn_le {g : Nat → Bool} {L : List Nat} : ∀ k, scn g L k ≤ k
  | 0 => Nat.le_refl _
  | k + 1 => by rw [scn]; split; (· exact Nat.le_succ_of_le (scn_le k)); exact Nat.le_refl _
theorem scn_hi {g : Nat → Bool} {L : List Nat} : ∀ k i, scn g L k ≤ i → i < k → g (L.getD i 0) = true
  | 0, i, _, h => absurd h (Nat.not_lt_zero _)
  | k + 1, i, h1, h2 => by
    rw [scn] at h1
    split at h1
    · rename_i q
      by_cases hik : i = k
      · rw [hik]; exact q
      · exact scn_hi k i h1 (by omega)
    · omega
theorem scn_lo {g : Nat → Bool} {L : List Nat} : ∀ k, 0 < scn g L k → g (L.getD (scn g L k - 1) 0) = false
  | 0, h => absurd h (Nat.not_lt_zero _)
  | k + 1, h => by
    rw [scn] at h ⊢
    split
    · rename_i q
      rw [if_pos q] at h
      exact scn_lo k h
    · rename_i q
      rw [Nat.add_sub_cancel]
      exact Bool.eq_false_iff.mpr q
theorem ins_sorted {key : Nat → Nat} {L : List Nat} {p x : Nat} (hs : L.Pairwise (fun a b => key a < key b)) (h1 : ∀ y ∈ L.take p, key y < key x) (h2 : ∀ y ∈ L.drop p, key x < key y) : (insA L p x).Pairwise (fun a b => key a < key b) := by
  unfold insA
  have hs' := hs
  rw [← List.take_append_drop p L, List.pairwise_append] at hs'
  rw [List.pairwise_append, List.pairwise_cons]
  refine ⟨hs'.1, ⟨h2, hs'.2.1⟩, fun a ha b hb => ?_⟩
  rcases List.mem_cons.mp hb with rfl | hb
  · exact h1 a ha
  · exact hs'.2.2 a ha b hb
theorem insA_iff {L : List Nat} {p x y : Nat} : y ∈ insA L p x ↔ y = x ∨ y ∈ L := by
  constructor
  · exact insA_mem
  · intro h
    unfold insA
    rw [List.mem_append, List.mem_cons]
    rcases h with rfl | h
    · exact Or.inr (Or.inl rfl)
    · rw [← List.take_append_drop p L, List.mem_append] at h
      exact h.elim Or.inl (fun z => Or.inr (Or.inr z))
/-- scanning a sorted list from behind: what is before is not g, what is behind is g -/
theorem scn_split {key : Nat → Nat} {g : Nat → Bool} {L : List Nat} {x : Nat} (hs : L.Pairwise (fun a b => key a < key b)) (hg : ∀ y ∈ L, g y = true → ∀ z ∈ L, key y < key z → g z = true) : (∀ y ∈ L.take (scn g L L.length), g y = false) ∧ (∀ y ∈ L.drop (scn g L L.length), g y = true) := by
  have hle := scn_le (g := g) (L := L) L.length
  refine ⟨fun y hy => ?_, fun y hy => ?_⟩
  · obtain ⟨i, hi, hiy⟩ := List.mem_take_iff_getElem.mp hy
    have hpos : 0 < scn g L L.length := by omega
    have hlast := scn_lo (g := g) (L := L) L.length hpos
    have hlt : scn g L L.length - 1 < L.length := by omega
    rw [List.getD_eq_getElem?_getD, List.getElem?_eq_getElem hlt, Option.getD_some] at hlast
    by_cases hii : i = scn g L L.length - 1
    · subst hii; rw [← hiy]; exact hlast
    · cases hgy : g y
      · rfl
      · have hk : key y < key L[scn g L L.length - 1] := by
          rw [← hiy]
          exact (List.pairwise_iff_getElem.mp hs) i _ (by omega) hlt (by omega)
        have := hg y (List.mem_of_mem_take hy) hgy _ (List.getElem_mem hlt) hk
        rw [hlast] at this; cases this
  · obtain ⟨i, hi, hiy⟩ := List.mem_drop_iff_getElem.mp hy
    have := scn_hi (g := g) (L := L) L.length (scn g L L.length + i) (by omega) (by omega)
    rw [List.getD_eq_getElem?_getD, List.getElem?_eq_getElem (by omega), Option.getD_some] at this
    rw [← hiy]; exact this
