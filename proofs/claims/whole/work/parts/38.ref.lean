/-! ===== the reference: its view, what reads (1) ===== -/
abbrev gU : Type := (Nat → Nat) × (Nat → Nat) × (Nat → Int32) × (Nat → Int32) × (Nat → Int32) × (Nat → Nat) × (Nat → Int32) × (Nat → Nat) × (Nat → Nat)
def uD (U : gU) : Nat → Nat := U.1
def uK (U : gU) : Nat → Nat := U.2.1
def uL (U : gU) : Nat → Int32 := U.2.2.1
def uF (U : gU) : Nat → Int32 := U.2.2.2.1
def uV (U : gU) : Nat → Int32 := U.2.2.2.2.1
def uS (U : gU) : Nat → Nat := U.2.2.2.2.2.1
def uN (U : gU) : Nat → Int32 := U.2.2.2.2.2.2.1
def uM (U : gU) : Nat → Nat := U.2.2.2.2.2.2.2.1
def uR (U : gU) : Nat → Nat := U.2.2.2.2.2.2.2.2
def mOb (A : Nat → Nat) (th : Int32) (vs : Nat) (lf : Int32) : gE := gO 6 [.int th, .int (nI vs), .ref (A 0), .ref (A 1), .ref (A 2), .ref (A 3), .ref (A 4), .ref (A 5), .ref (A 6), .ref (A 7), .ref (A 8), .int lf]
def MBd (U : gU) : Prop := (∀ v, uD U v < 10) ∧ (∀ v, uK U v < 4) ∧ (∀ k, uS U k ≤ 4100) ∧ (∀ k, uR U k < 4100) ∧ (∀ c, uM U c ≤ 20)
def MV (h : gHp) (m : Nat) (A : Nat → Nat) (th : Int32) (vs : Nat) (lf : Int32) (U : gU) : Prop :=
  h m = some (gO 6 [.int th, .int (nI vs), .ref (A 0), .ref (A 1), .ref (A 2), .ref (A 3), .ref (A 4), .ref (A 5), .ref (A 6), .ref (A 7), .ref (A 8), .int lf]) ∧
  h (A 0) = some (gI 4100 (fun i => nI (uD U i))) ∧ h (A 1) = some (gI 4100 (fun i => nI (uK U i))) ∧ h (A 2) = some (gI 4100 (uL U)) ∧ h (A 3) = some (gI 4100 (uF U)) ∧ h (A 4) = some (gI 16400 (uV U)) ∧
  h (A 5) = some (gI 160 (fun i => nI (uS U i))) ∧ h (A 6) = some (gI 1120 (uN U)) ∧ h (A 7) = some (gI 3 (fun i => nI (uM U i))) ∧ h (A 8) = some (gI 60 (fun i => nI (uR U i))) ∧
  (∀ i j, i < 9 → j < 9 → A i = A j → i = j) ∧ MBd U
def MF (h h1 : gHp) (m : Nat) (A : Nat → Nat) : Prop := ∀ b, b ≠ m → (∀ k, k < 9 → b ≠ A k) → h1 b = h b
theorem MF.refl {h : gHp} {m : Nat} {A : Nat → Nat} : MF h h m A := fun _ _ _ => rfl
theorem MF.trans {h h1 h2 : gHp} {m : Nat} {A : Nat → Nat} (a : MF h h1 m A) (b : MF h1 h2 m A) : MF h h2 m A := fun q h0 hk => (b q h0 hk).trans (a q h0 hk)
theorem MF.arr {h : gHp} {m : Nat} {A : Nat → Nat} {k : Nat} (hk : k < 9) {e : gE} : MF h (gUp h (A k) e) m A := fun q _ ha => gUp_ne _ _ (ha k hk)
theorem MF.obj {h : gHp} {m : Nat} {A : Nat → Nat} {e : gE} : MF h (gUp h m e) m A := fun q h0 _ => gUp_ne _ _ h0
theorem m_4 {a : Nat} : (4 : Int32) * nI a = nI (4 * a) := pk_mul (a := 4) (b := a)
theorem m_40 {a : Nat} : (40 : Int32) * nI a = nI (40 * a) := pk_mul (a := 40) (b := a)
theorem m_160 {a : Nat} : (160 : Int32) * nI a = nI (160 * a) := pk_mul (a := 160) (b := a)
theorem m_20 {a : Nat} : (20 : Int32) * nI a = nI (20 * a) := pk_mul (a := 20) (b := a)
theorem p_4 {a : Nat} : (4 : Int32) + nI a = nI (4 + a) := nI_add (a := 4) (b := a)
theorem p_40 {a : Nat} : nI a + (40 : Int32) = nI (a + 40) := nI_add (a := a) (b := 40)
theorem n_dn {n : Nat} (h : nI n - 1 < 0) (hn : n ≤ 4100) : n = 0 := by
  by_cases h0 : n = 0
  · exact h0
  · rw [n_m1 (by omega)] at h
    exact absurd h (nI_pos (by omega))
theorem n_up {n : Nat} (h : ¬ nI n - 1 < 0) : 0 < n := by
  by_cases h0 : n = 0
  · subst h0; exact absurd n_neg1 h
  · omega
section RefA
variable {h : gHp} {m : Nat} {A : Nat → Nat} {th : Int32} {vs : Nat} {lf : Int32} {U : gU}
theorem MV.ne (hM : MV h m A th vs lf U) {k : Nat} (hk : k < 9) : m ≠ A k := by
  obtain ⟨h0, a0, a1, a2, a3, a4, a5, a6, a7, a8, -⟩ := hM
  intro q
  match k, hk with
  | 0, _ => rw [← q, h0] at a0; simp at a0
  | 1, _ => rw [← q, h0] at a1; simp at a1
  | 2, _ => rw [← q, h0] at a2; simp at a2
  | 3, _ => rw [← q, h0] at a3; simp at a3
  | 4, _ => rw [← q, h0] at a4; simp at a4
  | 5, _ => rw [← q, h0] at a5; simp at a5
  | 6, _ => rw [← q, h0] at a6; simp at a6
  | 7, _ => rw [← q, h0] at a7; simp at a7
  | 8, _ => rw [← q, h0] at a8; simp at a8
theorem MV.ob (hM : MV h m A th vs lf U) {th' : Int32} {vs' : Nat} {lf' : Int32} : MV (gUp h m (gO 6 [.int th', .int (nI vs'), .ref (A 0), .ref (A 1), .ref (A 2), .ref (A 3), .ref (A 4), .ref (A 5), .ref (A 6), .ref (A 7), .ref (A 8), .int lf'])) m A th' vs' lf' U := by
  have n : ∀ k, k < 9 → A k ≠ m := fun k hk q => hM.ne hk q.symm
  obtain ⟨h0, a0, a1, a2, a3, a4, a5, a6, a7, a8, r⟩ := hM
  exact ⟨gUp_self _ _ _, (gUp_ne _ _ (n 0 (by omega))).trans a0, (gUp_ne _ _ (n 1 (by omega))).trans a1, (gUp_ne _ _ (n 2 (by omega))).trans a2, (gUp_ne _ _ (n 3 (by omega))).trans a3, (gUp_ne _ _ (n 4 (by omega))).trans a4, (gUp_ne _ _ (n 5 (by omega))).trans a5, (gUp_ne _ _ (n 6 (by omega))).trans a6, (gUp_ne _ _ (n 7 (by omega))).trans a7, (gUp_ne _ _ (n 8 (by omega))).trans a8, r⟩
def tD (U : gU) (f : Nat → Nat) : gU := (f, U.2)
def tK (U : gU) (f : Nat → Nat) : gU := (U.1, f, U.2.2)
def tL (U : gU) (f : Nat → Int32) : gU := (U.1, U.2.1, f, U.2.2.2)
def tF (U : gU) (f : Nat → Int32) : gU := (U.1, U.2.1, U.2.2.1, f, U.2.2.2.2)
def tV (U : gU) (f : Nat → Int32) : gU := (U.1, U.2.1, U.2.2.1, U.2.2.2.1, f, U.2.2.2.2.2)
def tS (U : gU) (f : Nat → Nat) : gU := (U.1, U.2.1, U.2.2.1, U.2.2.2.1, U.2.2.2.2.1, f, U.2.2.2.2.2.2)
def tN (U : gU) (f : Nat → Int32) : gU := (U.1, U.2.1, U.2.2.1, U.2.2.2.1, U.2.2.2.2.1, U.2.2.2.2.2.1, f, U.2.2.2.2.2.2.2)
def tM (U : gU) (f : Nat → Nat) : gU := (U.1, U.2.1, U.2.2.1, U.2.2.2.1, U.2.2.2.2.1, U.2.2.2.2.2.1, U.2.2.2.2.2.2.1, f, U.2.2.2.2.2.2.2.2)
def tR (U : gU) (f : Nat → Nat) : gU := (U.1, U.2.1, U.2.2.1, U.2.2.2.1, U.2.2.2.2.1, U.2.2.2.2.2.1, U.2.2.2.2.2.2.1, U.2.2.2.2.2.2.2.1, f)
theorem upd_nI (f : Nat → Nat) (k n : Nat) : upd (fun i => nI (f i)) k (nI n) = fun i => nI (va_up f k n i) := by
  funext i
  by_cases hi : i = k
  · subst hi; rw [va_up_self]; simp [upd]
  · rw [va_up_ne _ _ hi]; simp [upd, hi]
theorem MV.putD (hM : MV h m A th vs lf U) {f : Nat → Nat} (hb : (∀ v, f v < 10)) : MV (gUp h (A 0) (gI 4100 (fun i => nI (f i)))) m A th vs lf (tD U f) := by
  have hne := hM.ne (k := 0) (by omega)
  obtain ⟨h0, a0, a1, a2, a3, a4, a5, a6, a7, a8, hd, b1, b2, b3, b4, b5⟩ := hM
  exact ⟨(gUp_ne _ _ hne).trans h0, gUp_self _ _ _, (gUp_ne _ _ (fun q => absurd (hd _ _ (by omega) (by omega) q) (by decide))).trans a1, (gUp_ne _ _ (fun q => absurd (hd _ _ (by omega) (by omega) q) (by decide))).trans a2, (gUp_ne _ _ (fun q => absurd (hd _ _ (by omega) (by omega) q) (by decide))).trans a3, (gUp_ne _ _ (fun q => absurd (hd _ _ (by omega) (by omega) q) (by decide))).trans a4, (gUp_ne _ _ (fun q => absurd (hd _ _ (by omega) (by omega) q) (by decide))).trans a5, (gUp_ne _ _ (fun q => absurd (hd _ _ (by omega) (by omega) q) (by decide))).trans a6, (gUp_ne _ _ (fun q => absurd (hd _ _ (by omega) (by omega) q) (by decide))).trans a7, (gUp_ne _ _ (fun q => absurd (hd _ _ (by omega) (by omega) q) (by decide))).trans a8, hd, hb, b2, b3, b4, b5⟩
theorem MV.putK (hM : MV h m A th vs lf U) {f : Nat → Nat} (hb : (∀ v, f v < 4)) : MV (gUp h (A 1) (gI 4100 (fun i => nI (f i)))) m A th vs lf (tK U f) := by
  have hne := hM.ne (k := 1) (by omega)
  obtain ⟨h0, a0, a1, a2, a3, a4, a5, a6, a7, a8, hd, b1, b2, b3, b4, b5⟩ := hM
  exact ⟨(gUp_ne _ _ hne).trans h0, (gUp_ne _ _ (fun q => absurd (hd _ _ (by omega) (by omega) q) (by decide))).trans a0, gUp_self _ _ _, (gUp_ne _ _ (fun q => absurd (hd _ _ (by omega) (by omega) q) (by decide))).trans a2, (gUp_ne _ _ (fun q => absurd (hd _ _ (by omega) (by omega) q) (by decide))).trans a3, (gUp_ne _ _ (fun q => absurd (hd _ _ (by omega) (by omega) q) (by decide))).trans a4, (gUp_ne _ _ (fun q => absurd (hd _ _ (by omega) (by omega) q) (by decide))).trans a5, (gUp_ne _ _ (fun q => absurd (hd _ _ (by omega) (by omega) q) (by decide))).trans a6, (gUp_ne _ _ (fun q => absurd (hd _ _ (by omega) (by omega) q) (by decide))).trans a7, (gUp_ne _ _ (fun q => absurd (hd _ _ (by omega) (by omega) q) (by decide))).trans a8, hd, b1, hb, b3, b4, b5⟩
theorem MV.putL (hM : MV h m A th vs lf U) {f : Nat → Int32} : MV (gUp h (A 2) (gI 4100 f)) m A th vs lf (tL U f) := by
  have hne := hM.ne (k := 2) (by omega)
  obtain ⟨h0, a0, a1, a2, a3, a4, a5, a6, a7, a8, hd, b1, b2, b3, b4, b5⟩ := hM
  exact ⟨(gUp_ne _ _ hne).trans h0, (gUp_ne _ _ (fun q => absurd (hd _ _ (by omega) (by omega) q) (by decide))).trans a0, (gUp_ne _ _ (fun q => absurd (hd _ _ (by omega) (by omega) q) (by decide))).trans a1, gUp_self _ _ _, (gUp_ne _ _ (fun q => absurd (hd _ _ (by omega) (by omega) q) (by decide))).trans a3, (gUp_ne _ _ (fun q => absurd (hd _ _ (by omega) (by omega) q) (by decide))).trans a4, (gUp_ne _ _ (fun q => absurd (hd _ _ (by omega) (by omega) q) (by decide))).trans a5, (gUp_ne _ _ (fun q => absurd (hd _ _ (by omega) (by omega) q) (by decide))).trans a6, (gUp_ne _ _ (fun q => absurd (hd _ _ (by omega) (by omega) q) (by decide))).trans a7, (gUp_ne _ _ (fun q => absurd (hd _ _ (by omega) (by omega) q) (by decide))).trans a8, hd, b1, b2, b3, b4, b5⟩
theorem MV.putF (hM : MV h m A th vs lf U) {f : Nat → Int32} : MV (gUp h (A 3) (gI 4100 f)) m A th vs lf (tF U f) := by
  have hne := hM.ne (k := 3) (by omega)
  obtain ⟨h0, a0, a1, a2, a3, a4, a5, a6, a7, a8, hd, b1, b2, b3, b4, b5⟩ := hM
  exact ⟨(gUp_ne _ _ hne).trans h0, (gUp_ne _ _ (fun q => absurd (hd _ _ (by omega) (by omega) q) (by decide))).trans a0, (gUp_ne _ _ (fun q => absurd (hd _ _ (by omega) (by omega) q) (by decide))).trans a1, (gUp_ne _ _ (fun q => absurd (hd _ _ (by omega) (by omega) q) (by decide))).trans a2, gUp_self _ _ _, (gUp_ne _ _ (fun q => absurd (hd _ _ (by omega) (by omega) q) (by decide))).trans a4, (gUp_ne _ _ (fun q => absurd (hd _ _ (by omega) (by omega) q) (by decide))).trans a5, (gUp_ne _ _ (fun q => absurd (hd _ _ (by omega) (by omega) q) (by decide))).trans a6, (gUp_ne _ _ (fun q => absurd (hd _ _ (by omega) (by omega) q) (by decide))).trans a7, (gUp_ne _ _ (fun q => absurd (hd _ _ (by omega) (by omega) q) (by decide))).trans a8, hd, b1, b2, b3, b4, b5⟩
theorem MV.putV (hM : MV h m A th vs lf U) {f : Nat → Int32} : MV (gUp h (A 4) (gI 16400 f)) m A th vs lf (tV U f) := by
  have hne := hM.ne (k := 4) (by omega)
  obtain ⟨h0, a0, a1, a2, a3, a4, a5, a6, a7, a8, hd, b1, b2, b3, b4, b5⟩ := hM
  exact ⟨(gUp_ne _ _ hne).trans h0, (gUp_ne _ _ (fun q => absurd (hd _ _ (by omega) (by omega) q) (by decide))).trans a0, (gUp_ne _ _ (fun q => absurd (hd _ _ (by omega) (by omega) q) (by decide))).trans a1, (gUp_ne _ _ (fun q => absurd (hd _ _ (by omega) (by omega) q) (by decide))).trans a2, (gUp_ne _ _ (fun q => absurd (hd _ _ (by omega) (by omega) q) (by decide))).trans a3, gUp_self _ _ _, (gUp_ne _ _ (fun q => absurd (hd _ _ (by omega) (by omega) q) (by decide))).trans a5, (gUp_ne _ _ (fun q => absurd (hd _ _ (by omega) (by omega) q) (by decide))).trans a6, (gUp_ne _ _ (fun q => absurd (hd _ _ (by omega) (by omega) q) (by decide))).trans a7, (gUp_ne _ _ (fun q => absurd (hd _ _ (by omega) (by omega) q) (by decide))).trans a8, hd, b1, b2, b3, b4, b5⟩
theorem MV.putS (hM : MV h m A th vs lf U) {f : Nat → Nat} (hb : (∀ k, f k ≤ 4100)) : MV (gUp h (A 5) (gI 160 (fun i => nI (f i)))) m A th vs lf (tS U f) := by
  have hne := hM.ne (k := 5) (by omega)
  obtain ⟨h0, a0, a1, a2, a3, a4, a5, a6, a7, a8, hd, b1, b2, b3, b4, b5⟩ := hM
  exact ⟨(gUp_ne _ _ hne).trans h0, (gUp_ne _ _ (fun q => absurd (hd _ _ (by omega) (by omega) q) (by decide))).trans a0, (gUp_ne _ _ (fun q => absurd (hd _ _ (by omega) (by omega) q) (by decide))).trans a1, (gUp_ne _ _ (fun q => absurd (hd _ _ (by omega) (by omega) q) (by decide))).trans a2, (gUp_ne _ _ (fun q => absurd (hd _ _ (by omega) (by omega) q) (by decide))).trans a3, (gUp_ne _ _ (fun q => absurd (hd _ _ (by omega) (by omega) q) (by decide))).trans a4, gUp_self _ _ _, (gUp_ne _ _ (fun q => absurd (hd _ _ (by omega) (by omega) q) (by decide))).trans a6, (gUp_ne _ _ (fun q => absurd (hd _ _ (by omega) (by omega) q) (by decide))).trans a7, (gUp_ne _ _ (fun q => absurd (hd _ _ (by omega) (by omega) q) (by decide))).trans a8, hd, b1, b2, hb, b4, b5⟩
theorem MV.putN (hM : MV h m A th vs lf U) {f : Nat → Int32} : MV (gUp h (A 6) (gI 1120 f)) m A th vs lf (tN U f) := by
  have hne := hM.ne (k := 6) (by omega)
  obtain ⟨h0, a0, a1, a2, a3, a4, a5, a6, a7, a8, hd, b1, b2, b3, b4, b5⟩ := hM
  exact ⟨(gUp_ne _ _ hne).trans h0, (gUp_ne _ _ (fun q => absurd (hd _ _ (by omega) (by omega) q) (by decide))).trans a0, (gUp_ne _ _ (fun q => absurd (hd _ _ (by omega) (by omega) q) (by decide))).trans a1, (gUp_ne _ _ (fun q => absurd (hd _ _ (by omega) (by omega) q) (by decide))).trans a2, (gUp_ne _ _ (fun q => absurd (hd _ _ (by omega) (by omega) q) (by decide))).trans a3, (gUp_ne _ _ (fun q => absurd (hd _ _ (by omega) (by omega) q) (by decide))).trans a4, (gUp_ne _ _ (fun q => absurd (hd _ _ (by omega) (by omega) q) (by decide))).trans a5, gUp_self _ _ _, (gUp_ne _ _ (fun q => absurd (hd _ _ (by omega) (by omega) q) (by decide))).trans a7, (gUp_ne _ _ (fun q => absurd (hd _ _ (by omega) (by omega) q) (by decide))).trans a8, hd, b1, b2, b3, b4, b5⟩
theorem MV.putM (hM : MV h m A th vs lf U) {f : Nat → Nat} (hb : (∀ c, f c ≤ 20)) : MV (gUp h (A 7) (gI 3 (fun i => nI (f i)))) m A th vs lf (tM U f) := by
  have hne := hM.ne (k := 7) (by omega)
  obtain ⟨h0, a0, a1, a2, a3, a4, a5, a6, a7, a8, hd, b1, b2, b3, b4, b5⟩ := hM
  exact ⟨(gUp_ne _ _ hne).trans h0, (gUp_ne _ _ (fun q => absurd (hd _ _ (by omega) (by omega) q) (by decide))).trans a0, (gUp_ne _ _ (fun q => absurd (hd _ _ (by omega) (by omega) q) (by decide))).trans a1, (gUp_ne _ _ (fun q => absurd (hd _ _ (by omega) (by omega) q) (by decide))).trans a2, (gUp_ne _ _ (fun q => absurd (hd _ _ (by omega) (by omega) q) (by decide))).trans a3, (gUp_ne _ _ (fun q => absurd (hd _ _ (by omega) (by omega) q) (by decide))).trans a4, (gUp_ne _ _ (fun q => absurd (hd _ _ (by omega) (by omega) q) (by decide))).trans a5, (gUp_ne _ _ (fun q => absurd (hd _ _ (by omega) (by omega) q) (by decide))).trans a6, gUp_self _ _ _, (gUp_ne _ _ (fun q => absurd (hd _ _ (by omega) (by omega) q) (by decide))).trans a8, hd, b1, b2, b3, b4, hb⟩
theorem MV.putR (hM : MV h m A th vs lf U) {f : Nat → Nat} (hb : (∀ k, f k < 4100)) : MV (gUp h (A 8) (gI 60 (fun i => nI (f i)))) m A th vs lf (tR U f) := by
  have hne := hM.ne (k := 8) (by omega)
  obtain ⟨h0, a0, a1, a2, a3, a4, a5, a6, a7, a8, hd, b1, b2, b3, b4, b5⟩ := hM
  exact ⟨(gUp_ne _ _ hne).trans h0, (gUp_ne _ _ (fun q => absurd (hd _ _ (by omega) (by omega) q) (by decide))).trans a0, (gUp_ne _ _ (fun q => absurd (hd _ _ (by omega) (by omega) q) (by decide))).trans a1, (gUp_ne _ _ (fun q => absurd (hd _ _ (by omega) (by omega) q) (by decide))).trans a2, (gUp_ne _ _ (fun q => absurd (hd _ _ (by omega) (by omega) q) (by decide))).trans a3, (gUp_ne _ _ (fun q => absurd (hd _ _ (by omega) (by omega) q) (by decide))).trans a4, (gUp_ne _ _ (fun q => absurd (hd _ _ (by omega) (by omega) q) (by decide))).trans a5, (gUp_ne _ _ (fun q => absurd (hd _ _ (by omega) (by omega) q) (by decide))).trans a6, (gUp_ne _ _ (fun q => absurd (hd _ _ (by omega) (by omega) q) (by decide))).trans a7, gUp_self _ _ _, hd, b1, b2, b3, hb, b5⟩
end RefA
section RefB
variable {G : gG} {l : Launch} {h : gHp} {sz m : Nat} {A : Nat → Nat} {th : Int32} {vs : Nat} {lf : Int32} {U : gU}
def mVc (U : gU) (v : Nat) : Nat → Int32 := fun j => uV U (4 * v + j)
def mKn (U : gU) (p : Nat) : Nat → Int32 := fun j => uN U (p + j)
def mBy (U : gU) (v : Nat) : Int32 := if uL U v < 0 then 0 else uL U v
theorem c_R_within {x : Int32} {n : Nat} (hn : n < 1000) : SM G l 1 y_R_within M_R_within [.int x, .int 0, .int (nI n)] h sz 0 0 (qR (.int (b2i (okN x (n + 1)))) h sz) := by
  have e1 : ¬ nI n < x → x < nI (n + 1) := by
    intro q
    rw [Int32.lt_iff_toInt_lt] at q ⊢
    rw [nI_toInt (by omega)] at q ⊢
    omega
  have e2 : nI n < x → ¬ x < nI (n + 1) := by
    intro q
    rw [Int32.lt_iff_toInt_lt] at q ⊢
    rw [nI_toInt (by omega)] at q ⊢
    omega
  refine SM.of (lv0 := [some (.int x), some (.int 0), some (.int (nI n))]) (by decide +kernel) rfl ⟨rfl, rfl⟩ rfl (by simp [Value.category]) (Nat.le_of_ble_eq_true rfl) ?_
  refine gw_il0 d_R_within_0 ?_
  refine gw_il1 d_R_within_1 ?_
  refine gw_iclt d_R_within_2 (fun c_2 => ?_) (fun c_2 => ?_)
  · refine gw_push d_R_within_14 ?_
    exact gw_zret d_R_within_15 rfl (by decide) (Nat.le_refl _) (Nat.le_refl _) ⟨by first | (rw [okN_ok _ c_2 (e1 c_7)]; rfl) | (rw [okN_f2 _ (e2 c_7)]; rfl) | (rw [okN_f1 c_2]; rfl), rfl, rfl⟩
  · refine gw_il0 d_R_within_5 ?_
    refine gw_il2 d_R_within_6 ?_
    refine gw_icgt d_R_within_7 (fun c_7 => ?_) (fun c_7 => ?_)
    · refine gw_push d_R_within_14 ?_
      exact gw_zret d_R_within_15 rfl (by decide) (Nat.le_refl _) (Nat.le_refl _) ⟨by first | (rw [okN_ok _ c_2 (e1 c_7)]; rfl) | (rw [okN_f2 _ (e2 c_7)]; rfl) | (rw [okN_f1 c_2]; rfl), rfl, rfl⟩
    · refine gw_push d_R_within_10 ?_
      refine gw_goto d_R_within_11 ?_
      exact gw_zret d_R_within_15 rfl (by decide) (Nat.le_refl _) (Nat.le_refl _) ⟨by first | (rw [okN_ok _ c_2 (e1 c_7)]; rfl) | (rw [okN_f2 _ (e2 c_7)]; rfl) | (rw [okN_f1 c_2]; rfl), rfl, rfl⟩
theorem c_R_isPlace {s d : Int32} : SM G l 2 y_R_isPlace M_R_isPlace [.int s, .int d] h sz 0 0 (qR (.int (b2i (okN s 4 && okN d 10))) h sz) := by
  refine SM.of (lv0 := [some (.int s), some (.int d)]) (by decide +kernel) rfl ⟨rfl, rfl⟩ rfl (by simp [Value.category]) (Nat.le_of_ble_eq_true rfl) ?_
  refine gw_il0 d_R_isPlace_0 ?_
  refine gw_push d_R_isPlace_1 ?_
  refine gw_push d_R_isPlace_2 ?_
  refine gw_rS3 d_R_isPlace_3 cs_R_isPlace_3 (c_R_within (n := 3) (by decide)) ?_
  refine gw_ifeq d_R_isPlace_6 (fun c_6 => ?_) (fun c_6 => ?_)
  · refine gw_push d_R_isPlace_23 ?_
    exact gw_zret d_R_isPlace_24 rfl (by decide) (Nat.le_refl _) (Nat.le_refl _) ⟨by first | (rw [show okN s 4 = true from (b2i_ne0 _).mp c_6, show okN d 10 = true from (b2i_ne0 _).mp c_16]; rfl) | (rw [show okN d 10 = false from (b2i_eq0 _).mp c_16, Bool.and_false]; rfl) | (rw [show okN s 4 = false from (b2i_eq0 _).mp c_6]; rfl), rfl, rfl⟩
  · refine gw_il1 d_R_isPlace_9 ?_
    refine gw_push d_R_isPlace_10 ?_
    refine gw_push d_R_isPlace_11 ?_
    refine gw_rS3 d_R_isPlace_13 cs_R_isPlace_13 (c_R_within (n := 9) (by decide)) ?_
    refine gw_ifeq d_R_isPlace_16 (fun c_16 => ?_) (fun c_16 => ?_)
    · refine gw_push d_R_isPlace_23 ?_
      exact gw_zret d_R_isPlace_24 rfl (by decide) (Nat.le_refl _) (Nat.le_refl _) ⟨by first | (rw [show okN s 4 = true from (b2i_ne0 _).mp c_6, show okN d 10 = true from (b2i_ne0 _).mp c_16]; rfl) | (rw [show okN d 10 = false from (b2i_eq0 _).mp c_16, Bool.and_false]; rfl) | (rw [show okN s 4 = false from (b2i_eq0 _).mp c_6]; rfl), rfl, rfl⟩
    · refine gw_push d_R_isPlace_19 ?_
      refine gw_goto d_R_isPlace_20 ?_
      exact gw_zret d_R_isPlace_24 rfl (by decide) (Nat.le_refl _) (Nat.le_refl _) ⟨by first | (rw [show okN s 4 = true from (b2i_ne0 _).mp c_6, show okN d 10 = true from (b2i_ne0 _).mp c_16]; rfl) | (rw [show okN d 10 = false from (b2i_eq0 _).mp c_16, Bool.and_false]; rfl) | (rw [show okN s 4 = false from (b2i_eq0 _).mp c_6]; rfl), rfl, rfl⟩
theorem c_R_counterOf (hM : MV h m A th vs lf U) {v j : Nat} (hv : v < 4100) (hj : j < 4) : SM G l 1 y_R_counterOf M_R_counterOf [.ref m, .int (nI v), .int (nI j)] h sz 0 0 (qR (.int (mVc U v j)) h sz) := by
  obtain ⟨h0, a0, a1, a2, a3, a4, a5, a6, a7, a8, hd, hB⟩ := hM
  refine SM.of (lv0 := [some (.ref m), some (.int (nI v)), some (.int (nI j))]) (by decide +kernel) rfl ⟨rfl, rfl⟩ rfl (by simp [Value.category]) (Nat.le_of_ble_eq_true rfl) ?_
  refine gw_al0 d_R_counterOf_0 ?_
  refine gw_get d_R_counterOf_1 (by assumption) (by rfl) ?_
  refine gw_push d_R_counterOf_4 ?_
  refine gw_il1 d_R_counterOf_5 ?_
  refine gw_imul d_R_counterOf_6 ?_; first | rw [m_4] | rw [m_40] | rw [m_160] | rw [m_20] | skip
  refine gw_il2 d_R_counterOf_7 ?_
  refine gw_iadd d_R_counterOf_8 ?_; first | rw [nI_add] | rw [p_4] | rw [p_40] | skip
  refine gw_iald d_R_counterOf_9 a4 _ rfl (by omega) (by omega) ?_
  exact gw_iret d_R_counterOf_10 rfl (Nat.le_refl _) (Nat.le_refl _) ⟨rfl, rfl, rfl⟩
theorem c_R_at {s o d : Nat} : SM G l 1 y_R_at M_R_at [.int (nI s), .int (nI o), .int (nI d)] h sz 0 0 (qR (.int (nI (160 * s + 40 * o + 4 * d))) h sz) := by
  refine SM.of (lv0 := [some (.int (nI s)), some (.int (nI o)), some (.int (nI d))]) (by decide +kernel) rfl ⟨rfl, rfl⟩ rfl (by simp [Value.category]) (Nat.le_of_ble_eq_true rfl) ?_
  refine gw_push d_R_at_0 ?_
  refine gw_il0 d_R_at_3 ?_
  refine gw_imul d_R_at_4 ?_; first | rw [m_4] | rw [m_40] | rw [m_160] | rw [m_20] | skip
  refine gw_push d_R_at_5 ?_
  refine gw_il1 d_R_at_7 ?_
  refine gw_imul d_R_at_8 ?_; first | rw [m_4] | rw [m_40] | rw [m_160] | rw [m_20] | skip
  refine gw_iadd d_R_at_9 ?_; first | rw [nI_add] | rw [p_4] | rw [p_40] | skip
  refine gw_push d_R_at_10 ?_
  refine gw_il2 d_R_at_11 ?_
  refine gw_imul d_R_at_12 ?_; first | rw [m_4] | rw [m_40] | rw [m_160] | rw [m_20] | skip
  refine gw_iadd d_R_at_13 ?_; first | rw [nI_add] | rw [p_4] | rw [p_40] | skip
  exact gw_iret d_R_at_14 rfl (Nat.le_refl _) (Nat.le_refl _) ⟨rfl, rfl, rfl⟩
theorem c_R_bytesOf (hM : MV h m A th vs lf U) {v : Nat} (hv : v < 4100) : SM G l 1 y_R_bytesOf M_R_bytesOf [.ref m, .int (nI v)] h sz 0 0 (qR (.int (mBy U v)) h sz) := by
  obtain ⟨h0, a0, a1, a2, a3, a4, a5, a6, a7, a8, hd, hB⟩ := hM
  refine SM.of (lv0 := [some (.ref m), some (.int (nI v))]) (by decide +kernel) rfl ⟨rfl, rfl⟩ rfl (by simp [Value.category]) (Nat.le_of_ble_eq_true rfl) ?_
  refine gw_al0 d_R_bytesOf_0 ?_
  refine gw_get d_R_bytesOf_1 (by assumption) (by rfl) ?_
  refine gw_il1 d_R_bytesOf_4 ?_
  refine gw_iald d_R_bytesOf_5 a2 v rfl hv (by omega) ?_
  refine gw_ifge d_R_bytesOf_6 (fun c_6 => ?_) (fun c_6 => ?_)
  · refine gw_al0 d_R_bytesOf_13 ?_
    refine gw_get d_R_bytesOf_14 (by assumption) (by rfl) ?_
    refine gw_il1 d_R_bytesOf_17 ?_
    refine gw_iald d_R_bytesOf_18 a2 v rfl hv (by omega) ?_
    exact gw_iret d_R_bytesOf_19 rfl (Nat.le_refl _) (Nat.le_refl _) ⟨by first | (rw [mBy, if_pos (Int32.not_le.mp c_6)]) | (rw [mBy, if_neg (Int32.not_lt.mpr c_6)]), rfl, rfl⟩
  · refine gw_push d_R_bytesOf_9 ?_
    refine gw_goto d_R_bytesOf_10 ?_
    exact gw_iret d_R_bytesOf_19 rfl (Nat.le_refl _) (Nat.le_refl _) ⟨by first | (rw [mBy, if_pos (Int32.not_le.mp c_6)]) | (rw [mBy, if_neg (Int32.not_lt.mpr c_6)]), rfl, rfl⟩
theorem c_R_standing (hM : MV h m A th vs lf U) {s d k : Nat} (hs : s < 4) (hd : d < 10) (hk : k < 4) : SM G l 1 y_R_standing M_R_standing [.ref m, .int (nI s), .int (nI d), .int (nI k)] h sz 0 0 (qR (.int (nI (uS U (40 * s + 4 * d + k)) - 1)) h sz) := by
  obtain ⟨h0, a0, a1, a2, a3, a4, a5, a6, a7, a8, hd', hB⟩ := hM
  refine SM.of (lv0 := [some (.ref m), some (.int (nI s)), some (.int (nI d)), some (.int (nI k))]) (by decide +kernel) rfl ⟨rfl, rfl⟩ rfl (by simp [Value.category]) (Nat.le_of_ble_eq_true rfl) ?_
  refine gw_al0 d_R_standing_0 ?_
  refine gw_get d_R_standing_1 (by assumption) (by rfl) ?_
  refine gw_push d_R_standing_4 ?_
  refine gw_il1 d_R_standing_6 ?_
  refine gw_imul d_R_standing_7 ?_; first | rw [m_4] | rw [m_40] | rw [m_160] | rw [m_20] | skip
  refine gw_push d_R_standing_8 ?_
  refine gw_il2 d_R_standing_9 ?_
  refine gw_imul d_R_standing_10 ?_; first | rw [m_4] | rw [m_40] | rw [m_160] | rw [m_20] | skip
  refine gw_iadd d_R_standing_11 ?_; first | rw [nI_add] | rw [p_4] | rw [p_40] | skip
  refine gw_il3 d_R_standing_12 ?_
  refine gw_iadd d_R_standing_13 ?_; first | rw [nI_add] | rw [p_4] | rw [p_40] | skip
  refine gw_iald d_R_standing_14 a5 _ rfl (by omega) (by omega) ?_
  refine gw_push d_R_standing_15 ?_
  refine gw_isub d_R_standing_16 ?_
  exact gw_iret d_R_standing_17 rfl (Nat.le_refl _) (Nat.le_refl _) ⟨rfl, rfl, rfl⟩
theorem c_R_sumOf (hM : MV h m A th vs lf U) {v : Nat} (hv : v < 4100) : SM G l 2 y_R_sumOf M_R_sumOf [.ref m, .int (nI v)] h sz 0 0 (qR (.int (mVc U v 0 + mVc U v 1 + mVc U v 2 + mVc U v 3)) h sz) := by
  have h0 := hM.1
  refine SM.of (lv0 := [some (.ref m), some (.int (nI v))]) (by decide +kernel) rfl ⟨rfl, rfl⟩ rfl (by simp [Value.category]) (Nat.le_of_ble_eq_true rfl) ?_
  refine gw_al0 d_R_sumOf_0 ?_
  refine gw_il1 d_R_sumOf_1 ?_
  refine gw_push d_R_sumOf_2 ?_
  refine gw_rV2 d_R_sumOf_3 cs_R_sumOf_3 h0 (c_R_counterOf hM hv (j := 0) (by omega)) ?_
  refine gw_al0 d_R_sumOf_6 ?_
  refine gw_il1 d_R_sumOf_7 ?_
  refine gw_push d_R_sumOf_8 ?_
  refine gw_rV2 d_R_sumOf_9 cs_R_sumOf_9 h0 (c_R_counterOf hM hv (j := 1) (by omega)) ?_
  refine gw_iadd d_R_sumOf_12 ?_; first | rw [nI_add] | rw [p_4] | rw [p_40] | skip
  refine gw_al0 d_R_sumOf_13 ?_
  refine gw_il1 d_R_sumOf_14 ?_
  refine gw_push d_R_sumOf_15 ?_
  refine gw_rV2 d_R_sumOf_16 cs_R_sumOf_16 h0 (c_R_counterOf hM hv (j := 2) (by omega)) ?_
  refine gw_iadd d_R_sumOf_19 ?_; first | rw [nI_add] | rw [p_4] | rw [p_40] | skip
  refine gw_al0 d_R_sumOf_20 ?_
  refine gw_il1 d_R_sumOf_21 ?_
  refine gw_push d_R_sumOf_22 ?_
  refine gw_rV2 d_R_sumOf_23 cs_R_sumOf_23 h0 (c_R_counterOf hM hv (j := 3) (by omega)) ?_
  refine gw_iadd d_R_sumOf_26 ?_; first | rw [nI_add] | rw [p_4] | rw [p_40] | skip
  exact gw_iret d_R_sumOf_27 rfl (Nat.le_refl _) (Nat.le_refl _) ⟨rfl, rfl, rfl⟩
end RefB
