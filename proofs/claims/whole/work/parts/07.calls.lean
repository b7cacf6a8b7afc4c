/-! ===== rows: System.arraycopy, calls, ends, throws, entries ===== -/
theorem g_nn (z : Int32) (hz : ¬ z < 0) : z.toInt = (z.toNatClampNeg : Int) := by
  have hz0 : (0 : Int) ≤ z.toInt := by
    have := Int32.not_lt.mp hz
    simpa using Int32.le_iff_toInt_le.mp this
  show z.toInt = ((z.toInt.toNat : Nat) : Int)
  omega
def gCpW (M : gM) (idx : Nat) : Prop := Cond.methodLink M.2.2.1 idx arraycopyName ∈ gW ∧ Cond.native arraycopyName ∈ gW ∧ Cond.static arraycopyName ∈ gW ∧ Cond.initialized "java/lang/System" ∈ gW
section Rows3
variable {G : gG} {l : Launch} {Z : State → Array Value → List Frame → State → Prop} {R : Room} {M : gM} {pc pc' : Nat} {lv : List (Option Value)} {st : List Value} {h : gHp} {sz k w : Nat}
theorem gw_copyI {a0 a n0 n1 : Nat} {f g : Nat → Int32} {sp dp n : Int32} {idx : Nat} (hd : gD M pc (.invokestatic idx) 3 pc') (hw : gCpW M idx) (ha0 : h a0 = some (gI n0 f)) (ha : h a = some (gI n1 g)) (sp' dp' n' : Nat) (e1 : sp = nI sp') (e2 : dp = nI dp') (e3 : n = nI n') (h1 : sp' + n' ≤ n0) (h2 : dp' + n' ≤ n1) (h3 : sp' + dp' + n' < 2147483648) (hf : 1 ≤ R.frames) (hlo : (st.map fun v => v.category).sum + 64 ≤ R.locals)
    (kk : GW G l Z R M pc' lv st (gUp h a (gI n1 (va_cpy f g sp' dp' n'))) sz k w) : GW G l Z R M pc lv (.int n :: .int dp :: .ref a :: .int sp :: .ref a0 :: st) h sz k w := by
  obtain ⟨hd, rfl⟩ := hd
  intro p e s m args below meth c H locs ls F hS hR hz hl
  have hK := F.2.2.2.2.2.2.2.2.2.1.1
  have hA := (hR a _ ha).1
  have q1 : ¬ sp < 0 := by rw [e1]; exact nI_pos (by omega)
  have q2 : ¬ dp < 0 := by rw [e2]; exact nI_pos (by omega)
  have q3 : ¬ n < 0 := by rw [e3]; exact nI_pos (by omega)
  have c1 : sp.toNatClampNeg = sp' := by rw [e1]; exact nI_clamp (by omega)
  have c2 : dp.toNatClampNeg = dp' := by rw [e2]; exact nI_clamp (by omega)
  have c3 : n.toNatClampNeg = n' := by rw [e3]; exact nI_clamp (by omega)
  intro T hT X
  have hc0 : H[a0]? = some (vp_cell (gCy G 0) (n0, .inl f)) := (hR a0 _ ha0).2
  have hc1 : H[a]? = some (vp_cell (gCy G 0) (n1, .inl g)) := (hR a _ ha).2
  obtain ⟨-, k0, hk0, cm0, hkk0⟩ := (hK.2 0 _ rfl).1 n0 (fun j => .int (f j))
  obtain ⟨-, k1, hk1, cm1, hkk1⟩ := (hK.2 0 _ rfl).1 n1 (fun j => .int (g j))
  obtain ⟨vm', X', step⟩ := X.arraycopy F.1 F.2.2.2.1 (F.2.2.2.2.1 _ hw.1) (F.2.2.2.2.1 _ hw.2.1) (F.2.2.2.2.1 _ hw.2.2.1) (F.2.2.2.2.1 _ hw.2.2.2) (src := a0) (dst := a) (cs := vp_cell (gCy G 0) (n0, .inl f)) (cd := vp_cell (gCy G 0) (n1, .inl g)) (srcPos := sp) (destPos := dp) (n := n) (by rw [hT]; exact hc0) (by rw [hT]; exact hc1)
    (fun _ h => by cases h) (fun _ h => by cases h) (fun h => by cases h) (fun h => by cases h) hk0 hk1 hkk0 hkk1 (by first | rfl | simp [refKind]) q1 q2 q3
    (by rw [g_nn sp q1, g_nn n q3]; show ¬ _ > ((arrV (gCy G 0) n0 (fun j => .int (f j))).slots.size : Int); rw [arrV_size]; omega)
    (by rw [g_nn dp q2, g_nn n q3]; show ¬ _ > ((arrV (gCy G 0) n1 (fun j => .int (g j))).slots.size : Int); rw [arrV_size]; omega)
    (fun vm₁ _ i hi => by
      have e : (vp_cell (gCy G 0) (n0, .inl f)).slots.getD (sp.toNatClampNeg + i) .null = .int (f (sp.toNatClampNeg + i)) := by
        show (arrV (gCy G 0) n0 (fun j => .int (f j))).slots.getD _ _ = _
        rw [Array.getD_eq_getD_getElem?, arrV_read _ _ (by omega)]
        rfl
      refine ⟨?_, ?_⟩
      · rw [e]
        rfl
      · rw [e]
        exact trivial)
    (g := F0 m pc ls (.int n :: .int dp :: .ref a :: .int sp :: .ref a0 :: st)) rfl (by show ls.size = _; rw [hl.2.1, F.2.2.1]) (rest := st) rfl (by rw [F.2.1]; exact hd) hf (by
      have hw9 : nativeFrameWords "java/lang/System" "arraycopy" 5 + 11 ≤ 64 := by decide
      show 2 * 0 + _ + _ ≤ _; omega)
  have e9 : copied (vp_cell (gCy G 0) (n0, .inl f)) (vp_cell (gCy G 0) (n1, .inl g)) sp dp n = vp_cell (gCy G 0) (n1, .inl (va_cpy f g sp' dp' n')) := by
    rw [← c1, ← c2, ← c3]
    exact va_copied (fun z => .int z) (gCy G 0) (gCy G 0) f g (by omega)
  rw [e9] at X' step
  have hla : a < H.size := (Array.getElem?_eq_some_iff.mp hc1).1
  have hheap : ((T.setVm vm').setCell a (vp_cell (gCy G 0) (n1, .inl (va_cpy f g sp' dp' n')))).heap = H.setIfInBounds a (vp_cell (gCy G 0) (n1, .inl (va_cpy f g sp' dp' n'))) := by rw [← hT]; rfl
  have oq : ∀ q : Nat, q ≠ a → (H.setIfInBounds a (vp_cell (gCy G 0) (n1, .inl (va_cpy f g sp' dp' n'))))[q]? = H[q]? := fun q hq => by simp [Array.getElem?_setIfInBounds, Ne.symm hq]
  obtain ⟨t, a1, b1⟩ := kk p e s m args below meth c _ _ ls F ⟨by simp; exact hS.1, fun q g1 g2 => by
      rw [oq q (fun e => g2 (by rw [e]; exact hA))]
      exact hS.2.1 q g1 g2, fun q hq => by
      rcases List.mem_append.mp hq with h | h
      · exact hS.2.2 q h
      · obtain ⟨z, -, hz⟩ := List.mem_map.mp h
        rw [← hz]
        exact hA⟩ (hR.put hA (show (H.setIfInBounds a _)[a]? = some _ by simp [Array.getElem?_setIfInBounds, hla]) oq) (by simp; exact hz) hl _ hheap X'
  exact ⟨t, step t a1, b1⟩
theorem gw_copyR {a0 a n0 n1 : Nat} {f g : Nat → Option Nat} {sp dp n : Int32} {idx : Nat} (hd : gD M pc (.invokestatic idx) 3 pc') (hw : gCpW M idx) (ha0 : h a0 = some (gR 4 n0 f)) (ha : h a = some (gR 4 n1 g)) (sp' dp' n' : Nat) (e1 : sp = nI sp') (e2 : dp = nI dp') (e3 : n = nI n') (h1 : sp' + n' ≤ n0) (h2 : dp' + n' ≤ n1) (h3 : sp' + dp' + n' < 2147483648) (hel : ∀ i, i < n' → ∀ y, f (sp' + i) = some y → ∃ fs, h y = some (gO 4 fs)) (hf : 1 ≤ R.frames) (hlo : (st.map fun v => v.category).sum + 64 ≤ R.locals)
    (kk : GW G l Z R M pc' lv st (gUp h a (gR 4 n1 (va_cpy f g sp' dp' n'))) sz k w) : GW G l Z R M pc lv (.int n :: .int dp :: .ref a :: .int sp :: .ref a0 :: st) h sz k w := by
  obtain ⟨hd, rfl⟩ := hd
  intro p e s m args below meth c H locs ls F hS hR hz hl
  have hK := F.2.2.2.2.2.2.2.2.2.1.1
  have hA := (hR a _ ha).1
  have q1 : ¬ sp < 0 := by rw [e1]; exact nI_pos (by omega)
  have q2 : ¬ dp < 0 := by rw [e2]; exact nI_pos (by omega)
  have q3 : ¬ n < 0 := by rw [e3]; exact nI_pos (by omega)
  have c1 : sp.toNatClampNeg = sp' := by rw [e1]; exact nI_clamp (by omega)
  have c2 : dp.toNatClampNeg = dp' := by rw [e2]; exact nI_clamp (by omega)
  have c3 : n.toNatClampNeg = n' := by rw [e3]; exact nI_clamp (by omega)
  intro T hT X
  have hc0 : H[a0]? = some (vp_cell (gCy G 4) (n0, .inr (.inr (.inr (.inr f))))) := (hR a0 _ ha0).2
  have hc1 : H[a]? = some (vp_cell (gCy G 4) (n1, .inr (.inr (.inr (.inr g))))) := (hR a _ ha).2
  obtain ⟨-, k0, hk0, cm0, hkk0⟩ := (hK.2 4 _ rfl).1 n0 (fun j => va_rf (f j))
  obtain ⟨-, k1, hk1, cm1, hkk1⟩ := (hK.2 4 _ rfl).1 n1 (fun j => va_rf (g j))
  obtain ⟨vm', X', step⟩ := X.arraycopy F.1 F.2.2.2.1 (F.2.2.2.2.1 _ hw.1) (F.2.2.2.2.1 _ hw.2.1) (F.2.2.2.2.1 _ hw.2.2.1) (F.2.2.2.2.1 _ hw.2.2.2) (src := a0) (dst := a) (cs := vp_cell (gCy G 4) (n0, .inr (.inr (.inr (.inr f))))) (cd := vp_cell (gCy G 4) (n1, .inr (.inr (.inr (.inr g))))) (srcPos := sp) (destPos := dp) (n := n) (by rw [hT]; exact hc0) (by rw [hT]; exact hc1)
    (fun _ h => by cases h) (fun _ h => by cases h) (fun h => by cases h) (fun h => by cases h) hk0 hk1 hkk0 hkk1 rfl q1 q2 q3
    (by rw [g_nn sp q1, g_nn n q3]; show ¬ _ > ((arrV (gCy G 4) n0 (fun j => va_rf (f j))).slots.size : Int); rw [arrV_size]; omega)
    (by rw [g_nn dp q2, g_nn n q3]; show ¬ _ > ((arrV (gCy G 4) n1 (fun j => va_rf (g j))).slots.size : Int); rw [arrV_size]; omega)
    (fun vm₁ hal i hi => by
      have e : (vp_cell (gCy G 4) (n0, .inr (.inr (.inr (.inr f))))).slots.getD (sp.toNatClampNeg + i) .null = va_rf (f (sp.toNatClampNeg + i)) := by
        show (arrV (gCy G 4) n0 (fun j => va_rf (f j))).slots.getD _ _ = _
        rw [Array.getD_eq_getD_getElem?, arrV_read _ _ (by omega)]
        rfl
      rw [e]
      cases hy : f (sp.toNatClampNeg + i) with
      | none => exact ⟨rfl, trivial⟩
      | some y =>
        obtain ⟨fs, hfs⟩ := hel i (by omega) y (by rw [← c1]; exact hy)
        obtain ⟨cellV, g1, g2, g3⟩ := va_recv hK (gP1 hR hfs) (ci := 4) (q0 := 0) rfl rfl
        obtain ⟨kA, comp, r1, r2, r3, -⟩ := (hK.2 4 _ rfl).2
        cases hk1.symm.trans r1
        cases hkk1.symm.trans r2
        obtain ⟨kC, hkC, -⟩ := Vm.findClass_spec g3
        obtain ⟨kE, hkE, -⟩ := Vm.findClass_spec r3
        obtain ⟨kC', hkC', -⟩ := hal.2.2 _ _ hkC
        obtain ⟨kE', hkE', -⟩ := hal.2.2 _ _ hkE
        refine ⟨rfl, cellV, (show T.heap[y]? = some cellV by rw [hT]; exact g1), (fun q h => by rw [h] at g2; cases g2), ⟨kC', hkC'⟩, ?_, ?_⟩
        · exact ⟨kE', hkE'⟩
        · show vm₁.assignable _ _ = true
          rw [hal.assignable]
          obtain ⟨d0, t1, f1, f2, f3⟩ := Cond.castable_spec (va_Nw.use (A := args) rfl (F.2.2.2.2.2.2.2.2.2.1.2.1 (.castable "FolderRounds$Version" "java/lang/Object") (by simp [gNwl])))
          have w1 : cellV.cls = d0 := Option.some.inj (g3.symm.trans f1)
          have w2 := Option.some.inj (r3.symm.trans f2)
          rw [w1, w2]
          exact f3)
    (g := F0 m pc ls (.int n :: .int dp :: .ref a :: .int sp :: .ref a0 :: st)) rfl (by show ls.size = _; rw [hl.2.1, F.2.2.1]) (rest := st) rfl (by rw [F.2.1]; exact hd) hf (by
      have hw9 : nativeFrameWords "java/lang/System" "arraycopy" 5 + 11 ≤ 64 := by decide
      show 2 * 0 + _ + _ ≤ _; omega)
  have e9 : copied (vp_cell (gCy G 4) (n0, .inr (.inr (.inr (.inr f))))) (vp_cell (gCy G 4) (n1, .inr (.inr (.inr (.inr g))))) sp dp n = vp_cell (gCy G 4) (n1, .inr (.inr (.inr (.inr (va_cpy f g sp' dp' n'))))) := by
    rw [← c1, ← c2, ← c3, vp_cell_q, vp_cell_q, vp_cell_q]
    exact va_copied (fun z => va_rf z) (gCy G 4) (gCy G 4) f g (by omega)
  rw [e9] at X' step
  have hla : a < H.size := (Array.getElem?_eq_some_iff.mp hc1).1
  have hheap : ((T.setVm vm').setCell a (vp_cell (gCy G 4) (n1, .inr (.inr (.inr (.inr (va_cpy f g sp' dp' n'))))))).heap = H.setIfInBounds a (vp_cell (gCy G 4) (n1, .inr (.inr (.inr (.inr (va_cpy f g sp' dp' n')))))) := by rw [← hT]; rfl
  have oq : ∀ q : Nat, q ≠ a → (H.setIfInBounds a (vp_cell (gCy G 4) (n1, .inr (.inr (.inr (.inr (va_cpy f g sp' dp' n')))))))[q]? = H[q]? := fun q hq => by simp [Array.getElem?_setIfInBounds, Ne.symm hq]
  obtain ⟨t, a1, b1⟩ := kk p e s m args below meth c _ _ ls F ⟨by simp; exact hS.1, fun q g1 g2 => by
      rw [oq q (fun e => g2 (by rw [e]; exact hA))]
      exact hS.2.1 q g1 g2, fun q hq => by
      rcases List.mem_append.mp hq with h | h
      · exact hS.2.2 q h
      · obtain ⟨z, -, hz⟩ := List.mem_map.mp h
        rw [← hz]
        exact hA⟩ (hR.put hA (show (H.setIfInBounds a _)[a]? = some _ by simp [Array.getElem?_setIfInBounds, hla]) oq) (by simp; exact hz) hl _ hheap X'
  exact ⟨t, step t a1, b1⟩
/-- what a call of method y at pool index idx needs -/
def gCl0 (M : gM) (idx : Nat) (y : MethodName) (M' : gM) (n : Nat) : Prop := Cond.methodLink M.2.2.1 idx y ∈ gW ∧ Cond.initialized y.cls ∈ gW ∧ gCode y M' ∈ gW ∧ (y.cls ≠ "java/lang/invoke/MethodHandle" ∧ y.cls ≠ "java/lang/invoke/VarHandle") ∧ (parseMethodDescriptor y.desc).map (fun d => d.parameters.length) = some n
def gClV (M : gM) (idx ci : Nat) (y : MethodName) (M' : gM) (n : Nat) : Prop := gCl0 M idx y M' n ∧ M'.2.2.2.2.1 = [] ∧ Cond.instanceMethod y ∈ gW ∧ Cond.selects y.cls y y ∈ gW ∧ ∃ (T : u_T) (N : Nat), gCl[ci]? = some (y.cls, T, N)
def gClS (M : gM) (idx : Nat) (y : MethodName) (M' : gM) (n : Nat) : Prop := gCl0 M idx y M' n ∧ Cond.static y ∈ gW
def gClI (M : gM) (idx : Nat) (y : MethodName) (M' : gM) (n : Nat) : Prop := gCl0 M idx y M' n ∧ M'.2.2.2.2.1 = [] ∧ Cond.instanceMethod y ∈ gW ∧ y.name = "<init>" ∧ M'.2.2.2.2.2 = none
def gRm (R : Room) (d : Nat) (M' : gM) : Prop := 16 * d + 1 ≤ R.frames ∧ 8 + (M'.2.1 + 11) + 128 * d ≤ R.locals
theorem gCode_nil {y : MethodName} {M' : gM} (h : M'.2.2.2.2.1 = []) : gCode y M' = .code y M'.1 M'.2.1 M'.2.2.2.2.2 := by unfold gCode; rw [if_pos h]
theorem gCode_cons {y : MethodName} {M' : gM} (h : ¬ M'.2.2.2.2.1 = []) : gCode y M' = .codeWith y M'.1 M'.2.1 M'.2.2.2.2.2 M'.2.2.2.2.1 := by unfold gCode; rw [if_neg h]
theorem gCallB {M : gM} {p : Program} {s : State} {m : MethodId} {args : Array Value} {meth : Method} {c : Code} {idx n d mc ms : Nat} {y : MethodName} {M' : gM} (F : gFix G M p s m args meth c) (hc : gCl0 M idx y M' n) (hn : M'.2.2.2.2.1 = []) (hR : gRm R d M') : CallB R s args M.2.2.1 idx y M'.1 M'.2.1 M'.2.2.2.2.2 (gWs y M') (gRoom d mc ms) mc ms n :=
  callB_of n F.2.2.2.2.1 (gGood hc.2.2.1) (by unfold gWs; rw [gCode_nil hn]) rfl rfl (F.2.2.2.2.1 _ hc.2.1) (F.2.2.2.2.1 _ hc.1) ⟨hc.2.2.2.1.1, hc.2.2.2.1.2, hc.2.2.2.2⟩ hR
/-- what follows a call that may return or throw -/
theorem gw_after {p : Program} {e : Env} {s : State} {m : MethodId} {args : Array Value} {below : List Frame} {meth : Method} {c : Code} {H : Heap} {locs : List Loc} {ls : Array Slot} {mc ms : Nat} {st0 : List Value} {Q : gRs → gHp → Nat → Prop} {as : Array Value}
    (F : gFix G M p s m args meth c) (hS : va_S (gA G) s.heap H locs) (hz : H.size = sz) (hl : gLs ls M.2.1 lv) (hpc : pc + 3 = pc')
    (hr : vx_Run p l e R s m args below meth c H locs k w mc ms (F0 m pc ls st0) st (gQ G Q as) (gX G Q) (gA G))
    (kr : ∀ v h' sz', Q (.inl v) h' sz' → sz ≤ sz' → GW G l Z R M pc' lv (v.toList ++ st) h' sz' (k + mc) (w + ms))
    (kx : ∀ E h' sz', Q (.inr E) h' sz' → sz ≤ sz' → GX G l Z R M pc lv st h' sz' (k + mc) (w + ms) E) : W p l e R s m args below meth c H locs k w (Z s args below) (F0 m pc ls st0) := by
  subst hpc
  intro T hT X
  rcases hr T hT X with ⟨v, st₀, t, T', L, h0, X', hL, e1, e2, ⟨v', h', hv, hrep, hQ, hF⟩, step⟩ | ⟨q, st₀, t, T', L, E, ce, h0, X', hL, e1, e2, ⟨h', hrep, hQ, hF⟩, hce, hcv, hcl, step⟩
  · cases hv
    obtain ⟨k1, k2, k3⟩ := vx_keep h0 e1 hS (fun _ _ z => z) (fun _ z => z) hL hF
    obtain ⟨t2, a1, b1⟩ := kr v h' t.heap.size hQ (by rw [← hz, ← e1]; exact k1) p e s m args below meth c T'.heap (locs ++ L) ls F k3 (by rw [e1]; exact hrep) (by rw [e1]) hl T' rfl X'
    exact ⟨t2, step t2 a1, b1⟩
  · obtain ⟨k1, k2, k3⟩ := vx_keep h0 e1 hS (fun _ _ z => z) (fun _ z => z) hL hF
    obtain ⟨t2, a1, b1⟩ := kx E h' t.heap.size hQ (by rw [← hz, ← e1]; exact k1) p e s m args below meth c T'.heap (locs ++ L) ls q ce F k3 (by rw [e1]; exact hrep) (by rw [e1]) hl (by rw [e1]; exact hce) hcv hcl T' rfl X'
    exact ⟨t2, step.trans a1, b1⟩
theorem gw_callV {b ci idx n d mc ms : Nat} {y : MethodName} {M' : gM} {fs As st0 : List Value} {Q : gRs → gHp → Nat → Prop} (hd : gD M pc (.invokevirtual idx) 3 pc') (hc : gClV M idx ci y M' n) (hb : h b = some (gO ci fs)) (hst : st0 = As.reverse ++ .ref b :: st) (hn : As.length = n) (hsum : (st.map fun v => v.category).sum ≤ 8) (hR : gRm R d M') (hcs : k + mc ≤ R.cells) (hss : w + ms ≤ R.slots)
    (hM : SM G l d y M' (.ref b :: As) h sz mc ms Q)
    (kr : ∀ v h' sz', Q (.inl v) h' sz' → sz ≤ sz' → GW G l Z R M pc' lv (v.toList ++ st) h' sz' (k + mc) (w + ms))
    (kx : ∀ E h' sz', Q (.inr E) h' sz' → sz ≤ sz' → GX G l Z R M pc lv st h' sz' (k + mc) (w + ms) E) : GW G l Z R M pc lv st0 h sz k w := by
  obtain ⟨hd, hpc⟩ := hd
  obtain ⟨hc0, hhn, hi, hsel, T, N, hci⟩ := hc
  intro p e s m args below meth c H locs ls F hS hRp hz hl
  subst hst
  have hK := F.2.2.2.2.2.2.2.2.2.1
  refine gw_after F hS hz hl hpc (vx_runV (As := As) (rest := st) (b := b) ⟨F.1, F.2.1, F.2.2.1, F.2.2.2.1, F.2.2.2.2.1⟩ hM ⟨gCallB F hc0 hhn hR, F.2.2.2.2.1 _ hi, F.2.2.2.2.1 _ hsel⟩ ⟨gPc_blind, va_recv hK.1 (gP1 hRp hb) (q0 := 0) hci rfl, gPc_at hK F.2.2.2.2.2.2.2.2.2.2.1 F.2.2.2.2.2.2.2.2.2.2.2 hS hRp hz⟩ rfl hn hl.2.1 rfl (by show 2 * 0 + _ ≤ 8; omega) hd ⟨hcs, hss⟩) kr kx
theorem gw_callS {idx n d mc ms : Nat} {y : MethodName} {M' : gM} {As st0 : List Value} {Q : gRs → gHp → Nat → Prop} (hd : gD M pc (.invokestatic idx) 3 pc') (hc : gClS M idx y M' n) (hst : st0 = As.reverse ++ st) (hn : As.length = n) (hsum : (st.map fun v => v.category).sum ≤ 8) (hR : gRm R d M') (hcs : k + mc ≤ R.cells) (hss : w + ms ≤ R.slots)
    (hM : SM G l d y M' As h sz mc ms Q)
    (kr : ∀ v h' sz', Q (.inl v) h' sz' → sz ≤ sz' → GW G l Z R M pc' lv (v.toList ++ st) h' sz' (k + mc) (w + ms))
    (kx : ∀ E h' sz', Q (.inr E) h' sz' → sz ≤ sz' → GX G l Z R M pc lv st h' sz' (k + mc) (w + ms) E) : GW G l Z R M pc lv st0 h sz k w := by
  obtain ⟨hd, hpc⟩ := hd
  obtain ⟨hc0, hstt⟩ := hc
  intro p e s m args below meth c H locs ls F hS hRp hz hl
  subst hst
  have hK := F.2.2.2.2.2.2.2.2.2.1
  by_cases hhn : M'.2.2.2.2.1 = []
  · exact gw_after F hS hz hl hpc (vx_runS (As := As) (rest := st) ⟨F.1, F.2.1, F.2.2.1, F.2.2.2.1, F.2.2.2.2.1⟩ hM ⟨gCallB F hc0 hhn hR, F.2.2.2.2.1 _ hstt⟩ ⟨gPc_blind, gPc_at hK F.2.2.2.2.2.2.2.2.2.2.1 F.2.2.2.2.2.2.2.2.2.2.2 hS hRp hz⟩ rfl hn hl.2.1 rfl (by show 2 * 0 + _ ≤ 8; omega) hd ⟨hcs, hss⟩) kr kx
  · have hcode := hc0.2.2.1
    have hG := gGood hcode
    rw [gCode_cons hhn] at hcode
    refine gw_after F hS hz hl hpc (vx_runSX (hh := M'.2.2.2.2.1) (bytes := M'.1) (maxL := M'.2.1) (ret := M'.2.2.2.2.2) (As := As) (rest := st) ⟨F.1, F.2.1, F.2.2.1, F.2.2.2.1, F.2.2.2.2.1⟩ hM ⟨⟨rfl, rfl, hR.1, hR.2, pay_in F.2.2.2.2.1 hG, ?_⟩, F.2.2.2.2.1 _ hcode, F.2.2.2.2.1 _ hc0.2.1, hc0.2.2.2.1, fun sig hsg => ?_, F.2.2.2.2.1 _ hc0.1, F.2.2.2.2.1 _ hstt⟩ ⟨gPc_blind, gPc_at hK F.2.2.2.2.2.2.2.2.2.2.1 F.2.2.2.2.2.2.2.2.2.2.2 hS hRp hz⟩ rfl hn hl.2.1 rfl (by show 2 * 0 + _ ≤ 8; omega) hd ⟨hcs, hss⟩) kr kx
    · unfold gWs; rw [gCode_cons hhn]; exact List.mem_cons_self
    · have h2 := hc0.2.2.2.2
      rw [hsg] at h2
      exact (Option.some.inj h2).symm
theorem gw_callI {b idx n d mc ms : Nat} {y : MethodName} {M' : gM} {As st0 : List Value} {Q : gRs → gHp → Nat → Prop} (hd : gD M pc (.invokespecial idx) 3 pc') (hc : gClI M idx y M' n) (hst : st0 = As.reverse ++ .ref b :: st) (hn : As.length = n) (hsum : (st.map fun v => v.category).sum ≤ 8) (hR : gRm R d M') (hcs : k + mc ≤ R.cells) (hss : w + ms ≤ R.slots)
    (hM : SM G l d y M' (.ref b :: As) h sz mc ms Q) (hx : ∀ E h' sz', ¬ Q (.inr E) h' sz')
    (kr : ∀ v h' sz', Q (.inl v) h' sz' → sz ≤ sz' → GW G l Z R M pc' lv (v.toList ++ st) h' sz' (k + mc) (w + ms)) : GW G l Z R M pc lv st0 h sz k w := by
  obtain ⟨hd, hpc⟩ := hd
  obtain ⟨hc0, hhn, hi, hnm, hrt⟩ := hc
  intro p e s m args below meth c H locs ls F hS hRp hz hl
  subst hst
  have hK := F.2.2.2.2.2.2.2.2.2.1
  have hM' := vx_Met.toMet hM (fun E st t q => hx _ _ _ q.choose_spec.2.1)
  have hB := gCallB (mc := mc) (ms := ms) F hc0 hhn hR
  rw [hrt] at hB
  have hr := va_runI (As := As) (rest := st) (b := b) (g := F0 m pc ls (As.reverse ++ .ref b :: st)) ⟨F.1, F.2.1, F.2.2.1, F.2.2.2.1, F.2.2.2.2.1⟩ hM' ⟨hB, hnm, F.2.2.2.2.1 _ hi⟩ (⟨gPc_blind, gPc_at hK F.2.2.2.2.2.2.2.2.2.2.1 F.2.2.2.2.2.2.2.2.2.2.2 hS hRp hz⟩ : PreS s H (gPc G (.ref b :: As) h sz) (.ref b :: As)) rfl hn hl.2.1 rfl (by show 2 * 0 + _ ≤ 8; omega) hd (p := p) (e := e) (below := below) (meth := meth) (locs := locs) (R := R) (cells := k) (slots := w) ⟨hcs, hss⟩
  refine gw_after F hS hz hl hpc (Q := Q) (as := (Value.ref b :: As).toArray) ?_ kr (fun E h' sz' q => absurd q (hx _ _ _))
  intro T hT X
  exact Or.inl (hr T hT X)
/-- an exception leaves a method that has no handlers -/
theorem gx_out {Q : gRs → gHp → Nat → Prop} {MC MS : Nat} {E : String} (hh : M.2.2.2.2.1 = []) (hQ : Q (.inr E) h sz) (hk : k ≤ MC) (hw : w ≤ MS) : GX G l (gZ G Q MC MS) R M pc lv st h sz k w E := by
  intro p e s m args below meth c H locs ls q ce F hS hR hz hl h3 h4 h5
  refine vx_out (fun x hx => ?_) F.2.2.2.2.2.2.2.2.1 h3 h4 h5 (fun t ht ha => ⟨h, by rw [ht]; exact hR, by rw [ht, hz]; exact hQ, hS.F ht⟩) hS.2.2 hk hw
  rw [F.2.2.2.2.2.2.1, hh] at hx
  cases hx
/-- .. or is caught -/
theorem gx_catch {E nm : String} (pre : List ExceptionTableEntry) (x : ExceptionTableEntry) (suf : List ExceptionTableEntry) (hsplit : tableOf M.2.2.2.2.1 = pre ++ x :: suf) (hpass : ∀ z ∈ pre, z.catchType ≠ 0 ∧ ∃ nm : String, Cond.classLink M.2.2.1 z.catchType nm ∈ gW ∧ (E, nm) ∈ gNc) (hx : covers x pc = true) (h0 : x.catchType ≠ 0) (hlink : Cond.classLink M.2.2.1 x.catchType nm ∈ gW) (hcast : Cond.castable E nm ∈ gNwl)
    (kk : ∀ q : Nat, GW G l Z R M x.handlerPc lv [.ref q] h sz k w) : GX G l Z R M pc lv st h sz k w E := by
  intro p e s m args below meth c H locs ls q ce F hS hR hz hl h3 h4 h5
  have hK := F.2.2.2.2.2.2.2.2.2.1
  refine vx_catch F.2.2.2.1 pre x suf (by rw [F.2.2.2.2.2.2.1]; exact hsplit) (fun z hz => ?_) hx h0 (F.2.2.2.2.1 _ hlink) (va_Nw.use rfl (hK.2.1 _ hcast)) h3 h4 h5 (kk q p e s m args below meth c H locs ls F hS hR hz hl)
  obtain ⟨z0, nm', q1, q2⟩ := hpass z hz
  exact Or.inr ⟨z0, nm', F.2.2.2.2.1 _ q1, hK.2.2.1 _ q2⟩
/-- returns -/
theorem gw_iret {Q : gRs → gHp → Nat → Prop} {MC MS : Nat} {v : Int32} (hd : gD M pc .ireturn 1 pc') (hr : M.2.2.2.2.2 = some .int) (hk : k ≤ MC) (hw : w ≤ MS) (hQ : Q (.inl (some (.int v))) h sz) : GW G l (gZ G Q MC MS) R M pc lv [.int v] h sz k w := by
  intro p e s m args below meth c H locs ls F hS hR hz hl
  have hlocks := F.2.2.2.2.2.2.2.2.1
  exact W.widen hk hw (vx_ret (W.iret F.1 F.2.1 (F.2.2.2.2.2.2.2.1.trans hr) (fun t ht hW => ⟨_, h, rfl, by rw [ht]; exact hR, by rw [ht, hz]; exact hQ, hS.F ht⟩) hS.2.2 hd.1 hlocks))
theorem gw_zret {Q : gRs → gHp → Nat → Prop} {MC MS : Nat} {v : Int32} (hd : gD M pc .ireturn 1 pc') (hr : M.2.2.2.2.2 = some .boolean) (hv : v = 0 ∨ v = 1) (hk : k ≤ MC) (hw : w ≤ MS) (hQ : Q (.inl (some (.int v))) h sz) : GW G l (gZ G Q MC MS) R M pc lv [.int v] h sz k w := by
  intro p e s m args below meth c H locs ls F hS hR hz hl
  have hlocks := F.2.2.2.2.2.2.2.2.1
  have hn : narrow .boolean (.int v) = .int v := by rcases hv with rfl | rfl <;> decide
  exact W.widen hk hw (vx_ret (W.zret F.1 F.2.1 (F.2.2.2.2.2.2.2.1.trans hr) hn (fun t ht hW => ⟨_, h, rfl, by rw [ht]; exact hR, by rw [ht, hz]; exact hQ, hS.F ht⟩) hS.2.2 hd.1 hlocks))
theorem gw_aret {Q : gRs → gHp → Nat → Prop} {MC MS : Nat} {v : Value} {rt : FieldType} (hd : gD M pc .areturn 1 pc') (hr : M.2.2.2.2.2 = some rt) (hrt : (∃ n, rt = .object n) ∨ ∃ t, rt = .array t) (hv : v = .null ∨ ∃ a, v = .ref a) (hk : k ≤ MC) (hw : w ≤ MS) (hQ : Q (.inl (some v)) h sz) : GW G l (gZ G Q MC MS) R M pc lv [v] h sz k w := by
  intro p e s m args below meth c H locs ls F hS hR hz hl
  have hlocks := F.2.2.2.2.2.2.2.2.1
  exact W.widen hk hw (vx_ret (W.aret F.1 F.2.1 (F.2.2.2.2.2.2.2.1.trans hr) hrt hv (fun t ht hW => ⟨_, h, rfl, by rw [ht]; exact hR, by rw [ht, hz]; exact hQ, hS.F ht⟩) hS.2.2 hd.1 hlocks))
theorem gw_vret {Q : gRs → gHp → Nat → Prop} {MC MS : Nat} (hd : gD M pc .return_ 1 pc') (hr : M.2.2.2.2.2 = none) (hk : k ≤ MC) (hw : w ≤ MS) (hQ : Q (.inl none) h sz) : GW G l (gZ G Q MC MS) R M pc lv [] h sz k w := by
  intro p e s m args below meth c H locs ls F hS hR hz hl
  have hlocks := F.2.2.2.2.2.2.2.2.1
  exact W.widen hk hw (vx_ret (W.vret F.1 F.2.1 (F.2.2.2.2.2.2.2.1.trans hr) (fun t ht hW => ⟨_, h, rfl, by rw [ht]; exact hR, by rw [ht, hz]; exact hQ, hS.F ht⟩) hS.2.2 hd.1 hlocks))
/-- throw new E() -/
def gTh (M : gM) (pc : Nat) (E : String) : Prop := ∃ (ik ic : Nat), decode M.1 pc = .ok (.new ik, 3) ∧ decode M.1 (pc + 3) = .ok (.dup, 1) ∧ decode M.1 (pc + 4) = .ok (.invokespecial ic, 3) ∧ decode M.1 (pc + 7) = .ok (.athrow, 1) ∧ Bundle.fit E = true ∧ Cond.classLink M.2.2.1 ik E ∈ gW ∧ Cond.initialized E ∈ gW ∧ (∀ c ∈ vx_at0 M.2.2.1 ic E ["java/lang/RuntimeException", "java/lang/Exception"], c ∈ gW ∨ c ∈ gNwl) ∧ (∀ c ∈ Cond.classLink M.2.2.1 ik E :: Cond.initialized E :: vx_at0 M.2.2.1 ic E ["java/lang/RuntimeException", "java/lang/Exception"], vx_ot c = true)
theorem gw_throw {Q : gRs → gHp → Nat → Prop} {MC MS d : Nat} {E : String} (hd : gTh M pc E) (htr : l.stackTraces = false) (hh : M.2.2.2.2.1 = []) (hdd : 1 ≤ d) (hsum : (st.map fun v => v.category).sum ≤ 8) (hk : k + 1 ≤ MC) (hw : w + 6 ≤ MS) (hQ : ∀ sz', sz ≤ sz' → Q (.inr E) h sz') : GW G l (gZ G Q MC MS) (gRoom d MC MS) M pc lv st h sz k w := by
  obtain ⟨ik, ic, d0, d3, d4, d7, hfit, hkl, hini, hat, hot⟩ := hd
  intro p e s m args below meth c H locs ls F hS hR hz hl
  have hK := F.2.2.2.2.2.2.2.2.2.1
  obtain ⟨-, -, hU, hN⟩ := F.2.2.2.2.2.2.2.2.2.2.1
  refine vx_throw0 F.1 F.2.1 htr (names := ["java/lang/RuntimeException", "java/lang/Exception"]) F.2.2.2.1 hfit (by decide +kernel) (F.2.2.2.2.1 _ hkl) (F.2.2.2.2.1 _ hini) (fun c hc => ?_) hot hU hN hS (by rw [hl.2.1, F.2.2.1]) d0 d3 d4 d7 (fun x hx => ?_) (by show 2 + 3 < 16 * d; omega) (by show _ + (13 * (2 + 1) + 42) ≤ 128 * d; omega) hk hw F.2.2.2.2.2.2.2.2.1 (fun t ha h1 h2 => ⟨h, hR.grow h2, hQ _ (by rw [← hz]; exact h1), Nat.le_trans hS.1 h1, fun q g1 g2 => (h2 q (Nat.lt_of_lt_of_le g1 hS.1)).trans (hS.2.1 q g1 g2)⟩) hS.2.2 hk hw
  · rcases hat c hc with q | q
    · exact F.2.2.2.2.1 _ q
    · refine va_Nw.use ?_ (hK.2.1 _ q)
      rcases gNwl_kind c q with ⟨a, b, rfl⟩ | ⟨x, rfl⟩ <;> rfl
  · rw [F.2.2.2.2.2.2.1, hh] at hx
    cases hx
end Rows3
/-- entries -/
theorem vx_ofWF {l : Launch} {y : MethodName} {ws ws' : List Cond} {rm : Room} {Pc : Array Value → State → Prop} {Qc : Array Value → State → Outcome → State → Prop} {XC : String → State → State → Prop} {mc ms : Nat} {free : Addr → Prop} {cc : ByteArray} {maxL : Nat} {ret : Option FieldType}
    (hy : plainFor y = true) (hw : ws = Cond.code y cc maxL ret :: ws')
    (body : ∀ p e s m args below meth c s₁, BodyLoose p l y (headSpec ws rm) cc maxL ret e s m args below meth c s₁ → c.maxLocals = maxL → c.exceptionTable.toList = [] → Pc args s →
      W p l e (headSpec ws rm).room s m args below meth c s.heap [] 0 0 (vx_MQ below Qc XC args s mc ms free) (entryFrame m args maxL)) : vx_Met l y ws rm Pc Qc XC mc ms free := by
  refine MetFree.of_bodySF (code := cc) (maxLocals := maxL) (ret := ret) hy ?_ ?_
  · intro args s m h hn
    obtain ⟨meth, c, h1, h2, h3, h4, h5, h6, -, -⟩ := Cond.code_spec hn (atoms_spec (ws := ws) h _ (by rw [hw]; exact List.mem_cons_self))
    exact ⟨meth, c, h1, h2, h3, h4, h5, h6⟩
  · intro p e s m args below meth c s₁ B hml hP _
    have hh0 : s₁.heap = s.heap := by rw [B.state]; rfl
    have ht : c.exceptionTable.toList = [] := by
      obtain ⟨meth9, c9, h1, h2, -, -, -, -, h7, -⟩ := Cond.code_spec B.named (atoms_spec (ws := ws) B.pre _ (by rw [hw]; exact List.mem_cons_self))
      cases Option.some.inj (h1.symm.trans B.method)
      cases Option.some.inj (h2.symm.trans (Stand.of_body B).code)
      rw [Array.isEmpty_iff.mp h7]
    obtain ⟨t, a1, o, b1, b2, b3⟩ := body p e s m args below meth c s₁ B hml ht hP s₁ hh0 (Stand.of_body B)
    exact ⟨t, o, a1, b1, b2, b3⟩
theorem gLs_entry {av : List Value} {nL : Nat} (hc : ∀ v ∈ av, v.category = 1) (hle : av.length ≤ nL) : gLs ((lg_sl av ++ List.replicate (nL - (lg_sl av).length) Slot.unset).toArray) nL (av.map some ++ List.replicate (nL - av.length) none) := by
  have hsl : ∀ av : List Value, (∀ v ∈ av, v.category = 1) → lg_sl av = av.map Slot.val := by
    intro av
    induction av with
    | nil => intro _; rfl
    | cons v r ih =>
      intro h
      have h1 := h v List.mem_cons_self
      have h2 := ih (fun x hx => h x (List.mem_cons_of_mem _ hx))
      simp only [lg_sl, List.flatMap_cons] at h2 ⊢
      rw [h2, if_neg (by omega)]
      rfl
  have hh := lv_entry av (n := nL) (by rw [hsl av hc, List.length_map]; exact hle)
  refine ⟨by simp; omega, hh.1, hh.2.1, fun i v hi => ?_⟩
  by_cases hlt : i < av.length
  · rw [List.getElem?_append_left (by simpa using hlt), List.getElem?_map] at hi
    have hv : av[i]? = some v := by
      cases hq : av[i]? with
      | none => rw [hq] at hi; cases hi
      | some x => rw [hq] at hi; simp at hi; rw [hi]
    refine ⟨?_, hc v (List.mem_of_getElem? hv)⟩
    rw [hsl av hc]
    simp only [List.getElem?_toArray]
    rw [List.getElem?_append_left (by simpa using hlt), List.getElem?_map, hv]
    rfl
  · rw [List.getElem?_append_right (by simpa using hlt), List.getElem?_replicate] at hi
    split at hi <;> simp at hi
theorem SM.of {G : gG} {l : Launch} {d : Nat} {y : MethodName} {M : gM} {av : List Value} {h : gHp} {sz mc ms : Nat} {Q : gRs → gHp → Nat → Prop} {lv0 : List (Option Value)} (hy : plainFor y = true) (hh : M.2.2.2.2.1 = []) (hyc : y.cls = M.2.2.1 ∧ y.name = M.2.2.2.1) (hlv : av.map some ++ List.replicate (M.2.1 - av.length) none = lv0) (hc : ∀ v ∈ av, v.category = 1) (hle : av.length ≤ M.2.1)
    (body : GW G l (gZ G Q mc ms) (gRoom d mc ms) M 0 lv0 [] h sz 0 0) : SM G l d y M av h sz mc ms Q := by
  subst hlv
  refine vx_ofWF (cc := M.1) (maxL := M.2.1) (ret := M.2.2.2.2.2) (ws' := gW) hy (by unfold gWs; rw [gCode_nil hh]) ?_
  intro p e s m args below meth c s₁ B hml hxt hP
  obtain ⟨rfl, hK, hS, hb, hR, hz⟩ := hP
  have hts := atoms_spec (ws := gWs y M) B.pre
  rw [lg_entry_eq]
  exact body p e s m _ below meth c s.heap [] _ ⟨B.exec, B.bytes, hml, by rw [← hyc.1]; exact findClass_of_methodNamed B.named, fun w hw => hts w (List.mem_cons_of_mem _ hw), by rw [← hyc.2]; exact (name_of_methodNamed B.named B.method).1, by rw [hxt, hh]; rfl, B.returns, B.notSynchronized, hK, hS, hb⟩ va_S.rf hR hz (gLs_entry hc hle)
theorem SM.ofH {G : gG} {l : Launch} {d : Nat} {y : MethodName} {M : gM} {av : List Value} {h : gHp} {sz mc ms : Nat} {Q : gRs → gHp → Nat → Prop} {lv0 : List (Option Value)} (hy : plainName y.cls = true) (hh : ¬ M.2.2.2.2.1 = []) (hyc : y.cls = M.2.2.1 ∧ y.name = M.2.2.2.1) (hlv : av.map some ++ List.replicate (M.2.1 - av.length) none = lv0) (hc : ∀ v ∈ av, v.category = 1) (hle : av.length ≤ M.2.1)
    (body : GW G l (gZ G Q mc ms) (gRoom d mc ms) M 0 lv0 [] h sz 0 0) : SM G l d y M av h sz mc ms Q := by
  subst hlv
  refine vx_ofWH (cc := M.1) (maxL := M.2.1) (ret := M.2.2.2.2.2) (hh := M.2.2.2.2.1) (ws' := gW) hy (by unfold gWs; rw [gCode_cons hh]) ?_
  intro p e s m args below meth c s₁ B hml hP
  obtain ⟨rfl, hK, hS, hb, hR, hz⟩ := hP
  have hts := atoms_spec (ws := gWs y M) B.pre
  have hxt := vx_table (x := y) B (by have h9 := hts _ List.mem_cons_self; rw [gCode_cons hh] at h9; exact h9)
  rw [lg_entry_eq]
  exact body p e s m _ below meth c s.heap [] _ ⟨B.exec, B.bytes, hml, by rw [← hyc.1]; exact findClass_of_methodNamed B.named, fun w hw => hts w (List.mem_cons_of_mem _ hw), by rw [← hyc.2]; exact (name_of_methodNamed B.named B.method).1, hxt, B.returns, B.notSynchronized, hK, hS, hb⟩ va_S.rf hR hz (gLs_entry hc hle)
