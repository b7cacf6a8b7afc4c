/-! ===== a row an instruction, over GW ===== -/
def gD (M : gM) (pc : Nat) (i : Instr) (n pc' : Nat) : Prop := decode M.1 pc = .ok (i, n) ∧ pc + n = pc'
def gB (M : gM) (pc : Nat) (i : Instr) (off : Int) (pc' tgt : Nat) : Prop := decode M.1 pc = .ok (i, 3) ∧ pc + 3 = pc' ∧ (pc : Int) + off = (tgt : Int)
/-- a constant is pushed -/
def gN (M : gM) (pc : Nat) (v : Int32) (pc' : Nat) : Prop := (∃ n : Int, decode M.1 pc = .ok (.iconst n, 1) ∧ Int32.ofInt n = v ∧ pc + 1 = pc') ∨ (∃ n : Int, decode M.1 pc = .ok (.bipush n, 2) ∧ (Int8.ofInt n).toInt32 = v ∧ pc + 2 = pc') ∨ (∃ n : Int, decode M.1 pc = .ok (.sipush n, 3) ∧ (Int16.ofInt n).toInt32 = v ∧ pc + 3 = pc') ∨ (∃ i : Nat, decode M.1 pc = .ok (.ldc i, 2) ∧ Cond.constant M.2.2.1 i v ∈ gW ∧ pc + 2 = pc')
def gIl (M : gM) (pc i pc' : Nat) : Prop := (decode M.1 pc = .ok (.iload i, 2) ∧ pc + 2 = pc') ∨ (∃ k : Fin 4, decode M.1 pc = .ok (.iload_n k, 1) ∧ (k : Nat) = i ∧ pc + 1 = pc')
def gAl (M : gM) (pc i pc' : Nat) : Prop := (decode M.1 pc = .ok (.aload i, 2) ∧ pc + 2 = pc') ∨ (∃ k : Fin 4, decode M.1 pc = .ok (.aload_n k, 1) ∧ (k : Nat) = i ∧ pc + 1 = pc')
def gIs (M : gM) (pc i pc' : Nat) : Prop := (decode M.1 pc = .ok (.istore i, 2) ∧ pc + 2 = pc') ∨ (∃ k : Fin 4, decode M.1 pc = .ok (.istore_n k, 1) ∧ (k : Nat) = i ∧ pc + 1 = pc')
def gAst (M : gM) (pc i pc' : Nat) : Prop := (decode M.1 pc = .ok (.astore i, 2) ∧ pc + 2 = pc') ∨ (∃ k : Fin 4, decode M.1 pc = .ok (.astore_n k, 1) ∧ (k : Nat) = i ∧ pc + 1 = pc')
def gIc (M : gM) (pc i : Nat) (v : Int32) (pc' : Nat) : Prop := ∃ n : Int, decode M.1 pc = .ok (.iinc i n, 3) ∧ Int32.ofInt n = v ∧ pc + 3 = pc'
/-- the field of an instruction: number kf of class ci -/
def gFl (M : gM) (idx ci kf : Nat) : Prop := ∃ (C : String) (T : u_T) (N : Nat) (ref : String), gCl[ci]? = some (C, T, N) ∧ kf < N ∧ Cond.fieldLink M.2.2.1 idx ref (T kf).2.1 (T kf).2.2.1 ∈ gW ∧ (∀ w ∈ u_ws C T N, w ∈ gW) ∧ (ref = (T kf).1 ∨ Cond.sameField ref (T kf).1 (T kf).2.1 (T kf).2.2.1 ∈ gW)
def gGf (M : gM) (pc ci kf pc' : Nat) : Prop := ∃ idx : Nat, decode M.1 pc = .ok (.getfield idx, 3) ∧ pc + 3 = pc' ∧ gFl M idx ci kf
/-- .. that is written: its type and why it may be -/
def gPf (M : gM) (pc ci kf : Nat) (ty : FieldType) (pc' : Nat) : Prop := ∃ idx : Nat, decode M.1 pc = .ok (.putfield idx, 3) ∧ pc + 3 = pc' ∧ ∃ (C : String) (T : u_T) (N : Nat) (ref : String) (ty0 : Nat → FieldType), gCl[ci]? = some (C, T, N) ∧ kf < N ∧ Cond.fieldLink M.2.2.1 idx ref (T kf).2.1 (T kf).2.2.1 ∈ gW ∧ (∀ w ∈ u_ws C T N, w ∈ gW) ∧ (ref = (T kf).1 ∨ Cond.sameField ref (T kf).1 (T kf).2.1 (T kf).2.2.1 ∈ gW) ∧
  (∀ k, k < N → parseFieldDescriptor (T k).2.2.1 = some (ty0 k)) ∧ (∀ a, a < N → ∀ b, b < N → a ≠ b → (T a).2.1 ≠ (T b).2.1) ∧ parseFieldDescriptor (T kf).2.2.1 = some ty ∧ ((T kf).2.2.2 = false ∨ ((T kf).2.2.2 = true ∧ M.2.2.2.1 = "<init>" ∧ (T kf).1 = M.2.2.1))
section Rows
variable {G : gG} {l : Launch} {Z : State → Array Value → List Frame → State → Prop} {R : Room} {M : gM} {pc pc' : Nat} {lv : List (Option Value)} {st : List Value} {h : gHp} {sz k w : Nat}
theorem GW.wf (kk : (∀ a e, h a = some e → gBase G ≤ a ∧ a < sz) → GW G l Z R M pc lv st h sz k w) : GW G l Z R M pc lv st h sz k w := by
  intro p e s m args below meth c H locs ls F hS hR hz hl
  exact kk (fun a x hx => ⟨(hR a x hx).1, hz ▸ hR.lt hx⟩) p e s m args below meth c H locs ls F hS hR hz hl
theorem GW.base (kk : gBase G ≤ sz → GW G l Z R M pc lv st h sz k w) : GW G l Z R M pc lv st h sz k w := by
  intro p e s m args below meth c H locs ls F hS hR hz hl
  exact kk (hz ▸ Nat.le_trans F.2.2.2.2.2.2.2.2.2.2.2 hS.1) p e s m args below meth c H locs ls F hS hR hz hl
theorem GW.widen {k' w' : Nat} (h1 : k ≤ k') (h2 : w ≤ w') (kk : GW G l Z R M pc lv st h sz k' w') : GW G l Z R M pc lv st h sz k w := by
  intro p e s m args below meth c H locs ls F hS hR hz hl
  exact W.widen h1 h2 (kk p e s m args below meth c H locs ls F hS hR hz hl)
theorem GX.widen {E : String} {k' w' : Nat} (h1 : k ≤ k') (h2 : w ≤ w') (kk : GX G l Z R M pc lv st h sz k' w' E) : GX G l Z R M pc lv st h sz k w E := by
  intro p e s m args below meth c H locs ls q ce F hS hR hz hl h3 h4 h5
  exact vx_widen h1 h2 (kk p e s m args below meth c H locs ls q ce F hS hR hz hl h3 h4 h5)
/-- the world may be told otherwise -/
theorem GW.heap {h' : gHp} (he : ∀ a e, h' a = some e → h a = some e) (kk : GW G l Z R M pc lv st h' sz k w) : GW G l Z R M pc lv st h sz k w := by
  intro p e s m args below meth c H locs ls F hS hR hz hl
  exact kk p e s m args below meth c H locs ls F hS (fun a x hx => hR a x (he a x hx)) hz hl
theorem gw_push {v : Int32} (hd : gN M pc v pc') (kk : GW G l Z R M pc' lv (.int v :: st) h sz k w) : GW G l Z R M pc lv st h sz k w := by
  intro p e s m args below meth c H locs ls F hS hR hz hl
  have K := kk p e s m args below meth c H locs ls F hS hR hz hl
  rcases hd with ⟨n, h1, h2, rfl⟩ | ⟨n, h1, h2, rfl⟩ | ⟨n, h1, h2, rfl⟩ | ⟨i, h1, h2, rfl⟩
  · exact lv_iconst F.1 F.2.1 h1 h2 K
  · exact lv_bipush F.1 F.2.1 h1 h2 K
  · exact lv_sipush F.1 F.2.1 h1 h2 K
  · exact lv_ldc F.1 F.2.1 F.2.2.2.1 (F.2.2.2.2.1 _ h2) h1 K
theorem gw_iload {i : Nat} {x : Int32} (hd : gIl M pc i pc') (hv : lv[i]? = some (some (.int x))) (kk : GW G l Z R M pc' lv (.int x :: st) h sz k w) : GW G l Z R M pc lv st h sz k w := by
  intro p e s m args below meth c H locs ls F hS hR hz hl
  have K := kk p e s m args below meth c H locs ls F hS hR hz hl
  rcases hd with ⟨h1, rfl⟩ | ⟨n, h1, h2, rfl⟩
  · exact lv_iload F.1 F.2.1 h1 (hl.2.2.2 i _ hv).1 K
  · exact lv_iload_n F.1 F.2.1 h1 h2 (hl.2.2.2 i _ hv).1 K
theorem gw_aload {i : Nat} {x : Nat} (hd : gAl M pc i pc') (hv : lv[i]? = some (some (.ref x))) (kk : GW G l Z R M pc' lv (.ref x :: st) h sz k w) : GW G l Z R M pc lv st h sz k w := by
  intro p e s m args below meth c H locs ls F hS hR hz hl
  have K := kk p e s m args below meth c H locs ls F hS hR hz hl
  rcases hd with ⟨h1, rfl⟩ | ⟨n, h1, h2, rfl⟩
  · exact lv_aload F.1 F.2.1 h1 (hl.2.2.2 i _ hv).1 K
  · exact lv_aload_n F.1 F.2.1 h1 h2 (hl.2.2.2 i _ hv).1 K
theorem gw_aloadN {i : Nat} (hd : gAl M pc i pc') (hv : lv[i]? = some (some .null)) (kk : GW G l Z R M pc' lv (.null :: st) h sz k w) : GW G l Z R M pc lv st h sz k w := by
  intro p e s m args below meth c H locs ls F hS hR hz hl
  have K := kk p e s m args below meth c H locs ls F hS hR hz hl
  rcases hd with ⟨h1, rfl⟩ | ⟨n, h1, h2, rfl⟩
  · exact lv_aloadN F.1 F.2.1 h1 (hl.2.2.2 i _ hv).1 K
  · exact lv_aload_nN F.1 F.2.1 h1 h2 (hl.2.2.2 i _ hv).1 K
theorem gw_istore {i : Nat} {x : Int32} (hd : gIs M pc i pc') (hi : i < lv.length) (kk : GW G l Z R M pc' (lv.set i (some (.int x))) st h sz k w) : GW G l Z R M pc lv (.int x :: st) h sz k w := by
  intro p e s m args below meth c H locs ls F hS hR hz hl
  have hi' : i < M.2.1 := by rw [← hl.1]; exact hi
  have K := fun ls' (h' : lv_has ls' M.2.1 _) => kk p e s m args below meth c H locs ls' F hS hR hz (hl.stored hi' rfl h')
  rcases hd with ⟨h1, rfl⟩ | ⟨n, h1, h2, rfl⟩
  · exact lv_istore F.1 F.2.1 h1 hl.has hi' rfl K
  · exact lv_istore_n F.1 F.2.1 h1 h2 hl.has hi' rfl K
theorem gw_astore {i : Nat} {x : Nat} (hd : gAst M pc i pc') (hi : i < lv.length) (kk : GW G l Z R M pc' (lv.set i (some (.ref x))) st h sz k w) : GW G l Z R M pc lv (.ref x :: st) h sz k w := by
  intro p e s m args below meth c H locs ls F hS hR hz hl
  have hi' : i < M.2.1 := by rw [← hl.1]; exact hi
  have K := fun ls' (h' : lv_has ls' M.2.1 _) => kk p e s m args below meth c H locs ls' F hS hR hz (hl.stored hi' rfl h')
  rcases hd with ⟨h1, rfl⟩ | ⟨n, h1, h2, rfl⟩
  · exact lv_astore F.1 F.2.1 h1 hl.has hi' rfl K
  · exact lv_astore_n F.1 F.2.1 h1 h2 hl.has hi' rfl K
theorem gw_astoreN {i : Nat} (hd : gAst M pc i pc') (hi : i < lv.length) (kk : GW G l Z R M pc' (lv.set i (some .null)) st h sz k w) : GW G l Z R M pc lv (.null :: st) h sz k w := by
  intro p e s m args below meth c H locs ls F hS hR hz hl
  have hi' : i < M.2.1 := by rw [← hl.1]; exact hi
  have K := fun ls' (h' : lv_has ls' M.2.1 _) => kk p e s m args below meth c H locs ls' F hS hR hz (hl.stored hi' rfl h')
  rcases hd with ⟨h1, rfl⟩ | ⟨n, h1, h2, rfl⟩
  · exact lv_astoreN F.1 F.2.1 h1 hl.has hi' rfl K
  · exact lv_astore_nN F.1 F.2.1 h1 h2 hl.has hi' rfl K
theorem gw_iinc {i : Nat} {x v : Int32} (hd : gIc M pc i v pc') (hv : lv[i]? = some (some (.int x))) (kk : GW G l Z R M pc' (lv.set i (some (.int (x + v)))) st h sz k w) : GW G l Z R M pc lv st h sz k w := by
  intro p e s m args below meth c H locs ls F hS hR hz hl
  obtain ⟨n, h1, rfl, rfl⟩ := hd
  have hi : i < lv.length := (List.getElem?_eq_some_iff.mp hv).1
  have hi' : i < M.2.1 := by rw [← hl.1]; exact hi
  have K := fun ls' (h' : lv_has ls' M.2.1 _) => kk p e s m args below meth c H locs ls' F hS hR hz (hl.stored hi' rfl h')
  obtain ⟨j, hj⟩ := List.getElem?_of_mem ((gAs_mem lv 0 (i, .int x)).mpr ⟨Nat.zero_le _, by simpa using hv⟩)
  exact lv_iinc F.1 F.2.1 h1 hl.has hj rfl hi' rfl K
theorem gw_iadd {x y : Int32} (hd : gD M pc .iadd 1 pc')  (kk : GW G l Z R M pc' lv (.int (x + y) :: st) h sz k w) : GW G l Z R M pc lv (.int y :: .int x :: st) h sz k w := by
  obtain ⟨hd, rfl⟩ := hd
  intro p e s m args below meth c H locs ls F hS hR hz hl
  exact lv_iadd F.1 F.2.1 hd  (kk p e s m args below meth c H locs ls F hS hR hz hl)
theorem gw_isub {x y : Int32} (hd : gD M pc .isub 1 pc')  (kk : GW G l Z R M pc' lv (.int (x - y) :: st) h sz k w) : GW G l Z R M pc lv (.int y :: .int x :: st) h sz k w := by
  obtain ⟨hd, rfl⟩ := hd
  intro p e s m args below meth c H locs ls F hS hR hz hl
  exact lv_isub F.1 F.2.1 hd  (kk p e s m args below meth c H locs ls F hS hR hz hl)
theorem gw_imul {x y : Int32} (hd : gD M pc .imul 1 pc')  (kk : GW G l Z R M pc' lv (.int (x * y) :: st) h sz k w) : GW G l Z R M pc lv (.int y :: .int x :: st) h sz k w := by
  obtain ⟨hd, rfl⟩ := hd
  intro p e s m args below meth c H locs ls F hS hR hz hl
  exact lv_imul F.1 F.2.1 hd  (kk p e s m args below meth c H locs ls F hS hR hz hl)
theorem gw_iand {x y : Int32} (hd : gD M pc .iand 1 pc')  (kk : GW G l Z R M pc' lv (.int (x &&& y) :: st) h sz k w) : GW G l Z R M pc lv (.int y :: .int x :: st) h sz k w := by
  obtain ⟨hd, rfl⟩ := hd
  intro p e s m args below meth c H locs ls F hS hR hz hl
  exact lv_iand F.1 F.2.1 hd  (kk p e s m args below meth c H locs ls F hS hR hz hl)
theorem gw_ishr {x y : Int32} (hd : gD M pc .ishr 1 pc')  (kk : GW G l Z R M pc' lv (.int (x >>> (y &&& 31)) :: st) h sz k w) : GW G l Z R M pc lv (.int y :: .int x :: st) h sz k w := by
  obtain ⟨hd, rfl⟩ := hd
  intro p e s m args below meth c H locs ls F hS hR hz hl
  exact lv_ishr F.1 F.2.1 hd  (kk p e s m args below meth c H locs ls F hS hR hz hl)
theorem gw_idiv {x y : Int32} (hd : gD M pc .idiv 1 pc') (hne : ¬ y = 0) (kk : GW G l Z R M pc' lv (.int (x / y) :: st) h sz k w) : GW G l Z R M pc lv (.int y :: .int x :: st) h sz k w := by
  obtain ⟨hd, rfl⟩ := hd
  intro p e s m args below meth c H locs ls F hS hR hz hl
  exact lv_idiv F.1 F.2.1 hd hne (kk p e s m args below meth c H locs ls F hS hR hz hl)
theorem gw_irem {x y : Int32} (hd : gD M pc .irem 1 pc') (hne : ¬ y = 0) (kk : GW G l Z R M pc' lv (.int (x - x / y * y) :: st) h sz k w) : GW G l Z R M pc lv (.int y :: .int x :: st) h sz k w := by
  obtain ⟨hd, rfl⟩ := hd
  intro p e s m args below meth c H locs ls F hS hR hz hl
  exact lv_irem F.1 F.2.1 hd hne (kk p e s m args below meth c H locs ls F hS hR hz hl)
theorem gw_i2l {x : Int32} (hd : gD M pc .i2l 1 pc')  (kk : GW G l Z R M pc' lv (.long x.toInt64 :: st) h sz k w) : GW G l Z R M pc lv (.int x :: st) h sz k w := by
  obtain ⟨hd, rfl⟩ := hd
  intro p e s m args below meth c H locs ls F hS hR hz hl
  exact lv_i2l F.1 F.2.1 hd rfl (kk p e s m args below meth c H locs ls F hS hR hz hl)
theorem gw_dup {va : Value} (hd : gD M pc .dup 1 pc') (hva : va.category = 1) (kk : GW G l Z R M pc' lv (va :: va :: st) h sz k w) : GW G l Z R M pc lv (va :: st) h sz k w := by
  obtain ⟨hd, rfl⟩ := hd
  intro p e s m args below meth c H locs ls F hS hR hz hl
  exact lv_dup F.1 F.2.1 hd hva (kk p e s m args below meth c H locs ls F hS hR hz hl)
theorem gw_pop {va : Value} (hd : gD M pc .pop 1 pc') (hva : va.category = 1) (kk : GW G l Z R M pc' lv (st) h sz k w) : GW G l Z R M pc lv (va :: st) h sz k w := by
  obtain ⟨hd, rfl⟩ := hd
  intro p e s m args below meth c H locs ls F hS hR hz hl
  exact lv_pop F.1 F.2.1 hd hva (kk p e s m args below meth c H locs ls F hS hR hz hl)
theorem gw_dup_x1 {va vb : Value} (hd : gD M pc .dup_x1 1 pc') (hva : va.category = 1) (hvb : vb.category = 1) (kk : GW G l Z R M pc' lv (va :: vb :: va :: st) h sz k w) : GW G l Z R M pc lv (va :: vb :: st) h sz k w := by
  obtain ⟨hd, rfl⟩ := hd
  intro p e s m args below meth c H locs ls F hS hR hz hl
  exact lv_dup_x1 F.1 F.2.1 hd hva hvb (kk p e s m args below meth c H locs ls F hS hR hz hl)
theorem gw_dup2 {va vb : Value} (hd : gD M pc .dup2 1 pc') (hva : va.category = 1) (hvb : vb.category = 1) (kk : GW G l Z R M pc' lv (va :: vb :: va :: vb :: st) h sz k w) : GW G l Z R M pc lv (va :: vb :: st) h sz k w := by
  obtain ⟨hd, rfl⟩ := hd
  intro p e s m args below meth c H locs ls F hS hR hz hl
  exact lv_dup2_11 F.1 F.2.1 hd hva hvb (kk p e s m args below meth c H locs ls F hS hR hz hl)
theorem gw_null  (hd : gD M pc .aconst_null 1 pc')  (kk : GW G l Z R M pc' lv (.null :: st) h sz k w) : GW G l Z R M pc lv (st) h sz k w := by
  obtain ⟨hd, rfl⟩ := hd
  intro p e s m args below meth c H locs ls F hS hR hz hl
  exact lv_null F.1 F.2.1 hd  (kk p e s m args below meth c H locs ls F hS hR hz hl)
theorem gw_lconst {n : Fin 2} {v : Int64} (hd : gD M pc (.lconst n) 1 pc') (hv : Int64.ofNat (n : Nat) = v) (kk : GW G l Z R M pc' lv (.long v :: st) h sz k w) : GW G l Z R M pc lv st h sz k w := by
  obtain ⟨hd, rfl⟩ := hd
  intro p e s m args below meth c H locs ls F hS hR hz hl
  exact lv_lconst F.1 F.2.1 hd hv (kk p e s m args below meth c H locs ls F hS hR hz hl)
theorem gw_lcmp {x y : Int64} (hd : gD M pc .lcmp 1 pc') (kk : GW G l Z R M pc' lv (.int (lg_cmp x y) :: st) h sz k w) : GW G l Z R M pc lv (.long y :: .long x :: st) h sz k w := by
  obtain ⟨hd, rfl⟩ := hd
  intro p e s m args below meth c H locs ls F hS hR hz hl
  exact W.lcmp F.1 F.2.1 hd (kk p e s m args below meth c H locs ls F hS hR hz hl)
theorem gw_ifeq {x : Int32} {off : Int} {tgt : Nat} (hd : gB M pc (.ifCond .eq off) off pc' tgt) (kt : x = 0 → GW G l Z R M tgt lv st h sz k w) (kf : ¬ x = 0 → GW G l Z R M pc' lv st h sz k w) : GW G l Z R M pc lv (.int x :: st) h sz k w := by
  obtain ⟨hd, rfl, ht⟩ := hd
  intro p e s m args below meth c H locs ls F hS hR hz hl
  exact lv_if_eq F.1 F.2.1 hd ht (fun q => kt q p e s m args below meth c H locs ls F hS hR hz hl) (fun q => kf q p e s m args below meth c H locs ls F hS hR hz hl)
theorem gw_iceq {x y : Int32} {off : Int} {tgt : Nat} (hd : gB M pc (.if_icmp .eq off) off pc' tgt) (kt : x = y → GW G l Z R M tgt lv st h sz k w) (kf : ¬ x = y → GW G l Z R M pc' lv st h sz k w) : GW G l Z R M pc lv (.int y :: .int x :: st) h sz k w := by
  obtain ⟨hd, rfl, ht⟩ := hd
  intro p e s m args below meth c H locs ls F hS hR hz hl
  exact lv_icmp_eq F.1 F.2.1 hd ht (fun q => kt q p e s m args below meth c H locs ls F hS hR hz hl) (fun q => kf q p e s m args below meth c H locs ls F hS hR hz hl)
theorem gw_ifne {x : Int32} {off : Int} {tgt : Nat} (hd : gB M pc (.ifCond .ne off) off pc' tgt) (kt : ¬ x = 0 → GW G l Z R M tgt lv st h sz k w) (kf : x = 0 → GW G l Z R M pc' lv st h sz k w) : GW G l Z R M pc lv (.int x :: st) h sz k w := by
  obtain ⟨hd, rfl, ht⟩ := hd
  intro p e s m args below meth c H locs ls F hS hR hz hl
  exact lv_if_ne F.1 F.2.1 hd ht (fun q => kt q p e s m args below meth c H locs ls F hS hR hz hl) (fun q => kf q p e s m args below meth c H locs ls F hS hR hz hl)
theorem gw_icne {x y : Int32} {off : Int} {tgt : Nat} (hd : gB M pc (.if_icmp .ne off) off pc' tgt) (kt : ¬ x = y → GW G l Z R M tgt lv st h sz k w) (kf : x = y → GW G l Z R M pc' lv st h sz k w) : GW G l Z R M pc lv (.int y :: .int x :: st) h sz k w := by
  obtain ⟨hd, rfl, ht⟩ := hd
  intro p e s m args below meth c H locs ls F hS hR hz hl
  exact lv_icmp_ne F.1 F.2.1 hd ht (fun q => kt q p e s m args below meth c H locs ls F hS hR hz hl) (fun q => kf q p e s m args below meth c H locs ls F hS hR hz hl)
theorem gw_iflt {x : Int32} {off : Int} {tgt : Nat} (hd : gB M pc (.ifCond .lt off) off pc' tgt) (kt : x < 0 → GW G l Z R M tgt lv st h sz k w) (kf : ¬ x < 0 → GW G l Z R M pc' lv st h sz k w) : GW G l Z R M pc lv (.int x :: st) h sz k w := by
  obtain ⟨hd, rfl, ht⟩ := hd
  intro p e s m args below meth c H locs ls F hS hR hz hl
  exact lv_if_lt F.1 F.2.1 hd ht (fun q => kt q p e s m args below meth c H locs ls F hS hR hz hl) (fun q => kf q p e s m args below meth c H locs ls F hS hR hz hl)
theorem gw_iclt {x y : Int32} {off : Int} {tgt : Nat} (hd : gB M pc (.if_icmp .lt off) off pc' tgt) (kt : x < y → GW G l Z R M tgt lv st h sz k w) (kf : ¬ x < y → GW G l Z R M pc' lv st h sz k w) : GW G l Z R M pc lv (.int y :: .int x :: st) h sz k w := by
  obtain ⟨hd, rfl, ht⟩ := hd
  intro p e s m args below meth c H locs ls F hS hR hz hl
  exact lv_icmp_lt F.1 F.2.1 hd ht (fun q => kt q p e s m args below meth c H locs ls F hS hR hz hl) (fun q => kf q p e s m args below meth c H locs ls F hS hR hz hl)
theorem gw_ifge {x : Int32} {off : Int} {tgt : Nat} (hd : gB M pc (.ifCond .ge off) off pc' tgt) (kt : 0 ≤ x → GW G l Z R M tgt lv st h sz k w) (kf : ¬ 0 ≤ x → GW G l Z R M pc' lv st h sz k w) : GW G l Z R M pc lv (.int x :: st) h sz k w := by
  obtain ⟨hd, rfl, ht⟩ := hd
  intro p e s m args below meth c H locs ls F hS hR hz hl
  exact lv_if_ge F.1 F.2.1 hd ht (fun q => kt q p e s m args below meth c H locs ls F hS hR hz hl) (fun q => kf q p e s m args below meth c H locs ls F hS hR hz hl)
theorem gw_icge {x y : Int32} {off : Int} {tgt : Nat} (hd : gB M pc (.if_icmp .ge off) off pc' tgt) (kt : y ≤ x → GW G l Z R M tgt lv st h sz k w) (kf : ¬ y ≤ x → GW G l Z R M pc' lv st h sz k w) : GW G l Z R M pc lv (.int y :: .int x :: st) h sz k w := by
  obtain ⟨hd, rfl, ht⟩ := hd
  intro p e s m args below meth c H locs ls F hS hR hz hl
  exact lv_icmp_ge F.1 F.2.1 hd ht (fun q => kt q p e s m args below meth c H locs ls F hS hR hz hl) (fun q => kf q p e s m args below meth c H locs ls F hS hR hz hl)
theorem gw_ifgt {x : Int32} {off : Int} {tgt : Nat} (hd : gB M pc (.ifCond .gt off) off pc' tgt) (kt : 0 < x → GW G l Z R M tgt lv st h sz k w) (kf : ¬ 0 < x → GW G l Z R M pc' lv st h sz k w) : GW G l Z R M pc lv (.int x :: st) h sz k w := by
  obtain ⟨hd, rfl, ht⟩ := hd
  intro p e s m args below meth c H locs ls F hS hR hz hl
  exact lv_if_gt F.1 F.2.1 hd ht (fun q => kt q p e s m args below meth c H locs ls F hS hR hz hl) (fun q => kf q p e s m args below meth c H locs ls F hS hR hz hl)
theorem gw_icgt {x y : Int32} {off : Int} {tgt : Nat} (hd : gB M pc (.if_icmp .gt off) off pc' tgt) (kt : y < x → GW G l Z R M tgt lv st h sz k w) (kf : ¬ y < x → GW G l Z R M pc' lv st h sz k w) : GW G l Z R M pc lv (.int y :: .int x :: st) h sz k w := by
  obtain ⟨hd, rfl, ht⟩ := hd
  intro p e s m args below meth c H locs ls F hS hR hz hl
  exact lv_icmp_gt F.1 F.2.1 hd ht (fun q => kt q p e s m args below meth c H locs ls F hS hR hz hl) (fun q => kf q p e s m args below meth c H locs ls F hS hR hz hl)
theorem gw_ifle {x : Int32} {off : Int} {tgt : Nat} (hd : gB M pc (.ifCond .le off) off pc' tgt) (kt : x ≤ 0 → GW G l Z R M tgt lv st h sz k w) (kf : ¬ x ≤ 0 → GW G l Z R M pc' lv st h sz k w) : GW G l Z R M pc lv (.int x :: st) h sz k w := by
  obtain ⟨hd, rfl, ht⟩ := hd
  intro p e s m args below meth c H locs ls F hS hR hz hl
  exact lv_if_le F.1 F.2.1 hd ht (fun q => kt q p e s m args below meth c H locs ls F hS hR hz hl) (fun q => kf q p e s m args below meth c H locs ls F hS hR hz hl)
theorem gw_icle {x y : Int32} {off : Int} {tgt : Nat} (hd : gB M pc (.if_icmp .le off) off pc' tgt) (kt : x ≤ y → GW G l Z R M tgt lv st h sz k w) (kf : ¬ x ≤ y → GW G l Z R M pc' lv st h sz k w) : GW G l Z R M pc lv (.int y :: .int x :: st) h sz k w := by
  obtain ⟨hd, rfl, ht⟩ := hd
  intro p e s m args below meth c H locs ls F hS hR hz hl
  exact lv_icmp_le F.1 F.2.1 hd ht (fun q => kt q p e s m args below meth c H locs ls F hS hR hz hl) (fun q => kf q p e s m args below meth c H locs ls F hS hR hz hl)
theorem gw_goto {off : Int} {tgt : Nat} (hd : gB M pc (.goto off) off pc' tgt) (kk : GW G l Z R M tgt lv st h sz k w) : GW G l Z R M pc lv st h sz k w := by
  obtain ⟨hd, -, ht⟩ := hd
  intro p e s m args below meth c H locs ls F hS hR hz hl
  exact lv_goto F.1 F.2.1 hd ht (kk p e s m args below meth c H locs ls F hS hR hz hl)
theorem gw_ifnonnull {x : Nat} {off : Int} {tgt : Nat} (hd : gB M pc (.ifnonnull off) off pc' tgt) (kk : GW G l Z R M tgt lv st h sz k w) : GW G l Z R M pc lv (.ref x :: st) h sz k w := by
  obtain ⟨hd, -, ht⟩ := hd
  intro p e s m args below meth c H locs ls F hS hR hz hl
  exact lv_ifnonnull F.1 F.2.1 hd ht (kk p e s m args below meth c H locs ls F hS hR hz hl)
theorem gw_ifnonnullN {off : Int} {tgt : Nat} (hd : gB M pc (.ifnonnull off) off pc' tgt) (kk : GW G l Z R M pc' lv st h sz k w) : GW G l Z R M pc lv (.null :: st) h sz k w := by
  obtain ⟨hd, rfl, -⟩ := hd
  intro p e s m args below meth c H locs ls F hS hR hz hl
  exact lv_ifnonnullN F.1 F.2.1 hd (kk p e s m args below meth c H locs ls F hS hR hz hl)
theorem gw_acmpeq {x y : Nat} {off : Int} {tgt : Nat} (hd : gB M pc (.if_acmp .eq off) off pc' tgt) (kt : x = y → GW G l Z R M tgt lv st h sz k w) (kf : ¬ x = y → GW G l Z R M pc' lv st h sz k w) : GW G l Z R M pc lv (.ref y :: .ref x :: st) h sz k w := by
  obtain ⟨hd, rfl, ht⟩ := hd
  intro p e s m args below meth c H locs ls F hS hR hz hl
  exact lv_acmp_eq (rx := some x) (ry := some y) F.1 F.2.1 hd ht (fun q => kt (Option.some.inj q) p e s m args below meth c H locs ls F hS hR hz hl) (fun q => kf (fun z => q (congrArg some z)) p e s m args below meth c H locs ls F hS hR hz hl)
theorem gw_acmpne {x y : Nat} {off : Int} {tgt : Nat} (hd : gB M pc (.if_acmp .ne off) off pc' tgt) (kt : ¬ x = y → GW G l Z R M tgt lv st h sz k w) (kf : x = y → GW G l Z R M pc' lv st h sz k w) : GW G l Z R M pc lv (.ref y :: .ref x :: st) h sz k w := by
  obtain ⟨hd, rfl, ht⟩ := hd
  intro p e s m args below meth c H locs ls F hS hR hz hl
  exact lv_acmp_ne (rx := some x) (ry := some y) F.1 F.2.1 hd ht (fun q => kt (fun z => q (congrArg some z)) p e s m args below meth c H locs ls F hS hR hz hl) (fun q => kf (Option.some.inj q) p e s m args below meth c H locs ls F hS hR hz hl)
/-- fields -/
theorem gw_get {a ci kf : Nat} {fs : List Value} {v : Value} (hd : gGf M pc ci kf pc') (ha : h a = some (gO ci fs)) (hv : fs[kf]? = some v) (kk : GW G l Z R M pc' lv (v :: st) h sz k w) : GW G l Z R M pc lv (.ref a :: st) h sz k w := by
  obtain ⟨idx, hd, rfl, C, T, N, ref, hc, hk, hlink, hin, hsame⟩ := hd
  intro p e s m args below meth c H locs ls F hS hR hz hl
  have hP : va_P G.1 gCl [(a, .inr (ci, fs))] H := fun i q hq => by
    have hz : i < 1 := (List.getElem?_eq_some_iff.mp hq).1
    rw [show i = 0 by omega] at hq
    cases hq
    exact (hR a _ ha).2
  refine va_get (D := G.1) (cl := gCl) F.1 F.2.1 F.2.2.2.2.1 hin F.2.2.2.1 F.2.2.2.2.2.2.2.2.2.1.1 hP 0 rfl hc kf hk (F.2.2.2.2.1 _ hlink) ?_ hv hd (kk p e s m args below meth c H locs ls F hS hR hz hl)
  rcases hsame with rfl | hs
  · exact fun _ q => q
  · exact fun x q => u_same (F.2.2.2.2.1 _ hs) x q
theorem gw_put {a ci kf : Nat} {fs : List Value} {v : Value} {ty : FieldType} (hd : gPf M pc ci kf ty pc') (ha : h a = some (gO ci fs)) (hl9 : kf < fs.length) (hn : narrow ty v = v) (hf : fits ty v = true) (kk : GW G l Z R M pc' lv st (gUp h a (gO ci (fs.set kf v))) sz k w) : GW G l Z R M pc lv (v :: .ref a :: st) h sz k w := by
  obtain ⟨idx, hd, rfl, C, T, N, ref, ty0, hc, hk, hlink, hin, hsame, hty, hnm, hpd, hfin⟩ := hd
  intro p e s m args below meth c H locs ls F hS hR hz hl
  have hK := F.2.2.2.2.2.2.2.2.2.1.1
  have hap := va_apart (own := M.2.2.1) F.2.2.2.2.1 hin ty0 hty hnm hK hc
  obtain ⟨hA, r, h1, cell, q1, q2, q3, q4⟩ := hR a _ ha
  have hr : r = (C, T, N) := Option.some.inj (h1.symm.trans hc)
  subst hr
  obtain ⟨hSl, hfc, kC, hkC, hkind⟩ := hK.1 ci _ hc
  obtain ⟨cf, kf', fi, f, hi, hsl⟩ := hSl kf hk
  have hlay := F.2.2.2.2.1 _ (hin _ (u_in_lay hk))
  have hst := (u_facts hfc hkC (u_lays F.2.2.2.2.1 hin hk) hi).1
  have hsm : ∀ x, s.fieldFound? (T kf).1 (T kf).2.1 (T kf).2.2.1 = some x → s.fieldFound? ref (T kf).2.1 (T kf).2.2.1 = some x := by
    rcases hsame with rfl | hs
    · exact fun _ q => q
    · exact fun x q => u_same (F.2.2.2.2.1 _ hs) x q
  have fin : ∀ (H1 : Heap) (i9 : Nat), H1[a]? = some (cell.setSlot f.slot v) → H1.size = H.size → (∀ q, q ≠ a → H1[q]? = H[q]?) → W p l e R s m args below meth c H1 (locs ++ [⟨a, f.slot⟩]) k w (Z s args below) (F0 m (pc + 3) ls st) := by
    intro H1 _ e1 e2 e3
    refine kk p e s m args below meth c H1 _ ls F (hS.put e2 e3 hA) (hR.put hA ?_ e3) (e2.trans hz) hl
    rw [hsl] at e1
    exact ⟨_, hc, t_OB.to (V := updV (vp_V fs) kf v) ⟨_, e1, q2, q3, t_set q4 hap hk v⟩ (fun j _ => vp_updV_set hl9 v j)⟩
  rcases hfin with hfin | ⟨hfin, hin2, hdecl⟩
  · unfold u_lay at hlay
    rw [if_neg (by rw [hfin]; decide)] at hlay
    have h6 := u_store hfc hkC hkind hlay hi hpd hn hf
    exact W.putK F.1 F.2.1 (f := f) ⟨F.2.2.2.1, F.2.2.2.2.1 _ hlink, ⟨_, _, _, hsm _ hi⟩, hst⟩ (by rw [q2]; exact h6) q1 q3 (by rw [hsl]; exact k2_hasslot (q4 kf hk)) rfl rfl hd (fun H1 e1 e2 e3 => fin H1 0 e1 e2 e3)
  · unfold u_lay at hlay
    rw [if_pos hfin] at hlay
    have hcf : m.cls = cf := by
      obtain ⟨_, _, c', _, _, _, -, -, hf', -, -, -, hown2, -⟩ := Cond.laysFinal_spec hlay
      have e1 : c' = cf := by have := hi.symm.trans hf'; simp at this; exact this.1.symm
      rw [hdecl] at hown2
      rw [← e1]; exact Option.some.inj (F.2.2.2.1.symm.trans hown2)
    have h6 := u_fits hfc hkC hkind (Or.inr hlay) hi hpd hn hf
    exact W.putFinK F.1 F.2.1 F.2.2.2.1 (F.2.2.2.2.1 _ hlink) (hsm _ hi) hst hcf (F.2.2.2.2.2.1.trans hin2) (by rw [q2]; exact h6) q1 q3 (by rw [hsl]; exact k2_hasslot (q4 kf hk)) rfl rfl hd (fun H1 e1 e2 e3 => fin H1 0 e1 e2 e3)
end Rows
