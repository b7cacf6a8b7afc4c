/-! ===== the abstract heap, the judgement GW, contracts SM ===== -/
abbrev gE : Type := (Nat × List Value) ⊕ ((Nat × (Nat → Int32)) ⊕ ((Nat × (Nat → Int64)) ⊕ (Nat × Nat × (Nat → Option Nat))))
abbrev gHp : Type := Nat → Option gE
abbrev gO (ci : Nat) (fs : List Value) : gE := .inl (ci, fs)
abbrev gI (n : Nat) (f : Nat → Int32) : gE := .inr (.inl (n, f))
abbrev gL (n : Nat) (f : Nat → Int64) : gE := .inr (.inr (.inl (n, f)))
abbrev gR (k n : Nat) (f : Nat → Option Nat) : gE := .inr (.inr (.inr (k, n, f)))
/-- the classes' numbers and slots, the array classes, the base, ArrayList's empty array, the mirror of Object[] -/
abbrev gG : Type := va_G × (Nat → ClassId) × Nat × Nat × Nat
def gCy (G : gG) : Nat → ClassId := G.2.1
def gBase (G : gG) : Nat := G.2.2.1
def gDce (G : gG) : Nat := G.2.2.2.1
def gMi (G : gG) : Nat := G.2.2.2.2
def gA (G : gG) : Nat → Prop := fun q => gBase G ≤ q
def gTys (G : gG) : List (ClassId × FieldType) := [(gCy G 0, .int), (gCy G 1, .long), (gCy G 2, .object "FolderRounds$Station"), (gCy G 3, .object "FolderRounds$Cartridge"), (gCy G 4, .object "java/lang/Object")]
def gv (G : gG) : gE → va_E
  | .inl o => .inr o
  | .inr (.inl x) => .inl (gCy G 0, x.1, .inl x.2)
  | .inr (.inr (.inl x)) => .inl (gCy G 1, x.1, .inr (.inl x.2))
  | .inr (.inr (.inr x)) => .inl (gCy G x.1, x.2.1, .inr (.inr (.inr (.inr x.2.2))))
def gRep (G : gG) (h : gHp) (H : Heap) : Prop := ∀ (a : Nat) (e : gE), h a = some e → gA G a ∧ va_at G.1 gCl (a, gv G e) H
def gUp (h : gHp) (a : Nat) (e : gE) : gHp := fun b => if b = a then some e else h b
theorem gUp_self (h : gHp) (a : Nat) (e : gE) : gUp h a e a = some e := by simp [gUp]
theorem gUp_ne (h : gHp) {a b : Nat} (e : gE) (hb : b ≠ a) : gUp h a e b = h b := by simp [gUp, hb]
theorem gRep.lt {G : gG} {h : gHp} {H : Heap} (hR : gRep G h H) {a : Nat} {e : gE} (ha : h a = some e) : a < H.size := (hR a e ha).2.lt
theorem gRep.put {G : gG} {h : gHp} {H H1 : Heap} {a : Nat} {e : gE} (hR : gRep G h H) (hA : gA G a) (he : va_at G.1 gCl (a, gv G e) H1) (ho : ∀ q : Nat, q ≠ a → H1[q]? = H[q]?) : gRep G (gUp h a e) H1 := by
  intro b x hb
  by_cases hq : b = a
  · subst hq
    rw [gUp_self] at hb
    cases hb
    exact ⟨hA, he⟩
  · rw [gUp_ne _ _ hq] at hb
    exact ⟨(hR b x hb).1, (hR b x hb).2.kept (ho b hq)⟩
theorem gRep.push {G : gG} {h : gHp} {H H1 : Heap} {e : gE} (hR : gRep G h H) (hA : gA G H.size) (he : va_at G.1 gCl (H.size, gv G e) H1) (ho : ∀ q : Nat, q < H.size → H1[q]? = H[q]?) : gRep G (gUp h H.size e) H1 := by
  intro b x hb
  by_cases hq : b = H.size
  · subst hq
    rw [gUp_self] at hb
    cases hb
    exact ⟨hA, he⟩
  · rw [gUp_ne _ _ hq] at hb
    exact ⟨(hR b x hb).1, (hR b x hb).2.kept (ho b (hR.lt hb))⟩
theorem gRep.grow {G : gG} {h : gHp} {H H1 : Heap} (hR : gRep G h H) (ho : ∀ q : Nat, q < H.size → H1[q]? = H[q]?) : gRep G h H1 :=
  fun b x hb => ⟨(hR b x hb).1, (hR b x hb).2.kept (ho b (hR.lt hb))⟩
/-- words that aren't kept by warming of themselves -/
def gNwl : List Cond := [.castable "FolderRounds$Version" "java/lang/Object", .castable "java/util/NoSuchElementException" "java/util/NoSuchElementException", .castable "java/lang/IllegalArgumentException" "java/lang/IllegalArgumentException", .castable "java/lang/UnsupportedOperationException" "java/lang/UnsupportedOperationException", .castable "java/lang/IndexOutOfBoundsException" "java/lang/IndexOutOfBoundsException", .declares ⟨"java/lang/RuntimeException", "<init>", "()V"⟩, .declares ⟨"java/lang/Exception", "<init>", "()V"⟩, .declares ⟨"java/lang/Throwable", "<init>", "()V"⟩]
def gNc : List (String × String) := [("java/lang/IllegalArgumentException", "java/util/NoSuchElementException"), ("java/lang/UnsupportedOperationException", "java/util/NoSuchElementException"), ("java/lang/UnsupportedOperationException", "java/lang/IllegalArgumentException"), ("java/lang/IndexOutOfBoundsException", "java/util/NoSuchElementException")]
def gK (G : gG) (U : State) : Prop := va_K G.1 gCl (gTys G) U ∧ (∀ c ∈ gNwl, va_Nw c U) ∧ (∀ q ∈ gNc, va_Nc q.1 q.2 U) ∧ va_Dc U ∧ (va_AO "FolderRounds$Station" U ∧ va_AO "FolderRounds$Cartridge" U ∧ va_AO "java/lang/Object" U) ∧ va_Mi "[Ljava/lang/Object;" (gMi G) U
def gS (G : gG) (U : State) (H : Heap) : Prop := va_Z "java/util/ArrayList" "DEFAULTCAPACITY_EMPTY_ELEMENTDATA" "[Ljava/lang/Object;" (.ref (gDce G)) (gA G) U H ∧ (∃ f : Nat → Value, va_T (.object "java/lang/Object") (gDce G) 0 f (gA G) U H) ∧ vx_Zq Bundle.tN "UNASSIGNED_STACK" Bundle.steD (gA G) U H ∧ vx_Zq Bundle.tN "SUPPRESSED_SENTINEL" Bundle.listD (gA G) U H
theorem gNw_castable {C T : String} {u U : State} (hvm : u.vm.Alike U.vm) (h : va_Nw (.castable C T) u) : va_Nw (.castable C T) U := va_tabs rfl (rfl : (u.setVm U.vm).vm = U.vm) (by rw [Cond.castable_setVm hvm]; exact h)
theorem gNw_declares {x : MethodName} {u U : State} (hvm : u.vm.Alike U.vm) (h : va_Nw (.declares x) u) : va_Nw (.declares x) U := va_tabs rfl (rfl : (u.setVm U.vm).vm = U.vm) (by rw [Cond.declares_setVm hvm]; exact h)
theorem gNwl_kind : ∀ c ∈ gNwl, (∃ a b, c = .castable a b) ∨ ∃ x, c = .declares x := by
  intro c hc
  simp only [gNwl, List.mem_cons, List.not_mem_nil, or_false] at hc
  rcases hc with rfl | rfl | rfl | rfl | rfl | rfl | rfl | rfl
  all_goals first | exact Or.inl ⟨_, _, rfl⟩ | exact Or.inr ⟨_, rfl⟩
theorem gNwl_moved {u U : State} (hvm : u.vm.Alike U.vm) {c : Cond} (hc : c ∈ gNwl) (h : va_Nw c u) : va_Nw c U := by
  rcases gNwl_kind c hc with ⟨a, b, rfl⟩ | ⟨x, rfl⟩
  · exact gNw_castable hvm h
  · exact gNw_declares hvm h
theorem gK.moved {G : gG} {u U : State} (hvm : u.vm.Alike U.vm) (h : gK G u) : gK G U := by
  obtain ⟨h1, h2, h3, h4, ⟨h5, h6, h7⟩, h8⟩ := h
  exact ⟨h1.moved hvm, fun q hq => gNwl_moved hvm hq (h2 q hq), fun q hq => (h3 q hq).moved hvm, h4.moved hvm, ⟨h5.moved hvm, h6.moved hvm, h7.moved hvm⟩, h8.moved hvm⟩
theorem gS.moved {G : gG} {u U : State} {H : Heap} (hvm : u.vm.Alike U.vm) (h : gS G u H) : gS G U H := by
  obtain ⟨h1, ⟨f, h2⟩, h3, h4⟩ := h
  exact ⟨h1.moved hvm, ⟨f, h2.moved hvm⟩, h3.moved hvm, h4.moved hvm⟩
theorem gS.kept {G : gG} {U : State} {H H1 : Heap} (h : gS G U H) (hq : ∀ a : Nat, a < H.size → ¬ gA G a → H1[a]? = H[a]?) : gS G U H1 := by
  obtain ⟨h1, ⟨f, h2⟩, h3, h4⟩ := h
  exact ⟨h1.kept hq, ⟨f, h2.kept hq⟩, h3.kept hq, h4.kept hq⟩
/-- locals, by place; every value takes one slot -/
def gLs (ls : Array Slot) (nL : Nat) (lv : List (Option Value)) : Prop := lv.length = nL ∧ ls.size = nL ∧ lv_wf ls ∧ ∀ (i : Nat) (v : Value), lv[i]? = some (some v) → ls[i]? = some (.val v) ∧ v.category = 1
def gAs (i : Nat) : List (Option Value) → List (Nat × Value)
  | [] => []
  | none :: r => gAs (i + 1) r
  | some v :: r => (i, v) :: gAs (i + 1) r
theorem gAs_mem : ∀ (lv : List (Option Value)) (i : Nat) (q : Nat × Value), q ∈ gAs i lv ↔ i ≤ q.1 ∧ lv[q.1 - i]? = some (some q.2)
  | [], i, q => by simp [gAs]
  | none :: r, i, q => by
    rw [gAs, gAs_mem r (i + 1) q]
    rcases Nat.lt_trichotomy q.1 i with h | h | h
    · constructor
      · rintro ⟨h1, -⟩; omega
      · rintro ⟨h1, -⟩; omega
    · subst h; simp; intro h1; omega
    · have e : q.1 - i = (q.1 - (i + 1)) + 1 := by omega
      rw [e, List.getElem?_cons_succ]
      constructor
      · rintro ⟨h1, h2⟩; exact ⟨by omega, h2⟩
      · rintro ⟨h1, h2⟩; exact ⟨by omega, h2⟩
  | some v :: r, i, q => by
    rw [gAs, List.mem_cons, gAs_mem r (i + 1) q]
    rcases Nat.lt_trichotomy q.1 i with h | h | h
    · constructor
      · rintro (rfl | ⟨h1, -⟩)
        · exact absurd h (Nat.lt_irrefl _)
        · omega
      · rintro ⟨h1, -⟩; omega
    · constructor
      · rintro (rfl | ⟨h1, -⟩)
        · simp
        · omega
      · rintro ⟨h1, h2⟩
        subst h
        simp at h2
        left
        rw [h2]
    · have e : q.1 - i = (q.1 - (i + 1)) + 1 := by omega
      rw [e, List.getElem?_cons_succ]
      constructor
      · rintro (rfl | ⟨h1, h2⟩)
        · exact absurd h (Nat.lt_irrefl _)
        · exact ⟨by omega, h2⟩
      · rintro ⟨h1, h2⟩; exact Or.inr ⟨by omega, h2⟩
theorem gLs.has {ls : Array Slot} {nL : Nat} {lv : List (Option Value)} (h : gLs ls nL lv) : lv_has ls nL (gAs 0 lv) := by
  refine ⟨h.2.1, h.2.2.1, fun q hq => ?_⟩
  have h1 := ((gAs_mem lv 0 q).mp hq).2
  exact (h.2.2.2 q.1 q.2 (by simpa using h1)).1
theorem gLs.stored {ls ls' : Array Slot} {nL : Nat} {lv : List (Option Value)} {i : Nat} {v : Value} (h : gLs ls nL lv) (hi : i < nL) (hc : v.category = 1) (h' : lv_has ls' nL ((i, v) :: (gAs 0 lv).filter (fun q => !(q.1 == i) && !(q.1 + 1 == i && q.2.category == 2)))) : gLs ls' nL (lv.set i (some v)) := by
  refine ⟨by rw [List.length_set]; exact h.1, h'.1, h'.2.1, fun j w hj => ?_⟩
  by_cases hji : j = i
  · subst hji
    rw [List.getElem?_set_self (by rw [h.1]; exact hi)] at hj
    cases hj
    exact ⟨h'.2.2 _ List.mem_cons_self, hc⟩
  · rw [List.getElem?_set_ne (Ne.symm hji)] at hj
    have hw := (h.2.2.2 j w hj).2
    refine ⟨h'.2.2 (j, w) (List.mem_cons_of_mem _ (List.mem_filter.mpr ⟨(gAs_mem lv 0 (j, w)).mpr ⟨Nat.zero_le _, by simpa using hj⟩, ?_⟩)), hw⟩
    simp [hji, hw]
/-- a method: its code, locals, class, name, handlers, result -/
abbrev gM : Type := ByteArray × Nat × String × String × List (Nat × Nat × Nat × Nat) × Option FieldType
def gFix (G : gG) (M : gM) (p : Program) (s : State) (m : MethodId) (args : Array Value) (meth : Method) (c : Code) : Prop :=
  p.tables.exec = Jvm.exec ∧ c.code = M.1 ∧ c.maxLocals = M.2.1 ∧ s.vm.findClass M.2.2.1 = some m.cls ∧ (∀ w ∈ gW, w.before args s = true) ∧ meth.name = M.2.2.2.1 ∧ c.exceptionTable.toList = tableOf M.2.2.2.2.1 ∧ meth.sig.returnType = M.2.2.2.2.2 ∧ meth.locks = false ∧ gK G s ∧ gS G s s.heap ∧ gBase G ≤ s.heap.size
def GW (G : gG) (l : Launch) (Z : State → Array Value → List Frame → State → Prop) (R : Room) (M : gM) (pc : Nat) (lv : List (Option Value)) (st : List Value) (h : gHp) (sz k w : Nat) : Prop :=
  ∀ (p : Program) (e : Env) (s : State) (m : MethodId) (args : Array Value) (below : List Frame) (meth : Method) (c : Code) (H : Heap) (locs : List Loc) (ls : Array Slot), gFix G M p s m args meth c → va_S (gA G) s.heap H locs → gRep G h H → H.size = sz → gLs ls M.2.1 lv →
    W p l e R s m args below meth c H locs k w (Z s args below) (F0 m pc ls st)
/-- the same, with an exception of class E thrown over the frame -/
def GX (G : gG) (l : Launch) (Z : State → Array Value → List Frame → State → Prop) (R : Room) (M : gM) (pc : Nat) (lv : List (Option Value)) (st : List Value) (h : gHp) (sz k w : Nat) (E : String) : Prop :=
  ∀ (p : Program) (e : Env) (s : State) (m : MethodId) (args : Array Value) (below : List Frame) (meth : Method) (c : Code) (H : Heap) (locs : List Loc) (ls : Array Slot) (q : Addr) (ce : Cell), gFix G M p s m args meth c → va_S (gA G) s.heap H locs → gRep G h H → H.size = sz → gLs ls M.2.1 lv →
    H[q]? = some ce → ce.vm = .none → s.vm.findClass E = some ce.cls → vx_W p l e R s m args below meth c H locs k w (Z s args below) (F0 m pc ls st) q
/-- what comes out of a method: an answer, or an exception by its class -/
abbrev gRs : Type := Option Value ⊕ String
def gQ (G : gG) (Q : gRs → gHp → Nat → Prop) : Array Value → State → Outcome → State → Prop := fun _ st o t => ∃ (v : Option Value) (h' : gHp), o = .returned v ∧ gRep G h' t.heap ∧ Q (.inl v) h' t.heap.size ∧ va_F (gA G) st t
def gX (G : gG) (Q : gRs → gHp → Nat → Prop) : String → State → State → Prop := fun E st t => ∃ h' : gHp, gRep G h' t.heap ∧ Q (.inr E) h' t.heap.size ∧ va_F (gA G) st t
def gZ (G : gG) (Q : gRs → gHp → Nat → Prop) (MC MS : Nat) : State → Array Value → List Frame → State → Prop := fun s args below => vx_MQ below (gQ G Q) (gX G Q) args s MC MS (gA G)
def gRoom (d MC MS : Nat) : Room := { frames := 16 * d, cells := MC, slots := MS, locals := 128 * d }
def gPc (G : gG) (av : List Value) (h : gHp) (sz : Nat) : Array Value → State → Prop := va_Pc av (fun U => gK G U ∧ gS G U U.heap ∧ gBase G ≤ U.heap.size ∧ gRep G h U.heap ∧ U.heap.size = sz)
/-- the word of a method's code -/
def gCode (y : MethodName) (M : gM) : Cond := if M.2.2.2.2.1 = [] then .code y M.1 M.2.1 M.2.2.2.2.2 else .codeWith y M.1 M.2.1 M.2.2.2.2.2 M.2.2.2.2.1
def gWs (y : MethodName) (M : gM) : List Cond := gCode y M :: gW
/-- the contract of method y at this world: it returns or throws with Q, makes at most mc cells of ms slots -/
def SM (G : gG) (l : Launch) (d : Nat) (y : MethodName) (M : gM) (av : List Value) (h : gHp) (sz mc ms : Nat) (Q : gRs → gHp → Nat → Prop) : Prop :=
  vx_Met l y (gWs y M) (gRoom d mc ms) (gPc G av h sz) (gQ G Q) (gX G Q) mc ms (gA G)
theorem gPc_blind {G : gG} {av : List Value} {h : gHp} {sz : Nat} : FrameBlind (gPc G av h sz) := by
  intro a U g mk q
  obtain ⟨q0, q1, q2, q3, q4, q5⟩ := q
  exact ⟨q0, q1.moved (u := U) (U := U.calling g mk a) (Vm.Alike.refl U.vm), q2.moved (u := U) (U := U.calling g mk a) (Vm.Alike.refl U.vm), q3, q4, q5⟩
theorem gPc_at {G : gG} {av : List Value} {h : gHp} {sz : Nat} {s : State} {H : Heap} {locs : List Loc} (hK : gK G s) (hZ : gS G s s.heap) (hb : gBase G ≤ s.heap.size) (hS : va_S (gA G) s.heap H locs) (hR : gRep G h H) (hz : H.size = sz) : ∀ U : State, U.heap = H → s.WarmedH U.vm → gPc G av h sz av.toArray U := by
  intro U hU hW
  refine ⟨rfl, hK.moved hW.alike, ?_, ?_, ?_, ?_⟩
  · rw [hU]; exact (hZ.kept hS.2.1).moved hW.alike
  · rw [hU]; exact Nat.le_trans hb hS.1
  · rw [hU]; exact hR
  · rw [hU]; exact hz
theorem gGood {y : MethodName} {M : gM} (hc : gCode y M ∈ gW) : GoodIn gW (gWs y M) := by
  intro w hw
  rcases List.mem_cons.mp hw with rfl | h
  · exact ⟨hc, gW_good hc⟩
  · exact ⟨h, gW_good h⟩
theorem vx_Met.toMet {l : Launch} {y : MethodName} {ws : List Cond} {rm : Room} {Pc : Array Value → State → Prop} {Qc : Array Value → State → Outcome → State → Prop} {XC : String → State → State → Prop} {mc ms : Nat} {free : Addr → Prop} (h : vx_Met l y ws rm Pc Qc XC mc ms free) (hX : ∀ E st t, ¬ XC E st t) : Met l y ws rm Pc Qc mc ms free := by
  intro p e h1 h2 h3 s m args below h4 h5 h6 h7
  obtain ⟨n, o, a1, a2, a3, a4⟩ := h p e h1 h2 h3 s m args below h4 h5 h6 h7
  refine ⟨n, o, a1, a2, a3, ?_⟩
  rcases a4 with a4 | ⟨q, -, E, ce, L, hx, -⟩
  · exact a4
  · exact absurd hx (hX _ _ _)
theorem SM.mono {G : gG} {l : Launch} {d : Nat} {y : MethodName} {M : gM} {av : List Value} {h : gHp} {sz mc ms : Nat} {Q Q' : gRs → gHp → Nat → Prop} (hM : SM G l d y M av h sz mc ms Q) (hQ : ∀ r h' sz', Q r h' sz' → Q' r h' sz') : SM G l d y M av h sz mc ms Q' := by
  intro p e h1 h2 h3 s m args below h4 h5 h6 h7
  obtain ⟨n, o, a1, a2, a3, a4⟩ := hM p e h1 h2 h3 s m args below h4 h5 h6 h7
  refine ⟨n, o, a1, a2, a3, ?_⟩
  rcases a4 with ⟨⟨v, h', b1, b2, b3, b4⟩, a5⟩ | ⟨q, b0, E, ce, L, ⟨h', b2, b3, b4⟩, b5⟩
  · exact Or.inl ⟨⟨v, h', b1, b2, hQ _ _ _ b3, b4⟩, a5⟩
  · exact Or.inr ⟨q, b0, E, ce, L, ⟨h', b2, hQ _ _ _ b3, b4⟩, b5⟩
