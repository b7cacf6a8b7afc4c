/-! ===== the law: its end, its script, its world ===== -/
def R_law : String := "FolderRoundsLaw"
def lw_Q (_ : Array Value) (s : State) (o : Outcome) (t : State) : Prop := o = .returned (some (.int 1)) ∧ Framed s o t [] 601024 7293033
def lw_Z (below : List Frame) (a : Array Value) (s : State) : State → Prop := fun t => ∃ o, t.status = .running ∧ Ended t below o ∧ lw_Q a s o t
theorem lw_ret {p : Program} {l : Launch} {e : Env} {s : State} {m : MethodId} {below : List Frame} {meth : Method} {c : Code} {b : Nat} (hx : p.tables.exec = Jvm.exec) (hb : c.code = code) (hr : meth.sig.returnType = ret) (hlocks : meth.locks = false) {pc : Nat} {H : Heap} {ls : Array Slot} (hdg : decode code pc = .ok (.ireturn, 1)) : W p l e room_1 s m #[Value.ref b] below meth c H [] 601024 7293033 (lw_Z below #[Value.ref b] s) (F0 m pc ls [.int 1]) := by
  intro T hT X
  obtain ⟨fs, hret, hrun, hended, hW, hframe⟩ := X.leave (v := some (.int 1)) (hlocks := hlocks) (fun h => by rw [hr] at h; cases h)
  have hmeth' : T.vm.method? m = some meth := X.method'
  refine ⟨T.setFrames fs, ?_, .returned (some (.int 1)), hrun, hended, rfl, ⟨_, rfl⟩, hW, hframe⟩
  jvm_step X.here [X.here.top, hx, hb, hdg, hmeth', hr, ret, narrow_b1]
  (try refine ⟨rfl, ?_⟩); (try refine ⟨rfl, ?_⟩)
  first | (intro acts; rw [hret _ acts rfl rfl rfl]) | rw [hret _ _ rfl rfl rfl]
  exact Steps.refl _
/-- the law's end, if the start is as it should be -/
def lPre (G : gG) (b L : Nat) (xs : Nat → Int32) (s : State) (args : Array Value) : Prop := va_X b L xs s s.heap ∧ b < s.heap.size ∧ gBase G = s.heap.size ∧ args = #[Value.ref b]
def Zl (G : gG) (b L : Nat) (xs : Nat → Int32) : State → Array Value → List Frame → State → Prop := fun s args below t => lPre G b L xs s args → lw_Z below args s t
section LawR
variable {G : gG} {l : Launch} {b L : Nat} {xs : Nat → Int32} {R : Room} {M : gM} {pc pc' : Nat} {lv : List (Option Value)} {st : List Value} {h : gHp} {sz k w : Nat}
theorem gw_sld {i : Int32} (hd : gD M pc .iaload 1 pc') (j : Nat) (hi : i = nI j) (hj : j < L) (hn : j < 2147483648) (kk : GW G l (Zl G b L xs) R M pc' lv (.int (xs j) :: st) h sz k w) : GW G l (Zl G b L xs) R M pc lv (.int i :: .ref b :: st) h sz k w := by
  obtain ⟨hd, rfl⟩ := hd
  intro p e s m args below meth c H locs ls F hS hR hz hl
  by_cases hp : lPre G b L xs s args
  · obtain ⟨h1, h2⟩ := g_ix hi hj hn
    have K := kk p e s m args below meth c H locs ls F hS hR hz hl
    rw [← h2] at K
    exact va_sld F.1 F.2.1 hp.1 hp.2.1 (fun q => by have := hp.2.2.1; have q' : gBase G ≤ b := q; have := hp.2.1; omega) hS h1 hd K
  · exact fun T hT X => ⟨_, Steps.refl _, fun z => absurd z hp⟩
theorem gw_slen (hd : gD M pc .arraylength 1 pc') (kk : GW G l (Zl G b L xs) R M pc' lv (.int (nI L) :: st) h sz k w) : GW G l (Zl G b L xs) R M pc lv (.ref b :: st) h sz k w := by
  obtain ⟨hd, rfl⟩ := hd
  intro p e s m args below meth c H locs ls F hS hR hz hl
  by_cases hp : lPre G b L xs s args
  · exact va_slen F.1 F.2.1 hp.1 hp.2.1 (fun q => by have := hp.2.2.1; have q' : gBase G ≤ b := q; have := hp.2.1; omega) hS hd (kk p e s m args below meth c H locs ls F hS hR hz hl)
  · exact fun T hT X => ⟨_, Steps.refl _, fun z => absurd z hp⟩
theorem gw_lret (hd : gD M_L_law pc .ireturn 1 pc') (hk : k ≤ 601024) (hw : w ≤ 7293033) : GW G l (Zl G b L xs) room_1 M_L_law pc lv [.int 1] h sz k w := by
  obtain ⟨hd, rfl⟩ := hd
  intro p e s m args below meth c H locs ls F hS hR hz hl
  by_cases hp : lPre G b L xs s args
  · obtain ⟨p1, p2, p3, p4⟩ := hp
    subst p4
    refine va_forget (fun q hq => by have z : gBase G ≤ q.base := hS.2.2 q hq; omega) (W.widen hk hw ?_)
    intro T hT X
    obtain ⟨t, a1, a2⟩ := lw_ret F.1 F.2.1 F.2.2.2.2.2.2.2.1 F.2.2.2.2.2.2.2.2.1 hd T hT X
    exact ⟨t, a1, fun _ => a2⟩
  · exact fun T hT X => ⟨_, Steps.refl _, fun z => absurd z hp⟩
end LawR
/-- both sides after n calls -/
def WI (G : gG) (Y : gLay) (m : Nat) (A : Nat → Nat) (oa : Nat) (h : gHp) (sz n : Nat) : Prop := ∃ (V : gV) (el : Nat → Nat) (LL : Nat → List Nat) (F : Nat → Nat → Int32) (lo th : Int32) (vs : Nat) (lf : Int32) (U : gU) (ad kn : Nat → Nat) (vc : Nat → Nat → Nat) (Ls : Nat → List Nat) (fo : Nat → Int64), CI G V Y h el LL F lo ∧ MV h m A th vs lf U ∧ Rel V ad kn vc Ls (LL, F, lo) vs lf U sz vs ∧ h oa = some (gL 1 fo) ∧ vs ≤ n
theorem lg_cmp_self (x : Int64) : lg_cmp x x = 0 := by simp [lg_cmp]
theorem qO_v {o : gRs} {h0 : gHp} {z0 oa : Nat} {Es : List String} {T X : Int32} {fo : Nat → Int64} (hA : AG o Es T X) (ho : h0 oa = some (gL 1 fo)) : ∀ r h1 sz1, qO o h0 z0 r h1 sz1 → (∃ (X : Int32) (f : Nat → Int64), r = .inl (some (.int X)) ∧ h1 oa = some (gL 1 f)) ∨ ∃ E, r = .inr E ∧ E ∈ Es := by
  rintro r h1 sz1 ⟨rfl, rfl, -⟩
  rcases hA with ⟨Z, e, -⟩ | ⟨i, E, e1, -, e2, -⟩
  · exact Or.inl ⟨Z, fo, e, ho⟩
  · exact Or.inr ⟨E, e2, List.mem_of_getElem? e1⟩
