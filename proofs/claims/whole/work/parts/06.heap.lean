/-! ===== rows: arrays, objects, statics, calls, ends ===== -/
theorem gP1 {G : gG} {h : gHp} {H : Heap} {a : Nat} {e : gE} (hR : gRep G h H) (ha : h a = some e) : va_P G.1 gCl [(a, gv G e)] H := by
  intro i q hq
  have hz : i < 1 := (List.getElem?_eq_some_iff.mp hq).1
  rw [show i = 0 by omega] at hq
  cases hq
  exact (hR a _ ha).2
theorem g_ix {i : Int32} {j n : Nat} (hi : i = nI j) (hj : j < n) (hn : j < 2147483648) : vp_in i n ∧ i.toNatClampNeg = j := by
  subst hi
  have e := nI_clamp (n := j) hn
  refine ⟨?_, e⟩
  intro q
  rcases q with q | q
  · exact nI_pos hn q
  · rw [e] at q; omega
section Rows2
variable {G : gG} {l : Launch} {Z : State → Array Value → List Frame → State → Prop} {R : Room} {M : gM} {pc pc' : Nat} {lv : List (Option Value)} {st : List Value} {h : gHp} {sz k w : Nat}
theorem gw_iald {a n : Nat} {f : Nat → Int32} {i : Int32} (hd : gD M pc .iaload 1 pc') (ha : h a = some (gI n f)) (j : Nat) (hi : i = nI j) (hj : j < n) (hn : j < 2147483648) (kk : GW G l Z R M pc' lv (.int (f j) :: st) h sz k w) : GW G l Z R M pc lv (.int i :: .ref a :: st) h sz k w := by
  obtain ⟨hd, rfl⟩ := hd
  intro p e s m args below meth c H locs ls F hS hR hz hl
  obtain ⟨h1, h2⟩ := g_ix hi hj hn
  have K := kk p e s m args below meth c H locs ls F hS hR hz hl
  rw [← h2] at K
  exact va_iald F.1 F.2.1 F.2.2.2.2.2.2.2.2.2.1.1 (gP1 hR ha) 0 0 rfl rfl h1 hd K
theorem gw_lald {a n : Nat} {f : Nat → Int64} {i : Int32} (hd : gD M pc .laload 1 pc') (ha : h a = some (gL n f)) (j : Nat) (hi : i = nI j) (hj : j < n) (hn : j < 2147483648) (kk : GW G l Z R M pc' lv (.long (f j) :: st) h sz k w) : GW G l Z R M pc lv (.int i :: .ref a :: st) h sz k w := by
  obtain ⟨hd, rfl⟩ := hd
  intro p e s m args below meth c H locs ls F hS hR hz hl
  obtain ⟨h1, h2⟩ := g_ix hi hj hn
  have K := kk p e s m args below meth c H locs ls F hS hR hz hl
  rw [← h2] at K
  exact va_lald F.1 F.2.1 F.2.2.2.2.2.2.2.2.2.1.1 (gP1 hR ha) 0 1 rfl rfl h1 hd K
/-- which array kinds hold references -/
def gKd (kd : Nat) : Prop := kd = 2 ∨ kd = 3 ∨ kd = 4
theorem gKd_ty (G : gG) {kd : Nat} (hk : gKd kd) : ∃ C : String, (gTys G)[kd]? = some (gCy G kd, .object C) := by
  rcases hk with rfl | rfl | rfl
  · exact ⟨_, rfl⟩
  · exact ⟨_, rfl⟩
  · exact ⟨_, rfl⟩
theorem gw_aald {a n kd : Nat} {f : Nat → Option Nat} {i : Int32} (hd : gD M pc .aaload 1 pc') (ha : h a = some (gR kd n f)) (hkd : gKd kd) (j y : Nat) (hi : i = nI j) (hj : j < n) (hn : j < 2147483648) (hy : f j = some y) (kk : GW G l Z R M pc' lv (.ref y :: st) h sz k w) : GW G l Z R M pc lv (.int i :: .ref a :: st) h sz k w := by
  obtain ⟨hd, rfl⟩ := hd
  intro p e s m args below meth c H locs ls F hS hR hz hl
  obtain ⟨h1, h2⟩ := g_ix hi hj hn
  have K := kk p e s m args below meth c H locs ls F hS hR hz hl
  have e9 : va_rf (f i.toNatClampNeg) = .ref y := by rw [h2, hy]; rfl
  rw [← e9] at K
  obtain ⟨C, hC⟩ := gKd_ty G hkd
  exact va_aldq F.1 F.2.1 F.2.2.2.2.2.2.2.2.2.1.1 (gP1 hR ha) 0 kd rfl hC h1 hd K
theorem gw_alenI {a n : Nat} {f : Nat → Int32} (hd : gD M pc .arraylength 1 pc') (ha : h a = some (gI n f)) (kk : GW G l Z R M pc' lv (.int (nI n) :: st) h sz k w) : GW G l Z R M pc lv (.ref a :: st) h sz k w := by
  obtain ⟨hd, rfl⟩ := hd
  intro p e s m args below meth c H locs ls F hS hR hz hl
  exact va_alen F.1 F.2.1 F.2.2.2.2.2.2.2.2.2.1.1 (gP1 hR ha) 0 0 rfl rfl rfl hd (kk p e s m args below meth c H locs ls F hS hR hz hl)
theorem gw_alenR {a n kd : Nat} {f : Nat → Option Nat} (hd : gD M pc .arraylength 1 pc') (ha : h a = some (gR kd n f)) (hkd : gKd kd) (kk : GW G l Z R M pc' lv (.int (nI n) :: st) h sz k w) : GW G l Z R M pc lv (.ref a :: st) h sz k w := by
  obtain ⟨hd, rfl⟩ := hd
  intro p e s m args below meth c H locs ls F hS hR hz hl
  obtain ⟨C, hC⟩ := gKd_ty G hkd
  exact va_alen F.1 F.2.1 F.2.2.2.2.2.2.2.2.2.1.1 (gP1 hR ha) 0 kd rfl hC rfl hd (kk p e s m args below meth c H locs ls F hS hR hz hl)
/-- ArrayList's empty array -/
theorem gw_alenD {a : Nat} (hd : gD M pc .arraylength 1 pc') (ha : a = gDce G) (kk : GW G l Z R M pc' lv (.int 0 :: st) h sz k w) : GW G l Z R M pc lv (.ref a :: st) h sz k w := by
  subst ha
  obtain ⟨hd, rfl⟩ := hd
  intro p e s m args below meth c H locs ls F hS hR hz hl
  obtain ⟨-, ⟨f, cell, h1, h2, h3, h4, h5, h6, h7⟩, -⟩ := F.2.2.2.2.2.2.2.2.2.2.1
  have hlt : gDce G < s.heap.size := (Array.getElem?_eq_some_iff.mp h1).1
  exact W.alen (n := 0) F.1 F.2.1 (by rw [hS.2.1 _ hlt h7]; exact h1) h2 h5 rfl rfl hd (kk p e s m args below meth c H locs ls F hS hR hz hl)
theorem gw_iast {a n : Nat} {f : Nat → Int32} {i x : Int32} (hd : gD M pc .iastore 1 pc') (ha : h a = some (gI n f)) (j : Nat) (hi : i = nI j) (hj : j < n) (hn : j < 2147483648) (kk : GW G l Z R M pc' lv st (gUp h a (gI n (upd f j x))) sz k w) : GW G l Z R M pc lv (.int x :: .int i :: .ref a :: st) h sz k w := by
  obtain ⟨hd, rfl⟩ := hd
  intro p e s m args below meth c H locs ls F hS hR hz hl
  obtain ⟨h1, h2⟩ := g_ix hi hj hn
  have hA := (hR a _ ha).1
  refine W.iast F.1 F.2.1 (hR a _ ha).2 ((F.2.2.2.2.2.2.2.2.2.1.1.2 0 _ rfl).1 n (fun j => .int (f j))) (fun q => by cases q) (by show ¬ (i < 0 ∨ (arrV _ _ _).slots.size ≤ _); rw [arrV_size]; exact h1) rfl rfl hd fun H1 e1 z oq => ?_
  refine kk p e s m args below meth c H1 _ ls F (hS.put z oq hA) (hR.put hA ?_ oq) (z.trans hz) hl
  show H1[a]? = some (vp_cell _ _)
  rw [e1, h2]
  show some ((vp_cell _ _).setSlot _ _) = _
  rw [vp_cell_i, vp_cell_i, arrV_store]
  congr 2
  funext q
  by_cases hq : q = j
  · subst hq
    simp [updV, upd]
  · simp [updV, upd, hq]
theorem gw_last {a n : Nat} {f : Nat → Int64} {i : Int32} {x : Int64} (hd : gD M pc .lastore 1 pc') (ha : h a = some (gL n f)) (j : Nat) (hi : i = nI j) (hj : j < n) (hn : j < 2147483648) (kk : GW G l Z R M pc' lv st (gUp h a (gL n (vp_updL f j x))) sz k w) : GW G l Z R M pc lv (.long x :: .int i :: .ref a :: st) h sz k w := by
  obtain ⟨hd, rfl⟩ := hd
  intro p e s m args below meth c H locs ls F hS hR hz hl
  obtain ⟨h1, h2⟩ := g_ix hi hj hn
  have hA := (hR a _ ha).1
  refine W.last F.1 F.2.1 (hR a _ ha).2 ((F.2.2.2.2.2.2.2.2.2.1.1.2 1 _ rfl).1 n (fun j => .long (f j))) (fun q => by cases q) (by show ¬ (i < 0 ∨ (arrV _ _ _).slots.size ≤ _); rw [arrV_size]; exact h1) rfl rfl hd fun H1 e1 z oq => ?_
  refine kk p e s m args below meth c H1 _ ls F (hS.put z oq hA) (hR.put hA ?_ oq) (z.trans hz) hl
  show H1[a]? = some (vp_cell _ _)
  rw [e1, h2]
  show some ((vp_cell _ _).setSlot _ _) = _
  rw [vp_cell_l, vp_cell_l, arrV_store]
  congr 2
  funext q
  by_cases hq : q = j
  · subst hq
    simp [updV, vp_updL]
  · simp [updV, vp_updL, hq]
/-- a reference into an array: kind 2 takes Stations, 3 Cartridges, 4 Versions -/
def gFt (kd ci : Nat) : Prop := (kd = 2 ∧ ci = 2) ∨ (kd = 3 ∧ ci = 1) ∨ (kd = 4 ∧ ci = 4)
theorem gw_aast {a n kd ci v : Nat} {vs : List Value} {f : Nat → Option Nat} {i : Int32} (hd : gD M pc .aastore 1 pc') (ha : h a = some (gR kd n f)) (hv : h v = some (gO ci vs)) (hkd : gFt kd ci) (j : Nat) (hi : i = nI j) (hj : j < n) (hn : j < 2147483648) (kk : GW G l Z R M pc' lv st (gUp h a (gR kd n (va_up f j (some v)))) sz k w) : GW G l Z R M pc lv (.ref v :: .int i :: .ref a :: st) h sz k w := by
  obtain ⟨hd, rfl⟩ := hd
  intro p e s m args below meth c H locs ls F hS hR hz hl
  obtain ⟨h1, h2⟩ := g_ix hi hj hn
  have hA := (hR a _ ha).1
  have hK := F.2.2.2.2.2.2.2.2.2.1.1
  have hlt : i.toNatClampNeg < n := by rw [h2]; exact hj
  have h0 : ¬ i < 0 := fun q => h1 (Or.inl q)
  obtain ⟨-, r', hr', cellV, g1, g2, g3, -⟩ := hR v _ hv
  have hcls := (hK.1 ci r' hr').2
  obtain ⟨kC, hkC, -⟩ := hcls.2
  have hty : ∃ (E : String) (comp : ClassId) (kA : Class) (kE : Class), s.vm.classes[gCy G kd]? = some kA ∧ kA.kind = .array comp (.object E) ∧ s.vm.classes[comp]? = some kE ∧ s.vm.assignable (G.1.1 ci) comp = true := by
    rcases hkd with ⟨rfl, rfl⟩ | ⟨rfl, rfl⟩ | ⟨rfl, rfl⟩
    · obtain ⟨kA, comp, k1, k2, k3, -⟩ := (hK.2 2 _ rfl).2
      cases hr'
      have hcomp : comp = G.1.1 2 := Option.some.inj (k3.symm.trans hcls.1)
      subst hcomp
      exact ⟨_, _, kA, kC, k1, k2, hkC, va_assign hcls⟩
    · obtain ⟨kA, comp, k1, k2, k3, -⟩ := (hK.2 3 _ rfl).2
      cases hr'
      have hcomp : comp = G.1.1 1 := Option.some.inj (k3.symm.trans hcls.1)
      subst hcomp
      exact ⟨_, _, kA, kC, k1, k2, hkC, va_assign hcls⟩
    · obtain ⟨kA, comp, k1, k2, k3, -⟩ := (hK.2 4 _ rfl).2
      cases hr'
      obtain ⟨kE, hkE, -⟩ := Vm.findClass_spec k3
      obtain ⟨c0, t1, f1, f2, f3⟩ := Cond.castable_spec (va_Nw.use (A := args) rfl (F.2.2.2.2.2.2.2.2.2.1.2.1 (.castable "FolderRounds$Version" "java/lang/Object") (by simp [gNwl])))
      have q1 : G.1.1 4 = c0 := Option.some.inj (hcls.1.symm.trans f1)
      have q2 : comp = t1 := Option.some.inj (k3.symm.trans f2)
      subst q1 q2
      exact ⟨_, _, kA, kE, k1, k2, hkE, f3⟩
  obtain ⟨E, comp, kA, kE, k1, k2, k3, k4⟩ := hty
  refine W.aast F.1 F.2.1 (hR a _ ha).2 (fun q h => by cases h) (fun h => by cases h) k1 k2 rfl k3 ⟨h0, by show _ < (arrV _ _ _).slots.size; rw [arrV_size]; exact hlt⟩ g1 (fun q h => by rw [g3] at h; cases h) (by rw [g2]; exact hkC) (by rw [g2]; exact k4) rfl rfl hd fun H1 e1 z oq => ?_
  refine kk p e s m args below meth c H1 _ ls F (hS.put z oq hA) (hR.put hA ?_ oq) (z.trans hz) hl
  show H1[a]? = some (vp_cell _ _)
  rw [e1, h2]
  show some ((vp_cell _ _).setSlot _ _) = _
  rw [vp_cell_q, vp_cell_q, arrV_store]
  congr 2
  funext q
  by_cases hq : q = j
  · subst hq
    simp [updV, va_up, va_rf]
  · simp [updV, va_up, hq]
theorem gw_aastN {a n kd : Nat} {f : Nat → Option Nat} {i : Int32} (hd : gD M pc .aastore 1 pc') (ha : h a = some (gR kd n f)) (hkd : gKd kd) (j : Nat) (hi : i = nI j) (hj : j < n) (hn : j < 2147483648) (kk : GW G l Z R M pc' lv st (gUp h a (gR kd n (va_up f j none))) sz k w) : GW G l Z R M pc lv (.null :: .int i :: .ref a :: st) h sz k w := by
  obtain ⟨hd, rfl⟩ := hd
  intro p e s m args below meth c H locs ls F hS hR hz hl
  obtain ⟨h1, h2⟩ := g_ix hi hj hn
  have hA := (hR a _ ha).1
  have hK := F.2.2.2.2.2.2.2.2.2.1.1
  obtain ⟨C, hC⟩ := gKd_ty G hkd
  refine va_WaastN (C := C) F.1 F.2.1 (hR a _ ha).2 ((hK.2 kd _ hC).1 n (fun j => va_rf (f j))) (fun h => by cases h) (by show ¬ (i < 0 ∨ (arrV _ _ _).slots.size ≤ _); rw [arrV_size]; exact h1) rfl rfl hd fun H1 e1 z oq => ?_
  refine kk p e s m args below meth c H1 _ ls F (hS.put z oq hA) (hR.put hA ?_ oq) (z.trans hz) hl
  show H1[a]? = some (vp_cell _ _)
  rw [e1, h2]
  show some ((vp_cell _ _).setSlot _ _) = _
  rw [vp_cell_q, vp_cell_q, arrV_store]
  congr 2
  funext q
  by_cases hq : q = j
  · subst hq
    simp [updV, va_up, va_rf]
  · simp [updV, va_up, hq]
/-- new arrays -/
theorem gw_newI {i : Int32} (hd : gD M pc (.newarray .int) 2 pc') (hw : Cond.arrayClass .int ∈ gW) (n : Nat) (hi : i = nI n) (hn : n ≤ 100000) (hc : k + 1 ≤ R.cells) (hs : w + n ≤ R.slots) (kk : GW G l Z R M pc' lv (.ref sz :: st) (gUp h sz (gI n (fun _ => 0))) (sz + 1) (k + 1) (w + n)) : GW G l Z R M pc lv (.int i :: st) h sz k w := by
  obtain ⟨hd, rfl⟩ := hd
  intro p e s m args below meth c H locs ls F hS hR hz hl
  subst hz hi
  refine va_newaK F.1 F.2.1 (atype := .int) (F.2.2.2.2.1 _ hw) rfl hd rfl (nI_pos (by omega)) (nI_clamp (by omega)) (by show n * 4 ≤ _; omega) hc hs rfl fun H1 cA e1 z1 o1 hAr hNm => ?_
  have hcA : gCy G 0 = cA := Option.some.inj ((F.2.2.2.2.2.2.2.2.2.1.1.2 0 _ rfl).2.symm.trans hNm)
  have hA : gA G H.size := Nat.le_trans F.2.2.2.2.2.2.2.2.2.2.2 hS.1
  refine kk p e s m args below meth c H1 locs ls F ⟨Nat.le_trans hS.1 (by omega), fun x h1 h2 => (o1 x (Nat.lt_of_lt_of_le h1 hS.1)).trans (hS.2.1 x h1 h2), hS.2.2⟩ (hR.push hA ?_ o1) z1 hl
  show H1[H.size]? = some (vp_cell (gCy G 0) (n, .inl (fun _ => 0)))
  rw [vp_cell_i, hcA]
  exact e1
theorem gw_newL {i : Int32} (hd : gD M pc (.newarray .long) 2 pc') (hw : Cond.arrayClass .long ∈ gW) (n : Nat) (hi : i = nI n) (hn : n ≤ 100000) (hc : k + 1 ≤ R.cells) (hs : w + n ≤ R.slots) (kk : GW G l Z R M pc' lv (.ref sz :: st) (gUp h sz (gL n (fun _ => 0))) (sz + 1) (k + 1) (w + n)) : GW G l Z R M pc lv (.int i :: st) h sz k w := by
  obtain ⟨hd, rfl⟩ := hd
  intro p e s m args below meth c H locs ls F hS hR hz hl
  subst hz hi
  refine va_newaK F.1 F.2.1 (atype := .long) (F.2.2.2.2.1 _ hw) rfl hd rfl (nI_pos (by omega)) (nI_clamp (by omega)) (by show n * 8 ≤ _; omega) hc hs rfl fun H1 cA e1 z1 o1 hAr hNm => ?_
  have hcA : gCy G 1 = cA := Option.some.inj ((F.2.2.2.2.2.2.2.2.2.1.1.2 1 _ rfl).2.symm.trans hNm)
  have hA : gA G H.size := Nat.le_trans F.2.2.2.2.2.2.2.2.2.2.2 hS.1
  refine kk p e s m args below meth c H1 locs ls F ⟨Nat.le_trans hS.1 (by omega), fun x h1 h2 => (o1 x (Nat.lt_of_lt_of_le h1 hS.1)).trans (hS.2.1 x h1 h2), hS.2.2⟩ (hR.push hA ?_ o1) z1 hl
  show H1[H.size]? = some (vp_cell (gCy G 1) (n, .inr (.inl (fun _ => 0))))
  rw [vp_cell_l, hcA]
  exact e1
theorem gw_newR {i : Int32} {idx kd : Nat} {C : String} (hd : gD M pc (.anewarray idx) 3 pc') (hkd : (kd = 2 ∧ C = "FolderRounds$Station") ∨ (kd = 3 ∧ C = "FolderRounds$Cartridge") ∨ (kd = 4 ∧ C = "java/lang/Object")) (hw : Cond.classLink M.2.2.1 idx C ∈ gW) (n : Nat) (hi : i = nI n) (hn : n ≤ 100000) (hc : k + 1 ≤ R.cells) (hs : w + n ≤ R.slots) (kk : GW G l Z R M pc' lv (.ref sz :: st) (gUp h sz (gR kd n (fun _ => none))) (sz + 1) (k + 1) (w + n)) : GW G l Z R M pc lv (.int i :: st) h sz k w := by
  obtain ⟨hd, rfl⟩ := hd
  intro p e s m args below meth c H locs ls F hS hR hz hl
  subst hz hi
  have hK := F.2.2.2.2.2.2.2.2.2.1
  have hO : va_AO C s ∧ ((gTys G)[kd]? = some (gCy G kd, .object C)) := by
    rcases hkd with ⟨rfl, rfl⟩ | ⟨rfl, rfl⟩ | ⟨rfl, rfl⟩
    · exact ⟨hK.2.2.2.2.1.1, rfl⟩
    · exact ⟨hK.2.2.2.2.1.2.1, rfl⟩
    · exact ⟨hK.2.2.2.2.1.2.2, rfl⟩
  have hcl : (nI n).toNatClampNeg = n := nI_clamp (by omega)
  refine W.anew F.1 F.2.1 F.2.2.2.1 (F.2.2.2.2.1 _ hw) (va_AO.use hO.1) rfl hd rfl (nI_pos (by omega)) (by rw [hcl]; omega) hc (by rw [hcl]; exact hs) fun cA kA comp f1 f2 f3 f4 => ?_
  rw [hcl]
  generalize hH1 : H.push ({ cls := cA, slots := Array.replicate n .null, vm := .none } : Cell) = H1
  have z1 : H1.size = H.size + 1 := by rw [← hH1, Array.size_push]
  have e1 : H1[H.size]? = some (arrV cA n (fun _ => .null)) := by rw [← hH1, Array.getElem?_push_size, ← arrV_new]
  have o1 : ∀ q : Nat, q < H.size → H1[q]? = H[q]? := fun q hq => by rw [← hH1, Array.getElem?_push, if_neg (Nat.ne_of_lt hq)]
  have hcA : gCy G kd = cA := by
    obtain ⟨-, -, -, -, -, r4⟩ := (hK.1.2 kd _ hO.2).2
    exact Option.some.inj (r4.symm.trans f1)
  have hA : gA G H.size := Nat.le_trans F.2.2.2.2.2.2.2.2.2.2.2 hS.1
  refine kk p e s m args below meth c H1 locs ls F ⟨Nat.le_trans hS.1 (by omega), fun x h1 h2 => (o1 x (Nat.lt_of_lt_of_le h1 hS.1)).trans (hS.2.1 x h1 h2), hS.2.2⟩ (hR.push hA ?_ o1) z1 hl
  show H1[H.size]? = some (vp_cell (gCy G kd) (n, .inr (.inr (.inr (.inr (fun _ => none))))))
  rw [vp_cell_q, hcA]
  exact e1
/-- a new object -/
def gNew (M : gM) (idx ci : Nat) (fs : List Value) : Prop := ∃ (C : String) (T : u_T) (N : Nat) (ty : Nat → FieldType), gCl[ci]? = some (C, T, N) ∧ fs.length = N ∧ Cond.classLink M.2.2.1 idx C ∈ gW ∧ Cond.instantiable C N ∈ gW ∧ Cond.initialized C ∈ gW ∧ (∀ w ∈ u_ws C T N, w ∈ gW) ∧ (∀ k, k < N → parseFieldDescriptor (T k).2.2.1 = some (ty k)) ∧ (∀ j, j < N → defaultValue (ty j) = vp_V fs j)
theorem gw_new {idx ci : Nat} (fs : List Value) (hd : gD M pc (.new idx) 3 pc') (hN : gNew M idx ci fs) (hc : k + 1 ≤ R.cells) (hs : w + fs.length ≤ R.slots) (kk : GW G l Z R M pc' lv (.ref sz :: st) (gUp h sz (gO ci fs)) (sz + 1) (k + 1) (w + fs.length)) : GW G l Z R M pc lv st h sz k w := by
  obtain ⟨hd, rfl⟩ := hd
  obtain ⟨C, T, N, ty, hcl, rfl, hlk, hins, hini, hin, hty, hfs⟩ := hN
  intro p e s m args below meth c H locs ls F hS hR hz hl
  subst hz
  have hKn := F.2.2.2.2.2.2.2.2.2.1.1.1 ci _ hcl
  refine W.newcK F.1 F.2.1 F.2.2.2.1 (F.2.2.2.2.1 _ hlk) (F.2.2.2.2.1 _ hins) (F.2.2.2.2.1 _ hini) rfl hd hc hs hKn.2.1 rfl fun H1 kC hkC e1 z1 o1 => ?_
  have hA : gA G H.size := Nat.le_trans F.2.2.2.2.2.2.2.2.2.2.2 hS.1
  refine kk p e s m args below meth c H1 locs ls F ⟨Nat.le_trans hS.1 (by omega), fun x h1 h2 => (o1 x (Nat.lt_of_lt_of_le h1 hS.1)).trans (hS.2.1 x h1 h2), hS.2.2⟩ (hR.push hA ?_ o1) z1 hl
  exact ⟨_, hcl, (u_born ty F.2.2.2.2.1 hin hKn hkC e1 hty).to hfs⟩
/-- Object.<init>, a static field, casts, class objects -/
theorem gw_objInit {a idx : Nat} (hd : gD M pc (.invokespecial idx) 3 pc') (hw : Cond.methodLink M.2.2.1 idx objectInit ∈ gW ∧ Cond.instanceMethod objectInit ∈ gW ∧ Cond.code objectInit ⟨#[0xb1]⟩ 1 none ∈ gW) (hf : 1 ≤ R.frames) (hlo : (st.map fun v => v.category).sum + 12 ≤ R.locals) (kk : GW G l Z R M pc' lv st h sz k w) : GW G l Z R M pc lv (.ref a :: st) h sz k w := by
  obtain ⟨hd, rfl⟩ := hd
  intro p e s m args below meth c H locs ls F hS hR hz hl
  refine W.objInit F.1 F.2.1 F.2.2.2.1 (F.2.2.2.2.1 _ hw.1) (F.2.2.2.2.1 _ hw.2.1) (F.2.2.2.2.1 _ hw.2.2) rfl (by show ls.size = _; rw [hl.2.1, F.2.2.1]) rfl hd hf (by show 2 * 0 + _ + 12 ≤ _; omega) (kk p e s m args below meth c H locs ls F hS hR hz hl)
theorem gw_getsD {idx : Nat} (hd : gD M pc (.getstatic idx) 3 pc') (hw : Cond.fieldLink M.2.2.1 idx "java/util/ArrayList" "DEFAULTCAPACITY_EMPTY_ELEMENTDATA" "[Ljava/lang/Object;" ∈ gW) (kk : GW G l Z R M pc' lv (.ref (gDce G) :: st) h sz k w) : GW G l Z R M pc lv st h sz k w := by
  obtain ⟨hd, rfl⟩ := hd
  intro p e s m args below meth c H locs ls F hS hR hz hl
  exact va_gets F.1 F.2.1 F.2.2.2.2.2.2.2.2.2.2.1.1 hS F.2.2.2.1 (F.2.2.2.2.1 _ hw) (fun _ q => q) hd (kk p e s m args below meth c H locs ls F hS hR hz hl)
theorem gw_castV {a idx : Nat} {fs : List Value} (hd : gD M pc (.checkcast idx) 3 pc') (hw : Cond.classLink M.2.2.1 idx "FolderRounds$Version" ∈ gW) (ha : h a = some (gO 4 fs)) (kk : GW G l Z R M pc' lv (.ref a :: st) h sz k w) : GW G l Z R M pc lv (.ref a :: st) h sz k w := by
  obtain ⟨hd, rfl⟩ := hd
  intro p e s m args below meth c H locs ls F hS hR hz hl
  have hK := F.2.2.2.2.2.2.2.2.2.1.1
  exact va_castS F.1 F.2.1 F.2.2.2.1 (F.2.2.2.2.1 _ hw) (hK.1 4 _ rfl).2 (va_recv hK (gP1 hR ha) (ci := 4) (q0 := 0) rfl rfl) hd (kk p e s m args below meth c H locs ls F hS hR hz hl)
theorem gw_castN {idx : Nat} (hd : gD M pc (.checkcast idx) 3 pc') (kk : GW G l Z R M pc' lv (.null :: st) h sz k w) : GW G l Z R M pc lv (.null :: st) h sz k w := by
  obtain ⟨hd, rfl⟩ := hd
  intro p e s m args below meth c H locs ls F hS hR hz hl
  exact lv_castN F.1 F.2.1 hd (kk p e s m args below meth c H locs ls F hS hR hz hl)
theorem gw_ldcM {idx : Nat} (hd : gD M pc (.ldc idx) 2 pc') (hw : Cond.classLink M.2.2.1 idx "[Ljava/lang/Object;" ∈ gW) (kk : GW G l Z R M pc' lv (.ref (gMi G) :: st) h sz k w) : GW G l Z R M pc lv st h sz k w := by
  obtain ⟨hd, rfl⟩ := hd
  intro p e s m args below meth c H locs ls F hS hR hz hl
  exact va_ldcM F.1 F.2.1 F.2.2.2.1 (F.2.2.2.2.1 _ hw) F.2.2.2.2.2.2.2.2.2.1.2.2.2.2.2 hd (kk p e s m args below meth c H locs ls F hS hR hz hl)
theorem gw_getC {a idx n : Nat} {f : Nat → Option Nat} (hd : gD M pc (.invokevirtual idx) 3 pc') (hw : Cond.methodLink M.2.2.1 idx ⟨"java/lang/Object", "getClass", "()Ljava/lang/Class;"⟩ ∈ gW ∧ Cond.selects "[Ljava/lang/Object;" ⟨"java/lang/Object", "getClass", "()Ljava/lang/Class;"⟩ ⟨"java/lang/Object", "getClass", "()Ljava/lang/Class;"⟩ ∈ gW ∧ Cond.instanceMethod ⟨"java/lang/Object", "getClass", "()Ljava/lang/Class;"⟩ ∈ gW ∧ Cond.native ⟨"java/lang/Object", "getClass", "()Ljava/lang/Class;"⟩ ∈ gW) (ha : h a = some (gR 4 n f)) (hf : 1 ≤ R.frames) (hlo : (st.map fun v => v.category).sum + 14 ≤ R.locals) (kk : GW G l Z R M pc' lv (.ref (gMi G) :: st) h sz k w) : GW G l Z R M pc lv (.ref a :: st) h sz k w := by
  obtain ⟨hd, rfl⟩ := hd
  intro p e s m args below meth c H locs ls F hS hR hz hl
  have hK := F.2.2.2.2.2.2.2.2.2.1
  refine va_getC F.1 F.2.1 (by rw [hl.2.1]; exact F.2.2.1) F.2.2.2.1 (F.2.2.2.2.1 _ hw.1) (va_Dc.use hK.2.2.2.1) (F.2.2.2.2.1 _ hw.2.1) (F.2.2.2.2.1 _ hw.2.2.1) (F.2.2.2.2.1 _ hw.2.2.2) hK.2.2.2.2.2 ⟨_, (hR a _ ha).2, rfl, ?_⟩ hf hlo hd (kk p e s m args below meth c H locs ls F hS hR hz hl)
  exact va_nmO (hK.1.2 4 _ rfl).2 rfl
end Rows2
