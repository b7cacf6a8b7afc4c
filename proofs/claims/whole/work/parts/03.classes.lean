def RJx4a65c : String := "java/util/ArrayList"
def TJx4a65c : u_T := fun k => match k with
  | 0 => ("java/util/AbstractList", "modCount", "I", false)
  | 1 => ("java/util/ArrayList", "elementData", "[Ljava/lang/Object;", false)
  | _ => ("java/util/ArrayList", "size", "I", false)
def tyJx4a65c : Nat → FieldType := fun k => match k with
  | 0 => .int
  | 1 => .array (.object "java/lang/Object")
  | _ => .int
abbrev wsJx4a65c0 : List Cond := u_ws RJx4a65c TJx4a65c 3
theorem nmJx4a65c : ∀ a, a < 3 → ∀ b, b < 3 → a ≠ b → (TJx4a65c a).2.1 ≠ (TJx4a65c b).2.1 := by decide +kernel
theorem tyJx4a65c_ok : ∀ k, k < 3 → parseFieldDescriptor (TJx4a65c k).2.2.1 = some (tyJx4a65c k) := by decide +kernel
def RX0 : String := "FolderRounds$Cartridge"
def TX0 : u_T := fun k => match k with
  | 0 => ("FolderRounds$Cartridge", "row", "Ljava/util/ArrayList;", true)
  | _ => ("FolderRounds$Cartridge", "table", "LFolderRounds$Table;", true)
def tyX0 : Nat → FieldType := fun k => match k with
  | 0 => .object "java/util/ArrayList"
  | _ => .object "FolderRounds$Table"
abbrev wsX00 : List Cond := u_ws RX0 TX0 2
theorem nmX0 : ∀ a, a < 2 → ∀ b, b < 2 → a ≠ b → (TX0 a).2.1 ≠ (TX0 b).2.1 := by decide +kernel
theorem tyX0_ok : ∀ k, k < 2 → parseFieldDescriptor (TX0 k).2.2.1 = some (tyX0 k) := by decide +kernel
def RX1 : String := "FolderRounds$Station"
def TX1 : u_T := fun k => match k with
  | 0 => ("FolderRounds$Station", "number", "I", true)
  | 1 => ("FolderRounds$Station", "standing", "Ljava/util/ArrayList;", true)
  | _ => ("FolderRounds$Station", "knows", "LFolderRounds$Table;", true)
def tyX1 : Nat → FieldType := fun k => match k with
  | 0 => .int
  | 1 => .object "java/util/ArrayList"
  | _ => .object "FolderRounds$Table"
abbrev wsX10 : List Cond := u_ws RX1 TX1 3
theorem nmX1 : ∀ a, a < 3 → ∀ b, b < 3 → a ≠ b → (TX1 a).2.1 ≠ (TX1 b).2.1 := by decide +kernel
theorem tyX1_ok : ∀ k, k < 3 → parseFieldDescriptor (TX1 k).2.2.1 = some (tyX1 k) := by decide +kernel
def RX2 : String := "FolderRounds$Table"
def TX2 : u_T := fun k => match k with
  | _ => ("FolderRounds$Table", "counters", "[I", true)
def tyX2 : Nat → FieldType := fun k => match k with
  | _ => .array .int
abbrev wsX20 : List Cond := u_ws RX2 TX2 1
theorem nmX2 : ∀ a, a < 1 → ∀ b, b < 1 → a ≠ b → (TX2 a).2.1 ≠ (TX2 b).2.1 := by decide +kernel
theorem tyX2_ok : ∀ k, k < 1 → parseFieldDescriptor (TX2 k).2.2.1 = some (tyX2 k) := by decide +kernel
def RX3 : String := "FolderRounds$Version"
def TX3 : u_T := fun k => match k with
  | 0 => ("FolderRounds$Version", "document", "I", true)
  | 1 => ("FolderRounds$Version", "length", "I", true)
  | 2 => ("FolderRounds$Version", "fill", "I", true)
  | _ => ("FolderRounds$Version", "vector", "[I", true)
def tyX3 : Nat → FieldType := fun k => match k with
  | 0 => .int
  | 1 => .int
  | 2 => .int
  | _ => .array .int
abbrev wsX30 : List Cond := u_ws RX3 TX3 4
theorem nmX3 : ∀ a, a < 4 → ∀ b, b < 4 → a ≠ b → (TX3 a).2.1 ≠ (TX3 b).2.1 := by decide +kernel
theorem tyX3_ok : ∀ k, k < 4 → parseFieldDescriptor (TX3 k).2.2.1 = some (tyX3 k) := by decide +kernel
def RX4 : String := "FolderRounds"
def TX4 : u_T := fun k => match k with
  | 0 => ("FolderRounds", "stations", "[LFolderRounds$Station;", true)
  | 1 => ("FolderRounds", "cartridges", "[LFolderRounds$Cartridge;", true)
  | 2 => ("FolderRounds", "toLoad", "Ljava/util/ArrayList;", true)
  | _ => ("FolderRounds", "leftOutSoFar", "I", false)
def tyX4 : Nat → FieldType := fun k => match k with
  | 0 => .array (.object "FolderRounds$Station")
  | 1 => .array (.object "FolderRounds$Cartridge")
  | 2 => .object "java/util/ArrayList"
  | _ => .int
abbrev wsX40 : List Cond := u_ws RX4 TX4 4
theorem nmX4 : ∀ a, a < 4 → ∀ b, b < 4 → a ≠ b → (TX4 a).2.1 ≠ (TX4 b).2.1 := by decide +kernel
theorem tyX4_ok : ∀ k, k < 4 → parseFieldDescriptor (TX4 k).2.2.1 = some (tyX4 k) := by decide +kernel
def RX5 : String := "FolderRoundsModel"
def TX5 : u_T := fun k => match k with
  | 0 => ("FolderRoundsModel", "thrown", "I", false)
  | 1 => ("FolderRoundsModel", "versions", "I", false)
  | 2 => ("FolderRoundsModel", "documentOf", "[I", true)
  | 3 => ("FolderRoundsModel", "makerOf", "[I", true)
  | 4 => ("FolderRoundsModel", "lengthOf", "[I", true)
  | 5 => ("FolderRoundsModel", "fillOf", "[I", true)
  | 6 => ("FolderRoundsModel", "vectorOf", "[I", true)
  | 7 => ("FolderRoundsModel", "stands", "[I", true)
  | 8 => ("FolderRoundsModel", "known", "[I", true)
  | 9 => ("FolderRoundsModel", "loaded", "[I", true)
  | 10 => ("FolderRoundsModel", "row", "[I", true)
  | _ => ("FolderRoundsModel", "leftOut", "I", false)
def tyX5 : Nat → FieldType := fun k => match k with
  | 0 => .int
  | 1 => .int
  | 2 => .array .int
  | 3 => .array .int
  | 4 => .array .int
  | 5 => .array .int
  | 6 => .array .int
  | 7 => .array .int
  | 8 => .array .int
  | 9 => .array .int
  | 10 => .array .int
  | _ => .int
abbrev wsX50 : List Cond := u_ws RX5 TX5 12
theorem nmX5 : ∀ a, a < 12 → ∀ b, b < 12 → a ≠ b → (TX5 a).2.1 ≠ (TX5 b).2.1 := by decide +kernel
theorem tyX5_ok : ∀ k, k < 12 → parseFieldDescriptor (TX5 k).2.2.1 = some (tyX5 k) := by decide +kernel
/-- the classes whose objects the abstract heap holds: 0 ArrayList, 1 Cartridge, 2 Station, 3 Table, 4 Version, 5 FolderRounds, 6 FolderRoundsModel -/
abbrev gCl : List vw_C := [(RJx4a65c, TJx4a65c, 3), (RX0, TX0, 2), (RX1, TX1, 3), (RX2, TX2, 1), (RX3, TX3, 4), (RX4, TX4, 4), (RX5, TX5, 12)]
/-- the words that keep -/
def gW : List Cond := lw_tbl.filter goodWord
theorem gW_good {w : Cond} (h : w ∈ gW) : (w.onTables && w.keeps) = true ∨ ∃ ty, w = .arrayClass ty := good_of_word (List.mem_filter.mp h).2
theorem gW_in {w : Cond} (i : Nat) (h : lw_tbl[i]? = some w) (hg : goodWord w = true) : w ∈ gW := List.mem_filter.mpr ⟨List.mem_of_getElem? h, hg⟩
/-- a list of words, each at its place -/
theorem gW_all (ws : List Cond) (ps : List Nat) (h : ws = ps.filterMap (fun i => lw_tbl[i]?)) (hg : ws.all goodWord = true) : ∀ w ∈ ws, w ∈ gW := by
  intro w hw
  have h1 := List.all_eq_true.mp hg w hw
  rw [h] at hw
  obtain ⟨i, -, hi⟩ := List.mem_filterMap.mp hw
  exact gW_in i hi h1
