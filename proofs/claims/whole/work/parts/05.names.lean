def am_G : List Cond := lw_tbl.filter goodWord
theorem am_G_of {w : Cond} (h : w ∈ tables_1) (hg : goodWord w = true) : w ∈ am_G := List.mem_filter.mpr ⟨List.mem_append_right _ h, hg⟩
theorem am_tb {w : Cond} (i : Nat) (h : tables_1[i]? = some w) : w ∈ tables_1 := List.mem_of_getElem? h
def am_R0 : String := "SpeciesRounds"
def am_T0 : u_T := fun k => match k with
  | 0 => ("SpeciesRounds", "cap", "I", true)
  | 1 => ("SpeciesRounds", "line", "LSpeciesRounds$Line;", true)
  | 2 => ("SpeciesRounds", "reader", "LSpeciesRounds$Reader;", true)
  | 3 => ("SpeciesRounds", "keySearch", "LSpeciesRounds$KeySearch;", true)
  | 4 => ("SpeciesRounds", "table", "LSpeciesRounds$Table;", true)
  | 5 => ("SpeciesRounds", "rules", "[LSpeciesRounds$Rule;", true)
  | 6 => ("SpeciesRounds", "ruleCount", "I", false)
  | 7 => ("SpeciesRounds", "mixture", "LSpeciesRounds$Mixture;", true)
  | 8 => ("SpeciesRounds", "finder", "LSpeciesRounds$Finder;", true)
  | 9 => ("SpeciesRounds", "products", "LSpeciesRounds$Products;", true)
  | 10 => ("SpeciesRounds", "list", "LSpeciesRounds$ReactionList;", true)
  | 11 => ("SpeciesRounds", "draft", "LSpeciesRounds$ReactionList;", true)
  | _ => ("SpeciesRounds", "written", "[I", true)
def am_ty0 : Nat → FieldType := fun k => match k with
  | 0 => .int
  | 1 => .object "SpeciesRounds$Line"
  | 2 => .object "SpeciesRounds$Reader"
  | 3 => .object "SpeciesRounds$KeySearch"
  | 4 => .object "SpeciesRounds$Table"
  | 5 => .array (.object "SpeciesRounds$Rule")
  | 6 => .int
  | 7 => .object "SpeciesRounds$Mixture"
  | 8 => .object "SpeciesRounds$Finder"
  | 9 => .object "SpeciesRounds$Products"
  | 10 => .object "SpeciesRounds$ReactionList"
  | 11 => .object "SpeciesRounds$ReactionList"
  | _ => .array .int
theorem am_nm0 : ∀ a, a < 13 → ∀ b, b < 13 → a ≠ b → (am_T0 a).2.1 ≠ (am_T0 b).2.1 := by decide +kernel
theorem am_tyok0 : ∀ k, k < 13 → parseFieldDescriptor (am_T0 k).2.2.1 = some (am_ty0 k) := by decide +kernel
theorem am_in0 : ∀ w ∈ u_ws am_R0 am_T0 13, w ∈ am_G := List.forall_mem_cons.mpr ⟨am_G_of (am_tb 264 (by decide +kernel)) (by decide +kernel), List.forall_mem_cons.mpr ⟨am_G_of (am_tb 266 (by decide +kernel)) (by decide +kernel), List.forall_mem_cons.mpr ⟨am_G_of (am_tb 268 (by decide +kernel)) (by decide +kernel), List.forall_mem_cons.mpr ⟨am_G_of (am_tb 270 (by decide +kernel)) (by decide +kernel), List.forall_mem_cons.mpr ⟨am_G_of (am_tb 272 (by decide +kernel)) (by decide +kernel), List.forall_mem_cons.mpr ⟨am_G_of (am_tb 274 (by decide +kernel)) (by decide +kernel), List.forall_mem_cons.mpr ⟨am_G_of (am_tb 276 (by decide +kernel)) (by decide +kernel), List.forall_mem_cons.mpr ⟨am_G_of (am_tb 278 (by decide +kernel)) (by decide +kernel), List.forall_mem_cons.mpr ⟨am_G_of (am_tb 280 (by decide +kernel)) (by decide +kernel), List.forall_mem_cons.mpr ⟨am_G_of (am_tb 282 (by decide +kernel)) (by decide +kernel), List.forall_mem_cons.mpr ⟨am_G_of (am_tb 284 (by decide +kernel)) (by decide +kernel), List.forall_mem_cons.mpr ⟨am_G_of (am_tb 286 (by decide +kernel)) (by decide +kernel), List.forall_mem_cons.mpr ⟨am_G_of (am_tb 288 (by decide +kernel)) (by decide +kernel), fun _ h => absurd h List.not_mem_nil⟩⟩⟩⟩⟩⟩⟩⟩⟩⟩⟩⟩⟩
theorem am_inst0 : Cond.instantiable am_R0 13 ∈ am_G := am_G_of (am_tb 22 (by decide +kernel)) (by decide +kernel)
theorem am_ini0 : Cond.initialized am_R0 ∈ am_G := am_G_of (am_tb 1 (by decide +kernel)) (by decide +kernel)
def am_R1 : String := "SpeciesRounds$Finder"
def am_T1 : u_T := fun k => match k with
  | 0 => ("SpeciesRounds$Finder", "chosen", "[I", true)
  | 1 => ("SpeciesRounds$Finder", "found", "[I", true)
  | _ => ("SpeciesRounds$Finder", "count", "I", false)
def am_ty1 : Nat → FieldType := fun k => match k with
  | 0 => .array .int
  | 1 => .array .int
  | _ => .int
theorem am_nm1 : ∀ a, a < 3 → ∀ b, b < 3 → a ≠ b → (am_T1 a).2.1 ≠ (am_T1 b).2.1 := by decide +kernel
theorem am_tyok1 : ∀ k, k < 3 → parseFieldDescriptor (am_T1 k).2.2.1 = some (am_ty1 k) := by decide +kernel
theorem am_in1 : ∀ w ∈ u_ws am_R1 am_T1 3, w ∈ am_G := List.forall_mem_cons.mpr ⟨am_G_of (am_tb 179 (by decide +kernel)) (by decide +kernel), List.forall_mem_cons.mpr ⟨am_G_of (am_tb 181 (by decide +kernel)) (by decide +kernel), List.forall_mem_cons.mpr ⟨am_G_of (am_tb 183 (by decide +kernel)) (by decide +kernel), fun _ h => absurd h List.not_mem_nil⟩⟩⟩
theorem am_inst1 : Cond.instantiable am_R1 3 ∈ am_G := am_G_of (am_tb 170 (by decide +kernel)) (by decide +kernel)
theorem am_ini1 : Cond.initialized am_R1 ∈ am_G := am_G_of (am_tb 8 (by decide +kernel)) (by decide +kernel)
def am_R2 : String := "SpeciesRounds$Graph"
def am_T2 : u_T := fun k => match k with
  | 0 => ("SpeciesRounds$Graph", "codes", "[I", true)
  | 1 => ("SpeciesRounds$Graph", "orders", "[[I", true)
  | 2 => ("SpeciesRounds$Graph", "everyAtom", "[I", true)
  | _ => ("SpeciesRounds$Graph", "atoms", "I", false)
def am_ty2 : Nat → FieldType := fun k => match k with
  | 0 => .array .int
  | 1 => .array (.array .int)
  | 2 => .array .int
  | _ => .int
theorem am_nm2 : ∀ a, a < 4 → ∀ b, b < 4 → a ≠ b → (am_T2 a).2.1 ≠ (am_T2 b).2.1 := by decide +kernel
theorem am_tyok2 : ∀ k, k < 4 → parseFieldDescriptor (am_T2 k).2.2.1 = some (am_ty2 k) := by decide +kernel
theorem am_in2 : ∀ w ∈ u_ws am_R2 am_T2 4, w ∈ am_G := List.forall_mem_cons.mpr ⟨am_G_of (am_tb 74 (by decide +kernel)) (by decide +kernel), List.forall_mem_cons.mpr ⟨am_G_of (am_tb 76 (by decide +kernel)) (by decide +kernel), List.forall_mem_cons.mpr ⟨am_G_of (am_tb 78 (by decide +kernel)) (by decide +kernel), List.forall_mem_cons.mpr ⟨am_G_of (am_tb 80 (by decide +kernel)) (by decide +kernel), fun _ h => absurd h List.not_mem_nil⟩⟩⟩⟩
theorem am_inst2 : Cond.instantiable am_R2 4 ∈ am_G := am_G_of (am_tb 52 (by decide +kernel)) (by decide +kernel)
theorem am_ini2 : Cond.initialized am_R2 ∈ am_G := am_G_of (am_tb 4 (by decide +kernel)) (by decide +kernel)
def am_R3 : String := "SpeciesRounds$KeySearch"
def am_T3 : u_T := fun k => match k with
  | 0 => ("SpeciesRounds$KeySearch", "sorted", "[I", true)
  | 1 => ("SpeciesRounds$KeySearch", "ordering", "[I", true)
  | _ => ("SpeciesRounds$KeySearch", "least", "[I", true)
def am_ty3 : Nat → FieldType := fun k => match k with
  | 0 => .array .int
  | 1 => .array .int
  | _ => .array .int
theorem am_nm3 : ∀ a, a < 3 → ∀ b, b < 3 → a ≠ b → (am_T3 a).2.1 ≠ (am_T3 b).2.1 := by decide +kernel
theorem am_tyok3 : ∀ k, k < 3 → parseFieldDescriptor (am_T3 k).2.2.1 = some (am_ty3 k) := by decide +kernel
theorem am_in3 : ∀ w ∈ u_ws am_R3 am_T3 3, w ∈ am_G := List.forall_mem_cons.mpr ⟨am_G_of (am_tb 123 (by decide +kernel)) (by decide +kernel), List.forall_mem_cons.mpr ⟨am_G_of (am_tb 125 (by decide +kernel)) (by decide +kernel), List.forall_mem_cons.mpr ⟨am_G_of (am_tb 127 (by decide +kernel)) (by decide +kernel), fun _ h => absurd h List.not_mem_nil⟩⟩⟩
theorem am_inst3 : Cond.instantiable am_R3 3 ∈ am_G := am_G_of (am_tb 115 (by decide +kernel)) (by decide +kernel)
theorem am_ini3 : Cond.initialized am_R3 ∈ am_G := am_G_of (am_tb 5 (by decide +kernel)) (by decide +kernel)
def am_R4 : String := "SpeciesRounds$Line"
def am_T4 : u_T := fun k => match k with
  | 0 => ("SpeciesRounds$Line", "typed", "[C", true)
  | _ => ("SpeciesRounds$Line", "length", "I", false)
def am_ty4 : Nat → FieldType := fun k => match k with
  | 0 => .array .char
  | _ => .int
theorem am_nm4 : ∀ a, a < 2 → ∀ b, b < 2 → a ≠ b → (am_T4 a).2.1 ≠ (am_T4 b).2.1 := by decide +kernel
theorem am_tyok4 : ∀ k, k < 2 → parseFieldDescriptor (am_T4 k).2.2.1 = some (am_ty4 k) := by decide +kernel
theorem am_in4 : ∀ w ∈ u_ws am_R4 am_T4 2, w ∈ am_G := List.forall_mem_cons.mpr ⟨am_G_of (am_tb 39 (by decide +kernel)) (by decide +kernel), List.forall_mem_cons.mpr ⟨am_G_of (am_tb 41 (by decide +kernel)) (by decide +kernel), fun _ h => absurd h List.not_mem_nil⟩⟩
theorem am_inst4 : Cond.instantiable am_R4 2 ∈ am_G := am_G_of (am_tb 30 (by decide +kernel)) (by decide +kernel)
theorem am_ini4 : Cond.initialized am_R4 ∈ am_G := am_G_of (am_tb 2 (by decide +kernel)) (by decide +kernel)
def am_R5 : String := "SpeciesRounds$Mixture"
def am_T5 : u_T := fun k => match k with
  | 0 => ("SpeciesRounds$Mixture", "graph", "LSpeciesRounds$Graph;", true)
  | _ => ("SpeciesRounds$Mixture", "lastBegin", "I", false)
def am_ty5 : Nat → FieldType := fun k => match k with
  | 0 => .object "SpeciesRounds$Graph"
  | _ => .int
theorem am_nm5 : ∀ a, a < 2 → ∀ b, b < 2 → a ≠ b → (am_T5 a).2.1 ≠ (am_T5 b).2.1 := by decide +kernel
theorem am_tyok5 : ∀ k, k < 2 → parseFieldDescriptor (am_T5 k).2.2.1 = some (am_ty5 k) := by decide +kernel
theorem am_in5 : ∀ w ∈ u_ws am_R5 am_T5 2, w ∈ am_G := List.forall_mem_cons.mpr ⟨am_G_of (am_tb 164 (by decide +kernel)) (by decide +kernel), List.forall_mem_cons.mpr ⟨am_G_of (am_tb 166 (by decide +kernel)) (by decide +kernel), fun _ h => absurd h List.not_mem_nil⟩⟩
theorem am_inst5 : Cond.instantiable am_R5 2 ∈ am_G := am_G_of (am_tb 153 (by decide +kernel)) (by decide +kernel)
theorem am_ini5 : Cond.initialized am_R5 ∈ am_G := am_G_of (am_tb 7 (by decide +kernel)) (by decide +kernel)
def am_R6 : String := "SpeciesRounds$Products"
def am_T6 : u_T := fun k => match k with
  | 0 => ("SpeciesRounds$Products", "words", "[J", true)
  | 1 => ("SpeciesRounds$Products", "joined", "[I", true)
  | 2 => ("SpeciesRounds$Products", "joinedCount", "I", false)
  | _ => ("SpeciesRounds$Products", "count", "I", false)
def am_ty6 : Nat → FieldType := fun k => match k with
  | 0 => .array .long
  | 1 => .array .int
  | 2 => .int
  | _ => .int
theorem am_nm6 : ∀ a, a < 4 → ∀ b, b < 4 → a ≠ b → (am_T6 a).2.1 ≠ (am_T6 b).2.1 := by decide +kernel
theorem am_tyok6 : ∀ k, k < 4 → parseFieldDescriptor (am_T6 k).2.2.1 = some (am_ty6 k) := by decide +kernel
theorem am_in6 : ∀ w ∈ u_ws am_R6 am_T6 4, w ∈ am_G := List.forall_mem_cons.mpr ⟨am_G_of (am_tb 198 (by decide +kernel)) (by decide +kernel), List.forall_mem_cons.mpr ⟨am_G_of (am_tb 200 (by decide +kernel)) (by decide +kernel), List.forall_mem_cons.mpr ⟨am_G_of (am_tb 202 (by decide +kernel)) (by decide +kernel), List.forall_mem_cons.mpr ⟨am_G_of (am_tb 204 (by decide +kernel)) (by decide +kernel), fun _ h => absurd h List.not_mem_nil⟩⟩⟩⟩
theorem am_inst6 : Cond.instantiable am_R6 4 ∈ am_G := am_G_of (am_tb 187 (by decide +kernel)) (by decide +kernel)
theorem am_ini6 : Cond.initialized am_R6 ∈ am_G := am_G_of (am_tb 9 (by decide +kernel)) (by decide +kernel)
def am_R7 : String := "SpeciesRounds$ReactionList"
def am_T7 : u_T := fun k => match k with
  | 0 => ("SpeciesRounds$ReactionList", "rows", "[I", true)
  | _ => ("SpeciesRounds$ReactionList", "count", "I", false)
def am_ty7 : Nat → FieldType := fun k => match k with
  | 0 => .array .int
  | _ => .int
theorem am_nm7 : ∀ a, a < 2 → ∀ b, b < 2 → a ≠ b → (am_T7 a).2.1 ≠ (am_T7 b).2.1 := by decide +kernel
theorem am_tyok7 : ∀ k, k < 2 → parseFieldDescriptor (am_T7 k).2.2.1 = some (am_ty7 k) := by decide +kernel
theorem am_in7 : ∀ w ∈ u_ws am_R7 am_T7 2, w ∈ am_G := List.forall_mem_cons.mpr ⟨am_G_of (am_tb 216 (by decide +kernel)) (by decide +kernel), List.forall_mem_cons.mpr ⟨am_G_of (am_tb 218 (by decide +kernel)) (by decide +kernel), fun _ h => absurd h List.not_mem_nil⟩⟩
theorem am_inst7 : Cond.instantiable am_R7 2 ∈ am_G := am_G_of (am_tb 208 (by decide +kernel)) (by decide +kernel)
theorem am_ini7 : Cond.initialized am_R7 ∈ am_G := am_G_of (am_tb 10 (by decide +kernel)) (by decide +kernel)
def am_R8 : String := "SpeciesRounds$Reader"
def am_T8 : u_T := fun k => match k with
  | 0 => ("SpeciesRounds$Reader", "drawn", "LSpeciesRounds$Graph;", true)
  | 1 => ("SpeciesRounds$Reader", "branchAtoms", "[I", true)
  | 2 => ("SpeciesRounds$Reader", "markAtoms", "[I", true)
  | 3 => ("SpeciesRounds$Reader", "markOrders", "[I", true)
  | 4 => ("SpeciesRounds$Reader", "branches", "I", false)
  | 5 => ("SpeciesRounds$Reader", "standing", "I", false)
  | 6 => ("SpeciesRounds$Reader", "current", "I", false)
  | 7 => ("SpeciesRounds$Reader", "linkOrder", "I", false)
  | _ => ("SpeciesRounds$Reader", "clash", "Z", false)
def am_ty8 : Nat → FieldType := fun k => match k with
  | 0 => .object "SpeciesRounds$Graph"
  | 1 => .array .int
  | 2 => .array .int
  | 3 => .array .int
  | 4 => .int
  | 5 => .int
  | 6 => .int
  | 7 => .int
  | _ => .boolean
theorem am_nm8 : ∀ a, a < 9 → ∀ b, b < 9 → a ≠ b → (am_T8 a).2.1 ≠ (am_T8 b).2.1 := by decide +kernel
theorem am_tyok8 : ∀ k, k < 9 → parseFieldDescriptor (am_T8 k).2.2.1 = some (am_ty8 k) := by decide +kernel
theorem am_in8 : ∀ w ∈ u_ws am_R8 am_T8 9, w ∈ am_G := List.forall_mem_cons.mpr ⟨am_G_of (am_tb 95 (by decide +kernel)) (by decide +kernel), List.forall_mem_cons.mpr ⟨am_G_of (am_tb 97 (by decide +kernel)) (by decide +kernel), List.forall_mem_cons.mpr ⟨am_G_of (am_tb 99 (by decide +kernel)) (by decide +kernel), List.forall_mem_cons.mpr ⟨am_G_of (am_tb 101 (by decide +kernel)) (by decide +kernel), List.forall_mem_cons.mpr ⟨am_G_of (am_tb 103 (by decide +kernel)) (by decide +kernel), List.forall_mem_cons.mpr ⟨am_G_of (am_tb 105 (by decide +kernel)) (by decide +kernel), List.forall_mem_cons.mpr ⟨am_G_of (am_tb 107 (by decide +kernel)) (by decide +kernel), List.forall_mem_cons.mpr ⟨am_G_of (am_tb 109 (by decide +kernel)) (by decide +kernel), List.forall_mem_cons.mpr ⟨am_G_of (am_tb 111 (by decide +kernel)) (by decide +kernel), fun _ h => absurd h List.not_mem_nil⟩⟩⟩⟩⟩⟩⟩⟩⟩
theorem am_inst8 : Cond.instantiable am_R8 9 ∈ am_G := am_G_of (am_tb 46 (by decide +kernel)) (by decide +kernel)
theorem am_ini8 : Cond.initialized am_R8 ∈ am_G := am_G_of (am_tb 3 (by decide +kernel)) (by decide +kernel)
def am_R9 : String := "SpeciesRounds$Rule"
def am_T9 : u_T := fun k => match k with
  | 0 => ("SpeciesRounds$Rule", "codes", "[I", true)
  | 1 => ("SpeciesRounds$Rule", "before", "[I", true)
  | 2 => ("SpeciesRounds$Rule", "after", "[I", true)
  | _ => ("SpeciesRounds$Rule", "places", "I", false)
def am_ty9 : Nat → FieldType := fun k => match k with
  | 0 => .array .int
  | 1 => .array .int
  | 2 => .array .int
  | _ => .int
theorem am_nm9 : ∀ a, a < 4 → ∀ b, b < 4 → a ≠ b → (am_T9 a).2.1 ≠ (am_T9 b).2.1 := by decide +kernel
theorem am_tyok9 : ∀ k, k < 4 → parseFieldDescriptor (am_T9 k).2.2.1 = some (am_ty9 k) := by decide +kernel
theorem am_in9 : ∀ w ∈ u_ws am_R9 am_T9 4, w ∈ am_G := List.forall_mem_cons.mpr ⟨am_G_of (am_tb 242 (by decide +kernel)) (by decide +kernel), List.forall_mem_cons.mpr ⟨am_G_of (am_tb 244 (by decide +kernel)) (by decide +kernel), List.forall_mem_cons.mpr ⟨am_G_of (am_tb 246 (by decide +kernel)) (by decide +kernel), List.forall_mem_cons.mpr ⟨am_G_of (am_tb 248 (by decide +kernel)) (by decide +kernel), fun _ h => absurd h List.not_mem_nil⟩⟩⟩⟩
theorem am_inst9 : Cond.instantiable am_R9 4 ∈ am_G := am_G_of (am_tb 227 (by decide +kernel)) (by decide +kernel)
theorem am_ini9 : Cond.initialized am_R9 ∈ am_G := am_G_of (am_tb 12 (by decide +kernel)) (by decide +kernel)
def am_R10 : String := "SpeciesRounds$Table"
def am_T10 : u_T := fun k => match k with
  | 0 => ("SpeciesRounds$Table", "words", "[J", true)
  | 1 => ("SpeciesRounds$Table", "renumbered", "[I", true)
  | _ => ("SpeciesRounds$Table", "count", "I", false)
def am_ty10 : Nat → FieldType := fun k => match k with
  | 0 => .array .long
  | 1 => .array .int
  | _ => .int
theorem am_nm10 : ∀ a, a < 3 → ∀ b, b < 3 → a ≠ b → (am_T10 a).2.1 ≠ (am_T10 b).2.1 := by decide +kernel
theorem am_tyok10 : ∀ k, k < 3 → parseFieldDescriptor (am_T10 k).2.2.1 = some (am_ty10 k) := by decide +kernel
theorem am_in10 : ∀ w ∈ u_ws am_R10 am_T10 3, w ∈ am_G := List.forall_mem_cons.mpr ⟨am_G_of (am_tb 142 (by decide +kernel)) (by decide +kernel), List.forall_mem_cons.mpr ⟨am_G_of (am_tb 144 (by decide +kernel)) (by decide +kernel), List.forall_mem_cons.mpr ⟨am_G_of (am_tb 146 (by decide +kernel)) (by decide +kernel), fun _ h => absurd h List.not_mem_nil⟩⟩⟩
theorem am_inst10 : Cond.instantiable am_R10 3 ∈ am_G := am_G_of (am_tb 131 (by decide +kernel)) (by decide +kernel)
theorem am_ini10 : Cond.initialized am_R10 ∈ am_G := am_G_of (am_tb 6 (by decide +kernel)) (by decide +kernel)
def am_R11 : String := "SpeciesRoundsModel"
def am_T11 : u_T := fun k => match k with
  | 0 => ("SpeciesRoundsModel", "cap", "I", true)
  | 1 => ("SpeciesRoundsModel", "line", "[I", true)
  | 2 => ("SpeciesRoundsModel", "typed", "I", false)
  | 3 => ("SpeciesRoundsModel", "count", "I", false)
  | 4 => ("SpeciesRoundsModel", "keys", "[J", true)
  | 5 => ("SpeciesRoundsModel", "rules", "I", false)
  | 6 => ("SpeciesRoundsModel", "places", "[I", true)
  | 7 => ("SpeciesRoundsModel", "letters", "[I", true)
  | 8 => ("SpeciesRoundsModel", "before", "[I", true)
  | 9 => ("SpeciesRoundsModel", "after", "[I", true)
  | 10 => ("SpeciesRoundsModel", "listed", "I", false)
  | 11 => ("SpeciesRoundsModel", "list", "[I", true)
  | 12 => ("SpeciesRoundsModel", "rows", "I", false)
  | 13 => ("SpeciesRoundsModel", "row", "[I", true)
  | 14 => ("SpeciesRoundsModel", "one", "[I", true)
  | 15 => ("SpeciesRoundsModel", "found", "I", false)
  | 16 => ("SpeciesRoundsModel", "fresh", "[J", true)
  | 17 => ("SpeciesRoundsModel", "place", "[I", true)
  | 18 => ("SpeciesRoundsModel", "over", "Z", false)
  | 19 => ("SpeciesRoundsModel", "atoms", "I", false)
  | 20 => ("SpeciesRoundsModel", "letter", "[I", true)
  | 21 => ("SpeciesRoundsModel", "order", "[I", true)
  | 22 => ("SpeciesRoundsModel", "stack", "[I", true)
  | 23 => ("SpeciesRoundsModel", "wrong", "Z", false)
  | 24 => ("SpeciesRoundsModel", "many", "I", false)
  | 25 => ("SpeciesRoundsModel", "code", "[I", true)
  | 26 => ("SpeciesRoundsModel", "molecule", "[I", true)
  | 27 => ("SpeciesRoundsModel", "bonds", "[I", true)
  | 28 => ("SpeciesRoundsModel", "then", "[I", true)
  | 29 => ("SpeciesRoundsModel", "part", "[I", true)
  | 30 => ("SpeciesRoundsModel", "chosen", "[I", true)
  | 31 => ("SpeciesRoundsModel", "size", "I", false)
  | 32 => ("SpeciesRoundsModel", "member", "[I", true)
  | 33 => ("SpeciesRoundsModel", "turn", "[I", true)
  | 34 => ("SpeciesRoundsModel", "made", "I", false)
  | _ => ("SpeciesRoundsModel", "product", "[I", true)
def am_ty11 : Nat → FieldType := fun k => match k with
  | 0 => .int
  | 1 => .array .int
  | 2 => .int
  | 3 => .int
  | 4 => .array .long
  | 5 => .int
  | 6 => .array .int
  | 7 => .array .int
  | 8 => .array .int
  | 9 => .array .int
  | 10 => .int
  | 11 => .array .int
  | 12 => .int
  | 13 => .array .int
  | 14 => .array .int
  | 15 => .int
  | 16 => .array .long
  | 17 => .array .int
  | 18 => .boolean
  | 19 => .int
  | 20 => .array .int
  | 21 => .array .int
  | 22 => .array .int
  | 23 => .boolean
  | 24 => .int
  | 25 => .array .int
  | 26 => .array .int
  | 27 => .array .int
  | 28 => .array .int
  | 29 => .array .int
  | 30 => .array .int
  | 31 => .int
  | 32 => .array .int
  | 33 => .array .int
  | 34 => .int
  | _ => .array .int
theorem am_nm11 : ∀ a, a < 36 → ∀ b, b < 36 → a ≠ b → (am_T11 a).2.1 ≠ (am_T11 b).2.1 := by decide +kernel
theorem am_tyok11 : ∀ k, k < 36 → parseFieldDescriptor (am_T11 k).2.2.1 = some (am_ty11 k) := by decide +kernel
theorem am_in11 : ∀ w ∈ u_ws am_R11 am_T11 36, w ∈ am_G := List.forall_mem_cons.mpr ⟨am_G_of (am_tb 735 (by decide +kernel)) (by decide +kernel), List.forall_mem_cons.mpr ⟨am_G_of (am_tb 737 (by decide +kernel)) (by decide +kernel), List.forall_mem_cons.mpr ⟨am_G_of (am_tb 739 (by decide +kernel)) (by decide +kernel), List.forall_mem_cons.mpr ⟨am_G_of (am_tb 741 (by decide +kernel)) (by decide +kernel), List.forall_mem_cons.mpr ⟨am_G_of (am_tb 743 (by decide +kernel)) (by decide +kernel), List.forall_mem_cons.mpr ⟨am_G_of (am_tb 745 (by decide +kernel)) (by decide +kernel), List.forall_mem_cons.mpr ⟨am_G_of (am_tb 747 (by decide +kernel)) (by decide +kernel), List.forall_mem_cons.mpr ⟨am_G_of (am_tb 749 (by decide +kernel)) (by decide +kernel), List.forall_mem_cons.mpr ⟨am_G_of (am_tb 751 (by decide +kernel)) (by decide +kernel), List.forall_mem_cons.mpr ⟨am_G_of (am_tb 753 (by decide +kernel)) (by decide +kernel), List.forall_mem_cons.mpr ⟨am_G_of (am_tb 755 (by decide +kernel)) (by decide +kernel), List.forall_mem_cons.mpr ⟨am_G_of (am_tb 757 (by decide +kernel)) (by decide +kernel), List.forall_mem_cons.mpr ⟨am_G_of (am_tb 759 (by decide +kernel)) (by decide +kernel), List.forall_mem_cons.mpr ⟨am_G_of (am_tb 761 (by decide +kernel)) (by decide +kernel), List.forall_mem_cons.mpr ⟨am_G_of (am_tb 763 (by decide +kernel)) (by decide +kernel), List.forall_mem_cons.mpr ⟨am_G_of (am_tb 765 (by decide +kernel)) (by decide +kernel), List.forall_mem_cons.mpr ⟨am_G_of (am_tb 767 (by decide +kernel)) (by decide +kernel), List.forall_mem_cons.mpr ⟨am_G_of (am_tb 769 (by decide +kernel)) (by decide +kernel), List.forall_mem_cons.mpr ⟨am_G_of (am_tb 771 (by decide +kernel)) (by decide +kernel), List.forall_mem_cons.mpr ⟨am_G_of (am_tb 773 (by decide +kernel)) (by decide +kernel), List.forall_mem_cons.mpr ⟨am_G_of (am_tb 775 (by decide +kernel)) (by decide +kernel), List.forall_mem_cons.mpr ⟨am_G_of (am_tb 777 (by decide +kernel)) (by decide +kernel), List.forall_mem_cons.mpr ⟨am_G_of (am_tb 779 (by decide +kernel)) (by decide +kernel), List.forall_mem_cons.mpr ⟨am_G_of (am_tb 781 (by decide +kernel)) (by decide +kernel), List.forall_mem_cons.mpr ⟨am_G_of (am_tb 783 (by decide +kernel)) (by decide +kernel), List.forall_mem_cons.mpr ⟨am_G_of (am_tb 785 (by decide +kernel)) (by decide +kernel), List.forall_mem_cons.mpr ⟨am_G_of (am_tb 787 (by decide +kernel)) (by decide +kernel), List.forall_mem_cons.mpr ⟨am_G_of (am_tb 789 (by decide +kernel)) (by decide +kernel), List.forall_mem_cons.mpr ⟨am_G_of (am_tb 791 (by decide +kernel)) (by decide +kernel), List.forall_mem_cons.mpr ⟨am_G_of (am_tb 793 (by decide +kernel)) (by decide +kernel), List.forall_mem_cons.mpr ⟨am_G_of (am_tb 795 (by decide +kernel)) (by decide +kernel), List.forall_mem_cons.mpr ⟨am_G_of (am_tb 797 (by decide +kernel)) (by decide +kernel), List.forall_mem_cons.mpr ⟨am_G_of (am_tb 799 (by decide +kernel)) (by decide +kernel), List.forall_mem_cons.mpr ⟨am_G_of (am_tb 801 (by decide +kernel)) (by decide +kernel), List.forall_mem_cons.mpr ⟨am_G_of (am_tb 803 (by decide +kernel)) (by decide +kernel), List.forall_mem_cons.mpr ⟨am_G_of (am_tb 805 (by decide +kernel)) (by decide +kernel), fun _ h => absurd h List.not_mem_nil⟩⟩⟩⟩⟩⟩⟩⟩⟩⟩⟩⟩⟩⟩⟩⟩⟩⟩⟩⟩⟩⟩⟩⟩⟩⟩⟩⟩⟩⟩⟩⟩⟩⟩⟩⟩
theorem am_inst11 : Cond.instantiable am_R11 36 ∈ am_G := am_G_of (am_tb 694 (by decide +kernel)) (by decide +kernel)
theorem am_ini11 : Cond.initialized am_R11 ∈ am_G := am_G_of (am_tb 13 (by decide +kernel)) (by decide +kernel)
abbrev am_cl : List vw_C := [(am_R0, am_T0, 13), (am_R1, am_T1, 3), (am_R2, am_T2, 4), (am_R3, am_T3, 3), (am_R4, am_T4, 2), (am_R5, am_T5, 2), (am_R6, am_T6, 4), (am_R7, am_T7, 2), (am_R8, am_T8, 9), (am_R9, am_T9, 4), (am_R10, am_T10, 3), (am_R11, am_T11, 36)]
