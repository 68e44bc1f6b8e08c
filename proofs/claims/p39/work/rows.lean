section
/-- a private method of a class that the tables say can be made, by its rows of tables_1 -/
def lw_okq (q : MethodName × Nat) : Prop := (q.1.cls ≠ "java/lang/invoke/MethodHandle" ∧ q.1.cls ≠ "java/lang/invoke/VarHandle") ∧ Cond.instantiable q.1.cls q.2 ∈ tables_1 ∧ Cond.privateMethod q.1 ∈ tables_1 ∧ Cond.instanceMethod q.1 ∈ tables_1
theorem lw_p0 : lw_okq (⟨"GrowthGrid", "beginDeed", "()V"⟩, 10) := ⟨⟨by decide +kernel, by decide +kernel⟩, List.mem_of_getElem? (i := 11) (by decide +kernel), List.mem_of_getElem? (i := 212) (by decide +kernel), List.mem_of_getElem? (i := 213) (by decide +kernel)⟩
theorem lw_p1 : lw_okq (⟨"GrowthGrid$Deeds", "forgetOldest", "()V"⟩, 3) := ⟨⟨by decide +kernel, by decide +kernel⟩, List.mem_of_getElem? (i := 103) (by decide +kernel), List.mem_of_getElem? (i := 220) (by decide +kernel), List.mem_of_getElem? (i := 221) (by decide +kernel)⟩
theorem lw_p2 : lw_okq (⟨"GrowthGrid", "shapeAt", "(II)LGrowthGrid$Shape;"⟩, 10) := ⟨⟨by decide +kernel, by decide +kernel⟩, List.mem_of_getElem? (i := 11) (by decide +kernel), List.mem_of_getElem? (i := 248) (by decide +kernel), List.mem_of_getElem? (i := 249) (by decide +kernel)⟩
theorem lw_p3 : lw_okq (⟨"GrowthGrid", "grownCorners", "()LGrowthGrid$Corners;"⟩, 10) := ⟨⟨by decide +kernel, by decide +kernel⟩, List.mem_of_getElem? (i := 11) (by decide +kernel), List.mem_of_getElem? (i := 252) (by decide +kernel), List.mem_of_getElem? (i := 253) (by decide +kernel)⟩
theorem lw_p4 : lw_okq (⟨"GrowthGrid$Shape", "goesOnUpright", "(LGrowthGrid$Shape;)Z"⟩, 3) := ⟨⟨by decide +kernel, by decide +kernel⟩, List.mem_of_getElem? (i := 54) (by decide +kernel), List.mem_of_getElem? (i := 337) (by decide +kernel), List.mem_of_getElem? (i := 338) (by decide +kernel)⟩
theorem lw_p5 : lw_okq (⟨"GrowthGrid$Shape", "goesOnLevel", "(LGrowthGrid$Shape;)Z"⟩, 3) := ⟨⟨by decide +kernel, by decide +kernel⟩, List.mem_of_getElem? (i := 54) (by decide +kernel), List.mem_of_getElem? (i := 341) (by decide +kernel), List.mem_of_getElem? (i := 342) (by decide +kernel)⟩
def lw_privs_1 : List (MethodName × Nat) := [(⟨"GrowthGrid", "beginDeed", "()V"⟩, 10), (⟨"GrowthGrid$Deeds", "forgetOldest", "()V"⟩, 3), (⟨"GrowthGrid", "shapeAt", "(II)LGrowthGrid$Shape;"⟩, 10), (⟨"GrowthGrid", "grownCorners", "()LGrowthGrid$Corners;"⟩, 10), (⟨"GrowthGrid$Shape", "goesOnUpright", "(LGrowthGrid$Shape;)Z"⟩, 3), (⟨"GrowthGrid$Shape", "goesOnLevel", "(LGrowthGrid$Shape;)Z"⟩, 3)]
theorem lw_r1 : ∀ q ∈ lw_privs_1, lw_okq q := List.forall_mem_cons.mpr ⟨lw_p0, List.forall_mem_cons.mpr ⟨lw_p1, List.forall_mem_cons.mpr ⟨lw_p2, List.forall_mem_cons.mpr ⟨lw_p3, List.forall_mem_cons.mpr ⟨lw_p4, List.forall_mem_cons.mpr ⟨lw_p5, fun _ h => absurd h List.not_mem_nil⟩⟩⟩⟩⟩⟩
def lw_privs : List (MethodName × Nat) := lw_privs_1
def lw_tbl : List Cond := k2_sels lw_privs ++ tables_1
theorem lw_privs_ok : ∀ q ∈ lw_privs, lw_okq q := lw_r1
/-! the words that travel: those of the tables that a callee may keep -/
def AL : List Cond := lw_tbl.filter goodWord
theorem al_mem (i : Nat) {w : Cond} (h : lw_tbl[i]? = some w) (g : goodWord w = true) : w ∈ AL := List.mem_filter.mpr ⟨List.mem_of_getElem? h, g⟩
theorem al_good {w : Cond} (h : w ∈ AL) : goodWord w = true := (List.mem_filter.mp h).2
theorem al_tbl {w : Cond} (h : w ∈ AL) : w ∈ lw_tbl := (List.mem_filter.mp h).1
def TX0 : u_T := fun k => match k with
  | 0 => ("GrowthGrid$Cells", "columns", "I", false)
  | 1 => ("GrowthGrid$Cells", "rows", "I", false)
  | 2 => ("GrowthGrid$Cells", "rule", "I", false)
  | _ => ("GrowthGrid$Cells", "numbers", "[I", true)
def tyX0 : Nat → FieldType := fun k => match k with
  | 0 => .int
  | 1 => .int
  | 2 => .int
  | _ => .array .int
theorem nmX0 : ∀ a, a < 4 → ∀ b, b < 4 → a ≠ b → (TX0 a).2.1 ≠ (TX0 b).2.1 := by decide +kernel
theorem tyX0_ok : ∀ j, j < 4 → parseFieldDescriptor (TX0 j).2.2.1 = some (tyX0 j) := by decide +kernel
def TX1 : u_T := fun k => match k with
  | 0 => ("GrowthGrid$Corners", "shapes", "[LGrowthGrid$Shape;", true)
  | 1 => ("GrowthGrid$Corners", "empty", "LGrowthGrid$Shape;", true)
  | 2 => ("GrowthGrid$Corners", "columns", "I", false)
  | 3 => ("GrowthGrid$Corners", "rows", "I", false)
  | 4 => ("GrowthGrid$Corners", "order", "[I", true)
  | _ => ("GrowthGrid$Corners", "ordered", "I", false)
def tyX1 : Nat → FieldType := fun k => match k with
  | 0 => .array (.object "GrowthGrid$Shape")
  | 1 => .object "GrowthGrid$Shape"
  | 2 => .int
  | 3 => .int
  | 4 => .array .int
  | _ => .int
theorem nmX1 : ∀ a, a < 6 → ∀ b, b < 6 → a ≠ b → (TX1 a).2.1 ≠ (TX1 b).2.1 := by decide +kernel
theorem tyX1_ok : ∀ j, j < 6 → parseFieldDescriptor (TX1 j).2.2.1 = some (tyX1 j) := by decide +kernel
def TX2 : u_T := fun k => match k with
  | 0 => ("GrowthGrid$Deeds", "states", "[LGrowthGrid$Cells;", true)
  | 1 => ("GrowthGrid$Deeds", "position", "I", false)
  | _ => ("GrowthGrid$Deeds", "end", "I", false)
def tyX2 : Nat → FieldType := fun k => match k with
  | 0 => .array (.object "GrowthGrid$Cells")
  | 1 => .int
  | _ => .int
theorem nmX2 : ∀ a, a < 3 → ∀ b, b < 3 → a ≠ b → (TX2 a).2.1 ≠ (TX2 b).2.1 := by decide +kernel
theorem tyX2_ok : ∀ j, j < 3 → parseFieldDescriptor (TX2 j).2.2.1 = some (tyX2 j) := by decide +kernel
def TX3 : u_T := fun k => match k with
  | 0 => ("GrowthGrid$Holder", "holds", "I", false)
  | 1 => ("GrowthGrid$Holder", "shape", "LGrowthGrid$Shape;", true)
  | 2 => ("GrowthGrid$Holder", "numbers", "[I", true)
  | _ => ("GrowthGrid$Holder", "rowLength", "I", false)
def tyX3 : Nat → FieldType := fun k => match k with
  | 0 => .int
  | 1 => .object "GrowthGrid$Shape"
  | 2 => .array .int
  | _ => .int
theorem nmX3 : ∀ a, a < 4 → ∀ b, b < 4 → a ≠ b → (TX3 a).2.1 ≠ (TX3 b).2.1 := by decide +kernel
theorem tyX3_ok : ∀ j, j < 4 → parseFieldDescriptor (TX3 j).2.2.1 = some (tyX3 j) := by decide +kernel
def TX4 : u_T := fun k => match k with
  | _ => ("GrowthGrid$RowSearch", "best", "[[I", true)
def tyX4 : Nat → FieldType := fun k => match k with
  | _ => .array (.array .int)
theorem nmX4 : ∀ a, a < 1 → ∀ b, b < 1 → a ≠ b → (TX4 a).2.1 ≠ (TX4 b).2.1 := by decide +kernel
theorem tyX4_ok : ∀ j, j < 1 → parseFieldDescriptor (TX4 j).2.2.1 = some (tyX4 j) := by decide +kernel
def TX5 : u_T := fun k => match k with
  | 0 => ("GrowthGrid$Shape", "parts", "[I", true)
  | 1 => ("GrowthGrid$Shape", "length", "I", false)
  | _ => ("GrowthGrid$Shape", "size", "I", false)
def tyX5 : Nat → FieldType := fun k => match k with
  | 0 => .array .int
  | 1 => .int
  | _ => .int
theorem nmX5 : ∀ a, a < 3 → ∀ b, b < 3 → a ≠ b → (TX5 a).2.1 ≠ (TX5 b).2.1 := by decide +kernel
theorem tyX5_ok : ∀ j, j < 3 → parseFieldDescriptor (TX5 j).2.2.1 = some (tyX5 j) := by decide +kernel
def TX6 : u_T := fun k => match k with
  | 0 => ("GrowthGrid$Tape", "bytes", "[I", true)
  | _ => ("GrowthGrid$Tape", "length", "I", false)
def tyX6 : Nat → FieldType := fun k => match k with
  | 0 => .array .int
  | _ => .int
theorem nmX6 : ∀ a, a < 2 → ∀ b, b < 2 → a ≠ b → (TX6 a).2.1 ≠ (TX6 b).2.1 := by decide +kernel
theorem tyX6_ok : ∀ j, j < 2 → parseFieldDescriptor (TX6 j).2.2.1 = some (tyX6 j) := by decide +kernel
def TX7 : u_T := fun k => match k with
  | 0 => ("GrowthGrid", "cells", "LGrowthGrid$Cells;", true)
  | 1 => ("GrowthGrid", "spare", "LGrowthGrid$Cells;", true)
  | 2 => ("GrowthGrid", "kept", "LGrowthGrid$Cells;", true)
  | 3 => ("GrowthGrid", "imageKept", "Z", false)
  | 4 => ("GrowthGrid", "corners", "LGrowthGrid$Corners;", true)
  | 5 => ("GrowthGrid", "grown", "Z", false)
  | 6 => ("GrowthGrid", "rowSearch", "LGrowthGrid$RowSearch;", true)
  | 7 => ("GrowthGrid", "deeds", "LGrowthGrid$Deeds;", true)
  | 8 => ("GrowthGrid", "tape", "LGrowthGrid$Tape;", true)
  | _ => ("GrowthGrid", "holders", "[LGrowthGrid$Holder;", true)
def tyX7 : Nat → FieldType := fun k => match k with
  | 0 => .object "GrowthGrid$Cells"
  | 1 => .object "GrowthGrid$Cells"
  | 2 => .object "GrowthGrid$Cells"
  | 3 => .boolean
  | 4 => .object "GrowthGrid$Corners"
  | 5 => .boolean
  | 6 => .object "GrowthGrid$RowSearch"
  | 7 => .object "GrowthGrid$Deeds"
  | 8 => .object "GrowthGrid$Tape"
  | _ => .array (.object "GrowthGrid$Holder")
theorem nmX7 : ∀ a, a < 10 → ∀ b, b < 10 → a ≠ b → (TX7 a).2.1 ≠ (TX7 b).2.1 := by decide +kernel
theorem tyX7_ok : ∀ j, j < 10 → parseFieldDescriptor (TX7 j).2.2.1 = some (tyX7 j) := by decide +kernel
def TX8 : u_T := fun k => match k with
  | _ => ("", "", "", false)
def tyX8 : Nat → FieldType := fun k => match k with
  | _ => .int
theorem nmX8 : ∀ a, a < 0 → ∀ b, b < 0 → a ≠ b → (TX8 a).2.1 ≠ (TX8 b).2.1 := by decide +kernel
theorem tyX8_ok : ∀ j, j < 0 → parseFieldDescriptor (TX8 j).2.2.1 = some (tyX8 j) := by decide +kernel
abbrev vwCl : List vw_C := [("GrowthGrid$Cells", TX0, 4), ("GrowthGrid$Corners", TX1, 6), ("GrowthGrid$Deeds", TX2, 3), ("GrowthGrid$Holder", TX3, 4), ("GrowthGrid$RowSearch", TX4, 1), ("GrowthGrid$Shape", TX5, 3), ("GrowthGrid$Tape", TX6, 2), ("GrowthGrid", TX7, 10)]
abbrev cX0_init : ByteArray := prog_2_method_1_code
abbrev yX0_init : MethodName := ⟨"GrowthGrid$Cells", "<init>", "()V"⟩
abbrev cX0_hasCell : ByteArray := prog_2_method_2_code
abbrev yX0_hasCell : MethodName := ⟨"GrowthGrid$Cells", "hasCell", "(II)Z"⟩
abbrev cX0_hasCorner : ByteArray := prog_2_method_3_code
abbrev yX0_hasCorner : MethodName := ⟨"GrowthGrid$Cells", "hasCorner", "(II)Z"⟩
abbrev cX0_numberAt : ByteArray := prog_2_method_4_code
abbrev yX0_numberAt : MethodName := ⟨"GrowthGrid$Cells", "numberAt", "(II)I"⟩
abbrev cX0_setNumber : ByteArray := prog_2_method_5_code
abbrev yX0_setNumber : MethodName := ⟨"GrowthGrid$Cells", "setNumber", "(III)V"⟩
abbrev cX0_placeOf : ByteArray := prog_2_method_6_code
abbrev yX0_placeOf : MethodName := ⟨"GrowthGrid$Cells", "placeOf", "(II)I"⟩
abbrev cX0_worthAt : ByteArray := prog_2_method_7_code
abbrev yX0_worthAt : MethodName := ⟨"GrowthGrid$Cells", "worthAt", "(II)I"⟩
abbrev cX0_clearTo : ByteArray := prog_2_method_8_code
abbrev yX0_clearTo : MethodName := ⟨"GrowthGrid$Cells", "clearTo", "(II)V"⟩
abbrev cX0_copyFrom : ByteArray := prog_2_method_9_code
abbrev yX0_copyFrom : MethodName := ⟨"GrowthGrid$Cells", "copyFrom", "(LGrowthGrid$Cells;)V"⟩
abbrev cX0_filled : ByteArray := prog_2_method_10_code
abbrev yX0_filled : MethodName := ⟨"GrowthGrid$Cells", "filled", "()I"⟩
abbrev cX0_total : ByteArray := prog_2_method_11_code
abbrev yX0_total : MethodName := ⟨"GrowthGrid$Cells", "total", "()I"⟩
abbrev cX0_differing : ByteArray := prog_2_method_12_code
abbrev yX0_differing : MethodName := ⟨"GrowthGrid$Cells", "differing", "(LGrowthGrid$Cells;)I"⟩
abbrev cX0_spelling : ByteArray := prog_2_method_15_code
abbrev yX0_spelling : MethodName := ⟨"GrowthGrid$Cells", "spelling", "()I"⟩
abbrev cX1_init : ByteArray := prog_3_method_1_code
abbrev yX1_init : MethodName := ⟨"GrowthGrid$Corners", "<init>", "()V"⟩
abbrev cX1_at : ByteArray := prog_3_method_2_code
abbrev yX1_at : MethodName := ⟨"GrowthGrid$Corners", "at", "(II)LGrowthGrid$Shape;"⟩
abbrev cX1_growOver : ByteArray := prog_3_method_3_code
abbrev yX1_growOver : MethodName := ⟨"GrowthGrid$Corners", "growOver", "(LGrowthGrid$Cells;)V"⟩
abbrev cX1_goBackInto : ByteArray := prog_3_method_4_code
abbrev yX1_goBackInto : MethodName := ⟨"GrowthGrid$Corners", "goBackInto", "(LGrowthGrid$Cells;)I"⟩
abbrev cX1_rimFits : ByteArray := prog_3_method_5_code
abbrev yX1_rimFits : MethodName := ⟨"GrowthGrid$Corners", "rimFits", "(I)Z"⟩
abbrev cX2_init : ByteArray := prog_4_method_1_code
abbrev yX2_init : MethodName := ⟨"GrowthGrid$Deeds", "<init>", "()V"⟩
abbrev cX2_undoable : ByteArray := prog_4_method_2_code
abbrev yX2_undoable : MethodName := ⟨"GrowthGrid$Deeds", "undoable", "()I"⟩
abbrev cX2_redoable : ByteArray := prog_4_method_3_code
abbrev yX2_redoable : MethodName := ⟨"GrowthGrid$Deeds", "redoable", "()I"⟩
abbrev cX2_forgetAll : ByteArray := prog_4_method_4_code
abbrev yX2_forgetAll : MethodName := ⟨"GrowthGrid$Deeds", "forgetAll", "()V"⟩
abbrev cX2_remember : ByteArray := prog_4_method_5_code
abbrev yX2_remember : MethodName := ⟨"GrowthGrid$Deeds", "remember", "(LGrowthGrid$Cells;)V"⟩
abbrev cX2_forgetOldest : ByteArray := prog_4_method_6_code
abbrev yX2_forgetOldest : MethodName := ⟨"GrowthGrid$Deeds", "forgetOldest", "()V"⟩
abbrev cX2_stepBack : ByteArray := prog_4_method_7_code
abbrev yX2_stepBack : MethodName := ⟨"GrowthGrid$Deeds", "stepBack", "(LGrowthGrid$Cells;)V"⟩
abbrev cX2_stepOn : ByteArray := prog_4_method_8_code
abbrev yX2_stepOn : MethodName := ⟨"GrowthGrid$Deeds", "stepOn", "(LGrowthGrid$Cells;)V"⟩
abbrev cX3_init : ByteArray := prog_5_method_1_code
abbrev yX3_init : MethodName := ⟨"GrowthGrid$Holder", "<init>", "()V"⟩
abbrev cX4_init : ByteArray := prog_6_method_1_code
abbrev yX4_init : MethodName := ⟨"GrowthGrid$RowSearch", "<init>", "()V"⟩
abbrev cX4_bestRow : ByteArray := prog_6_method_2_code
abbrev yX4_bestRow : MethodName := ⟨"GrowthGrid$RowSearch", "bestRow", "(LGrowthGrid$Cells;IZ)I"⟩
abbrev cX5_init : ByteArray := prog_7_method_1_code
abbrev yX5_init : MethodName := ⟨"GrowthGrid$Shape", "<init>", "()V"⟩
abbrev cX5_partAt : ByteArray := prog_7_method_2_code
abbrev yX5_partAt : MethodName := ⟨"GrowthGrid$Shape", "partAt", "(I)I"⟩
abbrev cX5_partsAbove : ByteArray := prog_7_method_3_code
abbrev yX5_partsAbove : MethodName := ⟨"GrowthGrid$Shape", "partsAbove", "(I)I"⟩
abbrev cX5_makeEmpty : ByteArray := prog_7_method_4_code
abbrev yX5_makeEmpty : MethodName := ⟨"GrowthGrid$Shape", "makeEmpty", "()V"⟩
abbrev cX5_growFrom : ByteArray := prog_7_method_6_code
abbrev yX5_growFrom : MethodName := ⟨"GrowthGrid$Shape", "growFrom", "(LGrowthGrid$Shape;LGrowthGrid$Shape;LGrowthGrid$Shape;II)V"⟩
abbrev cX5_grownPart : ByteArray := prog_7_method_7_code
abbrev yX5_grownPart : MethodName := ⟨"GrowthGrid$Shape", "grownPart", "(IIIII)I"⟩
abbrev cX5_goBackFrom : ByteArray := prog_7_method_8_code
abbrev yX5_goBackFrom : MethodName := ⟨"GrowthGrid$Shape", "goBackFrom", "(LGrowthGrid$Shape;LGrowthGrid$Shape;LGrowthGrid$Shape;I)I"⟩
abbrev cX5_formerPart : ByteArray := prog_7_method_9_code
abbrev yX5_formerPart : MethodName := ⟨"GrowthGrid$Shape", "formerPart", "(IIIII)I"⟩
abbrev cX5_goesOnFrom : ByteArray := prog_7_method_10_code
abbrev yX5_goesOnFrom : MethodName := ⟨"GrowthGrid$Shape", "goesOnFrom", "(LGrowthGrid$Shape;Z)Z"⟩
abbrev cX5_goesOnLevel : ByteArray := prog_7_method_11_code
abbrev yX5_goesOnLevel : MethodName := ⟨"GrowthGrid$Shape", "goesOnLevel", "(LGrowthGrid$Shape;)Z"⟩
abbrev cX5_goesOnUpright : ByteArray := prog_7_method_12_code
abbrev yX5_goesOnUpright : MethodName := ⟨"GrowthGrid$Shape", "goesOnUpright", "(LGrowthGrid$Shape;)Z"⟩
abbrev cX5_standardFillings : ByteArray := prog_7_method_13_code
abbrev yX5_standardFillings : MethodName := ⟨"GrowthGrid$Shape", "standardFillings", "()J"⟩
abbrev cX5_productOrWide : ByteArray := prog_7_method_14_code
abbrev yX5_productOrWide : MethodName := ⟨"GrowthGrid$Shape", "productOrWide", "()I"⟩
abbrev cX6_init : ByteArray := prog_8_method_1_code
abbrev yX6_init : MethodName := ⟨"GrowthGrid$Tape", "<init>", "()V"⟩
abbrev cX7_init : ByteArray := prog_1_method_1_code
abbrev yX7_init : MethodName := ⟨"GrowthGrid", "<init>", "()V"⟩
abbrev cX7_grid : ByteArray := prog_1_method_2_code
abbrev yX7_grid : MethodName := ⟨"GrowthGrid", "grid", "(II)I"⟩
abbrev cX7_put : ByteArray := prog_1_method_3_code
abbrev yX7_put : MethodName := ⟨"GrowthGrid", "put", "(III)I"⟩
abbrev cX7_cell : ByteArray := prog_1_method_4_code
abbrev yX7_cell : MethodName := ⟨"GrowthGrid", "cell", "(II)I"⟩
abbrev cX7_rule : ByteArray := prog_1_method_5_code
abbrev yX7_rule : MethodName := ⟨"GrowthGrid", "rule", "(I)I"⟩
abbrev cX7_spelled : ByteArray := prog_1_method_7_code
abbrev yX7_spelled : MethodName := ⟨"GrowthGrid", "spelled", "()I"⟩
abbrev cX7_part : ByteArray := prog_1_method_9_code
abbrev yX7_part : MethodName := ⟨"GrowthGrid", "part", "(III)I"⟩
abbrev cX7_shape : ByteArray := prog_1_method_10_code
abbrev yX7_shape : MethodName := ⟨"GrowthGrid", "shape", "(III)I"⟩
abbrev cX7_turned : ByteArray := prog_1_method_11_code
abbrev yX7_turned : MethodName := ⟨"GrowthGrid", "turned", "(III)I"⟩
abbrev cX7_standard : ByteArray := prog_1_method_12_code
abbrev yX7_standard : MethodName := ⟨"GrowthGrid", "standard", "(II)J"⟩
abbrev cX7_product : ByteArray := prog_1_method_13_code
abbrev yX7_product : MethodName := ⟨"GrowthGrid", "product", "(II)I"⟩
abbrev cX7_fits : ByteArray := prog_1_method_16_code
abbrev yX7_fits : MethodName := ⟨"GrowthGrid", "fits", "(I)I"⟩
abbrev cX7_back : ByteArray := prog_1_method_17_code
abbrev yX7_back : MethodName := ⟨"GrowthGrid", "back", "(I)I"⟩
abbrev cX7_longest : ByteArray := prog_1_method_18_code
abbrev yX7_longest : MethodName := ⟨"GrowthGrid", "longest", "(II)I"⟩
abbrev cX7_undo : ByteArray := prog_1_method_22_code
abbrev yX7_undo : MethodName := ⟨"GrowthGrid", "undo", "()I"⟩
abbrev cX7_again : ByteArray := prog_1_method_23_code
abbrev yX7_again : MethodName := ⟨"GrowthGrid", "again", "()I"⟩
abbrev cX7_restore : ByteArray := prog_1_method_36_code
abbrev yX7_restore : MethodName := ⟨"GrowthGrid", "restore", "()I"⟩
abbrev cX7_count : ByteArray := prog_1_method_37_code
abbrev yX7_count : MethodName := ⟨"GrowthGrid", "count", "(I)I"⟩
abbrev cX7_isSide : ByteArray := prog_1_method_38_code
abbrev yX7_isSide : MethodName := ⟨"GrowthGrid", "isSide", "(I)Z"⟩
abbrev cX7_isNumber : ByteArray := prog_1_method_39_code
abbrev yX7_isNumber : MethodName := ⟨"GrowthGrid", "isNumber", "(I)Z"⟩
abbrev cX7_isRule : ByteArray := prog_1_method_40_code
abbrev yX7_isRule : MethodName := ⟨"GrowthGrid", "isRule", "(I)Z"⟩
abbrev cX7_isPlace : ByteArray := prog_1_method_41_code
abbrev yX7_isPlace : MethodName := ⟨"GrowthGrid", "isPlace", "(I)Z"⟩
abbrev cX7_beginDeed : ByteArray := prog_1_method_43_code
abbrev yX7_beginDeed : MethodName := ⟨"GrowthGrid", "beginDeed", "()V"⟩
abbrev cX7_grownCorners : ByteArray := prog_1_method_44_code
abbrev yX7_grownCorners : MethodName := ⟨"GrowthGrid", "grownCorners", "()LGrowthGrid$Corners;"⟩
abbrev cX7_shapeAt : ByteArray := prog_1_method_45_code
abbrev yX7_shapeAt : MethodName := ⟨"GrowthGrid", "shapeAt", "(II)LGrowthGrid$Shape;"⟩
abbrev cJ9_max_7cf53 : ByteArray := prog_11_method_65_code
abbrev yJ9_max_7cf53 : MethodName := ⟨"java/lang/Math", "max", "(II)I"⟩
abbrev cJ9_min_7cf53 : ByteArray := prog_11_method_69_code
abbrev yJ9_min_7cf53 : MethodName := ⟨"java/lang/Math", "min", "(II)I"⟩
abbrev cL_cell : ByteArray := method_2_code
abbrev yL_cell : MethodName := ⟨"GrowthGridLaw", "cell", "([II)I"⟩
abbrev cL_some : ByteArray := method_3_code
abbrev yL_some : MethodName := ⟨"GrowthGridLaw", "some", "([III)I"⟩
abbrev cL_setUp : ByteArray := method_4_code
abbrev yL_setUp : MethodName := ⟨"GrowthGridLaw", "setUp", "(LGrowthGrid;[II)V"⟩
abbrev cL_law : ByteArray := code
abbrev yL_law : MethodName := ⟨"GrowthGridLaw", "law", "([I)Z"⟩
theorem k_0 : (Cond.selects "GrowthGrid" ⟨"GrowthGrid", "beginDeed", "()V"⟩ ⟨"GrowthGrid", "beginDeed", "()V"⟩) ∈ AL := al_mem 0 (by decide +kernel) rfl
theorem k_1 : (Cond.selects "GrowthGrid$Deeds" ⟨"GrowthGrid$Deeds", "forgetOldest", "()V"⟩ ⟨"GrowthGrid$Deeds", "forgetOldest", "()V"⟩) ∈ AL := al_mem 1 (by decide +kernel) rfl
theorem k_2 : (Cond.selects "GrowthGrid" ⟨"GrowthGrid", "shapeAt", "(II)LGrowthGrid$Shape;"⟩ ⟨"GrowthGrid", "shapeAt", "(II)LGrowthGrid$Shape;"⟩) ∈ AL := al_mem 2 (by decide +kernel) rfl
theorem k_3 : (Cond.selects "GrowthGrid" ⟨"GrowthGrid", "grownCorners", "()LGrowthGrid$Corners;"⟩ ⟨"GrowthGrid", "grownCorners", "()LGrowthGrid$Corners;"⟩) ∈ AL := al_mem 3 (by decide +kernel) rfl
theorem k_4 : (Cond.selects "GrowthGrid$Shape" ⟨"GrowthGrid$Shape", "goesOnUpright", "(LGrowthGrid$Shape;)Z"⟩ ⟨"GrowthGrid$Shape", "goesOnUpright", "(LGrowthGrid$Shape;)Z"⟩) ∈ AL := al_mem 4 (by decide +kernel) rfl
theorem k_5 : (Cond.selects "GrowthGrid$Shape" ⟨"GrowthGrid$Shape", "goesOnLevel", "(LGrowthGrid$Shape;)Z"⟩ ⟨"GrowthGrid$Shape", "goesOnLevel", "(LGrowthGrid$Shape;)Z"⟩) ∈ AL := al_mem 5 (by decide +kernel) rfl
theorem k_6 : (Cond.initialized "GrowthGridLaw") ∈ AL := al_mem 6 (by decide +kernel) rfl
theorem k_7 : (Cond.initialized "GrowthGrid") ∈ AL := al_mem 7 (by decide +kernel) rfl
theorem k_8 : (Cond.initialized "GrowthGrid$Cells") ∈ AL := al_mem 8 (by decide +kernel) rfl
theorem k_9 : (Cond.initialized "GrowthGrid$Corners") ∈ AL := al_mem 9 (by decide +kernel) rfl
theorem k_10 : (Cond.initialized "GrowthGrid$Shape") ∈ AL := al_mem 10 (by decide +kernel) rfl
theorem k_11 : (Cond.initialized "GrowthGrid$RowSearch") ∈ AL := al_mem 11 (by decide +kernel) rfl
theorem k_12 : (Cond.initialized "GrowthGrid$Deeds") ∈ AL := al_mem 12 (by decide +kernel) rfl
theorem k_13 : (Cond.initialized "GrowthGrid$Tape") ∈ AL := al_mem 13 (by decide +kernel) rfl
theorem k_14 : (Cond.initialized "GrowthGrid$Holder") ∈ AL := al_mem 14 (by decide +kernel) rfl
theorem k_15 : (Cond.initialized "java/lang/Math") ∈ AL := al_mem 15 (by decide +kernel) rfl
theorem k_16 : (Cond.classLink "GrowthGridLaw" 18 "GrowthGrid") ∈ AL := al_mem 16 (by decide +kernel) rfl
theorem k_17 : (Cond.instantiable "GrowthGrid" 10) ∈ AL := al_mem 17 (by decide +kernel) rfl
theorem k_18 : (Cond.methodLink "GrowthGridLaw" 31 ⟨"GrowthGrid", "<init>", "()V"⟩) ∈ AL := al_mem 18 (by decide +kernel) rfl
theorem k_19 : (Cond.instanceMethod ⟨"GrowthGrid", "<init>", "()V"⟩) ∈ AL := al_mem 19 (by decide +kernel) rfl
theorem k_20 : (Cond.code ⟨"GrowthGrid", "<init>", "()V"⟩ prog_1_method_1_code 2 none) ∈ AL := al_mem 20 (by decide +kernel) rfl
theorem k_21 : (Cond.methodLink "GrowthGrid" 5 ⟨"java/lang/Object", "<init>", "()V"⟩) ∈ AL := al_mem 21 (by decide +kernel) rfl
theorem k_22 : (Cond.instanceMethod ⟨"java/lang/Object", "<init>", "()V"⟩) ∈ AL := al_mem 22 (by decide +kernel) rfl
theorem k_23 : (Cond.code ⟨"java/lang/Object", "<init>", "()V"⟩ object_method_1_code 1 none) ∈ AL := al_mem 23 (by decide +kernel) rfl
theorem k_24 : (Cond.classLink "GrowthGrid" 11 "GrowthGrid$Cells") ∈ AL := al_mem 24 (by decide +kernel) rfl
theorem k_25 : (Cond.instantiable "GrowthGrid$Cells" 4) ∈ AL := al_mem 25 (by decide +kernel) rfl
theorem k_26 : (Cond.methodLink "GrowthGrid" 13 ⟨"GrowthGrid$Cells", "<init>", "()V"⟩) ∈ AL := al_mem 26 (by decide +kernel) rfl
theorem k_27 : (Cond.instanceMethod ⟨"GrowthGrid$Cells", "<init>", "()V"⟩) ∈ AL := al_mem 27 (by decide +kernel) rfl
theorem k_28 : (Cond.code ⟨"GrowthGrid$Cells", "<init>", "()V"⟩ prog_2_method_1_code 1 none) ∈ AL := al_mem 28 (by decide +kernel) rfl
theorem k_29 : (Cond.methodLink "GrowthGrid$Cells" 3 ⟨"java/lang/Object", "<init>", "()V"⟩) ∈ AL := al_mem 29 (by decide +kernel) rfl
theorem k_30 : (Cond.fieldLink "GrowthGrid$Cells" 9 "GrowthGrid$Cells" "columns" "I") ∈ AL := al_mem 30 (by decide +kernel) rfl
theorem k_31 : (Cond.fieldLink "GrowthGrid" 70 "GrowthGrid$Cells" "columns" "I") ∈ AL := al_mem 31 (by decide +kernel) rfl
theorem k_32 : (Cond.fieldLink "GrowthGrid$RowSearch" 16 "GrowthGrid$Cells" "columns" "I") ∈ AL := al_mem 32 (by decide +kernel) rfl
theorem k_33 : (Cond.fieldLink "GrowthGrid$Corners" 36 "GrowthGrid$Cells" "columns" "I") ∈ AL := al_mem 33 (by decide +kernel) rfl
theorem k_34 : (Cond.fieldLink "GrowthGrid$Cells" 15 "GrowthGrid$Cells" "rows" "I") ∈ AL := al_mem 34 (by decide +kernel) rfl
theorem k_35 : (Cond.fieldLink "GrowthGrid" 74 "GrowthGrid$Cells" "rows" "I") ∈ AL := al_mem 35 (by decide +kernel) rfl
theorem k_36 : (Cond.fieldLink "GrowthGrid$RowSearch" 22 "GrowthGrid$Cells" "rows" "I") ∈ AL := al_mem 36 (by decide +kernel) rfl
theorem k_37 : (Cond.fieldLink "GrowthGrid$Corners" 39 "GrowthGrid$Cells" "rows" "I") ∈ AL := al_mem 37 (by decide +kernel) rfl
theorem k_38 : (Cond.fieldLink "GrowthGrid$Cells" 18 "GrowthGrid$Cells" "rule" "I") ∈ AL := al_mem 38 (by decide +kernel) rfl
theorem k_39 : (Cond.fieldLink "GrowthGrid$Corners" 51 "GrowthGrid$Cells" "rule" "I") ∈ AL := al_mem 39 (by decide +kernel) rfl
theorem k_40 : (Cond.fieldLink "GrowthGrid" 102 "GrowthGrid$Cells" "rule" "I") ∈ AL := al_mem 40 (by decide +kernel) rfl
theorem k_41 : (Cond.fieldLink "GrowthGrid$Cells" 21 "GrowthGrid$Cells" "numbers" "[I") ∈ AL := al_mem 41 (by decide +kernel) rfl
theorem k_51 : (Cond.arrayClass .int) ∈ AL := al_mem 51 (by decide +kernel) rfl
theorem k_52 : (Cond.classLink "GrowthGrid" 28 "GrowthGrid$Corners") ∈ AL := al_mem 52 (by decide +kernel) rfl
theorem k_53 : (Cond.instantiable "GrowthGrid$Corners" 6) ∈ AL := al_mem 53 (by decide +kernel) rfl
theorem k_54 : (Cond.methodLink "GrowthGrid" 30 ⟨"GrowthGrid$Corners", "<init>", "()V"⟩) ∈ AL := al_mem 54 (by decide +kernel) rfl
theorem k_55 : (Cond.instanceMethod ⟨"GrowthGrid$Corners", "<init>", "()V"⟩) ∈ AL := al_mem 55 (by decide +kernel) rfl
theorem k_56 : (Cond.code ⟨"GrowthGrid$Corners", "<init>", "()V"⟩ prog_3_method_1_code 2 none) ∈ AL := al_mem 56 (by decide +kernel) rfl
theorem k_57 : (Cond.methodLink "GrowthGrid$Corners" 3 ⟨"java/lang/Object", "<init>", "()V"⟩) ∈ AL := al_mem 57 (by decide +kernel) rfl
theorem k_58 : (Cond.classLink "GrowthGrid$Corners" 9 "GrowthGrid$Shape") ∈ AL := al_mem 58 (by decide +kernel) rfl
theorem k_60 : (Cond.instantiable "GrowthGrid$Shape" 3) ∈ AL := al_mem 60 (by decide +kernel) rfl
theorem k_61 : (Cond.methodLink "GrowthGrid$Corners" 17 ⟨"GrowthGrid$Shape", "<init>", "()V"⟩) ∈ AL := al_mem 61 (by decide +kernel) rfl
theorem k_62 : (Cond.instanceMethod ⟨"GrowthGrid$Shape", "<init>", "()V"⟩) ∈ AL := al_mem 62 (by decide +kernel) rfl
theorem k_63 : (Cond.code ⟨"GrowthGrid$Shape", "<init>", "()V"⟩ prog_7_method_1_code 1 none) ∈ AL := al_mem 63 (by decide +kernel) rfl
theorem k_64 : (Cond.methodLink "GrowthGrid$Shape" 3 ⟨"java/lang/Object", "<init>", "()V"⟩) ∈ AL := al_mem 64 (by decide +kernel) rfl
theorem k_65 : (Cond.fieldLink "GrowthGrid$Shape" 9 "GrowthGrid$Shape" "parts" "[I") ∈ AL := al_mem 65 (by decide +kernel) rfl
theorem k_66 : (Cond.fieldLink "GrowthGrid$Shape" 15 "GrowthGrid$Shape" "length" "I") ∈ AL := al_mem 66 (by decide +kernel) rfl
theorem k_67 : (Cond.fieldLink "GrowthGrid" 142 "GrowthGrid$Shape" "length" "I") ∈ AL := al_mem 67 (by decide +kernel) rfl
theorem k_68 : (Cond.fieldLink "GrowthGrid$Shape" 19 "GrowthGrid$Shape" "size" "I") ∈ AL := al_mem 68 (by decide +kernel) rfl
theorem k_69 : (Cond.fieldLink "GrowthGrid" 139 "GrowthGrid$Shape" "size" "I") ∈ AL := al_mem 69 (by decide +kernel) rfl
theorem k_77 : (Cond.fieldLink "GrowthGrid$Corners" 11 "GrowthGrid$Corners" "shapes" "[LGrowthGrid$Shape;") ∈ AL := al_mem 77 (by decide +kernel) rfl
theorem k_78 : (Cond.fieldLink "GrowthGrid$Corners" 18 "GrowthGrid$Corners" "empty" "LGrowthGrid$Shape;") ∈ AL := al_mem 78 (by decide +kernel) rfl
theorem k_79 : (Cond.fieldLink "GrowthGrid$Corners" 22 "GrowthGrid$Corners" "columns" "I") ∈ AL := al_mem 79 (by decide +kernel) rfl
theorem k_80 : (Cond.fieldLink "GrowthGrid$Corners" 26 "GrowthGrid$Corners" "rows" "I") ∈ AL := al_mem 80 (by decide +kernel) rfl
theorem k_81 : (Cond.fieldLink "GrowthGrid$Corners" 29 "GrowthGrid$Corners" "order" "[I") ∈ AL := al_mem 81 (by decide +kernel) rfl
theorem k_82 : (Cond.fieldLink "GrowthGrid$Corners" 33 "GrowthGrid$Corners" "ordered" "I") ∈ AL := al_mem 82 (by decide +kernel) rfl
theorem k_96 : (Cond.classLink "GrowthGrid" 38 "GrowthGrid$RowSearch") ∈ AL := al_mem 96 (by decide +kernel) rfl
theorem k_97 : (Cond.instantiable "GrowthGrid$RowSearch" 1) ∈ AL := al_mem 97 (by decide +kernel) rfl
theorem k_98 : (Cond.methodLink "GrowthGrid" 40 ⟨"GrowthGrid$RowSearch", "<init>", "()V"⟩) ∈ AL := al_mem 98 (by decide +kernel) rfl
theorem k_99 : (Cond.instanceMethod ⟨"GrowthGrid$RowSearch", "<init>", "()V"⟩) ∈ AL := al_mem 99 (by decide +kernel) rfl
theorem k_100 : (Cond.code ⟨"GrowthGrid$RowSearch", "<init>", "()V"⟩ prog_6_method_1_code 1 none) ∈ AL := al_mem 100 (by decide +kernel) rfl
theorem k_101 : (Cond.methodLink "GrowthGrid$RowSearch" 3 ⟨"java/lang/Object", "<init>", "()V"⟩) ∈ AL := al_mem 101 (by decide +kernel) rfl
theorem k_102 : (Cond.classLink "GrowthGrid$RowSearch" 9 "[[I") ∈ AL := al_mem 102 (by decide +kernel) rfl
theorem k_104 : (Cond.fieldLink "GrowthGrid$RowSearch" 11 "GrowthGrid$RowSearch" "best" "[[I") ∈ AL := al_mem 104 (by decide +kernel) rfl
theorem k_108 : (Cond.classLink "GrowthGrid" 45 "GrowthGrid$Deeds") ∈ AL := al_mem 108 (by decide +kernel) rfl
theorem k_109 : (Cond.instantiable "GrowthGrid$Deeds" 3) ∈ AL := al_mem 109 (by decide +kernel) rfl
theorem k_110 : (Cond.methodLink "GrowthGrid" 47 ⟨"GrowthGrid$Deeds", "<init>", "()V"⟩) ∈ AL := al_mem 110 (by decide +kernel) rfl
theorem k_111 : (Cond.instanceMethod ⟨"GrowthGrid$Deeds", "<init>", "()V"⟩) ∈ AL := al_mem 111 (by decide +kernel) rfl
theorem k_112 : (Cond.code ⟨"GrowthGrid$Deeds", "<init>", "()V"⟩ prog_4_method_1_code 2 none) ∈ AL := al_mem 112 (by decide +kernel) rfl
theorem k_113 : (Cond.methodLink "GrowthGrid$Deeds" 3 ⟨"java/lang/Object", "<init>", "()V"⟩) ∈ AL := al_mem 113 (by decide +kernel) rfl
theorem k_114 : (Cond.classLink "GrowthGrid$Deeds" 9 "GrowthGrid$Cells") ∈ AL := al_mem 114 (by decide +kernel) rfl
theorem k_116 : (Cond.methodLink "GrowthGrid$Deeds" 17 ⟨"GrowthGrid$Cells", "<init>", "()V"⟩) ∈ AL := al_mem 116 (by decide +kernel) rfl
theorem k_117 : (Cond.fieldLink "GrowthGrid$Deeds" 11 "GrowthGrid$Deeds" "states" "[LGrowthGrid$Cells;") ∈ AL := al_mem 117 (by decide +kernel) rfl
theorem k_118 : (Cond.fieldLink "GrowthGrid$Deeds" 18 "GrowthGrid$Deeds" "position" "I") ∈ AL := al_mem 118 (by decide +kernel) rfl
theorem k_119 : (Cond.fieldLink "GrowthGrid$Deeds" 22 "GrowthGrid$Deeds" "end" "I") ∈ AL := al_mem 119 (by decide +kernel) rfl
theorem k_127 : (Cond.classLink "GrowthGrid" 52 "GrowthGrid$Tape") ∈ AL := al_mem 127 (by decide +kernel) rfl
theorem k_128 : (Cond.instantiable "GrowthGrid$Tape" 2) ∈ AL := al_mem 128 (by decide +kernel) rfl
theorem k_129 : (Cond.methodLink "GrowthGrid" 54 ⟨"GrowthGrid$Tape", "<init>", "()V"⟩) ∈ AL := al_mem 129 (by decide +kernel) rfl
theorem k_130 : (Cond.instanceMethod ⟨"GrowthGrid$Tape", "<init>", "()V"⟩) ∈ AL := al_mem 130 (by decide +kernel) rfl
theorem k_131 : (Cond.code ⟨"GrowthGrid$Tape", "<init>", "()V"⟩ prog_8_method_1_code 1 none) ∈ AL := al_mem 131 (by decide +kernel) rfl
theorem k_132 : (Cond.methodLink "GrowthGrid$Tape" 3 ⟨"java/lang/Object", "<init>", "()V"⟩) ∈ AL := al_mem 132 (by decide +kernel) rfl
theorem k_133 : (Cond.fieldLink "GrowthGrid$Tape" 9 "GrowthGrid$Tape" "bytes" "[I") ∈ AL := al_mem 133 (by decide +kernel) rfl
theorem k_134 : (Cond.fieldLink "GrowthGrid$Tape" 15 "GrowthGrid$Tape" "length" "I") ∈ AL := al_mem 134 (by decide +kernel) rfl
theorem k_135 : (Cond.fieldLink "GrowthGrid" 205 "GrowthGrid$Tape" "length" "I") ∈ AL := al_mem 135 (by decide +kernel) rfl
theorem k_141 : (Cond.classLink "GrowthGrid" 59 "GrowthGrid$Holder") ∈ AL := al_mem 141 (by decide +kernel) rfl
theorem k_143 : (Cond.instantiable "GrowthGrid$Holder" 4) ∈ AL := al_mem 143 (by decide +kernel) rfl
theorem k_144 : (Cond.methodLink "GrowthGrid" 65 ⟨"GrowthGrid$Holder", "<init>", "()V"⟩) ∈ AL := al_mem 144 (by decide +kernel) rfl
theorem k_145 : (Cond.instanceMethod ⟨"GrowthGrid$Holder", "<init>", "()V"⟩) ∈ AL := al_mem 145 (by decide +kernel) rfl
theorem k_146 : (Cond.code ⟨"GrowthGrid$Holder", "<init>", "()V"⟩ prog_5_method_1_code 1 none) ∈ AL := al_mem 146 (by decide +kernel) rfl
theorem k_147 : (Cond.methodLink "GrowthGrid$Holder" 3 ⟨"java/lang/Object", "<init>", "()V"⟩) ∈ AL := al_mem 147 (by decide +kernel) rfl
theorem k_148 : (Cond.classLink "GrowthGrid$Holder" 15 "GrowthGrid$Shape") ∈ AL := al_mem 148 (by decide +kernel) rfl
theorem k_149 : (Cond.methodLink "GrowthGrid$Holder" 17 ⟨"GrowthGrid$Shape", "<init>", "()V"⟩) ∈ AL := al_mem 149 (by decide +kernel) rfl
theorem k_150 : (Cond.fieldLink "GrowthGrid$Holder" 9 "GrowthGrid$Holder" "holds" "I") ∈ AL := al_mem 150 (by decide +kernel) rfl
theorem k_151 : (Cond.fieldLink "GrowthGrid$Holder" 18 "GrowthGrid$Holder" "shape" "LGrowthGrid$Shape;") ∈ AL := al_mem 151 (by decide +kernel) rfl
theorem k_152 : (Cond.fieldLink "GrowthGrid$Holder" 22 "GrowthGrid$Holder" "numbers" "[I") ∈ AL := al_mem 152 (by decide +kernel) rfl
theorem k_153 : (Cond.fieldLink "GrowthGrid$Holder" 26 "GrowthGrid$Holder" "rowLength" "I") ∈ AL := al_mem 153 (by decide +kernel) rfl
theorem k_163 : (Cond.fieldLink "GrowthGrid" 14 "GrowthGrid" "cells" "LGrowthGrid$Cells;") ∈ AL := al_mem 163 (by decide +kernel) rfl
theorem k_164 : (Cond.fieldLink "GrowthGrid" 18 "GrowthGrid" "spare" "LGrowthGrid$Cells;") ∈ AL := al_mem 164 (by decide +kernel) rfl
theorem k_165 : (Cond.fieldLink "GrowthGrid" 21 "GrowthGrid" "kept" "LGrowthGrid$Cells;") ∈ AL := al_mem 165 (by decide +kernel) rfl
theorem k_166 : (Cond.fieldLink "GrowthGrid" 24 "GrowthGrid" "imageKept" "Z") ∈ AL := al_mem 166 (by decide +kernel) rfl
theorem k_167 : (Cond.fieldLink "GrowthGrid" 31 "GrowthGrid" "corners" "LGrowthGrid$Corners;") ∈ AL := al_mem 167 (by decide +kernel) rfl
theorem k_168 : (Cond.fieldLink "GrowthGrid" 35 "GrowthGrid" "grown" "Z") ∈ AL := al_mem 168 (by decide +kernel) rfl
theorem k_169 : (Cond.fieldLink "GrowthGrid" 41 "GrowthGrid" "rowSearch" "LGrowthGrid$RowSearch;") ∈ AL := al_mem 169 (by decide +kernel) rfl
theorem k_170 : (Cond.fieldLink "GrowthGrid" 48 "GrowthGrid" "deeds" "LGrowthGrid$Deeds;") ∈ AL := al_mem 170 (by decide +kernel) rfl
theorem k_171 : (Cond.fieldLink "GrowthGrid" 55 "GrowthGrid" "tape" "LGrowthGrid$Tape;") ∈ AL := al_mem 171 (by decide +kernel) rfl
theorem k_172 : (Cond.fieldLink "GrowthGrid" 61 "GrowthGrid" "holders" "[LGrowthGrid$Holder;") ∈ AL := al_mem 172 (by decide +kernel) rfl
theorem k_194 : (Cond.methodLink "GrowthGridLaw" 62 ⟨"GrowthGrid", "cell", "(II)I"⟩) ∈ AL := al_mem 194 (by decide +kernel) rfl
theorem k_195 : (Cond.instanceMethod ⟨"GrowthGrid", "cell", "(II)I"⟩) ∈ AL := al_mem 195 (by decide +kernel) rfl
theorem k_196 : (Cond.selects "GrowthGrid" ⟨"GrowthGrid", "cell", "(II)I"⟩ ⟨"GrowthGrid", "cell", "(II)I"⟩) ∈ AL := al_mem 196 (by decide +kernel) rfl
theorem k_197 : (Cond.code ⟨"GrowthGrid", "cell", "(II)I"⟩ prog_1_method_4_code 3 (some .int)) ∈ AL := al_mem 197 (by decide +kernel) rfl
theorem k_198 : (Cond.methodLink "GrowthGrid" 84 ⟨"GrowthGrid$Cells", "hasCell", "(II)Z"⟩) ∈ AL := al_mem 198 (by decide +kernel) rfl
theorem k_199 : (Cond.instanceMethod ⟨"GrowthGrid$Cells", "hasCell", "(II)Z"⟩) ∈ AL := al_mem 199 (by decide +kernel) rfl
theorem k_200 : (Cond.selects "GrowthGrid$Cells" ⟨"GrowthGrid$Cells", "hasCell", "(II)Z"⟩ ⟨"GrowthGrid$Cells", "hasCell", "(II)Z"⟩) ∈ AL := al_mem 200 (by decide +kernel) rfl
theorem k_201 : (Cond.code ⟨"GrowthGrid$Cells", "hasCell", "(II)Z"⟩ prog_2_method_2_code 3 (some .boolean)) ∈ AL := al_mem 201 (by decide +kernel) rfl
theorem k_202 : (Cond.methodLink "GrowthGrid" 91 ⟨"GrowthGrid$Cells", "numberAt", "(II)I"⟩) ∈ AL := al_mem 202 (by decide +kernel) rfl
theorem k_203 : (Cond.instanceMethod ⟨"GrowthGrid$Cells", "numberAt", "(II)I"⟩) ∈ AL := al_mem 203 (by decide +kernel) rfl
theorem k_204 : (Cond.selects "GrowthGrid$Cells" ⟨"GrowthGrid$Cells", "numberAt", "(II)I"⟩ ⟨"GrowthGrid$Cells", "numberAt", "(II)I"⟩) ∈ AL := al_mem 204 (by decide +kernel) rfl
theorem k_205 : (Cond.code ⟨"GrowthGrid$Cells", "numberAt", "(II)I"⟩ prog_2_method_4_code 3 (some .int)) ∈ AL := al_mem 205 (by decide +kernel) rfl
theorem k_206 : (Cond.methodLink "GrowthGrid$Cells" 25 ⟨"GrowthGrid$Cells", "hasCell", "(II)Z"⟩) ∈ AL := al_mem 206 (by decide +kernel) rfl
theorem k_207 : (Cond.methodLink "GrowthGrid$Cells" 29 ⟨"GrowthGrid$Cells", "placeOf", "(II)I"⟩) ∈ AL := al_mem 207 (by decide +kernel) rfl
theorem k_208 : (Cond.static ⟨"GrowthGrid$Cells", "placeOf", "(II)I"⟩) ∈ AL := al_mem 208 (by decide +kernel) rfl
theorem k_209 : (Cond.code ⟨"GrowthGrid$Cells", "placeOf", "(II)I"⟩ prog_2_method_6_code 2 (some .int)) ∈ AL := al_mem 209 (by decide +kernel) rfl
theorem k_210 : (Cond.methodLink "GrowthGridLaw" 27 ⟨"GrowthGrid", "rule", "(I)I"⟩) ∈ AL := al_mem 210 (by decide +kernel) rfl
theorem k_211 : (Cond.instanceMethod ⟨"GrowthGrid", "rule", "(I)I"⟩) ∈ AL := al_mem 211 (by decide +kernel) rfl
theorem k_212 : (Cond.selects "GrowthGrid" ⟨"GrowthGrid", "rule", "(I)I"⟩ ⟨"GrowthGrid", "rule", "(I)I"⟩) ∈ AL := al_mem 212 (by decide +kernel) rfl
theorem k_213 : (Cond.code ⟨"GrowthGrid", "rule", "(I)I"⟩ prog_1_method_5_code 3 (some .int)) ∈ AL := al_mem 213 (by decide +kernel) rfl
theorem k_214 : (Cond.methodLink "GrowthGrid" 99 ⟨"GrowthGrid", "isRule", "(I)Z"⟩) ∈ AL := al_mem 214 (by decide +kernel) rfl
theorem k_215 : (Cond.static ⟨"GrowthGrid", "isRule", "(I)Z"⟩) ∈ AL := al_mem 215 (by decide +kernel) rfl
theorem k_216 : (Cond.code ⟨"GrowthGrid", "isRule", "(I)Z"⟩ prog_1_method_40_code 1 (some .boolean)) ∈ AL := al_mem 216 (by decide +kernel) rfl
theorem k_217 : (Cond.methodLink "GrowthGrid" 77 ⟨"GrowthGrid", "beginDeed", "()V"⟩) ∈ AL := al_mem 217 (by decide +kernel) rfl
theorem k_219 : (Cond.instanceMethod ⟨"GrowthGrid", "beginDeed", "()V"⟩) ∈ AL := al_mem 219 (by decide +kernel) rfl
theorem k_220 : (Cond.code ⟨"GrowthGrid", "beginDeed", "()V"⟩ prog_1_method_43_code 1 none) ∈ AL := al_mem 220 (by decide +kernel) rfl
theorem k_221 : (Cond.methodLink "GrowthGrid" 258 ⟨"GrowthGrid$Deeds", "remember", "(LGrowthGrid$Cells;)V"⟩) ∈ AL := al_mem 221 (by decide +kernel) rfl
theorem k_222 : (Cond.instanceMethod ⟨"GrowthGrid$Deeds", "remember", "(LGrowthGrid$Cells;)V"⟩) ∈ AL := al_mem 222 (by decide +kernel) rfl
theorem k_223 : (Cond.selects "GrowthGrid$Deeds" ⟨"GrowthGrid$Deeds", "remember", "(LGrowthGrid$Cells;)V"⟩ ⟨"GrowthGrid$Deeds", "remember", "(LGrowthGrid$Cells;)V"⟩) ∈ AL := al_mem 223 (by decide +kernel) rfl
theorem k_224 : (Cond.code ⟨"GrowthGrid$Deeds", "remember", "(LGrowthGrid$Cells;)V"⟩ prog_4_method_5_code 2 none) ∈ AL := al_mem 224 (by decide +kernel) rfl
theorem k_225 : (Cond.methodLink "GrowthGrid$Deeds" 25 ⟨"GrowthGrid$Deeds", "forgetOldest", "()V"⟩) ∈ AL := al_mem 225 (by decide +kernel) rfl
theorem k_227 : (Cond.instanceMethod ⟨"GrowthGrid$Deeds", "forgetOldest", "()V"⟩) ∈ AL := al_mem 227 (by decide +kernel) rfl
theorem k_228 : (Cond.code ⟨"GrowthGrid$Deeds", "forgetOldest", "()V"⟩ prog_4_method_6_code 3 none) ∈ AL := al_mem 228 (by decide +kernel) rfl
theorem k_229 : (Cond.methodLink "GrowthGrid$Deeds" 28 ⟨"GrowthGrid$Cells", "copyFrom", "(LGrowthGrid$Cells;)V"⟩) ∈ AL := al_mem 229 (by decide +kernel) rfl
theorem k_230 : (Cond.instanceMethod ⟨"GrowthGrid$Cells", "copyFrom", "(LGrowthGrid$Cells;)V"⟩) ∈ AL := al_mem 230 (by decide +kernel) rfl
theorem k_231 : (Cond.selects "GrowthGrid$Cells" ⟨"GrowthGrid$Cells", "copyFrom", "(LGrowthGrid$Cells;)V"⟩ ⟨"GrowthGrid$Cells", "copyFrom", "(LGrowthGrid$Cells;)V"⟩) ∈ AL := al_mem 231 (by decide +kernel) rfl
theorem k_232 : (Cond.code ⟨"GrowthGrid$Cells", "copyFrom", "(LGrowthGrid$Cells;)V"⟩ prog_2_method_9_code 3 none) ∈ AL := al_mem 232 (by decide +kernel) rfl
theorem k_233 : (Cond.methodLink "GrowthGridLaw" 38 ⟨"GrowthGrid", "spelled", "()I"⟩) ∈ AL := al_mem 233 (by decide +kernel) rfl
theorem k_234 : (Cond.instanceMethod ⟨"GrowthGrid", "spelled", "()I"⟩) ∈ AL := al_mem 234 (by decide +kernel) rfl
theorem k_235 : (Cond.selects "GrowthGrid" ⟨"GrowthGrid", "spelled", "()I"⟩ ⟨"GrowthGrid", "spelled", "()I"⟩) ∈ AL := al_mem 235 (by decide +kernel) rfl
theorem k_236 : (Cond.code ⟨"GrowthGrid", "spelled", "()I"⟩ prog_1_method_7_code 1 (some .int)) ∈ AL := al_mem 236 (by decide +kernel) rfl
theorem k_237 : (Cond.methodLink "GrowthGrid" 116 ⟨"GrowthGrid$Cells", "spelling", "()I"⟩) ∈ AL := al_mem 237 (by decide +kernel) rfl
theorem k_238 : (Cond.instanceMethod ⟨"GrowthGrid$Cells", "spelling", "()I"⟩) ∈ AL := al_mem 238 (by decide +kernel) rfl
theorem k_239 : (Cond.selects "GrowthGrid$Cells" ⟨"GrowthGrid$Cells", "spelling", "()I"⟩ ⟨"GrowthGrid$Cells", "spelling", "()I"⟩) ∈ AL := al_mem 239 (by decide +kernel) rfl
theorem k_240 : (Cond.code ⟨"GrowthGrid$Cells", "spelling", "()I"⟩ prog_2_method_15_code 6 (some .int)) ∈ AL := al_mem 240 (by decide +kernel) rfl
theorem k_241 : (Cond.methodLink "GrowthGrid$Cells" 33 ⟨"GrowthGrid$Cells", "numberAt", "(II)I"⟩) ∈ AL := al_mem 241 (by decide +kernel) rfl
theorem k_242 : (Cond.methodLink "GrowthGridLaw" 69 ⟨"GrowthGrid", "part", "(III)I"⟩) ∈ AL := al_mem 242 (by decide +kernel) rfl
theorem k_243 : (Cond.instanceMethod ⟨"GrowthGrid", "part", "(III)I"⟩) ∈ AL := al_mem 243 (by decide +kernel) rfl
theorem k_244 : (Cond.selects "GrowthGrid" ⟨"GrowthGrid", "part", "(III)I"⟩ ⟨"GrowthGrid", "part", "(III)I"⟩) ∈ AL := al_mem 244 (by decide +kernel) rfl
theorem k_245 : (Cond.code ⟨"GrowthGrid", "part", "(III)I"⟩ prog_1_method_9_code 4 (some .int)) ∈ AL := al_mem 245 (by decide +kernel) rfl
theorem k_246 : (Cond.methodLink "GrowthGrid" 123 ⟨"GrowthGrid$Cells", "hasCorner", "(II)Z"⟩) ∈ AL := al_mem 246 (by decide +kernel) rfl
theorem k_247 : (Cond.instanceMethod ⟨"GrowthGrid$Cells", "hasCorner", "(II)Z"⟩) ∈ AL := al_mem 247 (by decide +kernel) rfl
theorem k_248 : (Cond.selects "GrowthGrid$Cells" ⟨"GrowthGrid$Cells", "hasCorner", "(II)Z"⟩ ⟨"GrowthGrid$Cells", "hasCorner", "(II)Z"⟩) ∈ AL := al_mem 248 (by decide +kernel) rfl
theorem k_249 : (Cond.code ⟨"GrowthGrid$Cells", "hasCorner", "(II)Z"⟩ prog_2_method_3_code 3 (some .boolean)) ∈ AL := al_mem 249 (by decide +kernel) rfl
theorem k_250 : (Cond.methodLink "GrowthGrid" 126 ⟨"GrowthGrid", "isPlace", "(I)Z"⟩) ∈ AL := al_mem 250 (by decide +kernel) rfl
theorem k_251 : (Cond.static ⟨"GrowthGrid", "isPlace", "(I)Z"⟩) ∈ AL := al_mem 251 (by decide +kernel) rfl
theorem k_252 : (Cond.code ⟨"GrowthGrid", "isPlace", "(I)Z"⟩ prog_1_method_41_code 1 (some .boolean)) ∈ AL := al_mem 252 (by decide +kernel) rfl
theorem k_253 : (Cond.methodLink "GrowthGrid" 129 ⟨"GrowthGrid", "shapeAt", "(II)LGrowthGrid$Shape;"⟩) ∈ AL := al_mem 253 (by decide +kernel) rfl
theorem k_255 : (Cond.instanceMethod ⟨"GrowthGrid", "shapeAt", "(II)LGrowthGrid$Shape;"⟩) ∈ AL := al_mem 255 (by decide +kernel) rfl
theorem k_256 : (Cond.code ⟨"GrowthGrid", "shapeAt", "(II)LGrowthGrid$Shape;"⟩ prog_1_method_45_code 3 (some (.object "GrowthGrid$Shape"))) ∈ AL := al_mem 256 (by decide +kernel) rfl
theorem k_257 : (Cond.methodLink "GrowthGrid" 162 ⟨"GrowthGrid", "grownCorners", "()LGrowthGrid$Corners;"⟩) ∈ AL := al_mem 257 (by decide +kernel) rfl
theorem k_259 : (Cond.instanceMethod ⟨"GrowthGrid", "grownCorners", "()LGrowthGrid$Corners;"⟩) ∈ AL := al_mem 259 (by decide +kernel) rfl
theorem k_260 : (Cond.code ⟨"GrowthGrid", "grownCorners", "()LGrowthGrid$Corners;"⟩ prog_1_method_44_code 1 (some (.object "GrowthGrid$Corners"))) ∈ AL := al_mem 260 (by decide +kernel) rfl
theorem k_261 : (Cond.methodLink "GrowthGrid" 261 ⟨"GrowthGrid$Corners", "growOver", "(LGrowthGrid$Cells;)V"⟩) ∈ AL := al_mem 261 (by decide +kernel) rfl
theorem k_262 : (Cond.instanceMethod ⟨"GrowthGrid$Corners", "growOver", "(LGrowthGrid$Cells;)V"⟩) ∈ AL := al_mem 262 (by decide +kernel) rfl
theorem k_263 : (Cond.selects "GrowthGrid$Corners" ⟨"GrowthGrid$Corners", "growOver", "(LGrowthGrid$Cells;)V"⟩ ⟨"GrowthGrid$Corners", "growOver", "(LGrowthGrid$Cells;)V"⟩) ∈ AL := al_mem 263 (by decide +kernel) rfl
theorem k_264 : (Cond.code ⟨"GrowthGrid$Corners", "growOver", "(LGrowthGrid$Cells;)V"⟩ prog_3_method_3_code 4 none) ∈ AL := al_mem 264 (by decide +kernel) rfl
theorem k_265 : (Cond.methodLink "GrowthGrid$Corners" 40 ⟨"GrowthGrid$Corners", "at", "(II)LGrowthGrid$Shape;"⟩) ∈ AL := al_mem 265 (by decide +kernel) rfl
theorem k_266 : (Cond.instanceMethod ⟨"GrowthGrid$Corners", "at", "(II)LGrowthGrid$Shape;"⟩) ∈ AL := al_mem 266 (by decide +kernel) rfl
theorem k_267 : (Cond.selects "GrowthGrid$Corners" ⟨"GrowthGrid$Corners", "at", "(II)LGrowthGrid$Shape;"⟩ ⟨"GrowthGrid$Corners", "at", "(II)LGrowthGrid$Shape;"⟩) ∈ AL := al_mem 267 (by decide +kernel) rfl
theorem k_268 : (Cond.code ⟨"GrowthGrid$Corners", "at", "(II)LGrowthGrid$Shape;"⟩ prog_3_method_2_code 3 (some (.object "GrowthGrid$Shape"))) ∈ AL := al_mem 268 (by decide +kernel) rfl
theorem k_269 : (Cond.methodLink "GrowthGrid$Corners" 44 ⟨"GrowthGrid$Shape", "makeEmpty", "()V"⟩) ∈ AL := al_mem 269 (by decide +kernel) rfl
theorem k_270 : (Cond.instanceMethod ⟨"GrowthGrid$Shape", "makeEmpty", "()V"⟩) ∈ AL := al_mem 270 (by decide +kernel) rfl
theorem k_271 : (Cond.selects "GrowthGrid$Shape" ⟨"GrowthGrid$Shape", "makeEmpty", "()V"⟩ ⟨"GrowthGrid$Shape", "makeEmpty", "()V"⟩) ∈ AL := al_mem 271 (by decide +kernel) rfl
theorem k_272 : (Cond.code ⟨"GrowthGrid$Shape", "makeEmpty", "()V"⟩ prog_7_method_4_code 1 none) ∈ AL := al_mem 272 (by decide +kernel) rfl
theorem k_273 : (Cond.methodLink "GrowthGrid$Corners" 47 ⟨"GrowthGrid$Cells", "worthAt", "(II)I"⟩) ∈ AL := al_mem 273 (by decide +kernel) rfl
theorem k_274 : (Cond.instanceMethod ⟨"GrowthGrid$Cells", "worthAt", "(II)I"⟩) ∈ AL := al_mem 274 (by decide +kernel) rfl
theorem k_275 : (Cond.selects "GrowthGrid$Cells" ⟨"GrowthGrid$Cells", "worthAt", "(II)I"⟩ ⟨"GrowthGrid$Cells", "worthAt", "(II)I"⟩) ∈ AL := al_mem 275 (by decide +kernel) rfl
theorem k_276 : (Cond.code ⟨"GrowthGrid$Cells", "worthAt", "(II)I"⟩ prog_2_method_7_code 4 (some .int)) ∈ AL := al_mem 276 (by decide +kernel) rfl
theorem k_277 : (Cond.methodLink "GrowthGrid$Cells" 36 ⟨"java/lang/Math", "min", "(II)I"⟩) ∈ AL := al_mem 277 (by decide +kernel) rfl
theorem k_278 : (Cond.static ⟨"java/lang/Math", "min", "(II)I"⟩) ∈ AL := al_mem 278 (by decide +kernel) rfl
theorem k_279 : (Cond.code ⟨"java/lang/Math", "min", "(II)I"⟩ prog_11_method_69_code 2 (some .int)) ∈ AL := al_mem 279 (by decide +kernel) rfl
theorem k_280 : (Cond.methodLink "GrowthGrid$Corners" 54 ⟨"GrowthGrid$Shape", "growFrom", "(LGrowthGrid$Shape;LGrowthGrid$Shape;LGrowthGrid$Shape;II)V"⟩) ∈ AL := al_mem 280 (by decide +kernel) rfl
theorem k_281 : (Cond.instanceMethod ⟨"GrowthGrid$Shape", "growFrom", "(LGrowthGrid$Shape;LGrowthGrid$Shape;LGrowthGrid$Shape;II)V"⟩) ∈ AL := al_mem 281 (by decide +kernel) rfl
theorem k_282 : (Cond.selects "GrowthGrid$Shape" ⟨"GrowthGrid$Shape", "growFrom", "(LGrowthGrid$Shape;LGrowthGrid$Shape;LGrowthGrid$Shape;II)V"⟩ ⟨"GrowthGrid$Shape", "growFrom", "(LGrowthGrid$Shape;LGrowthGrid$Shape;LGrowthGrid$Shape;II)V"⟩) ∈ AL := al_mem 282 (by decide +kernel) rfl
theorem k_283 : (Cond.code ⟨"GrowthGrid$Shape", "growFrom", "(LGrowthGrid$Shape;LGrowthGrid$Shape;LGrowthGrid$Shape;II)V"⟩ prog_7_method_6_code 12 none) ∈ AL := al_mem 283 (by decide +kernel) rfl
theorem k_284 : (Cond.methodLink "GrowthGrid$Shape" 22 ⟨"GrowthGrid$Shape", "makeEmpty", "()V"⟩) ∈ AL := al_mem 284 (by decide +kernel) rfl
theorem k_285 : (Cond.methodLink "GrowthGrid$Shape" 25 ⟨"GrowthGrid$Shape", "partAt", "(I)I"⟩) ∈ AL := al_mem 285 (by decide +kernel) rfl
theorem k_286 : (Cond.instanceMethod ⟨"GrowthGrid$Shape", "partAt", "(I)I"⟩) ∈ AL := al_mem 286 (by decide +kernel) rfl
theorem k_287 : (Cond.selects "GrowthGrid$Shape" ⟨"GrowthGrid$Shape", "partAt", "(I)I"⟩ ⟨"GrowthGrid$Shape", "partAt", "(I)I"⟩) ∈ AL := al_mem 287 (by decide +kernel) rfl
theorem k_288 : (Cond.code ⟨"GrowthGrid$Shape", "partAt", "(I)I"⟩ prog_7_method_2_code 2 (some .int)) ∈ AL := al_mem 288 (by decide +kernel) rfl
theorem k_289 : (Cond.methodLink "GrowthGrid$Shape" 29 ⟨"GrowthGrid$Shape", "grownPart", "(IIIII)I"⟩) ∈ AL := al_mem 289 (by decide +kernel) rfl
theorem k_290 : (Cond.static ⟨"GrowthGrid$Shape", "grownPart", "(IIIII)I"⟩) ∈ AL := al_mem 290 (by decide +kernel) rfl
theorem k_291 : (Cond.code ⟨"GrowthGrid$Shape", "grownPart", "(IIIII)I"⟩ prog_7_method_7_code 5 (some .int)) ∈ AL := al_mem 291 (by decide +kernel) rfl
theorem k_292 : (Cond.methodLink "GrowthGrid$Shape" 33 ⟨"java/lang/Math", "max", "(II)I"⟩) ∈ AL := al_mem 292 (by decide +kernel) rfl
theorem k_293 : (Cond.static ⟨"java/lang/Math", "max", "(II)I"⟩) ∈ AL := al_mem 293 (by decide +kernel) rfl
theorem k_294 : (Cond.code ⟨"java/lang/Math", "max", "(II)I"⟩ prog_11_method_65_code 2 (some .int)) ∈ AL := al_mem 294 (by decide +kernel) rfl
theorem k_295 : (Cond.methodLink "GrowthGrid$Shape" 39 ⟨"java/lang/Math", "min", "(II)I"⟩) ∈ AL := al_mem 295 (by decide +kernel) rfl
theorem k_296 : (Cond.methodLink "GrowthGrid" 264 ⟨"GrowthGrid$Corners", "at", "(II)LGrowthGrid$Shape;"⟩) ∈ AL := al_mem 296 (by decide +kernel) rfl
theorem k_297 : (Cond.methodLink "GrowthGrid" 133 ⟨"GrowthGrid$Shape", "partAt", "(I)I"⟩) ∈ AL := al_mem 297 (by decide +kernel) rfl
theorem k_298 : (Cond.methodLink "GrowthGridLaw" 35 ⟨"GrowthGrid", "shape", "(III)I"⟩) ∈ AL := al_mem 298 (by decide +kernel) rfl
theorem k_299 : (Cond.instanceMethod ⟨"GrowthGrid", "shape", "(III)I"⟩) ∈ AL := al_mem 299 (by decide +kernel) rfl
theorem k_300 : (Cond.selects "GrowthGrid" ⟨"GrowthGrid", "shape", "(III)I"⟩ ⟨"GrowthGrid", "shape", "(III)I"⟩) ∈ AL := al_mem 300 (by decide +kernel) rfl
theorem k_301 : (Cond.code ⟨"GrowthGrid", "shape", "(III)I"⟩ prog_1_method_10_code 5 (some .int)) ∈ AL := al_mem 301 (by decide +kernel) rfl
theorem k_302 : (Cond.methodLink "GrowthGridLaw" 72 ⟨"GrowthGrid", "turned", "(III)I"⟩) ∈ AL := al_mem 302 (by decide +kernel) rfl
theorem k_303 : (Cond.instanceMethod ⟨"GrowthGrid", "turned", "(III)I"⟩) ∈ AL := al_mem 303 (by decide +kernel) rfl
theorem k_304 : (Cond.selects "GrowthGrid" ⟨"GrowthGrid", "turned", "(III)I"⟩ ⟨"GrowthGrid", "turned", "(III)I"⟩) ∈ AL := al_mem 304 (by decide +kernel) rfl
theorem k_305 : (Cond.code ⟨"GrowthGrid", "turned", "(III)I"⟩ prog_1_method_11_code 4 (some .int)) ∈ AL := al_mem 305 (by decide +kernel) rfl
theorem k_306 : (Cond.methodLink "GrowthGrid" 145 ⟨"GrowthGrid$Shape", "partsAbove", "(I)I"⟩) ∈ AL := al_mem 306 (by decide +kernel) rfl
theorem k_307 : (Cond.instanceMethod ⟨"GrowthGrid$Shape", "partsAbove", "(I)I"⟩) ∈ AL := al_mem 307 (by decide +kernel) rfl
theorem k_308 : (Cond.selects "GrowthGrid$Shape" ⟨"GrowthGrid$Shape", "partsAbove", "(I)I"⟩ ⟨"GrowthGrid$Shape", "partsAbove", "(I)I"⟩) ∈ AL := al_mem 308 (by decide +kernel) rfl
theorem k_309 : (Cond.code ⟨"GrowthGrid$Shape", "partsAbove", "(I)I"⟩ prog_7_method_3_code 4 (some .int)) ∈ AL := al_mem 309 (by decide +kernel) rfl
theorem k_310 : (Cond.methodLink "GrowthGridLaw" 45 ⟨"GrowthGrid", "standard", "(II)J"⟩) ∈ AL := al_mem 310 (by decide +kernel) rfl
theorem k_311 : (Cond.instanceMethod ⟨"GrowthGrid", "standard", "(II)J"⟩) ∈ AL := al_mem 311 (by decide +kernel) rfl
theorem k_312 : (Cond.selects "GrowthGrid" ⟨"GrowthGrid", "standard", "(II)J"⟩ ⟨"GrowthGrid", "standard", "(II)J"⟩) ∈ AL := al_mem 312 (by decide +kernel) rfl
theorem k_313 : (Cond.code ⟨"GrowthGrid", "standard", "(II)J"⟩ prog_1_method_12_code 4 (some .long)) ∈ AL := al_mem 313 (by decide +kernel) rfl
theorem k_314 : (Cond.constantLong "GrowthGrid" 148 (-9223372036854775808)) ∈ AL := al_mem 314 (by decide +kernel) rfl
theorem k_315 : (Cond.methodLink "GrowthGrid" 150 ⟨"GrowthGrid$Shape", "standardFillings", "()J"⟩) ∈ AL := al_mem 315 (by decide +kernel) rfl
theorem k_316 : (Cond.instanceMethod ⟨"GrowthGrid$Shape", "standardFillings", "()J"⟩) ∈ AL := al_mem 316 (by decide +kernel) rfl
theorem k_317 : (Cond.selects "GrowthGrid$Shape" ⟨"GrowthGrid$Shape", "standardFillings", "()J"⟩ ⟨"GrowthGrid$Shape", "standardFillings", "()J"⟩) ∈ AL := al_mem 317 (by decide +kernel) rfl
theorem k_318 : (Cond.code ⟨"GrowthGrid$Shape", "standardFillings", "()J"⟩ prog_7_method_13_code 7 (some .long)) ∈ AL := al_mem 318 (by decide +kernel) rfl
theorem k_319 : (Cond.methodLink "GrowthGrid$Shape" 52 ⟨"GrowthGrid$Shape", "partsAbove", "(I)I"⟩) ∈ AL := al_mem 319 (by decide +kernel) rfl
theorem k_320 : (Cond.constantLong "GrowthGrid$Shape" 55 (-9223372036854775808)) ∈ AL := al_mem 320 (by decide +kernel) rfl
theorem k_321 : (Cond.methodLink "GrowthGridLaw" 49 ⟨"GrowthGrid", "product", "(II)I"⟩) ∈ AL := al_mem 321 (by decide +kernel) rfl
theorem k_322 : (Cond.instanceMethod ⟨"GrowthGrid", "product", "(II)I"⟩) ∈ AL := al_mem 322 (by decide +kernel) rfl
theorem k_323 : (Cond.selects "GrowthGrid" ⟨"GrowthGrid", "product", "(II)I"⟩ ⟨"GrowthGrid", "product", "(II)I"⟩) ∈ AL := al_mem 323 (by decide +kernel) rfl
theorem k_324 : (Cond.code ⟨"GrowthGrid", "product", "(II)I"⟩ prog_1_method_13_code 3 (some .int)) ∈ AL := al_mem 324 (by decide +kernel) rfl
theorem k_325 : (Cond.methodLink "GrowthGrid" 154 ⟨"GrowthGrid$Shape", "productOrWide", "()I"⟩) ∈ AL := al_mem 325 (by decide +kernel) rfl
theorem k_326 : (Cond.instanceMethod ⟨"GrowthGrid$Shape", "productOrWide", "()I"⟩) ∈ AL := al_mem 326 (by decide +kernel) rfl
theorem k_327 : (Cond.selects "GrowthGrid$Shape" ⟨"GrowthGrid$Shape", "productOrWide", "()I"⟩ ⟨"GrowthGrid$Shape", "productOrWide", "()I"⟩) ∈ AL := al_mem 327 (by decide +kernel) rfl
theorem k_328 : (Cond.code ⟨"GrowthGrid$Shape", "productOrWide", "()I"⟩ prog_7_method_14_code 4 (some .int)) ∈ AL := al_mem 328 (by decide +kernel) rfl
theorem k_329 : (Cond.constantLong "GrowthGrid$Shape" 57 2147483647) ∈ AL := al_mem 329 (by decide +kernel) rfl
theorem k_330 : (Cond.methodLink "GrowthGridLaw" 42 ⟨"GrowthGrid", "fits", "(I)I"⟩) ∈ AL := al_mem 330 (by decide +kernel) rfl
theorem k_331 : (Cond.instanceMethod ⟨"GrowthGrid", "fits", "(I)I"⟩) ∈ AL := al_mem 331 (by decide +kernel) rfl
theorem k_332 : (Cond.selects "GrowthGrid" ⟨"GrowthGrid", "fits", "(I)I"⟩ ⟨"GrowthGrid", "fits", "(I)I"⟩) ∈ AL := al_mem 332 (by decide +kernel) rfl
theorem k_333 : (Cond.code ⟨"GrowthGrid", "fits", "(I)I"⟩ prog_1_method_16_code 2 (some .int)) ∈ AL := al_mem 333 (by decide +kernel) rfl
theorem k_334 : (Cond.methodLink "GrowthGrid" 166 ⟨"GrowthGrid$Corners", "rimFits", "(I)Z"⟩) ∈ AL := al_mem 334 (by decide +kernel) rfl
theorem k_335 : (Cond.instanceMethod ⟨"GrowthGrid$Corners", "rimFits", "(I)Z"⟩) ∈ AL := al_mem 335 (by decide +kernel) rfl
theorem k_336 : (Cond.selects "GrowthGrid$Corners" ⟨"GrowthGrid$Corners", "rimFits", "(I)Z"⟩ ⟨"GrowthGrid$Corners", "rimFits", "(I)Z"⟩) ∈ AL := al_mem 336 (by decide +kernel) rfl
theorem k_337 : (Cond.code ⟨"GrowthGrid$Corners", "rimFits", "(I)Z"⟩ prog_3_method_5_code 5 (some .boolean)) ∈ AL := al_mem 337 (by decide +kernel) rfl
theorem k_338 : (Cond.methodLink "GrowthGrid$Corners" 71 ⟨"GrowthGrid$Shape", "goesOnFrom", "(LGrowthGrid$Shape;Z)Z"⟩) ∈ AL := al_mem 338 (by decide +kernel) rfl
theorem k_339 : (Cond.instanceMethod ⟨"GrowthGrid$Shape", "goesOnFrom", "(LGrowthGrid$Shape;Z)Z"⟩) ∈ AL := al_mem 339 (by decide +kernel) rfl
theorem k_340 : (Cond.selects "GrowthGrid$Shape" ⟨"GrowthGrid$Shape", "goesOnFrom", "(LGrowthGrid$Shape;Z)Z"⟩ ⟨"GrowthGrid$Shape", "goesOnFrom", "(LGrowthGrid$Shape;Z)Z"⟩) ∈ AL := al_mem 340 (by decide +kernel) rfl
theorem k_341 : (Cond.code ⟨"GrowthGrid$Shape", "goesOnFrom", "(LGrowthGrid$Shape;Z)Z"⟩ prog_7_method_10_code 3 (some .boolean)) ∈ AL := al_mem 341 (by decide +kernel) rfl
theorem k_342 : (Cond.methodLink "GrowthGrid$Shape" 45 ⟨"GrowthGrid$Shape", "goesOnUpright", "(LGrowthGrid$Shape;)Z"⟩) ∈ AL := al_mem 342 (by decide +kernel) rfl
theorem k_344 : (Cond.instanceMethod ⟨"GrowthGrid$Shape", "goesOnUpright", "(LGrowthGrid$Shape;)Z"⟩) ∈ AL := al_mem 344 (by decide +kernel) rfl
theorem k_345 : (Cond.code ⟨"GrowthGrid$Shape", "goesOnUpright", "(LGrowthGrid$Shape;)Z"⟩ prog_7_method_12_code 5 (some .boolean)) ∈ AL := al_mem 345 (by decide +kernel) rfl
theorem k_346 : (Cond.methodLink "GrowthGrid$Shape" 49 ⟨"GrowthGrid$Shape", "goesOnLevel", "(LGrowthGrid$Shape;)Z"⟩) ∈ AL := al_mem 346 (by decide +kernel) rfl
theorem k_348 : (Cond.instanceMethod ⟨"GrowthGrid$Shape", "goesOnLevel", "(LGrowthGrid$Shape;)Z"⟩) ∈ AL := al_mem 348 (by decide +kernel) rfl
theorem k_349 : (Cond.code ⟨"GrowthGrid$Shape", "goesOnLevel", "(LGrowthGrid$Shape;)Z"⟩ prog_7_method_11_code 5 (some .boolean)) ∈ AL := al_mem 349 (by decide +kernel) rfl
theorem k_350 : (Cond.methodLink "GrowthGridLaw" 78 ⟨"GrowthGrid", "back", "(I)I"⟩) ∈ AL := al_mem 350 (by decide +kernel) rfl
theorem k_351 : (Cond.instanceMethod ⟨"GrowthGrid", "back", "(I)I"⟩) ∈ AL := al_mem 351 (by decide +kernel) rfl
theorem k_352 : (Cond.selects "GrowthGrid" ⟨"GrowthGrid", "back", "(I)I"⟩ ⟨"GrowthGrid", "back", "(I)I"⟩) ∈ AL := al_mem 352 (by decide +kernel) rfl
theorem k_353 : (Cond.code ⟨"GrowthGrid", "back", "(I)I"⟩ prog_1_method_17_code 3 (some .int)) ∈ AL := al_mem 353 (by decide +kernel) rfl
theorem k_354 : (Cond.methodLink "GrowthGrid" 119 ⟨"GrowthGrid$Cells", "copyFrom", "(LGrowthGrid$Cells;)V"⟩) ∈ AL := al_mem 354 (by decide +kernel) rfl
theorem k_355 : (Cond.methodLink "GrowthGrid" 169 ⟨"GrowthGrid$Corners", "goBackInto", "(LGrowthGrid$Cells;)I"⟩) ∈ AL := al_mem 355 (by decide +kernel) rfl
theorem k_356 : (Cond.instanceMethod ⟨"GrowthGrid$Corners", "goBackInto", "(LGrowthGrid$Cells;)I"⟩) ∈ AL := al_mem 356 (by decide +kernel) rfl
theorem k_357 : (Cond.selects "GrowthGrid$Corners" ⟨"GrowthGrid$Corners", "goBackInto", "(LGrowthGrid$Cells;)I"⟩ ⟨"GrowthGrid$Corners", "goBackInto", "(LGrowthGrid$Cells;)I"⟩) ∈ AL := al_mem 357 (by decide +kernel) rfl
theorem k_358 : (Cond.code ⟨"GrowthGrid$Corners", "goBackInto", "(LGrowthGrid$Cells;)I"⟩ prog_3_method_4_code 6 (some .int)) ∈ AL := al_mem 358 (by decide +kernel) rfl
theorem k_359 : (Cond.methodLink "GrowthGrid$Corners" 58 ⟨"GrowthGrid$Shape", "goBackFrom", "(LGrowthGrid$Shape;LGrowthGrid$Shape;LGrowthGrid$Shape;I)I"⟩) ∈ AL := al_mem 359 (by decide +kernel) rfl
theorem k_360 : (Cond.instanceMethod ⟨"GrowthGrid$Shape", "goBackFrom", "(LGrowthGrid$Shape;LGrowthGrid$Shape;LGrowthGrid$Shape;I)I"⟩) ∈ AL := al_mem 360 (by decide +kernel) rfl
theorem k_361 : (Cond.selects "GrowthGrid$Shape" ⟨"GrowthGrid$Shape", "goBackFrom", "(LGrowthGrid$Shape;LGrowthGrid$Shape;LGrowthGrid$Shape;I)I"⟩ ⟨"GrowthGrid$Shape", "goBackFrom", "(LGrowthGrid$Shape;LGrowthGrid$Shape;LGrowthGrid$Shape;I)I"⟩) ∈ AL := al_mem 361 (by decide +kernel) rfl
theorem k_362 : (Cond.code ⟨"GrowthGrid$Shape", "goBackFrom", "(LGrowthGrid$Shape;LGrowthGrid$Shape;LGrowthGrid$Shape;I)I"⟩ prog_7_method_8_code 11 (some .int)) ∈ AL := al_mem 362 (by decide +kernel) rfl
theorem k_363 : (Cond.methodLink "GrowthGrid$Shape" 42 ⟨"GrowthGrid$Shape", "formerPart", "(IIIII)I"⟩) ∈ AL := al_mem 363 (by decide +kernel) rfl
theorem k_364 : (Cond.static ⟨"GrowthGrid$Shape", "formerPart", "(IIIII)I"⟩) ∈ AL := al_mem 364 (by decide +kernel) rfl
theorem k_365 : (Cond.code ⟨"GrowthGrid$Shape", "formerPart", "(IIIII)I"⟩ prog_7_method_9_code 5 (some .int)) ∈ AL := al_mem 365 (by decide +kernel) rfl
theorem k_366 : (Cond.methodLink "GrowthGrid$Corners" 62 ⟨"GrowthGrid$Cells", "setNumber", "(III)V"⟩) ∈ AL := al_mem 366 (by decide +kernel) rfl
theorem k_367 : (Cond.instanceMethod ⟨"GrowthGrid$Cells", "setNumber", "(III)V"⟩) ∈ AL := al_mem 367 (by decide +kernel) rfl
theorem k_368 : (Cond.selects "GrowthGrid$Cells" ⟨"GrowthGrid$Cells", "setNumber", "(III)V"⟩ ⟨"GrowthGrid$Cells", "setNumber", "(III)V"⟩) ∈ AL := al_mem 368 (by decide +kernel) rfl
theorem k_369 : (Cond.code ⟨"GrowthGrid$Cells", "setNumber", "(III)V"⟩ prog_2_method_5_code 4 none) ∈ AL := al_mem 369 (by decide +kernel) rfl
theorem k_370 : (Cond.methodLink "GrowthGrid$Corners" 66 ⟨"java/lang/Math", "max", "(II)I"⟩) ∈ AL := al_mem 370 (by decide +kernel) rfl
theorem k_371 : (Cond.methodLink "GrowthGrid" 173 ⟨"GrowthGrid$Cells", "differing", "(LGrowthGrid$Cells;)I"⟩) ∈ AL := al_mem 371 (by decide +kernel) rfl
theorem k_372 : (Cond.instanceMethod ⟨"GrowthGrid$Cells", "differing", "(LGrowthGrid$Cells;)I"⟩) ∈ AL := al_mem 372 (by decide +kernel) rfl
theorem k_373 : (Cond.selects "GrowthGrid$Cells" ⟨"GrowthGrid$Cells", "differing", "(LGrowthGrid$Cells;)I"⟩ ⟨"GrowthGrid$Cells", "differing", "(LGrowthGrid$Cells;)I"⟩) ∈ AL := al_mem 373 (by decide +kernel) rfl
theorem k_374 : (Cond.code ⟨"GrowthGrid$Cells", "differing", "(LGrowthGrid$Cells;)I"⟩ prog_2_method_12_code 4 (some .int)) ∈ AL := al_mem 374 (by decide +kernel) rfl
theorem k_375 : (Cond.methodLink "GrowthGridLaw" 75 ⟨"GrowthGrid", "longest", "(II)I"⟩) ∈ AL := al_mem 375 (by decide +kernel) rfl
theorem k_376 : (Cond.instanceMethod ⟨"GrowthGrid", "longest", "(II)I"⟩) ∈ AL := al_mem 376 (by decide +kernel) rfl
theorem k_377 : (Cond.selects "GrowthGrid" ⟨"GrowthGrid", "longest", "(II)I"⟩ ⟨"GrowthGrid", "longest", "(II)I"⟩) ∈ AL := al_mem 377 (by decide +kernel) rfl
theorem k_378 : (Cond.code ⟨"GrowthGrid", "longest", "(II)I"⟩ prog_1_method_18_code 3 (some .int)) ∈ AL := al_mem 378 (by decide +kernel) rfl
theorem k_379 : (Cond.methodLink "GrowthGrid" 176 ⟨"GrowthGrid$RowSearch", "bestRow", "(LGrowthGrid$Cells;IZ)I"⟩) ∈ AL := al_mem 379 (by decide +kernel) rfl
theorem k_380 : (Cond.instanceMethod ⟨"GrowthGrid$RowSearch", "bestRow", "(LGrowthGrid$Cells;IZ)I"⟩) ∈ AL := al_mem 380 (by decide +kernel) rfl
theorem k_381 : (Cond.selects "GrowthGrid$RowSearch" ⟨"GrowthGrid$RowSearch", "bestRow", "(LGrowthGrid$Cells;IZ)I"⟩ ⟨"GrowthGrid$RowSearch", "bestRow", "(LGrowthGrid$Cells;IZ)I"⟩) ∈ AL := al_mem 381 (by decide +kernel) rfl
theorem k_382 : (Cond.code ⟨"GrowthGrid$RowSearch", "bestRow", "(LGrowthGrid$Cells;IZ)I"⟩ prog_6_method_2_code 11 (some .int)) ∈ AL := al_mem 382 (by decide +kernel) rfl
theorem k_383 : (Cond.methodLink "GrowthGrid$RowSearch" 25 ⟨"GrowthGrid$Cells", "numberAt", "(II)I"⟩) ∈ AL := al_mem 383 (by decide +kernel) rfl
theorem k_384 : (Cond.methodLink "GrowthGrid$RowSearch" 29 ⟨"java/lang/Math", "min", "(II)I"⟩) ∈ AL := al_mem 384 (by decide +kernel) rfl
theorem k_385 : (Cond.methodLink "GrowthGrid$RowSearch" 34 ⟨"java/lang/Math", "max", "(II)I"⟩) ∈ AL := al_mem 385 (by decide +kernel) rfl
theorem k_386 : (Cond.methodLink "GrowthGridLaw" 52 ⟨"GrowthGrid", "undo", "()I"⟩) ∈ AL := al_mem 386 (by decide +kernel) rfl
theorem k_387 : (Cond.instanceMethod ⟨"GrowthGrid", "undo", "()I"⟩) ∈ AL := al_mem 387 (by decide +kernel) rfl
theorem k_388 : (Cond.selects "GrowthGrid" ⟨"GrowthGrid", "undo", "()I"⟩ ⟨"GrowthGrid", "undo", "()I"⟩) ∈ AL := al_mem 388 (by decide +kernel) rfl
theorem k_389 : (Cond.code ⟨"GrowthGrid", "undo", "()I"⟩ prog_1_method_22_code 1 (some .int)) ∈ AL := al_mem 389 (by decide +kernel) rfl
theorem k_390 : (Cond.methodLink "GrowthGrid" 193 ⟨"GrowthGrid$Deeds", "undoable", "()I"⟩) ∈ AL := al_mem 390 (by decide +kernel) rfl
theorem k_391 : (Cond.instanceMethod ⟨"GrowthGrid$Deeds", "undoable", "()I"⟩) ∈ AL := al_mem 391 (by decide +kernel) rfl
theorem k_392 : (Cond.selects "GrowthGrid$Deeds" ⟨"GrowthGrid$Deeds", "undoable", "()I"⟩ ⟨"GrowthGrid$Deeds", "undoable", "()I"⟩) ∈ AL := al_mem 392 (by decide +kernel) rfl
theorem k_393 : (Cond.code ⟨"GrowthGrid$Deeds", "undoable", "()I"⟩ prog_4_method_2_code 1 (some .int)) ∈ AL := al_mem 393 (by decide +kernel) rfl
theorem k_394 : (Cond.methodLink "GrowthGrid" 196 ⟨"GrowthGrid$Deeds", "stepBack", "(LGrowthGrid$Cells;)V"⟩) ∈ AL := al_mem 394 (by decide +kernel) rfl
theorem k_395 : (Cond.instanceMethod ⟨"GrowthGrid$Deeds", "stepBack", "(LGrowthGrid$Cells;)V"⟩) ∈ AL := al_mem 395 (by decide +kernel) rfl
theorem k_396 : (Cond.selects "GrowthGrid$Deeds" ⟨"GrowthGrid$Deeds", "stepBack", "(LGrowthGrid$Cells;)V"⟩ ⟨"GrowthGrid$Deeds", "stepBack", "(LGrowthGrid$Cells;)V"⟩) ∈ AL := al_mem 396 (by decide +kernel) rfl
theorem k_397 : (Cond.code ⟨"GrowthGrid$Deeds", "stepBack", "(LGrowthGrid$Cells;)V"⟩ prog_4_method_7_code 2 none) ∈ AL := al_mem 397 (by decide +kernel) rfl
theorem k_398 : (Cond.methodLink "GrowthGridLaw" 81 ⟨"GrowthGrid", "again", "()I"⟩) ∈ AL := al_mem 398 (by decide +kernel) rfl
theorem k_399 : (Cond.instanceMethod ⟨"GrowthGrid", "again", "()I"⟩) ∈ AL := al_mem 399 (by decide +kernel) rfl
theorem k_400 : (Cond.selects "GrowthGrid" ⟨"GrowthGrid", "again", "()I"⟩ ⟨"GrowthGrid", "again", "()I"⟩) ∈ AL := al_mem 400 (by decide +kernel) rfl
theorem k_401 : (Cond.code ⟨"GrowthGrid", "again", "()I"⟩ prog_1_method_23_code 1 (some .int)) ∈ AL := al_mem 401 (by decide +kernel) rfl
theorem k_402 : (Cond.methodLink "GrowthGrid" 199 ⟨"GrowthGrid$Deeds", "redoable", "()I"⟩) ∈ AL := al_mem 402 (by decide +kernel) rfl
theorem k_403 : (Cond.instanceMethod ⟨"GrowthGrid$Deeds", "redoable", "()I"⟩) ∈ AL := al_mem 403 (by decide +kernel) rfl
theorem k_404 : (Cond.selects "GrowthGrid$Deeds" ⟨"GrowthGrid$Deeds", "redoable", "()I"⟩ ⟨"GrowthGrid$Deeds", "redoable", "()I"⟩) ∈ AL := al_mem 404 (by decide +kernel) rfl
theorem k_405 : (Cond.code ⟨"GrowthGrid$Deeds", "redoable", "()I"⟩ prog_4_method_3_code 1 (some .int)) ∈ AL := al_mem 405 (by decide +kernel) rfl
theorem k_406 : (Cond.methodLink "GrowthGrid" 202 ⟨"GrowthGrid$Deeds", "stepOn", "(LGrowthGrid$Cells;)V"⟩) ∈ AL := al_mem 406 (by decide +kernel) rfl
theorem k_407 : (Cond.instanceMethod ⟨"GrowthGrid$Deeds", "stepOn", "(LGrowthGrid$Cells;)V"⟩) ∈ AL := al_mem 407 (by decide +kernel) rfl
theorem k_408 : (Cond.selects "GrowthGrid$Deeds" ⟨"GrowthGrid$Deeds", "stepOn", "(LGrowthGrid$Cells;)V"⟩ ⟨"GrowthGrid$Deeds", "stepOn", "(LGrowthGrid$Cells;)V"⟩) ∈ AL := al_mem 408 (by decide +kernel) rfl
theorem k_409 : (Cond.code ⟨"GrowthGrid$Deeds", "stepOn", "(LGrowthGrid$Cells;)V"⟩ prog_4_method_8_code 2 none) ∈ AL := al_mem 409 (by decide +kernel) rfl
theorem k_410 : (Cond.methodLink "GrowthGridLaw" 55 ⟨"GrowthGrid", "restore", "()I"⟩) ∈ AL := al_mem 410 (by decide +kernel) rfl
theorem k_411 : (Cond.instanceMethod ⟨"GrowthGrid", "restore", "()I"⟩) ∈ AL := al_mem 411 (by decide +kernel) rfl
theorem k_412 : (Cond.selects "GrowthGrid" ⟨"GrowthGrid", "restore", "()I"⟩ ⟨"GrowthGrid", "restore", "()I"⟩) ∈ AL := al_mem 412 (by decide +kernel) rfl
theorem k_413 : (Cond.code ⟨"GrowthGrid", "restore", "()I"⟩ prog_1_method_36_code 1 (some .int)) ∈ AL := al_mem 413 (by decide +kernel) rfl
theorem k_414 : (Cond.methodLink "GrowthGrid" 252 ⟨"GrowthGrid$Deeds", "forgetAll", "()V"⟩) ∈ AL := al_mem 414 (by decide +kernel) rfl
theorem k_415 : (Cond.instanceMethod ⟨"GrowthGrid$Deeds", "forgetAll", "()V"⟩) ∈ AL := al_mem 415 (by decide +kernel) rfl
theorem k_416 : (Cond.selects "GrowthGrid$Deeds" ⟨"GrowthGrid$Deeds", "forgetAll", "()V"⟩ ⟨"GrowthGrid$Deeds", "forgetAll", "()V"⟩) ∈ AL := al_mem 416 (by decide +kernel) rfl
theorem k_417 : (Cond.code ⟨"GrowthGrid$Deeds", "forgetAll", "()V"⟩ prog_4_method_4_code 1 none) ∈ AL := al_mem 417 (by decide +kernel) rfl
theorem k_418 : (Cond.methodLink "GrowthGrid" 112 ⟨"GrowthGrid$Cells", "filled", "()I"⟩) ∈ AL := al_mem 418 (by decide +kernel) rfl
theorem k_419 : (Cond.instanceMethod ⟨"GrowthGrid$Cells", "filled", "()I"⟩) ∈ AL := al_mem 419 (by decide +kernel) rfl
theorem k_420 : (Cond.selects "GrowthGrid$Cells" ⟨"GrowthGrid$Cells", "filled", "()I"⟩ ⟨"GrowthGrid$Cells", "filled", "()I"⟩) ∈ AL := al_mem 420 (by decide +kernel) rfl
theorem k_421 : (Cond.code ⟨"GrowthGrid$Cells", "filled", "()I"⟩ prog_2_method_10_code 3 (some .int)) ∈ AL := al_mem 421 (by decide +kernel) rfl
theorem k_422 : (Cond.methodLink "GrowthGridLaw" 32 ⟨"GrowthGrid", "count", "(I)I"⟩) ∈ AL := al_mem 422 (by decide +kernel) rfl
theorem k_423 : (Cond.instanceMethod ⟨"GrowthGrid", "count", "(I)I"⟩) ∈ AL := al_mem 423 (by decide +kernel) rfl
theorem k_424 : (Cond.selects "GrowthGrid" ⟨"GrowthGrid", "count", "(I)I"⟩ ⟨"GrowthGrid", "count", "(I)I"⟩) ∈ AL := al_mem 424 (by decide +kernel) rfl
theorem k_425 : (Cond.code ⟨"GrowthGrid", "count", "(I)I"⟩ prog_1_method_37_code 2 (some .int)) ∈ AL := al_mem 425 (by decide +kernel) rfl
theorem k_426 : (Cond.methodLink "GrowthGrid" 255 ⟨"GrowthGrid$Cells", "total", "()I"⟩) ∈ AL := al_mem 426 (by decide +kernel) rfl
theorem k_427 : (Cond.instanceMethod ⟨"GrowthGrid$Cells", "total", "()I"⟩) ∈ AL := al_mem 427 (by decide +kernel) rfl
theorem k_428 : (Cond.selects "GrowthGrid$Cells" ⟨"GrowthGrid$Cells", "total", "()I"⟩ ⟨"GrowthGrid$Cells", "total", "()I"⟩) ∈ AL := al_mem 428 (by decide +kernel) rfl
theorem k_429 : (Cond.code ⟨"GrowthGrid$Cells", "total", "()I"⟩ prog_2_method_11_code 3 (some .int)) ∈ AL := al_mem 429 (by decide +kernel) rfl
theorem k_430 : (Cond.methodLink "GrowthGridLaw" 58 ⟨"GrowthGridLaw", "setUp", "(LGrowthGrid;[II)V"⟩) ∈ AL := al_mem 430 (by decide +kernel) rfl
theorem k_431 : (Cond.static ⟨"GrowthGridLaw", "setUp", "(LGrowthGrid;[II)V"⟩) ∈ AL := al_mem 431 (by decide +kernel) rfl
theorem k_432 : (Cond.code ⟨"GrowthGridLaw", "setUp", "(LGrowthGrid;[II)V"⟩ method_4_code 7 none) ∈ AL := al_mem 432 (by decide +kernel) rfl
theorem k_433 : (Cond.methodLink "GrowthGridLaw" 13 ⟨"GrowthGridLaw", "some", "([III)I"⟩) ∈ AL := al_mem 433 (by decide +kernel) rfl
theorem k_434 : (Cond.static ⟨"GrowthGridLaw", "some", "([III)I"⟩) ∈ AL := al_mem 434 (by decide +kernel) rfl
theorem k_435 : (Cond.code ⟨"GrowthGridLaw", "some", "([III)I"⟩ method_3_code 3 (some .int)) ∈ AL := al_mem 435 (by decide +kernel) rfl
theorem k_436 : (Cond.methodLink "GrowthGridLaw" 7 ⟨"GrowthGridLaw", "cell", "([II)I"⟩) ∈ AL := al_mem 436 (by decide +kernel) rfl
theorem k_437 : (Cond.static ⟨"GrowthGridLaw", "cell", "([II)I"⟩) ∈ AL := al_mem 437 (by decide +kernel) rfl
theorem k_438 : (Cond.code ⟨"GrowthGridLaw", "cell", "([II)I"⟩ method_2_code 2 (some .int)) ∈ AL := al_mem 438 (by decide +kernel) rfl
theorem k_439 : (Cond.methodLink "GrowthGridLaw" 17 ⟨"GrowthGrid", "grid", "(II)I"⟩) ∈ AL := al_mem 439 (by decide +kernel) rfl
theorem k_440 : (Cond.instanceMethod ⟨"GrowthGrid", "grid", "(II)I"⟩) ∈ AL := al_mem 440 (by decide +kernel) rfl
theorem k_441 : (Cond.selects "GrowthGrid" ⟨"GrowthGrid", "grid", "(II)I"⟩ ⟨"GrowthGrid", "grid", "(II)I"⟩) ∈ AL := al_mem 441 (by decide +kernel) rfl
theorem k_442 : (Cond.code ⟨"GrowthGrid", "grid", "(II)I"⟩ prog_1_method_2_code 4 (some .int)) ∈ AL := al_mem 442 (by decide +kernel) rfl
theorem k_443 : (Cond.methodLink "GrowthGrid" 66 ⟨"GrowthGrid", "isSide", "(I)Z"⟩) ∈ AL := al_mem 443 (by decide +kernel) rfl
theorem k_444 : (Cond.static ⟨"GrowthGrid", "isSide", "(I)Z"⟩) ∈ AL := al_mem 444 (by decide +kernel) rfl
theorem k_445 : (Cond.code ⟨"GrowthGrid", "isSide", "(I)Z"⟩ prog_1_method_38_code 1 (some .boolean)) ∈ AL := al_mem 445 (by decide +kernel) rfl
theorem k_446 : (Cond.methodLink "GrowthGrid" 80 ⟨"GrowthGrid$Cells", "clearTo", "(II)V"⟩) ∈ AL := al_mem 446 (by decide +kernel) rfl
theorem k_447 : (Cond.instanceMethod ⟨"GrowthGrid$Cells", "clearTo", "(II)V"⟩) ∈ AL := al_mem 447 (by decide +kernel) rfl
theorem k_448 : (Cond.selects "GrowthGrid$Cells" ⟨"GrowthGrid$Cells", "clearTo", "(II)V"⟩ ⟨"GrowthGrid$Cells", "clearTo", "(II)V"⟩) ∈ AL := al_mem 448 (by decide +kernel) rfl
theorem k_449 : (Cond.code ⟨"GrowthGrid$Cells", "clearTo", "(II)V"⟩ prog_2_method_8_code 4 none) ∈ AL := al_mem 449 (by decide +kernel) rfl
theorem k_450 : (Cond.methodLink "GrowthGridLaw" 23 ⟨"GrowthGrid", "put", "(III)I"⟩) ∈ AL := al_mem 450 (by decide +kernel) rfl
theorem k_451 : (Cond.instanceMethod ⟨"GrowthGrid", "put", "(III)I"⟩) ∈ AL := al_mem 451 (by decide +kernel) rfl
theorem k_452 : (Cond.selects "GrowthGrid" ⟨"GrowthGrid", "put", "(III)I"⟩ ⟨"GrowthGrid", "put", "(III)I"⟩) ∈ AL := al_mem 452 (by decide +kernel) rfl
theorem k_453 : (Cond.code ⟨"GrowthGrid", "put", "(III)I"⟩ prog_1_method_3_code 5 (some .int)) ∈ AL := al_mem 453 (by decide +kernel) rfl
theorem k_454 : (Cond.methodLink "GrowthGrid" 88 ⟨"GrowthGrid", "isNumber", "(I)Z"⟩) ∈ AL := al_mem 454 (by decide +kernel) rfl
theorem k_455 : (Cond.static ⟨"GrowthGrid", "isNumber", "(I)Z"⟩) ∈ AL := al_mem 455 (by decide +kernel) rfl
theorem k_456 : (Cond.code ⟨"GrowthGrid", "isNumber", "(I)Z"⟩ prog_1_method_39_code 1 (some .boolean)) ∈ AL := al_mem 456 (by decide +kernel) rfl
theorem k_457 : (Cond.methodLink "GrowthGrid" 95 ⟨"GrowthGrid$Cells", "setNumber", "(III)V"⟩) ∈ AL := al_mem 457 (by decide +kernel) rfl
theorem k_458 : (Cond.methodLink "GrowthGridLaw" 64 ⟨"java/lang/Math", "min", "(II)I"⟩) ∈ AL := al_mem 458 (by decide +kernel) rfl
theorem inX0 : ∀ w ∈ u_ws "GrowthGrid$Cells" TX0 4, w ∈ AL := by decide +kernel
theorem inX1 : ∀ w ∈ u_ws "GrowthGrid$Corners" TX1 6, w ∈ AL := by decide +kernel
theorem inX2 : ∀ w ∈ u_ws "GrowthGrid$Deeds" TX2 3, w ∈ AL := by decide +kernel
theorem inX3 : ∀ w ∈ u_ws "GrowthGrid$Holder" TX3 4, w ∈ AL := by decide +kernel
theorem inX4 : ∀ w ∈ u_ws "GrowthGrid$RowSearch" TX4 1, w ∈ AL := by decide +kernel
theorem inX5 : ∀ w ∈ u_ws "GrowthGrid$Shape" TX5 3, w ∈ AL := by decide +kernel
theorem inX6 : ∀ w ∈ u_ws "GrowthGrid$Tape" TX6 2, w ∈ AL := by decide +kernel
theorem inX7 : ∀ w ∈ u_ws "GrowthGrid" TX7 10, w ∈ AL := by decide +kernel
theorem inX8 : ∀ w ∈ u_ws "GrowthGridModel" TX8 0, w ∈ AL := by decide +kernel
end
section
theorem dX0_init_0 : decode cX0_init 0 = .ok (.aload_n 0, 1) := by decide +kernel
theorem dX0_init_1 : decode cX0_init 1 = .ok (.invokespecial 3, 3) := by decide +kernel
theorem dX0_init_4 : decode cX0_init 4 = .ok (.aload_n 0, 1) := by decide +kernel
theorem dX0_init_5 : decode cX0_init 5 = .ok (.iconst 3, 1) := by decide +kernel
theorem dX0_init_6 : decode cX0_init 6 = .ok (.putfield 9, 3) := by decide +kernel
theorem dX0_init_9 : decode cX0_init 9 = .ok (.aload_n 0, 1) := by decide +kernel
theorem dX0_init_10 : decode cX0_init 10 = .ok (.iconst 3, 1) := by decide +kernel
theorem dX0_init_11 : decode cX0_init 11 = .ok (.putfield 15, 3) := by decide +kernel
theorem dX0_init_14 : decode cX0_init 14 = .ok (.aload_n 0, 1) := by decide +kernel
theorem dX0_init_15 : decode cX0_init 15 = .ok (.iconst 0, 1) := by decide +kernel
theorem dX0_init_16 : decode cX0_init 16 = .ok (.putfield 18, 3) := by decide +kernel
theorem dX0_init_19 : decode cX0_init 19 = .ok (.aload_n 0, 1) := by decide +kernel
theorem dX0_init_20 : decode cX0_init 20 = .ok (.bipush 25, 2) := by decide +kernel
theorem dX0_init_22 : decode cX0_init 22 = .ok (.newarray .int, 2) := by decide +kernel
theorem dX0_init_24 : decode cX0_init 24 = .ok (.putfield 21, 3) := by decide +kernel
theorem dX0_init_27 : decode cX0_init 27 = .ok (.return_, 1) := by decide +kernel
theorem dX0_hasCell_0 : decode cX0_hasCell 0 = .ok (.iload_n 1, 1) := by decide +kernel
theorem dX0_hasCell_1 : decode cX0_hasCell 1 = .ok (.iconst 1, 1) := by decide +kernel
theorem dX0_hasCell_2 : decode cX0_hasCell 2 = .ok (.if_icmp .lt 28, 3) := by decide +kernel
theorem dX0_hasCell_5 : decode cX0_hasCell 5 = .ok (.iload_n 1, 1) := by decide +kernel
theorem dX0_hasCell_6 : decode cX0_hasCell 6 = .ok (.aload_n 0, 1) := by decide +kernel
theorem dX0_hasCell_7 : decode cX0_hasCell 7 = .ok (.getfield 9, 3) := by decide +kernel
theorem dX0_hasCell_10 : decode cX0_hasCell 10 = .ok (.if_icmp .gt 20, 3) := by decide +kernel
theorem dX0_hasCell_13 : decode cX0_hasCell 13 = .ok (.iload_n 2, 1) := by decide +kernel
theorem dX0_hasCell_14 : decode cX0_hasCell 14 = .ok (.iconst 1, 1) := by decide +kernel
theorem dX0_hasCell_15 : decode cX0_hasCell 15 = .ok (.if_icmp .lt 15, 3) := by decide +kernel
theorem dX0_hasCell_18 : decode cX0_hasCell 18 = .ok (.iload_n 2, 1) := by decide +kernel
theorem dX0_hasCell_19 : decode cX0_hasCell 19 = .ok (.aload_n 0, 1) := by decide +kernel
theorem dX0_hasCell_20 : decode cX0_hasCell 20 = .ok (.getfield 15, 3) := by decide +kernel
theorem dX0_hasCell_23 : decode cX0_hasCell 23 = .ok (.if_icmp .gt 7, 3) := by decide +kernel
theorem dX0_hasCell_26 : decode cX0_hasCell 26 = .ok (.iconst 1, 1) := by decide +kernel
theorem dX0_hasCell_27 : decode cX0_hasCell 27 = .ok (.goto 4, 3) := by decide +kernel
theorem dX0_hasCell_30 : decode cX0_hasCell 30 = .ok (.iconst 0, 1) := by decide +kernel
theorem dX0_hasCell_31 : decode cX0_hasCell 31 = .ok (.ireturn, 1) := by decide +kernel
theorem dX0_hasCorner_0 : decode cX0_hasCorner 0 = .ok (.iload_n 1, 1) := by decide +kernel
theorem dX0_hasCorner_1 : decode cX0_hasCorner 1 = .ok (.ifCond .lt 27, 3) := by decide +kernel
theorem dX0_hasCorner_4 : decode cX0_hasCorner 4 = .ok (.iload_n 1, 1) := by decide +kernel
theorem dX0_hasCorner_5 : decode cX0_hasCorner 5 = .ok (.aload_n 0, 1) := by decide +kernel
theorem dX0_hasCorner_6 : decode cX0_hasCorner 6 = .ok (.getfield 9, 3) := by decide +kernel
theorem dX0_hasCorner_9 : decode cX0_hasCorner 9 = .ok (.if_icmp .gt 19, 3) := by decide +kernel
theorem dX0_hasCorner_12 : decode cX0_hasCorner 12 = .ok (.iload_n 2, 1) := by decide +kernel
theorem dX0_hasCorner_13 : decode cX0_hasCorner 13 = .ok (.ifCond .lt 15, 3) := by decide +kernel
theorem dX0_hasCorner_16 : decode cX0_hasCorner 16 = .ok (.iload_n 2, 1) := by decide +kernel
theorem dX0_hasCorner_17 : decode cX0_hasCorner 17 = .ok (.aload_n 0, 1) := by decide +kernel
theorem dX0_hasCorner_18 : decode cX0_hasCorner 18 = .ok (.getfield 15, 3) := by decide +kernel
theorem dX0_hasCorner_21 : decode cX0_hasCorner 21 = .ok (.if_icmp .gt 7, 3) := by decide +kernel
theorem dX0_hasCorner_24 : decode cX0_hasCorner 24 = .ok (.iconst 1, 1) := by decide +kernel
theorem dX0_hasCorner_25 : decode cX0_hasCorner 25 = .ok (.goto 4, 3) := by decide +kernel
theorem dX0_hasCorner_28 : decode cX0_hasCorner 28 = .ok (.iconst 0, 1) := by decide +kernel
theorem dX0_hasCorner_29 : decode cX0_hasCorner 29 = .ok (.ireturn, 1) := by decide +kernel
theorem dX0_numberAt_0 : decode cX0_numberAt 0 = .ok (.aload_n 0, 1) := by decide +kernel
theorem dX0_numberAt_1 : decode cX0_numberAt 1 = .ok (.iload_n 1, 1) := by decide +kernel
theorem dX0_numberAt_2 : decode cX0_numberAt 2 = .ok (.iload_n 2, 1) := by decide +kernel
theorem dX0_numberAt_3 : decode cX0_numberAt 3 = .ok (.invokevirtual 25, 3) := by decide +kernel
theorem dX0_numberAt_6 : decode cX0_numberAt 6 = .ok (.ifCond .eq 16, 3) := by decide +kernel
theorem dX0_numberAt_9 : decode cX0_numberAt 9 = .ok (.aload_n 0, 1) := by decide +kernel
theorem dX0_numberAt_10 : decode cX0_numberAt 10 = .ok (.getfield 21, 3) := by decide +kernel
theorem dX0_numberAt_13 : decode cX0_numberAt 13 = .ok (.iload_n 1, 1) := by decide +kernel
theorem dX0_numberAt_14 : decode cX0_numberAt 14 = .ok (.iload_n 2, 1) := by decide +kernel
theorem dX0_numberAt_15 : decode cX0_numberAt 15 = .ok (.invokestatic 29, 3) := by decide +kernel
theorem dX0_numberAt_18 : decode cX0_numberAt 18 = .ok (.iaload, 1) := by decide +kernel
theorem dX0_numberAt_19 : decode cX0_numberAt 19 = .ok (.goto 4, 3) := by decide +kernel
theorem dX0_numberAt_22 : decode cX0_numberAt 22 = .ok (.iconst 0, 1) := by decide +kernel
theorem dX0_numberAt_23 : decode cX0_numberAt 23 = .ok (.ireturn, 1) := by decide +kernel
theorem dX0_setNumber_0 : decode cX0_setNumber 0 = .ok (.aload_n 0, 1) := by decide +kernel
theorem dX0_setNumber_1 : decode cX0_setNumber 1 = .ok (.iload_n 1, 1) := by decide +kernel
theorem dX0_setNumber_2 : decode cX0_setNumber 2 = .ok (.iload_n 2, 1) := by decide +kernel
theorem dX0_setNumber_3 : decode cX0_setNumber 3 = .ok (.invokevirtual 25, 3) := by decide +kernel
theorem dX0_setNumber_6 : decode cX0_setNumber 6 = .ok (.ifCond .eq 14, 3) := by decide +kernel
theorem dX0_setNumber_9 : decode cX0_setNumber 9 = .ok (.aload_n 0, 1) := by decide +kernel
theorem dX0_setNumber_10 : decode cX0_setNumber 10 = .ok (.getfield 21, 3) := by decide +kernel
theorem dX0_setNumber_13 : decode cX0_setNumber 13 = .ok (.iload_n 1, 1) := by decide +kernel
theorem dX0_setNumber_14 : decode cX0_setNumber 14 = .ok (.iload_n 2, 1) := by decide +kernel
theorem dX0_setNumber_15 : decode cX0_setNumber 15 = .ok (.invokestatic 29, 3) := by decide +kernel
theorem dX0_setNumber_18 : decode cX0_setNumber 18 = .ok (.iload_n 3, 1) := by decide +kernel
theorem dX0_setNumber_19 : decode cX0_setNumber 19 = .ok (.iastore, 1) := by decide +kernel
theorem dX0_setNumber_20 : decode cX0_setNumber 20 = .ok (.return_, 1) := by decide +kernel
theorem dX0_placeOf_0 : decode cX0_placeOf 0 = .ok (.iload_n 0, 1) := by decide +kernel
theorem dX0_placeOf_1 : decode cX0_placeOf 1 = .ok (.iconst 1, 1) := by decide +kernel
theorem dX0_placeOf_2 : decode cX0_placeOf 2 = .ok (.isub, 1) := by decide +kernel
theorem dX0_placeOf_3 : decode cX0_placeOf 3 = .ok (.iconst 5, 1) := by decide +kernel
theorem dX0_placeOf_4 : decode cX0_placeOf 4 = .ok (.imul, 1) := by decide +kernel
theorem dX0_placeOf_5 : decode cX0_placeOf 5 = .ok (.iload_n 1, 1) := by decide +kernel
theorem dX0_placeOf_6 : decode cX0_placeOf 6 = .ok (.iconst 1, 1) := by decide +kernel
theorem dX0_placeOf_7 : decode cX0_placeOf 7 = .ok (.isub, 1) := by decide +kernel
theorem dX0_placeOf_8 : decode cX0_placeOf 8 = .ok (.iadd, 1) := by decide +kernel
theorem dX0_placeOf_9 : decode cX0_placeOf 9 = .ok (.ireturn, 1) := by decide +kernel
theorem dX0_worthAt_0 : decode cX0_worthAt 0 = .ok (.aload_n 0, 1) := by decide +kernel
theorem dX0_worthAt_1 : decode cX0_worthAt 1 = .ok (.iload_n 1, 1) := by decide +kernel
theorem dX0_worthAt_2 : decode cX0_worthAt 2 = .ok (.iload_n 2, 1) := by decide +kernel
theorem dX0_worthAt_3 : decode cX0_worthAt 3 = .ok (.invokevirtual 33, 3) := by decide +kernel
theorem dX0_worthAt_6 : decode cX0_worthAt 6 = .ok (.istore_n 3, 1) := by decide +kernel
theorem dX0_worthAt_7 : decode cX0_worthAt 7 = .ok (.aload_n 0, 1) := by decide +kernel
theorem dX0_worthAt_8 : decode cX0_worthAt 8 = .ok (.getfield 18, 3) := by decide +kernel
theorem dX0_worthAt_11 : decode cX0_worthAt 11 = .ok (.iconst 1, 1) := by decide +kernel
theorem dX0_worthAt_12 : decode cX0_worthAt 12 = .ok (.if_icmp .eq 11, 3) := by decide +kernel
theorem dX0_worthAt_15 : decode cX0_worthAt 15 = .ok (.aload_n 0, 1) := by decide +kernel
theorem dX0_worthAt_16 : decode cX0_worthAt 16 = .ok (.getfield 18, 3) := by decide +kernel
theorem dX0_worthAt_19 : decode cX0_worthAt 19 = .ok (.iconst 2, 1) := by decide +kernel
theorem dX0_worthAt_20 : decode cX0_worthAt 20 = .ok (.if_icmp .ne 11, 3) := by decide +kernel
theorem dX0_worthAt_23 : decode cX0_worthAt 23 = .ok (.iload_n 3, 1) := by decide +kernel
theorem dX0_worthAt_24 : decode cX0_worthAt 24 = .ok (.iconst 1, 1) := by decide +kernel
theorem dX0_worthAt_25 : decode cX0_worthAt 25 = .ok (.invokestatic 36, 3) := by decide +kernel
theorem dX0_worthAt_28 : decode cX0_worthAt 28 = .ok (.goto 4, 3) := by decide +kernel
theorem dX0_worthAt_31 : decode cX0_worthAt 31 = .ok (.iload_n 3, 1) := by decide +kernel
theorem dX0_worthAt_32 : decode cX0_worthAt 32 = .ok (.ireturn, 1) := by decide +kernel
theorem dX0_clearTo_0 : decode cX0_clearTo 0 = .ok (.aload_n 0, 1) := by decide +kernel
theorem dX0_clearTo_1 : decode cX0_clearTo 1 = .ok (.iload_n 1, 1) := by decide +kernel
theorem dX0_clearTo_2 : decode cX0_clearTo 2 = .ok (.putfield 9, 3) := by decide +kernel
theorem dX0_clearTo_5 : decode cX0_clearTo 5 = .ok (.aload_n 0, 1) := by decide +kernel
theorem dX0_clearTo_6 : decode cX0_clearTo 6 = .ok (.iload_n 2, 1) := by decide +kernel
theorem dX0_clearTo_7 : decode cX0_clearTo 7 = .ok (.putfield 15, 3) := by decide +kernel
theorem dX0_clearTo_10 : decode cX0_clearTo 10 = .ok (.iconst 0, 1) := by decide +kernel
theorem dX0_clearTo_11 : decode cX0_clearTo 11 = .ok (.istore_n 3, 1) := by decide +kernel
theorem dX0_clearTo_12 : decode cX0_clearTo 12 = .ok (.iload_n 3, 1) := by decide +kernel
theorem dX0_clearTo_13 : decode cX0_clearTo 13 = .ok (.aload_n 0, 1) := by decide +kernel
theorem dX0_clearTo_14 : decode cX0_clearTo 14 = .ok (.getfield 21, 3) := by decide +kernel
theorem dX0_clearTo_17 : decode cX0_clearTo 17 = .ok (.arraylength, 1) := by decide +kernel
theorem dX0_clearTo_18 : decode cX0_clearTo 18 = .ok (.if_icmp .ge 16, 3) := by decide +kernel
theorem dX0_clearTo_21 : decode cX0_clearTo 21 = .ok (.aload_n 0, 1) := by decide +kernel
theorem dX0_clearTo_22 : decode cX0_clearTo 22 = .ok (.getfield 21, 3) := by decide +kernel
theorem dX0_clearTo_25 : decode cX0_clearTo 25 = .ok (.iload_n 3, 1) := by decide +kernel
theorem dX0_clearTo_26 : decode cX0_clearTo 26 = .ok (.iconst 0, 1) := by decide +kernel
theorem dX0_clearTo_27 : decode cX0_clearTo 27 = .ok (.iastore, 1) := by decide +kernel
theorem dX0_clearTo_28 : decode cX0_clearTo 28 = .ok (.iinc 3 1, 3) := by decide +kernel
theorem dX0_clearTo_31 : decode cX0_clearTo 31 = .ok (.goto (-19), 3) := by decide +kernel
theorem dX0_clearTo_34 : decode cX0_clearTo 34 = .ok (.return_, 1) := by decide +kernel
theorem dX0_copyFrom_0 : decode cX0_copyFrom 0 = .ok (.aload_n 0, 1) := by decide +kernel
theorem dX0_copyFrom_1 : decode cX0_copyFrom 1 = .ok (.aload_n 1, 1) := by decide +kernel
theorem dX0_copyFrom_2 : decode cX0_copyFrom 2 = .ok (.getfield 9, 3) := by decide +kernel
theorem dX0_copyFrom_5 : decode cX0_copyFrom 5 = .ok (.putfield 9, 3) := by decide +kernel
theorem dX0_copyFrom_8 : decode cX0_copyFrom 8 = .ok (.aload_n 0, 1) := by decide +kernel
theorem dX0_copyFrom_9 : decode cX0_copyFrom 9 = .ok (.aload_n 1, 1) := by decide +kernel
theorem dX0_copyFrom_10 : decode cX0_copyFrom 10 = .ok (.getfield 15, 3) := by decide +kernel
theorem dX0_copyFrom_13 : decode cX0_copyFrom 13 = .ok (.putfield 15, 3) := by decide +kernel
theorem dX0_copyFrom_16 : decode cX0_copyFrom 16 = .ok (.aload_n 0, 1) := by decide +kernel
theorem dX0_copyFrom_17 : decode cX0_copyFrom 17 = .ok (.aload_n 1, 1) := by decide +kernel
theorem dX0_copyFrom_18 : decode cX0_copyFrom 18 = .ok (.getfield 18, 3) := by decide +kernel
theorem dX0_copyFrom_21 : decode cX0_copyFrom 21 = .ok (.putfield 18, 3) := by decide +kernel
theorem dX0_copyFrom_24 : decode cX0_copyFrom 24 = .ok (.iconst 0, 1) := by decide +kernel
theorem dX0_copyFrom_25 : decode cX0_copyFrom 25 = .ok (.istore_n 2, 1) := by decide +kernel
theorem dX0_copyFrom_26 : decode cX0_copyFrom 26 = .ok (.iload_n 2, 1) := by decide +kernel
theorem dX0_copyFrom_27 : decode cX0_copyFrom 27 = .ok (.aload_n 0, 1) := by decide +kernel
theorem dX0_copyFrom_28 : decode cX0_copyFrom 28 = .ok (.getfield 21, 3) := by decide +kernel
theorem dX0_copyFrom_31 : decode cX0_copyFrom 31 = .ok (.arraylength, 1) := by decide +kernel
theorem dX0_copyFrom_32 : decode cX0_copyFrom 32 = .ok (.if_icmp .ge 21, 3) := by decide +kernel
theorem dX0_copyFrom_35 : decode cX0_copyFrom 35 = .ok (.aload_n 0, 1) := by decide +kernel
theorem dX0_copyFrom_36 : decode cX0_copyFrom 36 = .ok (.getfield 21, 3) := by decide +kernel
theorem dX0_copyFrom_39 : decode cX0_copyFrom 39 = .ok (.iload_n 2, 1) := by decide +kernel
theorem dX0_copyFrom_40 : decode cX0_copyFrom 40 = .ok (.aload_n 1, 1) := by decide +kernel
theorem dX0_copyFrom_41 : decode cX0_copyFrom 41 = .ok (.getfield 21, 3) := by decide +kernel
theorem dX0_copyFrom_44 : decode cX0_copyFrom 44 = .ok (.iload_n 2, 1) := by decide +kernel
theorem dX0_copyFrom_45 : decode cX0_copyFrom 45 = .ok (.iaload, 1) := by decide +kernel
theorem dX0_copyFrom_46 : decode cX0_copyFrom 46 = .ok (.iastore, 1) := by decide +kernel
theorem dX0_copyFrom_47 : decode cX0_copyFrom 47 = .ok (.iinc 2 1, 3) := by decide +kernel
theorem dX0_copyFrom_50 : decode cX0_copyFrom 50 = .ok (.goto (-24), 3) := by decide +kernel
theorem dX0_copyFrom_53 : decode cX0_copyFrom 53 = .ok (.return_, 1) := by decide +kernel
theorem dX0_filled_0 : decode cX0_filled 0 = .ok (.iconst 0, 1) := by decide +kernel
theorem dX0_filled_1 : decode cX0_filled 1 = .ok (.istore_n 1, 1) := by decide +kernel
theorem dX0_filled_2 : decode cX0_filled 2 = .ok (.iconst 0, 1) := by decide +kernel
theorem dX0_filled_3 : decode cX0_filled 3 = .ok (.istore_n 2, 1) := by decide +kernel
theorem dX0_filled_4 : decode cX0_filled 4 = .ok (.iload_n 2, 1) := by decide +kernel
theorem dX0_filled_5 : decode cX0_filled 5 = .ok (.aload_n 0, 1) := by decide +kernel
theorem dX0_filled_6 : decode cX0_filled 6 = .ok (.getfield 21, 3) := by decide +kernel
theorem dX0_filled_9 : decode cX0_filled 9 = .ok (.arraylength, 1) := by decide +kernel
theorem dX0_filled_10 : decode cX0_filled 10 = .ok (.if_icmp .ge 26, 3) := by decide +kernel
theorem dX0_filled_13 : decode cX0_filled 13 = .ok (.iload_n 1, 1) := by decide +kernel
theorem dX0_filled_14 : decode cX0_filled 14 = .ok (.aload_n 0, 1) := by decide +kernel
theorem dX0_filled_15 : decode cX0_filled 15 = .ok (.getfield 21, 3) := by decide +kernel
theorem dX0_filled_18 : decode cX0_filled 18 = .ok (.iload_n 2, 1) := by decide +kernel
theorem dX0_filled_19 : decode cX0_filled 19 = .ok (.iaload, 1) := by decide +kernel
theorem dX0_filled_20 : decode cX0_filled 20 = .ok (.ifCond .le 7, 3) := by decide +kernel
theorem dX0_filled_23 : decode cX0_filled 23 = .ok (.iconst 1, 1) := by decide +kernel
theorem dX0_filled_24 : decode cX0_filled 24 = .ok (.goto 4, 3) := by decide +kernel
theorem dX0_filled_27 : decode cX0_filled 27 = .ok (.iconst 0, 1) := by decide +kernel
theorem dX0_filled_28 : decode cX0_filled 28 = .ok (.iadd, 1) := by decide +kernel
theorem dX0_filled_29 : decode cX0_filled 29 = .ok (.istore_n 1, 1) := by decide +kernel
theorem dX0_filled_30 : decode cX0_filled 30 = .ok (.iinc 2 1, 3) := by decide +kernel
theorem dX0_filled_33 : decode cX0_filled 33 = .ok (.goto (-29), 3) := by decide +kernel
theorem dX0_filled_36 : decode cX0_filled 36 = .ok (.iload_n 1, 1) := by decide +kernel
theorem dX0_filled_37 : decode cX0_filled 37 = .ok (.ireturn, 1) := by decide +kernel
theorem dX0_total_0 : decode cX0_total 0 = .ok (.iconst 0, 1) := by decide +kernel
theorem dX0_total_1 : decode cX0_total 1 = .ok (.istore_n 1, 1) := by decide +kernel
theorem dX0_total_2 : decode cX0_total 2 = .ok (.iconst 0, 1) := by decide +kernel
theorem dX0_total_3 : decode cX0_total 3 = .ok (.istore_n 2, 1) := by decide +kernel
theorem dX0_total_4 : decode cX0_total 4 = .ok (.iload_n 2, 1) := by decide +kernel
theorem dX0_total_5 : decode cX0_total 5 = .ok (.aload_n 0, 1) := by decide +kernel
theorem dX0_total_6 : decode cX0_total 6 = .ok (.getfield 21, 3) := by decide +kernel
theorem dX0_total_9 : decode cX0_total 9 = .ok (.arraylength, 1) := by decide +kernel
theorem dX0_total_10 : decode cX0_total 10 = .ok (.if_icmp .ge 18, 3) := by decide +kernel
theorem dX0_total_13 : decode cX0_total 13 = .ok (.iload_n 1, 1) := by decide +kernel
theorem dX0_total_14 : decode cX0_total 14 = .ok (.aload_n 0, 1) := by decide +kernel
theorem dX0_total_15 : decode cX0_total 15 = .ok (.getfield 21, 3) := by decide +kernel
theorem dX0_total_18 : decode cX0_total 18 = .ok (.iload_n 2, 1) := by decide +kernel
theorem dX0_total_19 : decode cX0_total 19 = .ok (.iaload, 1) := by decide +kernel
theorem dX0_total_20 : decode cX0_total 20 = .ok (.iadd, 1) := by decide +kernel
theorem dX0_total_21 : decode cX0_total 21 = .ok (.istore_n 1, 1) := by decide +kernel
theorem dX0_total_22 : decode cX0_total 22 = .ok (.iinc 2 1, 3) := by decide +kernel
theorem dX0_total_25 : decode cX0_total 25 = .ok (.goto (-21), 3) := by decide +kernel
theorem dX0_total_28 : decode cX0_total 28 = .ok (.iload_n 1, 1) := by decide +kernel
theorem dX0_total_29 : decode cX0_total 29 = .ok (.ireturn, 1) := by decide +kernel
theorem dX0_differing_0 : decode cX0_differing 0 = .ok (.iconst 0, 1) := by decide +kernel
theorem dX0_differing_1 : decode cX0_differing 1 = .ok (.istore_n 2, 1) := by decide +kernel
theorem dX0_differing_2 : decode cX0_differing 2 = .ok (.iconst 0, 1) := by decide +kernel
theorem dX0_differing_3 : decode cX0_differing 3 = .ok (.istore_n 3, 1) := by decide +kernel
theorem dX0_differing_4 : decode cX0_differing 4 = .ok (.iload_n 3, 1) := by decide +kernel
theorem dX0_differing_5 : decode cX0_differing 5 = .ok (.aload_n 0, 1) := by decide +kernel
theorem dX0_differing_6 : decode cX0_differing 6 = .ok (.getfield 21, 3) := by decide +kernel
theorem dX0_differing_9 : decode cX0_differing 9 = .ok (.arraylength, 1) := by decide +kernel
theorem dX0_differing_10 : decode cX0_differing 10 = .ok (.if_icmp .ge 32, 3) := by decide +kernel
theorem dX0_differing_13 : decode cX0_differing 13 = .ok (.iload_n 2, 1) := by decide +kernel
theorem dX0_differing_14 : decode cX0_differing 14 = .ok (.aload_n 0, 1) := by decide +kernel
theorem dX0_differing_15 : decode cX0_differing 15 = .ok (.getfield 21, 3) := by decide +kernel
theorem dX0_differing_18 : decode cX0_differing 18 = .ok (.iload_n 3, 1) := by decide +kernel
theorem dX0_differing_19 : decode cX0_differing 19 = .ok (.iaload, 1) := by decide +kernel
theorem dX0_differing_20 : decode cX0_differing 20 = .ok (.aload_n 1, 1) := by decide +kernel
theorem dX0_differing_21 : decode cX0_differing 21 = .ok (.getfield 21, 3) := by decide +kernel
theorem dX0_differing_24 : decode cX0_differing 24 = .ok (.iload_n 3, 1) := by decide +kernel
theorem dX0_differing_25 : decode cX0_differing 25 = .ok (.iaload, 1) := by decide +kernel
theorem dX0_differing_26 : decode cX0_differing 26 = .ok (.if_icmp .eq 7, 3) := by decide +kernel
theorem dX0_differing_29 : decode cX0_differing 29 = .ok (.iconst 1, 1) := by decide +kernel
theorem dX0_differing_30 : decode cX0_differing 30 = .ok (.goto 4, 3) := by decide +kernel
theorem dX0_differing_33 : decode cX0_differing 33 = .ok (.iconst 0, 1) := by decide +kernel
theorem dX0_differing_34 : decode cX0_differing 34 = .ok (.iadd, 1) := by decide +kernel
theorem dX0_differing_35 : decode cX0_differing 35 = .ok (.istore_n 2, 1) := by decide +kernel
theorem dX0_differing_36 : decode cX0_differing 36 = .ok (.iinc 3 1, 3) := by decide +kernel
theorem dX0_differing_39 : decode cX0_differing 39 = .ok (.goto (-35), 3) := by decide +kernel
theorem dX0_differing_42 : decode cX0_differing 42 = .ok (.iload_n 2, 1) := by decide +kernel
theorem dX0_differing_43 : decode cX0_differing 43 = .ok (.ireturn, 1) := by decide +kernel
theorem dX0_spelling_0 : decode cX0_spelling 0 = .ok (.iconst 0, 1) := by decide +kernel
theorem dX0_spelling_1 : decode cX0_spelling 1 = .ok (.istore_n 1, 1) := by decide +kernel
theorem dX0_spelling_2 : decode cX0_spelling 2 = .ok (.iconst 1, 1) := by decide +kernel
theorem dX0_spelling_3 : decode cX0_spelling 3 = .ok (.istore_n 2, 1) := by decide +kernel
theorem dX0_spelling_4 : decode cX0_spelling 4 = .ok (.iload_n 2, 1) := by decide +kernel
theorem dX0_spelling_5 : decode cX0_spelling 5 = .ok (.aload_n 0, 1) := by decide +kernel
theorem dX0_spelling_6 : decode cX0_spelling 6 = .ok (.getfield 9, 3) := by decide +kernel
theorem dX0_spelling_9 : decode cX0_spelling 9 = .ok (.if_icmp .gt 73, 3) := by decide +kernel
theorem dX0_spelling_12 : decode cX0_spelling 12 = .ok (.iconst 0, 1) := by decide +kernel
theorem dX0_spelling_13 : decode cX0_spelling 13 = .ok (.istore_n 3, 1) := by decide +kernel
theorem dX0_spelling_14 : decode cX0_spelling 14 = .ok (.iconst 1, 1) := by decide +kernel
theorem dX0_spelling_15 : decode cX0_spelling 15 = .ok (.istore 4, 2) := by decide +kernel
theorem dX0_spelling_17 : decode cX0_spelling 17 = .ok (.iload 4, 2) := by decide +kernel
theorem dX0_spelling_19 : decode cX0_spelling 19 = .ok (.aload_n 0, 1) := by decide +kernel
theorem dX0_spelling_20 : decode cX0_spelling 20 = .ok (.getfield 15, 3) := by decide +kernel
theorem dX0_spelling_23 : decode cX0_spelling 23 = .ok (.if_icmp .gt 46, 3) := by decide +kernel
theorem dX0_spelling_26 : decode cX0_spelling 26 = .ok (.aload_n 0, 1) := by decide +kernel
theorem dX0_spelling_27 : decode cX0_spelling 27 = .ok (.iload_n 2, 1) := by decide +kernel
theorem dX0_spelling_28 : decode cX0_spelling 28 = .ok (.iload 4, 2) := by decide +kernel
theorem dX0_spelling_30 : decode cX0_spelling 30 = .ok (.invokevirtual 33, 3) := by decide +kernel
theorem dX0_spelling_33 : decode cX0_spelling 33 = .ok (.istore 5, 2) := by decide +kernel
theorem dX0_spelling_35 : decode cX0_spelling 35 = .ok (.iload 5, 2) := by decide +kernel
theorem dX0_spelling_37 : decode cX0_spelling 37 = .ok (.iconst 1, 1) := by decide +kernel
theorem dX0_spelling_38 : decode cX0_spelling 38 = .ok (.if_icmp .gt 13, 3) := by decide +kernel
theorem dX0_spelling_41 : decode cX0_spelling 41 = .ok (.iload 5, 2) := by decide +kernel
theorem dX0_spelling_43 : decode cX0_spelling 43 = .ok (.iconst 1, 1) := by decide +kernel
theorem dX0_spelling_44 : decode cX0_spelling 44 = .ok (.if_icmp .ne 10, 3) := by decide +kernel
theorem dX0_spelling_47 : decode cX0_spelling 47 = .ok (.iload_n 3, 1) := by decide +kernel
theorem dX0_spelling_48 : decode cX0_spelling 48 = .ok (.ifCond .le 6, 3) := by decide +kernel
theorem dX0_spelling_51 : decode cX0_spelling 51 = .ok (.bipush (-2), 2) := by decide +kernel
theorem dX0_spelling_53 : decode cX0_spelling 53 = .ok (.ireturn, 1) := by decide +kernel
theorem dX0_spelling_54 : decode cX0_spelling 54 = .ok (.iload 5, 2) := by decide +kernel
theorem dX0_spelling_56 : decode cX0_spelling 56 = .ok (.iconst 1, 1) := by decide +kernel
theorem dX0_spelling_57 : decode cX0_spelling 57 = .ok (.if_icmp .ne 6, 3) := by decide +kernel
theorem dX0_spelling_60 : decode cX0_spelling 60 = .ok (.iload 4, 2) := by decide +kernel
theorem dX0_spelling_62 : decode cX0_spelling 62 = .ok (.istore_n 3, 1) := by decide +kernel
theorem dX0_spelling_63 : decode cX0_spelling 63 = .ok (.iinc 4 1, 3) := by decide +kernel
theorem dX0_spelling_66 : decode cX0_spelling 66 = .ok (.goto (-49), 3) := by decide +kernel
theorem dX0_spelling_69 : decode cX0_spelling 69 = .ok (.bipush 10, 2) := by decide +kernel
theorem dX0_spelling_71 : decode cX0_spelling 71 = .ok (.iload_n 1, 1) := by decide +kernel
theorem dX0_spelling_72 : decode cX0_spelling 72 = .ok (.imul, 1) := by decide +kernel
theorem dX0_spelling_73 : decode cX0_spelling 73 = .ok (.iload_n 3, 1) := by decide +kernel
theorem dX0_spelling_74 : decode cX0_spelling 74 = .ok (.iadd, 1) := by decide +kernel
theorem dX0_spelling_75 : decode cX0_spelling 75 = .ok (.istore_n 1, 1) := by decide +kernel
theorem dX0_spelling_76 : decode cX0_spelling 76 = .ok (.iinc 2 1, 3) := by decide +kernel
theorem dX0_spelling_79 : decode cX0_spelling 79 = .ok (.goto (-75), 3) := by decide +kernel
theorem dX0_spelling_82 : decode cX0_spelling 82 = .ok (.iload_n 1, 1) := by decide +kernel
theorem dX0_spelling_83 : decode cX0_spelling 83 = .ok (.ireturn, 1) := by decide +kernel
theorem dX1_init_0 : decode cX1_init 0 = .ok (.aload_n 0, 1) := by decide +kernel
theorem dX1_init_1 : decode cX1_init 1 = .ok (.invokespecial 3, 3) := by decide +kernel
theorem dX1_init_4 : decode cX1_init 4 = .ok (.aload_n 0, 1) := by decide +kernel
theorem dX1_init_5 : decode cX1_init 5 = .ok (.bipush 36, 2) := by decide +kernel
theorem dX1_init_7 : decode cX1_init 7 = .ok (.anewarray 9, 3) := by decide +kernel
theorem dX1_init_10 : decode cX1_init 10 = .ok (.putfield 11, 3) := by decide +kernel
theorem dX1_init_13 : decode cX1_init 13 = .ok (.iconst 0, 1) := by decide +kernel
theorem dX1_init_14 : decode cX1_init 14 = .ok (.istore_n 1, 1) := by decide +kernel
theorem dX1_init_15 : decode cX1_init 15 = .ok (.iload_n 1, 1) := by decide +kernel
theorem dX1_init_16 : decode cX1_init 16 = .ok (.bipush 36, 2) := by decide +kernel
theorem dX1_init_18 : decode cX1_init 18 = .ok (.if_icmp .ge 22, 3) := by decide +kernel
theorem dX1_init_21 : decode cX1_init 21 = .ok (.aload_n 0, 1) := by decide +kernel
theorem dX1_init_22 : decode cX1_init 22 = .ok (.getfield 11, 3) := by decide +kernel
theorem dX1_init_25 : decode cX1_init 25 = .ok (.iload_n 1, 1) := by decide +kernel
theorem dX1_init_26 : decode cX1_init 26 = .ok (.new 9, 3) := by decide +kernel
theorem dX1_init_29 : decode cX1_init 29 = .ok (.dup, 1) := by decide +kernel
theorem dX1_init_30 : decode cX1_init 30 = .ok (.invokespecial 17, 3) := by decide +kernel
theorem dX1_init_33 : decode cX1_init 33 = .ok (.aastore, 1) := by decide +kernel
theorem dX1_init_34 : decode cX1_init 34 = .ok (.iinc 1 1, 3) := by decide +kernel
theorem dX1_init_37 : decode cX1_init 37 = .ok (.goto (-22), 3) := by decide +kernel
theorem dX1_init_40 : decode cX1_init 40 = .ok (.aload_n 0, 1) := by decide +kernel
theorem dX1_init_41 : decode cX1_init 41 = .ok (.new 9, 3) := by decide +kernel
theorem dX1_init_44 : decode cX1_init 44 = .ok (.dup, 1) := by decide +kernel
theorem dX1_init_45 : decode cX1_init 45 = .ok (.invokespecial 17, 3) := by decide +kernel
theorem dX1_init_48 : decode cX1_init 48 = .ok (.putfield 18, 3) := by decide +kernel
theorem dX1_init_51 : decode cX1_init 51 = .ok (.aload_n 0, 1) := by decide +kernel
theorem dX1_init_52 : decode cX1_init 52 = .ok (.iconst 0, 1) := by decide +kernel
theorem dX1_init_53 : decode cX1_init 53 = .ok (.putfield 22, 3) := by decide +kernel
theorem dX1_init_56 : decode cX1_init 56 = .ok (.aload_n 0, 1) := by decide +kernel
theorem dX1_init_57 : decode cX1_init 57 = .ok (.iconst 0, 1) := by decide +kernel
theorem dX1_init_58 : decode cX1_init 58 = .ok (.putfield 26, 3) := by decide +kernel
theorem dX1_init_61 : decode cX1_init 61 = .ok (.aload_n 0, 1) := by decide +kernel
theorem dX1_init_62 : decode cX1_init 62 = .ok (.bipush 36, 2) := by decide +kernel
theorem dX1_init_64 : decode cX1_init 64 = .ok (.newarray .int, 2) := by decide +kernel
theorem dX1_init_66 : decode cX1_init 66 = .ok (.putfield 29, 3) := by decide +kernel
theorem dX1_init_69 : decode cX1_init 69 = .ok (.aload_n 0, 1) := by decide +kernel
theorem dX1_init_70 : decode cX1_init 70 = .ok (.iconst 0, 1) := by decide +kernel
theorem dX1_init_71 : decode cX1_init 71 = .ok (.putfield 33, 3) := by decide +kernel
theorem dX1_init_74 : decode cX1_init 74 = .ok (.return_, 1) := by decide +kernel
theorem dX1_at_0 : decode cX1_at 0 = .ok (.iload_n 1, 1) := by decide +kernel
theorem dX1_at_1 : decode cX1_at 1 = .ok (.ifCond .lt 17, 3) := by decide +kernel
theorem dX1_at_4 : decode cX1_at 4 = .ok (.iload_n 1, 1) := by decide +kernel
theorem dX1_at_5 : decode cX1_at 5 = .ok (.iconst 5, 1) := by decide +kernel
theorem dX1_at_6 : decode cX1_at 6 = .ok (.if_icmp .gt 12, 3) := by decide +kernel
theorem dX1_at_9 : decode cX1_at 9 = .ok (.iload_n 2, 1) := by decide +kernel
theorem dX1_at_10 : decode cX1_at 10 = .ok (.ifCond .lt 8, 3) := by decide +kernel
theorem dX1_at_13 : decode cX1_at 13 = .ok (.iload_n 2, 1) := by decide +kernel
theorem dX1_at_14 : decode cX1_at 14 = .ok (.iconst 5, 1) := by decide +kernel
theorem dX1_at_15 : decode cX1_at 15 = .ok (.if_icmp .le 8, 3) := by decide +kernel
theorem dX1_at_18 : decode cX1_at 18 = .ok (.aload_n 0, 1) := by decide +kernel
theorem dX1_at_19 : decode cX1_at 19 = .ok (.getfield 18, 3) := by decide +kernel
theorem dX1_at_22 : decode cX1_at 22 = .ok (.areturn, 1) := by decide +kernel
theorem dX1_at_23 : decode cX1_at 23 = .ok (.aload_n 0, 1) := by decide +kernel
theorem dX1_at_24 : decode cX1_at 24 = .ok (.getfield 11, 3) := by decide +kernel
theorem dX1_at_27 : decode cX1_at 27 = .ok (.iload_n 1, 1) := by decide +kernel
theorem dX1_at_28 : decode cX1_at 28 = .ok (.bipush 6, 2) := by decide +kernel
theorem dX1_at_30 : decode cX1_at 30 = .ok (.imul, 1) := by decide +kernel
theorem dX1_at_31 : decode cX1_at 31 = .ok (.iload_n 2, 1) := by decide +kernel
theorem dX1_at_32 : decode cX1_at 32 = .ok (.iadd, 1) := by decide +kernel
theorem dX1_at_33 : decode cX1_at 33 = .ok (.aaload, 1) := by decide +kernel
theorem dX1_at_34 : decode cX1_at 34 = .ok (.areturn, 1) := by decide +kernel
theorem dX1_growOver_0 : decode cX1_growOver 0 = .ok (.aload_n 0, 1) := by decide +kernel
theorem dX1_growOver_1 : decode cX1_growOver 1 = .ok (.aload_n 1, 1) := by decide +kernel
theorem dX1_growOver_2 : decode cX1_growOver 2 = .ok (.getfield 36, 3) := by decide +kernel
theorem dX1_growOver_5 : decode cX1_growOver 5 = .ok (.putfield 22, 3) := by decide +kernel
theorem dX1_growOver_8 : decode cX1_growOver 8 = .ok (.aload_n 0, 1) := by decide +kernel
theorem dX1_growOver_9 : decode cX1_growOver 9 = .ok (.aload_n 1, 1) := by decide +kernel
theorem dX1_growOver_10 : decode cX1_growOver 10 = .ok (.getfield 39, 3) := by decide +kernel
theorem dX1_growOver_13 : decode cX1_growOver 13 = .ok (.putfield 26, 3) := by decide +kernel
theorem dX1_growOver_16 : decode cX1_growOver 16 = .ok (.aload_n 0, 1) := by decide +kernel
theorem dX1_growOver_17 : decode cX1_growOver 17 = .ok (.iconst 0, 1) := by decide +kernel
theorem dX1_growOver_18 : decode cX1_growOver 18 = .ok (.putfield 33, 3) := by decide +kernel
theorem dX1_growOver_21 : decode cX1_growOver 21 = .ok (.iconst 0, 1) := by decide +kernel
theorem dX1_growOver_22 : decode cX1_growOver 22 = .ok (.istore_n 2, 1) := by decide +kernel
theorem dX1_growOver_23 : decode cX1_growOver 23 = .ok (.iload_n 2, 1) := by decide +kernel
theorem dX1_growOver_24 : decode cX1_growOver 24 = .ok (.aload_n 0, 1) := by decide +kernel
theorem dX1_growOver_25 : decode cX1_growOver 25 = .ok (.getfield 22, 3) := by decide +kernel
theorem dX1_growOver_28 : decode cX1_growOver 28 = .ok (.if_icmp .gt 90, 3) := by decide +kernel
theorem dX1_growOver_31 : decode cX1_growOver 31 = .ok (.iconst 0, 1) := by decide +kernel
theorem dX1_growOver_32 : decode cX1_growOver 32 = .ok (.istore_n 3, 1) := by decide +kernel
theorem dX1_growOver_33 : decode cX1_growOver 33 = .ok (.iload_n 3, 1) := by decide +kernel
theorem dX1_growOver_34 : decode cX1_growOver 34 = .ok (.aload_n 0, 1) := by decide +kernel
theorem dX1_growOver_35 : decode cX1_growOver 35 = .ok (.getfield 26, 3) := by decide +kernel
theorem dX1_growOver_38 : decode cX1_growOver 38 = .ok (.if_icmp .gt 74, 3) := by decide +kernel
theorem dX1_growOver_41 : decode cX1_growOver 41 = .ok (.iload_n 2, 1) := by decide +kernel
theorem dX1_growOver_42 : decode cX1_growOver 42 = .ok (.ifCond .eq 7, 3) := by decide +kernel
theorem dX1_growOver_45 : decode cX1_growOver 45 = .ok (.iload_n 3, 1) := by decide +kernel
theorem dX1_growOver_46 : decode cX1_growOver 46 = .ok (.ifCond .ne 15, 3) := by decide +kernel
theorem dX1_growOver_49 : decode cX1_growOver 49 = .ok (.aload_n 0, 1) := by decide +kernel
theorem dX1_growOver_50 : decode cX1_growOver 50 = .ok (.iload_n 2, 1) := by decide +kernel
theorem dX1_growOver_51 : decode cX1_growOver 51 = .ok (.iload_n 3, 1) := by decide +kernel
theorem dX1_growOver_52 : decode cX1_growOver 52 = .ok (.invokevirtual 40, 3) := by decide +kernel
theorem dX1_growOver_55 : decode cX1_growOver 55 = .ok (.invokevirtual 44, 3) := by decide +kernel
theorem dX1_growOver_58 : decode cX1_growOver 58 = .ok (.goto 48, 3) := by decide +kernel
theorem dX1_growOver_61 : decode cX1_growOver 61 = .ok (.aload_n 0, 1) := by decide +kernel
theorem dX1_growOver_62 : decode cX1_growOver 62 = .ok (.iload_n 2, 1) := by decide +kernel
theorem dX1_growOver_63 : decode cX1_growOver 63 = .ok (.iload_n 3, 1) := by decide +kernel
theorem dX1_growOver_64 : decode cX1_growOver 64 = .ok (.invokevirtual 40, 3) := by decide +kernel
theorem dX1_growOver_67 : decode cX1_growOver 67 = .ok (.aload_n 0, 1) := by decide +kernel
theorem dX1_growOver_68 : decode cX1_growOver 68 = .ok (.iload_n 2, 1) := by decide +kernel
theorem dX1_growOver_69 : decode cX1_growOver 69 = .ok (.iconst 1, 1) := by decide +kernel
theorem dX1_growOver_70 : decode cX1_growOver 70 = .ok (.isub, 1) := by decide +kernel
theorem dX1_growOver_71 : decode cX1_growOver 71 = .ok (.iload_n 3, 1) := by decide +kernel
theorem dX1_growOver_72 : decode cX1_growOver 72 = .ok (.iconst 1, 1) := by decide +kernel
theorem dX1_growOver_73 : decode cX1_growOver 73 = .ok (.isub, 1) := by decide +kernel
theorem dX1_growOver_74 : decode cX1_growOver 74 = .ok (.invokevirtual 40, 3) := by decide +kernel
theorem dX1_growOver_77 : decode cX1_growOver 77 = .ok (.aload_n 0, 1) := by decide +kernel
theorem dX1_growOver_78 : decode cX1_growOver 78 = .ok (.iload_n 2, 1) := by decide +kernel
theorem dX1_growOver_79 : decode cX1_growOver 79 = .ok (.iconst 1, 1) := by decide +kernel
theorem dX1_growOver_80 : decode cX1_growOver 80 = .ok (.isub, 1) := by decide +kernel
theorem dX1_growOver_81 : decode cX1_growOver 81 = .ok (.iload_n 3, 1) := by decide +kernel
theorem dX1_growOver_82 : decode cX1_growOver 82 = .ok (.invokevirtual 40, 3) := by decide +kernel
theorem dX1_growOver_85 : decode cX1_growOver 85 = .ok (.aload_n 0, 1) := by decide +kernel
theorem dX1_growOver_86 : decode cX1_growOver 86 = .ok (.iload_n 2, 1) := by decide +kernel
theorem dX1_growOver_87 : decode cX1_growOver 87 = .ok (.iload_n 3, 1) := by decide +kernel
theorem dX1_growOver_88 : decode cX1_growOver 88 = .ok (.iconst 1, 1) := by decide +kernel
theorem dX1_growOver_89 : decode cX1_growOver 89 = .ok (.isub, 1) := by decide +kernel
theorem dX1_growOver_90 : decode cX1_growOver 90 = .ok (.invokevirtual 40, 3) := by decide +kernel
theorem dX1_growOver_93 : decode cX1_growOver 93 = .ok (.aload_n 1, 1) := by decide +kernel
theorem dX1_growOver_94 : decode cX1_growOver 94 = .ok (.iload_n 2, 1) := by decide +kernel
theorem dX1_growOver_95 : decode cX1_growOver 95 = .ok (.iload_n 3, 1) := by decide +kernel
theorem dX1_growOver_96 : decode cX1_growOver 96 = .ok (.invokevirtual 47, 3) := by decide +kernel
theorem dX1_growOver_99 : decode cX1_growOver 99 = .ok (.aload_n 1, 1) := by decide +kernel
theorem dX1_growOver_100 : decode cX1_growOver 100 = .ok (.getfield 51, 3) := by decide +kernel
theorem dX1_growOver_103 : decode cX1_growOver 103 = .ok (.invokevirtual 54, 3) := by decide +kernel
theorem dX1_growOver_106 : decode cX1_growOver 106 = .ok (.iinc 3 1, 3) := by decide +kernel
theorem dX1_growOver_109 : decode cX1_growOver 109 = .ok (.goto (-76), 3) := by decide +kernel
theorem dX1_growOver_112 : decode cX1_growOver 112 = .ok (.iinc 2 1, 3) := by decide +kernel
theorem dX1_growOver_115 : decode cX1_growOver 115 = .ok (.goto (-92), 3) := by decide +kernel
theorem dX1_growOver_118 : decode cX1_growOver 118 = .ok (.return_, 1) := by decide +kernel
theorem dX1_goBackInto_0 : decode cX1_goBackInto 0 = .ok (.iconst 0, 1) := by decide +kernel
theorem dX1_goBackInto_1 : decode cX1_goBackInto 1 = .ok (.istore_n 2, 1) := by decide +kernel
theorem dX1_goBackInto_2 : decode cX1_goBackInto 2 = .ok (.aload_n 0, 1) := by decide +kernel
theorem dX1_goBackInto_3 : decode cX1_goBackInto 3 = .ok (.getfield 22, 3) := by decide +kernel
theorem dX1_goBackInto_6 : decode cX1_goBackInto 6 = .ok (.istore_n 3, 1) := by decide +kernel
theorem dX1_goBackInto_7 : decode cX1_goBackInto 7 = .ok (.iload_n 3, 1) := by decide +kernel
theorem dX1_goBackInto_8 : decode cX1_goBackInto 8 = .ok (.iconst 1, 1) := by decide +kernel
theorem dX1_goBackInto_9 : decode cX1_goBackInto 9 = .ok (.if_icmp .lt 88, 3) := by decide +kernel
theorem dX1_goBackInto_12 : decode cX1_goBackInto 12 = .ok (.aload_n 0, 1) := by decide +kernel
theorem dX1_goBackInto_13 : decode cX1_goBackInto 13 = .ok (.getfield 26, 3) := by decide +kernel
theorem dX1_goBackInto_16 : decode cX1_goBackInto 16 = .ok (.istore 4, 2) := by decide +kernel
theorem dX1_goBackInto_18 : decode cX1_goBackInto 18 = .ok (.iload 4, 2) := by decide +kernel
theorem dX1_goBackInto_20 : decode cX1_goBackInto 20 = .ok (.iconst 1, 1) := by decide +kernel
theorem dX1_goBackInto_21 : decode cX1_goBackInto 21 = .ok (.if_icmp .lt 70, 3) := by decide +kernel
theorem dX1_goBackInto_24 : decode cX1_goBackInto 24 = .ok (.aload_n 0, 1) := by decide +kernel
theorem dX1_goBackInto_25 : decode cX1_goBackInto 25 = .ok (.iload_n 3, 1) := by decide +kernel
theorem dX1_goBackInto_26 : decode cX1_goBackInto 26 = .ok (.iconst 1, 1) := by decide +kernel
theorem dX1_goBackInto_27 : decode cX1_goBackInto 27 = .ok (.isub, 1) := by decide +kernel
theorem dX1_goBackInto_28 : decode cX1_goBackInto 28 = .ok (.iload 4, 2) := by decide +kernel
theorem dX1_goBackInto_30 : decode cX1_goBackInto 30 = .ok (.iconst 1, 1) := by decide +kernel
theorem dX1_goBackInto_31 : decode cX1_goBackInto 31 = .ok (.isub, 1) := by decide +kernel
theorem dX1_goBackInto_32 : decode cX1_goBackInto 32 = .ok (.invokevirtual 40, 3) := by decide +kernel
theorem dX1_goBackInto_35 : decode cX1_goBackInto 35 = .ok (.aload_n 0, 1) := by decide +kernel
theorem dX1_goBackInto_36 : decode cX1_goBackInto 36 = .ok (.iload_n 3, 1) := by decide +kernel
theorem dX1_goBackInto_37 : decode cX1_goBackInto 37 = .ok (.iload 4, 2) := by decide +kernel
theorem dX1_goBackInto_39 : decode cX1_goBackInto 39 = .ok (.invokevirtual 40, 3) := by decide +kernel
theorem dX1_goBackInto_42 : decode cX1_goBackInto 42 = .ok (.aload_n 0, 1) := by decide +kernel
theorem dX1_goBackInto_43 : decode cX1_goBackInto 43 = .ok (.iload_n 3, 1) := by decide +kernel
theorem dX1_goBackInto_44 : decode cX1_goBackInto 44 = .ok (.iconst 1, 1) := by decide +kernel
theorem dX1_goBackInto_45 : decode cX1_goBackInto 45 = .ok (.isub, 1) := by decide +kernel
theorem dX1_goBackInto_46 : decode cX1_goBackInto 46 = .ok (.iload 4, 2) := by decide +kernel
theorem dX1_goBackInto_48 : decode cX1_goBackInto 48 = .ok (.invokevirtual 40, 3) := by decide +kernel
theorem dX1_goBackInto_51 : decode cX1_goBackInto 51 = .ok (.aload_n 0, 1) := by decide +kernel
theorem dX1_goBackInto_52 : decode cX1_goBackInto 52 = .ok (.iload_n 3, 1) := by decide +kernel
theorem dX1_goBackInto_53 : decode cX1_goBackInto 53 = .ok (.iload 4, 2) := by decide +kernel
theorem dX1_goBackInto_55 : decode cX1_goBackInto 55 = .ok (.iconst 1, 1) := by decide +kernel
theorem dX1_goBackInto_56 : decode cX1_goBackInto 56 = .ok (.isub, 1) := by decide +kernel
theorem dX1_goBackInto_57 : decode cX1_goBackInto 57 = .ok (.invokevirtual 40, 3) := by decide +kernel
theorem dX1_goBackInto_60 : decode cX1_goBackInto 60 = .ok (.aload_n 1, 1) := by decide +kernel
theorem dX1_goBackInto_61 : decode cX1_goBackInto 61 = .ok (.getfield 51, 3) := by decide +kernel
theorem dX1_goBackInto_64 : decode cX1_goBackInto 64 = .ok (.invokevirtual 58, 3) := by decide +kernel
theorem dX1_goBackInto_67 : decode cX1_goBackInto 67 = .ok (.istore 5, 2) := by decide +kernel
theorem dX1_goBackInto_69 : decode cX1_goBackInto 69 = .ok (.aload_n 1, 1) := by decide +kernel
theorem dX1_goBackInto_70 : decode cX1_goBackInto 70 = .ok (.iload_n 3, 1) := by decide +kernel
theorem dX1_goBackInto_71 : decode cX1_goBackInto 71 = .ok (.iload 4, 2) := by decide +kernel
theorem dX1_goBackInto_73 : decode cX1_goBackInto 73 = .ok (.iload 5, 2) := by decide +kernel
theorem dX1_goBackInto_75 : decode cX1_goBackInto 75 = .ok (.invokevirtual 62, 3) := by decide +kernel
theorem dX1_goBackInto_78 : decode cX1_goBackInto 78 = .ok (.iload_n 2, 1) := by decide +kernel
theorem dX1_goBackInto_79 : decode cX1_goBackInto 79 = .ok (.iload 5, 2) := by decide +kernel
theorem dX1_goBackInto_81 : decode cX1_goBackInto 81 = .ok (.invokestatic 66, 3) := by decide +kernel
theorem dX1_goBackInto_84 : decode cX1_goBackInto 84 = .ok (.istore_n 2, 1) := by decide +kernel
theorem dX1_goBackInto_85 : decode cX1_goBackInto 85 = .ok (.iinc 4 (-1), 3) := by decide +kernel
theorem dX1_goBackInto_88 : decode cX1_goBackInto 88 = .ok (.goto (-70), 3) := by decide +kernel
theorem dX1_goBackInto_91 : decode cX1_goBackInto 91 = .ok (.iinc 3 (-1), 3) := by decide +kernel
theorem dX1_goBackInto_94 : decode cX1_goBackInto 94 = .ok (.goto (-87), 3) := by decide +kernel
theorem dX1_goBackInto_97 : decode cX1_goBackInto 97 = .ok (.iload_n 2, 1) := by decide +kernel
theorem dX1_goBackInto_98 : decode cX1_goBackInto 98 = .ok (.ireturn, 1) := by decide +kernel
theorem dX1_rimFits_0 : decode cX1_rimFits 0 = .ok (.iload_n 1, 1) := by decide +kernel
theorem dX1_rimFits_1 : decode cX1_rimFits 1 = .ok (.iconst 1, 1) := by decide +kernel
theorem dX1_rimFits_2 : decode cX1_rimFits 2 = .ok (.if_icmp .eq 8, 3) := by decide +kernel
theorem dX1_rimFits_5 : decode cX1_rimFits 5 = .ok (.iload_n 1, 1) := by decide +kernel
theorem dX1_rimFits_6 : decode cX1_rimFits 6 = .ok (.iconst 3, 1) := by decide +kernel
theorem dX1_rimFits_7 : decode cX1_rimFits 7 = .ok (.if_icmp .ne 7, 3) := by decide +kernel
theorem dX1_rimFits_10 : decode cX1_rimFits 10 = .ok (.iconst 1, 1) := by decide +kernel
theorem dX1_rimFits_11 : decode cX1_rimFits 11 = .ok (.goto 4, 3) := by decide +kernel
theorem dX1_rimFits_14 : decode cX1_rimFits 14 = .ok (.iconst 0, 1) := by decide +kernel
theorem dX1_rimFits_15 : decode cX1_rimFits 15 = .ok (.istore_n 2, 1) := by decide +kernel
theorem dX1_rimFits_16 : decode cX1_rimFits 16 = .ok (.iload_n 1, 1) := by decide +kernel
theorem dX1_rimFits_17 : decode cX1_rimFits 17 = .ok (.iconst 2, 1) := by decide +kernel
theorem dX1_rimFits_18 : decode cX1_rimFits 18 = .ok (.if_icmp .eq 8, 3) := by decide +kernel
theorem dX1_rimFits_21 : decode cX1_rimFits 21 = .ok (.iload_n 1, 1) := by decide +kernel
theorem dX1_rimFits_22 : decode cX1_rimFits 22 = .ok (.iconst 3, 1) := by decide +kernel
theorem dX1_rimFits_23 : decode cX1_rimFits 23 = .ok (.if_icmp .ne 7, 3) := by decide +kernel
theorem dX1_rimFits_26 : decode cX1_rimFits 26 = .ok (.iconst 1, 1) := by decide +kernel
theorem dX1_rimFits_27 : decode cX1_rimFits 27 = .ok (.goto 4, 3) := by decide +kernel
theorem dX1_rimFits_30 : decode cX1_rimFits 30 = .ok (.iconst 0, 1) := by decide +kernel
theorem dX1_rimFits_31 : decode cX1_rimFits 31 = .ok (.istore_n 3, 1) := by decide +kernel
theorem dX1_rimFits_32 : decode cX1_rimFits 32 = .ok (.iconst 1, 1) := by decide +kernel
theorem dX1_rimFits_33 : decode cX1_rimFits 33 = .ok (.istore 4, 2) := by decide +kernel
theorem dX1_rimFits_35 : decode cX1_rimFits 35 = .ok (.iload 4, 2) := by decide +kernel
theorem dX1_rimFits_37 : decode cX1_rimFits 37 = .ok (.aload_n 0, 1) := by decide +kernel
theorem dX1_rimFits_38 : decode cX1_rimFits 38 = .ok (.getfield 22, 3) := by decide +kernel
theorem dX1_rimFits_41 : decode cX1_rimFits 41 = .ok (.if_icmp .gt 40, 3) := by decide +kernel
theorem dX1_rimFits_44 : decode cX1_rimFits 44 = .ok (.aload_n 0, 1) := by decide +kernel
theorem dX1_rimFits_45 : decode cX1_rimFits 45 = .ok (.iload 4, 2) := by decide +kernel
theorem dX1_rimFits_47 : decode cX1_rimFits 47 = .ok (.aload_n 0, 1) := by decide +kernel
theorem dX1_rimFits_48 : decode cX1_rimFits 48 = .ok (.getfield 26, 3) := by decide +kernel
theorem dX1_rimFits_51 : decode cX1_rimFits 51 = .ok (.invokevirtual 40, 3) := by decide +kernel
theorem dX1_rimFits_54 : decode cX1_rimFits 54 = .ok (.aload_n 0, 1) := by decide +kernel
theorem dX1_rimFits_55 : decode cX1_rimFits 55 = .ok (.iload 4, 2) := by decide +kernel
theorem dX1_rimFits_57 : decode cX1_rimFits 57 = .ok (.iconst 1, 1) := by decide +kernel
theorem dX1_rimFits_58 : decode cX1_rimFits 58 = .ok (.isub, 1) := by decide +kernel
theorem dX1_rimFits_59 : decode cX1_rimFits 59 = .ok (.aload_n 0, 1) := by decide +kernel
theorem dX1_rimFits_60 : decode cX1_rimFits 60 = .ok (.getfield 26, 3) := by decide +kernel
theorem dX1_rimFits_63 : decode cX1_rimFits 63 = .ok (.invokevirtual 40, 3) := by decide +kernel
theorem dX1_rimFits_66 : decode cX1_rimFits 66 = .ok (.iload_n 2, 1) := by decide +kernel
theorem dX1_rimFits_67 : decode cX1_rimFits 67 = .ok (.invokevirtual 71, 3) := by decide +kernel
theorem dX1_rimFits_70 : decode cX1_rimFits 70 = .ok (.ifCond .ne 5, 3) := by decide +kernel
theorem dX1_rimFits_73 : decode cX1_rimFits 73 = .ok (.iconst 0, 1) := by decide +kernel
theorem dX1_rimFits_74 : decode cX1_rimFits 74 = .ok (.ireturn, 1) := by decide +kernel
theorem dX1_rimFits_75 : decode cX1_rimFits 75 = .ok (.iinc 4 1, 3) := by decide +kernel
theorem dX1_rimFits_78 : decode cX1_rimFits 78 = .ok (.goto (-43), 3) := by decide +kernel
theorem dX1_rimFits_81 : decode cX1_rimFits 81 = .ok (.iconst 1, 1) := by decide +kernel
theorem dX1_rimFits_82 : decode cX1_rimFits 82 = .ok (.istore 4, 2) := by decide +kernel
theorem dX1_rimFits_84 : decode cX1_rimFits 84 = .ok (.iload 4, 2) := by decide +kernel
theorem dX1_rimFits_86 : decode cX1_rimFits 86 = .ok (.aload_n 0, 1) := by decide +kernel
theorem dX1_rimFits_87 : decode cX1_rimFits 87 = .ok (.getfield 26, 3) := by decide +kernel
theorem dX1_rimFits_90 : decode cX1_rimFits 90 = .ok (.if_icmp .gt 40, 3) := by decide +kernel
theorem dX1_rimFits_93 : decode cX1_rimFits 93 = .ok (.aload_n 0, 1) := by decide +kernel
theorem dX1_rimFits_94 : decode cX1_rimFits 94 = .ok (.aload_n 0, 1) := by decide +kernel
theorem dX1_rimFits_95 : decode cX1_rimFits 95 = .ok (.getfield 22, 3) := by decide +kernel
theorem dX1_rimFits_98 : decode cX1_rimFits 98 = .ok (.iload 4, 2) := by decide +kernel
theorem dX1_rimFits_100 : decode cX1_rimFits 100 = .ok (.invokevirtual 40, 3) := by decide +kernel
theorem dX1_rimFits_103 : decode cX1_rimFits 103 = .ok (.aload_n 0, 1) := by decide +kernel
theorem dX1_rimFits_104 : decode cX1_rimFits 104 = .ok (.aload_n 0, 1) := by decide +kernel
theorem dX1_rimFits_105 : decode cX1_rimFits 105 = .ok (.getfield 22, 3) := by decide +kernel
theorem dX1_rimFits_108 : decode cX1_rimFits 108 = .ok (.iload 4, 2) := by decide +kernel
theorem dX1_rimFits_110 : decode cX1_rimFits 110 = .ok (.iconst 1, 1) := by decide +kernel
theorem dX1_rimFits_111 : decode cX1_rimFits 111 = .ok (.isub, 1) := by decide +kernel
theorem dX1_rimFits_112 : decode cX1_rimFits 112 = .ok (.invokevirtual 40, 3) := by decide +kernel
theorem dX1_rimFits_115 : decode cX1_rimFits 115 = .ok (.iload_n 3, 1) := by decide +kernel
theorem dX1_rimFits_116 : decode cX1_rimFits 116 = .ok (.invokevirtual 71, 3) := by decide +kernel
theorem dX1_rimFits_119 : decode cX1_rimFits 119 = .ok (.ifCond .ne 5, 3) := by decide +kernel
theorem dX1_rimFits_122 : decode cX1_rimFits 122 = .ok (.iconst 0, 1) := by decide +kernel
theorem dX1_rimFits_123 : decode cX1_rimFits 123 = .ok (.ireturn, 1) := by decide +kernel
theorem dX1_rimFits_124 : decode cX1_rimFits 124 = .ok (.iinc 4 1, 3) := by decide +kernel
theorem dX1_rimFits_127 : decode cX1_rimFits 127 = .ok (.goto (-43), 3) := by decide +kernel
theorem dX1_rimFits_130 : decode cX1_rimFits 130 = .ok (.iconst 1, 1) := by decide +kernel
theorem dX1_rimFits_131 : decode cX1_rimFits 131 = .ok (.ireturn, 1) := by decide +kernel
theorem dX2_init_0 : decode cX2_init 0 = .ok (.aload_n 0, 1) := by decide +kernel
theorem dX2_init_1 : decode cX2_init 1 = .ok (.invokespecial 3, 3) := by decide +kernel
theorem dX2_init_4 : decode cX2_init 4 = .ok (.aload_n 0, 1) := by decide +kernel
theorem dX2_init_5 : decode cX2_init 5 = .ok (.bipush 9, 2) := by decide +kernel
theorem dX2_init_7 : decode cX2_init 7 = .ok (.anewarray 9, 3) := by decide +kernel
theorem dX2_init_10 : decode cX2_init 10 = .ok (.putfield 11, 3) := by decide +kernel
theorem dX2_init_13 : decode cX2_init 13 = .ok (.iconst 0, 1) := by decide +kernel
theorem dX2_init_14 : decode cX2_init 14 = .ok (.istore_n 1, 1) := by decide +kernel
theorem dX2_init_15 : decode cX2_init 15 = .ok (.iload_n 1, 1) := by decide +kernel
theorem dX2_init_16 : decode cX2_init 16 = .ok (.bipush 8, 2) := by decide +kernel
theorem dX2_init_18 : decode cX2_init 18 = .ok (.if_icmp .gt 22, 3) := by decide +kernel
theorem dX2_init_21 : decode cX2_init 21 = .ok (.aload_n 0, 1) := by decide +kernel
theorem dX2_init_22 : decode cX2_init 22 = .ok (.getfield 11, 3) := by decide +kernel
theorem dX2_init_25 : decode cX2_init 25 = .ok (.iload_n 1, 1) := by decide +kernel
theorem dX2_init_26 : decode cX2_init 26 = .ok (.new 9, 3) := by decide +kernel
theorem dX2_init_29 : decode cX2_init 29 = .ok (.dup, 1) := by decide +kernel
theorem dX2_init_30 : decode cX2_init 30 = .ok (.invokespecial 17, 3) := by decide +kernel
theorem dX2_init_33 : decode cX2_init 33 = .ok (.aastore, 1) := by decide +kernel
theorem dX2_init_34 : decode cX2_init 34 = .ok (.iinc 1 1, 3) := by decide +kernel
theorem dX2_init_37 : decode cX2_init 37 = .ok (.goto (-22), 3) := by decide +kernel
theorem dX2_init_40 : decode cX2_init 40 = .ok (.aload_n 0, 1) := by decide +kernel
theorem dX2_init_41 : decode cX2_init 41 = .ok (.iconst 0, 1) := by decide +kernel
theorem dX2_init_42 : decode cX2_init 42 = .ok (.putfield 18, 3) := by decide +kernel
theorem dX2_init_45 : decode cX2_init 45 = .ok (.aload_n 0, 1) := by decide +kernel
theorem dX2_init_46 : decode cX2_init 46 = .ok (.iconst 0, 1) := by decide +kernel
theorem dX2_init_47 : decode cX2_init 47 = .ok (.putfield 22, 3) := by decide +kernel
theorem dX2_init_50 : decode cX2_init 50 = .ok (.return_, 1) := by decide +kernel
theorem dX2_undoable_0 : decode cX2_undoable 0 = .ok (.aload_n 0, 1) := by decide +kernel
theorem dX2_undoable_1 : decode cX2_undoable 1 = .ok (.getfield 18, 3) := by decide +kernel
theorem dX2_undoable_4 : decode cX2_undoable 4 = .ok (.ireturn, 1) := by decide +kernel
theorem dX2_redoable_0 : decode cX2_redoable 0 = .ok (.aload_n 0, 1) := by decide +kernel
theorem dX2_redoable_1 : decode cX2_redoable 1 = .ok (.getfield 22, 3) := by decide +kernel
theorem dX2_redoable_4 : decode cX2_redoable 4 = .ok (.aload_n 0, 1) := by decide +kernel
theorem dX2_redoable_5 : decode cX2_redoable 5 = .ok (.getfield 18, 3) := by decide +kernel
theorem dX2_redoable_8 : decode cX2_redoable 8 = .ok (.isub, 1) := by decide +kernel
theorem dX2_redoable_9 : decode cX2_redoable 9 = .ok (.ireturn, 1) := by decide +kernel
theorem dX2_forgetAll_0 : decode cX2_forgetAll 0 = .ok (.aload_n 0, 1) := by decide +kernel
theorem dX2_forgetAll_1 : decode cX2_forgetAll 1 = .ok (.iconst 0, 1) := by decide +kernel
theorem dX2_forgetAll_2 : decode cX2_forgetAll 2 = .ok (.putfield 18, 3) := by decide +kernel
theorem dX2_forgetAll_5 : decode cX2_forgetAll 5 = .ok (.aload_n 0, 1) := by decide +kernel
theorem dX2_forgetAll_6 : decode cX2_forgetAll 6 = .ok (.iconst 0, 1) := by decide +kernel
theorem dX2_forgetAll_7 : decode cX2_forgetAll 7 = .ok (.putfield 22, 3) := by decide +kernel
theorem dX2_forgetAll_10 : decode cX2_forgetAll 10 = .ok (.return_, 1) := by decide +kernel
theorem dX2_remember_0 : decode cX2_remember 0 = .ok (.aload_n 0, 1) := by decide +kernel
theorem dX2_remember_1 : decode cX2_remember 1 = .ok (.getfield 18, 3) := by decide +kernel
theorem dX2_remember_4 : decode cX2_remember 4 = .ok (.bipush 8, 2) := by decide +kernel
theorem dX2_remember_6 : decode cX2_remember 6 = .ok (.if_icmp .lt 7, 3) := by decide +kernel
theorem dX2_remember_9 : decode cX2_remember 9 = .ok (.aload_n 0, 1) := by decide +kernel
theorem dX2_remember_10 : decode cX2_remember 10 = .ok (.invokevirtual 25, 3) := by decide +kernel
theorem dX2_remember_13 : decode cX2_remember 13 = .ok (.aload_n 0, 1) := by decide +kernel
theorem dX2_remember_14 : decode cX2_remember 14 = .ok (.getfield 11, 3) := by decide +kernel
theorem dX2_remember_17 : decode cX2_remember 17 = .ok (.aload_n 0, 1) := by decide +kernel
theorem dX2_remember_18 : decode cX2_remember 18 = .ok (.getfield 18, 3) := by decide +kernel
theorem dX2_remember_21 : decode cX2_remember 21 = .ok (.aaload, 1) := by decide +kernel
theorem dX2_remember_22 : decode cX2_remember 22 = .ok (.aload_n 1, 1) := by decide +kernel
theorem dX2_remember_23 : decode cX2_remember 23 = .ok (.invokevirtual 28, 3) := by decide +kernel
theorem dX2_remember_26 : decode cX2_remember 26 = .ok (.aload_n 0, 1) := by decide +kernel
theorem dX2_remember_27 : decode cX2_remember 27 = .ok (.dup, 1) := by decide +kernel
theorem dX2_remember_28 : decode cX2_remember 28 = .ok (.getfield 18, 3) := by decide +kernel
theorem dX2_remember_31 : decode cX2_remember 31 = .ok (.iconst 1, 1) := by decide +kernel
theorem dX2_remember_32 : decode cX2_remember 32 = .ok (.iadd, 1) := by decide +kernel
theorem dX2_remember_33 : decode cX2_remember 33 = .ok (.putfield 18, 3) := by decide +kernel
theorem dX2_remember_36 : decode cX2_remember 36 = .ok (.aload_n 0, 1) := by decide +kernel
theorem dX2_remember_37 : decode cX2_remember 37 = .ok (.aload_n 0, 1) := by decide +kernel
theorem dX2_remember_38 : decode cX2_remember 38 = .ok (.getfield 18, 3) := by decide +kernel
theorem dX2_remember_41 : decode cX2_remember 41 = .ok (.putfield 22, 3) := by decide +kernel
theorem dX2_remember_44 : decode cX2_remember 44 = .ok (.return_, 1) := by decide +kernel
theorem dX2_forgetOldest_0 : decode cX2_forgetOldest 0 = .ok (.aload_n 0, 1) := by decide +kernel
theorem dX2_forgetOldest_1 : decode cX2_forgetOldest 1 = .ok (.getfield 11, 3) := by decide +kernel
theorem dX2_forgetOldest_4 : decode cX2_forgetOldest 4 = .ok (.iconst 0, 1) := by decide +kernel
theorem dX2_forgetOldest_5 : decode cX2_forgetOldest 5 = .ok (.aaload, 1) := by decide +kernel
theorem dX2_forgetOldest_6 : decode cX2_forgetOldest 6 = .ok (.astore_n 1, 1) := by decide +kernel
theorem dX2_forgetOldest_7 : decode cX2_forgetOldest 7 = .ok (.iconst 0, 1) := by decide +kernel
theorem dX2_forgetOldest_8 : decode cX2_forgetOldest 8 = .ok (.istore_n 2, 1) := by decide +kernel
theorem dX2_forgetOldest_9 : decode cX2_forgetOldest 9 = .ok (.iload_n 2, 1) := by decide +kernel
theorem dX2_forgetOldest_10 : decode cX2_forgetOldest 10 = .ok (.bipush 8, 2) := by decide +kernel
theorem dX2_forgetOldest_12 : decode cX2_forgetOldest 12 = .ok (.if_icmp .ge 23, 3) := by decide +kernel
theorem dX2_forgetOldest_15 : decode cX2_forgetOldest 15 = .ok (.aload_n 0, 1) := by decide +kernel
theorem dX2_forgetOldest_16 : decode cX2_forgetOldest 16 = .ok (.getfield 11, 3) := by decide +kernel
theorem dX2_forgetOldest_19 : decode cX2_forgetOldest 19 = .ok (.iload_n 2, 1) := by decide +kernel
theorem dX2_forgetOldest_20 : decode cX2_forgetOldest 20 = .ok (.aload_n 0, 1) := by decide +kernel
theorem dX2_forgetOldest_21 : decode cX2_forgetOldest 21 = .ok (.getfield 11, 3) := by decide +kernel
theorem dX2_forgetOldest_24 : decode cX2_forgetOldest 24 = .ok (.iload_n 2, 1) := by decide +kernel
theorem dX2_forgetOldest_25 : decode cX2_forgetOldest 25 = .ok (.iconst 1, 1) := by decide +kernel
theorem dX2_forgetOldest_26 : decode cX2_forgetOldest 26 = .ok (.iadd, 1) := by decide +kernel
theorem dX2_forgetOldest_27 : decode cX2_forgetOldest 27 = .ok (.aaload, 1) := by decide +kernel
theorem dX2_forgetOldest_28 : decode cX2_forgetOldest 28 = .ok (.aastore, 1) := by decide +kernel
theorem dX2_forgetOldest_29 : decode cX2_forgetOldest 29 = .ok (.iinc 2 1, 3) := by decide +kernel
theorem dX2_forgetOldest_32 : decode cX2_forgetOldest 32 = .ok (.goto (-23), 3) := by decide +kernel
theorem dX2_forgetOldest_35 : decode cX2_forgetOldest 35 = .ok (.aload_n 0, 1) := by decide +kernel
theorem dX2_forgetOldest_36 : decode cX2_forgetOldest 36 = .ok (.getfield 11, 3) := by decide +kernel
theorem dX2_forgetOldest_39 : decode cX2_forgetOldest 39 = .ok (.bipush 8, 2) := by decide +kernel
theorem dX2_forgetOldest_41 : decode cX2_forgetOldest 41 = .ok (.aload_n 1, 1) := by decide +kernel
theorem dX2_forgetOldest_42 : decode cX2_forgetOldest 42 = .ok (.aastore, 1) := by decide +kernel
theorem dX2_forgetOldest_43 : decode cX2_forgetOldest 43 = .ok (.aload_n 0, 1) := by decide +kernel
theorem dX2_forgetOldest_44 : decode cX2_forgetOldest 44 = .ok (.bipush 7, 2) := by decide +kernel
theorem dX2_forgetOldest_46 : decode cX2_forgetOldest 46 = .ok (.putfield 18, 3) := by decide +kernel
theorem dX2_forgetOldest_49 : decode cX2_forgetOldest 49 = .ok (.return_, 1) := by decide +kernel
theorem dX2_stepBack_0 : decode cX2_stepBack 0 = .ok (.aload_n 0, 1) := by decide +kernel
theorem dX2_stepBack_1 : decode cX2_stepBack 1 = .ok (.getfield 18, 3) := by decide +kernel
theorem dX2_stepBack_4 : decode cX2_stepBack 4 = .ok (.ifCond .le 39, 3) := by decide +kernel
theorem dX2_stepBack_7 : decode cX2_stepBack 7 = .ok (.aload_n 0, 1) := by decide +kernel
theorem dX2_stepBack_8 : decode cX2_stepBack 8 = .ok (.getfield 11, 3) := by decide +kernel
theorem dX2_stepBack_11 : decode cX2_stepBack 11 = .ok (.aload_n 0, 1) := by decide +kernel
theorem dX2_stepBack_12 : decode cX2_stepBack 12 = .ok (.getfield 18, 3) := by decide +kernel
theorem dX2_stepBack_15 : decode cX2_stepBack 15 = .ok (.aaload, 1) := by decide +kernel
theorem dX2_stepBack_16 : decode cX2_stepBack 16 = .ok (.aload_n 1, 1) := by decide +kernel
theorem dX2_stepBack_17 : decode cX2_stepBack 17 = .ok (.invokevirtual 28, 3) := by decide +kernel
theorem dX2_stepBack_20 : decode cX2_stepBack 20 = .ok (.aload_n 0, 1) := by decide +kernel
theorem dX2_stepBack_21 : decode cX2_stepBack 21 = .ok (.dup, 1) := by decide +kernel
theorem dX2_stepBack_22 : decode cX2_stepBack 22 = .ok (.getfield 18, 3) := by decide +kernel
theorem dX2_stepBack_25 : decode cX2_stepBack 25 = .ok (.iconst 1, 1) := by decide +kernel
theorem dX2_stepBack_26 : decode cX2_stepBack 26 = .ok (.isub, 1) := by decide +kernel
theorem dX2_stepBack_27 : decode cX2_stepBack 27 = .ok (.putfield 18, 3) := by decide +kernel
theorem dX2_stepBack_30 : decode cX2_stepBack 30 = .ok (.aload_n 1, 1) := by decide +kernel
theorem dX2_stepBack_31 : decode cX2_stepBack 31 = .ok (.aload_n 0, 1) := by decide +kernel
theorem dX2_stepBack_32 : decode cX2_stepBack 32 = .ok (.getfield 11, 3) := by decide +kernel
theorem dX2_stepBack_35 : decode cX2_stepBack 35 = .ok (.aload_n 0, 1) := by decide +kernel
theorem dX2_stepBack_36 : decode cX2_stepBack 36 = .ok (.getfield 18, 3) := by decide +kernel
theorem dX2_stepBack_39 : decode cX2_stepBack 39 = .ok (.aaload, 1) := by decide +kernel
theorem dX2_stepBack_40 : decode cX2_stepBack 40 = .ok (.invokevirtual 28, 3) := by decide +kernel
theorem dX2_stepBack_43 : decode cX2_stepBack 43 = .ok (.return_, 1) := by decide +kernel
theorem dX2_stepOn_0 : decode cX2_stepOn 0 = .ok (.aload_n 0, 1) := by decide +kernel
theorem dX2_stepOn_1 : decode cX2_stepOn 1 = .ok (.getfield 18, 3) := by decide +kernel
theorem dX2_stepOn_4 : decode cX2_stepOn 4 = .ok (.aload_n 0, 1) := by decide +kernel
theorem dX2_stepOn_5 : decode cX2_stepOn 5 = .ok (.getfield 22, 3) := by decide +kernel
theorem dX2_stepOn_8 : decode cX2_stepOn 8 = .ok (.if_icmp .ge 26, 3) := by decide +kernel
theorem dX2_stepOn_11 : decode cX2_stepOn 11 = .ok (.aload_n 0, 1) := by decide +kernel
theorem dX2_stepOn_12 : decode cX2_stepOn 12 = .ok (.dup, 1) := by decide +kernel
theorem dX2_stepOn_13 : decode cX2_stepOn 13 = .ok (.getfield 18, 3) := by decide +kernel
theorem dX2_stepOn_16 : decode cX2_stepOn 16 = .ok (.iconst 1, 1) := by decide +kernel
theorem dX2_stepOn_17 : decode cX2_stepOn 17 = .ok (.iadd, 1) := by decide +kernel
theorem dX2_stepOn_18 : decode cX2_stepOn 18 = .ok (.putfield 18, 3) := by decide +kernel
theorem dX2_stepOn_21 : decode cX2_stepOn 21 = .ok (.aload_n 1, 1) := by decide +kernel
theorem dX2_stepOn_22 : decode cX2_stepOn 22 = .ok (.aload_n 0, 1) := by decide +kernel
theorem dX2_stepOn_23 : decode cX2_stepOn 23 = .ok (.getfield 11, 3) := by decide +kernel
theorem dX2_stepOn_26 : decode cX2_stepOn 26 = .ok (.aload_n 0, 1) := by decide +kernel
theorem dX2_stepOn_27 : decode cX2_stepOn 27 = .ok (.getfield 18, 3) := by decide +kernel
theorem dX2_stepOn_30 : decode cX2_stepOn 30 = .ok (.aaload, 1) := by decide +kernel
theorem dX2_stepOn_31 : decode cX2_stepOn 31 = .ok (.invokevirtual 28, 3) := by decide +kernel
theorem dX2_stepOn_34 : decode cX2_stepOn 34 = .ok (.return_, 1) := by decide +kernel
theorem dX3_init_0 : decode cX3_init 0 = .ok (.aload_n 0, 1) := by decide +kernel
theorem dX3_init_1 : decode cX3_init 1 = .ok (.invokespecial 3, 3) := by decide +kernel
theorem dX3_init_4 : decode cX3_init 4 = .ok (.aload_n 0, 1) := by decide +kernel
theorem dX3_init_5 : decode cX3_init 5 = .ok (.iconst 0, 1) := by decide +kernel
theorem dX3_init_6 : decode cX3_init 6 = .ok (.putfield 9, 3) := by decide +kernel
theorem dX3_init_9 : decode cX3_init 9 = .ok (.aload_n 0, 1) := by decide +kernel
theorem dX3_init_10 : decode cX3_init 10 = .ok (.new 15, 3) := by decide +kernel
theorem dX3_init_13 : decode cX3_init 13 = .ok (.dup, 1) := by decide +kernel
theorem dX3_init_14 : decode cX3_init 14 = .ok (.invokespecial 17, 3) := by decide +kernel
theorem dX3_init_17 : decode cX3_init 17 = .ok (.putfield 18, 3) := by decide +kernel
theorem dX3_init_20 : decode cX3_init 20 = .ok (.aload_n 0, 1) := by decide +kernel
theorem dX3_init_21 : decode cX3_init 21 = .ok (.bipush 30, 2) := by decide +kernel
theorem dX3_init_23 : decode cX3_init 23 = .ok (.newarray .int, 2) := by decide +kernel
theorem dX3_init_25 : decode cX3_init 25 = .ok (.putfield 22, 3) := by decide +kernel
theorem dX3_init_28 : decode cX3_init 28 = .ok (.aload_n 0, 1) := by decide +kernel
theorem dX3_init_29 : decode cX3_init 29 = .ok (.iconst 0, 1) := by decide +kernel
theorem dX3_init_30 : decode cX3_init 30 = .ok (.putfield 26, 3) := by decide +kernel
theorem dX3_init_33 : decode cX3_init 33 = .ok (.return_, 1) := by decide +kernel
theorem dX4_init_0 : decode cX4_init 0 = .ok (.aload_n 0, 1) := by decide +kernel
theorem dX4_init_1 : decode cX4_init 1 = .ok (.invokespecial 3, 3) := by decide +kernel
theorem dX4_init_4 : decode cX4_init 4 = .ok (.aload_n 0, 1) := by decide +kernel
theorem dX4_init_5 : decode cX4_init 5 = .ok (.bipush 6, 2) := by decide +kernel
theorem dX4_init_7 : decode cX4_init 7 = .ok (.bipush 6, 2) := by decide +kernel
theorem dX4_init_9 : decode cX4_init 9 = .ok (.multianewarray 9 2, 4) := by decide +kernel
theorem dX4_init_13 : decode cX4_init 13 = .ok (.putfield 11, 3) := by decide +kernel
theorem dX4_init_16 : decode cX4_init 16 = .ok (.return_, 1) := by decide +kernel
theorem dX4_bestRow_0 : decode cX4_bestRow 0 = .ok (.iload_n 2, 1) := by decide +kernel
theorem dX4_bestRow_1 : decode cX4_bestRow 1 = .ok (.iconst 1, 1) := by decide +kernel
theorem dX4_bestRow_2 : decode cX4_bestRow 2 = .ok (.if_icmp .eq 8, 3) := by decide +kernel
theorem dX4_bestRow_5 : decode cX4_bestRow 5 = .ok (.iload_n 2, 1) := by decide +kernel
theorem dX4_bestRow_6 : decode cX4_bestRow 6 = .ok (.iconst 3, 1) := by decide +kernel
theorem dX4_bestRow_7 : decode cX4_bestRow 7 = .ok (.if_icmp .ne 7, 3) := by decide +kernel
theorem dX4_bestRow_10 : decode cX4_bestRow 10 = .ok (.iconst 1, 1) := by decide +kernel
theorem dX4_bestRow_11 : decode cX4_bestRow 11 = .ok (.goto 4, 3) := by decide +kernel
theorem dX4_bestRow_14 : decode cX4_bestRow 14 = .ok (.iconst 0, 1) := by decide +kernel
theorem dX4_bestRow_15 : decode cX4_bestRow 15 = .ok (.istore 4, 2) := by decide +kernel
theorem dX4_bestRow_17 : decode cX4_bestRow 17 = .ok (.iload_n 2, 1) := by decide +kernel
theorem dX4_bestRow_18 : decode cX4_bestRow 18 = .ok (.iconst 2, 1) := by decide +kernel
theorem dX4_bestRow_19 : decode cX4_bestRow 19 = .ok (.if_icmp .lt 7, 3) := by decide +kernel
theorem dX4_bestRow_22 : decode cX4_bestRow 22 = .ok (.iconst 1, 1) := by decide +kernel
theorem dX4_bestRow_23 : decode cX4_bestRow 23 = .ok (.goto 4, 3) := by decide +kernel
theorem dX4_bestRow_26 : decode cX4_bestRow 26 = .ok (.iconst 0, 1) := by decide +kernel
theorem dX4_bestRow_27 : decode cX4_bestRow 27 = .ok (.istore 5, 2) := by decide +kernel
theorem dX4_bestRow_29 : decode cX4_bestRow 29 = .ok (.iconst 1, 1) := by decide +kernel
theorem dX4_bestRow_30 : decode cX4_bestRow 30 = .ok (.istore 6, 2) := by decide +kernel
theorem dX4_bestRow_32 : decode cX4_bestRow 32 = .ok (.iload 6, 2) := by decide +kernel
theorem dX4_bestRow_34 : decode cX4_bestRow 34 = .ok (.aload_n 1, 1) := by decide +kernel
theorem dX4_bestRow_35 : decode cX4_bestRow 35 = .ok (.getfield 16, 3) := by decide +kernel
theorem dX4_bestRow_38 : decode cX4_bestRow 38 = .ok (.if_icmp .gt 145, 3) := by decide +kernel
theorem dX4_bestRow_41 : decode cX4_bestRow 41 = .ok (.iconst 1, 1) := by decide +kernel
theorem dX4_bestRow_42 : decode cX4_bestRow 42 = .ok (.istore 7, 2) := by decide +kernel
theorem dX4_bestRow_44 : decode cX4_bestRow 44 = .ok (.iload 7, 2) := by decide +kernel
theorem dX4_bestRow_46 : decode cX4_bestRow 46 = .ok (.aload_n 1, 1) := by decide +kernel
theorem dX4_bestRow_47 : decode cX4_bestRow 47 = .ok (.getfield 22, 3) := by decide +kernel
theorem dX4_bestRow_50 : decode cX4_bestRow 50 = .ok (.if_icmp .gt 127, 3) := by decide +kernel
theorem dX4_bestRow_53 : decode cX4_bestRow 53 = .ok (.aload_n 1, 1) := by decide +kernel
theorem dX4_bestRow_54 : decode cX4_bestRow 54 = .ok (.iload 6, 2) := by decide +kernel
theorem dX4_bestRow_56 : decode cX4_bestRow 56 = .ok (.iload 5, 2) := by decide +kernel
theorem dX4_bestRow_58 : decode cX4_bestRow 58 = .ok (.ifCond .eq 15, 3) := by decide +kernel
theorem dX4_bestRow_61 : decode cX4_bestRow 61 = .ok (.aload_n 1, 1) := by decide +kernel
theorem dX4_bestRow_62 : decode cX4_bestRow 62 = .ok (.getfield 22, 3) := by decide +kernel
theorem dX4_bestRow_65 : decode cX4_bestRow 65 = .ok (.iconst 1, 1) := by decide +kernel
theorem dX4_bestRow_66 : decode cX4_bestRow 66 = .ok (.iadd, 1) := by decide +kernel
theorem dX4_bestRow_67 : decode cX4_bestRow 67 = .ok (.iload 7, 2) := by decide +kernel
theorem dX4_bestRow_69 : decode cX4_bestRow 69 = .ok (.isub, 1) := by decide +kernel
theorem dX4_bestRow_70 : decode cX4_bestRow 70 = .ok (.goto 5, 3) := by decide +kernel
theorem dX4_bestRow_73 : decode cX4_bestRow 73 = .ok (.iload 7, 2) := by decide +kernel
theorem dX4_bestRow_75 : decode cX4_bestRow 75 = .ok (.invokevirtual 25, 3) := by decide +kernel
theorem dX4_bestRow_78 : decode cX4_bestRow 78 = .ok (.istore 8, 2) := by decide +kernel
theorem dX4_bestRow_80 : decode cX4_bestRow 80 = .ok (.iload_n 3, 1) := by decide +kernel
theorem dX4_bestRow_81 : decode cX4_bestRow 81 = .ok (.ifCond .eq 12, 3) := by decide +kernel
theorem dX4_bestRow_84 : decode cX4_bestRow 84 = .ok (.iload 8, 2) := by decide +kernel
theorem dX4_bestRow_86 : decode cX4_bestRow 86 = .ok (.iconst 1, 1) := by decide +kernel
theorem dX4_bestRow_87 : decode cX4_bestRow 87 = .ok (.invokestatic 29, 3) := by decide +kernel
theorem dX4_bestRow_90 : decode cX4_bestRow 90 = .ok (.goto 5, 3) := by decide +kernel
theorem dX4_bestRow_93 : decode cX4_bestRow 93 = .ok (.iload 8, 2) := by decide +kernel
theorem dX4_bestRow_95 : decode cX4_bestRow 95 = .ok (.istore 9, 2) := by decide +kernel
theorem dX4_bestRow_97 : decode cX4_bestRow 97 = .ok (.aload_n 0, 1) := by decide +kernel
theorem dX4_bestRow_98 : decode cX4_bestRow 98 = .ok (.getfield 11, 3) := by decide +kernel
theorem dX4_bestRow_101 : decode cX4_bestRow 101 = .ok (.iload 6, 2) := by decide +kernel
theorem dX4_bestRow_103 : decode cX4_bestRow 103 = .ok (.iconst 1, 1) := by decide +kernel
theorem dX4_bestRow_104 : decode cX4_bestRow 104 = .ok (.isub, 1) := by decide +kernel
theorem dX4_bestRow_105 : decode cX4_bestRow 105 = .ok (.aaload, 1) := by decide +kernel
theorem dX4_bestRow_106 : decode cX4_bestRow 106 = .ok (.iload 7, 2) := by decide +kernel
theorem dX4_bestRow_108 : decode cX4_bestRow 108 = .ok (.iaload, 1) := by decide +kernel
theorem dX4_bestRow_109 : decode cX4_bestRow 109 = .ok (.aload_n 0, 1) := by decide +kernel
theorem dX4_bestRow_110 : decode cX4_bestRow 110 = .ok (.getfield 11, 3) := by decide +kernel
theorem dX4_bestRow_113 : decode cX4_bestRow 113 = .ok (.iload 6, 2) := by decide +kernel
theorem dX4_bestRow_115 : decode cX4_bestRow 115 = .ok (.aaload, 1) := by decide +kernel
theorem dX4_bestRow_116 : decode cX4_bestRow 116 = .ok (.iload 7, 2) := by decide +kernel
theorem dX4_bestRow_118 : decode cX4_bestRow 118 = .ok (.iconst 1, 1) := by decide +kernel
theorem dX4_bestRow_119 : decode cX4_bestRow 119 = .ok (.isub, 1) := by decide +kernel
theorem dX4_bestRow_120 : decode cX4_bestRow 120 = .ok (.iaload, 1) := by decide +kernel
theorem dX4_bestRow_121 : decode cX4_bestRow 121 = .ok (.invokestatic 34, 3) := by decide +kernel
theorem dX4_bestRow_124 : decode cX4_bestRow 124 = .ok (.istore 10, 2) := by decide +kernel
theorem dX4_bestRow_126 : decode cX4_bestRow 126 = .ok (.aload_n 0, 1) := by decide +kernel
theorem dX4_bestRow_127 : decode cX4_bestRow 127 = .ok (.getfield 11, 3) := by decide +kernel
theorem dX4_bestRow_130 : decode cX4_bestRow 130 = .ok (.iload 6, 2) := by decide +kernel
theorem dX4_bestRow_132 : decode cX4_bestRow 132 = .ok (.aaload, 1) := by decide +kernel
theorem dX4_bestRow_133 : decode cX4_bestRow 133 = .ok (.iload 7, 2) := by decide +kernel
theorem dX4_bestRow_135 : decode cX4_bestRow 135 = .ok (.iload 4, 2) := by decide +kernel
theorem dX4_bestRow_137 : decode cX4_bestRow 137 = .ok (.ifCond .eq 28, 3) := by decide +kernel
theorem dX4_bestRow_140 : decode cX4_bestRow 140 = .ok (.iload 10, 2) := by decide +kernel
theorem dX4_bestRow_142 : decode cX4_bestRow 142 = .ok (.aload_n 0, 1) := by decide +kernel
theorem dX4_bestRow_143 : decode cX4_bestRow 143 = .ok (.getfield 11, 3) := by decide +kernel
theorem dX4_bestRow_146 : decode cX4_bestRow 146 = .ok (.iload 6, 2) := by decide +kernel
theorem dX4_bestRow_148 : decode cX4_bestRow 148 = .ok (.iconst 1, 1) := by decide +kernel
theorem dX4_bestRow_149 : decode cX4_bestRow 149 = .ok (.isub, 1) := by decide +kernel
theorem dX4_bestRow_150 : decode cX4_bestRow 150 = .ok (.aaload, 1) := by decide +kernel
theorem dX4_bestRow_151 : decode cX4_bestRow 151 = .ok (.iload 7, 2) := by decide +kernel
theorem dX4_bestRow_153 : decode cX4_bestRow 153 = .ok (.iconst 1, 1) := by decide +kernel
theorem dX4_bestRow_154 : decode cX4_bestRow 154 = .ok (.isub, 1) := by decide +kernel
theorem dX4_bestRow_155 : decode cX4_bestRow 155 = .ok (.iaload, 1) := by decide +kernel
theorem dX4_bestRow_156 : decode cX4_bestRow 156 = .ok (.iload 9, 2) := by decide +kernel
theorem dX4_bestRow_158 : decode cX4_bestRow 158 = .ok (.iadd, 1) := by decide +kernel
theorem dX4_bestRow_159 : decode cX4_bestRow 159 = .ok (.invokestatic 34, 3) := by decide +kernel
theorem dX4_bestRow_162 : decode cX4_bestRow 162 = .ok (.goto 8, 3) := by decide +kernel
theorem dX4_bestRow_165 : decode cX4_bestRow 165 = .ok (.iload 10, 2) := by decide +kernel
theorem dX4_bestRow_167 : decode cX4_bestRow 167 = .ok (.iload 9, 2) := by decide +kernel
theorem dX4_bestRow_169 : decode cX4_bestRow 169 = .ok (.iadd, 1) := by decide +kernel
theorem dX4_bestRow_170 : decode cX4_bestRow 170 = .ok (.iastore, 1) := by decide +kernel
theorem dX4_bestRow_171 : decode cX4_bestRow 171 = .ok (.iinc 7 1, 3) := by decide +kernel
theorem dX4_bestRow_174 : decode cX4_bestRow 174 = .ok (.goto (-130), 3) := by decide +kernel
theorem dX4_bestRow_177 : decode cX4_bestRow 177 = .ok (.iinc 6 1, 3) := by decide +kernel
theorem dX4_bestRow_180 : decode cX4_bestRow 180 = .ok (.goto (-148), 3) := by decide +kernel
theorem dX4_bestRow_183 : decode cX4_bestRow 183 = .ok (.aload_n 0, 1) := by decide +kernel
theorem dX4_bestRow_184 : decode cX4_bestRow 184 = .ok (.getfield 11, 3) := by decide +kernel
theorem dX4_bestRow_187 : decode cX4_bestRow 187 = .ok (.aload_n 1, 1) := by decide +kernel
theorem dX4_bestRow_188 : decode cX4_bestRow 188 = .ok (.getfield 16, 3) := by decide +kernel
theorem dX4_bestRow_191 : decode cX4_bestRow 191 = .ok (.aaload, 1) := by decide +kernel
theorem dX4_bestRow_192 : decode cX4_bestRow 192 = .ok (.aload_n 1, 1) := by decide +kernel
theorem dX4_bestRow_193 : decode cX4_bestRow 193 = .ok (.getfield 22, 3) := by decide +kernel
theorem dX4_bestRow_196 : decode cX4_bestRow 196 = .ok (.iaload, 1) := by decide +kernel
theorem dX4_bestRow_197 : decode cX4_bestRow 197 = .ok (.ireturn, 1) := by decide +kernel
theorem dX5_init_0 : decode cX5_init 0 = .ok (.aload_n 0, 1) := by decide +kernel
theorem dX5_init_1 : decode cX5_init 1 = .ok (.invokespecial 3, 3) := by decide +kernel
theorem dX5_init_4 : decode cX5_init 4 = .ok (.aload_n 0, 1) := by decide +kernel
theorem dX5_init_5 : decode cX5_init 5 = .ok (.bipush 75, 2) := by decide +kernel
theorem dX5_init_7 : decode cX5_init 7 = .ok (.newarray .int, 2) := by decide +kernel
theorem dX5_init_9 : decode cX5_init 9 = .ok (.putfield 9, 3) := by decide +kernel
theorem dX5_init_12 : decode cX5_init 12 = .ok (.aload_n 0, 1) := by decide +kernel
theorem dX5_init_13 : decode cX5_init 13 = .ok (.iconst 0, 1) := by decide +kernel
theorem dX5_init_14 : decode cX5_init 14 = .ok (.putfield 15, 3) := by decide +kernel
theorem dX5_init_17 : decode cX5_init 17 = .ok (.aload_n 0, 1) := by decide +kernel
theorem dX5_init_18 : decode cX5_init 18 = .ok (.iconst 0, 1) := by decide +kernel
theorem dX5_init_19 : decode cX5_init 19 = .ok (.putfield 19, 3) := by decide +kernel
theorem dX5_init_22 : decode cX5_init 22 = .ok (.return_, 1) := by decide +kernel
theorem dX5_partAt_0 : decode cX5_partAt 0 = .ok (.iload_n 1, 1) := by decide +kernel
theorem dX5_partAt_1 : decode cX5_partAt 1 = .ok (.ifCond .lt 20, 3) := by decide +kernel
theorem dX5_partAt_4 : decode cX5_partAt 4 = .ok (.iload_n 1, 1) := by decide +kernel
theorem dX5_partAt_5 : decode cX5_partAt 5 = .ok (.aload_n 0, 1) := by decide +kernel
theorem dX5_partAt_6 : decode cX5_partAt 6 = .ok (.getfield 15, 3) := by decide +kernel
theorem dX5_partAt_9 : decode cX5_partAt 9 = .ok (.if_icmp .ge 12, 3) := by decide +kernel
theorem dX5_partAt_12 : decode cX5_partAt 12 = .ok (.aload_n 0, 1) := by decide +kernel
theorem dX5_partAt_13 : decode cX5_partAt 13 = .ok (.getfield 9, 3) := by decide +kernel
theorem dX5_partAt_16 : decode cX5_partAt 16 = .ok (.iload_n 1, 1) := by decide +kernel
theorem dX5_partAt_17 : decode cX5_partAt 17 = .ok (.iaload, 1) := by decide +kernel
theorem dX5_partAt_18 : decode cX5_partAt 18 = .ok (.goto 4, 3) := by decide +kernel
theorem dX5_partAt_21 : decode cX5_partAt 21 = .ok (.iconst 0, 1) := by decide +kernel
theorem dX5_partAt_22 : decode cX5_partAt 22 = .ok (.ireturn, 1) := by decide +kernel
theorem dX5_partsAbove_0 : decode cX5_partsAbove 0 = .ok (.iconst 0, 1) := by decide +kernel
theorem dX5_partsAbove_1 : decode cX5_partsAbove 1 = .ok (.istore_n 2, 1) := by decide +kernel
theorem dX5_partsAbove_2 : decode cX5_partsAbove 2 = .ok (.iconst 0, 1) := by decide +kernel
theorem dX5_partsAbove_3 : decode cX5_partsAbove 3 = .ok (.istore_n 3, 1) := by decide +kernel
theorem dX5_partsAbove_4 : decode cX5_partsAbove 4 = .ok (.iload_n 3, 1) := by decide +kernel
theorem dX5_partsAbove_5 : decode cX5_partsAbove 5 = .ok (.aload_n 0, 1) := by decide +kernel
theorem dX5_partsAbove_6 : decode cX5_partsAbove 6 = .ok (.getfield 15, 3) := by decide +kernel
theorem dX5_partsAbove_9 : decode cX5_partsAbove 9 = .ok (.if_icmp .ge 27, 3) := by decide +kernel
theorem dX5_partsAbove_12 : decode cX5_partsAbove 12 = .ok (.iload_n 2, 1) := by decide +kernel
theorem dX5_partsAbove_13 : decode cX5_partsAbove 13 = .ok (.aload_n 0, 1) := by decide +kernel
theorem dX5_partsAbove_14 : decode cX5_partsAbove 14 = .ok (.getfield 9, 3) := by decide +kernel
theorem dX5_partsAbove_17 : decode cX5_partsAbove 17 = .ok (.iload_n 3, 1) := by decide +kernel
theorem dX5_partsAbove_18 : decode cX5_partsAbove 18 = .ok (.iaload, 1) := by decide +kernel
theorem dX5_partsAbove_19 : decode cX5_partsAbove 19 = .ok (.iload_n 1, 1) := by decide +kernel
theorem dX5_partsAbove_20 : decode cX5_partsAbove 20 = .ok (.if_icmp .le 7, 3) := by decide +kernel
theorem dX5_partsAbove_23 : decode cX5_partsAbove 23 = .ok (.iconst 1, 1) := by decide +kernel
theorem dX5_partsAbove_24 : decode cX5_partsAbove 24 = .ok (.goto 4, 3) := by decide +kernel
theorem dX5_partsAbove_27 : decode cX5_partsAbove 27 = .ok (.iconst 0, 1) := by decide +kernel
theorem dX5_partsAbove_28 : decode cX5_partsAbove 28 = .ok (.iadd, 1) := by decide +kernel
theorem dX5_partsAbove_29 : decode cX5_partsAbove 29 = .ok (.istore_n 2, 1) := by decide +kernel
theorem dX5_partsAbove_30 : decode cX5_partsAbove 30 = .ok (.iinc 3 1, 3) := by decide +kernel
theorem dX5_partsAbove_33 : decode cX5_partsAbove 33 = .ok (.goto (-29), 3) := by decide +kernel
theorem dX5_partsAbove_36 : decode cX5_partsAbove 36 = .ok (.iload_n 2, 1) := by decide +kernel
theorem dX5_partsAbove_37 : decode cX5_partsAbove 37 = .ok (.ireturn, 1) := by decide +kernel
theorem dX5_makeEmpty_0 : decode cX5_makeEmpty 0 = .ok (.aload_n 0, 1) := by decide +kernel
theorem dX5_makeEmpty_1 : decode cX5_makeEmpty 1 = .ok (.iconst 0, 1) := by decide +kernel
theorem dX5_makeEmpty_2 : decode cX5_makeEmpty 2 = .ok (.putfield 15, 3) := by decide +kernel
theorem dX5_makeEmpty_5 : decode cX5_makeEmpty 5 = .ok (.aload_n 0, 1) := by decide +kernel
theorem dX5_makeEmpty_6 : decode cX5_makeEmpty 6 = .ok (.iconst 0, 1) := by decide +kernel
theorem dX5_makeEmpty_7 : decode cX5_makeEmpty 7 = .ok (.putfield 19, 3) := by decide +kernel
theorem dX5_makeEmpty_10 : decode cX5_makeEmpty 10 = .ok (.return_, 1) := by decide +kernel
theorem dX5_growFrom_0 : decode cX5_growFrom 0 = .ok (.aload_n 0, 1) := by decide +kernel
theorem dX5_growFrom_1 : decode cX5_growFrom 1 = .ok (.invokevirtual 22, 3) := by decide +kernel
theorem dX5_growFrom_4 : decode cX5_growFrom 4 = .ok (.iload 4, 2) := by decide +kernel
theorem dX5_growFrom_6 : decode cX5_growFrom 6 = .ok (.istore 6, 2) := by decide +kernel
theorem dX5_growFrom_8 : decode cX5_growFrom 8 = .ok (.iconst 0, 1) := by decide +kernel
theorem dX5_growFrom_9 : decode cX5_growFrom 9 = .ok (.istore 7, 2) := by decide +kernel
theorem dX5_growFrom_11 : decode cX5_growFrom 11 = .ok (.iload 7, 2) := by decide +kernel
theorem dX5_growFrom_13 : decode cX5_growFrom 13 = .ok (.bipush 75, 2) := by decide +kernel
theorem dX5_growFrom_15 : decode cX5_growFrom 15 = .ok (.if_icmp .ge 100, 3) := by decide +kernel
theorem dX5_growFrom_18 : decode cX5_growFrom 18 = .ok (.aload_n 1, 1) := by decide +kernel
theorem dX5_growFrom_19 : decode cX5_growFrom 19 = .ok (.iload 7, 2) := by decide +kernel
theorem dX5_growFrom_21 : decode cX5_growFrom 21 = .ok (.invokevirtual 25, 3) := by decide +kernel
theorem dX5_growFrom_24 : decode cX5_growFrom 24 = .ok (.istore 8, 2) := by decide +kernel
theorem dX5_growFrom_26 : decode cX5_growFrom 26 = .ok (.aload_n 2, 1) := by decide +kernel
theorem dX5_growFrom_27 : decode cX5_growFrom 27 = .ok (.iload 7, 2) := by decide +kernel
theorem dX5_growFrom_29 : decode cX5_growFrom 29 = .ok (.invokevirtual 25, 3) := by decide +kernel
theorem dX5_growFrom_32 : decode cX5_growFrom 32 = .ok (.istore 9, 2) := by decide +kernel
theorem dX5_growFrom_34 : decode cX5_growFrom 34 = .ok (.aload_n 3, 1) := by decide +kernel
theorem dX5_growFrom_35 : decode cX5_growFrom 35 = .ok (.iload 7, 2) := by decide +kernel
theorem dX5_growFrom_37 : decode cX5_growFrom 37 = .ok (.invokevirtual 25, 3) := by decide +kernel
theorem dX5_growFrom_40 : decode cX5_growFrom 40 = .ok (.istore 10, 2) := by decide +kernel
theorem dX5_growFrom_42 : decode cX5_growFrom 42 = .ok (.iload 5, 2) := by decide +kernel
theorem dX5_growFrom_44 : decode cX5_growFrom 44 = .ok (.iload 8, 2) := by decide +kernel
theorem dX5_growFrom_46 : decode cX5_growFrom 46 = .ok (.iload 9, 2) := by decide +kernel
theorem dX5_growFrom_48 : decode cX5_growFrom 48 = .ok (.iload 10, 2) := by decide +kernel
theorem dX5_growFrom_50 : decode cX5_growFrom 50 = .ok (.iload 6, 2) := by decide +kernel
theorem dX5_growFrom_52 : decode cX5_growFrom 52 = .ok (.invokestatic 29, 3) := by decide +kernel
theorem dX5_growFrom_55 : decode cX5_growFrom 55 = .ok (.istore 11, 2) := by decide +kernel
theorem dX5_growFrom_57 : decode cX5_growFrom 57 = .ok (.iload 11, 2) := by decide +kernel
theorem dX5_growFrom_59 : decode cX5_growFrom 59 = .ok (.ifCond .gt 6, 3) := by decide +kernel
theorem dX5_growFrom_62 : decode cX5_growFrom 62 = .ok (.goto 53, 3) := by decide +kernel
theorem dX5_growFrom_65 : decode cX5_growFrom 65 = .ok (.aload_n 0, 1) := by decide +kernel
theorem dX5_growFrom_66 : decode cX5_growFrom 66 = .ok (.getfield 9, 3) := by decide +kernel
theorem dX5_growFrom_69 : decode cX5_growFrom 69 = .ok (.iload 7, 2) := by decide +kernel
theorem dX5_growFrom_71 : decode cX5_growFrom 71 = .ok (.iload 11, 2) := by decide +kernel
theorem dX5_growFrom_73 : decode cX5_growFrom 73 = .ok (.iastore, 1) := by decide +kernel
theorem dX5_growFrom_74 : decode cX5_growFrom 74 = .ok (.aload_n 0, 1) := by decide +kernel
theorem dX5_growFrom_75 : decode cX5_growFrom 75 = .ok (.iload 7, 2) := by decide +kernel
theorem dX5_growFrom_77 : decode cX5_growFrom 77 = .ok (.iconst 1, 1) := by decide +kernel
theorem dX5_growFrom_78 : decode cX5_growFrom 78 = .ok (.iadd, 1) := by decide +kernel
theorem dX5_growFrom_79 : decode cX5_growFrom 79 = .ok (.putfield 15, 3) := by decide +kernel
theorem dX5_growFrom_82 : decode cX5_growFrom 82 = .ok (.aload_n 0, 1) := by decide +kernel
theorem dX5_growFrom_83 : decode cX5_growFrom 83 = .ok (.dup, 1) := by decide +kernel
theorem dX5_growFrom_84 : decode cX5_growFrom 84 = .ok (.getfield 19, 3) := by decide +kernel
theorem dX5_growFrom_87 : decode cX5_growFrom 87 = .ok (.iload 11, 2) := by decide +kernel
theorem dX5_growFrom_89 : decode cX5_growFrom 89 = .ok (.iadd, 1) := by decide +kernel
theorem dX5_growFrom_90 : decode cX5_growFrom 90 = .ok (.putfield 19, 3) := by decide +kernel
theorem dX5_growFrom_93 : decode cX5_growFrom 93 = .ok (.iload 6, 2) := by decide +kernel
theorem dX5_growFrom_95 : decode cX5_growFrom 95 = .ok (.iload 9, 2) := by decide +kernel
theorem dX5_growFrom_97 : decode cX5_growFrom 97 = .ok (.iload 10, 2) := by decide +kernel
theorem dX5_growFrom_99 : decode cX5_growFrom 99 = .ok (.iadd, 1) := by decide +kernel
theorem dX5_growFrom_100 : decode cX5_growFrom 100 = .ok (.iload 8, 2) := by decide +kernel
theorem dX5_growFrom_102 : decode cX5_growFrom 102 = .ok (.isub, 1) := by decide +kernel
theorem dX5_growFrom_103 : decode cX5_growFrom 103 = .ok (.iload 11, 2) := by decide +kernel
theorem dX5_growFrom_105 : decode cX5_growFrom 105 = .ok (.isub, 1) := by decide +kernel
theorem dX5_growFrom_106 : decode cX5_growFrom 106 = .ok (.iadd, 1) := by decide +kernel
theorem dX5_growFrom_107 : decode cX5_growFrom 107 = .ok (.istore 6, 2) := by decide +kernel
theorem dX5_growFrom_109 : decode cX5_growFrom 109 = .ok (.iinc 7 1, 3) := by decide +kernel
theorem dX5_growFrom_112 : decode cX5_growFrom 112 = .ok (.goto (-101), 3) := by decide +kernel
theorem dX5_growFrom_115 : decode cX5_growFrom 115 = .ok (.return_, 1) := by decide +kernel
theorem dX5_grownPart_0 : decode cX5_grownPart 0 = .ok (.iload_n 0, 1) := by decide +kernel
theorem dX5_grownPart_1 : decode cX5_grownPart 1 = .ok (.tableswitch 54 0 2 #[27, 36, 45], 27) := by decide +kernel
theorem dX5_grownPart_28 : decode cX5_grownPart 28 = .ok (.iload_n 2, 1) := by decide +kernel
theorem dX5_grownPart_29 : decode cX5_grownPart 29 = .ok (.iload_n 3, 1) := by decide +kernel
theorem dX5_grownPart_30 : decode cX5_grownPart 30 = .ok (.invokestatic 33, 3) := by decide +kernel
theorem dX5_grownPart_33 : decode cX5_grownPart 33 = .ok (.iload 4, 2) := by decide +kernel
theorem dX5_grownPart_35 : decode cX5_grownPart 35 = .ok (.iadd, 1) := by decide +kernel
theorem dX5_grownPart_36 : decode cX5_grownPart 36 = .ok (.ireturn, 1) := by decide +kernel
theorem dX5_grownPart_37 : decode cX5_grownPart 37 = .ok (.iload_n 2, 1) := by decide +kernel
theorem dX5_grownPart_38 : decode cX5_grownPart 38 = .ok (.iload 4, 2) := by decide +kernel
theorem dX5_grownPart_40 : decode cX5_grownPart 40 = .ok (.iadd, 1) := by decide +kernel
theorem dX5_grownPart_41 : decode cX5_grownPart 41 = .ok (.iload_n 3, 1) := by decide +kernel
theorem dX5_grownPart_42 : decode cX5_grownPart 42 = .ok (.invokestatic 33, 3) := by decide +kernel
theorem dX5_grownPart_45 : decode cX5_grownPart 45 = .ok (.ireturn, 1) := by decide +kernel
theorem dX5_grownPart_46 : decode cX5_grownPart 46 = .ok (.iload_n 2, 1) := by decide +kernel
theorem dX5_grownPart_47 : decode cX5_grownPart 47 = .ok (.iload_n 3, 1) := by decide +kernel
theorem dX5_grownPart_48 : decode cX5_grownPart 48 = .ok (.iload 4, 2) := by decide +kernel
theorem dX5_grownPart_50 : decode cX5_grownPart 50 = .ok (.iadd, 1) := by decide +kernel
theorem dX5_grownPart_51 : decode cX5_grownPart 51 = .ok (.invokestatic 33, 3) := by decide +kernel
theorem dX5_grownPart_54 : decode cX5_grownPart 54 = .ok (.ireturn, 1) := by decide +kernel
theorem dX5_grownPart_55 : decode cX5_grownPart 55 = .ok (.iload_n 2, 1) := by decide +kernel
theorem dX5_grownPart_56 : decode cX5_grownPart 56 = .ok (.iload_n 3, 1) := by decide +kernel
theorem dX5_grownPart_57 : decode cX5_grownPart 57 = .ok (.invokestatic 33, 3) := by decide +kernel
theorem dX5_grownPart_60 : decode cX5_grownPart 60 = .ok (.iload 4, 2) := by decide +kernel
theorem dX5_grownPart_62 : decode cX5_grownPart 62 = .ok (.iload_n 1, 1) := by decide +kernel
theorem dX5_grownPart_63 : decode cX5_grownPart 63 = .ok (.iload_n 2, 1) := by decide +kernel
theorem dX5_grownPart_64 : decode cX5_grownPart 64 = .ok (.if_icmp .ne 12, 3) := by decide +kernel
theorem dX5_grownPart_67 : decode cX5_grownPart 67 = .ok (.iload_n 2, 1) := by decide +kernel
theorem dX5_grownPart_68 : decode cX5_grownPart 68 = .ok (.iload_n 3, 1) := by decide +kernel
theorem dX5_grownPart_69 : decode cX5_grownPart 69 = .ok (.if_icmp .ne 7, 3) := by decide +kernel
theorem dX5_grownPart_72 : decode cX5_grownPart 72 = .ok (.iconst 1, 1) := by decide +kernel
theorem dX5_grownPart_73 : decode cX5_grownPart 73 = .ok (.goto 4, 3) := by decide +kernel
theorem dX5_grownPart_76 : decode cX5_grownPart 76 = .ok (.iconst 0, 1) := by decide +kernel
theorem dX5_grownPart_77 : decode cX5_grownPart 77 = .ok (.invokestatic 39, 3) := by decide +kernel
theorem dX5_grownPart_80 : decode cX5_grownPart 80 = .ok (.iadd, 1) := by decide +kernel
theorem dX5_grownPart_81 : decode cX5_grownPart 81 = .ok (.ireturn, 1) := by decide +kernel
theorem dX5_goBackFrom_0 : decode cX5_goBackFrom 0 = .ok (.aload_n 0, 1) := by decide +kernel
theorem dX5_goBackFrom_1 : decode cX5_goBackFrom 1 = .ok (.aload_n 1, 1) := by decide +kernel
theorem dX5_goBackFrom_2 : decode cX5_goBackFrom 2 = .ok (.getfield 15, 3) := by decide +kernel
theorem dX5_goBackFrom_5 : decode cX5_goBackFrom 5 = .ok (.putfield 15, 3) := by decide +kernel
theorem dX5_goBackFrom_8 : decode cX5_goBackFrom 8 = .ok (.aload_n 0, 1) := by decide +kernel
theorem dX5_goBackFrom_9 : decode cX5_goBackFrom 9 = .ok (.iconst 0, 1) := by decide +kernel
theorem dX5_goBackFrom_10 : decode cX5_goBackFrom 10 = .ok (.putfield 19, 3) := by decide +kernel
theorem dX5_goBackFrom_13 : decode cX5_goBackFrom 13 = .ok (.iconst 0, 1) := by decide +kernel
theorem dX5_goBackFrom_14 : decode cX5_goBackFrom 14 = .ok (.istore 5, 2) := by decide +kernel
theorem dX5_goBackFrom_16 : decode cX5_goBackFrom 16 = .ok (.aload_n 1, 1) := by decide +kernel
theorem dX5_goBackFrom_17 : decode cX5_goBackFrom 17 = .ok (.getfield 15, 3) := by decide +kernel
theorem dX5_goBackFrom_20 : decode cX5_goBackFrom 20 = .ok (.iconst 1, 1) := by decide +kernel
theorem dX5_goBackFrom_21 : decode cX5_goBackFrom 21 = .ok (.isub, 1) := by decide +kernel
theorem dX5_goBackFrom_22 : decode cX5_goBackFrom 22 = .ok (.istore 6, 2) := by decide +kernel
theorem dX5_goBackFrom_24 : decode cX5_goBackFrom 24 = .ok (.iload 6, 2) := by decide +kernel
theorem dX5_goBackFrom_26 : decode cX5_goBackFrom 26 = .ok (.ifCond .lt 106, 3) := by decide +kernel
theorem dX5_goBackFrom_29 : decode cX5_goBackFrom 29 = .ok (.aload_n 1, 1) := by decide +kernel
theorem dX5_goBackFrom_30 : decode cX5_goBackFrom 30 = .ok (.iload 6, 2) := by decide +kernel
theorem dX5_goBackFrom_32 : decode cX5_goBackFrom 32 = .ok (.invokevirtual 25, 3) := by decide +kernel
theorem dX5_goBackFrom_35 : decode cX5_goBackFrom 35 = .ok (.istore 7, 2) := by decide +kernel
theorem dX5_goBackFrom_37 : decode cX5_goBackFrom 37 = .ok (.aload_n 2, 1) := by decide +kernel
theorem dX5_goBackFrom_38 : decode cX5_goBackFrom 38 = .ok (.iload 6, 2) := by decide +kernel
theorem dX5_goBackFrom_40 : decode cX5_goBackFrom 40 = .ok (.invokevirtual 25, 3) := by decide +kernel
theorem dX5_goBackFrom_43 : decode cX5_goBackFrom 43 = .ok (.istore 8, 2) := by decide +kernel
theorem dX5_goBackFrom_45 : decode cX5_goBackFrom 45 = .ok (.aload_n 3, 1) := by decide +kernel
theorem dX5_goBackFrom_46 : decode cX5_goBackFrom 46 = .ok (.iload 6, 2) := by decide +kernel
theorem dX5_goBackFrom_48 : decode cX5_goBackFrom 48 = .ok (.invokevirtual 25, 3) := by decide +kernel
theorem dX5_goBackFrom_51 : decode cX5_goBackFrom 51 = .ok (.istore 9, 2) := by decide +kernel
theorem dX5_goBackFrom_53 : decode cX5_goBackFrom 53 = .ok (.iload 4, 2) := by decide +kernel
theorem dX5_goBackFrom_55 : decode cX5_goBackFrom 55 = .ok (.iload 7, 2) := by decide +kernel
theorem dX5_goBackFrom_57 : decode cX5_goBackFrom 57 = .ok (.iload 8, 2) := by decide +kernel
theorem dX5_goBackFrom_59 : decode cX5_goBackFrom 59 = .ok (.iload 9, 2) := by decide +kernel
theorem dX5_goBackFrom_61 : decode cX5_goBackFrom 61 = .ok (.iload 5, 2) := by decide +kernel
theorem dX5_goBackFrom_63 : decode cX5_goBackFrom 63 = .ok (.invokestatic 42, 3) := by decide +kernel
theorem dX5_goBackFrom_66 : decode cX5_goBackFrom 66 = .ok (.istore 10, 2) := by decide +kernel
theorem dX5_goBackFrom_68 : decode cX5_goBackFrom 68 = .ok (.aload_n 0, 1) := by decide +kernel
theorem dX5_goBackFrom_69 : decode cX5_goBackFrom 69 = .ok (.getfield 9, 3) := by decide +kernel
theorem dX5_goBackFrom_72 : decode cX5_goBackFrom 72 = .ok (.iload 6, 2) := by decide +kernel
theorem dX5_goBackFrom_74 : decode cX5_goBackFrom 74 = .ok (.iload 10, 2) := by decide +kernel
theorem dX5_goBackFrom_76 : decode cX5_goBackFrom 76 = .ok (.iastore, 1) := by decide +kernel
theorem dX5_goBackFrom_77 : decode cX5_goBackFrom 77 = .ok (.aload_n 0, 1) := by decide +kernel
theorem dX5_goBackFrom_78 : decode cX5_goBackFrom 78 = .ok (.dup, 1) := by decide +kernel
theorem dX5_goBackFrom_79 : decode cX5_goBackFrom 79 = .ok (.getfield 19, 3) := by decide +kernel
theorem dX5_goBackFrom_82 : decode cX5_goBackFrom 82 = .ok (.iload 10, 2) := by decide +kernel
theorem dX5_goBackFrom_84 : decode cX5_goBackFrom 84 = .ok (.iadd, 1) := by decide +kernel
theorem dX5_goBackFrom_85 : decode cX5_goBackFrom 85 = .ok (.putfield 19, 3) := by decide +kernel
theorem dX5_goBackFrom_88 : decode cX5_goBackFrom 88 = .ok (.iload 10, 2) := by decide +kernel
theorem dX5_goBackFrom_90 : decode cX5_goBackFrom 90 = .ok (.ifCond .ne 20, 3) := by decide +kernel
theorem dX5_goBackFrom_93 : decode cX5_goBackFrom 93 = .ok (.aload_n 0, 1) := by decide +kernel
theorem dX5_goBackFrom_94 : decode cX5_goBackFrom 94 = .ok (.getfield 15, 3) := by decide +kernel
theorem dX5_goBackFrom_97 : decode cX5_goBackFrom 97 = .ok (.iload 6, 2) := by decide +kernel
theorem dX5_goBackFrom_99 : decode cX5_goBackFrom 99 = .ok (.iconst 1, 1) := by decide +kernel
theorem dX5_goBackFrom_100 : decode cX5_goBackFrom 100 = .ok (.iadd, 1) := by decide +kernel
theorem dX5_goBackFrom_101 : decode cX5_goBackFrom 101 = .ok (.if_icmp .ne 9, 3) := by decide +kernel
theorem dX5_goBackFrom_104 : decode cX5_goBackFrom 104 = .ok (.aload_n 0, 1) := by decide +kernel
theorem dX5_goBackFrom_105 : decode cX5_goBackFrom 105 = .ok (.iload 6, 2) := by decide +kernel
theorem dX5_goBackFrom_107 : decode cX5_goBackFrom 107 = .ok (.putfield 15, 3) := by decide +kernel
theorem dX5_goBackFrom_110 : decode cX5_goBackFrom 110 = .ok (.iload 5, 2) := by decide +kernel
theorem dX5_goBackFrom_112 : decode cX5_goBackFrom 112 = .ok (.iload 7, 2) := by decide +kernel
theorem dX5_goBackFrom_114 : decode cX5_goBackFrom 114 = .ok (.iload 10, 2) := by decide +kernel
theorem dX5_goBackFrom_116 : decode cX5_goBackFrom 116 = .ok (.iadd, 1) := by decide +kernel
theorem dX5_goBackFrom_117 : decode cX5_goBackFrom 117 = .ok (.iload 8, 2) := by decide +kernel
theorem dX5_goBackFrom_119 : decode cX5_goBackFrom 119 = .ok (.isub, 1) := by decide +kernel
theorem dX5_goBackFrom_120 : decode cX5_goBackFrom 120 = .ok (.iload 9, 2) := by decide +kernel
theorem dX5_goBackFrom_122 : decode cX5_goBackFrom 122 = .ok (.isub, 1) := by decide +kernel
theorem dX5_goBackFrom_123 : decode cX5_goBackFrom 123 = .ok (.iadd, 1) := by decide +kernel
theorem dX5_goBackFrom_124 : decode cX5_goBackFrom 124 = .ok (.istore 5, 2) := by decide +kernel
theorem dX5_goBackFrom_126 : decode cX5_goBackFrom 126 = .ok (.iinc 6 (-1), 3) := by decide +kernel
theorem dX5_goBackFrom_129 : decode cX5_goBackFrom 129 = .ok (.goto (-105), 3) := by decide +kernel
theorem dX5_goBackFrom_132 : decode cX5_goBackFrom 132 = .ok (.iload 5, 2) := by decide +kernel
theorem dX5_goBackFrom_134 : decode cX5_goBackFrom 134 = .ok (.ireturn, 1) := by decide +kernel
theorem dX5_formerPart_0 : decode cX5_formerPart 0 = .ok (.iload_n 0, 1) := by decide +kernel
theorem dX5_formerPart_1 : decode cX5_formerPart 1 = .ok (.tableswitch 54 0 2 #[27, 36, 45], 27) := by decide +kernel
theorem dX5_formerPart_28 : decode cX5_formerPart 28 = .ok (.iload_n 2, 1) := by decide +kernel
theorem dX5_formerPart_29 : decode cX5_formerPart 29 = .ok (.iload_n 3, 1) := by decide +kernel
theorem dX5_formerPart_30 : decode cX5_formerPart 30 = .ok (.invokestatic 39, 3) := by decide +kernel
theorem dX5_formerPart_33 : decode cX5_formerPart 33 = .ok (.iload 4, 2) := by decide +kernel
theorem dX5_formerPart_35 : decode cX5_formerPart 35 = .ok (.isub, 1) := by decide +kernel
theorem dX5_formerPart_36 : decode cX5_formerPart 36 = .ok (.ireturn, 1) := by decide +kernel
theorem dX5_formerPart_37 : decode cX5_formerPart 37 = .ok (.iload_n 2, 1) := by decide +kernel
theorem dX5_formerPart_38 : decode cX5_formerPart 38 = .ok (.iload_n 3, 1) := by decide +kernel
theorem dX5_formerPart_39 : decode cX5_formerPart 39 = .ok (.iload 4, 2) := by decide +kernel
theorem dX5_formerPart_41 : decode cX5_formerPart 41 = .ok (.isub, 1) := by decide +kernel
theorem dX5_formerPart_42 : decode cX5_formerPart 42 = .ok (.invokestatic 39, 3) := by decide +kernel
theorem dX5_formerPart_45 : decode cX5_formerPart 45 = .ok (.ireturn, 1) := by decide +kernel
theorem dX5_formerPart_46 : decode cX5_formerPart 46 = .ok (.iload_n 2, 1) := by decide +kernel
theorem dX5_formerPart_47 : decode cX5_formerPart 47 = .ok (.iload 4, 2) := by decide +kernel
theorem dX5_formerPart_49 : decode cX5_formerPart 49 = .ok (.isub, 1) := by decide +kernel
theorem dX5_formerPart_50 : decode cX5_formerPart 50 = .ok (.iload_n 3, 1) := by decide +kernel
theorem dX5_formerPart_51 : decode cX5_formerPart 51 = .ok (.invokestatic 39, 3) := by decide +kernel
theorem dX5_formerPart_54 : decode cX5_formerPart 54 = .ok (.ireturn, 1) := by decide +kernel
theorem dX5_formerPart_55 : decode cX5_formerPart 55 = .ok (.iload_n 2, 1) := by decide +kernel
theorem dX5_formerPart_56 : decode cX5_formerPart 56 = .ok (.iload_n 3, 1) := by decide +kernel
theorem dX5_formerPart_57 : decode cX5_formerPart 57 = .ok (.invokestatic 39, 3) := by decide +kernel
theorem dX5_formerPart_60 : decode cX5_formerPart 60 = .ok (.iload 4, 2) := by decide +kernel
theorem dX5_formerPart_62 : decode cX5_formerPart 62 = .ok (.iload_n 1, 1) := by decide +kernel
theorem dX5_formerPart_63 : decode cX5_formerPart 63 = .ok (.iload_n 2, 1) := by decide +kernel
theorem dX5_formerPart_64 : decode cX5_formerPart 64 = .ok (.if_icmp .ne 12, 3) := by decide +kernel
theorem dX5_formerPart_67 : decode cX5_formerPart 67 = .ok (.iload_n 2, 1) := by decide +kernel
theorem dX5_formerPart_68 : decode cX5_formerPart 68 = .ok (.iload_n 3, 1) := by decide +kernel
theorem dX5_formerPart_69 : decode cX5_formerPart 69 = .ok (.if_icmp .ne 7, 3) := by decide +kernel
theorem dX5_formerPart_72 : decode cX5_formerPart 72 = .ok (.iconst 1, 1) := by decide +kernel
theorem dX5_formerPart_73 : decode cX5_formerPart 73 = .ok (.goto 4, 3) := by decide +kernel
theorem dX5_formerPart_76 : decode cX5_formerPart 76 = .ok (.iconst 0, 1) := by decide +kernel
theorem dX5_formerPart_77 : decode cX5_formerPart 77 = .ok (.invokestatic 39, 3) := by decide +kernel
theorem dX5_formerPart_80 : decode cX5_formerPart 80 = .ok (.isub, 1) := by decide +kernel
theorem dX5_formerPart_81 : decode cX5_formerPart 81 = .ok (.ireturn, 1) := by decide +kernel
theorem dX5_goesOnFrom_0 : decode cX5_goesOnFrom 0 = .ok (.iload_n 2, 1) := by decide +kernel
theorem dX5_goesOnFrom_1 : decode cX5_goesOnFrom 1 = .ok (.ifCond .eq 11, 3) := by decide +kernel
theorem dX5_goesOnFrom_4 : decode cX5_goesOnFrom 4 = .ok (.aload_n 0, 1) := by decide +kernel
theorem dX5_goesOnFrom_5 : decode cX5_goesOnFrom 5 = .ok (.aload_n 1, 1) := by decide +kernel
theorem dX5_goesOnFrom_6 : decode cX5_goesOnFrom 6 = .ok (.invokevirtual 45, 3) := by decide +kernel
theorem dX5_goesOnFrom_9 : decode cX5_goesOnFrom 9 = .ok (.goto 8, 3) := by decide +kernel
theorem dX5_goesOnFrom_12 : decode cX5_goesOnFrom 12 = .ok (.aload_n 0, 1) := by decide +kernel
theorem dX5_goesOnFrom_13 : decode cX5_goesOnFrom 13 = .ok (.aload_n 1, 1) := by decide +kernel
theorem dX5_goesOnFrom_14 : decode cX5_goesOnFrom 14 = .ok (.invokevirtual 49, 3) := by decide +kernel
theorem dX5_goesOnFrom_17 : decode cX5_goesOnFrom 17 = .ok (.ireturn, 1) := by decide +kernel
theorem dX5_goesOnLevel_0 : decode cX5_goesOnLevel 0 = .ok (.aload_n 0, 1) := by decide +kernel
theorem dX5_goesOnLevel_1 : decode cX5_goesOnLevel 1 = .ok (.getfield 15, 3) := by decide +kernel
theorem dX5_goesOnLevel_4 : decode cX5_goesOnLevel 4 = .ok (.aload_n 1, 1) := by decide +kernel
theorem dX5_goesOnLevel_5 : decode cX5_goesOnLevel 5 = .ok (.getfield 15, 3) := by decide +kernel
theorem dX5_goesOnLevel_8 : decode cX5_goesOnLevel 8 = .ok (.invokestatic 33, 3) := by decide +kernel
theorem dX5_goesOnLevel_11 : decode cX5_goesOnLevel 11 = .ok (.istore_n 2, 1) := by decide +kernel
theorem dX5_goesOnLevel_12 : decode cX5_goesOnLevel 12 = .ok (.iconst 0, 1) := by decide +kernel
theorem dX5_goesOnLevel_13 : decode cX5_goesOnLevel 13 = .ok (.istore_n 3, 1) := by decide +kernel
theorem dX5_goesOnLevel_14 : decode cX5_goesOnLevel 14 = .ok (.iload_n 3, 1) := by decide +kernel
theorem dX5_goesOnLevel_15 : decode cX5_goesOnLevel 15 = .ok (.iload_n 2, 1) := by decide +kernel
theorem dX5_goesOnLevel_16 : decode cX5_goesOnLevel 16 = .ok (.if_icmp .ge 40, 3) := by decide +kernel
theorem dX5_goesOnLevel_19 : decode cX5_goesOnLevel 19 = .ok (.aload_n 1, 1) := by decide +kernel
theorem dX5_goesOnLevel_20 : decode cX5_goesOnLevel 20 = .ok (.iload_n 3, 1) := by decide +kernel
theorem dX5_goesOnLevel_21 : decode cX5_goesOnLevel 21 = .ok (.invokevirtual 25, 3) := by decide +kernel
theorem dX5_goesOnLevel_24 : decode cX5_goesOnLevel 24 = .ok (.istore 4, 2) := by decide +kernel
theorem dX5_goesOnLevel_26 : decode cX5_goesOnLevel 26 = .ok (.aload_n 0, 1) := by decide +kernel
theorem dX5_goesOnLevel_27 : decode cX5_goesOnLevel 27 = .ok (.iload_n 3, 1) := by decide +kernel
theorem dX5_goesOnLevel_28 : decode cX5_goesOnLevel 28 = .ok (.invokevirtual 25, 3) := by decide +kernel
theorem dX5_goesOnLevel_31 : decode cX5_goesOnLevel 31 = .ok (.iload 4, 2) := by decide +kernel
theorem dX5_goesOnLevel_33 : decode cX5_goesOnLevel 33 = .ok (.if_icmp .lt 15, 3) := by decide +kernel
theorem dX5_goesOnLevel_36 : decode cX5_goesOnLevel 36 = .ok (.iload 4, 2) := by decide +kernel
theorem dX5_goesOnLevel_38 : decode cX5_goesOnLevel 38 = .ok (.aload_n 0, 1) := by decide +kernel
theorem dX5_goesOnLevel_39 : decode cX5_goesOnLevel 39 = .ok (.iload_n 3, 1) := by decide +kernel
theorem dX5_goesOnLevel_40 : decode cX5_goesOnLevel 40 = .ok (.iconst 1, 1) := by decide +kernel
theorem dX5_goesOnLevel_41 : decode cX5_goesOnLevel 41 = .ok (.iadd, 1) := by decide +kernel
theorem dX5_goesOnLevel_42 : decode cX5_goesOnLevel 42 = .ok (.invokevirtual 25, 3) := by decide +kernel
theorem dX5_goesOnLevel_45 : decode cX5_goesOnLevel 45 = .ok (.if_icmp .ge 5, 3) := by decide +kernel
theorem dX5_goesOnLevel_48 : decode cX5_goesOnLevel 48 = .ok (.iconst 0, 1) := by decide +kernel
theorem dX5_goesOnLevel_49 : decode cX5_goesOnLevel 49 = .ok (.ireturn, 1) := by decide +kernel
theorem dX5_goesOnLevel_50 : decode cX5_goesOnLevel 50 = .ok (.iinc 3 1, 3) := by decide +kernel
theorem dX5_goesOnLevel_53 : decode cX5_goesOnLevel 53 = .ok (.goto (-39), 3) := by decide +kernel
theorem dX5_goesOnLevel_56 : decode cX5_goesOnLevel 56 = .ok (.iconst 1, 1) := by decide +kernel
theorem dX5_goesOnLevel_57 : decode cX5_goesOnLevel 57 = .ok (.ireturn, 1) := by decide +kernel
theorem dX5_goesOnUpright_0 : decode cX5_goesOnUpright 0 = .ok (.aload_n 0, 1) := by decide +kernel
theorem dX5_goesOnUpright_1 : decode cX5_goesOnUpright 1 = .ok (.getfield 15, 3) := by decide +kernel
theorem dX5_goesOnUpright_4 : decode cX5_goesOnUpright 4 = .ok (.aload_n 1, 1) := by decide +kernel
theorem dX5_goesOnUpright_5 : decode cX5_goesOnUpright 5 = .ok (.getfield 15, 3) := by decide +kernel
theorem dX5_goesOnUpright_8 : decode cX5_goesOnUpright 8 = .ok (.invokestatic 33, 3) := by decide +kernel
theorem dX5_goesOnUpright_11 : decode cX5_goesOnUpright 11 = .ok (.istore_n 2, 1) := by decide +kernel
theorem dX5_goesOnUpright_12 : decode cX5_goesOnUpright 12 = .ok (.iconst 0, 1) := by decide +kernel
theorem dX5_goesOnUpright_13 : decode cX5_goesOnUpright 13 = .ok (.istore_n 3, 1) := by decide +kernel
theorem dX5_goesOnUpright_14 : decode cX5_goesOnUpright 14 = .ok (.iload_n 3, 1) := by decide +kernel
theorem dX5_goesOnUpright_15 : decode cX5_goesOnUpright 15 = .ok (.iload_n 2, 1) := by decide +kernel
theorem dX5_goesOnUpright_16 : decode cX5_goesOnUpright 16 = .ok (.if_icmp .ge 35, 3) := by decide +kernel
theorem dX5_goesOnUpright_19 : decode cX5_goesOnUpright 19 = .ok (.aload_n 0, 1) := by decide +kernel
theorem dX5_goesOnUpright_20 : decode cX5_goesOnUpright 20 = .ok (.iload_n 3, 1) := by decide +kernel
theorem dX5_goesOnUpright_21 : decode cX5_goesOnUpright 21 = .ok (.invokevirtual 25, 3) := by decide +kernel
theorem dX5_goesOnUpright_24 : decode cX5_goesOnUpright 24 = .ok (.aload_n 1, 1) := by decide +kernel
theorem dX5_goesOnUpright_25 : decode cX5_goesOnUpright 25 = .ok (.iload_n 3, 1) := by decide +kernel
theorem dX5_goesOnUpright_26 : decode cX5_goesOnUpright 26 = .ok (.invokevirtual 25, 3) := by decide +kernel
theorem dX5_goesOnUpright_29 : decode cX5_goesOnUpright 29 = .ok (.isub, 1) := by decide +kernel
theorem dX5_goesOnUpright_30 : decode cX5_goesOnUpright 30 = .ok (.istore 4, 2) := by decide +kernel
theorem dX5_goesOnUpright_32 : decode cX5_goesOnUpright 32 = .ok (.iload 4, 2) := by decide +kernel
theorem dX5_goesOnUpright_34 : decode cX5_goesOnUpright 34 = .ok (.ifCond .lt 9, 3) := by decide +kernel
theorem dX5_goesOnUpright_37 : decode cX5_goesOnUpright 37 = .ok (.iload 4, 2) := by decide +kernel
theorem dX5_goesOnUpright_39 : decode cX5_goesOnUpright 39 = .ok (.iconst 1, 1) := by decide +kernel
theorem dX5_goesOnUpright_40 : decode cX5_goesOnUpright 40 = .ok (.if_icmp .le 5, 3) := by decide +kernel
theorem dX5_goesOnUpright_43 : decode cX5_goesOnUpright 43 = .ok (.iconst 0, 1) := by decide +kernel
theorem dX5_goesOnUpright_44 : decode cX5_goesOnUpright 44 = .ok (.ireturn, 1) := by decide +kernel
theorem dX5_goesOnUpright_45 : decode cX5_goesOnUpright 45 = .ok (.iinc 3 1, 3) := by decide +kernel
theorem dX5_goesOnUpright_48 : decode cX5_goesOnUpright 48 = .ok (.goto (-34), 3) := by decide +kernel
theorem dX5_goesOnUpright_51 : decode cX5_goesOnUpright 51 = .ok (.iconst 1, 1) := by decide +kernel
theorem dX5_goesOnUpright_52 : decode cX5_goesOnUpright 52 = .ok (.ireturn, 1) := by decide +kernel
theorem dX5_standardFillings_0 : decode cX5_standardFillings 0 = .ok (.lconst 1, 1) := by decide +kernel
theorem dX5_standardFillings_1 : decode cX5_standardFillings 1 = .ok (.lstore_n 1, 1) := by decide +kernel
theorem dX5_standardFillings_2 : decode cX5_standardFillings 2 = .ok (.iconst 2, 1) := by decide +kernel
theorem dX5_standardFillings_3 : decode cX5_standardFillings 3 = .ok (.istore_n 3, 1) := by decide +kernel
theorem dX5_standardFillings_4 : decode cX5_standardFillings 4 = .ok (.iload_n 3, 1) := by decide +kernel
theorem dX5_standardFillings_5 : decode cX5_standardFillings 5 = .ok (.aload_n 0, 1) := by decide +kernel
theorem dX5_standardFillings_6 : decode cX5_standardFillings 6 = .ok (.getfield 19, 3) := by decide +kernel
theorem dX5_standardFillings_9 : decode cX5_standardFillings 9 = .ok (.if_icmp .gt 14, 3) := by decide +kernel
theorem dX5_standardFillings_12 : decode cX5_standardFillings 12 = .ok (.lload_n 1, 1) := by decide +kernel
theorem dX5_standardFillings_13 : decode cX5_standardFillings 13 = .ok (.iload_n 3, 1) := by decide +kernel
theorem dX5_standardFillings_14 : decode cX5_standardFillings 14 = .ok (.i2l, 1) := by decide +kernel
theorem dX5_standardFillings_15 : decode cX5_standardFillings 15 = .ok (.lmul, 1) := by decide +kernel
theorem dX5_standardFillings_16 : decode cX5_standardFillings 16 = .ok (.lstore_n 1, 1) := by decide +kernel
theorem dX5_standardFillings_17 : decode cX5_standardFillings 17 = .ok (.iinc 3 1, 3) := by decide +kernel
theorem dX5_standardFillings_20 : decode cX5_standardFillings 20 = .ok (.goto (-16), 3) := by decide +kernel
theorem dX5_standardFillings_23 : decode cX5_standardFillings 23 = .ok (.lconst 1, 1) := by decide +kernel
theorem dX5_standardFillings_24 : decode cX5_standardFillings 24 = .ok (.lstore_n 3, 1) := by decide +kernel
theorem dX5_standardFillings_25 : decode cX5_standardFillings 25 = .ok (.iconst 0, 1) := by decide +kernel
theorem dX5_standardFillings_26 : decode cX5_standardFillings 26 = .ok (.istore 5, 2) := by decide +kernel
theorem dX5_standardFillings_28 : decode cX5_standardFillings 28 = .ok (.iload 5, 2) := by decide +kernel
theorem dX5_standardFillings_30 : decode cX5_standardFillings 30 = .ok (.aload_n 0, 1) := by decide +kernel
theorem dX5_standardFillings_31 : decode cX5_standardFillings 31 = .ok (.getfield 15, 3) := by decide +kernel
theorem dX5_standardFillings_34 : decode cX5_standardFillings 34 = .ok (.if_icmp .ge 56, 3) := by decide +kernel
theorem dX5_standardFillings_37 : decode cX5_standardFillings 37 = .ok (.iconst 0, 1) := by decide +kernel
theorem dX5_standardFillings_38 : decode cX5_standardFillings 38 = .ok (.istore 6, 2) := by decide +kernel
theorem dX5_standardFillings_40 : decode cX5_standardFillings 40 = .ok (.iload 6, 2) := by decide +kernel
theorem dX5_standardFillings_42 : decode cX5_standardFillings 42 = .ok (.aload_n 0, 1) := by decide +kernel
theorem dX5_standardFillings_43 : decode cX5_standardFillings 43 = .ok (.getfield 9, 3) := by decide +kernel
theorem dX5_standardFillings_46 : decode cX5_standardFillings 46 = .ok (.iload 5, 2) := by decide +kernel
theorem dX5_standardFillings_48 : decode cX5_standardFillings 48 = .ok (.iaload, 1) := by decide +kernel
theorem dX5_standardFillings_49 : decode cX5_standardFillings 49 = .ok (.if_icmp .ge 35, 3) := by decide +kernel
theorem dX5_standardFillings_52 : decode cX5_standardFillings 52 = .ok (.lload_n 3, 1) := by decide +kernel
theorem dX5_standardFillings_53 : decode cX5_standardFillings 53 = .ok (.aload_n 0, 1) := by decide +kernel
theorem dX5_standardFillings_54 : decode cX5_standardFillings 54 = .ok (.getfield 9, 3) := by decide +kernel
theorem dX5_standardFillings_57 : decode cX5_standardFillings 57 = .ok (.iload 5, 2) := by decide +kernel
theorem dX5_standardFillings_59 : decode cX5_standardFillings 59 = .ok (.iaload, 1) := by decide +kernel
theorem dX5_standardFillings_60 : decode cX5_standardFillings 60 = .ok (.iload 6, 2) := by decide +kernel
theorem dX5_standardFillings_62 : decode cX5_standardFillings 62 = .ok (.isub, 1) := by decide +kernel
theorem dX5_standardFillings_63 : decode cX5_standardFillings 63 = .ok (.aload_n 0, 1) := by decide +kernel
theorem dX5_standardFillings_64 : decode cX5_standardFillings 64 = .ok (.iload 6, 2) := by decide +kernel
theorem dX5_standardFillings_66 : decode cX5_standardFillings 66 = .ok (.invokevirtual 52, 3) := by decide +kernel
theorem dX5_standardFillings_69 : decode cX5_standardFillings 69 = .ok (.iadd, 1) := by decide +kernel
theorem dX5_standardFillings_70 : decode cX5_standardFillings 70 = .ok (.iload 5, 2) := by decide +kernel
theorem dX5_standardFillings_72 : decode cX5_standardFillings 72 = .ok (.isub, 1) := by decide +kernel
theorem dX5_standardFillings_73 : decode cX5_standardFillings 73 = .ok (.iconst 1, 1) := by decide +kernel
theorem dX5_standardFillings_74 : decode cX5_standardFillings 74 = .ok (.isub, 1) := by decide +kernel
theorem dX5_standardFillings_75 : decode cX5_standardFillings 75 = .ok (.i2l, 1) := by decide +kernel
theorem dX5_standardFillings_76 : decode cX5_standardFillings 76 = .ok (.lmul, 1) := by decide +kernel
theorem dX5_standardFillings_77 : decode cX5_standardFillings 77 = .ok (.lstore_n 3, 1) := by decide +kernel
theorem dX5_standardFillings_78 : decode cX5_standardFillings 78 = .ok (.iinc 6 1, 3) := by decide +kernel
theorem dX5_standardFillings_81 : decode cX5_standardFillings 81 = .ok (.goto (-41), 3) := by decide +kernel
theorem dX5_standardFillings_84 : decode cX5_standardFillings 84 = .ok (.iinc 5 1, 3) := by decide +kernel
theorem dX5_standardFillings_87 : decode cX5_standardFillings 87 = .ok (.goto (-59), 3) := by decide +kernel
theorem dX5_standardFillings_90 : decode cX5_standardFillings 90 = .ok (.lload_n 3, 1) := by decide +kernel
theorem dX5_standardFillings_91 : decode cX5_standardFillings 91 = .ok (.lconst 0, 1) := by decide +kernel
theorem dX5_standardFillings_92 : decode cX5_standardFillings 92 = .ok (.lcmp, 1) := by decide +kernel
theorem dX5_standardFillings_93 : decode cX5_standardFillings 93 = .ok (.ifCond .le 9, 3) := by decide +kernel
theorem dX5_standardFillings_96 : decode cX5_standardFillings 96 = .ok (.lload_n 1, 1) := by decide +kernel
theorem dX5_standardFillings_97 : decode cX5_standardFillings 97 = .ok (.lload_n 3, 1) := by decide +kernel
theorem dX5_standardFillings_98 : decode cX5_standardFillings 98 = .ok (.ldiv, 1) := by decide +kernel
theorem dX5_standardFillings_99 : decode cX5_standardFillings 99 = .ok (.goto 6, 3) := by decide +kernel
theorem dX5_standardFillings_102 : decode cX5_standardFillings 102 = .ok (.ldc2_w 55, 3) := by decide +kernel
theorem dX5_standardFillings_105 : decode cX5_standardFillings 105 = .ok (.lreturn, 1) := by decide +kernel
theorem dX5_productOrWide_0 : decode cX5_productOrWide 0 = .ok (.lconst 1, 1) := by decide +kernel
theorem dX5_productOrWide_1 : decode cX5_productOrWide 1 = .ok (.lstore_n 1, 1) := by decide +kernel
theorem dX5_productOrWide_2 : decode cX5_productOrWide 2 = .ok (.iconst 0, 1) := by decide +kernel
theorem dX5_productOrWide_3 : decode cX5_productOrWide 3 = .ok (.istore_n 3, 1) := by decide +kernel
theorem dX5_productOrWide_4 : decode cX5_productOrWide 4 = .ok (.iload_n 3, 1) := by decide +kernel
theorem dX5_productOrWide_5 : decode cX5_productOrWide 5 = .ok (.aload_n 0, 1) := by decide +kernel
theorem dX5_productOrWide_6 : decode cX5_productOrWide 6 = .ok (.getfield 15, 3) := by decide +kernel
theorem dX5_productOrWide_9 : decode cX5_productOrWide 9 = .ok (.if_icmp .ge 32, 3) := by decide +kernel
theorem dX5_productOrWide_12 : decode cX5_productOrWide 12 = .ok (.lload_n 1, 1) := by decide +kernel
theorem dX5_productOrWide_13 : decode cX5_productOrWide 13 = .ok (.aload_n 0, 1) := by decide +kernel
theorem dX5_productOrWide_14 : decode cX5_productOrWide 14 = .ok (.getfield 9, 3) := by decide +kernel
theorem dX5_productOrWide_17 : decode cX5_productOrWide 17 = .ok (.iload_n 3, 1) := by decide +kernel
theorem dX5_productOrWide_18 : decode cX5_productOrWide 18 = .ok (.iaload, 1) := by decide +kernel
theorem dX5_productOrWide_19 : decode cX5_productOrWide 19 = .ok (.iconst 1, 1) := by decide +kernel
theorem dX5_productOrWide_20 : decode cX5_productOrWide 20 = .ok (.iadd, 1) := by decide +kernel
theorem dX5_productOrWide_21 : decode cX5_productOrWide 21 = .ok (.i2l, 1) := by decide +kernel
theorem dX5_productOrWide_22 : decode cX5_productOrWide 22 = .ok (.lmul, 1) := by decide +kernel
theorem dX5_productOrWide_23 : decode cX5_productOrWide 23 = .ok (.lstore_n 1, 1) := by decide +kernel
theorem dX5_productOrWide_24 : decode cX5_productOrWide 24 = .ok (.lload_n 1, 1) := by decide +kernel
theorem dX5_productOrWide_25 : decode cX5_productOrWide 25 = .ok (.ldc2_w 57, 3) := by decide +kernel
theorem dX5_productOrWide_28 : decode cX5_productOrWide 28 = .ok (.lcmp, 1) := by decide +kernel
theorem dX5_productOrWide_29 : decode cX5_productOrWide 29 = .ok (.ifCond .le 6, 3) := by decide +kernel
theorem dX5_productOrWide_32 : decode cX5_productOrWide 32 = .ok (.bipush (-6), 2) := by decide +kernel
theorem dX5_productOrWide_34 : decode cX5_productOrWide 34 = .ok (.ireturn, 1) := by decide +kernel
theorem dX5_productOrWide_35 : decode cX5_productOrWide 35 = .ok (.iinc 3 1, 3) := by decide +kernel
theorem dX5_productOrWide_38 : decode cX5_productOrWide 38 = .ok (.goto (-34), 3) := by decide +kernel
theorem dX5_productOrWide_41 : decode cX5_productOrWide 41 = .ok (.lload_n 1, 1) := by decide +kernel
theorem dX5_productOrWide_42 : decode cX5_productOrWide 42 = .ok (.l2i, 1) := by decide +kernel
theorem dX5_productOrWide_43 : decode cX5_productOrWide 43 = .ok (.ireturn, 1) := by decide +kernel
theorem dX6_init_0 : decode cX6_init 0 = .ok (.aload_n 0, 1) := by decide +kernel
theorem dX6_init_1 : decode cX6_init 1 = .ok (.invokespecial 3, 3) := by decide +kernel
theorem dX6_init_4 : decode cX6_init 4 = .ok (.aload_n 0, 1) := by decide +kernel
theorem dX6_init_5 : decode cX6_init 5 = .ok (.bipush 60, 2) := by decide +kernel
theorem dX6_init_7 : decode cX6_init 7 = .ok (.newarray .int, 2) := by decide +kernel
theorem dX6_init_9 : decode cX6_init 9 = .ok (.putfield 9, 3) := by decide +kernel
theorem dX6_init_12 : decode cX6_init 12 = .ok (.aload_n 0, 1) := by decide +kernel
theorem dX6_init_13 : decode cX6_init 13 = .ok (.iconst 0, 1) := by decide +kernel
theorem dX6_init_14 : decode cX6_init 14 = .ok (.putfield 15, 3) := by decide +kernel
theorem dX6_init_17 : decode cX6_init 17 = .ok (.return_, 1) := by decide +kernel
theorem dX7_init_0 : decode cX7_init 0 = .ok (.aload_n 0, 1) := by decide +kernel
theorem dX7_init_1 : decode cX7_init 1 = .ok (.invokespecial 5, 3) := by decide +kernel
theorem dX7_init_4 : decode cX7_init 4 = .ok (.aload_n 0, 1) := by decide +kernel
theorem dX7_init_5 : decode cX7_init 5 = .ok (.new 11, 3) := by decide +kernel
theorem dX7_init_8 : decode cX7_init 8 = .ok (.dup, 1) := by decide +kernel
theorem dX7_init_9 : decode cX7_init 9 = .ok (.invokespecial 13, 3) := by decide +kernel
theorem dX7_init_12 : decode cX7_init 12 = .ok (.putfield 14, 3) := by decide +kernel
theorem dX7_init_15 : decode cX7_init 15 = .ok (.aload_n 0, 1) := by decide +kernel
theorem dX7_init_16 : decode cX7_init 16 = .ok (.new 11, 3) := by decide +kernel
theorem dX7_init_19 : decode cX7_init 19 = .ok (.dup, 1) := by decide +kernel
theorem dX7_init_20 : decode cX7_init 20 = .ok (.invokespecial 13, 3) := by decide +kernel
theorem dX7_init_23 : decode cX7_init 23 = .ok (.putfield 18, 3) := by decide +kernel
theorem dX7_init_26 : decode cX7_init 26 = .ok (.aload_n 0, 1) := by decide +kernel
theorem dX7_init_27 : decode cX7_init 27 = .ok (.new 11, 3) := by decide +kernel
theorem dX7_init_30 : decode cX7_init 30 = .ok (.dup, 1) := by decide +kernel
theorem dX7_init_31 : decode cX7_init 31 = .ok (.invokespecial 13, 3) := by decide +kernel
theorem dX7_init_34 : decode cX7_init 34 = .ok (.putfield 21, 3) := by decide +kernel
theorem dX7_init_37 : decode cX7_init 37 = .ok (.aload_n 0, 1) := by decide +kernel
theorem dX7_init_38 : decode cX7_init 38 = .ok (.iconst 0, 1) := by decide +kernel
theorem dX7_init_39 : decode cX7_init 39 = .ok (.putfield 24, 3) := by decide +kernel
theorem dX7_init_42 : decode cX7_init 42 = .ok (.aload_n 0, 1) := by decide +kernel
theorem dX7_init_43 : decode cX7_init 43 = .ok (.new 28, 3) := by decide +kernel
theorem dX7_init_46 : decode cX7_init 46 = .ok (.dup, 1) := by decide +kernel
theorem dX7_init_47 : decode cX7_init 47 = .ok (.invokespecial 30, 3) := by decide +kernel
theorem dX7_init_50 : decode cX7_init 50 = .ok (.putfield 31, 3) := by decide +kernel
theorem dX7_init_53 : decode cX7_init 53 = .ok (.aload_n 0, 1) := by decide +kernel
theorem dX7_init_54 : decode cX7_init 54 = .ok (.iconst 0, 1) := by decide +kernel
theorem dX7_init_55 : decode cX7_init 55 = .ok (.putfield 35, 3) := by decide +kernel
theorem dX7_init_58 : decode cX7_init 58 = .ok (.aload_n 0, 1) := by decide +kernel
theorem dX7_init_59 : decode cX7_init 59 = .ok (.new 38, 3) := by decide +kernel
theorem dX7_init_62 : decode cX7_init 62 = .ok (.dup, 1) := by decide +kernel
theorem dX7_init_63 : decode cX7_init 63 = .ok (.invokespecial 40, 3) := by decide +kernel
theorem dX7_init_66 : decode cX7_init 66 = .ok (.putfield 41, 3) := by decide +kernel
theorem dX7_init_69 : decode cX7_init 69 = .ok (.aload_n 0, 1) := by decide +kernel
theorem dX7_init_70 : decode cX7_init 70 = .ok (.new 45, 3) := by decide +kernel
theorem dX7_init_73 : decode cX7_init 73 = .ok (.dup, 1) := by decide +kernel
theorem dX7_init_74 : decode cX7_init 74 = .ok (.invokespecial 47, 3) := by decide +kernel
theorem dX7_init_77 : decode cX7_init 77 = .ok (.putfield 48, 3) := by decide +kernel
theorem dX7_init_80 : decode cX7_init 80 = .ok (.aload_n 0, 1) := by decide +kernel
theorem dX7_init_81 : decode cX7_init 81 = .ok (.new 52, 3) := by decide +kernel
theorem dX7_init_84 : decode cX7_init 84 = .ok (.dup, 1) := by decide +kernel
theorem dX7_init_85 : decode cX7_init 85 = .ok (.invokespecial 54, 3) := by decide +kernel
theorem dX7_init_88 : decode cX7_init 88 = .ok (.putfield 55, 3) := by decide +kernel
theorem dX7_init_91 : decode cX7_init 91 = .ok (.aload_n 0, 1) := by decide +kernel
theorem dX7_init_92 : decode cX7_init 92 = .ok (.bipush 6, 2) := by decide +kernel
theorem dX7_init_94 : decode cX7_init 94 = .ok (.anewarray 59, 3) := by decide +kernel
theorem dX7_init_97 : decode cX7_init 97 = .ok (.putfield 61, 3) := by decide +kernel
theorem dX7_init_100 : decode cX7_init 100 = .ok (.iconst 0, 1) := by decide +kernel
theorem dX7_init_101 : decode cX7_init 101 = .ok (.istore_n 1, 1) := by decide +kernel
theorem dX7_init_102 : decode cX7_init 102 = .ok (.iload_n 1, 1) := by decide +kernel
theorem dX7_init_103 : decode cX7_init 103 = .ok (.bipush 6, 2) := by decide +kernel
theorem dX7_init_105 : decode cX7_init 105 = .ok (.if_icmp .ge 22, 3) := by decide +kernel
theorem dX7_init_108 : decode cX7_init 108 = .ok (.aload_n 0, 1) := by decide +kernel
theorem dX7_init_109 : decode cX7_init 109 = .ok (.getfield 61, 3) := by decide +kernel
theorem dX7_init_112 : decode cX7_init 112 = .ok (.iload_n 1, 1) := by decide +kernel
theorem dX7_init_113 : decode cX7_init 113 = .ok (.new 59, 3) := by decide +kernel
theorem dX7_init_116 : decode cX7_init 116 = .ok (.dup, 1) := by decide +kernel
theorem dX7_init_117 : decode cX7_init 117 = .ok (.invokespecial 65, 3) := by decide +kernel
theorem dX7_init_120 : decode cX7_init 120 = .ok (.aastore, 1) := by decide +kernel
theorem dX7_init_121 : decode cX7_init 121 = .ok (.iinc 1 1, 3) := by decide +kernel
theorem dX7_init_124 : decode cX7_init 124 = .ok (.goto (-22), 3) := by decide +kernel
theorem dX7_init_127 : decode cX7_init 127 = .ok (.return_, 1) := by decide +kernel
theorem dX7_grid_0 : decode cX7_grid 0 = .ok (.iload_n 1, 1) := by decide +kernel
theorem dX7_grid_1 : decode cX7_grid 1 = .ok (.invokestatic 66, 3) := by decide +kernel
theorem dX7_grid_4 : decode cX7_grid 4 = .ok (.ifCond .eq 10, 3) := by decide +kernel
theorem dX7_grid_7 : decode cX7_grid 7 = .ok (.iload_n 2, 1) := by decide +kernel
theorem dX7_grid_8 : decode cX7_grid 8 = .ok (.invokestatic 66, 3) := by decide +kernel
theorem dX7_grid_11 : decode cX7_grid 11 = .ok (.ifCond .ne 5, 3) := by decide +kernel
theorem dX7_grid_14 : decode cX7_grid 14 = .ok (.iconst (-1), 1) := by decide +kernel
theorem dX7_grid_15 : decode cX7_grid 15 = .ok (.ireturn, 1) := by decide +kernel
theorem dX7_grid_16 : decode cX7_grid 16 = .ok (.bipush 10, 2) := by decide +kernel
theorem dX7_grid_18 : decode cX7_grid 18 = .ok (.aload_n 0, 1) := by decide +kernel
theorem dX7_grid_19 : decode cX7_grid 19 = .ok (.getfield 14, 3) := by decide +kernel
theorem dX7_grid_22 : decode cX7_grid 22 = .ok (.getfield 70, 3) := by decide +kernel
theorem dX7_grid_25 : decode cX7_grid 25 = .ok (.imul, 1) := by decide +kernel
theorem dX7_grid_26 : decode cX7_grid 26 = .ok (.aload_n 0, 1) := by decide +kernel
theorem dX7_grid_27 : decode cX7_grid 27 = .ok (.getfield 14, 3) := by decide +kernel
theorem dX7_grid_30 : decode cX7_grid 30 = .ok (.getfield 74, 3) := by decide +kernel
theorem dX7_grid_33 : decode cX7_grid 33 = .ok (.iadd, 1) := by decide +kernel
theorem dX7_grid_34 : decode cX7_grid 34 = .ok (.istore_n 3, 1) := by decide +kernel
theorem dX7_grid_35 : decode cX7_grid 35 = .ok (.aload_n 0, 1) := by decide +kernel
theorem dX7_grid_36 : decode cX7_grid 36 = .ok (.invokevirtual 77, 3) := by decide +kernel
theorem dX7_grid_39 : decode cX7_grid 39 = .ok (.aload_n 0, 1) := by decide +kernel
theorem dX7_grid_40 : decode cX7_grid 40 = .ok (.getfield 14, 3) := by decide +kernel
theorem dX7_grid_43 : decode cX7_grid 43 = .ok (.iload_n 1, 1) := by decide +kernel
theorem dX7_grid_44 : decode cX7_grid 44 = .ok (.iload_n 2, 1) := by decide +kernel
theorem dX7_grid_45 : decode cX7_grid 45 = .ok (.invokevirtual 80, 3) := by decide +kernel
theorem dX7_grid_48 : decode cX7_grid 48 = .ok (.iload_n 3, 1) := by decide +kernel
theorem dX7_grid_49 : decode cX7_grid 49 = .ok (.ireturn, 1) := by decide +kernel
theorem dX7_put_0 : decode cX7_put 0 = .ok (.aload_n 0, 1) := by decide +kernel
theorem dX7_put_1 : decode cX7_put 1 = .ok (.getfield 14, 3) := by decide +kernel
theorem dX7_put_4 : decode cX7_put 4 = .ok (.iload_n 1, 1) := by decide +kernel
theorem dX7_put_5 : decode cX7_put 5 = .ok (.iload_n 2, 1) := by decide +kernel
theorem dX7_put_6 : decode cX7_put 6 = .ok (.invokevirtual 84, 3) := by decide +kernel
theorem dX7_put_9 : decode cX7_put 9 = .ok (.ifCond .eq 10, 3) := by decide +kernel
theorem dX7_put_12 : decode cX7_put 12 = .ok (.iload_n 3, 1) := by decide +kernel
theorem dX7_put_13 : decode cX7_put 13 = .ok (.invokestatic 88, 3) := by decide +kernel
theorem dX7_put_16 : decode cX7_put 16 = .ok (.ifCond .ne 5, 3) := by decide +kernel
theorem dX7_put_19 : decode cX7_put 19 = .ok (.iconst (-1), 1) := by decide +kernel
theorem dX7_put_20 : decode cX7_put 20 = .ok (.ireturn, 1) := by decide +kernel
theorem dX7_put_21 : decode cX7_put 21 = .ok (.aload_n 0, 1) := by decide +kernel
theorem dX7_put_22 : decode cX7_put 22 = .ok (.getfield 14, 3) := by decide +kernel
theorem dX7_put_25 : decode cX7_put 25 = .ok (.iload_n 1, 1) := by decide +kernel
theorem dX7_put_26 : decode cX7_put 26 = .ok (.iload_n 2, 1) := by decide +kernel
theorem dX7_put_27 : decode cX7_put 27 = .ok (.invokevirtual 91, 3) := by decide +kernel
theorem dX7_put_30 : decode cX7_put 30 = .ok (.istore 4, 2) := by decide +kernel
theorem dX7_put_32 : decode cX7_put 32 = .ok (.aload_n 0, 1) := by decide +kernel
theorem dX7_put_33 : decode cX7_put 33 = .ok (.invokevirtual 77, 3) := by decide +kernel
theorem dX7_put_36 : decode cX7_put 36 = .ok (.aload_n 0, 1) := by decide +kernel
theorem dX7_put_37 : decode cX7_put 37 = .ok (.getfield 14, 3) := by decide +kernel
theorem dX7_put_40 : decode cX7_put 40 = .ok (.iload_n 1, 1) := by decide +kernel
theorem dX7_put_41 : decode cX7_put 41 = .ok (.iload_n 2, 1) := by decide +kernel
theorem dX7_put_42 : decode cX7_put 42 = .ok (.iload_n 3, 1) := by decide +kernel
theorem dX7_put_43 : decode cX7_put 43 = .ok (.invokevirtual 95, 3) := by decide +kernel
theorem dX7_put_46 : decode cX7_put 46 = .ok (.iload 4, 2) := by decide +kernel
theorem dX7_put_48 : decode cX7_put 48 = .ok (.ireturn, 1) := by decide +kernel
theorem dX7_cell_0 : decode cX7_cell 0 = .ok (.aload_n 0, 1) := by decide +kernel
theorem dX7_cell_1 : decode cX7_cell 1 = .ok (.getfield 14, 3) := by decide +kernel
theorem dX7_cell_4 : decode cX7_cell 4 = .ok (.iload_n 1, 1) := by decide +kernel
theorem dX7_cell_5 : decode cX7_cell 5 = .ok (.iload_n 2, 1) := by decide +kernel
theorem dX7_cell_6 : decode cX7_cell 6 = .ok (.invokevirtual 84, 3) := by decide +kernel
theorem dX7_cell_9 : decode cX7_cell 9 = .ok (.ifCond .eq 15, 3) := by decide +kernel
theorem dX7_cell_12 : decode cX7_cell 12 = .ok (.aload_n 0, 1) := by decide +kernel
theorem dX7_cell_13 : decode cX7_cell 13 = .ok (.getfield 14, 3) := by decide +kernel
theorem dX7_cell_16 : decode cX7_cell 16 = .ok (.iload_n 1, 1) := by decide +kernel
theorem dX7_cell_17 : decode cX7_cell 17 = .ok (.iload_n 2, 1) := by decide +kernel
theorem dX7_cell_18 : decode cX7_cell 18 = .ok (.invokevirtual 91, 3) := by decide +kernel
theorem dX7_cell_21 : decode cX7_cell 21 = .ok (.goto 4, 3) := by decide +kernel
theorem dX7_cell_24 : decode cX7_cell 24 = .ok (.iconst (-1), 1) := by decide +kernel
theorem dX7_cell_25 : decode cX7_cell 25 = .ok (.ireturn, 1) := by decide +kernel
theorem dX7_rule_0 : decode cX7_rule 0 = .ok (.iload_n 1, 1) := by decide +kernel
theorem dX7_rule_1 : decode cX7_rule 1 = .ok (.invokestatic 99, 3) := by decide +kernel
theorem dX7_rule_4 : decode cX7_rule 4 = .ok (.ifCond .ne 5, 3) := by decide +kernel
theorem dX7_rule_7 : decode cX7_rule 7 = .ok (.iconst (-1), 1) := by decide +kernel
theorem dX7_rule_8 : decode cX7_rule 8 = .ok (.ireturn, 1) := by decide +kernel
theorem dX7_rule_9 : decode cX7_rule 9 = .ok (.aload_n 0, 1) := by decide +kernel
theorem dX7_rule_10 : decode cX7_rule 10 = .ok (.getfield 14, 3) := by decide +kernel
theorem dX7_rule_13 : decode cX7_rule 13 = .ok (.getfield 102, 3) := by decide +kernel
theorem dX7_rule_16 : decode cX7_rule 16 = .ok (.istore_n 2, 1) := by decide +kernel
theorem dX7_rule_17 : decode cX7_rule 17 = .ok (.aload_n 0, 1) := by decide +kernel
theorem dX7_rule_18 : decode cX7_rule 18 = .ok (.invokevirtual 77, 3) := by decide +kernel
theorem dX7_rule_21 : decode cX7_rule 21 = .ok (.aload_n 0, 1) := by decide +kernel
theorem dX7_rule_22 : decode cX7_rule 22 = .ok (.getfield 14, 3) := by decide +kernel
theorem dX7_rule_25 : decode cX7_rule 25 = .ok (.iload_n 1, 1) := by decide +kernel
theorem dX7_rule_26 : decode cX7_rule 26 = .ok (.putfield 102, 3) := by decide +kernel
theorem dX7_rule_29 : decode cX7_rule 29 = .ok (.iload_n 2, 1) := by decide +kernel
theorem dX7_rule_30 : decode cX7_rule 30 = .ok (.ireturn, 1) := by decide +kernel
theorem dX7_spelled_0 : decode cX7_spelled 0 = .ok (.aload_n 0, 1) := by decide +kernel
theorem dX7_spelled_1 : decode cX7_spelled 1 = .ok (.getfield 14, 3) := by decide +kernel
theorem dX7_spelled_4 : decode cX7_spelled 4 = .ok (.invokevirtual 116, 3) := by decide +kernel
theorem dX7_spelled_7 : decode cX7_spelled 7 = .ok (.ireturn, 1) := by decide +kernel
theorem dX7_part_0 : decode cX7_part 0 = .ok (.aload_n 0, 1) := by decide +kernel
theorem dX7_part_1 : decode cX7_part 1 = .ok (.getfield 14, 3) := by decide +kernel
theorem dX7_part_4 : decode cX7_part 4 = .ok (.iload_n 1, 1) := by decide +kernel
theorem dX7_part_5 : decode cX7_part 5 = .ok (.iload_n 2, 1) := by decide +kernel
theorem dX7_part_6 : decode cX7_part 6 = .ok (.invokevirtual 123, 3) := by decide +kernel
theorem dX7_part_9 : decode cX7_part 9 = .ok (.ifCond .eq 10, 3) := by decide +kernel
theorem dX7_part_12 : decode cX7_part 12 = .ok (.iload_n 3, 1) := by decide +kernel
theorem dX7_part_13 : decode cX7_part 13 = .ok (.invokestatic 126, 3) := by decide +kernel
theorem dX7_part_16 : decode cX7_part 16 = .ok (.ifCond .ne 5, 3) := by decide +kernel
theorem dX7_part_19 : decode cX7_part 19 = .ok (.iconst (-1), 1) := by decide +kernel
theorem dX7_part_20 : decode cX7_part 20 = .ok (.ireturn, 1) := by decide +kernel
theorem dX7_part_21 : decode cX7_part 21 = .ok (.aload_n 0, 1) := by decide +kernel
theorem dX7_part_22 : decode cX7_part 22 = .ok (.iload_n 1, 1) := by decide +kernel
theorem dX7_part_23 : decode cX7_part 23 = .ok (.iload_n 2, 1) := by decide +kernel
theorem dX7_part_24 : decode cX7_part 24 = .ok (.invokevirtual 129, 3) := by decide +kernel
theorem dX7_part_27 : decode cX7_part 27 = .ok (.iload_n 3, 1) := by decide +kernel
theorem dX7_part_28 : decode cX7_part 28 = .ok (.invokevirtual 133, 3) := by decide +kernel
theorem dX7_part_31 : decode cX7_part 31 = .ok (.ireturn, 1) := by decide +kernel
theorem dX7_shape_0 : decode cX7_shape 0 = .ok (.aload_n 0, 1) := by decide +kernel
theorem dX7_shape_1 : decode cX7_shape 1 = .ok (.getfield 14, 3) := by decide +kernel
theorem dX7_shape_4 : decode cX7_shape 4 = .ok (.iload_n 1, 1) := by decide +kernel
theorem dX7_shape_5 : decode cX7_shape 5 = .ok (.iload_n 2, 1) := by decide +kernel
theorem dX7_shape_6 : decode cX7_shape 6 = .ok (.invokevirtual 123, 3) := by decide +kernel
theorem dX7_shape_9 : decode cX7_shape 9 = .ok (.ifCond .eq 12, 3) := by decide +kernel
theorem dX7_shape_12 : decode cX7_shape 12 = .ok (.iload_n 3, 1) := by decide +kernel
theorem dX7_shape_13 : decode cX7_shape 13 = .ok (.ifCond .lt 8, 3) := by decide +kernel
theorem dX7_shape_16 : decode cX7_shape 16 = .ok (.iload_n 3, 1) := by decide +kernel
theorem dX7_shape_17 : decode cX7_shape 17 = .ok (.iconst 1, 1) := by decide +kernel
theorem dX7_shape_18 : decode cX7_shape 18 = .ok (.if_icmp .le 5, 3) := by decide +kernel
theorem dX7_shape_21 : decode cX7_shape 21 = .ok (.iconst (-1), 1) := by decide +kernel
theorem dX7_shape_22 : decode cX7_shape 22 = .ok (.ireturn, 1) := by decide +kernel
theorem dX7_shape_23 : decode cX7_shape 23 = .ok (.aload_n 0, 1) := by decide +kernel
theorem dX7_shape_24 : decode cX7_shape 24 = .ok (.iload_n 1, 1) := by decide +kernel
theorem dX7_shape_25 : decode cX7_shape 25 = .ok (.iload_n 2, 1) := by decide +kernel
theorem dX7_shape_26 : decode cX7_shape 26 = .ok (.invokevirtual 129, 3) := by decide +kernel
theorem dX7_shape_29 : decode cX7_shape 29 = .ok (.astore 4, 2) := by decide +kernel
theorem dX7_shape_31 : decode cX7_shape 31 = .ok (.iload_n 3, 1) := by decide +kernel
theorem dX7_shape_32 : decode cX7_shape 32 = .ok (.ifCond .ne 11, 3) := by decide +kernel
theorem dX7_shape_35 : decode cX7_shape 35 = .ok (.aload 4, 2) := by decide +kernel
theorem dX7_shape_37 : decode cX7_shape 37 = .ok (.getfield 139, 3) := by decide +kernel
theorem dX7_shape_40 : decode cX7_shape 40 = .ok (.goto 8, 3) := by decide +kernel
theorem dX7_shape_43 : decode cX7_shape 43 = .ok (.aload 4, 2) := by decide +kernel
theorem dX7_shape_45 : decode cX7_shape 45 = .ok (.getfield 142, 3) := by decide +kernel
theorem dX7_shape_48 : decode cX7_shape 48 = .ok (.ireturn, 1) := by decide +kernel
theorem dX7_turned_0 : decode cX7_turned 0 = .ok (.aload_n 0, 1) := by decide +kernel
theorem dX7_turned_1 : decode cX7_turned 1 = .ok (.getfield 14, 3) := by decide +kernel
theorem dX7_turned_4 : decode cX7_turned 4 = .ok (.iload_n 1, 1) := by decide +kernel
theorem dX7_turned_5 : decode cX7_turned 5 = .ok (.iload_n 2, 1) := by decide +kernel
theorem dX7_turned_6 : decode cX7_turned 6 = .ok (.invokevirtual 123, 3) := by decide +kernel
theorem dX7_turned_9 : decode cX7_turned 9 = .ok (.ifCond .eq 10, 3) := by decide +kernel
theorem dX7_turned_12 : decode cX7_turned 12 = .ok (.iload_n 3, 1) := by decide +kernel
theorem dX7_turned_13 : decode cX7_turned 13 = .ok (.invokestatic 126, 3) := by decide +kernel
theorem dX7_turned_16 : decode cX7_turned 16 = .ok (.ifCond .ne 5, 3) := by decide +kernel
theorem dX7_turned_19 : decode cX7_turned 19 = .ok (.iconst (-1), 1) := by decide +kernel
theorem dX7_turned_20 : decode cX7_turned 20 = .ok (.ireturn, 1) := by decide +kernel
theorem dX7_turned_21 : decode cX7_turned 21 = .ok (.aload_n 0, 1) := by decide +kernel
theorem dX7_turned_22 : decode cX7_turned 22 = .ok (.iload_n 1, 1) := by decide +kernel
theorem dX7_turned_23 : decode cX7_turned 23 = .ok (.iload_n 2, 1) := by decide +kernel
theorem dX7_turned_24 : decode cX7_turned 24 = .ok (.invokevirtual 129, 3) := by decide +kernel
theorem dX7_turned_27 : decode cX7_turned 27 = .ok (.iload_n 3, 1) := by decide +kernel
theorem dX7_turned_28 : decode cX7_turned 28 = .ok (.invokevirtual 145, 3) := by decide +kernel
theorem dX7_turned_31 : decode cX7_turned 31 = .ok (.ireturn, 1) := by decide +kernel
theorem dX7_standard_0 : decode cX7_standard 0 = .ok (.aload_n 0, 1) := by decide +kernel
theorem dX7_standard_1 : decode cX7_standard 1 = .ok (.getfield 14, 3) := by decide +kernel
theorem dX7_standard_4 : decode cX7_standard 4 = .ok (.iload_n 1, 1) := by decide +kernel
theorem dX7_standard_5 : decode cX7_standard 5 = .ok (.iload_n 2, 1) := by decide +kernel
theorem dX7_standard_6 : decode cX7_standard 6 = .ok (.invokevirtual 123, 3) := by decide +kernel
theorem dX7_standard_9 : decode cX7_standard 9 = .ok (.ifCond .ne 7, 3) := by decide +kernel
theorem dX7_standard_12 : decode cX7_standard 12 = .ok (.ldc2_w 148, 3) := by decide +kernel
theorem dX7_standard_15 : decode cX7_standard 15 = .ok (.lreturn, 1) := by decide +kernel
theorem dX7_standard_16 : decode cX7_standard 16 = .ok (.aload_n 0, 1) := by decide +kernel
theorem dX7_standard_17 : decode cX7_standard 17 = .ok (.iload_n 1, 1) := by decide +kernel
theorem dX7_standard_18 : decode cX7_standard 18 = .ok (.iload_n 2, 1) := by decide +kernel
theorem dX7_standard_19 : decode cX7_standard 19 = .ok (.invokevirtual 129, 3) := by decide +kernel
theorem dX7_standard_22 : decode cX7_standard 22 = .ok (.astore_n 3, 1) := by decide +kernel
theorem dX7_standard_23 : decode cX7_standard 23 = .ok (.aload_n 3, 1) := by decide +kernel
theorem dX7_standard_24 : decode cX7_standard 24 = .ok (.getfield 139, 3) := by decide +kernel
theorem dX7_standard_27 : decode cX7_standard 27 = .ok (.bipush 20, 2) := by decide +kernel
theorem dX7_standard_29 : decode cX7_standard 29 = .ok (.if_icmp .le 9, 3) := by decide +kernel
theorem dX7_standard_32 : decode cX7_standard 32 = .ok (.ldc2_w 148, 3) := by decide +kernel
theorem dX7_standard_35 : decode cX7_standard 35 = .ok (.goto 7, 3) := by decide +kernel
theorem dX7_standard_38 : decode cX7_standard 38 = .ok (.aload_n 3, 1) := by decide +kernel
theorem dX7_standard_39 : decode cX7_standard 39 = .ok (.invokevirtual 150, 3) := by decide +kernel
theorem dX7_standard_42 : decode cX7_standard 42 = .ok (.lreturn, 1) := by decide +kernel
theorem dX7_product_0 : decode cX7_product 0 = .ok (.aload_n 0, 1) := by decide +kernel
theorem dX7_product_1 : decode cX7_product 1 = .ok (.getfield 14, 3) := by decide +kernel
theorem dX7_product_4 : decode cX7_product 4 = .ok (.iload_n 1, 1) := by decide +kernel
theorem dX7_product_5 : decode cX7_product 5 = .ok (.iload_n 2, 1) := by decide +kernel
theorem dX7_product_6 : decode cX7_product 6 = .ok (.invokevirtual 123, 3) := by decide +kernel
theorem dX7_product_9 : decode cX7_product 9 = .ok (.ifCond .ne 5, 3) := by decide +kernel
theorem dX7_product_12 : decode cX7_product 12 = .ok (.iconst (-1), 1) := by decide +kernel
theorem dX7_product_13 : decode cX7_product 13 = .ok (.ireturn, 1) := by decide +kernel
theorem dX7_product_14 : decode cX7_product 14 = .ok (.aload_n 0, 1) := by decide +kernel
theorem dX7_product_15 : decode cX7_product 15 = .ok (.iload_n 1, 1) := by decide +kernel
theorem dX7_product_16 : decode cX7_product 16 = .ok (.iload_n 2, 1) := by decide +kernel
theorem dX7_product_17 : decode cX7_product 17 = .ok (.invokevirtual 129, 3) := by decide +kernel
theorem dX7_product_20 : decode cX7_product 20 = .ok (.invokevirtual 154, 3) := by decide +kernel
theorem dX7_product_23 : decode cX7_product 23 = .ok (.ireturn, 1) := by decide +kernel
theorem dX7_fits_0 : decode cX7_fits 0 = .ok (.iload_n 1, 1) := by decide +kernel
theorem dX7_fits_1 : decode cX7_fits 1 = .ok (.invokestatic 99, 3) := by decide +kernel
theorem dX7_fits_4 : decode cX7_fits 4 = .ok (.ifCond .ne 5, 3) := by decide +kernel
theorem dX7_fits_7 : decode cX7_fits 7 = .ok (.iconst (-1), 1) := by decide +kernel
theorem dX7_fits_8 : decode cX7_fits 8 = .ok (.ireturn, 1) := by decide +kernel
theorem dX7_fits_9 : decode cX7_fits 9 = .ok (.aload_n 0, 1) := by decide +kernel
theorem dX7_fits_10 : decode cX7_fits 10 = .ok (.invokevirtual 162, 3) := by decide +kernel
theorem dX7_fits_13 : decode cX7_fits 13 = .ok (.iload_n 1, 1) := by decide +kernel
theorem dX7_fits_14 : decode cX7_fits 14 = .ok (.invokevirtual 166, 3) := by decide +kernel
theorem dX7_fits_17 : decode cX7_fits 17 = .ok (.ifCond .eq 7, 3) := by decide +kernel
theorem dX7_fits_20 : decode cX7_fits 20 = .ok (.iconst 1, 1) := by decide +kernel
theorem dX7_fits_21 : decode cX7_fits 21 = .ok (.goto 4, 3) := by decide +kernel
theorem dX7_fits_24 : decode cX7_fits 24 = .ok (.iconst 0, 1) := by decide +kernel
theorem dX7_fits_25 : decode cX7_fits 25 = .ok (.ireturn, 1) := by decide +kernel
theorem dX7_back_0 : decode cX7_back 0 = .ok (.iload_n 1, 1) := by decide +kernel
theorem dX7_back_1 : decode cX7_back 1 = .ok (.invokestatic 99, 3) := by decide +kernel
theorem dX7_back_4 : decode cX7_back 4 = .ok (.ifCond .ne 5, 3) := by decide +kernel
theorem dX7_back_7 : decode cX7_back 7 = .ok (.iconst (-1), 1) := by decide +kernel
theorem dX7_back_8 : decode cX7_back 8 = .ok (.ireturn, 1) := by decide +kernel
theorem dX7_back_9 : decode cX7_back 9 = .ok (.aload_n 0, 1) := by decide +kernel
theorem dX7_back_10 : decode cX7_back 10 = .ok (.invokevirtual 162, 3) := by decide +kernel
theorem dX7_back_13 : decode cX7_back 13 = .ok (.iload_n 1, 1) := by decide +kernel
theorem dX7_back_14 : decode cX7_back 14 = .ok (.invokevirtual 166, 3) := by decide +kernel
theorem dX7_back_17 : decode cX7_back 17 = .ok (.ifCond .ne 6, 3) := by decide +kernel
theorem dX7_back_20 : decode cX7_back 20 = .ok (.bipush (-5), 2) := by decide +kernel
theorem dX7_back_22 : decode cX7_back 22 = .ok (.ireturn, 1) := by decide +kernel
theorem dX7_back_23 : decode cX7_back 23 = .ok (.aload_n 0, 1) := by decide +kernel
theorem dX7_back_24 : decode cX7_back 24 = .ok (.iconst 0, 1) := by decide +kernel
theorem dX7_back_25 : decode cX7_back 25 = .ok (.putfield 35, 3) := by decide +kernel
theorem dX7_back_28 : decode cX7_back 28 = .ok (.aload_n 0, 1) := by decide +kernel
theorem dX7_back_29 : decode cX7_back 29 = .ok (.getfield 18, 3) := by decide +kernel
theorem dX7_back_32 : decode cX7_back 32 = .ok (.aload_n 0, 1) := by decide +kernel
theorem dX7_back_33 : decode cX7_back 33 = .ok (.getfield 14, 3) := by decide +kernel
theorem dX7_back_36 : decode cX7_back 36 = .ok (.invokevirtual 119, 3) := by decide +kernel
theorem dX7_back_39 : decode cX7_back 39 = .ok (.aload_n 0, 1) := by decide +kernel
theorem dX7_back_40 : decode cX7_back 40 = .ok (.getfield 18, 3) := by decide +kernel
theorem dX7_back_43 : decode cX7_back 43 = .ok (.iload_n 1, 1) := by decide +kernel
theorem dX7_back_44 : decode cX7_back 44 = .ok (.putfield 102, 3) := by decide +kernel
theorem dX7_back_47 : decode cX7_back 47 = .ok (.aload_n 0, 1) := by decide +kernel
theorem dX7_back_48 : decode cX7_back 48 = .ok (.getfield 31, 3) := by decide +kernel
theorem dX7_back_51 : decode cX7_back 51 = .ok (.aload_n 0, 1) := by decide +kernel
theorem dX7_back_52 : decode cX7_back 52 = .ok (.getfield 18, 3) := by decide +kernel
theorem dX7_back_55 : decode cX7_back 55 = .ok (.invokevirtual 169, 3) := by decide +kernel
theorem dX7_back_58 : decode cX7_back 58 = .ok (.iconst 3, 1) := by decide +kernel
theorem dX7_back_59 : decode cX7_back 59 = .ok (.if_icmp .le 6, 3) := by decide +kernel
theorem dX7_back_62 : decode cX7_back 62 = .ok (.bipush (-5), 2) := by decide +kernel
theorem dX7_back_64 : decode cX7_back 64 = .ok (.ireturn, 1) := by decide +kernel
theorem dX7_back_65 : decode cX7_back 65 = .ok (.aload_n 0, 1) := by decide +kernel
theorem dX7_back_66 : decode cX7_back 66 = .ok (.getfield 14, 3) := by decide +kernel
theorem dX7_back_69 : decode cX7_back 69 = .ok (.aload_n 0, 1) := by decide +kernel
theorem dX7_back_70 : decode cX7_back 70 = .ok (.getfield 18, 3) := by decide +kernel
theorem dX7_back_73 : decode cX7_back 73 = .ok (.invokevirtual 173, 3) := by decide +kernel
theorem dX7_back_76 : decode cX7_back 76 = .ok (.istore_n 2, 1) := by decide +kernel
theorem dX7_back_77 : decode cX7_back 77 = .ok (.aload_n 0, 1) := by decide +kernel
theorem dX7_back_78 : decode cX7_back 78 = .ok (.invokevirtual 77, 3) := by decide +kernel
theorem dX7_back_81 : decode cX7_back 81 = .ok (.aload_n 0, 1) := by decide +kernel
theorem dX7_back_82 : decode cX7_back 82 = .ok (.getfield 14, 3) := by decide +kernel
theorem dX7_back_85 : decode cX7_back 85 = .ok (.aload_n 0, 1) := by decide +kernel
theorem dX7_back_86 : decode cX7_back 86 = .ok (.getfield 18, 3) := by decide +kernel
theorem dX7_back_89 : decode cX7_back 89 = .ok (.invokevirtual 119, 3) := by decide +kernel
theorem dX7_back_92 : decode cX7_back 92 = .ok (.iload_n 2, 1) := by decide +kernel
theorem dX7_back_93 : decode cX7_back 93 = .ok (.ireturn, 1) := by decide +kernel
theorem dX7_longest_0 : decode cX7_longest 0 = .ok (.iload_n 1, 1) := by decide +kernel
theorem dX7_longest_1 : decode cX7_longest 1 = .ok (.ifCond .lt 17, 3) := by decide +kernel
theorem dX7_longest_4 : decode cX7_longest 4 = .ok (.iload_n 1, 1) := by decide +kernel
theorem dX7_longest_5 : decode cX7_longest 5 = .ok (.iconst 4, 1) := by decide +kernel
theorem dX7_longest_6 : decode cX7_longest 6 = .ok (.if_icmp .ge 12, 3) := by decide +kernel
theorem dX7_longest_9 : decode cX7_longest 9 = .ok (.iload_n 2, 1) := by decide +kernel
theorem dX7_longest_10 : decode cX7_longest 10 = .ok (.ifCond .lt 8, 3) := by decide +kernel
theorem dX7_longest_13 : decode cX7_longest 13 = .ok (.iload_n 2, 1) := by decide +kernel
theorem dX7_longest_14 : decode cX7_longest 14 = .ok (.iconst 1, 1) := by decide +kernel
theorem dX7_longest_15 : decode cX7_longest 15 = .ok (.if_icmp .le 5, 3) := by decide +kernel
theorem dX7_longest_18 : decode cX7_longest 18 = .ok (.iconst (-1), 1) := by decide +kernel
theorem dX7_longest_19 : decode cX7_longest 19 = .ok (.ireturn, 1) := by decide +kernel
theorem dX7_longest_20 : decode cX7_longest 20 = .ok (.aload_n 0, 1) := by decide +kernel
theorem dX7_longest_21 : decode cX7_longest 21 = .ok (.getfield 41, 3) := by decide +kernel
theorem dX7_longest_24 : decode cX7_longest 24 = .ok (.aload_n 0, 1) := by decide +kernel
theorem dX7_longest_25 : decode cX7_longest 25 = .ok (.getfield 14, 3) := by decide +kernel
theorem dX7_longest_28 : decode cX7_longest 28 = .ok (.iload_n 1, 1) := by decide +kernel
theorem dX7_longest_29 : decode cX7_longest 29 = .ok (.iload_n 2, 1) := by decide +kernel
theorem dX7_longest_30 : decode cX7_longest 30 = .ok (.iconst 1, 1) := by decide +kernel
theorem dX7_longest_31 : decode cX7_longest 31 = .ok (.if_icmp .ne 7, 3) := by decide +kernel
theorem dX7_longest_34 : decode cX7_longest 34 = .ok (.iconst 1, 1) := by decide +kernel
theorem dX7_longest_35 : decode cX7_longest 35 = .ok (.goto 4, 3) := by decide +kernel
theorem dX7_longest_38 : decode cX7_longest 38 = .ok (.iconst 0, 1) := by decide +kernel
theorem dX7_longest_39 : decode cX7_longest 39 = .ok (.invokevirtual 176, 3) := by decide +kernel
theorem dX7_longest_42 : decode cX7_longest 42 = .ok (.ireturn, 1) := by decide +kernel
theorem dX7_undo_0 : decode cX7_undo 0 = .ok (.aload_n 0, 1) := by decide +kernel
theorem dX7_undo_1 : decode cX7_undo 1 = .ok (.getfield 48, 3) := by decide +kernel
theorem dX7_undo_4 : decode cX7_undo 4 = .ok (.invokevirtual 193, 3) := by decide +kernel
theorem dX7_undo_7 : decode cX7_undo 7 = .ok (.ifCond .ne 6, 3) := by decide +kernel
theorem dX7_undo_10 : decode cX7_undo 10 = .ok (.bipush (-5), 2) := by decide +kernel
theorem dX7_undo_12 : decode cX7_undo 12 = .ok (.ireturn, 1) := by decide +kernel
theorem dX7_undo_13 : decode cX7_undo 13 = .ok (.aload_n 0, 1) := by decide +kernel
theorem dX7_undo_14 : decode cX7_undo 14 = .ok (.getfield 48, 3) := by decide +kernel
theorem dX7_undo_17 : decode cX7_undo 17 = .ok (.aload_n 0, 1) := by decide +kernel
theorem dX7_undo_18 : decode cX7_undo 18 = .ok (.getfield 14, 3) := by decide +kernel
theorem dX7_undo_21 : decode cX7_undo 21 = .ok (.invokevirtual 196, 3) := by decide +kernel
theorem dX7_undo_24 : decode cX7_undo 24 = .ok (.aload_n 0, 1) := by decide +kernel
theorem dX7_undo_25 : decode cX7_undo 25 = .ok (.iconst 0, 1) := by decide +kernel
theorem dX7_undo_26 : decode cX7_undo 26 = .ok (.putfield 35, 3) := by decide +kernel
theorem dX7_undo_29 : decode cX7_undo 29 = .ok (.aload_n 0, 1) := by decide +kernel
theorem dX7_undo_30 : decode cX7_undo 30 = .ok (.getfield 48, 3) := by decide +kernel
theorem dX7_undo_33 : decode cX7_undo 33 = .ok (.invokevirtual 193, 3) := by decide +kernel
theorem dX7_undo_36 : decode cX7_undo 36 = .ok (.ireturn, 1) := by decide +kernel
theorem dX7_again_0 : decode cX7_again 0 = .ok (.aload_n 0, 1) := by decide +kernel
theorem dX7_again_1 : decode cX7_again 1 = .ok (.getfield 48, 3) := by decide +kernel
theorem dX7_again_4 : decode cX7_again 4 = .ok (.invokevirtual 199, 3) := by decide +kernel
theorem dX7_again_7 : decode cX7_again 7 = .ok (.ifCond .ne 6, 3) := by decide +kernel
theorem dX7_again_10 : decode cX7_again 10 = .ok (.bipush (-5), 2) := by decide +kernel
theorem dX7_again_12 : decode cX7_again 12 = .ok (.ireturn, 1) := by decide +kernel
theorem dX7_again_13 : decode cX7_again 13 = .ok (.aload_n 0, 1) := by decide +kernel
theorem dX7_again_14 : decode cX7_again 14 = .ok (.getfield 48, 3) := by decide +kernel
theorem dX7_again_17 : decode cX7_again 17 = .ok (.aload_n 0, 1) := by decide +kernel
theorem dX7_again_18 : decode cX7_again 18 = .ok (.getfield 14, 3) := by decide +kernel
theorem dX7_again_21 : decode cX7_again 21 = .ok (.invokevirtual 202, 3) := by decide +kernel
theorem dX7_again_24 : decode cX7_again 24 = .ok (.aload_n 0, 1) := by decide +kernel
theorem dX7_again_25 : decode cX7_again 25 = .ok (.iconst 0, 1) := by decide +kernel
theorem dX7_again_26 : decode cX7_again 26 = .ok (.putfield 35, 3) := by decide +kernel
theorem dX7_again_29 : decode cX7_again 29 = .ok (.aload_n 0, 1) := by decide +kernel
theorem dX7_again_30 : decode cX7_again 30 = .ok (.getfield 48, 3) := by decide +kernel
theorem dX7_again_33 : decode cX7_again 33 = .ok (.invokevirtual 199, 3) := by decide +kernel
theorem dX7_again_36 : decode cX7_again 36 = .ok (.ireturn, 1) := by decide +kernel
theorem dX7_restore_0 : decode cX7_restore 0 = .ok (.aload_n 0, 1) := by decide +kernel
theorem dX7_restore_1 : decode cX7_restore 1 = .ok (.getfield 24, 3) := by decide +kernel
theorem dX7_restore_4 : decode cX7_restore 4 = .ok (.ifCond .ne 6, 3) := by decide +kernel
theorem dX7_restore_7 : decode cX7_restore 7 = .ok (.bipush (-5), 2) := by decide +kernel
theorem dX7_restore_9 : decode cX7_restore 9 = .ok (.ireturn, 1) := by decide +kernel
theorem dX7_restore_10 : decode cX7_restore 10 = .ok (.aload_n 0, 1) := by decide +kernel
theorem dX7_restore_11 : decode cX7_restore 11 = .ok (.getfield 14, 3) := by decide +kernel
theorem dX7_restore_14 : decode cX7_restore 14 = .ok (.aload_n 0, 1) := by decide +kernel
theorem dX7_restore_15 : decode cX7_restore 15 = .ok (.getfield 21, 3) := by decide +kernel
theorem dX7_restore_18 : decode cX7_restore 18 = .ok (.invokevirtual 119, 3) := by decide +kernel
theorem dX7_restore_21 : decode cX7_restore 21 = .ok (.aload_n 0, 1) := by decide +kernel
theorem dX7_restore_22 : decode cX7_restore 22 = .ok (.iconst 0, 1) := by decide +kernel
theorem dX7_restore_23 : decode cX7_restore 23 = .ok (.putfield 35, 3) := by decide +kernel
theorem dX7_restore_26 : decode cX7_restore 26 = .ok (.aload_n 0, 1) := by decide +kernel
theorem dX7_restore_27 : decode cX7_restore 27 = .ok (.getfield 48, 3) := by decide +kernel
theorem dX7_restore_30 : decode cX7_restore 30 = .ok (.invokevirtual 252, 3) := by decide +kernel
theorem dX7_restore_33 : decode cX7_restore 33 = .ok (.aload_n 0, 1) := by decide +kernel
theorem dX7_restore_34 : decode cX7_restore 34 = .ok (.getfield 14, 3) := by decide +kernel
theorem dX7_restore_37 : decode cX7_restore 37 = .ok (.invokevirtual 112, 3) := by decide +kernel
theorem dX7_restore_40 : decode cX7_restore 40 = .ok (.ireturn, 1) := by decide +kernel
theorem dX7_count_0 : decode cX7_count 0 = .ok (.iload_n 1, 1) := by decide +kernel
theorem dX7_count_1 : decode cX7_count 1 = .ok (.tableswitch 99 0 6 #[43, 51, 59, 67, 75, 83, 91], 43) := by decide +kernel
theorem dX7_count_44 : decode cX7_count 44 = .ok (.aload_n 0, 1) := by decide +kernel
theorem dX7_count_45 : decode cX7_count 45 = .ok (.getfield 14, 3) := by decide +kernel
theorem dX7_count_48 : decode cX7_count 48 = .ok (.getfield 70, 3) := by decide +kernel
theorem dX7_count_51 : decode cX7_count 51 = .ok (.ireturn, 1) := by decide +kernel
theorem dX7_count_52 : decode cX7_count 52 = .ok (.aload_n 0, 1) := by decide +kernel
theorem dX7_count_53 : decode cX7_count 53 = .ok (.getfield 14, 3) := by decide +kernel
theorem dX7_count_56 : decode cX7_count 56 = .ok (.getfield 74, 3) := by decide +kernel
theorem dX7_count_59 : decode cX7_count 59 = .ok (.ireturn, 1) := by decide +kernel
theorem dX7_count_60 : decode cX7_count 60 = .ok (.aload_n 0, 1) := by decide +kernel
theorem dX7_count_61 : decode cX7_count 61 = .ok (.getfield 14, 3) := by decide +kernel
theorem dX7_count_64 : decode cX7_count 64 = .ok (.getfield 102, 3) := by decide +kernel
theorem dX7_count_67 : decode cX7_count 67 = .ok (.ireturn, 1) := by decide +kernel
theorem dX7_count_68 : decode cX7_count 68 = .ok (.aload_n 0, 1) := by decide +kernel
theorem dX7_count_69 : decode cX7_count 69 = .ok (.getfield 48, 3) := by decide +kernel
theorem dX7_count_72 : decode cX7_count 72 = .ok (.invokevirtual 193, 3) := by decide +kernel
theorem dX7_count_75 : decode cX7_count 75 = .ok (.ireturn, 1) := by decide +kernel
theorem dX7_count_76 : decode cX7_count 76 = .ok (.aload_n 0, 1) := by decide +kernel
theorem dX7_count_77 : decode cX7_count 77 = .ok (.getfield 48, 3) := by decide +kernel
theorem dX7_count_80 : decode cX7_count 80 = .ok (.invokevirtual 199, 3) := by decide +kernel
theorem dX7_count_83 : decode cX7_count 83 = .ok (.ireturn, 1) := by decide +kernel
theorem dX7_count_84 : decode cX7_count 84 = .ok (.aload_n 0, 1) := by decide +kernel
theorem dX7_count_85 : decode cX7_count 85 = .ok (.getfield 55, 3) := by decide +kernel
theorem dX7_count_88 : decode cX7_count 88 = .ok (.getfield 205, 3) := by decide +kernel
theorem dX7_count_91 : decode cX7_count 91 = .ok (.ireturn, 1) := by decide +kernel
theorem dX7_count_92 : decode cX7_count 92 = .ok (.aload_n 0, 1) := by decide +kernel
theorem dX7_count_93 : decode cX7_count 93 = .ok (.getfield 14, 3) := by decide +kernel
theorem dX7_count_96 : decode cX7_count 96 = .ok (.invokevirtual 255, 3) := by decide +kernel
theorem dX7_count_99 : decode cX7_count 99 = .ok (.ireturn, 1) := by decide +kernel
theorem dX7_count_100 : decode cX7_count 100 = .ok (.iconst (-1), 1) := by decide +kernel
theorem dX7_count_101 : decode cX7_count 101 = .ok (.ireturn, 1) := by decide +kernel
theorem dX7_isSide_0 : decode cX7_isSide 0 = .ok (.iload_n 0, 1) := by decide +kernel
theorem dX7_isSide_1 : decode cX7_isSide 1 = .ok (.iconst 1, 1) := by decide +kernel
theorem dX7_isSide_2 : decode cX7_isSide 2 = .ok (.if_icmp .lt 12, 3) := by decide +kernel
theorem dX7_isSide_5 : decode cX7_isSide 5 = .ok (.iload_n 0, 1) := by decide +kernel
theorem dX7_isSide_6 : decode cX7_isSide 6 = .ok (.iconst 5, 1) := by decide +kernel
theorem dX7_isSide_7 : decode cX7_isSide 7 = .ok (.if_icmp .gt 7, 3) := by decide +kernel
theorem dX7_isSide_10 : decode cX7_isSide 10 = .ok (.iconst 1, 1) := by decide +kernel
theorem dX7_isSide_11 : decode cX7_isSide 11 = .ok (.goto 4, 3) := by decide +kernel
theorem dX7_isSide_14 : decode cX7_isSide 14 = .ok (.iconst 0, 1) := by decide +kernel
theorem dX7_isSide_15 : decode cX7_isSide 15 = .ok (.ireturn, 1) := by decide +kernel
theorem dX7_isNumber_0 : decode cX7_isNumber 0 = .ok (.iload_n 0, 1) := by decide +kernel
theorem dX7_isNumber_1 : decode cX7_isNumber 1 = .ok (.ifCond .lt 12, 3) := by decide +kernel
theorem dX7_isNumber_4 : decode cX7_isNumber 4 = .ok (.iload_n 0, 1) := by decide +kernel
theorem dX7_isNumber_5 : decode cX7_isNumber 5 = .ok (.iconst 3, 1) := by decide +kernel
theorem dX7_isNumber_6 : decode cX7_isNumber 6 = .ok (.if_icmp .gt 7, 3) := by decide +kernel
theorem dX7_isNumber_9 : decode cX7_isNumber 9 = .ok (.iconst 1, 1) := by decide +kernel
theorem dX7_isNumber_10 : decode cX7_isNumber 10 = .ok (.goto 4, 3) := by decide +kernel
theorem dX7_isNumber_13 : decode cX7_isNumber 13 = .ok (.iconst 0, 1) := by decide +kernel
theorem dX7_isNumber_14 : decode cX7_isNumber 14 = .ok (.ireturn, 1) := by decide +kernel
theorem dX7_isRule_0 : decode cX7_isRule 0 = .ok (.iload_n 0, 1) := by decide +kernel
theorem dX7_isRule_1 : decode cX7_isRule 1 = .ok (.ifCond .lt 12, 3) := by decide +kernel
theorem dX7_isRule_4 : decode cX7_isRule 4 = .ok (.iload_n 0, 1) := by decide +kernel
theorem dX7_isRule_5 : decode cX7_isRule 5 = .ok (.iconst 4, 1) := by decide +kernel
theorem dX7_isRule_6 : decode cX7_isRule 6 = .ok (.if_icmp .ge 7, 3) := by decide +kernel
theorem dX7_isRule_9 : decode cX7_isRule 9 = .ok (.iconst 1, 1) := by decide +kernel
theorem dX7_isRule_10 : decode cX7_isRule 10 = .ok (.goto 4, 3) := by decide +kernel
theorem dX7_isRule_13 : decode cX7_isRule 13 = .ok (.iconst 0, 1) := by decide +kernel
theorem dX7_isRule_14 : decode cX7_isRule 14 = .ok (.ireturn, 1) := by decide +kernel
theorem dX7_isPlace_0 : decode cX7_isPlace 0 = .ok (.iload_n 0, 1) := by decide +kernel
theorem dX7_isPlace_1 : decode cX7_isPlace 1 = .ok (.ifCond .lt 13, 3) := by decide +kernel
theorem dX7_isPlace_4 : decode cX7_isPlace 4 = .ok (.iload_n 0, 1) := by decide +kernel
theorem dX7_isPlace_5 : decode cX7_isPlace 5 = .ok (.bipush 100, 2) := by decide +kernel
theorem dX7_isPlace_7 : decode cX7_isPlace 7 = .ok (.if_icmp .ge 7, 3) := by decide +kernel
theorem dX7_isPlace_10 : decode cX7_isPlace 10 = .ok (.iconst 1, 1) := by decide +kernel
theorem dX7_isPlace_11 : decode cX7_isPlace 11 = .ok (.goto 4, 3) := by decide +kernel
theorem dX7_isPlace_14 : decode cX7_isPlace 14 = .ok (.iconst 0, 1) := by decide +kernel
theorem dX7_isPlace_15 : decode cX7_isPlace 15 = .ok (.ireturn, 1) := by decide +kernel
theorem dX7_beginDeed_0 : decode cX7_beginDeed 0 = .ok (.aload_n 0, 1) := by decide +kernel
theorem dX7_beginDeed_1 : decode cX7_beginDeed 1 = .ok (.getfield 48, 3) := by decide +kernel
theorem dX7_beginDeed_4 : decode cX7_beginDeed 4 = .ok (.aload_n 0, 1) := by decide +kernel
theorem dX7_beginDeed_5 : decode cX7_beginDeed 5 = .ok (.getfield 14, 3) := by decide +kernel
theorem dX7_beginDeed_8 : decode cX7_beginDeed 8 = .ok (.invokevirtual 258, 3) := by decide +kernel
theorem dX7_beginDeed_11 : decode cX7_beginDeed 11 = .ok (.aload_n 0, 1) := by decide +kernel
theorem dX7_beginDeed_12 : decode cX7_beginDeed 12 = .ok (.iconst 0, 1) := by decide +kernel
theorem dX7_beginDeed_13 : decode cX7_beginDeed 13 = .ok (.putfield 35, 3) := by decide +kernel
theorem dX7_beginDeed_16 : decode cX7_beginDeed 16 = .ok (.return_, 1) := by decide +kernel
theorem dX7_grownCorners_0 : decode cX7_grownCorners 0 = .ok (.aload_n 0, 1) := by decide +kernel
theorem dX7_grownCorners_1 : decode cX7_grownCorners 1 = .ok (.getfield 35, 3) := by decide +kernel
theorem dX7_grownCorners_4 : decode cX7_grownCorners 4 = .ok (.ifCond .ne 19, 3) := by decide +kernel
theorem dX7_grownCorners_7 : decode cX7_grownCorners 7 = .ok (.aload_n 0, 1) := by decide +kernel
theorem dX7_grownCorners_8 : decode cX7_grownCorners 8 = .ok (.getfield 31, 3) := by decide +kernel
theorem dX7_grownCorners_11 : decode cX7_grownCorners 11 = .ok (.aload_n 0, 1) := by decide +kernel
theorem dX7_grownCorners_12 : decode cX7_grownCorners 12 = .ok (.getfield 14, 3) := by decide +kernel
theorem dX7_grownCorners_15 : decode cX7_grownCorners 15 = .ok (.invokevirtual 261, 3) := by decide +kernel
theorem dX7_grownCorners_18 : decode cX7_grownCorners 18 = .ok (.aload_n 0, 1) := by decide +kernel
theorem dX7_grownCorners_19 : decode cX7_grownCorners 19 = .ok (.iconst 1, 1) := by decide +kernel
theorem dX7_grownCorners_20 : decode cX7_grownCorners 20 = .ok (.putfield 35, 3) := by decide +kernel
theorem dX7_grownCorners_23 : decode cX7_grownCorners 23 = .ok (.aload_n 0, 1) := by decide +kernel
theorem dX7_grownCorners_24 : decode cX7_grownCorners 24 = .ok (.getfield 31, 3) := by decide +kernel
theorem dX7_grownCorners_27 : decode cX7_grownCorners 27 = .ok (.areturn, 1) := by decide +kernel
theorem dX7_shapeAt_0 : decode cX7_shapeAt 0 = .ok (.aload_n 0, 1) := by decide +kernel
theorem dX7_shapeAt_1 : decode cX7_shapeAt 1 = .ok (.invokevirtual 162, 3) := by decide +kernel
theorem dX7_shapeAt_4 : decode cX7_shapeAt 4 = .ok (.iload_n 1, 1) := by decide +kernel
theorem dX7_shapeAt_5 : decode cX7_shapeAt 5 = .ok (.iload_n 2, 1) := by decide +kernel
theorem dX7_shapeAt_6 : decode cX7_shapeAt 6 = .ok (.invokevirtual 264, 3) := by decide +kernel
theorem dX7_shapeAt_9 : decode cX7_shapeAt 9 = .ok (.areturn, 1) := by decide +kernel
theorem dJ9_max_7cf53_0 : decode cJ9_max_7cf53 0 = .ok (.iload_n 0, 1) := by decide +kernel
theorem dJ9_max_7cf53_1 : decode cJ9_max_7cf53 1 = .ok (.iload_n 1, 1) := by decide +kernel
theorem dJ9_max_7cf53_2 : decode cJ9_max_7cf53 2 = .ok (.if_icmp .lt 7, 3) := by decide +kernel
theorem dJ9_max_7cf53_5 : decode cJ9_max_7cf53 5 = .ok (.iload_n 0, 1) := by decide +kernel
theorem dJ9_max_7cf53_6 : decode cJ9_max_7cf53 6 = .ok (.goto 4, 3) := by decide +kernel
theorem dJ9_max_7cf53_9 : decode cJ9_max_7cf53 9 = .ok (.iload_n 1, 1) := by decide +kernel
theorem dJ9_max_7cf53_10 : decode cJ9_max_7cf53 10 = .ok (.ireturn, 1) := by decide +kernel
theorem dJ9_min_7cf53_0 : decode cJ9_min_7cf53 0 = .ok (.iload_n 0, 1) := by decide +kernel
theorem dJ9_min_7cf53_1 : decode cJ9_min_7cf53 1 = .ok (.iload_n 1, 1) := by decide +kernel
theorem dJ9_min_7cf53_2 : decode cJ9_min_7cf53 2 = .ok (.if_icmp .gt 7, 3) := by decide +kernel
theorem dJ9_min_7cf53_5 : decode cJ9_min_7cf53 5 = .ok (.iload_n 0, 1) := by decide +kernel
theorem dJ9_min_7cf53_6 : decode cJ9_min_7cf53 6 = .ok (.goto 4, 3) := by decide +kernel
theorem dJ9_min_7cf53_9 : decode cJ9_min_7cf53 9 = .ok (.iload_n 1, 1) := by decide +kernel
theorem dJ9_min_7cf53_10 : decode cJ9_min_7cf53 10 = .ok (.ireturn, 1) := by decide +kernel
theorem dL_cell_0 : decode cL_cell 0 = .ok (.iload_n 1, 1) := by decide +kernel
theorem dL_cell_1 : decode cL_cell 1 = .ok (.aload_n 0, 1) := by decide +kernel
theorem dL_cell_2 : decode cL_cell 2 = .ok (.arraylength, 1) := by decide +kernel
theorem dL_cell_3 : decode cL_cell 3 = .ok (.if_icmp .ge 9, 3) := by decide +kernel
theorem dL_cell_6 : decode cL_cell 6 = .ok (.aload_n 0, 1) := by decide +kernel
theorem dL_cell_7 : decode cL_cell 7 = .ok (.iload_n 1, 1) := by decide +kernel
theorem dL_cell_8 : decode cL_cell 8 = .ok (.iaload, 1) := by decide +kernel
theorem dL_cell_9 : decode cL_cell 9 = .ok (.goto 11, 3) := by decide +kernel
theorem dL_cell_12 : decode cL_cell 12 = .ok (.sipush 7919, 3) := by decide +kernel
theorem dL_cell_15 : decode cL_cell 15 = .ok (.iload_n 1, 1) := by decide +kernel
theorem dL_cell_16 : decode cL_cell 16 = .ok (.imul, 1) := by decide +kernel
theorem dL_cell_17 : decode cL_cell 17 = .ok (.bipush 12, 2) := by decide +kernel
theorem dL_cell_19 : decode cL_cell 19 = .ok (.iadd, 1) := by decide +kernel
theorem dL_cell_20 : decode cL_cell 20 = .ok (.ireturn, 1) := by decide +kernel
theorem dL_some_0 : decode cL_some 0 = .ok (.aload_n 0, 1) := by decide +kernel
theorem dL_some_1 : decode cL_some 1 = .ok (.iload_n 1, 1) := by decide +kernel
theorem dL_some_2 : decode cL_some 2 = .ok (.invokestatic 7, 3) := by decide +kernel
theorem dL_some_5 : decode cL_some 5 = .ok (.iconst 3, 1) := by decide +kernel
theorem dL_some_6 : decode cL_some 6 = .ok (.iushr, 1) := by decide +kernel
theorem dL_some_7 : decode cL_some 7 = .ok (.iload_n 2, 1) := by decide +kernel
theorem dL_some_8 : decode cL_some 8 = .ok (.irem, 1) := by decide +kernel
theorem dL_some_9 : decode cL_some 9 = .ok (.ireturn, 1) := by decide +kernel
theorem dL_setUp_0 : decode cL_setUp 0 = .ok (.iconst 1, 1) := by decide +kernel
theorem dL_setUp_1 : decode cL_setUp 1 = .ok (.aload_n 1, 1) := by decide +kernel
theorem dL_setUp_2 : decode cL_setUp 2 = .ok (.iload_n 2, 1) := by decide +kernel
theorem dL_setUp_3 : decode cL_setUp 3 = .ok (.iconst 5, 1) := by decide +kernel
theorem dL_setUp_4 : decode cL_setUp 4 = .ok (.invokestatic 13, 3) := by decide +kernel
theorem dL_setUp_7 : decode cL_setUp 7 = .ok (.iadd, 1) := by decide +kernel
theorem dL_setUp_8 : decode cL_setUp 8 = .ok (.istore_n 3, 1) := by decide +kernel
theorem dL_setUp_9 : decode cL_setUp 9 = .ok (.iconst 1, 1) := by decide +kernel
theorem dL_setUp_10 : decode cL_setUp 10 = .ok (.aload_n 1, 1) := by decide +kernel
theorem dL_setUp_11 : decode cL_setUp 11 = .ok (.iload_n 2, 1) := by decide +kernel
theorem dL_setUp_12 : decode cL_setUp 12 = .ok (.iconst 1, 1) := by decide +kernel
theorem dL_setUp_13 : decode cL_setUp 13 = .ok (.iadd, 1) := by decide +kernel
theorem dL_setUp_14 : decode cL_setUp 14 = .ok (.iconst 5, 1) := by decide +kernel
theorem dL_setUp_15 : decode cL_setUp 15 = .ok (.invokestatic 13, 3) := by decide +kernel
theorem dL_setUp_18 : decode cL_setUp 18 = .ok (.iadd, 1) := by decide +kernel
theorem dL_setUp_19 : decode cL_setUp 19 = .ok (.istore 4, 2) := by decide +kernel
theorem dL_setUp_21 : decode cL_setUp 21 = .ok (.aload_n 0, 1) := by decide +kernel
theorem dL_setUp_22 : decode cL_setUp 22 = .ok (.iload_n 3, 1) := by decide +kernel
theorem dL_setUp_23 : decode cL_setUp 23 = .ok (.iload 4, 2) := by decide +kernel
theorem dL_setUp_25 : decode cL_setUp 25 = .ok (.invokevirtual 17, 3) := by decide +kernel
theorem dL_setUp_28 : decode cL_setUp 28 = .ok (.pop, 1) := by decide +kernel
theorem dL_setUp_29 : decode cL_setUp 29 = .ok (.iconst 1, 1) := by decide +kernel
theorem dL_setUp_30 : decode cL_setUp 30 = .ok (.istore 5, 2) := by decide +kernel
theorem dL_setUp_32 : decode cL_setUp 32 = .ok (.iload 5, 2) := by decide +kernel
theorem dL_setUp_34 : decode cL_setUp 34 = .ok (.iload_n 3, 1) := by decide +kernel
theorem dL_setUp_35 : decode cL_setUp 35 = .ok (.if_icmp .gt 68, 3) := by decide +kernel
theorem dL_setUp_38 : decode cL_setUp 38 = .ok (.iconst 1, 1) := by decide +kernel
theorem dL_setUp_39 : decode cL_setUp 39 = .ok (.istore 6, 2) := by decide +kernel
theorem dL_setUp_41 : decode cL_setUp 41 = .ok (.iload 6, 2) := by decide +kernel
theorem dL_setUp_43 : decode cL_setUp 43 = .ok (.iload 4, 2) := by decide +kernel
theorem dL_setUp_45 : decode cL_setUp 45 = .ok (.if_icmp .gt 52, 3) := by decide +kernel
theorem dL_setUp_48 : decode cL_setUp 48 = .ok (.aload_n 1, 1) := by decide +kernel
theorem dL_setUp_49 : decode cL_setUp 49 = .ok (.iload_n 2, 1) := by decide +kernel
theorem dL_setUp_50 : decode cL_setUp 50 = .ok (.iconst 5, 1) := by decide +kernel
theorem dL_setUp_51 : decode cL_setUp 51 = .ok (.iload 5, 2) := by decide +kernel
theorem dL_setUp_53 : decode cL_setUp 53 = .ok (.imul, 1) := by decide +kernel
theorem dL_setUp_54 : decode cL_setUp 54 = .ok (.iadd, 1) := by decide +kernel
theorem dL_setUp_55 : decode cL_setUp 55 = .ok (.iload 6, 2) := by decide +kernel
theorem dL_setUp_57 : decode cL_setUp 57 = .ok (.iadd, 1) := by decide +kernel
theorem dL_setUp_58 : decode cL_setUp 58 = .ok (.iconst 3, 1) := by decide +kernel
theorem dL_setUp_59 : decode cL_setUp 59 = .ok (.invokestatic 13, 3) := by decide +kernel
theorem dL_setUp_62 : decode cL_setUp 62 = .ok (.ifCond .ne 29, 3) := by decide +kernel
theorem dL_setUp_65 : decode cL_setUp 65 = .ok (.aload_n 0, 1) := by decide +kernel
theorem dL_setUp_66 : decode cL_setUp 66 = .ok (.iload 5, 2) := by decide +kernel
theorem dL_setUp_68 : decode cL_setUp 68 = .ok (.iload 6, 2) := by decide +kernel
theorem dL_setUp_70 : decode cL_setUp 70 = .ok (.aload_n 1, 1) := by decide +kernel
theorem dL_setUp_71 : decode cL_setUp 71 = .ok (.iload_n 2, 1) := by decide +kernel
theorem dL_setUp_72 : decode cL_setUp 72 = .ok (.bipush 30, 2) := by decide +kernel
theorem dL_setUp_74 : decode cL_setUp 74 = .ok (.iadd, 1) := by decide +kernel
theorem dL_setUp_75 : decode cL_setUp 75 = .ok (.iconst 5, 1) := by decide +kernel
theorem dL_setUp_76 : decode cL_setUp 76 = .ok (.iload 5, 2) := by decide +kernel
theorem dL_setUp_78 : decode cL_setUp 78 = .ok (.imul, 1) := by decide +kernel
theorem dL_setUp_79 : decode cL_setUp 79 = .ok (.iadd, 1) := by decide +kernel
theorem dL_setUp_80 : decode cL_setUp 80 = .ok (.iload 6, 2) := by decide +kernel
theorem dL_setUp_82 : decode cL_setUp 82 = .ok (.iadd, 1) := by decide +kernel
theorem dL_setUp_83 : decode cL_setUp 83 = .ok (.iconst 4, 1) := by decide +kernel
theorem dL_setUp_84 : decode cL_setUp 84 = .ok (.invokestatic 13, 3) := by decide +kernel
theorem dL_setUp_87 : decode cL_setUp 87 = .ok (.invokevirtual 23, 3) := by decide +kernel
theorem dL_setUp_90 : decode cL_setUp 90 = .ok (.pop, 1) := by decide +kernel
theorem dL_setUp_91 : decode cL_setUp 91 = .ok (.iinc 6 1, 3) := by decide +kernel
theorem dL_setUp_94 : decode cL_setUp 94 = .ok (.goto (-53), 3) := by decide +kernel
theorem dL_setUp_97 : decode cL_setUp 97 = .ok (.iinc 5 1, 3) := by decide +kernel
theorem dL_setUp_100 : decode cL_setUp 100 = .ok (.goto (-68), 3) := by decide +kernel
theorem dL_setUp_103 : decode cL_setUp 103 = .ok (.aload_n 0, 1) := by decide +kernel
theorem dL_setUp_104 : decode cL_setUp 104 = .ok (.aload_n 1, 1) := by decide +kernel
theorem dL_setUp_105 : decode cL_setUp 105 = .ok (.iload_n 2, 1) := by decide +kernel
theorem dL_setUp_106 : decode cL_setUp 106 = .ok (.iconst 2, 1) := by decide +kernel
theorem dL_setUp_107 : decode cL_setUp 107 = .ok (.iadd, 1) := by decide +kernel
theorem dL_setUp_108 : decode cL_setUp 108 = .ok (.iconst 4, 1) := by decide +kernel
theorem dL_setUp_109 : decode cL_setUp 109 = .ok (.invokestatic 13, 3) := by decide +kernel
theorem dL_setUp_112 : decode cL_setUp 112 = .ok (.invokevirtual 27, 3) := by decide +kernel
theorem dL_setUp_115 : decode cL_setUp 115 = .ok (.pop, 1) := by decide +kernel
theorem dL_setUp_116 : decode cL_setUp 116 = .ok (.return_, 1) := by decide +kernel
theorem dL_law_0 : decode cL_law 0 = .ok (.new 18, 3) := by decide +kernel
theorem dL_law_3 : decode cL_law 3 = .ok (.dup, 1) := by decide +kernel
theorem dL_law_4 : decode cL_law 4 = .ok (.invokespecial 31, 3) := by decide +kernel
theorem dL_law_7 : decode cL_law 7 = .ok (.astore_n 1, 1) := by decide +kernel
theorem dL_law_8 : decode cL_law 8 = .ok (.aload_n 1, 1) := by decide +kernel
theorem dL_law_9 : decode cL_law 9 = .ok (.iconst 0, 1) := by decide +kernel
theorem dL_law_10 : decode cL_law 10 = .ok (.invokevirtual 32, 3) := by decide +kernel
theorem dL_law_13 : decode cL_law 13 = .ok (.iconst 3, 1) := by decide +kernel
theorem dL_law_14 : decode cL_law 14 = .ok (.if_icmp .ne 93, 3) := by decide +kernel
theorem dL_law_17 : decode cL_law 17 = .ok (.aload_n 1, 1) := by decide +kernel
theorem dL_law_18 : decode cL_law 18 = .ok (.iconst 1, 1) := by decide +kernel
theorem dL_law_19 : decode cL_law 19 = .ok (.invokevirtual 32, 3) := by decide +kernel
theorem dL_law_22 : decode cL_law 22 = .ok (.iconst 3, 1) := by decide +kernel
theorem dL_law_23 : decode cL_law 23 = .ok (.if_icmp .ne 84, 3) := by decide +kernel
theorem dL_law_26 : decode cL_law 26 = .ok (.aload_n 1, 1) := by decide +kernel
theorem dL_law_27 : decode cL_law 27 = .ok (.iconst 2, 1) := by decide +kernel
theorem dL_law_28 : decode cL_law 28 = .ok (.invokevirtual 32, 3) := by decide +kernel
theorem dL_law_31 : decode cL_law 31 = .ok (.ifCond .ne 76, 3) := by decide +kernel
theorem dL_law_34 : decode cL_law 34 = .ok (.aload_n 1, 1) := by decide +kernel
theorem dL_law_35 : decode cL_law 35 = .ok (.iconst 3, 1) := by decide +kernel
theorem dL_law_36 : decode cL_law 36 = .ok (.invokevirtual 32, 3) := by decide +kernel
theorem dL_law_39 : decode cL_law 39 = .ok (.ifCond .ne 68, 3) := by decide +kernel
theorem dL_law_42 : decode cL_law 42 = .ok (.aload_n 1, 1) := by decide +kernel
theorem dL_law_43 : decode cL_law 43 = .ok (.iconst 3, 1) := by decide +kernel
theorem dL_law_44 : decode cL_law 44 = .ok (.iconst 3, 1) := by decide +kernel
theorem dL_law_45 : decode cL_law 45 = .ok (.iconst 0, 1) := by decide +kernel
theorem dL_law_46 : decode cL_law 46 = .ok (.invokevirtual 35, 3) := by decide +kernel
theorem dL_law_49 : decode cL_law 49 = .ok (.ifCond .ne 58, 3) := by decide +kernel
theorem dL_law_52 : decode cL_law 52 = .ok (.aload_n 1, 1) := by decide +kernel
theorem dL_law_53 : decode cL_law 53 = .ok (.invokevirtual 38, 3) := by decide +kernel
theorem dL_law_56 : decode cL_law 56 = .ok (.ifCond .ne 51, 3) := by decide +kernel
theorem dL_law_59 : decode cL_law 59 = .ok (.aload_n 1, 1) := by decide +kernel
theorem dL_law_60 : decode cL_law 60 = .ok (.iconst 3, 1) := by decide +kernel
theorem dL_law_61 : decode cL_law 61 = .ok (.invokevirtual 42, 3) := by decide +kernel
theorem dL_law_64 : decode cL_law 64 = .ok (.iconst 1, 1) := by decide +kernel
theorem dL_law_65 : decode cL_law 65 = .ok (.if_icmp .ne 42, 3) := by decide +kernel
theorem dL_law_68 : decode cL_law 68 = .ok (.aload_n 1, 1) := by decide +kernel
theorem dL_law_69 : decode cL_law 69 = .ok (.iconst 3, 1) := by decide +kernel
theorem dL_law_70 : decode cL_law 70 = .ok (.iconst 3, 1) := by decide +kernel
theorem dL_law_71 : decode cL_law 71 = .ok (.invokevirtual 45, 3) := by decide +kernel
theorem dL_law_74 : decode cL_law 74 = .ok (.lconst 1, 1) := by decide +kernel
theorem dL_law_75 : decode cL_law 75 = .ok (.lcmp, 1) := by decide +kernel
theorem dL_law_76 : decode cL_law 76 = .ok (.ifCond .ne 31, 3) := by decide +kernel
theorem dL_law_79 : decode cL_law 79 = .ok (.aload_n 1, 1) := by decide +kernel
theorem dL_law_80 : decode cL_law 80 = .ok (.iconst 0, 1) := by decide +kernel
theorem dL_law_81 : decode cL_law 81 = .ok (.iconst 0, 1) := by decide +kernel
theorem dL_law_82 : decode cL_law 82 = .ok (.invokevirtual 49, 3) := by decide +kernel
theorem dL_law_85 : decode cL_law 85 = .ok (.iconst 1, 1) := by decide +kernel
theorem dL_law_86 : decode cL_law 86 = .ok (.if_icmp .ne 21, 3) := by decide +kernel
theorem dL_law_89 : decode cL_law 89 = .ok (.aload_n 1, 1) := by decide +kernel
theorem dL_law_90 : decode cL_law 90 = .ok (.invokevirtual 52, 3) := by decide +kernel
theorem dL_law_93 : decode cL_law 93 = .ok (.bipush (-5), 2) := by decide +kernel
theorem dL_law_95 : decode cL_law 95 = .ok (.if_icmp .ne 12, 3) := by decide +kernel
theorem dL_law_98 : decode cL_law 98 = .ok (.aload_n 1, 1) := by decide +kernel
theorem dL_law_99 : decode cL_law 99 = .ok (.invokevirtual 55, 3) := by decide +kernel
theorem dL_law_102 : decode cL_law 102 = .ok (.bipush (-5), 2) := by decide +kernel
theorem dL_law_104 : decode cL_law 104 = .ok (.if_icmp .eq 5, 3) := by decide +kernel
theorem dL_law_107 : decode cL_law 107 = .ok (.iconst 0, 1) := by decide +kernel
theorem dL_law_108 : decode cL_law 108 = .ok (.ireturn, 1) := by decide +kernel
theorem dL_law_109 : decode cL_law 109 = .ok (.aload_n 1, 1) := by decide +kernel
theorem dL_law_110 : decode cL_law 110 = .ok (.aload_n 0, 1) := by decide +kernel
theorem dL_law_111 : decode cL_law 111 = .ok (.iconst 0, 1) := by decide +kernel
theorem dL_law_112 : decode cL_law 112 = .ok (.invokestatic 58, 3) := by decide +kernel
theorem dL_law_115 : decode cL_law 115 = .ok (.aload_n 1, 1) := by decide +kernel
theorem dL_law_116 : decode cL_law 116 = .ok (.iconst 0, 1) := by decide +kernel
theorem dL_law_117 : decode cL_law 117 = .ok (.invokevirtual 32, 3) := by decide +kernel
theorem dL_law_120 : decode cL_law 120 = .ok (.istore_n 2, 1) := by decide +kernel
theorem dL_law_121 : decode cL_law 121 = .ok (.aload_n 1, 1) := by decide +kernel
theorem dL_law_122 : decode cL_law 122 = .ok (.iconst 1, 1) := by decide +kernel
theorem dL_law_123 : decode cL_law 123 = .ok (.invokevirtual 32, 3) := by decide +kernel
theorem dL_law_126 : decode cL_law 126 = .ok (.istore_n 3, 1) := by decide +kernel
theorem dL_law_127 : decode cL_law 127 = .ok (.iconst 0, 1) := by decide +kernel
theorem dL_law_128 : decode cL_law 128 = .ok (.istore 4, 2) := by decide +kernel
theorem dL_law_130 : decode cL_law 130 = .ok (.iload 4, 2) := by decide +kernel
theorem dL_law_132 : decode cL_law 132 = .ok (.iconst 4, 1) := by decide +kernel
theorem dL_law_133 : decode cL_law 133 = .ok (.if_icmp .ge 614, 3) := by decide +kernel
theorem dL_law_136 : decode cL_law 136 = .ok (.aload_n 1, 1) := by decide +kernel
theorem dL_law_137 : decode cL_law 137 = .ok (.iload 4, 2) := by decide +kernel
theorem dL_law_139 : decode cL_law 139 = .ok (.invokevirtual 27, 3) := by decide +kernel
theorem dL_law_142 : decode cL_law 142 = .ok (.pop, 1) := by decide +kernel
theorem dL_law_143 : decode cL_law 143 = .ok (.bipush 36, 2) := by decide +kernel
theorem dL_law_145 : decode cL_law 145 = .ok (.newarray .int, 2) := by decide +kernel
theorem dL_law_147 : decode cL_law 147 = .ok (.astore 5, 2) := by decide +kernel
theorem dL_law_149 : decode cL_law 149 = .ok (.iconst 1, 1) := by decide +kernel
theorem dL_law_150 : decode cL_law 150 = .ok (.istore 6, 2) := by decide +kernel
theorem dL_law_152 : decode cL_law 152 = .ok (.iload 6, 2) := by decide +kernel
theorem dL_law_154 : decode cL_law 154 = .ok (.iload_n 2, 1) := by decide +kernel
theorem dL_law_155 : decode cL_law 155 = .ok (.if_icmp .gt 70, 3) := by decide +kernel
theorem dL_law_158 : decode cL_law 158 = .ok (.iconst 1, 1) := by decide +kernel
theorem dL_law_159 : decode cL_law 159 = .ok (.istore 7, 2) := by decide +kernel
theorem dL_law_161 : decode cL_law 161 = .ok (.iload 7, 2) := by decide +kernel
theorem dL_law_163 : decode cL_law 163 = .ok (.iload_n 3, 1) := by decide +kernel
theorem dL_law_164 : decode cL_law 164 = .ok (.if_icmp .gt 55, 3) := by decide +kernel
theorem dL_law_167 : decode cL_law 167 = .ok (.aload 5, 2) := by decide +kernel
theorem dL_law_169 : decode cL_law 169 = .ok (.bipush 6, 2) := by decide +kernel
theorem dL_law_171 : decode cL_law 171 = .ok (.iload 6, 2) := by decide +kernel
theorem dL_law_173 : decode cL_law 173 = .ok (.imul, 1) := by decide +kernel
theorem dL_law_174 : decode cL_law 174 = .ok (.iload 7, 2) := by decide +kernel
theorem dL_law_176 : decode cL_law 176 = .ok (.iadd, 1) := by decide +kernel
theorem dL_law_177 : decode cL_law 177 = .ok (.iload 4, 2) := by decide +kernel
theorem dL_law_179 : decode cL_law 179 = .ok (.iconst 1, 1) := by decide +kernel
theorem dL_law_180 : decode cL_law 180 = .ok (.if_icmp .eq 9, 3) := by decide +kernel
theorem dL_law_183 : decode cL_law 183 = .ok (.iload 4, 2) := by decide +kernel
theorem dL_law_185 : decode cL_law 185 = .ok (.iconst 2, 1) := by decide +kernel
theorem dL_law_186 : decode cL_law 186 = .ok (.if_icmp .ne 18, 3) := by decide +kernel
theorem dL_law_189 : decode cL_law 189 = .ok (.iconst 1, 1) := by decide +kernel
theorem dL_law_190 : decode cL_law 190 = .ok (.aload_n 1, 1) := by decide +kernel
theorem dL_law_191 : decode cL_law 191 = .ok (.iload 6, 2) := by decide +kernel
theorem dL_law_193 : decode cL_law 193 = .ok (.iload 7, 2) := by decide +kernel
theorem dL_law_195 : decode cL_law 195 = .ok (.invokevirtual 62, 3) := by decide +kernel
theorem dL_law_198 : decode cL_law 198 = .ok (.invokestatic 64, 3) := by decide +kernel
theorem dL_law_201 : decode cL_law 201 = .ok (.goto 11, 3) := by decide +kernel
theorem dL_law_204 : decode cL_law 204 = .ok (.aload_n 1, 1) := by decide +kernel
theorem dL_law_205 : decode cL_law 205 = .ok (.iload 6, 2) := by decide +kernel
theorem dL_law_207 : decode cL_law 207 = .ok (.iload 7, 2) := by decide +kernel
theorem dL_law_209 : decode cL_law 209 = .ok (.invokevirtual 62, 3) := by decide +kernel
theorem dL_law_212 : decode cL_law 212 = .ok (.iastore, 1) := by decide +kernel
theorem dL_law_213 : decode cL_law 213 = .ok (.iinc 7 1, 3) := by decide +kernel
theorem dL_law_216 : decode cL_law 216 = .ok (.goto (-55), 3) := by decide +kernel
theorem dL_law_219 : decode cL_law 219 = .ok (.iinc 6 1, 3) := by decide +kernel
theorem dL_law_222 : decode cL_law 222 = .ok (.goto (-70), 3) := by decide +kernel
theorem dL_law_225 : decode cL_law 225 = .ok (.iconst 0, 1) := by decide +kernel
theorem dL_law_226 : decode cL_law 226 = .ok (.istore 6, 2) := by decide +kernel
theorem dL_law_228 : decode cL_law 228 = .ok (.iload 6, 2) := by decide +kernel
theorem dL_law_230 : decode cL_law 230 = .ok (.iload_n 2, 1) := by decide +kernel
theorem dL_law_231 : decode cL_law 231 = .ok (.if_icmp .gt 91, 3) := by decide +kernel
theorem dL_law_234 : decode cL_law 234 = .ok (.iconst 0, 1) := by decide +kernel
theorem dL_law_235 : decode cL_law 235 = .ok (.istore 7, 2) := by decide +kernel
theorem dL_law_237 : decode cL_law 237 = .ok (.iload 7, 2) := by decide +kernel
theorem dL_law_239 : decode cL_law 239 = .ok (.iload_n 3, 1) := by decide +kernel
theorem dL_law_240 : decode cL_law 240 = .ok (.if_icmp .gt 76, 3) := by decide +kernel
theorem dL_law_243 : decode cL_law 243 = .ok (.iconst 0, 1) := by decide +kernel
theorem dL_law_244 : decode cL_law 244 = .ok (.istore 8, 2) := by decide +kernel
theorem dL_law_246 : decode cL_law 246 = .ok (.iconst 1, 1) := by decide +kernel
theorem dL_law_247 : decode cL_law 247 = .ok (.istore 9, 2) := by decide +kernel
theorem dL_law_249 : decode cL_law 249 = .ok (.iload 9, 2) := by decide +kernel
theorem dL_law_251 : decode cL_law 251 = .ok (.iload 6, 2) := by decide +kernel
theorem dL_law_253 : decode cL_law 253 = .ok (.if_icmp .gt 41, 3) := by decide +kernel
theorem dL_law_256 : decode cL_law 256 = .ok (.iconst 1, 1) := by decide +kernel
theorem dL_law_257 : decode cL_law 257 = .ok (.istore 10, 2) := by decide +kernel
theorem dL_law_259 : decode cL_law 259 = .ok (.iload 10, 2) := by decide +kernel
theorem dL_law_261 : decode cL_law 261 = .ok (.iload 7, 2) := by decide +kernel
theorem dL_law_263 : decode cL_law 263 = .ok (.if_icmp .gt 25, 3) := by decide +kernel
theorem dL_law_266 : decode cL_law 266 = .ok (.iload 8, 2) := by decide +kernel
theorem dL_law_268 : decode cL_law 268 = .ok (.aload 5, 2) := by decide +kernel
theorem dL_law_270 : decode cL_law 270 = .ok (.bipush 6, 2) := by decide +kernel
theorem dL_law_272 : decode cL_law 272 = .ok (.iload 9, 2) := by decide +kernel
theorem dL_law_274 : decode cL_law 274 = .ok (.imul, 1) := by decide +kernel
theorem dL_law_275 : decode cL_law 275 = .ok (.iload 10, 2) := by decide +kernel
theorem dL_law_277 : decode cL_law 277 = .ok (.iadd, 1) := by decide +kernel
theorem dL_law_278 : decode cL_law 278 = .ok (.iaload, 1) := by decide +kernel
theorem dL_law_279 : decode cL_law 279 = .ok (.iadd, 1) := by decide +kernel
theorem dL_law_280 : decode cL_law 280 = .ok (.istore 8, 2) := by decide +kernel
theorem dL_law_282 : decode cL_law 282 = .ok (.iinc 10 1, 3) := by decide +kernel
theorem dL_law_285 : decode cL_law 285 = .ok (.goto (-26), 3) := by decide +kernel
theorem dL_law_288 : decode cL_law 288 = .ok (.iinc 9 1, 3) := by decide +kernel
theorem dL_law_291 : decode cL_law 291 = .ok (.goto (-42), 3) := by decide +kernel
theorem dL_law_294 : decode cL_law 294 = .ok (.aload_n 1, 1) := by decide +kernel
theorem dL_law_295 : decode cL_law 295 = .ok (.iload 6, 2) := by decide +kernel
theorem dL_law_297 : decode cL_law 297 = .ok (.iload 7, 2) := by decide +kernel
theorem dL_law_299 : decode cL_law 299 = .ok (.iconst 0, 1) := by decide +kernel
theorem dL_law_300 : decode cL_law 300 = .ok (.invokevirtual 35, 3) := by decide +kernel
theorem dL_law_303 : decode cL_law 303 = .ok (.iload 8, 2) := by decide +kernel
theorem dL_law_305 : decode cL_law 305 = .ok (.if_icmp .eq 5, 3) := by decide +kernel
theorem dL_law_308 : decode cL_law 308 = .ok (.iconst 0, 1) := by decide +kernel
theorem dL_law_309 : decode cL_law 309 = .ok (.ireturn, 1) := by decide +kernel
theorem dL_law_310 : decode cL_law 310 = .ok (.iinc 7 1, 3) := by decide +kernel
theorem dL_law_313 : decode cL_law 313 = .ok (.goto (-76), 3) := by decide +kernel
theorem dL_law_316 : decode cL_law 316 = .ok (.iinc 6 1, 3) := by decide +kernel
theorem dL_law_319 : decode cL_law 319 = .ok (.goto (-91), 3) := by decide +kernel
theorem dL_law_322 : decode cL_law 322 = .ok (.aload_n 1, 1) := by decide +kernel
theorem dL_law_323 : decode cL_law 323 = .ok (.iload_n 2, 1) := by decide +kernel
theorem dL_law_324 : decode cL_law 324 = .ok (.iload_n 3, 1) := by decide +kernel
theorem dL_law_325 : decode cL_law 325 = .ok (.iconst 1, 1) := by decide +kernel
theorem dL_law_326 : decode cL_law 326 = .ok (.invokevirtual 35, 3) := by decide +kernel
theorem dL_law_329 : decode cL_law 329 = .ok (.istore 6, 2) := by decide +kernel
theorem dL_law_331 : decode cL_law 331 = .ok (.iconst 0, 1) := by decide +kernel
theorem dL_law_332 : decode cL_law 332 = .ok (.istore 7, 2) := by decide +kernel
theorem dL_law_334 : decode cL_law 334 = .ok (.iconst 0, 1) := by decide +kernel
theorem dL_law_335 : decode cL_law 335 = .ok (.istore 8, 2) := by decide +kernel
theorem dL_law_337 : decode cL_law 337 = .ok (.iconst 0, 1) := by decide +kernel
theorem dL_law_338 : decode cL_law 338 = .ok (.istore 9, 2) := by decide +kernel
theorem dL_law_340 : decode cL_law 340 = .ok (.iload 9, 2) := by decide +kernel
theorem dL_law_342 : decode cL_law 342 = .ok (.bipush 77, 2) := by decide +kernel
theorem dL_law_344 : decode cL_law 344 = .ok (.if_icmp .ge 110, 3) := by decide +kernel
theorem dL_law_347 : decode cL_law 347 = .ok (.iload 7, 2) := by decide +kernel
theorem dL_law_349 : decode cL_law 349 = .ok (.aload_n 1, 1) := by decide +kernel
theorem dL_law_350 : decode cL_law 350 = .ok (.iload_n 2, 1) := by decide +kernel
theorem dL_law_351 : decode cL_law 351 = .ok (.iload_n 3, 1) := by decide +kernel
theorem dL_law_352 : decode cL_law 352 = .ok (.iload 9, 2) := by decide +kernel
theorem dL_law_354 : decode cL_law 354 = .ok (.invokevirtual 69, 3) := by decide +kernel
theorem dL_law_357 : decode cL_law 357 = .ok (.iadd, 1) := by decide +kernel
theorem dL_law_358 : decode cL_law 358 = .ok (.istore 7, 2) := by decide +kernel
theorem dL_law_360 : decode cL_law 360 = .ok (.iload 8, 2) := by decide +kernel
theorem dL_law_362 : decode cL_law 362 = .ok (.aload_n 1, 1) := by decide +kernel
theorem dL_law_363 : decode cL_law 363 = .ok (.iload_n 2, 1) := by decide +kernel
theorem dL_law_364 : decode cL_law 364 = .ok (.iload_n 3, 1) := by decide +kernel
theorem dL_law_365 : decode cL_law 365 = .ok (.iload 9, 2) := by decide +kernel
theorem dL_law_367 : decode cL_law 367 = .ok (.invokevirtual 72, 3) := by decide +kernel
theorem dL_law_370 : decode cL_law 370 = .ok (.iadd, 1) := by decide +kernel
theorem dL_law_371 : decode cL_law 371 = .ok (.istore 8, 2) := by decide +kernel
theorem dL_law_373 : decode cL_law 373 = .ok (.aload_n 1, 1) := by decide +kernel
theorem dL_law_374 : decode cL_law 374 = .ok (.iload_n 2, 1) := by decide +kernel
theorem dL_law_375 : decode cL_law 375 = .ok (.iload_n 3, 1) := by decide +kernel
theorem dL_law_376 : decode cL_law 376 = .ok (.iload 9, 2) := by decide +kernel
theorem dL_law_378 : decode cL_law 378 = .ok (.iconst 1, 1) := by decide +kernel
theorem dL_law_379 : decode cL_law 379 = .ok (.iadd, 1) := by decide +kernel
theorem dL_law_380 : decode cL_law 380 = .ok (.invokevirtual 69, 3) := by decide +kernel
theorem dL_law_383 : decode cL_law 383 = .ok (.aload_n 1, 1) := by decide +kernel
theorem dL_law_384 : decode cL_law 384 = .ok (.iload_n 2, 1) := by decide +kernel
theorem dL_law_385 : decode cL_law 385 = .ok (.iload_n 3, 1) := by decide +kernel
theorem dL_law_386 : decode cL_law 386 = .ok (.iload 9, 2) := by decide +kernel
theorem dL_law_388 : decode cL_law 388 = .ok (.invokevirtual 69, 3) := by decide +kernel
theorem dL_law_391 : decode cL_law 391 = .ok (.if_icmp .gt 55, 3) := by decide +kernel
theorem dL_law_394 : decode cL_law 394 = .ok (.aload_n 1, 1) := by decide +kernel
theorem dL_law_395 : decode cL_law 395 = .ok (.iload_n 2, 1) := by decide +kernel
theorem dL_law_396 : decode cL_law 396 = .ok (.iload_n 3, 1) := by decide +kernel
theorem dL_law_397 : decode cL_law 397 = .ok (.iload 9, 2) := by decide +kernel
theorem dL_law_399 : decode cL_law 399 = .ok (.iconst 1, 1) := by decide +kernel
theorem dL_law_400 : decode cL_law 400 = .ok (.iadd, 1) := by decide +kernel
theorem dL_law_401 : decode cL_law 401 = .ok (.invokevirtual 72, 3) := by decide +kernel
theorem dL_law_404 : decode cL_law 404 = .ok (.aload_n 1, 1) := by decide +kernel
theorem dL_law_405 : decode cL_law 405 = .ok (.iload_n 2, 1) := by decide +kernel
theorem dL_law_406 : decode cL_law 406 = .ok (.iload_n 3, 1) := by decide +kernel
theorem dL_law_407 : decode cL_law 407 = .ok (.iload 9, 2) := by decide +kernel
theorem dL_law_409 : decode cL_law 409 = .ok (.invokevirtual 72, 3) := by decide +kernel
theorem dL_law_412 : decode cL_law 412 = .ok (.if_icmp .gt 34, 3) := by decide +kernel
theorem dL_law_415 : decode cL_law 415 = .ok (.aload_n 1, 1) := by decide +kernel
theorem dL_law_416 : decode cL_law 416 = .ok (.iload_n 2, 1) := by decide +kernel
theorem dL_law_417 : decode cL_law 417 = .ok (.iload_n 3, 1) := by decide +kernel
theorem dL_law_418 : decode cL_law 418 = .ok (.iload 9, 2) := by decide +kernel
theorem dL_law_420 : decode cL_law 420 = .ok (.invokevirtual 69, 3) := by decide +kernel
theorem dL_law_423 : decode cL_law 423 = .ok (.ifCond .le 7, 3) := by decide +kernel
theorem dL_law_426 : decode cL_law 426 = .ok (.iconst 1, 1) := by decide +kernel
theorem dL_law_427 : decode cL_law 427 = .ok (.goto 4, 3) := by decide +kernel
theorem dL_law_430 : decode cL_law 430 = .ok (.iconst 0, 1) := by decide +kernel
theorem dL_law_431 : decode cL_law 431 = .ok (.iload 9, 2) := by decide +kernel
theorem dL_law_433 : decode cL_law 433 = .ok (.iload 6, 2) := by decide +kernel
theorem dL_law_435 : decode cL_law 435 = .ok (.if_icmp .ge 7, 3) := by decide +kernel
theorem dL_law_438 : decode cL_law 438 = .ok (.iconst 1, 1) := by decide +kernel
theorem dL_law_439 : decode cL_law 439 = .ok (.goto 4, 3) := by decide +kernel
theorem dL_law_442 : decode cL_law 442 = .ok (.iconst 0, 1) := by decide +kernel
theorem dL_law_443 : decode cL_law 443 = .ok (.if_icmp .eq 5, 3) := by decide +kernel
theorem dL_law_446 : decode cL_law 446 = .ok (.iconst 0, 1) := by decide +kernel
theorem dL_law_447 : decode cL_law 447 = .ok (.ireturn, 1) := by decide +kernel
theorem dL_law_448 : decode cL_law 448 = .ok (.iinc 9 1, 3) := by decide +kernel
theorem dL_law_451 : decode cL_law 451 = .ok (.goto (-111), 3) := by decide +kernel
theorem dL_law_454 : decode cL_law 454 = .ok (.iload 7, 2) := by decide +kernel
theorem dL_law_456 : decode cL_law 456 = .ok (.aload_n 1, 1) := by decide +kernel
theorem dL_law_457 : decode cL_law 457 = .ok (.iload_n 2, 1) := by decide +kernel
theorem dL_law_458 : decode cL_law 458 = .ok (.iload_n 3, 1) := by decide +kernel
theorem dL_law_459 : decode cL_law 459 = .ok (.iconst 0, 1) := by decide +kernel
theorem dL_law_460 : decode cL_law 460 = .ok (.invokevirtual 35, 3) := by decide +kernel
theorem dL_law_463 : decode cL_law 463 = .ok (.if_icmp .ne 22, 3) := by decide +kernel
theorem dL_law_466 : decode cL_law 466 = .ok (.iload 8, 2) := by decide +kernel
theorem dL_law_468 : decode cL_law 468 = .ok (.iload 7, 2) := by decide +kernel
theorem dL_law_470 : decode cL_law 470 = .ok (.if_icmp .ne 15, 3) := by decide +kernel
theorem dL_law_473 : decode cL_law 473 = .ok (.aload_n 1, 1) := by decide +kernel
theorem dL_law_474 : decode cL_law 474 = .ok (.iload_n 2, 1) := by decide +kernel
theorem dL_law_475 : decode cL_law 475 = .ok (.iload_n 3, 1) := by decide +kernel
theorem dL_law_476 : decode cL_law 476 = .ok (.iconst 0, 1) := by decide +kernel
theorem dL_law_477 : decode cL_law 477 = .ok (.invokevirtual 72, 3) := by decide +kernel
theorem dL_law_480 : decode cL_law 480 = .ok (.iload 6, 2) := by decide +kernel
theorem dL_law_482 : decode cL_law 482 = .ok (.if_icmp .eq 5, 3) := by decide +kernel
theorem dL_law_485 : decode cL_law 485 = .ok (.iconst 0, 1) := by decide +kernel
theorem dL_law_486 : decode cL_law 486 = .ok (.ireturn, 1) := by decide +kernel
theorem dL_law_487 : decode cL_law 487 = .ok (.iload 4, 2) := by decide +kernel
theorem dL_law_489 : decode cL_law 489 = .ok (.ifCond .ne 32, 3) := by decide +kernel
theorem dL_law_492 : decode cL_law 492 = .ok (.aload_n 1, 1) := by decide +kernel
theorem dL_law_493 : decode cL_law 493 = .ok (.iload_n 2, 1) := by decide +kernel
theorem dL_law_494 : decode cL_law 494 = .ok (.iload_n 3, 1) := by decide +kernel
theorem dL_law_495 : decode cL_law 495 = .ok (.iconst 0, 1) := by decide +kernel
theorem dL_law_496 : decode cL_law 496 = .ok (.invokevirtual 69, 3) := by decide +kernel
theorem dL_law_499 : decode cL_law 499 = .ok (.aload_n 1, 1) := by decide +kernel
theorem dL_law_500 : decode cL_law 500 = .ok (.iconst 0, 1) := by decide +kernel
theorem dL_law_501 : decode cL_law 501 = .ok (.iconst 0, 1) := by decide +kernel
theorem dL_law_502 : decode cL_law 502 = .ok (.invokevirtual 75, 3) := by decide +kernel
theorem dL_law_505 : decode cL_law 505 = .ok (.if_icmp .ne 14, 3) := by decide +kernel
theorem dL_law_508 : decode cL_law 508 = .ok (.iload 6, 2) := by decide +kernel
theorem dL_law_510 : decode cL_law 510 = .ok (.aload_n 1, 1) := by decide +kernel
theorem dL_law_511 : decode cL_law 511 = .ok (.iconst 3, 1) := by decide +kernel
theorem dL_law_512 : decode cL_law 512 = .ok (.iconst 1, 1) := by decide +kernel
theorem dL_law_513 : decode cL_law 513 = .ok (.invokevirtual 75, 3) := by decide +kernel
theorem dL_law_516 : decode cL_law 516 = .ok (.if_icmp .eq 5, 3) := by decide +kernel
theorem dL_law_519 : decode cL_law 519 = .ok (.iconst 0, 1) := by decide +kernel
theorem dL_law_520 : decode cL_law 520 = .ok (.ireturn, 1) := by decide +kernel
theorem dL_law_521 : decode cL_law 521 = .ok (.iload 4, 2) := by decide +kernel
theorem dL_law_523 : decode cL_law 523 = .ok (.iconst 3, 1) := by decide +kernel
theorem dL_law_524 : decode cL_law 524 = .ok (.if_icmp .ne 32, 3) := by decide +kernel
theorem dL_law_527 : decode cL_law 527 = .ok (.aload_n 1, 1) := by decide +kernel
theorem dL_law_528 : decode cL_law 528 = .ok (.iload_n 2, 1) := by decide +kernel
theorem dL_law_529 : decode cL_law 529 = .ok (.iload_n 3, 1) := by decide +kernel
theorem dL_law_530 : decode cL_law 530 = .ok (.iconst 0, 1) := by decide +kernel
theorem dL_law_531 : decode cL_law 531 = .ok (.invokevirtual 69, 3) := by decide +kernel
theorem dL_law_534 : decode cL_law 534 = .ok (.aload_n 1, 1) := by decide +kernel
theorem dL_law_535 : decode cL_law 535 = .ok (.iconst 1, 1) := by decide +kernel
theorem dL_law_536 : decode cL_law 536 = .ok (.iconst 1, 1) := by decide +kernel
theorem dL_law_537 : decode cL_law 537 = .ok (.invokevirtual 75, 3) := by decide +kernel
theorem dL_law_540 : decode cL_law 540 = .ok (.if_icmp .ne 14, 3) := by decide +kernel
theorem dL_law_543 : decode cL_law 543 = .ok (.iload 6, 2) := by decide +kernel
theorem dL_law_545 : decode cL_law 545 = .ok (.aload_n 1, 1) := by decide +kernel
theorem dL_law_546 : decode cL_law 546 = .ok (.iconst 2, 1) := by decide +kernel
theorem dL_law_547 : decode cL_law 547 = .ok (.iconst 0, 1) := by decide +kernel
theorem dL_law_548 : decode cL_law 548 = .ok (.invokevirtual 75, 3) := by decide +kernel
theorem dL_law_551 : decode cL_law 551 = .ok (.if_icmp .eq 5, 3) := by decide +kernel
theorem dL_law_554 : decode cL_law 554 = .ok (.iconst 0, 1) := by decide +kernel
theorem dL_law_555 : decode cL_law 555 = .ok (.ireturn, 1) := by decide +kernel
theorem dL_law_556 : decode cL_law 556 = .ok (.aload_n 1, 1) := by decide +kernel
theorem dL_law_557 : decode cL_law 557 = .ok (.iload 4, 2) := by decide +kernel
theorem dL_law_559 : decode cL_law 559 = .ok (.invokevirtual 42, 3) := by decide +kernel
theorem dL_law_562 : decode cL_law 562 = .ok (.iconst 1, 1) := by decide +kernel
theorem dL_law_563 : decode cL_law 563 = .ok (.if_icmp .eq 5, 3) := by decide +kernel
theorem dL_law_566 : decode cL_law 566 = .ok (.iconst 0, 1) := by decide +kernel
theorem dL_law_567 : decode cL_law 567 = .ok (.ireturn, 1) := by decide +kernel
theorem dL_law_568 : decode cL_law 568 = .ok (.iconst 0, 1) := by decide +kernel
theorem dL_law_569 : decode cL_law 569 = .ok (.istore 9, 2) := by decide +kernel
theorem dL_law_571 : decode cL_law 571 = .ok (.iconst 1, 1) := by decide +kernel
theorem dL_law_572 : decode cL_law 572 = .ok (.istore 10, 2) := by decide +kernel
theorem dL_law_574 : decode cL_law 574 = .ok (.iload 10, 2) := by decide +kernel
theorem dL_law_576 : decode cL_law 576 = .ok (.iload_n 2, 1) := by decide +kernel
theorem dL_law_577 : decode cL_law 577 = .ok (.if_icmp .gt 56, 3) := by decide +kernel
theorem dL_law_580 : decode cL_law 580 = .ok (.iconst 1, 1) := by decide +kernel
theorem dL_law_581 : decode cL_law 581 = .ok (.istore 11, 2) := by decide +kernel
theorem dL_law_583 : decode cL_law 583 = .ok (.iload 11, 2) := by decide +kernel
theorem dL_law_585 : decode cL_law 585 = .ok (.iload_n 3, 1) := by decide +kernel
theorem dL_law_586 : decode cL_law 586 = .ok (.if_icmp .gt 41, 3) := by decide +kernel
theorem dL_law_589 : decode cL_law 589 = .ok (.iload 9, 2) := by decide +kernel
theorem dL_law_591 : decode cL_law 591 = .ok (.aload_n 1, 1) := by decide +kernel
theorem dL_law_592 : decode cL_law 592 = .ok (.iload 10, 2) := by decide +kernel
theorem dL_law_594 : decode cL_law 594 = .ok (.iload 11, 2) := by decide +kernel
theorem dL_law_596 : decode cL_law 596 = .ok (.invokevirtual 62, 3) := by decide +kernel
theorem dL_law_599 : decode cL_law 599 = .ok (.aload 5, 2) := by decide +kernel
theorem dL_law_601 : decode cL_law 601 = .ok (.bipush 6, 2) := by decide +kernel
theorem dL_law_603 : decode cL_law 603 = .ok (.iload 10, 2) := by decide +kernel
theorem dL_law_605 : decode cL_law 605 = .ok (.imul, 1) := by decide +kernel
theorem dL_law_606 : decode cL_law 606 = .ok (.iload 11, 2) := by decide +kernel
theorem dL_law_608 : decode cL_law 608 = .ok (.iadd, 1) := by decide +kernel
theorem dL_law_609 : decode cL_law 609 = .ok (.iaload, 1) := by decide +kernel
theorem dL_law_610 : decode cL_law 610 = .ok (.if_icmp .ne 7, 3) := by decide +kernel
theorem dL_law_613 : decode cL_law 613 = .ok (.iconst 0, 1) := by decide +kernel
theorem dL_law_614 : decode cL_law 614 = .ok (.goto 4, 3) := by decide +kernel
theorem dL_law_617 : decode cL_law 617 = .ok (.iconst 1, 1) := by decide +kernel
theorem dL_law_618 : decode cL_law 618 = .ok (.iadd, 1) := by decide +kernel
theorem dL_law_619 : decode cL_law 619 = .ok (.istore 9, 2) := by decide +kernel
theorem dL_law_621 : decode cL_law 621 = .ok (.iinc 11 1, 3) := by decide +kernel
theorem dL_law_624 : decode cL_law 624 = .ok (.goto (-41), 3) := by decide +kernel
theorem dL_law_627 : decode cL_law 627 = .ok (.iinc 10 1, 3) := by decide +kernel
theorem dL_law_630 : decode cL_law 630 = .ok (.goto (-56), 3) := by decide +kernel
theorem dL_law_633 : decode cL_law 633 = .ok (.aload_n 1, 1) := by decide +kernel
theorem dL_law_634 : decode cL_law 634 = .ok (.iload 4, 2) := by decide +kernel
theorem dL_law_636 : decode cL_law 636 = .ok (.invokevirtual 78, 3) := by decide +kernel
theorem dL_law_639 : decode cL_law 639 = .ok (.iload 9, 2) := by decide +kernel
theorem dL_law_641 : decode cL_law 641 = .ok (.if_icmp .ne 20, 3) := by decide +kernel
theorem dL_law_644 : decode cL_law 644 = .ok (.aload_n 1, 1) := by decide +kernel
theorem dL_law_645 : decode cL_law 645 = .ok (.iconst 2, 1) := by decide +kernel
theorem dL_law_646 : decode cL_law 646 = .ok (.invokevirtual 32, 3) := by decide +kernel
theorem dL_law_649 : decode cL_law 649 = .ok (.iload 4, 2) := by decide +kernel
theorem dL_law_651 : decode cL_law 651 = .ok (.if_icmp .ne 10, 3) := by decide +kernel
theorem dL_law_654 : decode cL_law 654 = .ok (.aload_n 1, 1) := by decide +kernel
theorem dL_law_655 : decode cL_law 655 = .ok (.invokevirtual 52, 3) := by decide +kernel
theorem dL_law_658 : decode cL_law 658 = .ok (.ifCond .ge 5, 3) := by decide +kernel
theorem dL_law_661 : decode cL_law 661 = .ok (.iconst 0, 1) := by decide +kernel
theorem dL_law_662 : decode cL_law 662 = .ok (.ireturn, 1) := by decide +kernel
theorem dL_law_663 : decode cL_law 663 = .ok (.aload_n 1, 1) := by decide +kernel
theorem dL_law_664 : decode cL_law 664 = .ok (.invokevirtual 81, 3) := by decide +kernel
theorem dL_law_667 : decode cL_law 667 = .ok (.pop, 1) := by decide +kernel
theorem dL_law_668 : decode cL_law 668 = .ok (.iconst 1, 1) := by decide +kernel
theorem dL_law_669 : decode cL_law 669 = .ok (.istore 10, 2) := by decide +kernel
theorem dL_law_671 : decode cL_law 671 = .ok (.iload 10, 2) := by decide +kernel
theorem dL_law_673 : decode cL_law 673 = .ok (.iload_n 2, 1) := by decide +kernel
theorem dL_law_674 : decode cL_law 674 = .ok (.if_icmp .gt 48, 3) := by decide +kernel
theorem dL_law_677 : decode cL_law 677 = .ok (.iconst 1, 1) := by decide +kernel
theorem dL_law_678 : decode cL_law 678 = .ok (.istore 11, 2) := by decide +kernel
theorem dL_law_680 : decode cL_law 680 = .ok (.iload 11, 2) := by decide +kernel
theorem dL_law_682 : decode cL_law 682 = .ok (.iload_n 3, 1) := by decide +kernel
theorem dL_law_683 : decode cL_law 683 = .ok (.if_icmp .gt 33, 3) := by decide +kernel
theorem dL_law_686 : decode cL_law 686 = .ok (.aload_n 1, 1) := by decide +kernel
theorem dL_law_687 : decode cL_law 687 = .ok (.iload 10, 2) := by decide +kernel
theorem dL_law_689 : decode cL_law 689 = .ok (.iload 11, 2) := by decide +kernel
theorem dL_law_691 : decode cL_law 691 = .ok (.invokevirtual 62, 3) := by decide +kernel
theorem dL_law_694 : decode cL_law 694 = .ok (.aload 5, 2) := by decide +kernel
theorem dL_law_696 : decode cL_law 696 = .ok (.bipush 6, 2) := by decide +kernel
theorem dL_law_698 : decode cL_law 698 = .ok (.iload 10, 2) := by decide +kernel
theorem dL_law_700 : decode cL_law 700 = .ok (.imul, 1) := by decide +kernel
theorem dL_law_701 : decode cL_law 701 = .ok (.iload 11, 2) := by decide +kernel
theorem dL_law_703 : decode cL_law 703 = .ok (.iadd, 1) := by decide +kernel
theorem dL_law_704 : decode cL_law 704 = .ok (.iaload, 1) := by decide +kernel
theorem dL_law_705 : decode cL_law 705 = .ok (.if_icmp .eq 5, 3) := by decide +kernel
theorem dL_law_708 : decode cL_law 708 = .ok (.iconst 0, 1) := by decide +kernel
theorem dL_law_709 : decode cL_law 709 = .ok (.ireturn, 1) := by decide +kernel
theorem dL_law_710 : decode cL_law 710 = .ok (.iinc 11 1, 3) := by decide +kernel
theorem dL_law_713 : decode cL_law 713 = .ok (.goto (-33), 3) := by decide +kernel
theorem dL_law_716 : decode cL_law 716 = .ok (.iinc 10 1, 3) := by decide +kernel
theorem dL_law_719 : decode cL_law 719 = .ok (.goto (-48), 3) := by decide +kernel
theorem dL_law_722 : decode cL_law 722 = .ok (.aload_n 1, 1) := by decide +kernel
theorem dL_law_723 : decode cL_law 723 = .ok (.iload_n 2, 1) := by decide +kernel
theorem dL_law_724 : decode cL_law 724 = .ok (.iload_n 3, 1) := by decide +kernel
theorem dL_law_725 : decode cL_law 725 = .ok (.iconst 0, 1) := by decide +kernel
theorem dL_law_726 : decode cL_law 726 = .ok (.invokevirtual 35, 3) := by decide +kernel
theorem dL_law_729 : decode cL_law 729 = .ok (.iload 7, 2) := by decide +kernel
theorem dL_law_731 : decode cL_law 731 = .ok (.if_icmp .eq 5, 3) := by decide +kernel
theorem dL_law_734 : decode cL_law 734 = .ok (.iconst 0, 1) := by decide +kernel
theorem dL_law_735 : decode cL_law 735 = .ok (.ireturn, 1) := by decide +kernel
theorem dL_law_736 : decode cL_law 736 = .ok (.aload_n 1, 1) := by decide +kernel
theorem dL_law_737 : decode cL_law 737 = .ok (.invokevirtual 52, 3) := by decide +kernel
theorem dL_law_740 : decode cL_law 740 = .ok (.pop, 1) := by decide +kernel
theorem dL_law_741 : decode cL_law 741 = .ok (.iinc 4 1, 3) := by decide +kernel
theorem dL_law_744 : decode cL_law 744 = .ok (.goto (-614), 3) := by decide +kernel
theorem dL_law_747 : decode cL_law 747 = .ok (.iconst 1, 1) := by decide +kernel
theorem dL_law_748 : decode cL_law 748 = .ok (.ireturn, 1) := by decide +kernel
end
section
/-! the world: ints and references of all cells by their place; what kind each place has, and how long it is, is fixed -/
abbrev Wd : Type := (Nat → Nat → Int32) × (Nat → Nat → Option Nat)
def upI (w : Wd) (k j : Nat) (v : Int32) : Wd := (fun a b => if a = k ∧ b = j then v else w.1 a b, w.2)
def upR (w : Wd) (k j : Nat) (v : Nat) : Wd := (w.1, fun a b => if a = k ∧ b = j then some v else w.2 a b)
def clr (w : Wd) (k : Nat) : Wd := (fun a b => if a = k then 0 else w.1 a b, fun a b => if a = k then none else w.2 a b)
def kdL : List Nat := [7, 0, 9, 0, 9, 0, 9, 1, 12, 5, 9, 5, 9, 5, 9, 5, 9, 5, 9, 5, 9, 5, 9, 5, 9, 5, 9, 5, 9, 5, 9, 5, 9, 5, 9, 5, 9, 5, 9, 5, 9, 5, 9, 5, 9, 5, 9, 5, 9, 5, 9, 5, 9, 5, 9, 5, 9, 5, 9, 5, 9, 5, 9, 5, 9, 5, 9, 5, 9, 5, 9, 5, 9, 5, 9, 5, 9, 5, 9, 5, 9, 5, 9, 9, 4, 13, 9, 9, 9, 9, 9, 9, 2, 10, 0, 9, 0, 9, 0, 9, 0, 9, 0, 9, 0, 9, 0, 9, 0, 9, 0, 9, 6, 9, 11, 3, 5, 9, 9, 3, 5, 9, 9, 3, 5, 9, 9, 3, 5, 9, 9, 3, 5, 9, 9, 3, 5, 9, 9, 9, 9, 9, 9]
def lnL : List Nat := [0, 0, 25, 0, 25, 0, 25, 0, 36, 0, 75, 0, 75, 0, 75, 0, 75, 0, 75, 0, 75, 0, 75, 0, 75, 0, 75, 0, 75, 0, 75, 0, 75, 0, 75, 0, 75, 0, 75, 0, 75, 0, 75, 0, 75, 0, 75, 0, 75, 0, 75, 0, 75, 0, 75, 0, 75, 0, 75, 0, 75, 0, 75, 0, 75, 0, 75, 0, 75, 0, 75, 0, 75, 0, 75, 0, 75, 0, 75, 0, 75, 0, 75, 36, 0, 6, 6, 6, 6, 6, 6, 6, 0, 9, 0, 25, 0, 25, 0, 25, 0, 25, 0, 25, 0, 25, 0, 25, 0, 25, 0, 25, 0, 60, 6, 0, 0, 75, 30, 0, 0, 75, 30, 0, 0, 75, 30, 0, 0, 75, 30, 0, 0, 75, 30, 0, 0, 75, 30, 36, 36, 36, 36]
def kd (k : Nat) : Nat := kdL.getD k 99
def ln (k : Nat) : Nat := lnL.getD k 0
def nfL : List Nat := [4, 6, 3, 4, 1, 3, 2, 10]
def nf (c : Nat) : Nat := nfL.getD c 0
def rfL : List (List Bool) := [[false, false, false, true], [true, true, false, false, true, false], [true, false, false], [false, true, true, false], [true], [true, false, false], [true, false], [true, true, true, false, true, false, true, true, true, true]]
def isRf (c j : Nat) : Bool := if c < 9 then (rfL.getD c []).getD j false else decide (10 ≤ c)
def vl (B : Nat) (w : Wd) (k j : Nat) : Value := if isRf (kd k) j = true then va_rf ((w.2 k j).map (fun r => B + r)) else .int (w.1 k j)
abbrev DD : Type := va_G × (Nat → ClassId)
def aty : Nat → FieldType := fun a => match a with
  | 9 => .int
  | 10 => .object "GrowthGrid$Cells"
  | 11 => .object "GrowthGrid$Holder"
  | 12 => .object "GrowthGrid$Shape"
  | _ => .array .int
theorem vl_I {B : Nat} {w : Wd} {t j : Nat} (h : isRf (kd t) j = false) : vl B w t j = .int (w.1 t j) := by
  unfold vl
  rw [if_neg (by rw [h]; decide)]
theorem vl_R {B : Nat} {w : Wd} {t j r : Nat} (h : isRf (kd t) j = true) (hr : w.2 t j = some r) : vl B w t j = .ref (B + r) := by
  unfold vl
  rw [if_pos h, hr]
  rfl
theorem vl_upI {B : Nat} {w : Wd} {t j : Nat} {x : Int32} (h : isRf (kd t) j = false) (k i : Nat) : vl B (upI w t j x) k i = if k = t ∧ i = j then .int x else vl B w k i := by
  by_cases e : k = t ∧ i = j
  · obtain ⟨rfl, rfl⟩ := e
    rw [if_pos ⟨rfl, rfl⟩, vl_I h]
    simp [upI]
  · rw [if_neg e]
    unfold vl
    by_cases h2 : isRf (kd k) i = true
    · rw [if_pos h2, if_pos h2]; rfl
    · rw [if_neg h2, if_neg h2]
      simp [upI, e]
theorem vl_upR {B : Nat} {w : Wd} {t j x : Nat} (h : isRf (kd t) j = true) (k i : Nat) : vl B (upR w t j x) k i = if k = t ∧ i = j then .ref (B + x) else vl B w k i := by
  by_cases e : k = t ∧ i = j
  · obtain ⟨rfl, rfl⟩ := e
    rw [if_pos ⟨rfl, rfl⟩]
    exact vl_R h (by simp [upR])
  · rw [if_neg e]
    unfold vl
    by_cases h2 : isRf (kd k) i = true
    · rw [if_pos h2, if_pos h2]
      simp [upR, e]
    · rw [if_neg h2, if_neg h2]; rfl
def ao_A (U : State) : Prop := (Cond.arrayOver (.array .int)).before #[] U = true
theorem ao_A.moved {u U : State} (hvm : u.vm.Alike U.vm) (h : ao_A u) : ao_A U := by
  obtain ⟨comp, c, k, h1, h2, h3, h4, h5⟩ := arrayOverA_spec h
  obtain ⟨k', hk', he⟩ := hvm.2.2 _ _ h3
  have hi : (U.vm.classes.findIdx? fun (x : Class) => match x.kind with | .array component _ => component == comp | _ => false) = some c := by
    refine (va_idx_bare U.vm comp).symm.trans ?_
    first | rw [hvm.bare_eq] | rw [← hvm.bare_eq]
    exact (va_idx_bare u.vm comp).trans h2
  have hkind : k'.kind = .array comp (.array .int) := by rw [he]; exact h4
  have f1 : U.vm.findClass (FieldType.array .int).toString = some comp := by rw [hvm.findClass]; exact h1
  have f2 : U.vm.findClass ("[" ++ (FieldType.array .int).toString) = some c := by rw [hvm.findClass]; exact h5
  unfold ao_A Cond.before Cond.holds
  simp only [Cond.value]
  rw [f1, Option.bind_some]
  refine (congrArg (fun o : Option Nat => (o.bind (fun c => (U.vm.classes[c]?).map fun (k : Class) => match k.kind with | .array _ ty => decide (ty = FieldType.array .int) && decide (U.vm.findClass ("[" ++ (FieldType.array .int).toString) = some c) | _ => false) == some true)) hi).trans ?_
  simp [hk', hkind, f2]
def rK (D : DD) (U : State) : Prop := va_K D.1 vwCl [] U ∧ (∀ a, 9 ≤ a → a < 14 → ArrOfT U (D.2 a) (aty a) ∧ va_RA U (D.2 a) (aty a)) ∧ (va_AO "GrowthGrid$Cells" U ∧ va_AO "GrowthGrid$Holder" U ∧ va_AO "GrowthGrid$Shape" U ∧ ao_A U)
theorem rK.moved {D : DD} {u U : State} (hvm : u.vm.Alike U.vm) (h : rK D u) : rK D U :=
  ⟨h.1.moved hvm, fun a h1 h2 => ⟨arrOfT_moved hvm (h.2.1 a h1 h2).1, (h.2.1 a h1 h2).2.moved hvm⟩, h.2.2.1.moved hvm, h.2.2.2.1.moved hvm, h.2.2.2.2.1.moved hvm, h.2.2.2.2.2.moved hvm⟩
def cOK (B : Nat) (D : DD) (w : Wd) (k : Nat) (H : Heap) : Prop :=
  (kd k < 9 → t_OB (B + k) (D.1.1 (kd k)) (nf (kd k)) (D.1.2 (kd k)) H (vl B w k)) ∧ (9 ≤ kd k → kd k < 14 → H[B + k]? = some (arrV (D.2 (kd k)) (ln k) (vl B w k)))
theorem cOK.kept {B : Nat} {D : DD} {w w' : Wd} {k : Nat} {H H1 : Heap} (h : cOK B D w k H) (hq : H1[B + k]? = H[B + k]?) (hv : ∀ j, vl B w' k j = vl B w k j) : cOK B D w' k H1 := by
  have e : vl B w' k = vl B w k := funext hv
  unfold cOK
  rw [e]
  exact ⟨fun h9 => (h.1 h9).kept hq, fun h9 h14 => by rw [hq]; exact h.2 h9 h14⟩
def Rep (B : Nat) (D : DD) (n : Nat) (w : Wd) (H : Heap) : Prop := H.size = B + n ∧ ∀ k, k < n → cOK B D w k H
theorem Rep.upd {B : Nat} {D : DD} {n : Nat} {w w' : Wd} {H H1 : Heap} {t : Nat} (h : Rep B D n w H) (z : H1.size = H.size) (oq : ∀ q : Nat, q ≠ B + t → H1[q]? = H[q]?) (hv : ∀ k, k ≠ t → ∀ j, vl B w' k j = vl B w k j) (hc : cOK B D w' t H1) : Rep B D n w' H1 := by
  refine ⟨z.trans h.1, fun k hk => ?_⟩
  by_cases e : k = t
  · rw [e]; exact hc
  · exact (h.2 k hk).kept (oq (B + k) (by omega)) (hv k e)
theorem Rep.push {B : Nat} {D : DD} {n : Nat} {w : Wd} {H H1 : Heap} (h : Rep B D n w H) (z : H1.size = B + n + 1) (oq : ∀ q : Nat, q < B + n → H1[q]? = H[q]?) (hc : cOK B D (clr w n) n H1) : Rep B D (n + 1) (clr w n) H1 := by
  refine ⟨by omega, fun k hk => ?_⟩
  by_cases e : k = n
  · rw [e]; exact hc
  · refine (h.2 k (by omega)).kept (oq (B + k) (by omega)) (fun j => ?_)
    unfold vl clr
    simp [e]
def CI (ci : Nat) (q : vw_C) : Prop := vwCl[ci]? = some q ∧ nf ci = q.2.2 ∧ ci < 9 ∧ (∀ x ∈ u_ws q.1 q.2.1 q.2.2, x ∈ AL) ∧ ∃ ty0 : Nat → FieldType, (∀ j, j < q.2.2 → parseFieldDescriptor (q.2.1 j).2.2.1 = some (ty0 j)) ∧ ∀ a, a < q.2.2 → ∀ b, b < q.2.2 → a ≠ b → (q.2.1 a).2.1 ≠ (q.2.1 b).2.1
def FK (own : String) (idx ci j : Nat) (rf : Bool) : Prop := ∃ q : vw_C, CI ci q ∧ j < q.2.2 ∧ Cond.fieldLink own idx q.1 (q.2.1 j).2.1 (q.2.1 j).2.2.1 ∈ AL ∧ (q.2.1 j).1 = q.1 ∧ isRf ci j = rf
def PKf (ci j : Nat) (fin : Bool) (ty : FieldType) : Prop := ∃ q : vw_C, CI ci q ∧ j < q.2.2 ∧ (q.2.1 j).2.2.2 = fin ∧ parseFieldDescriptor (q.2.1 j).2.2.1 = some ty
def CFv (y : MethodName) (bytes : ByteArray) (maxL : Nat) (ret : Option FieldType) (np : Nat) : Prop := Cond.code y bytes maxL ret ∈ AL ∧ Cond.initialized y.cls ∈ AL ∧ Cond.instanceMethod y ∈ AL ∧ Cond.selects y.cls y y ∈ AL ∧ y.cls ≠ "java/lang/invoke/MethodHandle" ∧ y.cls ≠ "java/lang/invoke/VarHandle" ∧ (parseMethodDescriptor y.desc).map (fun d => d.parameters.length) = some np
def CFs (y : MethodName) (bytes : ByteArray) (maxL : Nat) (ret : Option FieldType) (np : Nat) : Prop := Cond.code y bytes maxL ret ∈ AL ∧ Cond.initialized y.cls ∈ AL ∧ Cond.static y ∈ AL ∧ y.cls ≠ "java/lang/invoke/MethodHandle" ∧ y.cls ≠ "java/lang/invoke/VarHandle" ∧ (parseMethodDescriptor y.desc).map (fun d => d.parameters.length) = some np
def CFi (y : MethodName) (bytes : ByteArray) (maxL : Nat) (ret : Option FieldType) (np : Nat) : Prop := Cond.code y bytes maxL ret ∈ AL ∧ Cond.initialized y.cls ∈ AL ∧ Cond.instanceMethod y ∈ AL ∧ y.cls ≠ "java/lang/invoke/MethodHandle" ∧ y.cls ≠ "java/lang/invoke/VarHandle" ∧ (parseMethodDescriptor y.desc).map (fun d => d.parameters.length) = some np
def Cx (p : Program) (s : State) (m : MethodId) (args : Array Value) (c : Code) (cc : ByteArray) (own : String) (D : DD) : Prop :=
  p.tables.exec = Jvm.exec ∧ c.code = cc ∧ s.vm.findClass own = some m.cls ∧ (∀ x ∈ AL, x.before args s = true) ∧ rK D s
def Hp (B : Nat) (D : DD) (n : Nat) (w : Wd) (s : State) (H : Heap) (locs : List Loc) : Prop := Rep B D n w H ∧ va_S (fun q => B ≤ q) s.heap H locs
def PC (B : Nat) (D : DD) (n : Nat) (w : Wd) (av : List Value) : Array Value → State → Prop := fun a U => a = av.toArray ∧ Rep B D n w U.heap ∧ B ≤ U.heap.size ∧ rK D U
def QC (B : Nat) (D : DD) (n' : Nat) (w' : Wd) (o : Option Value) : Array Value → State → Outcome → State → Prop := fun _ st oc t => oc = .returned o ∧ Rep B D n' w' t.heap ∧ va_F (fun q => B ≤ q) st t
abbrev rmk (fr lo mc ms : Nat) : Room := { frames := fr, cells := mc, slots := ms, locals := lo }
abbrev MZ (below : List Frame) (B : Nat) (D : DD) (n : Nat) (w : Wd) (o : Option Value) (args : Array Value) (s : State) (mc ms : Nat) : State → Prop := MQ below (QC B D n w o) args s mc ms (fun q => B ≤ q)
def Ct (l : Launch) (y : MethodName) (bytes : ByteArray) (maxL : Nat) (ret : Option FieldType) (fr lo mc ms : Nat) (B : Nat) (D : DD) (av : List Value) (n : Nat) (w : Wd) (o : Option Value) (n' : Nat) (w' : Wd) : Prop :=
  Met l y (Cond.code y bytes maxL ret :: AL) (rmk fr lo mc ms) (PC B D n w av) (QC B D n' w' o) mc ms (fun q => B ≤ q)
def PCX (B : Nat) (D : DD) (n : Nat) (w : Wd) (b L : Nat) (xs : Nat → Int32) (av : List Value) : Array Value → State → Prop := fun a U => PC B D n w av a U ∧ b < B ∧ va_X b L xs U U.heap
def CtX (l : Launch) (y : MethodName) (bytes : ByteArray) (maxL : Nat) (ret : Option FieldType) (fr lo mc ms : Nat) (B : Nat) (D : DD) (b L : Nat) (xs : Nat → Int32) (av : List Value) (n : Nat) (w : Wd) (o : Option Value) (n' : Nat) (w' : Wd) : Prop :=
  Met l y (Cond.code y bytes maxL ret :: AL) (rmk fr lo mc ms) (PCX B D n w b L xs av) (QC B D n' w' o) mc ms (fun q => B ≤ q)
theorem al_in {y : Cond} (hy : y ∈ AL) : GoodIn AL (y :: AL) := fun x h => by
  rcases List.mem_cons.mp h with e | e
  · rw [e]; exact ⟨hy, good_of_word (al_good hy)⟩
  · exact ⟨e, good_of_word (al_good e)⟩
section RW
variable {p : Program} {l : Launch} {e : Env} {R : Room} {s : State} {m : MethodId} {args : Array Value} {below : List Frame} {meth : Method} {c : Code} {H : Heap} {locs : List Loc} {cells slots : Nat} {Q : State → Prop}
variable {cc : ByteArray} {pc : Nat} {ls : Array Slot} {rest : List Value} {D : DD} {own : String} {B n : Nat} {w : Wd}
theorem r_get (X : Cx p s m args c cc own D) (h : Hp B D n w s H locs) {t ci j idx : Nat} {rf : Bool} (ht : t < n ∧ kd t = ci) (hf : FK own idx ci j rf) {v : Value} (hv : vl B w t j = v) (hdg : decode cc pc = .ok (.getfield idx, 3))
    (kk : W p l e R s m args below meth c H locs cells slots Q (F0 m (pc + 3) ls (v :: rest))) : W p l e R s m args below meth c H locs cells slots Q (F0 m pc ls (.ref (B + t) :: rest)) := by
  obtain ⟨hx, hb, hown, hts, hK, -⟩ := X
  obtain ⟨q, ⟨hc, hn, h9, hin, -⟩, hj, hl, hsm, -⟩ := hf
  obtain ⟨⟨-, hcell⟩, -⟩ := h
  have hob := (hcell t ht.1).1 (by rw [ht.2]; exact h9)
  rw [ht.2, hn] at hob
  obtain ⟨cell, q1, q2, q3, q4⟩ := hob
  obtain ⟨hS, hfc, kC, hkC, hkind⟩ := hK.1 ci _ hc
  obtain ⟨cf, kf, fi, f, hi, hsl⟩ := hS j hj
  refine W.getf hx hb hown (hts _ hl) (v := v) (by rw [hsm] at hi; exact hi) (u_facts hfc hkC (u_lays hts hin hj) hi).1 q1 (by rw [q3]; exact fun h => by cases h) ?_ rfl rfl hdg kk
  rw [hsl, q4 j hj, hv]
theorem r_gi (X : Cx p s m args c cc own D) (h : Hp B D n w s H locs) {t ci j idx : Nat} (ht : t < n ∧ kd t = ci) (hf : FK own idx ci j false) (hdg : decode cc pc = .ok (.getfield idx, 3))
    (kk : W p l e R s m args below meth c H locs cells slots Q (F0 m (pc + 3) ls (.int (w.1 t j) :: rest))) : W p l e R s m args below meth c H locs cells slots Q (F0 m pc ls (.ref (B + t) :: rest)) :=
  r_get X h ht hf (vl_I (by rw [ht.2]; obtain ⟨q, -, -, -, -, hr⟩ := hf; exact hr)) hdg kk
theorem r_gr (X : Cx p s m args c cc own D) (h : Hp B D n w s H locs) {t ci j idx r : Nat} (ht : t < n ∧ kd t = ci) (hf : FK own idx ci j true) (hr : w.2 t j = some r) (hdg : decode cc pc = .ok (.getfield idx, 3))
    (kk : W p l e R s m args below meth c H locs cells slots Q (F0 m (pc + 3) ls (.ref (B + r) :: rest))) : W p l e R s m args below meth c H locs cells slots Q (F0 m pc ls (.ref (B + t) :: rest)) :=
  r_get X h ht hf (vl_R (by rw [ht.2]; obtain ⟨q, -, -, -, -, hr⟩ := hf; exact hr) hr) hdg kk
theorem r_put (X : Cx p s m args c cc own D) (h : Hp B D n w s H locs) {t ci j idx : Nat} {rf : Bool} {ty : FieldType} (ht : t < n ∧ kd t = ci) (hf : FK own idx ci j rf) (hp : PKf ci j false ty) {v : Value} {w' : Wd} (hnv : narrow ty v = v) (hfv : fits ty v = true) (hw : ∀ k i, vl B w' k i = if k = t ∧ i = j then v else vl B w k i) (hdg : decode cc pc = .ok (.putfield idx, 3))
    (kk : ∀ (H1 : Heap) (locs1 : List Loc), Hp B D n w' s H1 locs1 → W p l e R s m args below meth c H1 locs1 cells slots Q (F0 m (pc + 3) ls rest)) : W p l e R s m args below meth c H locs cells slots Q (F0 m pc ls (v :: .ref (B + t) :: rest)) := by
  obtain ⟨hx, hb, hown, hts, hK, -⟩ := X
  obtain ⟨q, ⟨hc, hn, h9, hin, ty0, hty, hnm⟩, hj, hl, hsm, -⟩ := hf
  obtain ⟨q', ⟨hc', -⟩, -, hfin, hd⟩ := hp
  obtain rfl : q' = q := Option.some.inj (hc'.symm.trans hc)
  have hap := va_apart (own := own) hts hin ty0 hty hnm hK hc
  have hob := (h.1.2 t ht.1).1 (by rw [ht.2]; exact h9)
  rw [ht.2, hn] at hob
  obtain ⟨cell, q1, q2, q3, q4⟩ := hob
  obtain ⟨hS, hfc, kC, hkC, hkind⟩ := hK.1 ci _ hc
  obtain ⟨cf, kf, fi, f, hi, hsl⟩ := hS j hj
  have hlay := hts _ (hin _ (u_in_lay hj))
  unfold u_lay at hlay
  rw [if_neg (by rw [hfin]; decide)] at hlay
  have hst := (u_facts hfc hkC (u_lays hts hin hj) hi).1
  have h6 := u_store hfc hkC hkind hlay hi hd hnv hfv
  refine W.putK hx hb (f := f) ⟨hown, hts _ hl, ⟨_, _, _, by rw [hsm] at hi; exact hi⟩, hst⟩ (by rw [q2]; exact h6) q1 q3 (by rw [hsl]; exact k2_hasslot (q4 j hj)) rfl rfl hdg fun H' e1 e2 e3 => ?_
  rw [hsl] at e1 ⊢
  refine kk H' _ ⟨h.1.upd e2 e3 (fun k hk i => by rw [hw, if_neg (fun z => hk z.1)]) ⟨fun _ => ?_, fun a1 a2 => by rw [ht.2] at a1; omega⟩, h.2.put e2 e3 (Nat.le_add_right _ _)⟩
  rw [ht.2, hn]
  exact t_OB.to (V := updV (vl B w t) j v) ⟨_, e1, q2, q3, t_set q4 hap hj v⟩ (fun i _ => by rw [hw]; by_cases z : i = j <;> simp [updV, z])
theorem r_putF (X : Cx p s m args c cc own D) (h : Hp B D n w s H locs) {t ci j idx : Nat} {rf : Bool} {ty : FieldType} (ht : t < n ∧ kd t = ci) (hf : FK own idx ci j rf) (hp : PKf ci j true ty) (hin2 : meth.name = "<init>") (hcl : ∀ q : vw_C, vwCl[ci]? = some q → q.1 = own) {v : Value} {w' : Wd} (hnv : narrow ty v = v) (hfv : fits ty v = true) (hw : ∀ k i, vl B w' k i = if k = t ∧ i = j then v else vl B w k i) (hdg : decode cc pc = .ok (.putfield idx, 3))
    (kk : ∀ (H1 : Heap) (locs1 : List Loc), Hp B D n w' s H1 locs1 → W p l e R s m args below meth c H1 locs1 cells slots Q (F0 m (pc + 3) ls rest)) : W p l e R s m args below meth c H locs cells slots Q (F0 m pc ls (v :: .ref (B + t) :: rest)) := by
  obtain ⟨hx, hb, hown, hts, hK, -⟩ := X
  obtain ⟨q, ⟨hc, hn, h9, hin, ty0, hty, hnm⟩, hj, hl, hsm, -⟩ := hf
  obtain ⟨q', ⟨hc', -⟩, -, hfin, hd⟩ := hp
  obtain rfl : q' = q := Option.some.inj (hc'.symm.trans hc)
  have hap := va_apart (own := own) hts hin ty0 hty hnm hK hc
  have hob := (h.1.2 t ht.1).1 (by rw [ht.2]; exact h9)
  rw [ht.2, hn] at hob
  obtain ⟨cell, q1, q2, q3, q4⟩ := hob
  obtain ⟨hS, hfc, kC, hkC, hkind⟩ := hK.1 ci _ hc
  obtain ⟨cf, kf, fi, f, hi, hsl⟩ := hS j hj
  have hlay := hts _ (hin _ (u_in_lay hj))
  unfold u_lay at hlay
  rw [if_pos hfin] at hlay
  have hst := (u_facts hfc hkC (u_lays hts hin hj) hi).1
  have hcf : m.cls = cf := by
    obtain ⟨_, _, c', _, _, _, -, -, hf', -, -, -, hown2, -⟩ := Cond.laysFinal_spec hlay
    have e1 : c' = cf := by have := hi.symm.trans hf'; simp at this; exact this.1.symm
    rw [hsm, hcl _ hc] at hown2
    rw [← e1]; exact Option.some.inj (hown.symm.trans hown2)
  have h6 := u_fits hfc hkC hkind (Or.inr hlay) hi hd hnv hfv
  refine W.putFinK hx hb hown (hts _ hl) (by rw [hsm] at hi; exact hi) hst hcf hin2 (by rw [q2]; exact h6) q1 q3 (by rw [hsl]; exact k2_hasslot (q4 j hj)) rfl rfl hdg fun H' e1 e2 e3 => ?_
  rw [hsl] at e1 ⊢
  refine kk H' _ ⟨h.1.upd e2 e3 (fun k hk i => by rw [hw, if_neg (fun z => hk z.1)]) ⟨fun _ => ?_, fun a1 a2 => by rw [ht.2] at a1; omega⟩, h.2.put e2 e3 (Nat.le_add_right _ _)⟩
  rw [ht.2, hn]
  exact t_OB.to (V := updV (vl B w t) j v) ⟨_, e1, q2, q3, t_set q4 hap hj v⟩ (fun i _ => by rw [hw]; by_cases z : i = j <;> simp [updV, z])
theorem r_pi (X : Cx p s m args c cc own D) (h : Hp B D n w s H locs) {t ci j idx : Nat} {ty : FieldType} (ht : t < n ∧ kd t = ci) (hf : FK own idx ci j false) (hp : PKf ci j false ty) {x : Int32} (hnv : narrow ty (.int x) = .int x) (hfv : fits ty (.int x) = true) (hdg : decode cc pc = .ok (.putfield idx, 3))
    (kk : ∀ (H1 : Heap) (locs1 : List Loc), Hp B D n (upI w t j x) s H1 locs1 → W p l e R s m args below meth c H1 locs1 cells slots Q (F0 m (pc + 3) ls rest)) : W p l e R s m args below meth c H locs cells slots Q (F0 m pc ls (.int x :: .ref (B + t) :: rest)) :=
  r_put X h ht hf hp hnv hfv (vl_upI (by rw [ht.2]; obtain ⟨q, -, -, -, -, hr⟩ := hf; exact hr)) hdg kk
theorem r_prF (X : Cx p s m args c cc own D) (h : Hp B D n w s H locs) {t ci j idx : Nat} {ty : FieldType} (ht : t < n ∧ kd t = ci) (hf : FK own idx ci j true) (hp : PKf ci j true ty) (hin2 : meth.name = "<init>") (hcl : ∀ q : vw_C, vwCl[ci]? = some q → q.1 = own) {x : Nat} (hnv : ∀ a : Nat, narrow ty (.ref a) = .ref a ∧ fits ty (.ref a) = true) (hdg : decode cc pc = .ok (.putfield idx, 3))
    (kk : ∀ (H1 : Heap) (locs1 : List Loc), Hp B D n (upR w t j x) s H1 locs1 → W p l e R s m args below meth c H1 locs1 cells slots Q (F0 m (pc + 3) ls rest)) : W p l e R s m args below meth c H locs cells slots Q (F0 m pc ls (.ref (B + x) :: .ref (B + t) :: rest)) :=
  r_putF X h ht hf hp hin2 hcl (hnv _).1 (hnv _).2 (vl_upR (by rw [ht.2]; obtain ⟨q, -, -, -, -, hr⟩ := hf; exact hr)) hdg kk
theorem r_ald (X : Cx p s m args c cc own D) (h : Hp B D n w s H locs) {a : Nat} (ha : a < n ∧ kd a = 9) {i : Int32} (hin : vp_in i (ln a)) (hdg : decode cc pc = .ok (.iaload, 1))
    (kk : W p l e R s m args below meth c H locs cells slots Q (F0 m (pc + 1) ls (.int (w.1 a i.toNatClampNeg) :: rest))) : W p l e R s m args below meth c H locs cells slots Q (F0 m pc ls (.int i :: .ref (B + a) :: rest)) := by
  obtain ⟨hx, hb, hown, hts, hK, hA, -⟩ := X
  have hc := (h.1.2 a ha.1).2 (by rw [ha.2]; decide) (by rw [ha.2]; decide)
  rw [ha.2] at hc
  have hlt : i.toNatClampNeg < ln a := Nat.not_le.mp fun q => hin (Or.inr q)
  exact W.iald (v := .int (w.1 a i.toNatClampNeg)) hx hb hc ((hA 9 (by decide) (by decide)).1 (ln a) (vl B w a)) (fun q => by cases q) (by show ¬ (i < 0 ∨ (arrV _ _ _).slots.size ≤ _); rw [arrV_size]; exact hin) (by show (arrV _ _ _).slots[_]? = _; rw [arrV_read _ _ hlt, vl_I (by rw [ha.2]; rfl)]) rfl rfl hdg kk
theorem r_ast (X : Cx p s m args c cc own D) (h : Hp B D n w s H locs) {a : Nat} (ha : a < n ∧ kd a = 9) {i x : Int32} (hin : vp_in i (ln a)) (hdg : decode cc pc = .ok (.iastore, 1))
    (kk : ∀ (H1 : Heap) (locs1 : List Loc), Hp B D n (upI w a i.toNatClampNeg x) s H1 locs1 → W p l e R s m args below meth c H1 locs1 cells slots Q (F0 m (pc + 1) ls rest)) : W p l e R s m args below meth c H locs cells slots Q (F0 m pc ls (.int x :: .int i :: .ref (B + a) :: rest)) := by
  obtain ⟨hx, hb, hown, hts, hK, hA, -⟩ := X
  have hc := (h.1.2 a ha.1).2 (by rw [ha.2]; decide) (by rw [ha.2]; decide)
  rw [ha.2] at hc
  have hv := vl_upI (B := B) (w := w) (x := x) (t := a) (j := i.toNatClampNeg) (by rw [ha.2]; rfl)
  refine W.iast hx hb hc ((hA 9 (by decide) (by decide)).1 (ln a) (vl B w a)) (fun q => by cases q) (by show ¬ (i < 0 ∨ (arrV _ _ _).slots.size ≤ _); rw [arrV_size]; exact hin) rfl rfl hdg fun H1 e1 e2 e3 => ?_
  refine kk H1 _ ⟨h.1.upd e2 e3 (fun k hk j => by rw [hv, if_neg (fun z => hk z.1)]) ⟨fun h9 => by rw [ha.2] at h9; omega, fun _ _ => ?_⟩, h.2.put e2 e3 (Nat.le_add_right _ _)⟩
  rw [e1, ha.2, arrV_store]
  refine congrArg (fun f => some (arrV (D.2 9) (ln a) f)) (funext fun j => ?_)
  rw [hv]
  by_cases z : j = i.toNatClampNeg <;> simp [updV, z]
theorem r_aald (X : Cx p s m args c cc own D) (h : Hp B D n w s H locs) {a ka r : Nat} (ha : a < n ∧ kd a = ka) (hka : 10 ≤ ka ∧ ka < 14) {i : Int32} (hin : vp_in i (ln a)) (hr : w.2 a i.toNatClampNeg = some r) (hdg : decode cc pc = .ok (.aaload, 1))
    (kk : W p l e R s m args below meth c H locs cells slots Q (F0 m (pc + 1) ls (.ref (B + r) :: rest))) : W p l e R s m args below meth c H locs cells slots Q (F0 m pc ls (.int i :: .ref (B + a) :: rest)) := by
  obtain ⟨hx, hb, hown, hts, hK, hA, -⟩ := X
  have hc := (h.1.2 a ha.1).2 (by rw [ha.2]; omega) (by rw [ha.2]; omega)
  rw [ha.2] at hc
  have hlt : i.toNatClampNeg < ln a := Nat.not_le.mp fun q => hin (Or.inr q)
  have hrf : isRf (kd a) i.toNatClampNeg = true := by rw [ha.2]; unfold isRf; rw [if_neg (by omega)]; exact decide_eq_true hka.1
  have hty : (aty ka).isReference = true := by
    obtain ⟨h1, h2⟩ := hka
    rcases (show ka = 10 ∨ ka = 11 ∨ ka = 12 ∨ ka = 13 by omega) with e | e | e | e <;> rw [e] <;> rfl
  exact W.aald (v := .ref (B + r)) (ty := aty ka) hx hb hc ((hA ka (by omega) (by omega)).1 (ln a) (vl B w a)) hty (fun q => by cases q) (by show ¬ (i < 0 ∨ (arrV _ _ _).slots.size ≤ _); rw [arrV_size]; exact hin) (by show (arrV _ _ _).slots[_]? = _; rw [arrV_read _ _ hlt, vl_R hrf hr]) rfl rfl hdg kk
theorem r_aast (X : Cx p s m args c cc own D) (h : Hp B D n w s H locs) {a ka t ci : Nat} (ha : a < n ∧ kd a = ka) (hka : 10 ≤ ka ∧ ka < 13) (ht : t < n ∧ kd t = ci) {q : vw_C} (hq : CI ci q) (hel : aty ka = .object q.1) {i : Int32} (hin : vp_in i (ln a)) (hdg : decode cc pc = .ok (.aastore, 1))
    (kk : ∀ (H1 : Heap) (locs1 : List Loc), Hp B D n (upR w a i.toNatClampNeg t) s H1 locs1 → W p l e R s m args below meth c H1 locs1 cells slots Q (F0 m (pc + 1) ls rest)) : W p l e R s m args below meth c H locs cells slots Q (F0 m pc ls (.ref (B + t) :: .int i :: .ref (B + a) :: rest)) := by
  obtain ⟨hx, hb, hown, hts, hK, hA, -⟩ := X
  have hc := (h.1.2 a ha.1).2 (by rw [ha.2]; omega) (by rw [ha.2]; omega)
  rw [ha.2] at hc
  have hlt : i.toNatClampNeg < ln a := Nat.not_le.mp fun q => hin (Or.inr q)
  have h0 : ¬ i < 0 := fun q => hin (Or.inl q)
  have hrf : isRf (kd a) i.toNatClampNeg = true := by rw [ha.2]; unfold isRf; rw [if_neg (by omega)]; exact decide_eq_true hka.1
  obtain ⟨hc2, hn2, h92, -⟩ := hq
  have hob := (h.1.2 t ht.1).1 (by rw [ht.2]; exact h92)
  rw [ht.2] at hob
  obtain ⟨cellV, g1, g2, g3, -⟩ := hob
  have hcls := (hK.1 ci q hc2).2
  have hRA := (hA ka (by omega) (by omega)).2
  rw [hel] at hRA
  obtain ⟨kA, comp, k1, k2, k3, -⟩ := hRA
  have hcomp : comp = D.1.1 ci := Option.some.inj (k3.symm.trans hcls.1)
  subst hcomp
  obtain ⟨kC, hkC, -⟩ := hcls.2
  have hv := vl_upR (B := B) (w := w) (x := t) (t := a) (j := i.toNatClampNeg) hrf
  refine W.aast hx hb hc (fun q h => by cases h) (fun h => by cases h) k1 k2 rfl hkC ⟨h0, by show _ < (arrV _ _ _).slots.size; rw [arrV_size]; exact hlt⟩ g1 (fun q h => by rw [g3] at h; cases h) (by rw [g2]; exact hkC) (by rw [g2]; exact va_assign hcls) rfl rfl hdg fun H1 e1 e2 e3 => ?_
  refine kk H1 _ ⟨h.1.upd e2 e3 (fun k hk j => by rw [hv, if_neg (fun z => hk z.1)]) ⟨fun h9 => by rw [ha.2] at h9; omega, fun _ _ => ?_⟩, h.2.put e2 e3 (Nat.le_add_right _ _)⟩
  rw [e1, ha.2, arrV_store]
  refine congrArg (fun f => some (arrV (D.2 ka) (ln a) f)) (funext fun j => ?_)
  rw [hv]
  by_cases z : j = i.toNatClampNeg <;> simp [updV, z]
theorem r_alen (X : Cx p s m args c cc own D) (h : Hp B D n w s H locs) {a ka : Nat} (ha : a < n ∧ kd a = ka) (hka : 9 ≤ ka ∧ ka < 14) (hdg : decode cc pc = .ok (.arraylength, 1))
    (kk : W p l e R s m args below meth c H locs cells slots Q (F0 m (pc + 1) ls (.int (Int32.ofNat (ln a)) :: rest))) : W p l e R s m args below meth c H locs cells slots Q (F0 m pc ls (.ref (B + a) :: rest)) := by
  obtain ⟨hx, hb, hown, hts, hK, hA, -⟩ := X
  have hc := (h.1.2 a ha.1).2 (by rw [ha.2]; omega) (by rw [ha.2]; omega)
  rw [ha.2] at hc
  exact W.alen (n := Int32.ofNat (ln a)) hx hb hc ((hA ka (by omega) (by omega)).1 (ln a) (vl B w a)) (by rw [arrV_size] <;> rfl) rfl rfl hdg kk
theorem kc {st0 : List Value} {a : Array Value} {mc ms n' : Nat} {w' : Wd} {o : Option Value} (hr : va_Run p l e R s m args below meth c H locs cells slots mc ms (F0 m pc ls st0) rest (QC B D n' w' o a) (fun q => B ≤ q)) (h : Hp B D n w s H locs)
    (kk : ∀ (H1 : Heap) (locs1 : List Loc), Hp B D n' w' s H1 locs1 → W p l e R s m args below meth c H1 locs1 (cells + mc) (slots + ms) Q (F0 m (pc + 3) ls (o.toList ++ rest))) : W p l e R s m args below meth c H locs cells slots Q (F0 m pc ls st0) := by
  intro T hT X
  obtain ⟨v, st₀, t, T', L, h0, X', hL, e1, e2, ⟨hv, hRp, hz, hk⟩, st⟩ := hr T hT X
  cases hv
  rw [h0] at hz hk
  obtain ⟨t2, a1, b1⟩ := kk T'.heap (locs ++ L) ⟨by rw [e1]; exact hRp, Nat.le_trans h.2.1 (by rw [e1]; exact hz), fun q h1 h2 => by rw [e1, hk q (Nat.lt_of_lt_of_le h1 h.2.1) h2]; exact h.2.2.1 q h1 h2, fun q hq => by
      rcases List.mem_append.mp hq with h1 | h1
      · exact h.2.2.2 q h1
      · exact hL q h1⟩ T' rfl X'
  exact ⟨t2, st t2 a1, b1⟩
theorem pc_ok (X : Cx p s m args c cc own D) (h : Hp B D n w s H locs) (av : List Value) : ∀ U : State, U.heap = H → s.WarmedH U.vm → PC B D n w av av.toArray U := fun U hU hW => ⟨rfl, by rw [hU]; exact h.1, by rw [hU, h.1.1]; omega, X.2.2.2.2.moved hW.alike⟩
theorem pc_blind {av : List Value} : FrameBlind (PC B D n w av) := fun a U g mk q => ⟨q.1, q.2.1, q.2.2.1, q.2.2.2.moved (u := U) (U := U.calling g mk a) (Vm.Alike.refl U.vm)⟩
theorem kV (X : Cx p s m args c cc own D) {nL : Nat} (hml : c.maxLocals = nL) (h : Hp B D n w s H locs) {y : MethodName} {bytes : ByteArray} {maxL fr lo mc ms np t ci idx n' : Nat} {ret : Option FieldType} {As : List Value} {w' : Wd} {o : Option Value} {st0 : List Value}
    (hM : Ct l y bytes maxL ret fr lo mc ms B D (.ref (B + t) :: As) n w o n' w') (hF : CFv y bytes maxL ret np) (hl : Cond.methodLink own idx y ∈ AL) (ht : t < n ∧ kd t = ci) {q : vw_C} (hq : CI ci q) (hcl : q.1 = y.cls) (hn : As.length = np) (hls : ls.size = nL) (hst : st0 = As.reverse ++ .ref (B + t) :: rest) (hW : (rest.map fun v => v.category).sum ≤ 8) (hR : fr + 1 ≤ R.frames ∧ 8 + (maxL + 11) + lo ≤ R.locals) (hf : cells + mc ≤ R.cells ∧ slots + ms ≤ R.slots) (hdg : decode cc pc = .ok (.invokevirtual idx, 3))
    (kk : ∀ (H1 : Heap) (locs1 : List Loc), Hp B D n' w' s H1 locs1 → W p l e R s m args below meth c H1 locs1 (cells + mc) (slots + ms) Q (F0 m (pc + 3) ls (o.toList ++ rest))) : W p l e R s m args below meth c H locs cells slots Q (F0 m pc ls st0) := by
  have X0 := X
  obtain ⟨hx, hb, hown, hts, hK, -⟩ := X
  obtain ⟨f1, f2, f3, f4, f5, f6, f7⟩ := hF
  obtain ⟨hc2, hn2, h92, -⟩ := hq
  have hob := (h.1.2 t ht.1).1 (by rw [ht.2]; exact h92)
  rw [ht.2] at hob
  obtain ⟨cell, g1, g2, g3, -⟩ := hob
  have hcls := (hK.1 ci q hc2).2
  refine kc (va_runV (Ts := AL) (As := As) (rest := rest) (C := y.cls) (b := B + t) ⟨hx, hb, hml, hown, hts⟩ hM ⟨callB_of np hts (al_in f1) rfl rfl rfl (hts _ f2) (hts _ hl) ⟨f5, f6, f7⟩ hR, hts _ f3, hts _ f4⟩ ⟨pc_blind, ⟨cell, g1, by rw [g3]; rfl, by rw [g2, ← hcl]; exact hcls.1⟩, pc_ok X0 h _⟩ rfl hn hls hst (lv_room hW) hdg hf) h kk
theorem kS (X : Cx p s m args c cc own D) {nL : Nat} (hml : c.maxLocals = nL) (h : Hp B D n w s H locs) {y : MethodName} {bytes : ByteArray} {maxL fr lo mc ms np idx n' : Nat} {ret : Option FieldType} {As : List Value} {w' : Wd} {o : Option Value} {st0 : List Value}
    (hM : Ct l y bytes maxL ret fr lo mc ms B D As n w o n' w') (hF : CFs y bytes maxL ret np) (hl : Cond.methodLink own idx y ∈ AL) (hn : As.length = np) (hls : ls.size = nL) (hst : st0 = As.reverse ++ rest) (hW : (rest.map fun v => v.category).sum ≤ 8) (hR : fr + 1 ≤ R.frames ∧ 8 + (maxL + 11) + lo ≤ R.locals) (hf : cells + mc ≤ R.cells ∧ slots + ms ≤ R.slots) (hdg : decode cc pc = .ok (.invokestatic idx, 3))
    (kk : ∀ (H1 : Heap) (locs1 : List Loc), Hp B D n' w' s H1 locs1 → W p l e R s m args below meth c H1 locs1 (cells + mc) (slots + ms) Q (F0 m (pc + 3) ls (o.toList ++ rest))) : W p l e R s m args below meth c H locs cells slots Q (F0 m pc ls st0) := by
  have X0 := X
  obtain ⟨hx, hb, hown, hts, hK, -⟩ := X
  obtain ⟨f1, f2, f3, f5, f6, f7⟩ := hF
  refine kc (va_runS (Ts := AL) (As := As) (rest := rest) ⟨hx, hb, hml, hown, hts⟩ hM ⟨callB_of np hts (al_in f1) rfl rfl rfl (hts _ f2) (hts _ hl) ⟨f5, f6, f7⟩ hR, hts _ f3⟩ ⟨pc_blind, pc_ok X0 h _⟩ rfl hn hls hst (lv_room hW) hdg hf) h kk
theorem kI (X : Cx p s m args c cc own D) {nL : Nat} (hml : c.maxLocals = nL) (h : Hp B D n w s H locs) {y : MethodName} {bytes : ByteArray} {maxL fr lo mc ms np t idx n' : Nat} {As : List Value} {w' : Wd} {st0 : List Value} (hy1 : y.name = "<init>")
    (hM : Ct l y bytes maxL none fr lo mc ms B D (.ref (B + t) :: As) n w none n' w') (hF : CFi y bytes maxL none np) (hl : Cond.methodLink own idx y ∈ AL) (hn : As.length = np) (hls : ls.size = nL) (hst : st0 = As.reverse ++ .ref (B + t) :: rest) (hW : (rest.map fun v => v.category).sum ≤ 8) (hR : fr + 1 ≤ R.frames ∧ 8 + (maxL + 11) + lo ≤ R.locals) (hf : cells + mc ≤ R.cells ∧ slots + ms ≤ R.slots) (hdg : decode cc pc = .ok (.invokespecial idx, 3))
    (kk : ∀ (H1 : Heap) (locs1 : List Loc), Hp B D n' w' s H1 locs1 → W p l e R s m args below meth c H1 locs1 (cells + mc) (slots + ms) Q (F0 m (pc + 3) ls rest)) : W p l e R s m args below meth c H locs cells slots Q (F0 m pc ls st0) := by
  have X0 := X
  obtain ⟨hx, hb, hown, hts, hK, -⟩ := X
  obtain ⟨f1, f2, f3, f5, f6, f7⟩ := hF
  refine kc (o := none) (va_runI (Ts := AL) (As := As) (rest := rest) (b := B + t) ⟨hx, hb, hml, hown, hts⟩ hM ⟨callB_of np hts (al_in f1) rfl rfl rfl (hts _ f2) (hts _ hl) ⟨f5, f6, f7⟩ hR, hy1, hts _ f3⟩ ⟨pc_blind, pc_ok X0 h _⟩ rfl hn hls hst (lv_room hW) hdg hf) h kk
theorem m_of {y : MethodName} {bytes : ByteArray} {maxL fr lo mc ms n' : Nat} {ret : Option FieldType} {av : List Value} {w' : Wd} {o : Option Value} (hy : plainName y.cls = true) (hlen : (lg_sl av).length ≤ maxL)
    (body : ∀ (p : Program) (e : Env) (s : State) (m : MethodId) (args : Array Value) (below : List Frame) (meth : Method) (c : Code), Cx p s m args c bytes y.cls D → c.maxLocals = maxL → meth.sig.returnType = ret → meth.locks = false → meth.name = y.name → ∀ (H : Heap) (locs : List Loc), Hp B D n w s H locs → ∀ ls, lv_has ls maxL (lv_args 0 av) →
      W p l e (rmk fr lo mc ms) s m args below meth c H locs 0 0 (MZ below B D n' w' o args s mc ms) (F0 m 0 ls [])) : Ct l y bytes maxL ret fr lo mc ms B D av n w o n' w' := by
  refine Met.ofW (cc := bytes) (maxL := maxL) (ret := ret) hy rfl ?_
  intro p e s m args below meth c s₁ Bd hml hv
  obtain ⟨rfl, hRp, hBs, hK⟩ := hv
  have hts := atoms_spec (ws := Cond.code y bytes maxL ret :: AL) Bd.pre
  rw [lg_entry_eq]
  exact body p e s m _ below meth c ⟨Bd.exec, Bd.bytes, findClass_of_methodNamed Bd.named, fun x hx => hts x (List.mem_cons_of_mem _ hx), hK⟩ hml Bd.returns Bd.notSynchronized (name_of_methodNamed Bd.named Bd.method).1 _ _ ⟨hRp, va_S.rf⟩ _ (lv_entry av hlen)
theorem pcx_ok (X : Cx p s m args c cc own D) (h : Hp B D n w s H locs) {b L : Nat} {xs : Nat → Int32} (hX : va_X b L xs s s.heap) (hbl : b < s.heap.size) (hbA : ¬ (fun q : Nat => B ≤ q) b) (av : List Value) : ∀ U : State, U.heap = H → s.WarmedH U.vm → PCX B D n w b L xs av av.toArray U := fun U hU hW => ⟨pc_ok X h av U hU hW, Nat.lt_of_not_le hbA, by rw [hU]; exact (hX.kept (h.2.2.1 b hbl hbA)).moved hW.alike⟩
theorem pcx_blind {b L : Nat} {xs : Nat → Int32} {av : List Value} : FrameBlind (PCX B D n w b L xs av) := fun a U g mk q => ⟨pc_blind a U g mk q.1, q.2.1, q.2.2.moved (u := U) (U := U.calling g mk a) (Vm.Alike.refl U.vm)⟩
theorem kSX (X : Cx p s m args c cc own D) {nL : Nat} (hml : c.maxLocals = nL) (h : Hp B D n w s H locs) {b L : Nat} {xs : Nat → Int32} (hX : va_X b L xs s s.heap) (hbl : b < s.heap.size) (hbA : ¬ (fun q : Nat => B ≤ q) b) {y : MethodName} {bytes : ByteArray} {maxL fr lo mc ms np idx n' : Nat} {ret : Option FieldType} {As : List Value} {w' : Wd} {o : Option Value} {st0 : List Value}
    (hM : CtX l y bytes maxL ret fr lo mc ms B D b L xs As n w o n' w') (hF : CFs y bytes maxL ret np) (hl : Cond.methodLink own idx y ∈ AL) (hn : As.length = np) (hls : ls.size = nL) (hst : st0 = As.reverse ++ rest) (hW : (rest.map fun v => v.category).sum ≤ 8) (hR : fr + 1 ≤ R.frames ∧ 8 + (maxL + 11) + lo ≤ R.locals) (hf : cells + mc ≤ R.cells ∧ slots + ms ≤ R.slots) (hdg : decode cc pc = .ok (.invokestatic idx, 3))
    (kk : ∀ (H1 : Heap) (locs1 : List Loc), Hp B D n' w' s H1 locs1 → W p l e R s m args below meth c H1 locs1 (cells + mc) (slots + ms) Q (F0 m (pc + 3) ls (o.toList ++ rest))) : W p l e R s m args below meth c H locs cells slots Q (F0 m pc ls st0) := by
  have X0 := X
  obtain ⟨hx, hb, hown, hts, hK, -⟩ := X
  obtain ⟨f1, f2, f3, f5, f6, f7⟩ := hF
  refine kc (va_runS (Ts := AL) (As := As) (rest := rest) ⟨hx, hb, hml, hown, hts⟩ hM ⟨callB_of np hts (al_in f1) rfl rfl rfl (hts _ f2) (hts _ hl) ⟨f5, f6, f7⟩ hR, hts _ f3⟩ ⟨pcx_blind, pcx_ok X0 h hX hbl hbA _⟩ rfl hn hls hst (lv_room hW) hdg hf) h kk
theorem mX_of {b L : Nat} {xs : Nat → Int32} {y : MethodName} {bytes : ByteArray} {maxL fr lo mc ms n' : Nat} {ret : Option FieldType} {av : List Value} {w' : Wd} {o : Option Value} (hy : plainName y.cls = true) (hlen : (lg_sl av).length ≤ maxL)
    (body : ∀ (p : Program) (e : Env) (s : State) (m : MethodId) (args : Array Value) (below : List Frame) (meth : Method) (c : Code), Cx p s m args c bytes y.cls D → c.maxLocals = maxL → meth.sig.returnType = ret → meth.locks = false → va_X b L xs s s.heap → b < s.heap.size → ¬ (fun q : Nat => B ≤ q) b → ∀ (H : Heap) (locs : List Loc), Hp B D n w s H locs → ∀ ls, lv_has ls maxL (lv_args 0 av) →
      W p l e (rmk fr lo mc ms) s m args below meth c H locs 0 0 (MZ below B D n' w' o args s mc ms) (F0 m 0 ls [])) : CtX l y bytes maxL ret fr lo mc ms B D b L xs av n w o n' w' := by
  refine Met.ofW (cc := bytes) (maxL := maxL) (ret := ret) hy rfl ?_
  intro p e s m args below meth c s₁ Bd hml hv
  obtain ⟨⟨rfl, hRp, hBs, hK⟩, hbB, hX⟩ := hv
  have hts := atoms_spec (ws := Cond.code y bytes maxL ret :: AL) Bd.pre
  rw [lg_entry_eq]
  exact body p e s m _ below meth c ⟨Bd.exec, Bd.bytes, findClass_of_methodNamed Bd.named, fun x hx => hts x (List.mem_cons_of_mem _ hx), hK⟩ hml Bd.returns Bd.notSynchronized hX (Nat.lt_of_lt_of_le hbB hBs) (Nat.not_le.mpr hbB) _ _ ⟨hRp, va_S.rf⟩ _ (lv_entry av hlen)
theorem e_i (X : Cx p s m args c cc own D) (hr : meth.sig.returnType = some .int) (hlk : meth.locks = false) (h : Hp B D n w s H locs) {x x' : Int32} {w' : Wd} (he : x = x' ∧ w = w') (hdg : decode cc pc = .ok (.ireturn, 1)) : W p l e R s m args below meth c H locs cells slots (MQ below (QC B D n w' (some (.int x'))) args s cells slots (fun q => B ≤ q)) (F0 m pc ls [.int x]) := by
  obtain ⟨rfl, rfl⟩ := he
  exact W.iret X.1 X.2.1 hr (fun t ht hW => ⟨rfl, by rw [ht]; exact h.1, h.2.F ht⟩) h.2.2.2 hdg hlk
theorem e_z (X : Cx p s m args c cc own D) (hr : meth.sig.returnType = some .boolean) (hlk : meth.locks = false) (h : Hp B D n w s H locs) {x x' : Int32} {w' : Wd} (hx : x = 0 ∨ x = 1) (he : x = x' ∧ w = w') (hdg : decode cc pc = .ok (.ireturn, 1)) : W p l e R s m args below meth c H locs cells slots (MQ below (QC B D n w' (some (.int x'))) args s cells slots (fun q => B ≤ q)) (F0 m pc ls [.int x]) := by
  obtain ⟨rfl, rfl⟩ := he
  exact W.zret X.1 X.2.1 hr (by rcases hx with e | e <;> rw [e] <;> rfl) (fun t ht hW => ⟨rfl, by rw [ht]; exact h.1, h.2.F ht⟩) h.2.2.2 hdg hlk
theorem e_l (X : Cx p s m args c cc own D) (hr : meth.sig.returnType = some .long) (hlk : meth.locks = false) (h : Hp B D n w s H locs) {x x' : Int64} {w' : Wd} (he : x = x' ∧ w = w') (hdg : decode cc pc = .ok (.lreturn, 1)) : W p l e R s m args below meth c H locs cells slots (MQ below (QC B D n w' (some (.long x'))) args s cells slots (fun q => B ≤ q)) (F0 m pc ls [.long x]) := by
  obtain ⟨rfl, rfl⟩ := he
  exact W.lret X.1 X.2.1 hr (fun t ht hW => ⟨rfl, by rw [ht]; exact h.1, h.2.F ht⟩) h.2.2.2 hdg hlk
theorem e_a (X : Cx p s m args c cc own D) {C : String} (hr : meth.sig.returnType = some (.object C)) (hlk : meth.locks = false) (h : Hp B D n w s H locs) {x x' : Nat} {w' : Wd} (he : x = x' ∧ w = w') (hdg : decode cc pc = .ok (.areturn, 1)) : W p l e R s m args below meth c H locs cells slots (MQ below (QC B D n w' (some (.ref (B + x')))) args s cells slots (fun q => B ≤ q)) (F0 m pc ls [.ref (B + x)]) := by
  obtain ⟨rfl, rfl⟩ := he
  exact W.aret X.1 X.2.1 hr (Or.inl ⟨C, rfl⟩) (Or.inr ⟨_, rfl⟩) (fun t ht hW => ⟨rfl, by rw [ht]; exact h.1, h.2.F ht⟩) h.2.2.2 hdg hlk
theorem e_v (X : Cx p s m args c cc own D) (hr : meth.sig.returnType = none) (hlk : meth.locks = false) {n' : Nat} (h : Hp B D n w s H locs) {w' : Wd} (he : n = n' ∧ w = w') (hdg : decode cc pc = .ok (.return_, 1)) : W p l e R s m args below meth c H locs cells slots (MQ below (QC B D n' w' none) args s cells slots (fun q => B ≤ q)) (F0 m pc ls []) := by
  obtain ⟨rfl, rfl⟩ := he
  exact W.vret X.1 X.2.1 hr (fun t ht hW => ⟨rfl, by rw [ht]; exact h.1, h.2.F ht⟩) h.2.2.2 hdg hlk
end RW

theorem ci_0 : CI 0 ("GrowthGrid$Cells", TX0, 4) := ⟨rfl, rfl, by decide, inX0, tyX0, tyX0_ok, nmX0⟩
theorem ci_1 : CI 1 ("GrowthGrid$Corners", TX1, 6) := ⟨rfl, rfl, by decide, inX1, tyX1, tyX1_ok, nmX1⟩
theorem ci_2 : CI 2 ("GrowthGrid$Deeds", TX2, 3) := ⟨rfl, rfl, by decide, inX2, tyX2, tyX2_ok, nmX2⟩
theorem ci_3 : CI 3 ("GrowthGrid$Holder", TX3, 4) := ⟨rfl, rfl, by decide, inX3, tyX3, tyX3_ok, nmX3⟩
theorem ci_4 : CI 4 ("GrowthGrid$RowSearch", TX4, 1) := ⟨rfl, rfl, by decide, inX4, tyX4, tyX4_ok, nmX4⟩
theorem ci_5 : CI 5 ("GrowthGrid$Shape", TX5, 3) := ⟨rfl, rfl, by decide, inX5, tyX5, tyX5_ok, nmX5⟩
theorem ci_6 : CI 6 ("GrowthGrid$Tape", TX6, 2) := ⟨rfl, rfl, by decide, inX6, tyX6, tyX6_ok, nmX6⟩
theorem ci_7 : CI 7 ("GrowthGrid", TX7, 10) := ⟨rfl, rfl, by decide, inX7, tyX7, tyX7_ok, nmX7⟩
theorem fk_X0_9 : FK "GrowthGrid$Cells" 9 0 0 false := ⟨_, ci_0, by decide, k_30, rfl, rfl⟩
theorem fk_X7_70 : FK "GrowthGrid" 70 0 0 false := ⟨_, ci_0, by decide, k_31, rfl, rfl⟩
theorem fk_X4_16 : FK "GrowthGrid$RowSearch" 16 0 0 false := ⟨_, ci_0, by decide, k_32, rfl, rfl⟩
theorem fk_X1_36 : FK "GrowthGrid$Corners" 36 0 0 false := ⟨_, ci_0, by decide, k_33, rfl, rfl⟩
theorem fk_X0_15 : FK "GrowthGrid$Cells" 15 0 1 false := ⟨_, ci_0, by decide, k_34, rfl, rfl⟩
theorem fk_X7_74 : FK "GrowthGrid" 74 0 1 false := ⟨_, ci_0, by decide, k_35, rfl, rfl⟩
theorem fk_X4_22 : FK "GrowthGrid$RowSearch" 22 0 1 false := ⟨_, ci_0, by decide, k_36, rfl, rfl⟩
theorem fk_X1_39 : FK "GrowthGrid$Corners" 39 0 1 false := ⟨_, ci_0, by decide, k_37, rfl, rfl⟩
theorem fk_X0_18 : FK "GrowthGrid$Cells" 18 0 2 false := ⟨_, ci_0, by decide, k_38, rfl, rfl⟩
theorem fk_X1_51 : FK "GrowthGrid$Corners" 51 0 2 false := ⟨_, ci_0, by decide, k_39, rfl, rfl⟩
theorem fk_X7_102 : FK "GrowthGrid" 102 0 2 false := ⟨_, ci_0, by decide, k_40, rfl, rfl⟩
theorem fk_X0_21 : FK "GrowthGrid$Cells" 21 0 3 true := ⟨_, ci_0, by decide, k_41, rfl, rfl⟩
theorem fk_X5_9 : FK "GrowthGrid$Shape" 9 5 0 true := ⟨_, ci_5, by decide, k_65, rfl, rfl⟩
theorem fk_X5_15 : FK "GrowthGrid$Shape" 15 5 1 false := ⟨_, ci_5, by decide, k_66, rfl, rfl⟩
theorem fk_X7_142 : FK "GrowthGrid" 142 5 1 false := ⟨_, ci_5, by decide, k_67, rfl, rfl⟩
theorem fk_X5_19 : FK "GrowthGrid$Shape" 19 5 2 false := ⟨_, ci_5, by decide, k_68, rfl, rfl⟩
theorem fk_X7_139 : FK "GrowthGrid" 139 5 2 false := ⟨_, ci_5, by decide, k_69, rfl, rfl⟩
theorem fk_X1_11 : FK "GrowthGrid$Corners" 11 1 0 true := ⟨_, ci_1, by decide, k_77, rfl, rfl⟩
theorem fk_X1_18 : FK "GrowthGrid$Corners" 18 1 1 true := ⟨_, ci_1, by decide, k_78, rfl, rfl⟩
theorem fk_X1_22 : FK "GrowthGrid$Corners" 22 1 2 false := ⟨_, ci_1, by decide, k_79, rfl, rfl⟩
theorem fk_X1_26 : FK "GrowthGrid$Corners" 26 1 3 false := ⟨_, ci_1, by decide, k_80, rfl, rfl⟩
theorem fk_X1_29 : FK "GrowthGrid$Corners" 29 1 4 true := ⟨_, ci_1, by decide, k_81, rfl, rfl⟩
theorem fk_X1_33 : FK "GrowthGrid$Corners" 33 1 5 false := ⟨_, ci_1, by decide, k_82, rfl, rfl⟩
theorem fk_X4_11 : FK "GrowthGrid$RowSearch" 11 4 0 true := ⟨_, ci_4, by decide, k_104, rfl, rfl⟩
theorem fk_X2_11 : FK "GrowthGrid$Deeds" 11 2 0 true := ⟨_, ci_2, by decide, k_117, rfl, rfl⟩
theorem fk_X2_18 : FK "GrowthGrid$Deeds" 18 2 1 false := ⟨_, ci_2, by decide, k_118, rfl, rfl⟩
theorem fk_X2_22 : FK "GrowthGrid$Deeds" 22 2 2 false := ⟨_, ci_2, by decide, k_119, rfl, rfl⟩
theorem fk_X6_9 : FK "GrowthGrid$Tape" 9 6 0 true := ⟨_, ci_6, by decide, k_133, rfl, rfl⟩
theorem fk_X6_15 : FK "GrowthGrid$Tape" 15 6 1 false := ⟨_, ci_6, by decide, k_134, rfl, rfl⟩
theorem fk_X7_205 : FK "GrowthGrid" 205 6 1 false := ⟨_, ci_6, by decide, k_135, rfl, rfl⟩
theorem fk_X3_9 : FK "GrowthGrid$Holder" 9 3 0 false := ⟨_, ci_3, by decide, k_150, rfl, rfl⟩
theorem fk_X3_18 : FK "GrowthGrid$Holder" 18 3 1 true := ⟨_, ci_3, by decide, k_151, rfl, rfl⟩
theorem fk_X3_22 : FK "GrowthGrid$Holder" 22 3 2 true := ⟨_, ci_3, by decide, k_152, rfl, rfl⟩
theorem fk_X3_26 : FK "GrowthGrid$Holder" 26 3 3 false := ⟨_, ci_3, by decide, k_153, rfl, rfl⟩
theorem fk_X7_14 : FK "GrowthGrid" 14 7 0 true := ⟨_, ci_7, by decide, k_163, rfl, rfl⟩
theorem fk_X7_18 : FK "GrowthGrid" 18 7 1 true := ⟨_, ci_7, by decide, k_164, rfl, rfl⟩
theorem fk_X7_21 : FK "GrowthGrid" 21 7 2 true := ⟨_, ci_7, by decide, k_165, rfl, rfl⟩
theorem fk_X7_24 : FK "GrowthGrid" 24 7 3 false := ⟨_, ci_7, by decide, k_166, rfl, rfl⟩
theorem fk_X7_31 : FK "GrowthGrid" 31 7 4 true := ⟨_, ci_7, by decide, k_167, rfl, rfl⟩
theorem fk_X7_35 : FK "GrowthGrid" 35 7 5 false := ⟨_, ci_7, by decide, k_168, rfl, rfl⟩
theorem fk_X7_41 : FK "GrowthGrid" 41 7 6 true := ⟨_, ci_7, by decide, k_169, rfl, rfl⟩
theorem fk_X7_48 : FK "GrowthGrid" 48 7 7 true := ⟨_, ci_7, by decide, k_170, rfl, rfl⟩
theorem fk_X7_55 : FK "GrowthGrid" 55 7 8 true := ⟨_, ci_7, by decide, k_171, rfl, rfl⟩
theorem fk_X7_61 : FK "GrowthGrid" 61 7 9 true := ⟨_, ci_7, by decide, k_172, rfl, rfl⟩
theorem pk_0_0 : PKf 0 0 false .int := ⟨_, ci_0, by decide, rfl, by decide +kernel⟩
theorem pk_0_1 : PKf 0 1 false .int := ⟨_, ci_0, by decide, rfl, by decide +kernel⟩
theorem pk_0_2 : PKf 0 2 false .int := ⟨_, ci_0, by decide, rfl, by decide +kernel⟩
theorem pk_0_3 : PKf 0 3 true (tyX0 3) := ⟨_, ci_0, by decide, rfl, by decide +kernel⟩
theorem pk_1_0 : PKf 1 0 true (tyX1 0) := ⟨_, ci_1, by decide, rfl, by decide +kernel⟩
theorem pk_1_1 : PKf 1 1 true (tyX1 1) := ⟨_, ci_1, by decide, rfl, by decide +kernel⟩
theorem pk_1_2 : PKf 1 2 false .int := ⟨_, ci_1, by decide, rfl, by decide +kernel⟩
theorem pk_1_3 : PKf 1 3 false .int := ⟨_, ci_1, by decide, rfl, by decide +kernel⟩
theorem pk_1_4 : PKf 1 4 true (tyX1 4) := ⟨_, ci_1, by decide, rfl, by decide +kernel⟩
theorem pk_1_5 : PKf 1 5 false .int := ⟨_, ci_1, by decide, rfl, by decide +kernel⟩
theorem pk_2_0 : PKf 2 0 true (tyX2 0) := ⟨_, ci_2, by decide, rfl, by decide +kernel⟩
theorem pk_2_1 : PKf 2 1 false .int := ⟨_, ci_2, by decide, rfl, by decide +kernel⟩
theorem pk_2_2 : PKf 2 2 false .int := ⟨_, ci_2, by decide, rfl, by decide +kernel⟩
theorem pk_3_0 : PKf 3 0 false .int := ⟨_, ci_3, by decide, rfl, by decide +kernel⟩
theorem pk_3_1 : PKf 3 1 true (tyX3 1) := ⟨_, ci_3, by decide, rfl, by decide +kernel⟩
theorem pk_3_2 : PKf 3 2 true (tyX3 2) := ⟨_, ci_3, by decide, rfl, by decide +kernel⟩
theorem pk_3_3 : PKf 3 3 false .int := ⟨_, ci_3, by decide, rfl, by decide +kernel⟩
theorem pk_4_0 : PKf 4 0 true (tyX4 0) := ⟨_, ci_4, by decide, rfl, by decide +kernel⟩
theorem pk_5_0 : PKf 5 0 true (tyX5 0) := ⟨_, ci_5, by decide, rfl, by decide +kernel⟩
theorem pk_5_1 : PKf 5 1 false .int := ⟨_, ci_5, by decide, rfl, by decide +kernel⟩
theorem pk_5_2 : PKf 5 2 false .int := ⟨_, ci_5, by decide, rfl, by decide +kernel⟩
theorem pk_6_0 : PKf 6 0 true (tyX6 0) := ⟨_, ci_6, by decide, rfl, by decide +kernel⟩
theorem pk_6_1 : PKf 6 1 false .int := ⟨_, ci_6, by decide, rfl, by decide +kernel⟩
theorem pk_7_0 : PKf 7 0 true (tyX7 0) := ⟨_, ci_7, by decide, rfl, by decide +kernel⟩
theorem pk_7_1 : PKf 7 1 true (tyX7 1) := ⟨_, ci_7, by decide, rfl, by decide +kernel⟩
theorem pk_7_2 : PKf 7 2 true (tyX7 2) := ⟨_, ci_7, by decide, rfl, by decide +kernel⟩
theorem pk_7_3 : PKf 7 3 false .boolean := ⟨_, ci_7, by decide, rfl, by decide +kernel⟩
theorem pk_7_4 : PKf 7 4 true (tyX7 4) := ⟨_, ci_7, by decide, rfl, by decide +kernel⟩
theorem pk_7_5 : PKf 7 5 false .boolean := ⟨_, ci_7, by decide, rfl, by decide +kernel⟩
theorem pk_7_6 : PKf 7 6 true (tyX7 6) := ⟨_, ci_7, by decide, rfl, by decide +kernel⟩
theorem pk_7_7 : PKf 7 7 true (tyX7 7) := ⟨_, ci_7, by decide, rfl, by decide +kernel⟩
theorem pk_7_8 : PKf 7 8 true (tyX7 8) := ⟨_, ci_7, by decide, rfl, by decide +kernel⟩
theorem pk_7_9 : PKf 7 9 true (tyX7 9) := ⟨_, ci_7, by decide, rfl, by decide +kernel⟩
theorem cf_X0_init : CFi yX0_init cX0_init 1 none 0 := ⟨k_28, k_8, k_27, by decide, by decide, by decide +kernel⟩
theorem cf_X0_hasCell : CFv yX0_hasCell cX0_hasCell 3 (some .boolean) 2 := ⟨k_201, k_8, k_199, k_200, by decide, by decide, by decide +kernel⟩
theorem cf_X0_hasCorner : CFv yX0_hasCorner cX0_hasCorner 3 (some .boolean) 2 := ⟨k_249, k_8, k_247, k_248, by decide, by decide, by decide +kernel⟩
theorem cf_X0_numberAt : CFv yX0_numberAt cX0_numberAt 3 (some .int) 2 := ⟨k_205, k_8, k_203, k_204, by decide, by decide, by decide +kernel⟩
theorem cf_X0_setNumber : CFv yX0_setNumber cX0_setNumber 4 none 3 := ⟨k_369, k_8, k_367, k_368, by decide, by decide, by decide +kernel⟩
theorem cf_X0_placeOf : CFs yX0_placeOf cX0_placeOf 2 (some .int) 2 := ⟨k_209, k_8, k_208, by decide, by decide, by decide +kernel⟩
theorem cf_X0_worthAt : CFv yX0_worthAt cX0_worthAt 4 (some .int) 2 := ⟨k_276, k_8, k_274, k_275, by decide, by decide, by decide +kernel⟩
theorem cf_X0_clearTo : CFv yX0_clearTo cX0_clearTo 4 none 2 := ⟨k_449, k_8, k_447, k_448, by decide, by decide, by decide +kernel⟩
theorem cf_X0_copyFrom : CFv yX0_copyFrom cX0_copyFrom 3 none 1 := ⟨k_232, k_8, k_230, k_231, by decide, by decide, by decide +kernel⟩
theorem cf_X0_filled : CFv yX0_filled cX0_filled 3 (some .int) 0 := ⟨k_421, k_8, k_419, k_420, by decide, by decide, by decide +kernel⟩
theorem cf_X0_total : CFv yX0_total cX0_total 3 (some .int) 0 := ⟨k_429, k_8, k_427, k_428, by decide, by decide, by decide +kernel⟩
theorem cf_X0_differing : CFv yX0_differing cX0_differing 4 (some .int) 1 := ⟨k_374, k_8, k_372, k_373, by decide, by decide, by decide +kernel⟩
theorem cf_X0_spelling : CFv yX0_spelling cX0_spelling 6 (some .int) 0 := ⟨k_240, k_8, k_238, k_239, by decide, by decide, by decide +kernel⟩
theorem cf_X1_init : CFi yX1_init cX1_init 2 none 0 := ⟨k_56, k_9, k_55, by decide, by decide, by decide +kernel⟩
theorem cf_X1_at : CFv yX1_at cX1_at 3 (some (.object "GrowthGrid$Shape")) 2 := ⟨k_268, k_9, k_266, k_267, by decide, by decide, by decide +kernel⟩
theorem cf_X1_growOver : CFv yX1_growOver cX1_growOver 4 none 1 := ⟨k_264, k_9, k_262, k_263, by decide, by decide, by decide +kernel⟩
theorem cf_X1_goBackInto : CFv yX1_goBackInto cX1_goBackInto 6 (some .int) 1 := ⟨k_358, k_9, k_356, k_357, by decide, by decide, by decide +kernel⟩
theorem cf_X1_rimFits : CFv yX1_rimFits cX1_rimFits 5 (some .boolean) 1 := ⟨k_337, k_9, k_335, k_336, by decide, by decide, by decide +kernel⟩
theorem cf_X2_init : CFi yX2_init cX2_init 2 none 0 := ⟨k_112, k_12, k_111, by decide, by decide, by decide +kernel⟩
theorem cf_X2_undoable : CFv yX2_undoable cX2_undoable 1 (some .int) 0 := ⟨k_393, k_12, k_391, k_392, by decide, by decide, by decide +kernel⟩
theorem cf_X2_redoable : CFv yX2_redoable cX2_redoable 1 (some .int) 0 := ⟨k_405, k_12, k_403, k_404, by decide, by decide, by decide +kernel⟩
theorem cf_X2_forgetAll : CFv yX2_forgetAll cX2_forgetAll 1 none 0 := ⟨k_417, k_12, k_415, k_416, by decide, by decide, by decide +kernel⟩
theorem cf_X2_remember : CFv yX2_remember cX2_remember 2 none 1 := ⟨k_224, k_12, k_222, k_223, by decide, by decide, by decide +kernel⟩
theorem cf_X2_forgetOldest : CFv yX2_forgetOldest cX2_forgetOldest 3 none 0 := ⟨k_228, k_12, k_227, k_1, by decide, by decide, by decide +kernel⟩
theorem cf_X2_stepBack : CFv yX2_stepBack cX2_stepBack 2 none 1 := ⟨k_397, k_12, k_395, k_396, by decide, by decide, by decide +kernel⟩
theorem cf_X2_stepOn : CFv yX2_stepOn cX2_stepOn 2 none 1 := ⟨k_409, k_12, k_407, k_408, by decide, by decide, by decide +kernel⟩
theorem cf_X3_init : CFi yX3_init cX3_init 1 none 0 := ⟨k_146, k_14, k_145, by decide, by decide, by decide +kernel⟩
theorem cf_X4_init : CFi yX4_init cX4_init 1 none 0 := ⟨k_100, k_11, k_99, by decide, by decide, by decide +kernel⟩
theorem cf_X4_bestRow : CFv yX4_bestRow cX4_bestRow 11 (some .int) 3 := ⟨k_382, k_11, k_380, k_381, by decide, by decide, by decide +kernel⟩
theorem cf_X5_init : CFi yX5_init cX5_init 1 none 0 := ⟨k_63, k_10, k_62, by decide, by decide, by decide +kernel⟩
theorem cf_X5_partAt : CFv yX5_partAt cX5_partAt 2 (some .int) 1 := ⟨k_288, k_10, k_286, k_287, by decide, by decide, by decide +kernel⟩
theorem cf_X5_partsAbove : CFv yX5_partsAbove cX5_partsAbove 4 (some .int) 1 := ⟨k_309, k_10, k_307, k_308, by decide, by decide, by decide +kernel⟩
theorem cf_X5_makeEmpty : CFv yX5_makeEmpty cX5_makeEmpty 1 none 0 := ⟨k_272, k_10, k_270, k_271, by decide, by decide, by decide +kernel⟩
theorem cf_X5_growFrom : CFv yX5_growFrom cX5_growFrom 12 none 5 := ⟨k_283, k_10, k_281, k_282, by decide, by decide, by decide +kernel⟩
theorem cf_X5_grownPart : CFs yX5_grownPart cX5_grownPart 5 (some .int) 5 := ⟨k_291, k_10, k_290, by decide, by decide, by decide +kernel⟩
theorem cf_X5_goBackFrom : CFv yX5_goBackFrom cX5_goBackFrom 11 (some .int) 4 := ⟨k_362, k_10, k_360, k_361, by decide, by decide, by decide +kernel⟩
theorem cf_X5_formerPart : CFs yX5_formerPart cX5_formerPart 5 (some .int) 5 := ⟨k_365, k_10, k_364, by decide, by decide, by decide +kernel⟩
theorem cf_X5_goesOnFrom : CFv yX5_goesOnFrom cX5_goesOnFrom 3 (some .boolean) 2 := ⟨k_341, k_10, k_339, k_340, by decide, by decide, by decide +kernel⟩
theorem cf_X5_goesOnLevel : CFv yX5_goesOnLevel cX5_goesOnLevel 5 (some .boolean) 1 := ⟨k_349, k_10, k_348, k_5, by decide, by decide, by decide +kernel⟩
theorem cf_X5_goesOnUpright : CFv yX5_goesOnUpright cX5_goesOnUpright 5 (some .boolean) 1 := ⟨k_345, k_10, k_344, k_4, by decide, by decide, by decide +kernel⟩
theorem cf_X5_standardFillings : CFv yX5_standardFillings cX5_standardFillings 7 (some .long) 0 := ⟨k_318, k_10, k_316, k_317, by decide, by decide, by decide +kernel⟩
theorem cf_X5_productOrWide : CFv yX5_productOrWide cX5_productOrWide 4 (some .int) 0 := ⟨k_328, k_10, k_326, k_327, by decide, by decide, by decide +kernel⟩
theorem cf_X6_init : CFi yX6_init cX6_init 1 none 0 := ⟨k_131, k_13, k_130, by decide, by decide, by decide +kernel⟩
theorem cf_X7_init : CFi yX7_init cX7_init 2 none 0 := ⟨k_20, k_7, k_19, by decide, by decide, by decide +kernel⟩
theorem cf_X7_grid : CFv yX7_grid cX7_grid 4 (some .int) 2 := ⟨k_442, k_7, k_440, k_441, by decide, by decide, by decide +kernel⟩
theorem cf_X7_put : CFv yX7_put cX7_put 5 (some .int) 3 := ⟨k_453, k_7, k_451, k_452, by decide, by decide, by decide +kernel⟩
theorem cf_X7_cell : CFv yX7_cell cX7_cell 3 (some .int) 2 := ⟨k_197, k_7, k_195, k_196, by decide, by decide, by decide +kernel⟩
theorem cf_X7_rule : CFv yX7_rule cX7_rule 3 (some .int) 1 := ⟨k_213, k_7, k_211, k_212, by decide, by decide, by decide +kernel⟩
theorem cf_X7_spelled : CFv yX7_spelled cX7_spelled 1 (some .int) 0 := ⟨k_236, k_7, k_234, k_235, by decide, by decide, by decide +kernel⟩
theorem cf_X7_part : CFv yX7_part cX7_part 4 (some .int) 3 := ⟨k_245, k_7, k_243, k_244, by decide, by decide, by decide +kernel⟩
theorem cf_X7_shape : CFv yX7_shape cX7_shape 5 (some .int) 3 := ⟨k_301, k_7, k_299, k_300, by decide, by decide, by decide +kernel⟩
theorem cf_X7_turned : CFv yX7_turned cX7_turned 4 (some .int) 3 := ⟨k_305, k_7, k_303, k_304, by decide, by decide, by decide +kernel⟩
theorem cf_X7_standard : CFv yX7_standard cX7_standard 4 (some .long) 2 := ⟨k_313, k_7, k_311, k_312, by decide, by decide, by decide +kernel⟩
theorem cf_X7_product : CFv yX7_product cX7_product 3 (some .int) 2 := ⟨k_324, k_7, k_322, k_323, by decide, by decide, by decide +kernel⟩
theorem cf_X7_fits : CFv yX7_fits cX7_fits 2 (some .int) 1 := ⟨k_333, k_7, k_331, k_332, by decide, by decide, by decide +kernel⟩
theorem cf_X7_back : CFv yX7_back cX7_back 3 (some .int) 1 := ⟨k_353, k_7, k_351, k_352, by decide, by decide, by decide +kernel⟩
theorem cf_X7_longest : CFv yX7_longest cX7_longest 3 (some .int) 2 := ⟨k_378, k_7, k_376, k_377, by decide, by decide, by decide +kernel⟩
theorem cf_X7_undo : CFv yX7_undo cX7_undo 1 (some .int) 0 := ⟨k_389, k_7, k_387, k_388, by decide, by decide, by decide +kernel⟩
theorem cf_X7_again : CFv yX7_again cX7_again 1 (some .int) 0 := ⟨k_401, k_7, k_399, k_400, by decide, by decide, by decide +kernel⟩
theorem cf_X7_restore : CFv yX7_restore cX7_restore 1 (some .int) 0 := ⟨k_413, k_7, k_411, k_412, by decide, by decide, by decide +kernel⟩
theorem cf_X7_count : CFv yX7_count cX7_count 2 (some .int) 1 := ⟨k_425, k_7, k_423, k_424, by decide, by decide, by decide +kernel⟩
theorem cf_X7_isSide : CFs yX7_isSide cX7_isSide 1 (some .boolean) 1 := ⟨k_445, k_7, k_444, by decide, by decide, by decide +kernel⟩
theorem cf_X7_isNumber : CFs yX7_isNumber cX7_isNumber 1 (some .boolean) 1 := ⟨k_456, k_7, k_455, by decide, by decide, by decide +kernel⟩
theorem cf_X7_isRule : CFs yX7_isRule cX7_isRule 1 (some .boolean) 1 := ⟨k_216, k_7, k_215, by decide, by decide, by decide +kernel⟩
theorem cf_X7_isPlace : CFs yX7_isPlace cX7_isPlace 1 (some .boolean) 1 := ⟨k_252, k_7, k_251, by decide, by decide, by decide +kernel⟩
theorem cf_X7_beginDeed : CFv yX7_beginDeed cX7_beginDeed 1 none 0 := ⟨k_220, k_7, k_219, k_0, by decide, by decide, by decide +kernel⟩
theorem cf_X7_grownCorners : CFv yX7_grownCorners cX7_grownCorners 1 (some (.object "GrowthGrid$Corners")) 0 := ⟨k_260, k_7, k_259, k_3, by decide, by decide, by decide +kernel⟩
theorem cf_X7_shapeAt : CFv yX7_shapeAt cX7_shapeAt 3 (some (.object "GrowthGrid$Shape")) 2 := ⟨k_256, k_7, k_255, k_2, by decide, by decide, by decide +kernel⟩
theorem cf_J9_max_7cf53 : CFs yJ9_max_7cf53 cJ9_max_7cf53 2 (some .int) 2 := ⟨k_294, k_15, k_293, by decide, by decide, by decide +kernel⟩
theorem cf_J9_min_7cf53 : CFs yJ9_min_7cf53 cJ9_min_7cf53 2 (some .int) 2 := ⟨k_279, k_15, k_278, by decide, by decide, by decide +kernel⟩
theorem cf_L_cell : CFs yL_cell cL_cell 2 (some .int) 2 := ⟨k_438, k_6, k_437, by decide, by decide, by decide +kernel⟩
theorem cf_L_some : CFs yL_some cL_some 3 (some .int) 3 := ⟨k_435, k_6, k_434, by decide, by decide, by decide +kernel⟩
theorem cf_L_setUp : CFs yL_setUp cL_setUp 7 none 3 := ⟨k_432, k_6, k_431, by decide, by decide, by decide +kernel⟩
end
section
def wl1 {α0 ρ : Type} (body : α0 → (α0 → Option ρ) → Option ρ) : Nat → α0 → Option ρ
  | 0, _ => none
  | n + 1, a0 => body a0 (wl1 body n)
theorem wl1_W {α0 ρ : Type} {body : α0 → (α0 → Option ρ) → Option ρ} {r : ρ} {n : Nat} {a0 : α0} {P : α0 → Prop} (hf : wl1 body n a0 = some r) (hs : ∀ a0 k, (∀ a0, k a0 = some r → P a0) → body a0 k = some r → P a0) : P a0 := by
  induction n generalizing a0 with
  | zero => cases hf
  | succ n ih => exact hs a0 _ (fun a0 h => ih h) hf
def wl2 {α0 α1 ρ : Type} (body : α0 → α1 → (α0 → α1 → Option ρ) → Option ρ) : Nat → α0 → α1 → Option ρ
  | 0, _, _ => none
  | n + 1, a0, a1 => body a0 a1 (wl2 body n)
theorem wl2_W {α0 α1 ρ : Type} {body : α0 → α1 → (α0 → α1 → Option ρ) → Option ρ} {r : ρ} {n : Nat} {a0 : α0} {a1 : α1} {P : α0 → α1 → Prop} (hf : wl2 body n a0 a1 = some r) (hs : ∀ a0 a1 k, (∀ a0 a1, k a0 a1 = some r → P a0 a1) → body a0 a1 k = some r → P a0 a1) : P a0 a1 := by
  induction n generalizing a0 a1 with
  | zero => cases hf
  | succ n ih => exact hs a0 a1 _ (fun a0 a1 h => ih h) hf
def wl3 {α0 α1 α2 ρ : Type} (body : α0 → α1 → α2 → (α0 → α1 → α2 → Option ρ) → Option ρ) : Nat → α0 → α1 → α2 → Option ρ
  | 0, _, _, _ => none
  | n + 1, a0, a1, a2 => body a0 a1 a2 (wl3 body n)
theorem wl3_W {α0 α1 α2 ρ : Type} {body : α0 → α1 → α2 → (α0 → α1 → α2 → Option ρ) → Option ρ} {r : ρ} {n : Nat} {a0 : α0} {a1 : α1} {a2 : α2} {P : α0 → α1 → α2 → Prop} (hf : wl3 body n a0 a1 a2 = some r) (hs : ∀ a0 a1 a2 k, (∀ a0 a1 a2, k a0 a1 a2 = some r → P a0 a1 a2) → body a0 a1 a2 k = some r → P a0 a1 a2) : P a0 a1 a2 := by
  induction n generalizing a0 a1 a2 with
  | zero => cases hf
  | succ n ih => exact hs a0 a1 a2 _ (fun a0 a1 a2 h => ih h) hf
def wl4 {α0 α1 α2 α3 ρ : Type} (body : α0 → α1 → α2 → α3 → (α0 → α1 → α2 → α3 → Option ρ) → Option ρ) : Nat → α0 → α1 → α2 → α3 → Option ρ
  | 0, _, _, _, _ => none
  | n + 1, a0, a1, a2, a3 => body a0 a1 a2 a3 (wl4 body n)
theorem wl4_W {α0 α1 α2 α3 ρ : Type} {body : α0 → α1 → α2 → α3 → (α0 → α1 → α2 → α3 → Option ρ) → Option ρ} {r : ρ} {n : Nat} {a0 : α0} {a1 : α1} {a2 : α2} {a3 : α3} {P : α0 → α1 → α2 → α3 → Prop} (hf : wl4 body n a0 a1 a2 a3 = some r) (hs : ∀ a0 a1 a2 a3 k, (∀ a0 a1 a2 a3, k a0 a1 a2 a3 = some r → P a0 a1 a2 a3) → body a0 a1 a2 a3 k = some r → P a0 a1 a2 a3) : P a0 a1 a2 a3 := by
  induction n generalizing a0 a1 a2 a3 with
  | zero => cases hf
  | succ n ih => exact hs a0 a1 a2 a3 _ (fun a0 a1 a2 a3 h => ih h) hf
def wl5 {α0 α1 α2 α3 α4 ρ : Type} (body : α0 → α1 → α2 → α3 → α4 → (α0 → α1 → α2 → α3 → α4 → Option ρ) → Option ρ) : Nat → α0 → α1 → α2 → α3 → α4 → Option ρ
  | 0, _, _, _, _, _ => none
  | n + 1, a0, a1, a2, a3, a4 => body a0 a1 a2 a3 a4 (wl5 body n)
theorem wl5_W {α0 α1 α2 α3 α4 ρ : Type} {body : α0 → α1 → α2 → α3 → α4 → (α0 → α1 → α2 → α3 → α4 → Option ρ) → Option ρ} {r : ρ} {n : Nat} {a0 : α0} {a1 : α1} {a2 : α2} {a3 : α3} {a4 : α4} {P : α0 → α1 → α2 → α3 → α4 → Prop} (hf : wl5 body n a0 a1 a2 a3 a4 = some r) (hs : ∀ a0 a1 a2 a3 a4 k, (∀ a0 a1 a2 a3 a4, k a0 a1 a2 a3 a4 = some r → P a0 a1 a2 a3 a4) → body a0 a1 a2 a3 a4 k = some r → P a0 a1 a2 a3 a4) : P a0 a1 a2 a3 a4 := by
  induction n generalizing a0 a1 a2 a3 a4 with
  | zero => cases hf
  | succ n ih => exact hs a0 a1 a2 a3 a4 _ (fun a0 a1 a2 a3 a4 h => ih h) hf
def wl6 {α0 α1 α2 α3 α4 α5 ρ : Type} (body : α0 → α1 → α2 → α3 → α4 → α5 → (α0 → α1 → α2 → α3 → α4 → α5 → Option ρ) → Option ρ) : Nat → α0 → α1 → α2 → α3 → α4 → α5 → Option ρ
  | 0, _, _, _, _, _, _ => none
  | n + 1, a0, a1, a2, a3, a4, a5 => body a0 a1 a2 a3 a4 a5 (wl6 body n)
theorem wl6_W {α0 α1 α2 α3 α4 α5 ρ : Type} {body : α0 → α1 → α2 → α3 → α4 → α5 → (α0 → α1 → α2 → α3 → α4 → α5 → Option ρ) → Option ρ} {r : ρ} {n : Nat} {a0 : α0} {a1 : α1} {a2 : α2} {a3 : α3} {a4 : α4} {a5 : α5} {P : α0 → α1 → α2 → α3 → α4 → α5 → Prop} (hf : wl6 body n a0 a1 a2 a3 a4 a5 = some r) (hs : ∀ a0 a1 a2 a3 a4 a5 k, (∀ a0 a1 a2 a3 a4 a5, k a0 a1 a2 a3 a4 a5 = some r → P a0 a1 a2 a3 a4 a5) → body a0 a1 a2 a3 a4 a5 k = some r → P a0 a1 a2 a3 a4 a5) : P a0 a1 a2 a3 a4 a5 := by
  induction n generalizing a0 a1 a2 a3 a4 a5 with
  | zero => cases hf
  | succ n ih => exact hs a0 a1 a2 a3 a4 a5 _ (fun a0 a1 a2 a3 a4 a5 h => ih h) hf
def wl7 {α0 α1 α2 α3 α4 α5 α6 ρ : Type} (body : α0 → α1 → α2 → α3 → α4 → α5 → α6 → (α0 → α1 → α2 → α3 → α4 → α5 → α6 → Option ρ) → Option ρ) : Nat → α0 → α1 → α2 → α3 → α4 → α5 → α6 → Option ρ
  | 0, _, _, _, _, _, _, _ => none
  | n + 1, a0, a1, a2, a3, a4, a5, a6 => body a0 a1 a2 a3 a4 a5 a6 (wl7 body n)
theorem wl7_W {α0 α1 α2 α3 α4 α5 α6 ρ : Type} {body : α0 → α1 → α2 → α3 → α4 → α5 → α6 → (α0 → α1 → α2 → α3 → α4 → α5 → α6 → Option ρ) → Option ρ} {r : ρ} {n : Nat} {a0 : α0} {a1 : α1} {a2 : α2} {a3 : α3} {a4 : α4} {a5 : α5} {a6 : α6} {P : α0 → α1 → α2 → α3 → α4 → α5 → α6 → Prop} (hf : wl7 body n a0 a1 a2 a3 a4 a5 a6 = some r) (hs : ∀ a0 a1 a2 a3 a4 a5 a6 k, (∀ a0 a1 a2 a3 a4 a5 a6, k a0 a1 a2 a3 a4 a5 a6 = some r → P a0 a1 a2 a3 a4 a5 a6) → body a0 a1 a2 a3 a4 a5 a6 k = some r → P a0 a1 a2 a3 a4 a5 a6) : P a0 a1 a2 a3 a4 a5 a6 := by
  induction n generalizing a0 a1 a2 a3 a4 a5 a6 with
  | zero => cases hf
  | succ n ih => exact hs a0 a1 a2 a3 a4 a5 a6 _ (fun a0 a1 a2 a3 a4 a5 a6 h => ih h) hf
def wl8 {α0 α1 α2 α3 α4 α5 α6 α7 ρ : Type} (body : α0 → α1 → α2 → α3 → α4 → α5 → α6 → α7 → (α0 → α1 → α2 → α3 → α4 → α5 → α6 → α7 → Option ρ) → Option ρ) : Nat → α0 → α1 → α2 → α3 → α4 → α5 → α6 → α7 → Option ρ
  | 0, _, _, _, _, _, _, _, _ => none
  | n + 1, a0, a1, a2, a3, a4, a5, a6, a7 => body a0 a1 a2 a3 a4 a5 a6 a7 (wl8 body n)
theorem wl8_W {α0 α1 α2 α3 α4 α5 α6 α7 ρ : Type} {body : α0 → α1 → α2 → α3 → α4 → α5 → α6 → α7 → (α0 → α1 → α2 → α3 → α4 → α5 → α6 → α7 → Option ρ) → Option ρ} {r : ρ} {n : Nat} {a0 : α0} {a1 : α1} {a2 : α2} {a3 : α3} {a4 : α4} {a5 : α5} {a6 : α6} {a7 : α7} {P : α0 → α1 → α2 → α3 → α4 → α5 → α6 → α7 → Prop} (hf : wl8 body n a0 a1 a2 a3 a4 a5 a6 a7 = some r) (hs : ∀ a0 a1 a2 a3 a4 a5 a6 a7 k, (∀ a0 a1 a2 a3 a4 a5 a6 a7, k a0 a1 a2 a3 a4 a5 a6 a7 = some r → P a0 a1 a2 a3 a4 a5 a6 a7) → body a0 a1 a2 a3 a4 a5 a6 a7 k = some r → P a0 a1 a2 a3 a4 a5 a6 a7) : P a0 a1 a2 a3 a4 a5 a6 a7 := by
  induction n generalizing a0 a1 a2 a3 a4 a5 a6 a7 with
  | zero => cases hf
  | succ n ih => exact hs a0 a1 a2 a3 a4 a5 a6 a7 _ (fun a0 a1 a2 a3 a4 a5 a6 a7 h => ih h) hf
def wl9 {α0 α1 α2 α3 α4 α5 α6 α7 α8 ρ : Type} (body : α0 → α1 → α2 → α3 → α4 → α5 → α6 → α7 → α8 → (α0 → α1 → α2 → α3 → α4 → α5 → α6 → α7 → α8 → Option ρ) → Option ρ) : Nat → α0 → α1 → α2 → α3 → α4 → α5 → α6 → α7 → α8 → Option ρ
  | 0, _, _, _, _, _, _, _, _, _ => none
  | n + 1, a0, a1, a2, a3, a4, a5, a6, a7, a8 => body a0 a1 a2 a3 a4 a5 a6 a7 a8 (wl9 body n)
theorem wl9_W {α0 α1 α2 α3 α4 α5 α6 α7 α8 ρ : Type} {body : α0 → α1 → α2 → α3 → α4 → α5 → α6 → α7 → α8 → (α0 → α1 → α2 → α3 → α4 → α5 → α6 → α7 → α8 → Option ρ) → Option ρ} {r : ρ} {n : Nat} {a0 : α0} {a1 : α1} {a2 : α2} {a3 : α3} {a4 : α4} {a5 : α5} {a6 : α6} {a7 : α7} {a8 : α8} {P : α0 → α1 → α2 → α3 → α4 → α5 → α6 → α7 → α8 → Prop} (hf : wl9 body n a0 a1 a2 a3 a4 a5 a6 a7 a8 = some r) (hs : ∀ a0 a1 a2 a3 a4 a5 a6 a7 a8 k, (∀ a0 a1 a2 a3 a4 a5 a6 a7 a8, k a0 a1 a2 a3 a4 a5 a6 a7 a8 = some r → P a0 a1 a2 a3 a4 a5 a6 a7 a8) → body a0 a1 a2 a3 a4 a5 a6 a7 a8 k = some r → P a0 a1 a2 a3 a4 a5 a6 a7 a8) : P a0 a1 a2 a3 a4 a5 a6 a7 a8 := by
  induction n generalizing a0 a1 a2 a3 a4 a5 a6 a7 a8 with
  | zero => cases hf
  | succ n ih => exact hs a0 a1 a2 a3 a4 a5 a6 a7 a8 _ (fun a0 a1 a2 a3 a4 a5 a6 a7 a8 h => ih h) hf
def wl10 {α0 α1 α2 α3 α4 α5 α6 α7 α8 α9 ρ : Type} (body : α0 → α1 → α2 → α3 → α4 → α5 → α6 → α7 → α8 → α9 → (α0 → α1 → α2 → α3 → α4 → α5 → α6 → α7 → α8 → α9 → Option ρ) → Option ρ) : Nat → α0 → α1 → α2 → α3 → α4 → α5 → α6 → α7 → α8 → α9 → Option ρ
  | 0, _, _, _, _, _, _, _, _, _, _ => none
  | n + 1, a0, a1, a2, a3, a4, a5, a6, a7, a8, a9 => body a0 a1 a2 a3 a4 a5 a6 a7 a8 a9 (wl10 body n)
theorem wl10_W {α0 α1 α2 α3 α4 α5 α6 α7 α8 α9 ρ : Type} {body : α0 → α1 → α2 → α3 → α4 → α5 → α6 → α7 → α8 → α9 → (α0 → α1 → α2 → α3 → α4 → α5 → α6 → α7 → α8 → α9 → Option ρ) → Option ρ} {r : ρ} {n : Nat} {a0 : α0} {a1 : α1} {a2 : α2} {a3 : α3} {a4 : α4} {a5 : α5} {a6 : α6} {a7 : α7} {a8 : α8} {a9 : α9} {P : α0 → α1 → α2 → α3 → α4 → α5 → α6 → α7 → α8 → α9 → Prop} (hf : wl10 body n a0 a1 a2 a3 a4 a5 a6 a7 a8 a9 = some r) (hs : ∀ a0 a1 a2 a3 a4 a5 a6 a7 a8 a9 k, (∀ a0 a1 a2 a3 a4 a5 a6 a7 a8 a9, k a0 a1 a2 a3 a4 a5 a6 a7 a8 a9 = some r → P a0 a1 a2 a3 a4 a5 a6 a7 a8 a9) → body a0 a1 a2 a3 a4 a5 a6 a7 a8 a9 k = some r → P a0 a1 a2 a3 a4 a5 a6 a7 a8 a9) : P a0 a1 a2 a3 a4 a5 a6 a7 a8 a9 := by
  induction n generalizing a0 a1 a2 a3 a4 a5 a6 a7 a8 a9 with
  | zero => cases hf
  | succ n ih => exact hs a0 a1 a2 a3 a4 a5 a6 a7 a8 a9 _ (fun a0 a1 a2 a3 a4 a5 a6 a7 a8 a9 h => ih h) hf
/-! what the class's methods do, as functions: the words of them -/
def fu : Nat := 3000
def lt {α β : Type} (a : α) (f : α → β) : β := f a
def lt2 {α α2 β : Type} (a : α) (b : α2) (f : α → α2 → β) : β := f a b
def lt3 {α α2 α3 β : Type} (a : α) (b : α2) (c : α3) (f : α → α2 → α3 → β) : β := f a b c
def jn {κ β : Type} (K : κ) (f : κ → β) : β := f K
def ix {ρ : Type} (i : Int32) (n : Nat) (K : Nat → Option ρ) : Option ρ := if 0 ≤ i.toInt ∧ i.toInt < (n : Int) then K i.toNatClampNeg else none
def ck {ρ : Type} (n r P : Nat) (K : Option ρ) : Option ρ := if r < n ∧ kd r = P then K else none
def rf {ρ : Type} (n : Nat) (o : Option Nat) (P : Nat) (K : Nat → Option ρ) : Option ρ := match o with
  | some r => ck n r P (K r)
  | none => none
def c1 {α ρ : Type} (x : Option α) (K : α → Option ρ) : Option ρ := match x with
  | some a => K a
  | none => none
def c2 {α ρ : Type} (x : Option (α × Wd)) (K : α → Wd → Option ρ) : Option ρ := match x with
  | some a => K a.1 a.2
  | none => none
def nz {ρ : Type} (y : Int32) (K : Option ρ) : Option ρ := if y = 0 then none else K
def nzl {ρ : Type} (y : Int64) (K : Option ρ) : Option ρ := if y = 0 then none else K
def zb {ρ : Type} (y : Int32) (K : Option ρ) : Option ρ := if y = 0 ∨ y = 1 then K else none
theorem lt_e {α β : Type} {a x : α} {f : α → β} {y : β} (h : x = a) (hf : lt a f = y) : f x = y := by rw [h]; exact hf
theorem jn_W {κ ρ : Type} {K : κ} {f : κ → Option ρ} {r : ρ} {P : κ → Prop} {G : Prop} (hf : jn K f = some r) (hK : P K) (go : ∀ j, P j → f j = some r → G) : G := go K hK hf
theorem mg_W {α ρ : Type} {E : α} {f : α → Option ρ} {r : ρ} {P : α → Prop} {G : Prop} (hf : lt E f = some r) (hK : ∀ x, f x = some r → P x) (go : (∀ x, x = E → P x) → G) : G := go (fun x hx => hK x (by rw [hx]; exact hf))
theorem mg_W2 {α α2 ρ : Type} {E : α} {E2 : α2} {f : α → α2 → Option ρ} {r : ρ} {P : α → α2 → Prop} {G : Prop} (hf : lt2 E E2 f = some r) (hK : ∀ x y, f x y = some r → P x y) (go : (∀ x, x = E → ∀ y, y = E2 → P x y) → G) : G := go (fun x hx y hy => hK x y (by rw [hx, hy]; exact hf))
theorem mg_W3 {α α2 α3 ρ : Type} {E : α} {E2 : α2} {E3 : α3} {f : α → α2 → α3 → Option ρ} {r : ρ} {P : α → α2 → α3 → Prop} {G : Prop} (hf : lt3 E E2 E3 f = some r) (hK : ∀ x y z, f x y z = some r → P x y z) (go : (∀ x, x = E → ∀ y, y = E2 → ∀ z, z = E3 → P x y z) → G) : G := go (fun x hx y hy z hz => hK x y z (by rw [hx, hy, hz]; exact hf))
theorem if_t {c : Prop} [Decidable c] {α : Type} {A B x : α} (hc : c) (h : ite c A B = x) : A = x := (if_pos hc).symm.trans h
theorem if_f {c : Prop} [Decidable c] {α : Type} {A B x : α} (hc : ¬ c) (h : ite c A B = x) : B = x := (if_neg hc).symm.trans h
theorem ix_e {ρ : Type} {i : Int32} {n : Nat} {K : Nat → Option ρ} {r : ρ} (h : ix i n K = some r) : vp_in i n ∧ K i.toNatClampNeg = some r := by
  unfold ix at h
  split at h
  · rename_i hc; exact ⟨vp_in_iff.mpr hc, h⟩
  · cases h
theorem ck_e {ρ : Type} {n a P : Nat} {K : Option ρ} {r : ρ} (h : ck n a P K = some r) : (a < n ∧ kd a = P) ∧ K = some r := by
  unfold ck at h
  split at h
  · rename_i hc; exact ⟨hc, h⟩
  · cases h
theorem rf_e {ρ : Type} {n P : Nat} {o : Option Nat} {K : Nat → Option ρ} {r : ρ} (h : rf n o P K = some r) : ∃ x, o = some x ∧ (x < n ∧ kd x = P) ∧ K x = some r := by
  unfold rf at h
  split at h
  · rename_i x; obtain ⟨h1, h2⟩ := ck_e h; exact ⟨x, rfl, h1, h2⟩
  · cases h
theorem c1_e {α ρ : Type} {x : Option α} {K : α → Option ρ} {r : ρ} (h : c1 x K = some r) : ∃ a, x = some a ∧ K a = some r := by
  unfold c1 at h
  split at h
  · rename_i a; exact ⟨a, rfl, h⟩
  · cases h
theorem c2_e {α ρ : Type} {x : Option (α × Wd)} {K : α → Wd → Option ρ} {r : ρ} (h : c2 x K = some r) : ∃ a w, x = some (a, w) ∧ K a w = some r := by
  unfold c2 at h
  split at h
  · rename_i a; exact ⟨a.1, a.2, rfl, h⟩
  · cases h
theorem nz_e {ρ : Type} {y : Int32} {K : Option ρ} {r : ρ} (h : nz y K = some r) : ¬ y = 0 ∧ K = some r := by
  unfold nz at h
  split at h
  · cases h
  · rename_i hc; exact ⟨hc, h⟩
theorem nzl_e {ρ : Type} {y : Int64} {K : Option ρ} {r : ρ} (h : nzl y K = some r) : ¬ y = 0 ∧ K = some r := by
  unfold nzl at h
  split at h
  · cases h
  · rename_i hc; exact ⟨hc, h⟩
theorem zb_e {ρ : Type} {y : Int32} {K : Option ρ} {r : ρ} (h : zb y K = some r) : (y = 0 ∨ y = 1) ∧ K = some r := by
  unfold zb at h
  split at h
  · rename_i hc; exact ⟨hc, h⟩
  · cases h
theorem ck_n {ρ : Type} {n0 n a P : Nat} {K : Option ρ} {r : ρ} (hN : n0 ≤ n) (h : ck n0 a P K = some r) : (a < n ∧ kd a = P) ∧ K = some r := by
  obtain ⟨h1, h2⟩ := ck_e h
  exact ⟨⟨Nat.lt_of_lt_of_le h1.1 hN, h1.2⟩, h2⟩
theorem kd_b {t : Nat} (h : kd t < 99) : t < 143 := by
  by_cases c : t < 143
  · exact c
  · unfold kd at h
    rw [List.getD_eq_getElem?_getD, List.getElem?_eq_none (by show 143 ≤ t; omega)] at h
    simp at h
theorem so_e {α : Type} {a b : α} (h : some a = some b) : a = b := Option.some.inj h
theorem so2_e {α β : Type} {a c : α} {b d : β} (h : some (a, b) = some (c, d)) : a = c ∧ b = d := by
  have := Option.some.inj h
  exact ⟨congrArg Prod.fst this, congrArg Prod.snd this⟩
section CB
variable {p : Program} {l : Launch} {e : Env} {R : Room} {s : State} {m : MethodId} {args : Array Value} {below : List Frame} {meth : Method} {c : Code} {H : Heap} {locs : List Loc} {cells slots : Nat} {Q : State → Prop}
variable {cc : ByteArray} {pc : Nat} {ls : Array Slot} {rest : List Value} {D : DD} {own : String} {B n : Nat} {w : Wd}
theorem q_gr {ρ : Type} {z : ρ} {K : Nat → Option ρ} (X : Cx p s m args c cc own D) (h : Hp B D n w s H locs) {t ci j idx P n0 : Nat} (ht : t < n ∧ kd t = ci) (hf : FK own idx ci j true) (hdg : decode cc pc = .ok (.getfield idx, 3)) (hN : n0 ≤ n) (hr : rf n0 (w.2 t j) P K = some z)
    (kk : ∀ x, (x < n ∧ kd x = P) → K x = some z → W p l e R s m args below meth c H locs cells slots Q (F0 m (pc + 3) ls (.ref (B + x) :: rest))) : W p l e R s m args below meth c H locs cells slots Q (F0 m pc ls (.ref (B + t) :: rest)) := by
  obtain ⟨x, h1, h2, h3⟩ := rf_e hr
  exact r_gr X h ht hf h1 hdg (kk x ⟨Nat.lt_of_lt_of_le h2.1 hN, h2.2⟩ h3)
theorem q_pi {ρ : Type} {z : ρ} {K : Wd → Option ρ} (X : Cx p s m args c cc own D) (h : Hp B D n w s H locs) {t ci j idx : Nat} {ty : FieldType} (ht : t < n ∧ kd t = ci) (hf : FK own idx ci j false) (hp : PKf ci j false ty) {x : Int32} (hnv : narrow ty (.int x) = .int x) (hfv : fits ty (.int x) = true) (hdg : decode cc pc = .ok (.putfield idx, 3)) (hr : lt (upI w t j x) K = some z)
    (kk : ∀ (w1 : Wd) (H1 : Heap) (locs1 : List Loc), K w1 = some z → Hp B D n w1 s H1 locs1 → W p l e R s m args below meth c H1 locs1 cells slots Q (F0 m (pc + 3) ls rest)) : W p l e R s m args below meth c H locs cells slots Q (F0 m pc ls (.int x :: .ref (B + t) :: rest)) :=
  r_pi X h ht hf hp hnv hfv hdg (fun H1 l1 h1 => kk _ H1 l1 hr h1)
theorem q_ald {ρ : Type} {z : ρ} {K : Nat → Option ρ} (X : Cx p s m args c cc own D) (h : Hp B D n w s H locs) {a : Nat} (ha : a < n ∧ kd a = 9) {i : Int32} (hdg : decode cc pc = .ok (.iaload, 1)) (hr : ix i (ln a) K = some z)
    (kk : K i.toNatClampNeg = some z → W p l e R s m args below meth c H locs cells slots Q (F0 m (pc + 1) ls (.int (w.1 a i.toNatClampNeg) :: rest))) : W p l e R s m args below meth c H locs cells slots Q (F0 m pc ls (.int i :: .ref (B + a) :: rest)) :=
  r_ald X h ha (ix_e hr).1 hdg (kk (ix_e hr).2)
theorem q_ast {ρ : Type} {z : ρ} {K : Wd → Option ρ} (X : Cx p s m args c cc own D) (h : Hp B D n w s H locs) {a : Nat} (ha : a < n ∧ kd a = 9) {i x : Int32} (hdg : decode cc pc = .ok (.iastore, 1)) (hr : ix i (ln a) (fun j => lt (upI w a j x) K) = some z)
    (kk : ∀ (w1 : Wd) (H1 : Heap) (locs1 : List Loc), K w1 = some z → Hp B D n w1 s H1 locs1 → W p l e R s m args below meth c H1 locs1 cells slots Q (F0 m (pc + 1) ls rest)) : W p l e R s m args below meth c H locs cells slots Q (F0 m pc ls (.int x :: .int i :: .ref (B + a) :: rest)) :=
  r_ast X h ha (ix_e hr).1 hdg (fun H1 l1 h1 => kk _ H1 l1 (ix_e hr).2 h1)
theorem q_aald {ρ : Type} {z : ρ} {K : Nat → Option ρ} (X : Cx p s m args c cc own D) (h : Hp B D n w s H locs) {a ka P n0 : Nat} (ha : a < n ∧ kd a = ka) (hka : 10 ≤ ka ∧ ka < 14) {i : Int32} (hdg : decode cc pc = .ok (.aaload, 1)) (hN : n0 ≤ n) (hr : ix i (ln a) (fun j => rf n0 (w.2 a j) P K) = some z)
    (kk : ∀ x, (x < n ∧ kd x = P) → K x = some z → W p l e R s m args below meth c H locs cells slots Q (F0 m (pc + 1) ls (.ref (B + x) :: rest))) : W p l e R s m args below meth c H locs cells slots Q (F0 m pc ls (.int i :: .ref (B + a) :: rest)) := by
  obtain ⟨h0, hr⟩ := ix_e hr
  obtain ⟨x, h1, h2, h3⟩ := rf_e hr
  exact r_aald X h ha hka h0 h1 hdg (kk x ⟨Nat.lt_of_lt_of_le h2.1 hN, h2.2⟩ h3)
theorem q_aast {ρ : Type} {z : ρ} {K : Wd → Option ρ} (X : Cx p s m args c cc own D) (h : Hp B D n w s H locs) {a ka t ci : Nat} (ha : a < n ∧ kd a = ka) (hka : 10 ≤ ka ∧ ka < 13) (ht : t < n ∧ kd t = ci) {q : vw_C} (hq : CI ci q) (hel : aty ka = .object q.1) {i : Int32} (hdg : decode cc pc = .ok (.aastore, 1)) (hr : ix i (ln a) (fun j => lt (upR w a j t) K) = some z)
    (kk : ∀ (w1 : Wd) (H1 : Heap) (locs1 : List Loc), K w1 = some z → Hp B D n w1 s H1 locs1 → W p l e R s m args below meth c H1 locs1 cells slots Q (F0 m (pc + 1) ls rest)) : W p l e R s m args below meth c H locs cells slots Q (F0 m pc ls (.ref (B + t) :: .int i :: .ref (B + a) :: rest)) :=
  r_aast X h ha hka ht hq hel (ix_e hr).1 hdg (fun H1 l1 h1 => kk _ H1 l1 (ix_e hr).2 h1)
theorem q_V {nL : Nat} (X : Cx p s m args c cc own D) (hml : c.maxLocals = nL) (h : Hp B D n w s H locs) (o : Option Value) {y : MethodName} {bytes : ByteArray} {maxL fr lo np t ci idx : Nat} {ret : Option FieldType} {As : List Value} {w' : Wd} {st0 : List Value}
    (hM : Ct l y bytes maxL ret fr lo 0 0 B D (.ref (B + t) :: As) n w o n w') (hF : CFv y bytes maxL ret np) (hl : Cond.methodLink own idx y ∈ AL) (ht : t < n ∧ kd t = ci) {q : vw_C} (hq : CI ci q) (hcl : q.1 = y.cls) (hn : As.length = np) (hls : ls.size = nL) (hst : st0 = As.reverse ++ .ref (B + t) :: rest) (hW : (rest.map fun v => v.category).sum ≤ 8) (hR : fr + 1 ≤ R.frames ∧ 8 + (maxL + 11) + lo ≤ R.locals) (hc : cells ≤ R.cells ∧ slots ≤ R.slots) (hdg : decode cc pc = .ok (.invokevirtual idx, 3))
    {st1 : List Value} (h1 : o.toList ++ rest = st1) (kk : ∀ (H1 : Heap) (locs1 : List Loc), Hp B D n w' s H1 locs1 → W p l e R s m args below meth c H1 locs1 cells slots Q (F0 m (pc + 3) ls st1)) : W p l e R s m args below meth c H locs cells slots Q (F0 m pc ls st0) := by
  subst h1
  exact kV X hml h hM hF hl ht hq hcl hn hls hst hW hR hc hdg kk
theorem q_S {nL : Nat} (X : Cx p s m args c cc own D) (hml : c.maxLocals = nL) (h : Hp B D n w s H locs) (o : Option Value) {y : MethodName} {bytes : ByteArray} {maxL fr lo np idx : Nat} {ret : Option FieldType} {As : List Value} {w' : Wd} {st0 : List Value}
    (hM : Ct l y bytes maxL ret fr lo 0 0 B D As n w o n w') (hF : CFs y bytes maxL ret np) (hl : Cond.methodLink own idx y ∈ AL) (hn : As.length = np) (hls : ls.size = nL) (hst : st0 = As.reverse ++ rest) (hW : (rest.map fun v => v.category).sum ≤ 8) (hR : fr + 1 ≤ R.frames ∧ 8 + (maxL + 11) + lo ≤ R.locals) (hc : cells ≤ R.cells ∧ slots ≤ R.slots) (hdg : decode cc pc = .ok (.invokestatic idx, 3))
    {st1 : List Value} (h1 : o.toList ++ rest = st1) (kk : ∀ (H1 : Heap) (locs1 : List Loc), Hp B D n w' s H1 locs1 → W p l e R s m args below meth c H1 locs1 cells slots Q (F0 m (pc + 3) ls st1)) : W p l e R s m args below meth c H locs cells slots Q (F0 m pc ls st0) := by
  subst h1
  exact kS X hml h hM hF hl hn hls hst hW hR hc hdg kk
theorem q_SX {nL : Nat} (X : Cx p s m args c cc own D) (hml : c.maxLocals = nL) (h : Hp B D n w s H locs) {b L : Nat} {xs : Nat → Int32} (hX : va_X b L xs s s.heap) (hbl : b < s.heap.size) (hbA : ¬ (fun q : Nat => B ≤ q) b) (o : Option Value) {y : MethodName} {bytes : ByteArray} {maxL fr lo np idx : Nat} {ret : Option FieldType} {As : List Value} {w' : Wd} {st0 : List Value}
    (hM : CtX l y bytes maxL ret fr lo 0 0 B D b L xs As n w o n w') (hF : CFs y bytes maxL ret np) (hl : Cond.methodLink own idx y ∈ AL) (hn : As.length = np) (hls : ls.size = nL) (hst : st0 = As.reverse ++ rest) (hW : (rest.map fun v => v.category).sum ≤ 8) (hR : fr + 1 ≤ R.frames ∧ 8 + (maxL + 11) + lo ≤ R.locals) (hc : cells ≤ R.cells ∧ slots ≤ R.slots) (hdg : decode cc pc = .ok (.invokestatic idx, 3))
    {st1 : List Value} (h1 : o.toList ++ rest = st1) (kk : ∀ (H1 : Heap) (locs1 : List Loc), Hp B D n w' s H1 locs1 → W p l e R s m args below meth c H1 locs1 cells slots Q (F0 m (pc + 3) ls st1)) : W p l e R s m args below meth c H locs cells slots Q (F0 m pc ls st0) := by
  subst h1
  exact kSX X hml h hX hbl hbA hM hF hl hn hls hst hW hR hc hdg kk
theorem km_1 : Cond.static Lib.Math.max.name ∈ AL := al_mem 293 (by decide +kernel) rfl
theorem km_2 : Cond.code Lib.Math.max.name Lib.Math.max.code 2 (some .int) ∈ AL := al_mem 294 (by decide +kernel) rfl
theorem km_3 : Cond.static Lib.Math.min.name ∈ AL := al_mem 278 (by decide +kernel) rfl
theorem km_4 : Cond.code Lib.Math.min.name Lib.Math.min.code 2 (some .int) ∈ AL := al_mem 279 (by decide +kernel) rfl
theorem q_max {nL idx : Nat} (X : Cx p s m args c cc own D) (hml : c.maxLocals = nL) (hls : ls.size = nL) (hl : Cond.methodLink own idx Lib.Math.max.name ∈ AL) (hW : (rest.map fun v => v.category).sum ≤ 8) (hR : 1 ≤ R.frames ∧ 21 ≤ R.locals) (hc : cells ≤ R.cells ∧ slots ≤ R.slots) {x y : Int32} (hdg : decode cc pc = .ok (.invokestatic idx, 3))
    (kk : W p l e R s m args below meth c H locs cells slots Q (F0 m (pc + 3) ls (.int (if x < y then y else x) :: rest))) : W p l e R s m args below meth c H locs cells slots Q (F0 m pc ls (.int y :: .int x :: rest)) :=
  va_mmax X.1 X.2.1 (hml.trans hls.symm) X.2.2.1 (X.2.2.2.1 _ hl) (X.2.2.2.1 _ km_1) (X.2.2.2.1 _ k_15) (X.2.2.2.1 _ km_2) hR.1 (by omega) hc.1 hc.2 hdg kk
theorem q_min {nL idx : Nat} (X : Cx p s m args c cc own D) (hml : c.maxLocals = nL) (hls : ls.size = nL) (hl : Cond.methodLink own idx Lib.Math.min.name ∈ AL) (hW : (rest.map fun v => v.category).sum ≤ 8) (hR : 1 ≤ R.frames ∧ 21 ≤ R.locals) (hc : cells ≤ R.cells ∧ slots ≤ R.slots) {x y : Int32} (hdg : decode cc pc = .ok (.invokestatic idx, 3))
    (kk : W p l e R s m args below meth c H locs cells slots Q (F0 m (pc + 3) ls (.int (if y < x then y else x) :: rest))) : W p l e R s m args below meth c H locs cells slots Q (F0 m pc ls (.int y :: .int x :: rest)) :=
  va_mmin X.1 X.2.1 (hml.trans hls.symm) X.2.2.1 (X.2.2.2.1 _ hl) (X.2.2.2.1 _ km_3) (X.2.2.2.1 _ k_15) (X.2.2.2.1 _ km_4) hR.1 (by omega) hc.1 hc.2 hdg kk
theorem q_top2 {x : Int32} {v : Value} (k : ∀ y : Int32, y = x → W p l e R s m args below meth c H locs cells slots Q (F0 m pc ls (v :: .int y :: rest))) : W p l e R s m args below meth c H locs cells slots Q (F0 m pc ls (v :: .int x :: rest)) := k x rfl
end CB
end
section
def f_X0_hasCell (t : Nat) (a0 : Int32) (a1 : Int32) (w : Wd) : Option (Int32) := lt (if a0 < (1 : Int32) then (0 : Int32) else (if (w.1 t 0) < a0 then (0 : Int32) else (if a1 < (1 : Int32) then (0 : Int32) else (if (w.1 t 1) < a1 then (0 : Int32) else (1 : Int32))))) (fun x5 => zb x5 (some x5))
def f_X0_hasCorner (t : Nat) (a0 : Int32) (a1 : Int32) (w : Wd) : Option (Int32) := lt (if a0 < 0 then (0 : Int32) else (if (w.1 t 0) < a0 then (0 : Int32) else (if a1 < 0 then (0 : Int32) else (if (w.1 t 1) < a1 then (0 : Int32) else (1 : Int32))))) (fun x5 => zb x5 (some x5))
def f_X0_placeOf (a0 : Int32) (a1 : Int32) : Option (Int32) := some (((a0 - (1 : Int32)) * (5 : Int32)) + (a1 - (1 : Int32)))
def f_X0_numberAt (t : Nat) (a0 : Int32) (a1 : Int32) (w : Wd) : Option (Int32) := c1 (f_X0_hasCell t a0 a1 w) (fun v2 => (if v2 = 0 then some (0 : Int32) else rf 139 (w.2 t 3) 9 (fun t4 => c1 (f_X0_placeOf a0 a1) (fun v7 => ix v7 (ln t4) (fun j8 => lt (w.1 t4 j8) (fun x9 => some x9))))))
def f_X0_setNumber (t : Nat) (a0 : Int32) (a1 : Int32) (a2 : Int32) (w : Wd) : Option (Wd) := c1 (f_X0_hasCell t a0 a1 w) (fun v2 => (if v2 = 0 then some w else rf 139 (w.2 t 3) 9 (fun t4 => c1 (f_X0_placeOf a0 a1) (fun v7 => ix v7 (ln t4) (fun j8 => lt (upI w t4 j8 a2) (fun w9 => some w9))))))
def f_X0_worthAt (t : Nat) (a0 : Int32) (a1 : Int32) (w : Wd) : Option (Int32) := c1 (f_X0_numberAt t a0 a1 w) (fun v2 => lt (if (w.1 t 2) = (1 : Int32) then (if (1 : Int32) < v2 then (1 : Int32) else v2) else (if (w.1 t 2) = (2 : Int32) then (if (1 : Int32) < v2 then (1 : Int32) else v2) else v2)) (fun x5 => some x5))
def f_X0_clearTo (t : Nat) (a0 : Int32) (a1 : Int32) (w : Wd) : Option (Wd) := lt (upI w t 0 a0) (fun w1 => lt (upI w1 t 1 a1) (fun w2 => wl2 (fun (x3 : Int32) (w4 : Wd) k5 => rf 139 (w4.2 t 3) 9 (fun t7 => (if (Int32.ofNat (ln t7)) ≤ x3 then some w4 else rf 139 (w4.2 t 3) 9 (fun t10 => ix x3 (ln t10) (fun j12 => lt (upI w4 t10 j12 (0 : Int32)) (fun w13 => lt (x3 + (1 : Int32)) (fun x14 => k5 x14 w13))))))) fu (0 : Int32) w2))
def f_X0_copyFrom (t : Nat) (a0 : Nat) (w : Wd) : Option (Wd) := lt (upI w t 0 (w.1 a0 0)) (fun w1 => lt (upI w1 t 1 (w1.1 a0 1)) (fun w2 => lt (upI w2 t 2 (w2.1 a0 2)) (fun w3 => wl2 (fun (x4 : Int32) (w5 : Wd) k6 => rf 139 (w5.2 t 3) 9 (fun t8 => (if (Int32.ofNat (ln t8)) ≤ x4 then some w5 else rf 139 (w5.2 t 3) 9 (fun t11 => rf 139 (w5.2 a0 3) 9 (fun t13 => ix x4 (ln t13) (fun j15 => ix x4 (ln t11) (fun j16 => lt (upI w5 t11 j16 (w5.1 t13 j15)) (fun w17 => lt (x4 + (1 : Int32)) (fun x18 => k6 x18 w17))))))))) fu (0 : Int32) w3)))
def f_X0_filled (t : Nat) (w : Wd) : Option (Int32) := wl2 (fun (x1 : Int32) (x2 : Int32) k3 => rf 139 (w.2 t 3) 9 (fun t5 => (if (Int32.ofNat (ln t5)) ≤ x2 then some x1 else rf 139 (w.2 t 3) 9 (fun t8 => ix x2 (ln t8) (fun j10 => lt (if (w.1 t8 j10) ≤ 0 then (0 : Int32) else (1 : Int32)) (fun x12 => lt (x1 + x12) (fun x13 => lt (x2 + (1 : Int32)) (fun x15 => k3 x13 x15)))))))) fu (0 : Int32) (0 : Int32)
def f_X0_total (t : Nat) (w : Wd) : Option (Int32) := wl2 (fun (x1 : Int32) (x2 : Int32) k3 => rf 139 (w.2 t 3) 9 (fun t5 => (if (Int32.ofNat (ln t5)) ≤ x2 then some x1 else rf 139 (w.2 t 3) 9 (fun t8 => ix x2 (ln t8) (fun j10 => lt (x1 + (w.1 t8 j10)) (fun x11 => lt (x2 + (1 : Int32)) (fun x13 => k3 x11 x13))))))) fu (0 : Int32) (0 : Int32)
def f_X0_differing (t : Nat) (a0 : Nat) (w : Wd) : Option (Int32) := wl2 (fun (x1 : Int32) (x2 : Int32) k3 => rf 139 (w.2 t 3) 9 (fun t5 => (if (Int32.ofNat (ln t5)) ≤ x2 then some x1 else rf 139 (w.2 t 3) 9 (fun t8 => ix x2 (ln t8) (fun j10 => rf 139 (w.2 a0 3) 9 (fun t11 => ix x2 (ln t11) (fun j13 => lt (if (w.1 t8 j10) = (w.1 t11 j13) then (0 : Int32) else (1 : Int32)) (fun x15 => lt (x1 + x15) (fun x16 => lt (x2 + (1 : Int32)) (fun x18 => k3 x16 x18)))))))))) fu (0 : Int32) (0 : Int32)
def f_X0_spelling (t : Nat) (w : Wd) : Option (Int32) := wl2 (fun (x1 : Int32) (x2 : Int32) k3 => (if (w.1 t 0) < x2 then some x1 else wl2 (fun (x6 : Int32) (x7 : Int32) k8 => (if (w.1 t 1) < x7 then lt (((10 : Int32) * x1) + x6) (fun x11 => lt (x2 + (1 : Int32)) (fun x13 => k3 x11 x13)) else c1 (f_X0_numberAt t x2 x7 w) (fun v16 => (if (1 : Int32) < v16 then some (-2 : Int32) else jn (lt (if v16 = (1 : Int32) then x7 else x6) (fun x21 => lt (x7 + (1 : Int32)) (fun x22 => k8 x21 x22))) (fun j19 => (if v16 = (1 : Int32) then (if x6 ≤ 0 then j19 else some (-2 : Int32)) else j19)))))) fu (0 : Int32) (1 : Int32))) fu (0 : Int32) (1 : Int32)
def f_X1_at (t : Nat) (a0 : Int32) (a1 : Int32) (w : Wd) : Option (Nat) := jn (rf 139 (w.2 t 1) 5 (fun t3 => some t3)) (fun j2 => (if a0 < 0 then j2 else (if (5 : Int32) < a0 then j2 else (if a1 < 0 then j2 else (if a1 ≤ (5 : Int32) then rf 139 (w.2 t 0) 12 (fun t8 => ix ((a0 * (6 : Int32)) + a1) (ln t8) (fun j10 => rf 139 (w.2 t8 j10) 5 (fun t11 => some t11))) else j2)))))
def f_X5_makeEmpty (t : Nat) (w : Wd) : Option (Wd) := lt (upI w t 1 (0 : Int32)) (fun w1 => lt (upI w1 t 2 (0 : Int32)) (fun w2 => some w2))
def f_X5_partAt (t : Nat) (a0 : Int32) (w : Wd) : Option (Int32) := jn (some (0 : Int32)) (fun j2 => (if a0 < 0 then j2 else (if (w.1 t 1) ≤ a0 then j2 else rf 139 (w.2 t 0) 9 (fun t4 => ix a0 (ln t4) (fun j6 => lt (w.1 t4 j6) (fun x7 => some x7))))))
def f_X5_grownPart (a0 : Int32) (a1 : Int32) (a2 : Int32) (a3 : Int32) (a4 : Int32) : Option (Int32) := (if a0.toInt = 0 then lt (if a2 < a3 then a3 else a2) (fun x2 => some (x2 + a4)) else (if a0.toInt = 1 then lt (if (a2 + a4) < a3 then a3 else (a2 + a4)) (fun x5 => some x5) else (if a0.toInt = 2 then lt (if a2 < (a3 + a4) then (a3 + a4) else a2) (fun x8 => some x8) else lt (if a2 < a3 then a3 else a2) (fun x10 => lt (if a1 = a2 then (if a2 = a3 then (1 : Int32) else (0 : Int32)) else (0 : Int32)) (fun x14 => lt (if x14 < a4 then x14 else a4) (fun x15 => some (x10 + x15)))))))
def f_X5_growFrom (t : Nat) (a0 : Nat) (a1 : Nat) (a2 : Nat) (a3 : Int32) (a4 : Int32) (w : Wd) : Option (Wd) := c1 (f_X5_makeEmpty t w) (fun w2 => wl3 (fun (x3 : Int32) (x4 : Int32) (w5 : Wd) k6 => (if (75 : Int32) ≤ x4 then some w5 else c1 (f_X5_partAt a0 x4 w5) (fun v10 => c1 (f_X5_partAt a1 x4 w5) (fun v12 => c1 (f_X5_partAt a2 x4 w5) (fun v14 => c1 (f_X5_grownPart a4 v10 v12 v14 x3) (fun v16 => (if 0 < v16 then rf 139 (w5.2 t 0) 9 (fun t18 => ix x4 (ln t18) (fun j20 => lt (upI w5 t18 j20 v16) (fun w21 => lt (upI w21 t 1 (x4 + (1 : Int32))) (fun w22 => lt (upI w22 t 2 ((w22.1 t 2) + v16)) (fun w23 => lt (x3 + (((v12 + v14) - v10) - v16)) (fun x24 => lt (x4 + (1 : Int32)) (fun x26 => k6 x24 x26 w23))))))) else some w5))))))) fu a3 (0 : Int32) w2)
def f_X1_growOver (t : Nat) (a0 : Nat) (w : Wd) : Option (Wd) := lt (upI w t 2 (w.1 a0 0)) (fun w1 => lt (upI w1 t 3 (w1.1 a0 1)) (fun w2 => lt (upI w2 t 5 (0 : Int32)) (fun w3 => wl2 (fun (x4 : Int32) (w5 : Wd) k6 => (if (w5.1 t 2) < x4 then some w5 else wl2 (fun (x9 : Int32) (w10 : Wd) k11 => (if (w10.1 t 3) < x9 then lt (x4 + (1 : Int32)) (fun x14 => k6 x14 w10) else jn (fun (w17 : Wd) => lt (x9 + (1 : Int32)) (fun x19 => k11 x19 w17)) (fun j18 => jn (c1 (f_X1_at t x4 x9 w10) (fun v23 => ck 139 v23 5 (c1 (f_X5_makeEmpty v23 w10) (fun w26 => j18 w26)))) (fun j21 => (if x4 = 0 then j21 else (if x9 = 0 then j21 else c1 (f_X1_at t x4 x9 w10) (fun v29 => ck 139 v29 5 (c1 (f_X1_at t (x4 - (1 : Int32)) (x9 - (1 : Int32)) w10) (fun v32 => ck 139 v32 5 (c1 (f_X1_at t (x4 - (1 : Int32)) x9 w10) (fun v35 => ck 139 v35 5 (c1 (f_X1_at t x4 (x9 - (1 : Int32)) w10) (fun v38 => ck 139 v38 5 (c1 (f_X0_worthAt a0 x4 x9 w10) (fun v41 => c1 (f_X5_growFrom v29 v32 v35 v38 v41 (w10.1 a0 2) w10) (fun w43 => j18 w43)))))))))))))))) fu (0 : Int32) w5)) fu (0 : Int32) w3)))
def f_X5_formerPart (a0 : Int32) (a1 : Int32) (a2 : Int32) (a3 : Int32) (a4 : Int32) : Option (Int32) := (if a0.toInt = 0 then lt (if a3 < a2 then a3 else a2) (fun x2 => some (x2 - a4)) else (if a0.toInt = 1 then lt (if (a3 - a4) < a2 then (a3 - a4) else a2) (fun x5 => some x5) else (if a0.toInt = 2 then lt (if a3 < (a2 - a4) then a3 else (a2 - a4)) (fun x8 => some x8) else lt (if a3 < a2 then a3 else a2) (fun x10 => lt (if a1 = a2 then (if a2 = a3 then (1 : Int32) else (0 : Int32)) else (0 : Int32)) (fun x14 => lt (if x14 < a4 then x14 else a4) (fun x15 => some (x10 - x15)))))))
def f_X5_goBackFrom (t : Nat) (a0 : Nat) (a1 : Nat) (a2 : Nat) (a3 : Int32) (w : Wd) : Option (Int32 × Wd) := lt (upI w t 1 (w.1 a0 1)) (fun w1 => lt (upI w1 t 2 (0 : Int32)) (fun w2 => lt ((w2.1 a0 1) - (1 : Int32)) (fun x3 => wl3 (fun (x5 : Int32) (x6 : Int32) (w7 : Wd) k8 => (if x6 < 0 then some (x5, w7) else c1 (f_X5_partAt a0 x6 w7) (fun v12 => c1 (f_X5_partAt a1 x6 w7) (fun v14 => c1 (f_X5_partAt a2 x6 w7) (fun v16 => c1 (f_X5_formerPart a3 v12 v14 v16 x5) (fun v18 => rf 139 (w7.2 t 0) 9 (fun t19 => ix x6 (ln t19) (fun j21 => lt (upI w7 t19 j21 v18) (fun w22 => lt (upI w22 t 2 ((w22.1 t 2) + v18)) (fun w23 => jn (fun (w25 : Wd) => lt (x5 + (((v12 + v18) - v14) - v16)) (fun x27 => lt (x6 + (-1 : Int32)) (fun x29 => k8 x27 x29 w25))) (fun j26 => (if v18 = 0 then (if (w23.1 t 1) = (x6 + (1 : Int32)) then lt (upI w23 t 1 x6) (fun w32 => j26 w32) else j26 w23) else j26 w23)))))))))))) fu (0 : Int32) x3 w2)))
def f_X1_goBackInto (t : Nat) (a0 : Nat) (w : Wd) : Option (Int32 × Wd) := lt (w.1 t 2) (fun x1 => wl3 (fun (x3 : Int32) (x4 : Int32) (w5 : Wd) k6 => (if x4 < (1 : Int32) then some (x3, w5) else lt (w5.1 t 3) (fun x9 => wl3 (fun (x11 : Int32) (x12 : Int32) (w13 : Wd) k14 => (if x12 < (1 : Int32) then lt (x4 + (-1 : Int32)) (fun x17 => k6 x11 x17 w13) else c1 (f_X1_at t (x4 - (1 : Int32)) (x12 - (1 : Int32)) w13) (fun v20 => ck 139 v20 5 (c1 (f_X1_at t x4 x12 w13) (fun v23 => ck 139 v23 5 (c1 (f_X1_at t (x4 - (1 : Int32)) x12 w13) (fun v26 => ck 139 v26 5 (c1 (f_X1_at t x4 (x12 - (1 : Int32)) w13) (fun v29 => ck 139 v29 5 (c2 (f_X5_goBackFrom v20 v23 v26 v29 (w13.1 a0 2) w13) (fun v32 w33 => c1 (f_X0_setNumber a0 x4 x12 v32 w33) (fun w35 => lt (if x11 < v32 then v32 else x11) (fun x36 => lt (x12 + (-1 : Int32)) (fun x38 => k14 x36 x38 w35)))))))))))))) fu x3 x9 w5))) fu (0 : Int32) x1 w)
def f_X5_goesOnUpright (t : Nat) (a0 : Nat) (w : Wd) : Option (Int32) := lt (if (w.1 t 1) < (w.1 a0 1) then (w.1 a0 1) else (w.1 t 1)) (fun x1 => wl1 (fun (x3 : Int32) k4 => (if x1 ≤ x3 then some (1 : Int32) else c1 (f_X5_partAt t x3 w) (fun v8 => c1 (f_X5_partAt a0 x3 w) (fun v10 => lt (v8 - v10) (fun x11 => (if x11 < 0 then some (0 : Int32) else (if x11 ≤ (1 : Int32) then lt (x3 + (1 : Int32)) (fun x15 => k4 x15) else some (0 : Int32)))))))) fu (0 : Int32))
def f_X5_goesOnLevel (t : Nat) (a0 : Nat) (w : Wd) : Option (Int32) := lt (if (w.1 t 1) < (w.1 a0 1) then (w.1 a0 1) else (w.1 t 1)) (fun x1 => wl1 (fun (x3 : Int32) k4 => (if x1 ≤ x3 then some (1 : Int32) else c1 (f_X5_partAt a0 x3 w) (fun v8 => c1 (f_X5_partAt t x3 w) (fun v10 => (if v10 < v8 then some (0 : Int32) else c1 (f_X5_partAt t (x3 + (1 : Int32)) w) (fun v13 => (if v13 ≤ v8 then lt (x3 + (1 : Int32)) (fun x15 => k4 x15) else some (0 : Int32)))))))) fu (0 : Int32))
def f_X5_goesOnFrom (t : Nat) (a0 : Nat) (a1 : Int32) (w : Wd) : Option (Int32) := (if a1 = 0 then c1 (f_X5_goesOnLevel t a0 w) (fun v3 => zb v3 (some v3)) else c1 (f_X5_goesOnUpright t a0 w) (fun v5 => zb v5 (some v5)))
def f_X1_rimFits (t : Nat) (a0 : Int32) (w : Wd) : Option (Int32) := lt (if a0 = (1 : Int32) then (1 : Int32) else (if a0 = (3 : Int32) then (1 : Int32) else (0 : Int32))) (fun x3 => lt (if a0 = (2 : Int32) then (1 : Int32) else (if a0 = (3 : Int32) then (1 : Int32) else (0 : Int32))) (fun x6 => wl1 (fun (x7 : Int32) k8 => (if (w.1 t 2) < x7 then wl1 (fun (x11 : Int32) k12 => (if (w.1 t 3) < x11 then some (1 : Int32) else c1 (f_X1_at t (w.1 t 2) x11 w) (fun v16 => ck 139 v16 5 (c1 (f_X1_at t (w.1 t 2) (x11 - (1 : Int32)) w) (fun v19 => ck 139 v19 5 (c1 (f_X5_goesOnFrom v16 v19 x6 w) (fun v22 => (if v22 = 0 then some (0 : Int32) else lt (x11 + (1 : Int32)) (fun x24 => k12 x24))))))))) fu (1 : Int32) else c1 (f_X1_at t x7 (w.1 t 3) w) (fun v27 => ck 139 v27 5 (c1 (f_X1_at t (x7 - (1 : Int32)) (w.1 t 3) w) (fun v30 => ck 139 v30 5 (c1 (f_X5_goesOnFrom v27 v30 x3 w) (fun v33 => (if v33 = 0 then some (0 : Int32) else lt (x7 + (1 : Int32)) (fun x35 => k8 x35))))))))) fu (1 : Int32)))
def f_X2_undoable (t : Nat) (w : Wd) : Option (Int32) := some (w.1 t 1)
def f_X2_redoable (t : Nat) (w : Wd) : Option (Int32) := some ((w.1 t 2) - (w.1 t 1))
def f_X2_forgetAll (t : Nat) (w : Wd) : Option (Wd) := lt (upI w t 1 (0 : Int32)) (fun w1 => lt (upI w1 t 2 (0 : Int32)) (fun w2 => some w2))
def f_X2_forgetOldest (t : Nat) (w : Wd) : Option (Wd) := rf 139 (w.2 t 0) 10 (fun t1 => ix (0 : Int32) (ln t1) (fun j3 => rf 139 (w.2 t1 j3) 0 (fun t4 => wl2 (fun (x6 : Int32) (w7 : Wd) k8 => (if (8 : Int32) ≤ x6 then rf 139 (w7.2 t 0) 10 (fun t11 => ix (8 : Int32) (ln t11) (fun j13 => lt (upR w7 t11 j13 t4) (fun w14 => lt (upI w14 t 1 (7 : Int32)) (fun w15 => some w15)))) else rf 139 (w7.2 t 0) 10 (fun t16 => rf 139 (w7.2 t 0) 10 (fun t18 => ix (x6 + (1 : Int32)) (ln t18) (fun j20 => rf 139 (w7.2 t18 j20) 0 (fun t21 => ix x6 (ln t16) (fun j23 => lt (upR w7 t16 j23 t21) (fun w24 => lt (x6 + (1 : Int32)) (fun x25 => k8 x25 w24))))))))) fu (0 : Int32) w)))
def f_X2_remember (t : Nat) (a0 : Nat) (w : Wd) : Option (Wd) := jn (fun (w2 : Wd) => rf 139 (w2.2 t 0) 10 (fun t4 => ix (w2.1 t 1) (ln t4) (fun j6 => rf 139 (w2.2 t4 j6) 0 (fun t7 => c1 (f_X0_copyFrom t7 a0 w2) (fun w10 => lt (upI w10 t 1 ((w10.1 t 1) + (1 : Int32))) (fun w11 => lt (upI w11 t 2 (w11.1 t 1)) (fun w12 => some w12))))))) (fun j3 => (if (w.1 t 1) < (8 : Int32) then j3 w else c1 (f_X2_forgetOldest t w) (fun w14 => j3 w14)))
def f_X2_stepBack (t : Nat) (a0 : Nat) (w : Wd) : Option (Wd) := (if (w.1 t 1) ≤ 0 then some w else rf 139 (w.2 t 0) 10 (fun t2 => ix (w.1 t 1) (ln t2) (fun j4 => rf 139 (w.2 t2 j4) 0 (fun t5 => c1 (f_X0_copyFrom t5 a0 w) (fun w8 => lt (upI w8 t 1 ((w8.1 t 1) - (1 : Int32))) (fun w9 => rf 139 (w9.2 t 0) 10 (fun t10 => ix (w9.1 t 1) (ln t10) (fun j12 => rf 139 (w9.2 t10 j12) 0 (fun t13 => c1 (f_X0_copyFrom a0 t13 w9) (fun w16 => some w16))))))))))
def f_X2_stepOn (t : Nat) (a0 : Nat) (w : Wd) : Option (Wd) := (if (w.1 t 2) ≤ (w.1 t 1) then some w else lt (upI w t 1 ((w.1 t 1) + (1 : Int32))) (fun w2 => rf 139 (w2.2 t 0) 10 (fun t3 => ix (w2.1 t 1) (ln t3) (fun j5 => rf 139 (w2.2 t3 j5) 0 (fun t6 => c1 (f_X0_copyFrom a0 t6 w2) (fun w9 => some w9))))))
def f_X4_bestRow (t : Nat) (a0 : Nat) (a1 : Int32) (a2 : Int32) (w : Wd) : Option (Int32 × Wd) := lt (if a1 = (1 : Int32) then (1 : Int32) else (if a1 = (3 : Int32) then (1 : Int32) else (0 : Int32))) (fun x3 => lt (if a1 < (2 : Int32) then (0 : Int32) else (1 : Int32)) (fun x5 => wl2 (fun (x6 : Int32) (w7 : Wd) k8 => (if (w7.1 a0 0) < x6 then rf 139 (w7.2 t 0) 13 (fun t11 => ix (w7.1 a0 0) (ln t11) (fun j13 => rf 139 (w7.2 t11 j13) 9 (fun t14 => ix (w7.1 a0 1) (ln t14) (fun j16 => some ((w7.1 t14 j16), w7))))) else wl2 (fun (x17 : Int32) (w18 : Wd) k19 => (if (w18.1 a0 1) < x17 then lt (x6 + (1 : Int32)) (fun x22 => k8 x22 w18) else lt (if x5 = 0 then x17 else (((w18.1 a0 1) + (1 : Int32)) - x17)) (fun x25 => c1 (f_X0_numberAt a0 x6 x25 w18) (fun v27 => lt (if a2 = 0 then v27 else (if (1 : Int32) < v27 then (1 : Int32) else v27)) (fun x29 => rf 139 (w18.2 t 0) 13 (fun t30 => ix (x6 - (1 : Int32)) (ln t30) (fun j32 => rf 139 (w18.2 t30 j32) 9 (fun t33 => ix x17 (ln t33) (fun j35 => rf 139 (w18.2 t 0) 13 (fun t36 => ix x6 (ln t36) (fun j38 => rf 139 (w18.2 t36 j38) 9 (fun t39 => ix (x17 - (1 : Int32)) (ln t39) (fun j41 => lt (if (w18.1 t33 j35) < (w18.1 t39 j41) then (w18.1 t39 j41) else (w18.1 t33 j35)) (fun x42 => rf 139 (w18.2 t 0) 13 (fun t44 => ix x6 (ln t44) (fun j46 => rf 139 (w18.2 t44 j46) 9 (fun t47 => jn (fun (x50 : Int32) => ix x17 (ln t47) (fun j52 => lt (upI w18 t47 j52 x50) (fun w53 => lt (x17 + (1 : Int32)) (fun x54 => k19 x54 w53)))) (fun j51 => (if x3 = 0 then lt (x42 + x29) (fun x56 => j51 x56) else rf 139 (w18.2 t 0) 13 (fun t58 => ix (x6 - (1 : Int32)) (ln t58) (fun j60 => rf 139 (w18.2 t58 j60) 9 (fun t61 => ix (x17 - (1 : Int32)) (ln t61) (fun j63 => lt (if x42 < ((w18.1 t61 j63) + x29) then ((w18.1 t61 j63) + x29) else x42) (fun x64 => j51 x64)))))))))))))))))))))))) fu (1 : Int32) w7)) fu (1 : Int32) w))
def f_X5_partsAbove (t : Nat) (a0 : Int32) (w : Wd) : Option (Int32) := wl2 (fun (x1 : Int32) (x2 : Int32) k3 => (if (w.1 t 1) ≤ x2 then some x1 else rf 139 (w.2 t 0) 9 (fun t6 => ix x2 (ln t6) (fun j8 => lt (if (w.1 t6 j8) ≤ a0 then (0 : Int32) else (1 : Int32)) (fun x10 => lt (x1 + x10) (fun x11 => lt (x2 + (1 : Int32)) (fun x13 => k3 x11 x13))))))) fu (0 : Int32) (0 : Int32)
def f_X5_standardFillings (t : Nat) (w : Wd) : Option (Int64) := wl2 (fun (x1 : Int64) (x2 : Int32) k3 => (if (w.1 t 2) < x2 then wl2 (fun (x6 : Int64) (x7 : Int32) k8 => (if (w.1 t 1) ≤ x7 then (if (lg_cmp x6 (0 : Int64)) ≤ 0 then some (-9223372036854775808 : Int64) else nzl x6 (some (x1 / x6))) else wl2 (fun (x12 : Int64) (x13 : Int32) k14 => rf 139 (w.2 t 0) 9 (fun t16 => ix x7 (ln t16) (fun j18 => (if (w.1 t16 j18) ≤ x13 then lt (x7 + (1 : Int32)) (fun x20 => k8 x12 x20) else rf 139 (w.2 t 0) 9 (fun t22 => ix x7 (ln t22) (fun j24 => c1 (f_X5_partsAbove t x13 w) (fun v26 => lt (x12 * (((((w.1 t22 j24) - x13) + v26) - x7) - (1 : Int32)).toInt64) (fun x27 => lt (x13 + (1 : Int32)) (fun x29 => k14 x27 x29))))))))) fu x6 (0 : Int32))) fu (1 : Int64) (0 : Int32) else lt (x1 * x2.toInt64) (fun x31 => lt (x2 + (1 : Int32)) (fun x33 => k3 x31 x33)))) fu (1 : Int64) (2 : Int32)
def f_X5_productOrWide (t : Nat) (w : Wd) : Option (Int32) := wl2 (fun (x1 : Int64) (x2 : Int32) k3 => (if (w.1 t 1) ≤ x2 then some x1.toInt32 else rf 139 (w.2 t 0) 9 (fun t6 => ix x2 (ln t6) (fun j8 => lt (x1 * ((w.1 t6 j8) + (1 : Int32)).toInt64) (fun x9 => (if (lg_cmp x9 (2147483647 : Int64)) ≤ 0 then lt (x2 + (1 : Int32)) (fun x12 => k3 x9 x12) else some (-6 : Int32))))))) fu (1 : Int64) (0 : Int32)
def f_X7_isSide (a0 : Int32) : Option (Int32) := lt (if a0 < (1 : Int32) then (0 : Int32) else (if (5 : Int32) < a0 then (0 : Int32) else (1 : Int32))) (fun x3 => zb x3 (some x3))
def f_X7_beginDeed (t : Nat) (w : Wd) : Option (Wd) := rf 139 (w.2 t 7) 2 (fun t1 => rf 139 (w.2 t 0) 0 (fun t3 => c1 (f_X2_remember t1 t3 w) (fun w6 => lt (upI w6 t 5 (0 : Int32)) (fun w7 => some w7))))
def f_X7_grid (t : Nat) (a0 : Int32) (a1 : Int32) (w : Wd) : Option (Int32 × Wd) := c1 (f_X7_isSide a0) (fun v2 => (if v2 = 0 then some ((-1 : Int32), w) else c1 (f_X7_isSide a1) (fun v5 => (if v5 = 0 then some ((-1 : Int32), w) else rf 139 (w.2 t 0) 0 (fun t7 => rf 139 (w.2 t 0) 0 (fun t9 => lt (((10 : Int32) * (w.1 t7 0)) + (w.1 t9 1)) (fun x11 => c1 (f_X7_beginDeed t w) (fun w14 => rf 139 (w14.2 t 0) 0 (fun t15 => c1 (f_X0_clearTo t15 a0 a1 w14) (fun w18 => some (x11, w18)))))))))))
def f_X7_isNumber (a0 : Int32) : Option (Int32) := lt (if a0 < 0 then (0 : Int32) else (if (3 : Int32) < a0 then (0 : Int32) else (1 : Int32))) (fun x3 => zb x3 (some x3))
def f_X7_put (t : Nat) (a0 : Int32) (a1 : Int32) (a2 : Int32) (w : Wd) : Option (Int32 × Wd) := rf 139 (w.2 t 0) 0 (fun t1 => c1 (f_X0_hasCell t1 a0 a1 w) (fun v4 => (if v4 = 0 then some ((-1 : Int32), w) else c1 (f_X7_isNumber a2) (fun v7 => (if v7 = 0 then some ((-1 : Int32), w) else rf 139 (w.2 t 0) 0 (fun t9 => c1 (f_X0_numberAt t9 a0 a1 w) (fun v12 => c1 (f_X7_beginDeed t w) (fun w14 => rf 139 (w14.2 t 0) 0 (fun t15 => c1 (f_X0_setNumber t15 a0 a1 a2 w14) (fun w18 => some (v12, w18)))))))))))
def f_X7_cell (t : Nat) (a0 : Int32) (a1 : Int32) (w : Wd) : Option (Int32) := rf 139 (w.2 t 0) 0 (fun t1 => c1 (f_X0_hasCell t1 a0 a1 w) (fun v4 => (if v4 = 0 then some (-1 : Int32) else rf 139 (w.2 t 0) 0 (fun t6 => c1 (f_X0_numberAt t6 a0 a1 w) (fun v9 => some v9)))))
def f_X7_isRule (a0 : Int32) : Option (Int32) := lt (if a0 < 0 then (0 : Int32) else (if (4 : Int32) ≤ a0 then (0 : Int32) else (1 : Int32))) (fun x3 => zb x3 (some x3))
def f_X7_rule (t : Nat) (a0 : Int32) (w : Wd) : Option (Int32 × Wd) := c1 (f_X7_isRule a0) (fun v2 => (if v2 = 0 then some ((-1 : Int32), w) else rf 139 (w.2 t 0) 0 (fun t4 => lt (w.1 t4 2) (fun x6 => c1 (f_X7_beginDeed t w) (fun w9 => rf 139 (w9.2 t 0) 0 (fun t10 => lt (upI w9 t10 2 a0) (fun w12 => some (x6, w12))))))))
def f_X7_spelled (t : Nat) (w : Wd) : Option (Int32) := rf 139 (w.2 t 0) 0 (fun t1 => c1 (f_X0_spelling t1 w) (fun v4 => some v4))
def f_X7_isPlace (a0 : Int32) : Option (Int32) := lt (if a0 < 0 then (0 : Int32) else (if (100 : Int32) ≤ a0 then (0 : Int32) else (1 : Int32))) (fun x3 => zb x3 (some x3))
def f_X7_grownCorners (t : Nat) (w : Wd) : Option (Nat × Wd) := jn (fun (w2 : Wd) => rf 139 (w2.2 t 4) 1 (fun t4 => some (t4, w2))) (fun j3 => (if (w.1 t 5) = 0 then rf 139 (w.2 t 4) 1 (fun t6 => rf 139 (w.2 t 0) 0 (fun t8 => c1 (f_X1_growOver t6 t8 w) (fun w11 => lt (upI w11 t 5 (1 : Int32)) (fun w12 => j3 w12)))) else j3 w))
def f_X7_shapeAt (t : Nat) (a0 : Int32) (a1 : Int32) (w : Wd) : Option (Nat × Wd) := c2 (f_X7_grownCorners t w) (fun v2 w3 => ck 139 v2 1 (c1 (f_X1_at v2 a0 a1 w3) (fun v6 => ck 139 v6 5 (some (v6, w3)))))
def f_X7_part (t : Nat) (a0 : Int32) (a1 : Int32) (a2 : Int32) (w : Wd) : Option (Int32 × Wd) := rf 139 (w.2 t 0) 0 (fun t1 => c1 (f_X0_hasCorner t1 a0 a1 w) (fun v4 => (if v4 = 0 then some ((-1 : Int32), w) else c1 (f_X7_isPlace a2) (fun v7 => (if v7 = 0 then some ((-1 : Int32), w) else c2 (f_X7_shapeAt t a0 a1 w) (fun v10 w11 => ck 139 v10 5 (c1 (f_X5_partAt v10 a2 w11) (fun v14 => some (v14, w11)))))))))
def f_X7_shape (t : Nat) (a0 : Int32) (a1 : Int32) (a2 : Int32) (w : Wd) : Option (Int32 × Wd) := rf 139 (w.2 t 0) 0 (fun t1 => c1 (f_X0_hasCorner t1 a0 a1 w) (fun v4 => (if v4 = 0 then some ((-1 : Int32), w) else (if a2 < 0 then some ((-1 : Int32), w) else (if a2 ≤ (1 : Int32) then c2 (f_X7_shapeAt t a0 a1 w) (fun v9 w10 => ck 139 v9 5 (lt (if a2 = 0 then (w10.1 v9 2) else (w10.1 v9 1)) (fun x13 => some (x13, w10)))) else some ((-1 : Int32), w))))))
def f_X7_turned (t : Nat) (a0 : Int32) (a1 : Int32) (a2 : Int32) (w : Wd) : Option (Int32 × Wd) := rf 139 (w.2 t 0) 0 (fun t1 => c1 (f_X0_hasCorner t1 a0 a1 w) (fun v4 => (if v4 = 0 then some ((-1 : Int32), w) else c1 (f_X7_isPlace a2) (fun v7 => (if v7 = 0 then some ((-1 : Int32), w) else c2 (f_X7_shapeAt t a0 a1 w) (fun v10 w11 => ck 139 v10 5 (c1 (f_X5_partsAbove v10 a2 w11) (fun v14 => some (v14, w11)))))))))
def f_X7_standard (t : Nat) (a0 : Int32) (a1 : Int32) (w : Wd) : Option (Int64 × Wd) := rf 139 (w.2 t 0) 0 (fun t1 => c1 (f_X0_hasCorner t1 a0 a1 w) (fun v4 => (if v4 = 0 then some ((-9223372036854775808 : Int64), w) else c2 (f_X7_shapeAt t a0 a1 w) (fun v7 w8 => ck 139 v7 5 ((if (w8.1 v7 2) ≤ (20 : Int32) then c1 (f_X5_standardFillings v7 w8) (fun v12 => some (v12, w8)) else some ((-9223372036854775808 : Int64), w8)))))))
def f_X7_product (t : Nat) (a0 : Int32) (a1 : Int32) (w : Wd) : Option (Int32 × Wd) := rf 139 (w.2 t 0) 0 (fun t1 => c1 (f_X0_hasCorner t1 a0 a1 w) (fun v4 => (if v4 = 0 then some ((-1 : Int32), w) else c2 (f_X7_shapeAt t a0 a1 w) (fun v7 w8 => ck 139 v7 5 (c1 (f_X5_productOrWide v7 w8) (fun v11 => some (v11, w8)))))))
def f_X7_fits (t : Nat) (a0 : Int32) (w : Wd) : Option (Int32 × Wd) := c1 (f_X7_isRule a0) (fun v2 => (if v2 = 0 then some ((-1 : Int32), w) else c2 (f_X7_grownCorners t w) (fun v5 w6 => ck 139 v5 1 (c1 (f_X1_rimFits v5 a0 w6) (fun v9 => lt (if v9 = 0 then (0 : Int32) else (1 : Int32)) (fun x11 => some (x11, w6)))))))
def f_X7_back (t : Nat) (a0 : Int32) (w : Wd) : Option (Int32 × Wd) := c1 (f_X7_isRule a0) (fun v2 => (if v2 = 0 then some ((-1 : Int32), w) else c2 (f_X7_grownCorners t w) (fun v5 w6 => ck 139 v5 1 (c1 (f_X1_rimFits v5 a0 w6) (fun v9 => (if v9 = 0 then some ((-5 : Int32), w6) else lt (upI w6 t 5 (0 : Int32)) (fun w11 => rf 139 (w11.2 t 1) 0 (fun t12 => rf 139 (w11.2 t 0) 0 (fun t14 => c1 (f_X0_copyFrom t12 t14 w11) (fun w17 => rf 139 (w17.2 t 1) 0 (fun t18 => lt (upI w17 t18 2 a0) (fun w20 => rf 139 (w20.2 t 4) 1 (fun t21 => rf 139 (w20.2 t 1) 0 (fun t23 => c2 (f_X1_goBackInto t21 t23 w20) (fun v26 w27 => (if v26 ≤ (3 : Int32) then rf 139 (w27.2 t 0) 0 (fun t29 => rf 139 (w27.2 t 1) 0 (fun t31 => c1 (f_X0_differing t29 t31 w27) (fun v34 => c1 (f_X7_beginDeed t w27) (fun w36 => rf 139 (w36.2 t 0) 0 (fun t37 => rf 139 (w36.2 t 1) 0 (fun t39 => c1 (f_X0_copyFrom t37 t39 w36) (fun w42 => some (v34, w42)))))))) else some ((-5 : Int32), w27)))))))))))))))))
def f_X7_longest (t : Nat) (a0 : Int32) (a1 : Int32) (w : Wd) : Option (Int32 × Wd) := (if a0 < 0 then some ((-1 : Int32), w) else (if (4 : Int32) ≤ a0 then some ((-1 : Int32), w) else (if a1 < 0 then some ((-1 : Int32), w) else (if a1 ≤ (1 : Int32) then rf 139 (w.2 t 6) 4 (fun t5 => rf 139 (w.2 t 0) 0 (fun t7 => lt (if a1 = (1 : Int32) then (1 : Int32) else (0 : Int32)) (fun x10 => c2 (f_X4_bestRow t5 t7 a0 x10 w) (fun v12 w13 => some (v12, w13))))) else some ((-1 : Int32), w)))))
def f_X7_undo (t : Nat) (w : Wd) : Option (Int32 × Wd) := rf 139 (w.2 t 7) 2 (fun t1 => c1 (f_X2_undoable t1 w) (fun v4 => (if v4 = 0 then some ((-5 : Int32), w) else rf 139 (w.2 t 7) 2 (fun t6 => rf 139 (w.2 t 0) 0 (fun t8 => c1 (f_X2_stepBack t6 t8 w) (fun w11 => lt (upI w11 t 5 (0 : Int32)) (fun w12 => rf 139 (w12.2 t 7) 2 (fun t13 => c1 (f_X2_undoable t13 w12) (fun v16 => some (v16, w12))))))))))
def f_X7_again (t : Nat) (w : Wd) : Option (Int32 × Wd) := rf 139 (w.2 t 7) 2 (fun t1 => c1 (f_X2_redoable t1 w) (fun v4 => (if v4 = 0 then some ((-5 : Int32), w) else rf 139 (w.2 t 7) 2 (fun t6 => rf 139 (w.2 t 0) 0 (fun t8 => c1 (f_X2_stepOn t6 t8 w) (fun w11 => lt (upI w11 t 5 (0 : Int32)) (fun w12 => rf 139 (w12.2 t 7) 2 (fun t13 => c1 (f_X2_redoable t13 w12) (fun v16 => some (v16, w12))))))))))
def f_X7_restore (t : Nat) (w : Wd) : Option (Int32 × Wd) := (if (w.1 t 3) = 0 then some ((-5 : Int32), w) else rf 139 (w.2 t 0) 0 (fun t2 => rf 139 (w.2 t 2) 0 (fun t4 => c1 (f_X0_copyFrom t2 t4 w) (fun w7 => lt (upI w7 t 5 (0 : Int32)) (fun w8 => rf 139 (w8.2 t 7) 2 (fun t9 => c1 (f_X2_forgetAll t9 w8) (fun w12 => rf 139 (w12.2 t 0) 0 (fun t13 => c1 (f_X0_filled t13 w12) (fun v16 => some (v16, w12))))))))))
def f_X7_count (t : Nat) (a0 : Int32) (w : Wd) : Option (Int32) := (if a0.toInt = 0 then rf 139 (w.2 t 0) 0 (fun t2 => some (w.1 t2 0)) else (if a0.toInt = 1 then rf 139 (w.2 t 0) 0 (fun t5 => some (w.1 t5 1)) else (if a0.toInt = 2 then rf 139 (w.2 t 0) 0 (fun t8 => some (w.1 t8 2)) else (if a0.toInt = 3 then rf 139 (w.2 t 7) 2 (fun t11 => c1 (f_X2_undoable t11 w) (fun v14 => some v14)) else (if a0.toInt = 4 then rf 139 (w.2 t 7) 2 (fun t16 => c1 (f_X2_redoable t16 w) (fun v19 => some v19)) else (if a0.toInt = 5 then rf 139 (w.2 t 8) 6 (fun t21 => some (w.1 t21 1)) else (if a0.toInt = 6 then rf 139 (w.2 t 0) 0 (fun t24 => c1 (f_X0_total t24 w) (fun v27 => some v27)) else some (-1 : Int32))))))))
def f_L_cell (L : Nat) (xs : Nat → Int32) (a1 : Int32) (w : Wd) : Option (Int32) := (if (Int32.ofNat L) ≤ a1 then lt (((7919 : Int32) * a1) + (12 : Int32)) (fun x2 => some x2) else ix a1 L (fun j4 => lt (xs j4) (fun x5 => some x5)))
def f_L_some (L : Nat) (xs : Nat → Int32) (a1 : Int32) (a2 : Int32) (w : Wd) : Option (Int32) := c1 (f_L_cell L xs a1 w) (fun v2 => nz a2 (some ((v2.toUInt32 >>> ((3 : Int32).toUInt32 &&& Int32.toUInt32 31)).toInt32 - (v2.toUInt32 >>> ((3 : Int32).toUInt32 &&& Int32.toUInt32 31)).toInt32 / a2 * a2)))
def f_L_setUp (L : Nat) (xs : Nat → Int32) (a0 : Nat) (a2 : Int32) (w : Wd) : Option (Wd) := c1 (f_L_some L xs a2 (5 : Int32) w) (fun v2 => lt ((1 : Int32) + v2) (fun x3 => c1 (f_L_some L xs (a2 + (1 : Int32)) (5 : Int32) w) (fun v6 => lt ((1 : Int32) + v6) (fun x7 => c2 (f_X7_grid a0 x3 x7 w) (fun v10 w11 => wl2 (fun (x12 : Int32) (w13 : Wd) k14 => (if x3 < x12 then c1 (f_L_some L xs (a2 + (2 : Int32)) (4 : Int32) w13) (fun v18 => c2 (f_X7_rule a0 v18 w13) (fun v20 w21 => some w21)) else wl2 (fun (x22 : Int32) (w23 : Wd) k24 => (if x7 < x22 then lt (x12 + (1 : Int32)) (fun x27 => k14 x27 w23) else c1 (f_L_some L xs ((a2 + ((5 : Int32) * x12)) + x22) (3 : Int32) w23) (fun v30 => jn (fun (w32 : Wd) => lt (x22 + (1 : Int32)) (fun x34 => k24 x34 w32)) (fun j33 => (if v30 = 0 then c1 (f_L_some L xs (((a2 + (30 : Int32)) + ((5 : Int32) * x12)) + x22) (4 : Int32) w23) (fun v37 => c2 (f_X7_put a0 x12 x22 v37 w23) (fun v39 w40 => j33 w40)) else j33 w23))))) fu (1 : Int32) w13)) fu (1 : Int32) w11)))))
end
section
set_option maxHeartbeats 4000000 in
set_option maxRecDepth 100000 in
theorem m_X0_hasCell (l : Launch) (B : Nat) (D : DD) {n : Nat} (hN : 139 ≤ n) {t : Nat} {a0 : Int32} {a1 : Int32} {w : Wd} {r : Int32} (ht : t < n ∧ kd t = 0) (hf : f_X0_hasCell t a0 a1 w = some r) : Ct l yX0_hasCell cX0_hasCell 3 (some .boolean) 0 0 0 0 B D [.ref (B + t), .int a0, .int a1] n w (some (.int r)) n w := by
  refine m_of (by decide) (Nat.le_of_ble_eq_true rfl) (fun p e s m args below meth c X hml hr hlk _ H locs hh ls hl => ?_)
  have hx := X.1
  have hb := X.2.1
  have hl : lv_has ls 3 [(0, .ref (B + t)), (1, .int a0), (2, .int a1)] := hl
  unfold f_X0_hasCell at hf
  refine lv_iload_n hx hb dX0_hasCell_0 rfl (lv_at hl 1 rfl) ?_
  refine lv_iconst (v := (1 : Int32)) hx hb dX0_hasCell_1 (by decide) ?_
  refine mg_W (P := fun (x5 : Int32) => ∀ (ls : Array Slot), lv_has ls 3 [] → W p l e (rmk 0 0 0 0) s m args below meth c H locs 0 0 (MZ below B D n w (some (.int r)) args s 0 0) (F0 m 31 ls [.int x5])) hf (fun x5 hf ls hl => ?_) (fun hj6 => ?_)
  · have hz := zb_e hf
    have hf := hz.2
    exact e_z X hr hlk hh hz.1 ⟨so_e hf, rfl⟩ dX0_hasCell_31
  · refine lv_icmp_lt (tgt := 30) hx hb dX0_hasCell_2 (by decide) (fun hc1 => ?_) (fun hc1 => ?_)
    · refine lv_iconst (v := (0 : Int32)) hx hb dX0_hasCell_30 (by decide) ?_
      exact hj6 _ (by rw [if_pos hc1]) ls (lv_sub hl [] rfl)
    · refine lv_iload_n hx hb dX0_hasCell_5 rfl (lv_at hl 1 rfl) ?_
      refine lv_aload_n hx hb dX0_hasCell_6 rfl (lv_at hl 0 rfl) ?_
      refine r_gi X hh ht fk_X0_9 dX0_hasCell_7 ?_
      refine lv_icmp_gt (tgt := 30) hx hb dX0_hasCell_10 (by decide) (fun hc2 => ?_) (fun hc2 => ?_)
      · refine lv_iconst (v := (0 : Int32)) hx hb dX0_hasCell_30 (by decide) ?_
        exact hj6 _ (by rw [if_neg hc1, if_pos hc2]) ls (lv_sub hl [] rfl)
      · refine lv_iload_n hx hb dX0_hasCell_13 rfl (lv_at hl 2 rfl) ?_
        refine lv_iconst (v := (1 : Int32)) hx hb dX0_hasCell_14 (by decide) ?_
        refine lv_icmp_lt (tgt := 30) hx hb dX0_hasCell_15 (by decide) (fun hc3 => ?_) (fun hc3 => ?_)
        · refine lv_iconst (v := (0 : Int32)) hx hb dX0_hasCell_30 (by decide) ?_
          exact hj6 _ (by rw [if_neg hc1, if_neg hc2, if_pos hc3]) ls (lv_sub hl [] rfl)
        · refine lv_iload_n hx hb dX0_hasCell_18 rfl (lv_at hl 2 rfl) ?_
          refine lv_aload_n hx hb dX0_hasCell_19 rfl (lv_at hl 0 rfl) ?_
          refine r_gi X hh ht fk_X0_15 dX0_hasCell_20 ?_
          refine lv_icmp_gt (tgt := 30) hx hb dX0_hasCell_23 (by decide) (fun hc4 => ?_) (fun hc4 => ?_)
          · refine lv_iconst (v := (0 : Int32)) hx hb dX0_hasCell_30 (by decide) ?_
            exact hj6 _ (by rw [if_neg hc1, if_neg hc2, if_neg hc3, if_pos hc4]) ls (lv_sub hl [] rfl)
          · refine lv_iconst (v := (1 : Int32)) hx hb dX0_hasCell_26 (by decide) ?_
            refine lv_goto (tgt := 31) hx hb dX0_hasCell_27 (by decide) ?_
            exact hj6 _ (by rw [if_neg hc1, if_neg hc2, if_neg hc3, if_neg hc4]) ls (lv_sub hl [] rfl)
set_option maxHeartbeats 4000000 in
set_option maxRecDepth 100000 in
theorem m_X0_hasCorner (l : Launch) (B : Nat) (D : DD) {n : Nat} (hN : 139 ≤ n) {t : Nat} {a0 : Int32} {a1 : Int32} {w : Wd} {r : Int32} (ht : t < n ∧ kd t = 0) (hf : f_X0_hasCorner t a0 a1 w = some r) : Ct l yX0_hasCorner cX0_hasCorner 3 (some .boolean) 0 0 0 0 B D [.ref (B + t), .int a0, .int a1] n w (some (.int r)) n w := by
  refine m_of (by decide) (Nat.le_of_ble_eq_true rfl) (fun p e s m args below meth c X hml hr hlk _ H locs hh ls hl => ?_)
  have hx := X.1
  have hb := X.2.1
  have hl : lv_has ls 3 [(0, .ref (B + t)), (1, .int a0), (2, .int a1)] := hl
  unfold f_X0_hasCorner at hf
  refine lv_iload_n hx hb dX0_hasCorner_0 rfl (lv_at hl 1 rfl) ?_
  refine mg_W (P := fun (x5 : Int32) => ∀ (ls : Array Slot), lv_has ls 3 [] → W p l e (rmk 0 0 0 0) s m args below meth c H locs 0 0 (MZ below B D n w (some (.int r)) args s 0 0) (F0 m 29 ls [.int x5])) hf (fun x5 hf ls hl => ?_) (fun hj6 => ?_)
  · have hz := zb_e hf
    have hf := hz.2
    exact e_z X hr hlk hh hz.1 ⟨so_e hf, rfl⟩ dX0_hasCorner_29
  · refine lv_if_lt (tgt := 28) hx hb dX0_hasCorner_1 (by decide) (fun hc1 => ?_) (fun hc1 => ?_)
    · refine lv_iconst (v := (0 : Int32)) hx hb dX0_hasCorner_28 (by decide) ?_
      exact hj6 _ (by rw [if_pos hc1]) ls (lv_sub hl [] rfl)
    · refine lv_iload_n hx hb dX0_hasCorner_4 rfl (lv_at hl 1 rfl) ?_
      refine lv_aload_n hx hb dX0_hasCorner_5 rfl (lv_at hl 0 rfl) ?_
      refine r_gi X hh ht fk_X0_9 dX0_hasCorner_6 ?_
      refine lv_icmp_gt (tgt := 28) hx hb dX0_hasCorner_9 (by decide) (fun hc2 => ?_) (fun hc2 => ?_)
      · refine lv_iconst (v := (0 : Int32)) hx hb dX0_hasCorner_28 (by decide) ?_
        exact hj6 _ (by rw [if_neg hc1, if_pos hc2]) ls (lv_sub hl [] rfl)
      · refine lv_iload_n hx hb dX0_hasCorner_12 rfl (lv_at hl 2 rfl) ?_
        refine lv_if_lt (tgt := 28) hx hb dX0_hasCorner_13 (by decide) (fun hc3 => ?_) (fun hc3 => ?_)
        · refine lv_iconst (v := (0 : Int32)) hx hb dX0_hasCorner_28 (by decide) ?_
          exact hj6 _ (by rw [if_neg hc1, if_neg hc2, if_pos hc3]) ls (lv_sub hl [] rfl)
        · refine lv_iload_n hx hb dX0_hasCorner_16 rfl (lv_at hl 2 rfl) ?_
          refine lv_aload_n hx hb dX0_hasCorner_17 rfl (lv_at hl 0 rfl) ?_
          refine r_gi X hh ht fk_X0_15 dX0_hasCorner_18 ?_
          refine lv_icmp_gt (tgt := 28) hx hb dX0_hasCorner_21 (by decide) (fun hc4 => ?_) (fun hc4 => ?_)
          · refine lv_iconst (v := (0 : Int32)) hx hb dX0_hasCorner_28 (by decide) ?_
            exact hj6 _ (by rw [if_neg hc1, if_neg hc2, if_neg hc3, if_pos hc4]) ls (lv_sub hl [] rfl)
          · refine lv_iconst (v := (1 : Int32)) hx hb dX0_hasCorner_24 (by decide) ?_
            refine lv_goto (tgt := 29) hx hb dX0_hasCorner_25 (by decide) ?_
            exact hj6 _ (by rw [if_neg hc1, if_neg hc2, if_neg hc3, if_neg hc4]) ls (lv_sub hl [] rfl)
set_option maxHeartbeats 4000000 in
set_option maxRecDepth 100000 in
theorem m_X0_placeOf (l : Launch) (B : Nat) (D : DD) {n : Nat} (hN : 139 ≤ n) {a0 : Int32} {a1 : Int32} {w : Wd} {r : Int32} (hf : f_X0_placeOf a0 a1 = some r) : Ct l yX0_placeOf cX0_placeOf 2 (some .int) 0 0 0 0 B D [.int a0, .int a1] n w (some (.int r)) n w := by
  refine m_of (by decide) (Nat.le_of_ble_eq_true rfl) (fun p e s m args below meth c X hml hr hlk _ H locs hh ls hl => ?_)
  have hx := X.1
  have hb := X.2.1
  have hl : lv_has ls 2 [(0, .int a0), (1, .int a1)] := hl
  unfold f_X0_placeOf at hf
  refine lv_iload_n hx hb dX0_placeOf_0 rfl (lv_at hl 0 rfl) ?_
  refine lv_iconst (v := (1 : Int32)) hx hb dX0_placeOf_1 (by decide) ?_
  refine lv_isub hx hb dX0_placeOf_2 ?_
  refine lv_iconst (v := (5 : Int32)) hx hb dX0_placeOf_3 (by decide) ?_
  refine lv_imul hx hb dX0_placeOf_4 ?_
  refine lv_iload_n hx hb dX0_placeOf_5 rfl (lv_at hl 1 rfl) ?_
  refine lv_iconst (v := (1 : Int32)) hx hb dX0_placeOf_6 (by decide) ?_
  refine lv_isub hx hb dX0_placeOf_7 ?_
  refine lv_iadd hx hb dX0_placeOf_8 ?_
  exact e_i X hr hlk hh ⟨so_e hf, rfl⟩ dX0_placeOf_9
set_option maxHeartbeats 4000000 in
set_option maxRecDepth 100000 in
theorem m_X0_numberAt (l : Launch) (B : Nat) (D : DD) {n : Nat} (hN : 139 ≤ n) {t : Nat} {a0 : Int32} {a1 : Int32} {w : Wd} {r : Int32} (ht : t < n ∧ kd t = 0) (hf : f_X0_numberAt t a0 a1 w = some r) : Ct l yX0_numberAt cX0_numberAt 3 (some .int) 1 22 0 0 B D [.ref (B + t), .int a0, .int a1] n w (some (.int r)) n w := by
  refine m_of (by decide) (Nat.le_of_ble_eq_true rfl) (fun p e s m args below meth c X hml hr hlk _ H locs hh ls hl => ?_)
  have hx := X.1
  have hb := X.2.1
  have hl : lv_has ls 3 [(0, .ref (B + t)), (1, .int a0), (2, .int a1)] := hl
  unfold f_X0_numberAt at hf
  refine lv_aload_n hx hb dX0_numberAt_0 rfl (lv_at hl 0 rfl) ?_
  refine lv_iload_n hx hb dX0_numberAt_1 rfl (lv_at hl 1 rfl) ?_
  refine lv_iload_n hx hb dX0_numberAt_2 rfl (lv_at hl 2 rfl) ?_
  obtain ⟨v2, hc1, hf⟩ := c1_e hf
  refine q_V (w' := w) (rest := []) X hml hh (some (.int v2)) (m_X0_hasCell l B D hN ht hc1) cf_X0_hasCell k_206 ht ci_0 rfl rfl hl.1 rfl (Nat.le_of_ble_eq_true rfl) ⟨Nat.le_of_ble_eq_true rfl, Nat.le_of_ble_eq_true rfl⟩ ⟨Nat.zero_le _, Nat.zero_le _⟩ dX0_numberAt_3 rfl (fun H locs hh => ?_)
  refine lv_if_eq (tgt := 22) hx hb dX0_numberAt_6 (by decide) (fun hc3 => ?_) (fun hc3 => ?_)
  · have hf := if_t hc3 hf
    refine lv_iconst (v := (0 : Int32)) hx hb dX0_numberAt_22 (by decide) ?_
    exact e_i X hr hlk hh ⟨so_e hf, rfl⟩ dX0_numberAt_23
  · have hf := if_f hc3 hf
    refine lv_aload_n hx hb dX0_numberAt_9 rfl (lv_at hl 0 rfl) ?_
    refine q_gr (P := 9) X hh ht fk_X0_21 dX0_numberAt_10 hN hf (fun t4 h5 hf => ?_)
    refine lv_iload_n hx hb dX0_numberAt_13 rfl (lv_at hl 1 rfl) ?_
    refine lv_iload_n hx hb dX0_numberAt_14 rfl (lv_at hl 2 rfl) ?_
    obtain ⟨v7, hc6, hf⟩ := c1_e hf
    refine q_S (w' := w) (rest := [.ref (B + t4)]) X hml hh (some (.int v7)) (m_X0_placeOf l B D hN hc6) cf_X0_placeOf k_207 rfl hl.1 rfl (Nat.le_of_ble_eq_true rfl) ⟨Nat.le_of_ble_eq_true rfl, Nat.le_of_ble_eq_true rfl⟩ ⟨Nat.zero_le _, Nat.zero_le _⟩ dX0_numberAt_15 rfl (fun H locs hh => ?_)
    refine q_ald X hh h5 dX0_numberAt_18 hf (fun hf => ?_)
    refine lv_topi (fun x9 e10 => ?_)
    have hf := lt_e e10 hf
    refine lv_goto (tgt := 23) hx hb dX0_numberAt_19 (by decide) ?_
    exact e_i X hr hlk hh ⟨so_e hf, rfl⟩ dX0_numberAt_23
set_option maxHeartbeats 4000000 in
set_option maxRecDepth 100000 in
theorem m_X0_setNumber (l : Launch) (B : Nat) (D : DD) {n : Nat} (hN : 139 ≤ n) {t : Nat} {a0 : Int32} {a1 : Int32} {a2 : Int32} {w : Wd} {w' : Wd} (ht : t < n ∧ kd t = 0) (hf : f_X0_setNumber t a0 a1 a2 w = some w') : Ct l yX0_setNumber cX0_setNumber 4 none 1 22 0 0 B D [.ref (B + t), .int a0, .int a1, .int a2] n w none n w' := by
  refine m_of (by decide) (Nat.le_of_ble_eq_true rfl) (fun p e s m args below meth c X hml hr hlk _ H locs hh ls hl => ?_)
  have hx := X.1
  have hb := X.2.1
  have hl : lv_has ls 4 [(0, .ref (B + t)), (1, .int a0), (2, .int a1), (3, .int a2)] := hl
  unfold f_X0_setNumber at hf
  refine lv_aload_n hx hb dX0_setNumber_0 rfl (lv_at hl 0 rfl) ?_
  refine lv_iload_n hx hb dX0_setNumber_1 rfl (lv_at hl 1 rfl) ?_
  refine lv_iload_n hx hb dX0_setNumber_2 rfl (lv_at hl 2 rfl) ?_
  obtain ⟨v2, hc1, hf⟩ := c1_e hf
  refine q_V (w' := w) (rest := []) X hml hh (some (.int v2)) (m_X0_hasCell l B D hN ht hc1) cf_X0_hasCell k_206 ht ci_0 rfl rfl hl.1 rfl (Nat.le_of_ble_eq_true rfl) ⟨Nat.le_of_ble_eq_true rfl, Nat.le_of_ble_eq_true rfl⟩ ⟨Nat.zero_le _, Nat.zero_le _⟩ dX0_setNumber_3 rfl (fun H locs hh => ?_)
  refine lv_if_eq (tgt := 20) hx hb dX0_setNumber_6 (by decide) (fun hc3 => ?_) (fun hc3 => ?_)
  · have hf := if_t hc3 hf
    exact e_v X hr hlk hh ⟨rfl, so_e hf⟩ dX0_setNumber_20
  · have hf := if_f hc3 hf
    refine lv_aload_n hx hb dX0_setNumber_9 rfl (lv_at hl 0 rfl) ?_
    refine q_gr (P := 9) X hh ht fk_X0_21 dX0_setNumber_10 hN hf (fun t4 h5 hf => ?_)
    refine lv_iload_n hx hb dX0_setNumber_13 rfl (lv_at hl 1 rfl) ?_
    refine lv_iload_n hx hb dX0_setNumber_14 rfl (lv_at hl 2 rfl) ?_
    obtain ⟨v7, hc6, hf⟩ := c1_e hf
    refine q_S (w' := w) (rest := [.ref (B + t4)]) X hml hh (some (.int v7)) (m_X0_placeOf l B D hN hc6) cf_X0_placeOf k_207 rfl hl.1 rfl (Nat.le_of_ble_eq_true rfl) ⟨Nat.le_of_ble_eq_true rfl, Nat.le_of_ble_eq_true rfl⟩ ⟨Nat.zero_le _, Nat.zero_le _⟩ dX0_setNumber_15 rfl (fun H locs hh => ?_)
    refine lv_iload_n hx hb dX0_setNumber_18 rfl (lv_at hl 3 rfl) ?_
    refine q_ast X hh h5 dX0_setNumber_19 hf (fun w9 H locs hf hh => ?_)
    exact e_v X hr hlk hh ⟨rfl, so_e hf⟩ dX0_setNumber_20
set_option maxHeartbeats 4000000 in
set_option maxRecDepth 100000 in
theorem m_X0_worthAt (l : Launch) (B : Nat) (D : DD) {n : Nat} (hN : 139 ≤ n) {t : Nat} {a0 : Int32} {a1 : Int32} {w : Wd} {r : Int32} (ht : t < n ∧ kd t = 0) (hf : f_X0_worthAt t a0 a1 w = some r) : Ct l yX0_worthAt cX0_worthAt 4 (some .int) 2 44 0 0 B D [.ref (B + t), .int a0, .int a1] n w (some (.int r)) n w := by
  refine m_of (by decide) (Nat.le_of_ble_eq_true rfl) (fun p e s m args below meth c X hml hr hlk _ H locs hh ls hl => ?_)
  have hx := X.1
  have hb := X.2.1
  have hl : lv_has ls 4 [(0, .ref (B + t)), (1, .int a0), (2, .int a1)] := hl
  unfold f_X0_worthAt at hf
  refine lv_aload_n hx hb dX0_worthAt_0 rfl (lv_at hl 0 rfl) ?_
  refine lv_iload_n hx hb dX0_worthAt_1 rfl (lv_at hl 1 rfl) ?_
  refine lv_iload_n hx hb dX0_worthAt_2 rfl (lv_at hl 2 rfl) ?_
  obtain ⟨v2, hc1, hf⟩ := c1_e hf
  refine q_V (w' := w) (rest := []) X hml hh (some (.int v2)) (m_X0_numberAt l B D hN ht hc1) cf_X0_numberAt k_241 ht ci_0 rfl rfl hl.1 rfl (Nat.le_of_ble_eq_true rfl) ⟨Nat.le_of_ble_eq_true rfl, Nat.le_of_ble_eq_true rfl⟩ ⟨Nat.zero_le _, Nat.zero_le _⟩ dX0_worthAt_3 rfl (fun H locs hh => ?_)
  refine lv_istore_n (lv' := [(3, .int v2), (0, .ref (B + t)), (1, .int a0), (2, .int a1)]) hx hb dX0_worthAt_6 rfl hl (by decide) rfl (fun ls hl => ?_)
  refine lv_aload_n hx hb dX0_worthAt_7 rfl (lv_at hl 1 rfl) ?_
  refine r_gi X hh ht fk_X0_18 dX0_worthAt_8 ?_
  refine lv_iconst (v := (1 : Int32)) hx hb dX0_worthAt_11 (by decide) ?_
  refine mg_W (P := fun (x5 : Int32) => ∀ (ls : Array Slot), lv_has ls 4 [] → W p l e (rmk 2 44 0 0) s m args below meth c H locs 0 0 (MZ below B D n w (some (.int r)) args s 0 0) (F0 m 32 ls [.int x5])) hf (fun x5 hf ls hl => ?_) (fun hj6 => ?_)
  · exact e_i X hr hlk hh ⟨so_e hf, rfl⟩ dX0_worthAt_32
  · refine lv_icmp_eq (tgt := 23) hx hb dX0_worthAt_12 (by decide) (fun hc3 => ?_) (fun hc3 => ?_)
    · refine lv_iload_n hx hb dX0_worthAt_23 rfl (lv_at hl 0 rfl) ?_
      refine lv_iconst (v := (1 : Int32)) hx hb dX0_worthAt_24 (by decide) ?_
      refine q_min X hml hl.1 k_277 (Nat.le_of_ble_eq_true rfl) ⟨Nat.le_of_ble_eq_true rfl, Nat.le_of_ble_eq_true rfl⟩ ⟨Nat.zero_le _, Nat.zero_le _⟩ dX0_worthAt_25 ?_
      refine lv_goto (tgt := 32) hx hb dX0_worthAt_28 (by decide) ?_
      exact hj6 _ (by rw [if_pos hc3]) ls (lv_sub hl [] rfl)
    · refine lv_aload_n hx hb dX0_worthAt_15 rfl (lv_at hl 1 rfl) ?_
      refine r_gi X hh ht fk_X0_18 dX0_worthAt_16 ?_
      refine lv_iconst (v := (2 : Int32)) hx hb dX0_worthAt_19 (by decide) ?_
      refine lv_icmp_ne (tgt := 31) hx hb dX0_worthAt_20 (by decide) (fun hc4 => ?_) (fun hc4 => ?_)
      · refine lv_iload_n hx hb dX0_worthAt_31 rfl (lv_at hl 0 rfl) ?_
        exact hj6 _ (by rw [if_neg hc3, if_neg hc4]) ls (lv_sub hl [] rfl)
      · refine lv_iload_n hx hb dX0_worthAt_23 rfl (lv_at hl 0 rfl) ?_
        refine lv_iconst (v := (1 : Int32)) hx hb dX0_worthAt_24 (by decide) ?_
        refine q_min X hml hl.1 k_277 (Nat.le_of_ble_eq_true rfl) ⟨Nat.le_of_ble_eq_true rfl, Nat.le_of_ble_eq_true rfl⟩ ⟨Nat.zero_le _, Nat.zero_le _⟩ dX0_worthAt_25 ?_
        refine lv_goto (tgt := 32) hx hb dX0_worthAt_28 (by decide) ?_
        exact hj6 _ (by rw [if_neg hc3, if_pos hc4]) ls (lv_sub hl [] rfl)
set_option maxHeartbeats 4000000 in
set_option maxRecDepth 100000 in
theorem m_X0_clearTo (l : Launch) (B : Nat) (D : DD) {n : Nat} (hN : 139 ≤ n) {t : Nat} {a0 : Int32} {a1 : Int32} {w : Wd} {w' : Wd} (ht : t < n ∧ kd t = 0) (hf : f_X0_clearTo t a0 a1 w = some w') : Ct l yX0_clearTo cX0_clearTo 4 none 0 0 0 0 B D [.ref (B + t), .int a0, .int a1] n w none n w' := by
  refine m_of (by decide) (Nat.le_of_ble_eq_true rfl) (fun p e s m args below meth c X hml hr hlk _ H locs hh ls hl => ?_)
  have hx := X.1
  have hb := X.2.1
  have hl : lv_has ls 4 [(0, .ref (B + t)), (1, .int a0), (2, .int a1)] := hl
  unfold f_X0_clearTo at hf
  refine lv_aload_n hx hb dX0_clearTo_0 rfl (lv_at hl 0 rfl) ?_
  refine lv_iload_n hx hb dX0_clearTo_1 rfl (lv_at hl 1 rfl) ?_
  refine q_pi X hh ht fk_X0_9 pk_0_0 rfl rfl dX0_clearTo_2 hf (fun w1 H locs hf hh => ?_)
  refine lv_aload_n hx hb dX0_clearTo_5 rfl (lv_at hl 0 rfl) ?_
  refine lv_iload_n hx hb dX0_clearTo_6 rfl (lv_at hl 2 rfl) ?_
  refine q_pi X hh ht fk_X0_15 pk_0_1 rfl rfl dX0_clearTo_7 hf (fun w2 H locs hf hh => ?_)
  refine lv_iconst (v := (0 : Int32)) hx hb dX0_clearTo_10 (by decide) ?_
  refine lv_istore_n (lv' := [(3, .int (0 : Int32)), (0, .ref (B + t)), (1, .int a0), (2, .int a1)]) hx hb dX0_clearTo_11 rfl hl (by decide) rfl (fun ls hl => ?_)
  refine wl2_W (P := fun (x3 : Int32) (w4 : Wd) => ∀ (H : Heap) (locs : List Loc) (ls : Array Slot), Hp B D n w4 s H locs → lv_has ls 4 [(0, .ref (B + t)), (3, .int x3)] → W p l e (rmk 0 0 0 0) s m args below meth c H locs 0 0 (MZ below B D n w' none args s 0 0) (F0 m 12 ls [])) hf (fun x3 w4 k5 ih6 hf  H locs ls hh hl => ?_)  _ _ _ hh (lv_sub hl [1, 0] rfl)
  refine lv_iload_n hx hb dX0_clearTo_12 rfl (lv_at hl 1 rfl) ?_
  refine lv_aload_n hx hb dX0_clearTo_13 rfl (lv_at hl 0 rfl) ?_
  refine q_gr (P := 9) X hh ht fk_X0_21 dX0_clearTo_14 hN hf (fun t7 h8 hf => ?_)
  refine r_alen X hh h8 ⟨by decide, by decide⟩ dX0_clearTo_17 ?_
  refine lv_icmp_ge (tgt := 34) hx hb dX0_clearTo_18 (by decide) (fun hc9 => ?_) (fun hc9 => ?_)
  · have hf := if_t hc9 hf
    exact e_v X hr hlk hh ⟨rfl, so_e hf⟩ dX0_clearTo_34
  · have hf := if_f hc9 hf
    refine lv_aload_n hx hb dX0_clearTo_21 rfl (lv_at hl 0 rfl) ?_
    refine q_gr (P := 9) X hh ht fk_X0_21 dX0_clearTo_22 hN hf (fun t10 h11 hf => ?_)
    refine lv_iload_n hx hb dX0_clearTo_25 rfl (lv_at hl 1 rfl) ?_
    refine lv_iconst (v := (0 : Int32)) hx hb dX0_clearTo_26 (by decide) ?_
    refine q_ast X hh h11 dX0_clearTo_27 hf (fun w13 H locs hf hh => ?_)
    obtain ⟨x14, e15⟩ : ∃ y : Int32, y = (x3 + (1 : Int32)) := ⟨_, rfl⟩
    have hf := lt_e e15 hf
    refine lv_iinc (v := x14) (lv' := [(3, .int x14), (0, .ref (B + t))]) hx hb dX0_clearTo_28 hl (k := 1) rfl (by rw [e15]; rfl) (by decide) rfl (fun ls hl => ?_)
    refine lv_goto (tgt := 12) hx hb dX0_clearTo_31 (by decide) ?_
    exact ih6 _ _ hf  _ _ _ hh (lv_sub hl [1, 0] rfl)
set_option maxHeartbeats 4000000 in
set_option maxRecDepth 100000 in
theorem m_X0_copyFrom (l : Launch) (B : Nat) (D : DD) {n : Nat} (hN : 139 ≤ n) {t : Nat} {a0 : Nat} {w : Wd} {w' : Wd} (ht : t < n ∧ kd t = 0) (ha0 : a0 < n ∧ kd a0 = 0) (hf : f_X0_copyFrom t a0 w = some w') : Ct l yX0_copyFrom cX0_copyFrom 3 none 0 0 0 0 B D [.ref (B + t), .ref (B + a0)] n w none n w' := by
  refine m_of (by decide) (Nat.le_of_ble_eq_true rfl) (fun p e s m args below meth c X hml hr hlk _ H locs hh ls hl => ?_)
  have hx := X.1
  have hb := X.2.1
  have hl : lv_has ls 3 [(0, .ref (B + t)), (1, .ref (B + a0))] := hl
  unfold f_X0_copyFrom at hf
  refine lv_aload_n hx hb dX0_copyFrom_0 rfl (lv_at hl 0 rfl) ?_
  refine lv_aload_n hx hb dX0_copyFrom_1 rfl (lv_at hl 1 rfl) ?_
  refine r_gi X hh ha0 fk_X0_9 dX0_copyFrom_2 ?_
  refine q_pi X hh ht fk_X0_9 pk_0_0 rfl rfl dX0_copyFrom_5 hf (fun w1 H locs hf hh => ?_)
  refine lv_aload_n hx hb dX0_copyFrom_8 rfl (lv_at hl 0 rfl) ?_
  refine lv_aload_n hx hb dX0_copyFrom_9 rfl (lv_at hl 1 rfl) ?_
  refine r_gi X hh ha0 fk_X0_15 dX0_copyFrom_10 ?_
  refine q_pi X hh ht fk_X0_15 pk_0_1 rfl rfl dX0_copyFrom_13 hf (fun w2 H locs hf hh => ?_)
  refine lv_aload_n hx hb dX0_copyFrom_16 rfl (lv_at hl 0 rfl) ?_
  refine lv_aload_n hx hb dX0_copyFrom_17 rfl (lv_at hl 1 rfl) ?_
  refine r_gi X hh ha0 fk_X0_18 dX0_copyFrom_18 ?_
  refine q_pi X hh ht fk_X0_18 pk_0_2 rfl rfl dX0_copyFrom_21 hf (fun w3 H locs hf hh => ?_)
  refine lv_iconst (v := (0 : Int32)) hx hb dX0_copyFrom_24 (by decide) ?_
  refine lv_istore_n (lv' := [(2, .int (0 : Int32)), (0, .ref (B + t)), (1, .ref (B + a0))]) hx hb dX0_copyFrom_25 rfl hl (by decide) rfl (fun ls hl => ?_)
  refine wl2_W (P := fun (x4 : Int32) (w5 : Wd) => ∀ (H : Heap) (locs : List Loc) (ls : Array Slot), Hp B D n w5 s H locs → lv_has ls 3 [(0, .ref (B + t)), (1, .ref (B + a0)), (2, .int x4)] → W p l e (rmk 0 0 0 0) s m args below meth c H locs 0 0 (MZ below B D n w' none args s 0 0) (F0 m 26 ls [])) hf (fun x4 w5 k6 ih7 hf  H locs ls hh hl => ?_)  _ _ _ hh (lv_sub hl [1, 2, 0] rfl)
  refine lv_iload_n hx hb dX0_copyFrom_26 rfl (lv_at hl 2 rfl) ?_
  refine lv_aload_n hx hb dX0_copyFrom_27 rfl (lv_at hl 0 rfl) ?_
  refine q_gr (P := 9) X hh ht fk_X0_21 dX0_copyFrom_28 hN hf (fun t8 h9 hf => ?_)
  refine r_alen X hh h9 ⟨by decide, by decide⟩ dX0_copyFrom_31 ?_
  refine lv_icmp_ge (tgt := 53) hx hb dX0_copyFrom_32 (by decide) (fun hc10 => ?_) (fun hc10 => ?_)
  · have hf := if_t hc10 hf
    exact e_v X hr hlk hh ⟨rfl, so_e hf⟩ dX0_copyFrom_53
  · have hf := if_f hc10 hf
    refine lv_aload_n hx hb dX0_copyFrom_35 rfl (lv_at hl 0 rfl) ?_
    refine q_gr (P := 9) X hh ht fk_X0_21 dX0_copyFrom_36 hN hf (fun t11 h12 hf => ?_)
    refine lv_iload_n hx hb dX0_copyFrom_39 rfl (lv_at hl 2 rfl) ?_
    refine lv_aload_n hx hb dX0_copyFrom_40 rfl (lv_at hl 1 rfl) ?_
    refine q_gr (P := 9) X hh ha0 fk_X0_21 dX0_copyFrom_41 hN hf (fun t13 h14 hf => ?_)
    refine lv_iload_n hx hb dX0_copyFrom_44 rfl (lv_at hl 2 rfl) ?_
    refine q_ald X hh h14 dX0_copyFrom_45 hf (fun hf => ?_)
    refine q_ast X hh h12 dX0_copyFrom_46 hf (fun w17 H locs hf hh => ?_)
    obtain ⟨x18, e19⟩ : ∃ y : Int32, y = (x4 + (1 : Int32)) := ⟨_, rfl⟩
    have hf := lt_e e19 hf
    refine lv_iinc (v := x18) (lv' := [(2, .int x18), (0, .ref (B + t)), (1, .ref (B + a0))]) hx hb dX0_copyFrom_47 hl (k := 2) rfl (by rw [e19]; rfl) (by decide) rfl (fun ls hl => ?_)
    refine lv_goto (tgt := 26) hx hb dX0_copyFrom_50 (by decide) ?_
    exact ih7 _ _ hf  _ _ _ hh (lv_sub hl [1, 2, 0] rfl)
set_option maxHeartbeats 4000000 in
set_option maxRecDepth 100000 in
theorem m_X0_filled (l : Launch) (B : Nat) (D : DD) {n : Nat} (hN : 139 ≤ n) {t : Nat} {w : Wd} {r : Int32} (ht : t < n ∧ kd t = 0) (hf : f_X0_filled t w = some r) : Ct l yX0_filled cX0_filled 3 (some .int) 0 0 0 0 B D [.ref (B + t)] n w (some (.int r)) n w := by
  refine m_of (by decide) (Nat.le_of_ble_eq_true rfl) (fun p e s m args below meth c X hml hr hlk _ H locs hh ls hl => ?_)
  have hx := X.1
  have hb := X.2.1
  have hl : lv_has ls 3 [(0, .ref (B + t))] := hl
  unfold f_X0_filled at hf
  refine lv_iconst (v := (0 : Int32)) hx hb dX0_filled_0 (by decide) ?_
  refine lv_istore_n (lv' := [(1, .int (0 : Int32)), (0, .ref (B + t))]) hx hb dX0_filled_1 rfl hl (by decide) rfl (fun ls hl => ?_)
  refine lv_iconst (v := (0 : Int32)) hx hb dX0_filled_2 (by decide) ?_
  refine lv_istore_n (lv' := [(2, .int (0 : Int32)), (1, .int (0 : Int32)), (0, .ref (B + t))]) hx hb dX0_filled_3 rfl hl (by decide) rfl (fun ls hl => ?_)
  refine wl2_W (P := fun (x1 : Int32) (x2 : Int32) => ∀ (H : Heap) (locs : List Loc) (ls : Array Slot), Hp B D n w s H locs → lv_has ls 3 [(0, .ref (B + t)), (1, .int x1), (2, .int x2)] → W p l e (rmk 0 0 0 0) s m args below meth c H locs 0 0 (MZ below B D n w (some (.int r)) args s 0 0) (F0 m 4 ls [])) hf (fun x1 x2 k3 ih4 hf  H locs ls hh hl => ?_)  _ _ _ hh (lv_sub hl [2, 1, 0] rfl)
  refine lv_iload_n hx hb dX0_filled_4 rfl (lv_at hl 2 rfl) ?_
  refine lv_aload_n hx hb dX0_filled_5 rfl (lv_at hl 0 rfl) ?_
  refine q_gr (P := 9) X hh ht fk_X0_21 dX0_filled_6 hN hf (fun t5 h6 hf => ?_)
  refine r_alen X hh h6 ⟨by decide, by decide⟩ dX0_filled_9 ?_
  refine lv_icmp_ge (tgt := 36) hx hb dX0_filled_10 (by decide) (fun hc7 => ?_) (fun hc7 => ?_)
  · have hf := if_t hc7 hf
    refine lv_iload_n hx hb dX0_filled_36 rfl (lv_at hl 1 rfl) ?_
    exact e_i X hr hlk hh ⟨so_e hf, rfl⟩ dX0_filled_37
  · have hf := if_f hc7 hf
    refine lv_iload_n hx hb dX0_filled_13 rfl (lv_at hl 1 rfl) ?_
    refine lv_aload_n hx hb dX0_filled_14 rfl (lv_at hl 0 rfl) ?_
    refine q_gr (P := 9) X hh ht fk_X0_21 dX0_filled_15 hN hf (fun t8 h9 hf => ?_)
    refine lv_iload_n hx hb dX0_filled_18 rfl (lv_at hl 2 rfl) ?_
    refine q_ald X hh h9 dX0_filled_19 hf (fun hf => ?_)
    refine mg_W (P := fun (x12 : Int32) => ∀ (ls : Array Slot), lv_has ls 3 [(0, .ref (B + t)), (2, .int x2)] → W p l e (rmk 0 0 0 0) s m args below meth c H locs 0 0 (MZ below B D n w (some (.int r)) args s 0 0) (F0 m 28 ls [.int x12, .int x1])) hf (fun x12 hf ls hl => ?_) (fun hj17 => ?_)
    · refine lv_iadd hx hb dX0_filled_28 ?_
      refine lv_topi (fun x13 e14 => ?_)
      have hf := lt_e e14 hf
      refine lv_istore_n (lv' := [(1, .int x13), (0, .ref (B + t)), (2, .int x2)]) hx hb dX0_filled_29 rfl hl (by decide) rfl (fun ls hl => ?_)
      obtain ⟨x15, e16⟩ : ∃ y : Int32, y = (x2 + (1 : Int32)) := ⟨_, rfl⟩
      have hf := lt_e e16 hf
      refine lv_iinc (v := x15) (lv' := [(2, .int x15), (1, .int x13), (0, .ref (B + t))]) hx hb dX0_filled_30 hl (k := 2) rfl (by rw [e16]; rfl) (by decide) rfl (fun ls hl => ?_)
      refine lv_goto (tgt := 4) hx hb dX0_filled_33 (by decide) ?_
      exact ih4 _ _ hf  _ _ _ hh (lv_sub hl [2, 1, 0] rfl)
    · refine lv_if_le (tgt := 27) hx hb dX0_filled_20 (by decide) (fun hc11 => ?_) (fun hc11 => ?_)
      · refine lv_iconst (v := (0 : Int32)) hx hb dX0_filled_27 (by decide) ?_
        exact hj17 _ (by rw [if_pos hc11]) ls (lv_sub hl [0, 2] rfl)
      · refine lv_iconst (v := (1 : Int32)) hx hb dX0_filled_23 (by decide) ?_
        refine lv_goto (tgt := 28) hx hb dX0_filled_24 (by decide) ?_
        exact hj17 _ (by rw [if_neg hc11]) ls (lv_sub hl [0, 2] rfl)
set_option maxHeartbeats 4000000 in
set_option maxRecDepth 100000 in
theorem m_X0_total (l : Launch) (B : Nat) (D : DD) {n : Nat} (hN : 139 ≤ n) {t : Nat} {w : Wd} {r : Int32} (ht : t < n ∧ kd t = 0) (hf : f_X0_total t w = some r) : Ct l yX0_total cX0_total 3 (some .int) 0 0 0 0 B D [.ref (B + t)] n w (some (.int r)) n w := by
  refine m_of (by decide) (Nat.le_of_ble_eq_true rfl) (fun p e s m args below meth c X hml hr hlk _ H locs hh ls hl => ?_)
  have hx := X.1
  have hb := X.2.1
  have hl : lv_has ls 3 [(0, .ref (B + t))] := hl
  unfold f_X0_total at hf
  refine lv_iconst (v := (0 : Int32)) hx hb dX0_total_0 (by decide) ?_
  refine lv_istore_n (lv' := [(1, .int (0 : Int32)), (0, .ref (B + t))]) hx hb dX0_total_1 rfl hl (by decide) rfl (fun ls hl => ?_)
  refine lv_iconst (v := (0 : Int32)) hx hb dX0_total_2 (by decide) ?_
  refine lv_istore_n (lv' := [(2, .int (0 : Int32)), (1, .int (0 : Int32)), (0, .ref (B + t))]) hx hb dX0_total_3 rfl hl (by decide) rfl (fun ls hl => ?_)
  refine wl2_W (P := fun (x1 : Int32) (x2 : Int32) => ∀ (H : Heap) (locs : List Loc) (ls : Array Slot), Hp B D n w s H locs → lv_has ls 3 [(0, .ref (B + t)), (1, .int x1), (2, .int x2)] → W p l e (rmk 0 0 0 0) s m args below meth c H locs 0 0 (MZ below B D n w (some (.int r)) args s 0 0) (F0 m 4 ls [])) hf (fun x1 x2 k3 ih4 hf  H locs ls hh hl => ?_)  _ _ _ hh (lv_sub hl [2, 1, 0] rfl)
  refine lv_iload_n hx hb dX0_total_4 rfl (lv_at hl 2 rfl) ?_
  refine lv_aload_n hx hb dX0_total_5 rfl (lv_at hl 0 rfl) ?_
  refine q_gr (P := 9) X hh ht fk_X0_21 dX0_total_6 hN hf (fun t5 h6 hf => ?_)
  refine r_alen X hh h6 ⟨by decide, by decide⟩ dX0_total_9 ?_
  refine lv_icmp_ge (tgt := 28) hx hb dX0_total_10 (by decide) (fun hc7 => ?_) (fun hc7 => ?_)
  · have hf := if_t hc7 hf
    refine lv_iload_n hx hb dX0_total_28 rfl (lv_at hl 1 rfl) ?_
    exact e_i X hr hlk hh ⟨so_e hf, rfl⟩ dX0_total_29
  · have hf := if_f hc7 hf
    refine lv_iload_n hx hb dX0_total_13 rfl (lv_at hl 1 rfl) ?_
    refine lv_aload_n hx hb dX0_total_14 rfl (lv_at hl 0 rfl) ?_
    refine q_gr (P := 9) X hh ht fk_X0_21 dX0_total_15 hN hf (fun t8 h9 hf => ?_)
    refine lv_iload_n hx hb dX0_total_18 rfl (lv_at hl 2 rfl) ?_
    refine q_ald X hh h9 dX0_total_19 hf (fun hf => ?_)
    refine lv_iadd hx hb dX0_total_20 ?_
    refine lv_topi (fun x11 e12 => ?_)
    have hf := lt_e e12 hf
    refine lv_istore_n (lv' := [(1, .int x11), (0, .ref (B + t)), (2, .int x2)]) hx hb dX0_total_21 rfl hl (by decide) rfl (fun ls hl => ?_)
    obtain ⟨x13, e14⟩ : ∃ y : Int32, y = (x2 + (1 : Int32)) := ⟨_, rfl⟩
    have hf := lt_e e14 hf
    refine lv_iinc (v := x13) (lv' := [(2, .int x13), (1, .int x11), (0, .ref (B + t))]) hx hb dX0_total_22 hl (k := 2) rfl (by rw [e14]; rfl) (by decide) rfl (fun ls hl => ?_)
    refine lv_goto (tgt := 4) hx hb dX0_total_25 (by decide) ?_
    exact ih4 _ _ hf  _ _ _ hh (lv_sub hl [2, 1, 0] rfl)
set_option maxHeartbeats 4000000 in
set_option maxRecDepth 100000 in
theorem m_X0_differing (l : Launch) (B : Nat) (D : DD) {n : Nat} (hN : 139 ≤ n) {t : Nat} {a0 : Nat} {w : Wd} {r : Int32} (ht : t < n ∧ kd t = 0) (ha0 : a0 < n ∧ kd a0 = 0) (hf : f_X0_differing t a0 w = some r) : Ct l yX0_differing cX0_differing 4 (some .int) 0 0 0 0 B D [.ref (B + t), .ref (B + a0)] n w (some (.int r)) n w := by
  refine m_of (by decide) (Nat.le_of_ble_eq_true rfl) (fun p e s m args below meth c X hml hr hlk _ H locs hh ls hl => ?_)
  have hx := X.1
  have hb := X.2.1
  have hl : lv_has ls 4 [(0, .ref (B + t)), (1, .ref (B + a0))] := hl
  unfold f_X0_differing at hf
  refine lv_iconst (v := (0 : Int32)) hx hb dX0_differing_0 (by decide) ?_
  refine lv_istore_n (lv' := [(2, .int (0 : Int32)), (0, .ref (B + t)), (1, .ref (B + a0))]) hx hb dX0_differing_1 rfl hl (by decide) rfl (fun ls hl => ?_)
  refine lv_iconst (v := (0 : Int32)) hx hb dX0_differing_2 (by decide) ?_
  refine lv_istore_n (lv' := [(3, .int (0 : Int32)), (2, .int (0 : Int32)), (0, .ref (B + t)), (1, .ref (B + a0))]) hx hb dX0_differing_3 rfl hl (by decide) rfl (fun ls hl => ?_)
  refine wl2_W (P := fun (x1 : Int32) (x2 : Int32) => ∀ (H : Heap) (locs : List Loc) (ls : Array Slot), Hp B D n w s H locs → lv_has ls 4 [(0, .ref (B + t)), (1, .ref (B + a0)), (2, .int x1), (3, .int x2)] → W p l e (rmk 0 0 0 0) s m args below meth c H locs 0 0 (MZ below B D n w (some (.int r)) args s 0 0) (F0 m 4 ls [])) hf (fun x1 x2 k3 ih4 hf  H locs ls hh hl => ?_)  _ _ _ hh (lv_sub hl [2, 3, 1, 0] rfl)
  refine lv_iload_n hx hb dX0_differing_4 rfl (lv_at hl 3 rfl) ?_
  refine lv_aload_n hx hb dX0_differing_5 rfl (lv_at hl 0 rfl) ?_
  refine q_gr (P := 9) X hh ht fk_X0_21 dX0_differing_6 hN hf (fun t5 h6 hf => ?_)
  refine r_alen X hh h6 ⟨by decide, by decide⟩ dX0_differing_9 ?_
  refine lv_icmp_ge (tgt := 42) hx hb dX0_differing_10 (by decide) (fun hc7 => ?_) (fun hc7 => ?_)
  · have hf := if_t hc7 hf
    refine lv_iload_n hx hb dX0_differing_42 rfl (lv_at hl 2 rfl) ?_
    exact e_i X hr hlk hh ⟨so_e hf, rfl⟩ dX0_differing_43
  · have hf := if_f hc7 hf
    refine lv_iload_n hx hb dX0_differing_13 rfl (lv_at hl 2 rfl) ?_
    refine lv_aload_n hx hb dX0_differing_14 rfl (lv_at hl 0 rfl) ?_
    refine q_gr (P := 9) X hh ht fk_X0_21 dX0_differing_15 hN hf (fun t8 h9 hf => ?_)
    refine lv_iload_n hx hb dX0_differing_18 rfl (lv_at hl 3 rfl) ?_
    refine q_ald X hh h9 dX0_differing_19 hf (fun hf => ?_)
    refine lv_aload_n hx hb dX0_differing_20 rfl (lv_at hl 1 rfl) ?_
    refine q_gr (P := 9) X hh ha0 fk_X0_21 dX0_differing_21 hN hf (fun t11 h12 hf => ?_)
    refine lv_iload_n hx hb dX0_differing_24 rfl (lv_at hl 3 rfl) ?_
    refine q_ald X hh h12 dX0_differing_25 hf (fun hf => ?_)
    refine mg_W (P := fun (x15 : Int32) => ∀ (ls : Array Slot), lv_has ls 4 [(0, .ref (B + t)), (1, .ref (B + a0)), (3, .int x2)] → W p l e (rmk 0 0 0 0) s m args below meth c H locs 0 0 (MZ below B D n w (some (.int r)) args s 0 0) (F0 m 34 ls [.int x15, .int x1])) hf (fun x15 hf ls hl => ?_) (fun hj20 => ?_)
    · refine lv_iadd hx hb dX0_differing_34 ?_
      refine lv_topi (fun x16 e17 => ?_)
      have hf := lt_e e17 hf
      refine lv_istore_n (lv' := [(2, .int x16), (0, .ref (B + t)), (1, .ref (B + a0)), (3, .int x2)]) hx hb dX0_differing_35 rfl hl (by decide) rfl (fun ls hl => ?_)
      obtain ⟨x18, e19⟩ : ∃ y : Int32, y = (x2 + (1 : Int32)) := ⟨_, rfl⟩
      have hf := lt_e e19 hf
      refine lv_iinc (v := x18) (lv' := [(3, .int x18), (2, .int x16), (0, .ref (B + t)), (1, .ref (B + a0))]) hx hb dX0_differing_36 hl (k := 3) rfl (by rw [e19]; rfl) (by decide) rfl (fun ls hl => ?_)
      refine lv_goto (tgt := 4) hx hb dX0_differing_39 (by decide) ?_
      exact ih4 _ _ hf  _ _ _ hh (lv_sub hl [2, 3, 1, 0] rfl)
    · refine lv_icmp_eq (tgt := 33) hx hb dX0_differing_26 (by decide) (fun hc14 => ?_) (fun hc14 => ?_)
      · refine lv_iconst (v := (0 : Int32)) hx hb dX0_differing_33 (by decide) ?_
        exact hj20 _ (by rw [if_pos hc14]) ls (lv_sub hl [0, 1, 3] rfl)
      · refine lv_iconst (v := (1 : Int32)) hx hb dX0_differing_29 (by decide) ?_
        refine lv_goto (tgt := 34) hx hb dX0_differing_30 (by decide) ?_
        exact hj20 _ (by rw [if_neg hc14]) ls (lv_sub hl [0, 1, 3] rfl)
set_option maxHeartbeats 4000000 in
set_option maxRecDepth 100000 in
theorem m_X0_spelling (l : Launch) (B : Nat) (D : DD) {n : Nat} (hN : 139 ≤ n) {t : Nat} {w : Wd} {r : Int32} (ht : t < n ∧ kd t = 0) (hf : f_X0_spelling t w = some r) : Ct l yX0_spelling cX0_spelling 6 (some .int) 2 44 0 0 B D [.ref (B + t)] n w (some (.int r)) n w := by
  refine m_of (by decide) (Nat.le_of_ble_eq_true rfl) (fun p e s m args below meth c X hml hr hlk _ H locs hh ls hl => ?_)
  have hx := X.1
  have hb := X.2.1
  have hl : lv_has ls 6 [(0, .ref (B + t))] := hl
  unfold f_X0_spelling at hf
  refine lv_iconst (v := (0 : Int32)) hx hb dX0_spelling_0 (by decide) ?_
  refine lv_istore_n (lv' := [(1, .int (0 : Int32)), (0, .ref (B + t))]) hx hb dX0_spelling_1 rfl hl (by decide) rfl (fun ls hl => ?_)
  refine lv_iconst (v := (1 : Int32)) hx hb dX0_spelling_2 (by decide) ?_
  refine lv_istore_n (lv' := [(2, .int (1 : Int32)), (1, .int (0 : Int32)), (0, .ref (B + t))]) hx hb dX0_spelling_3 rfl hl (by decide) rfl (fun ls hl => ?_)
  refine wl2_W (P := fun (x1 : Int32) (x2 : Int32) => ∀ (H : Heap) (locs : List Loc) (ls : Array Slot), Hp B D n w s H locs → lv_has ls 6 [(0, .ref (B + t)), (1, .int x1), (2, .int x2)] → W p l e (rmk 2 44 0 0) s m args below meth c H locs 0 0 (MZ below B D n w (some (.int r)) args s 0 0) (F0 m 4 ls [])) hf (fun x1 x2 k3 ih4 hf  H locs ls hh hl => ?_)  _ _ _ hh (lv_sub hl [2, 1, 0] rfl)
  refine lv_iload_n hx hb dX0_spelling_4 rfl (lv_at hl 2 rfl) ?_
  refine lv_aload_n hx hb dX0_spelling_5 rfl (lv_at hl 0 rfl) ?_
  refine r_gi X hh ht fk_X0_9 dX0_spelling_6 ?_
  refine lv_icmp_gt (tgt := 82) hx hb dX0_spelling_9 (by decide) (fun hc5 => ?_) (fun hc5 => ?_)
  · have hf := if_t hc5 hf
    refine lv_iload_n hx hb dX0_spelling_82 rfl (lv_at hl 1 rfl) ?_
    exact e_i X hr hlk hh ⟨so_e hf, rfl⟩ dX0_spelling_83
  · have hf := if_f hc5 hf
    refine lv_iconst (v := (0 : Int32)) hx hb dX0_spelling_12 (by decide) ?_
    refine lv_istore_n (lv' := [(3, .int (0 : Int32)), (0, .ref (B + t)), (1, .int x1), (2, .int x2)]) hx hb dX0_spelling_13 rfl hl (by decide) rfl (fun ls hl => ?_)
    refine lv_iconst (v := (1 : Int32)) hx hb dX0_spelling_14 (by decide) ?_
    refine lv_istore (lv' := [(4, .int (1 : Int32)), (3, .int (0 : Int32)), (0, .ref (B + t)), (1, .int x1), (2, .int x2)]) hx hb dX0_spelling_15 hl (by decide) rfl (fun ls hl => ?_)
    refine wl2_W (P := fun (x6 : Int32) (x7 : Int32) => ∀ (H : Heap) (locs : List Loc) (ls : Array Slot), Hp B D n w s H locs → lv_has ls 6 [(0, .ref (B + t)), (1, .int x1), (2, .int x2), (3, .int x6), (4, .int x7)] → W p l e (rmk 2 44 0 0) s m args below meth c H locs 0 0 (MZ below B D n w (some (.int r)) args s 0 0) (F0 m 17 ls [])) hf (fun x6 x7 k8 ih9 hf  H locs ls hh hl => ?_)  _ _ _ hh (lv_sub hl [2, 3, 4, 1, 0] rfl)
    refine lv_iload hx hb dX0_spelling_17 (lv_at hl 4 rfl) ?_
    refine lv_aload_n hx hb dX0_spelling_19 rfl (lv_at hl 0 rfl) ?_
    refine r_gi X hh ht fk_X0_15 dX0_spelling_20 ?_
    refine lv_icmp_gt (tgt := 69) hx hb dX0_spelling_23 (by decide) (fun hc10 => ?_) (fun hc10 => ?_)
    · have hf := if_t hc10 hf
      refine lv_bipush (v := (10 : Int32)) hx hb dX0_spelling_69 (by decide) ?_
      refine lv_iload_n hx hb dX0_spelling_71 rfl (lv_at hl 1 rfl) ?_
      refine lv_imul hx hb dX0_spelling_72 ?_
      refine lv_iload_n hx hb dX0_spelling_73 rfl (lv_at hl 3 rfl) ?_
      refine lv_iadd hx hb dX0_spelling_74 ?_
      refine lv_topi (fun x11 e12 => ?_)
      have hf := lt_e e12 hf
      refine lv_istore_n (lv' := [(1, .int x11), (0, .ref (B + t)), (2, .int x2), (3, .int x6), (4, .int x7)]) hx hb dX0_spelling_75 rfl hl (by decide) rfl (fun ls hl => ?_)
      obtain ⟨x13, e14⟩ : ∃ y : Int32, y = (x2 + (1 : Int32)) := ⟨_, rfl⟩
      have hf := lt_e e14 hf
      refine lv_iinc (v := x13) (lv' := [(2, .int x13), (1, .int x11), (0, .ref (B + t)), (3, .int x6), (4, .int x7)]) hx hb dX0_spelling_76 hl (k := 2) rfl (by rw [e14]; rfl) (by decide) rfl (fun ls hl => ?_)
      refine lv_goto (tgt := 4) hx hb dX0_spelling_79 (by decide) ?_
      exact ih4 _ _ hf  _ _ _ hh (lv_sub hl [2, 1, 0] rfl)
    · have hf := if_f hc10 hf
      refine lv_aload_n hx hb dX0_spelling_26 rfl (lv_at hl 0 rfl) ?_
      refine lv_iload_n hx hb dX0_spelling_27 rfl (lv_at hl 2 rfl) ?_
      refine lv_iload hx hb dX0_spelling_28 (lv_at hl 4 rfl) ?_
      obtain ⟨v16, hc15, hf⟩ := c1_e hf
      refine q_V (w' := w) (rest := []) X hml hh (some (.int v16)) (m_X0_numberAt l B D hN ht hc15) cf_X0_numberAt k_241 ht ci_0 rfl rfl hl.1 rfl (Nat.le_of_ble_eq_true rfl) ⟨Nat.le_of_ble_eq_true rfl, Nat.le_of_ble_eq_true rfl⟩ ⟨Nat.zero_le _, Nat.zero_le _⟩ dX0_spelling_30 rfl (fun H locs hh => ?_)
      refine lv_istore (lv' := [(5, .int v16), (0, .ref (B + t)), (1, .int x1), (2, .int x2), (3, .int x6), (4, .int x7)]) hx hb dX0_spelling_33 hl (by decide) rfl (fun ls hl => ?_)
      refine lv_iload hx hb dX0_spelling_35 (lv_at hl 0 rfl) ?_
      refine lv_iconst (v := (1 : Int32)) hx hb dX0_spelling_37 (by decide) ?_
      refine lv_icmp_gt (tgt := 51) hx hb dX0_spelling_38 (by decide) (fun hc17 => ?_) (fun hc17 => ?_)
      · have hf := if_t hc17 hf
        refine lv_bipush (v := (-2 : Int32)) hx hb dX0_spelling_51 (by decide) ?_
        exact e_i X hr hlk hh ⟨so_e hf, rfl⟩ dX0_spelling_53
      · have hf := if_f hc17 hf
        refine lv_iload hx hb dX0_spelling_41 (lv_at hl 0 rfl) ?_
        refine lv_iconst (v := (1 : Int32)) hx hb dX0_spelling_43 (by decide) ?_
        refine jn_W (P := fun j19 => j19 = some r → ∀ (H : Heap) (locs : List Loc) (ls : Array Slot), Hp B D n w s H locs → lv_has ls 6 [(0, .ref (B + t)), (1, .int x1), (2, .int x2), (3, .int x6), (4, .int x7), (5, .int v16)] → W p l e (rmk 2 44 0 0) s m args below meth c H locs 0 0 (MZ below B D n w (some (.int r)) args s 0 0) (F0 m 54 ls [])) hf (fun  hf  H locs ls hh hl => ?_) (fun j19 hj19 hf => ?_)
        · refine lv_iload hx hb dX0_spelling_54 (lv_at hl 5 rfl) ?_
          refine lv_iconst (v := (1 : Int32)) hx hb dX0_spelling_56 (by decide) ?_
          refine mg_W (P := fun (x21 : Int32) => ∀ (ls : Array Slot), lv_has ls 6 [(0, .ref (B + t)), (1, .int x1), (2, .int x2), (3, .int x21), (4, .int x7)] → W p l e (rmk 2 44 0 0) s m args below meth c H locs 0 0 (MZ below B D n w (some (.int r)) args s 0 0) (F0 m 63 ls [])) hf (fun x21 hf ls hl => ?_) (fun hj24 => ?_)
          · obtain ⟨x22, e23⟩ : ∃ y : Int32, y = (x7 + (1 : Int32)) := ⟨_, rfl⟩
            have hf := lt_e e23 hf
            refine lv_iinc (v := x22) (lv' := [(4, .int x22), (0, .ref (B + t)), (1, .int x1), (2, .int x2), (3, .int x21)]) hx hb dX0_spelling_63 hl (k := 4) rfl (by rw [e23]; rfl) (by decide) rfl (fun ls hl => ?_)
            refine lv_goto (tgt := 17) hx hb dX0_spelling_66 (by decide) ?_
            exact ih9 _ _ hf  _ _ _ hh (lv_sub hl [1, 2, 3, 4, 0] rfl)
          · refine lv_icmp_ne (tgt := 63) hx hb dX0_spelling_57 (by decide) (fun hc20 => ?_) (fun hc20 => ?_)
            · exact hj24 _ (by rw [if_neg hc20]) ls (lv_sub hl [0, 1, 2, 3, 4] rfl)
            · refine lv_iload hx hb dX0_spelling_60 (lv_at hl 4 rfl) ?_
              refine lv_istore_n (lv' := [(3, .int x7), (0, .ref (B + t)), (1, .int x1), (2, .int x2), (4, .int x7), (5, .int v16)]) hx hb dX0_spelling_62 rfl hl (by decide) rfl (fun ls hl => ?_)
              exact hj24 _ (by rw [if_pos hc20]) ls (lv_sub hl [1, 2, 3, 0, 4] rfl)
        · refine lv_icmp_ne (tgt := 54) hx hb dX0_spelling_44 (by decide) (fun hc18 => ?_) (fun hc18 => ?_)
          · have hf := if_f hc18 hf
            exact hj19  hf  _ _ _ hh (lv_sub hl [1, 2, 3, 4, 5, 0] rfl)
          · have hf := if_t hc18 hf
            refine lv_iload_n hx hb dX0_spelling_47 rfl (lv_at hl 4 rfl) ?_
            refine lv_if_le (tgt := 54) hx hb dX0_spelling_48 (by decide) (fun hc25 => ?_) (fun hc25 => ?_)
            · have hf := if_t hc25 hf
              exact hj19  hf  _ _ _ hh (lv_sub hl [1, 2, 3, 4, 5, 0] rfl)
            · have hf := if_f hc25 hf
              refine lv_bipush (v := (-2 : Int32)) hx hb dX0_spelling_51 (by decide) ?_
              exact e_i X hr hlk hh ⟨so_e hf, rfl⟩ dX0_spelling_53
end
section
set_option maxHeartbeats 4000000 in
set_option maxRecDepth 100000 in
theorem m_X5_makeEmpty (l : Launch) (B : Nat) (D : DD) {n : Nat} (hN : 139 ≤ n) {t : Nat} {w : Wd} {w' : Wd} (ht : t < n ∧ kd t = 5) (hf : f_X5_makeEmpty t w = some w') : Ct l yX5_makeEmpty cX5_makeEmpty 1 none 0 0 0 0 B D [.ref (B + t)] n w none n w' := by
  refine m_of (by decide) (Nat.le_of_ble_eq_true rfl) (fun p e s m args below meth c X hml hr hlk _ H locs hh ls hl => ?_)
  have hx := X.1
  have hb := X.2.1
  have hl : lv_has ls 1 [(0, .ref (B + t))] := hl
  unfold f_X5_makeEmpty at hf
  refine lv_aload_n hx hb dX5_makeEmpty_0 rfl (lv_at hl 0 rfl) ?_
  refine lv_iconst (v := (0 : Int32)) hx hb dX5_makeEmpty_1 (by decide) ?_
  refine q_pi X hh ht fk_X5_15 pk_5_1 rfl rfl dX5_makeEmpty_2 hf (fun w1 H locs hf hh => ?_)
  refine lv_aload_n hx hb dX5_makeEmpty_5 rfl (lv_at hl 0 rfl) ?_
  refine lv_iconst (v := (0 : Int32)) hx hb dX5_makeEmpty_6 (by decide) ?_
  refine q_pi X hh ht fk_X5_19 pk_5_2 rfl rfl dX5_makeEmpty_7 hf (fun w2 H locs hf hh => ?_)
  exact e_v X hr hlk hh ⟨rfl, so_e hf⟩ dX5_makeEmpty_10
set_option maxHeartbeats 4000000 in
set_option maxRecDepth 100000 in
theorem m_X5_partAt (l : Launch) (B : Nat) (D : DD) {n : Nat} (hN : 139 ≤ n) {t : Nat} {a0 : Int32} {w : Wd} {r : Int32} (ht : t < n ∧ kd t = 5) (hf : f_X5_partAt t a0 w = some r) : Ct l yX5_partAt cX5_partAt 2 (some .int) 0 0 0 0 B D [.ref (B + t), .int a0] n w (some (.int r)) n w := by
  refine m_of (by decide) (Nat.le_of_ble_eq_true rfl) (fun p e s m args below meth c X hml hr hlk _ H locs hh ls hl => ?_)
  have hx := X.1
  have hb := X.2.1
  have hl : lv_has ls 2 [(0, .ref (B + t)), (1, .int a0)] := hl
  unfold f_X5_partAt at hf
  refine lv_iload_n hx hb dX5_partAt_0 rfl (lv_at hl 1 rfl) ?_
  refine jn_W (P := fun j2 => j2 = some r → ∀ (H : Heap) (locs : List Loc) (ls : Array Slot), Hp B D n w s H locs → lv_has ls 2 [] → W p l e (rmk 0 0 0 0) s m args below meth c H locs 0 0 (MZ below B D n w (some (.int r)) args s 0 0) (F0 m 21 ls [])) hf (fun  hf  H locs ls hh hl => ?_) (fun j2 hj2 hf => ?_)
  · refine lv_iconst (v := (0 : Int32)) hx hb dX5_partAt_21 (by decide) ?_
    exact e_i X hr hlk hh ⟨so_e hf, rfl⟩ dX5_partAt_22
  · refine lv_if_lt (tgt := 21) hx hb dX5_partAt_1 (by decide) (fun hc1 => ?_) (fun hc1 => ?_)
    · have hf := if_t hc1 hf
      exact hj2  hf  _ _ _ hh (lv_sub hl [] rfl)
    · have hf := if_f hc1 hf
      refine lv_iload_n hx hb dX5_partAt_4 rfl (lv_at hl 1 rfl) ?_
      refine lv_aload_n hx hb dX5_partAt_5 rfl (lv_at hl 0 rfl) ?_
      refine r_gi X hh ht fk_X5_15 dX5_partAt_6 ?_
      refine lv_icmp_ge (tgt := 21) hx hb dX5_partAt_9 (by decide) (fun hc3 => ?_) (fun hc3 => ?_)
      · have hf := if_t hc3 hf
        exact hj2  hf  _ _ _ hh (lv_sub hl [] rfl)
      · have hf := if_f hc3 hf
        refine lv_aload_n hx hb dX5_partAt_12 rfl (lv_at hl 0 rfl) ?_
        refine q_gr (P := 9) X hh ht fk_X5_9 dX5_partAt_13 hN hf (fun t4 h5 hf => ?_)
        refine lv_iload_n hx hb dX5_partAt_16 rfl (lv_at hl 1 rfl) ?_
        refine q_ald X hh h5 dX5_partAt_17 hf (fun hf => ?_)
        refine lv_topi (fun x7 e8 => ?_)
        have hf := lt_e e8 hf
        refine lv_goto (tgt := 22) hx hb dX5_partAt_18 (by decide) ?_
        exact e_i X hr hlk hh ⟨so_e hf, rfl⟩ dX5_partAt_22
set_option maxHeartbeats 4000000 in
set_option maxRecDepth 100000 in
theorem m_X5_grownPart (l : Launch) (B : Nat) (D : DD) {n : Nat} (hN : 139 ≤ n) {a0 : Int32} {a1 : Int32} {a2 : Int32} {a3 : Int32} {a4 : Int32} {w : Wd} {r : Int32} (hf : f_X5_grownPart a0 a1 a2 a3 a4 = some r) : Ct l yX5_grownPart cX5_grownPart 5 (some .int) 1 21 0 0 B D [.int a0, .int a1, .int a2, .int a3, .int a4] n w (some (.int r)) n w := by
  refine m_of (by decide) (Nat.le_of_ble_eq_true rfl) (fun p e s m args below meth c X hml hr hlk _ H locs hh ls hl => ?_)
  have hx := X.1
  have hb := X.2.1
  have hl : lv_has ls 5 [(0, .int a0), (1, .int a1), (2, .int a2), (3, .int a3), (4, .int a4)] := hl
  unfold f_X5_grownPart at hf
  refine lv_iload_n hx hb dX5_grownPart_0 rfl (lv_at hl 0 rfl) ?_
  by_cases hc1 : a0.toInt = 0
  · have hf := if_t hc1 hf
    refine lv_tableIn (off := 27) (tgt := 28) hx hb dX5_grownPart_1 (by omega) (by omega) (by rw [hc1]; rfl) (by decide) ?_
    refine lv_iload_n hx hb dX5_grownPart_28 rfl (lv_at hl 2 rfl) ?_
    refine lv_iload_n hx hb dX5_grownPart_29 rfl (lv_at hl 3 rfl) ?_
    refine q_max X hml hl.1 k_292 (Nat.le_of_ble_eq_true rfl) ⟨Nat.le_of_ble_eq_true rfl, Nat.le_of_ble_eq_true rfl⟩ ⟨Nat.zero_le _, Nat.zero_le _⟩ dX5_grownPart_30 ?_
    refine lv_topi (fun x2 e3 => ?_)
    have hf := lt_e e3 hf
    refine lv_iload hx hb dX5_grownPart_33 (lv_at hl 4 rfl) ?_
    refine lv_iadd hx hb dX5_grownPart_35 ?_
    exact e_i X hr hlk hh ⟨so_e hf, rfl⟩ dX5_grownPart_36
  · have hf := if_f hc1 hf
    by_cases hc4 : a0.toInt = 1
    · have hf := if_t hc4 hf
      refine lv_tableIn (off := 36) (tgt := 37) hx hb dX5_grownPart_1 (by omega) (by omega) (by rw [hc4]; rfl) (by decide) ?_
      refine lv_iload_n hx hb dX5_grownPart_37 rfl (lv_at hl 2 rfl) ?_
      refine lv_iload hx hb dX5_grownPart_38 (lv_at hl 4 rfl) ?_
      refine lv_iadd hx hb dX5_grownPart_40 ?_
      refine lv_iload_n hx hb dX5_grownPart_41 rfl (lv_at hl 3 rfl) ?_
      refine q_max X hml hl.1 k_292 (Nat.le_of_ble_eq_true rfl) ⟨Nat.le_of_ble_eq_true rfl, Nat.le_of_ble_eq_true rfl⟩ ⟨Nat.zero_le _, Nat.zero_le _⟩ dX5_grownPart_42 ?_
      refine lv_topi (fun x5 e6 => ?_)
      have hf := lt_e e6 hf
      exact e_i X hr hlk hh ⟨so_e hf, rfl⟩ dX5_grownPart_45
    · have hf := if_f hc4 hf
      by_cases hc7 : a0.toInt = 2
      · have hf := if_t hc7 hf
        refine lv_tableIn (off := 45) (tgt := 46) hx hb dX5_grownPart_1 (by omega) (by omega) (by rw [hc7]; rfl) (by decide) ?_
        refine lv_iload_n hx hb dX5_grownPart_46 rfl (lv_at hl 2 rfl) ?_
        refine lv_iload_n hx hb dX5_grownPart_47 rfl (lv_at hl 3 rfl) ?_
        refine lv_iload hx hb dX5_grownPart_48 (lv_at hl 4 rfl) ?_
        refine lv_iadd hx hb dX5_grownPart_50 ?_
        refine q_max X hml hl.1 k_292 (Nat.le_of_ble_eq_true rfl) ⟨Nat.le_of_ble_eq_true rfl, Nat.le_of_ble_eq_true rfl⟩ ⟨Nat.zero_le _, Nat.zero_le _⟩ dX5_grownPart_51 ?_
        refine lv_topi (fun x8 e9 => ?_)
        have hf := lt_e e9 hf
        exact e_i X hr hlk hh ⟨so_e hf, rfl⟩ dX5_grownPart_54
      · have hf := if_f hc7 hf
        refine lv_tableOut (tgt := 55) hx hb dX5_grownPart_1 (by omega) (by decide) ?_
        refine lv_iload_n hx hb dX5_grownPart_55 rfl (lv_at hl 2 rfl) ?_
        refine lv_iload_n hx hb dX5_grownPart_56 rfl (lv_at hl 3 rfl) ?_
        refine q_max X hml hl.1 k_292 (Nat.le_of_ble_eq_true rfl) ⟨Nat.le_of_ble_eq_true rfl, Nat.le_of_ble_eq_true rfl⟩ ⟨Nat.zero_le _, Nat.zero_le _⟩ dX5_grownPart_57 ?_
        refine lv_topi (fun x10 e11 => ?_)
        have hf := lt_e e11 hf
        refine lv_iload hx hb dX5_grownPart_60 (lv_at hl 4 rfl) ?_
        refine lv_iload_n hx hb dX5_grownPart_62 rfl (lv_at hl 1 rfl) ?_
        refine lv_iload_n hx hb dX5_grownPart_63 rfl (lv_at hl 2 rfl) ?_
        refine mg_W (P := fun (x14 : Int32) => ∀ (ls : Array Slot), lv_has ls 5 [] → W p l e (rmk 1 21 0 0) s m args below meth c H locs 0 0 (MZ below B D n w (some (.int r)) args s 0 0) (F0 m 77 ls [.int x14, .int a4, .int x10])) hf (fun x14 hf ls hl => ?_) (fun hj17 => ?_)
        · refine q_min X hml hl.1 k_295 (Nat.le_of_ble_eq_true rfl) ⟨Nat.le_of_ble_eq_true rfl, Nat.le_of_ble_eq_true rfl⟩ ⟨Nat.zero_le _, Nat.zero_le _⟩ dX5_grownPart_77 ?_
          refine lv_topi (fun x15 e16 => ?_)
          have hf := lt_e e16 hf
          refine lv_iadd hx hb dX5_grownPart_80 ?_
          exact e_i X hr hlk hh ⟨so_e hf, rfl⟩ dX5_grownPart_81
        · refine lv_icmp_ne (tgt := 76) hx hb dX5_grownPart_64 (by decide) (fun hc12 => ?_) (fun hc12 => ?_)
          · refine lv_iconst (v := (0 : Int32)) hx hb dX5_grownPart_76 (by decide) ?_
            exact hj17 _ (by rw [if_neg hc12]) ls (lv_sub hl [] rfl)
          · refine lv_iload_n hx hb dX5_grownPart_67 rfl (lv_at hl 2 rfl) ?_
            refine lv_iload_n hx hb dX5_grownPart_68 rfl (lv_at hl 3 rfl) ?_
            refine lv_icmp_ne (tgt := 76) hx hb dX5_grownPart_69 (by decide) (fun hc13 => ?_) (fun hc13 => ?_)
            · refine lv_iconst (v := (0 : Int32)) hx hb dX5_grownPart_76 (by decide) ?_
              exact hj17 _ (by rw [if_pos hc12, if_neg hc13]) ls (lv_sub hl [] rfl)
            · refine lv_iconst (v := (1 : Int32)) hx hb dX5_grownPart_72 (by decide) ?_
              refine lv_goto (tgt := 77) hx hb dX5_grownPart_73 (by decide) ?_
              exact hj17 _ (by rw [if_pos hc12, if_pos hc13]) ls (lv_sub hl [] rfl)
set_option maxHeartbeats 4000000 in
set_option maxRecDepth 100000 in
theorem m_X5_growFrom (l : Launch) (B : Nat) (D : DD) {n : Nat} (hN : 139 ≤ n) {t : Nat} {a0 : Nat} {a1 : Nat} {a2 : Nat} {a3 : Int32} {a4 : Int32} {w : Wd} {w' : Wd} (ht : t < n ∧ kd t = 5) (ha0 : a0 < n ∧ kd a0 = 5) (ha1 : a1 < n ∧ kd a1 = 5) (ha2 : a2 < n ∧ kd a2 = 5) (hf : f_X5_growFrom t a0 a1 a2 a3 a4 w = some w') : Ct l yX5_growFrom cX5_growFrom 12 none 2 45 0 0 B D [.ref (B + t), .ref (B + a0), .ref (B + a1), .ref (B + a2), .int a3, .int a4] n w none n w' := by
  refine m_of (by decide) (Nat.le_of_ble_eq_true rfl) (fun p e s m args below meth c X hml hr hlk _ H locs hh ls hl => ?_)
  have hx := X.1
  have hb := X.2.1
  have hl : lv_has ls 12 [(0, .ref (B + t)), (1, .ref (B + a0)), (2, .ref (B + a1)), (3, .ref (B + a2)), (4, .int a3), (5, .int a4)] := hl
  unfold f_X5_growFrom at hf
  refine lv_aload_n hx hb dX5_growFrom_0 rfl (lv_at hl 0 rfl) ?_
  obtain ⟨w2, hc1, hf⟩ := c1_e hf
  refine q_V (w' := w2) (rest := []) X hml hh none (m_X5_makeEmpty l B D hN ht hc1) cf_X5_makeEmpty k_284 ht ci_5 rfl rfl hl.1 rfl (Nat.le_of_ble_eq_true rfl) ⟨Nat.le_of_ble_eq_true rfl, Nat.le_of_ble_eq_true rfl⟩ ⟨Nat.zero_le _, Nat.zero_le _⟩ dX5_growFrom_1 rfl (fun H locs hh => ?_)
  refine lv_iload hx hb dX5_growFrom_4 (lv_at hl 4 rfl) ?_
  refine lv_istore (lv' := [(6, .int a3), (0, .ref (B + t)), (1, .ref (B + a0)), (2, .ref (B + a1)), (3, .ref (B + a2)), (4, .int a3), (5, .int a4)]) hx hb dX5_growFrom_6 hl (by decide) rfl (fun ls hl => ?_)
  refine lv_iconst (v := (0 : Int32)) hx hb dX5_growFrom_8 (by decide) ?_
  refine lv_istore (lv' := [(7, .int (0 : Int32)), (6, .int a3), (0, .ref (B + t)), (1, .ref (B + a0)), (2, .ref (B + a1)), (3, .ref (B + a2)), (4, .int a3), (5, .int a4)]) hx hb dX5_growFrom_9 hl (by decide) rfl (fun ls hl => ?_)
  refine wl3_W (P := fun (x3 : Int32) (x4 : Int32) (w5 : Wd) => ∀ (H : Heap) (locs : List Loc) (ls : Array Slot), Hp B D n w5 s H locs → lv_has ls 12 [(0, .ref (B + t)), (1, .ref (B + a0)), (2, .ref (B + a1)), (3, .ref (B + a2)), (5, .int a4), (6, .int x3), (7, .int x4)] → W p l e (rmk 2 45 0 0) s m args below meth c H locs 0 0 (MZ below B D n w' none args s 0 0) (F0 m 11 ls [])) hf (fun x3 x4 w5 k6 ih7 hf  H locs ls hh hl => ?_)  _ _ _ hh (lv_sub hl [2, 3, 4, 5, 7, 1, 0] rfl)
  refine lv_iload hx hb dX5_growFrom_11 (lv_at hl 6 rfl) ?_
  refine lv_bipush (v := (75 : Int32)) hx hb dX5_growFrom_13 (by decide) ?_
  refine lv_icmp_ge (tgt := 115) hx hb dX5_growFrom_15 (by decide) (fun hc8 => ?_) (fun hc8 => ?_)
  · have hf := if_t hc8 hf
    exact e_v X hr hlk hh ⟨rfl, so_e hf⟩ dX5_growFrom_115
  · have hf := if_f hc8 hf
    refine lv_aload_n hx hb dX5_growFrom_18 rfl (lv_at hl 1 rfl) ?_
    refine lv_iload hx hb dX5_growFrom_19 (lv_at hl 6 rfl) ?_
    obtain ⟨v10, hc9, hf⟩ := c1_e hf
    refine q_V (w' := w5) (rest := []) X hml hh (some (.int v10)) (m_X5_partAt l B D hN ha0 hc9) cf_X5_partAt k_285 ha0 ci_5 rfl rfl hl.1 rfl (Nat.le_of_ble_eq_true rfl) ⟨Nat.le_of_ble_eq_true rfl, Nat.le_of_ble_eq_true rfl⟩ ⟨Nat.zero_le _, Nat.zero_le _⟩ dX5_growFrom_21 rfl (fun H locs hh => ?_)
    refine lv_istore (lv' := [(8, .int v10), (0, .ref (B + t)), (1, .ref (B + a0)), (2, .ref (B + a1)), (3, .ref (B + a2)), (5, .int a4), (6, .int x3), (7, .int x4)]) hx hb dX5_growFrom_24 hl (by decide) rfl (fun ls hl => ?_)
    refine lv_aload_n hx hb dX5_growFrom_26 rfl (lv_at hl 3 rfl) ?_
    refine lv_iload hx hb dX5_growFrom_27 (lv_at hl 7 rfl) ?_
    obtain ⟨v12, hc11, hf⟩ := c1_e hf
    refine q_V (w' := w5) (rest := []) X hml hh (some (.int v12)) (m_X5_partAt l B D hN ha1 hc11) cf_X5_partAt k_285 ha1 ci_5 rfl rfl hl.1 rfl (Nat.le_of_ble_eq_true rfl) ⟨Nat.le_of_ble_eq_true rfl, Nat.le_of_ble_eq_true rfl⟩ ⟨Nat.zero_le _, Nat.zero_le _⟩ dX5_growFrom_29 rfl (fun H locs hh => ?_)
    refine lv_istore (lv' := [(9, .int v12), (8, .int v10), (0, .ref (B + t)), (1, .ref (B + a0)), (2, .ref (B + a1)), (3, .ref (B + a2)), (5, .int a4), (6, .int x3), (7, .int x4)]) hx hb dX5_growFrom_32 hl (by decide) rfl (fun ls hl => ?_)
    refine lv_aload_n hx hb dX5_growFrom_34 rfl (lv_at hl 5 rfl) ?_
    refine lv_iload hx hb dX5_growFrom_35 (lv_at hl 8 rfl) ?_
    obtain ⟨v14, hc13, hf⟩ := c1_e hf
    refine q_V (w' := w5) (rest := []) X hml hh (some (.int v14)) (m_X5_partAt l B D hN ha2 hc13) cf_X5_partAt k_285 ha2 ci_5 rfl rfl hl.1 rfl (Nat.le_of_ble_eq_true rfl) ⟨Nat.le_of_ble_eq_true rfl, Nat.le_of_ble_eq_true rfl⟩ ⟨Nat.zero_le _, Nat.zero_le _⟩ dX5_growFrom_37 rfl (fun H locs hh => ?_)
    refine lv_istore (lv' := [(10, .int v14), (9, .int v12), (8, .int v10), (0, .ref (B + t)), (1, .ref (B + a0)), (2, .ref (B + a1)), (3, .ref (B + a2)), (5, .int a4), (6, .int x3), (7, .int x4)]) hx hb dX5_growFrom_40 hl (by decide) rfl (fun ls hl => ?_)
    refine lv_iload hx hb dX5_growFrom_42 (lv_at hl 7 rfl) ?_
    refine lv_iload hx hb dX5_growFrom_44 (lv_at hl 2 rfl) ?_
    refine lv_iload hx hb dX5_growFrom_46 (lv_at hl 1 rfl) ?_
    refine lv_iload hx hb dX5_growFrom_48 (lv_at hl 0 rfl) ?_
    refine lv_iload hx hb dX5_growFrom_50 (lv_at hl 8 rfl) ?_
    obtain ⟨v16, hc15, hf⟩ := c1_e hf
    refine q_S (w' := w5) (rest := []) X hml hh (some (.int v16)) (m_X5_grownPart l B D hN hc15) cf_X5_grownPart k_289 rfl hl.1 rfl (Nat.le_of_ble_eq_true rfl) ⟨Nat.le_of_ble_eq_true rfl, Nat.le_of_ble_eq_true rfl⟩ ⟨Nat.zero_le _, Nat.zero_le _⟩ dX5_growFrom_52 rfl (fun H locs hh => ?_)
    refine lv_istore (lv' := [(11, .int v16), (10, .int v14), (9, .int v12), (8, .int v10), (0, .ref (B + t)), (1, .ref (B + a0)), (2, .ref (B + a1)), (3, .ref (B + a2)), (5, .int a4), (6, .int x3), (7, .int x4)]) hx hb dX5_growFrom_55 hl (by decide) rfl (fun ls hl => ?_)
    refine lv_iload hx hb dX5_growFrom_57 (lv_at hl 0 rfl) ?_
    refine lv_if_gt (tgt := 65) hx hb dX5_growFrom_59 (by decide) (fun hc17 => ?_) (fun hc17 => ?_)
    · have hf := if_t hc17 hf
      refine lv_aload_n hx hb dX5_growFrom_65 rfl (lv_at hl 4 rfl) ?_
      refine q_gr (P := 9) X hh ht fk_X5_9 dX5_growFrom_66 hN hf (fun t18 h19 hf => ?_)
      refine lv_iload hx hb dX5_growFrom_69 (lv_at hl 10 rfl) ?_
      refine lv_iload hx hb dX5_growFrom_71 (lv_at hl 0 rfl) ?_
      refine q_ast X hh h19 dX5_growFrom_73 hf (fun w21 H locs hf hh => ?_)
      refine lv_aload_n hx hb dX5_growFrom_74 rfl (lv_at hl 4 rfl) ?_
      refine lv_iload hx hb dX5_growFrom_75 (lv_at hl 10 rfl) ?_
      refine lv_iconst (v := (1 : Int32)) hx hb dX5_growFrom_77 (by decide) ?_
      refine lv_iadd hx hb dX5_growFrom_78 ?_
      refine q_pi X hh ht fk_X5_15 pk_5_1 rfl rfl dX5_growFrom_79 hf (fun w22 H locs hf hh => ?_)
      refine lv_aload_n hx hb dX5_growFrom_82 rfl (lv_at hl 4 rfl) ?_
      refine lv_dup hx hb dX5_growFrom_83 rfl ?_
      refine r_gi X hh ht fk_X5_19 dX5_growFrom_84 ?_
      refine lv_iload hx hb dX5_growFrom_87 (lv_at hl 0 rfl) ?_
      refine lv_iadd hx hb dX5_growFrom_89 ?_
      refine q_pi X hh ht fk_X5_19 pk_5_2 rfl rfl dX5_growFrom_90 hf (fun w23 H locs hf hh => ?_)
      refine lv_iload hx hb dX5_growFrom_93 (lv_at hl 9 rfl) ?_
      refine lv_iload hx hb dX5_growFrom_95 (lv_at hl 2 rfl) ?_
      refine lv_iload hx hb dX5_growFrom_97 (lv_at hl 1 rfl) ?_
      refine lv_iadd hx hb dX5_growFrom_99 ?_
      refine lv_iload hx hb dX5_growFrom_100 (lv_at hl 3 rfl) ?_
      refine lv_isub hx hb dX5_growFrom_102 ?_
      refine lv_iload hx hb dX5_growFrom_103 (lv_at hl 0 rfl) ?_
      refine lv_isub hx hb dX5_growFrom_105 ?_
      refine lv_iadd hx hb dX5_growFrom_106 ?_
      refine lv_topi (fun x24 e25 => ?_)
      have hf := lt_e e25 hf
      refine lv_istore (lv' := [(6, .int x24), (11, .int v16), (10, .int v14), (9, .int v12), (8, .int v10), (0, .ref (B + t)), (1, .ref (B + a0)), (2, .ref (B + a1)), (3, .ref (B + a2)), (5, .int a4), (7, .int x4)]) hx hb dX5_growFrom_107 hl (by decide) rfl (fun ls hl => ?_)
      obtain ⟨x26, e27⟩ : ∃ y : Int32, y = (x4 + (1 : Int32)) := ⟨_, rfl⟩
      have hf := lt_e e27 hf
      refine lv_iinc (v := x26) (lv' := [(7, .int x26), (6, .int x24), (11, .int v16), (10, .int v14), (9, .int v12), (8, .int v10), (0, .ref (B + t)), (1, .ref (B + a0)), (2, .ref (B + a1)), (3, .ref (B + a2)), (5, .int a4)]) hx hb dX5_growFrom_109 hl (k := 10) rfl (by rw [e27]; rfl) (by decide) rfl (fun ls hl => ?_)
      refine lv_goto (tgt := 11) hx hb dX5_growFrom_112 (by decide) ?_
      exact ih7 _ _ _ hf  _ _ _ hh (lv_sub hl [6, 7, 8, 9, 10, 1, 0] rfl)
    · have hf := if_f hc17 hf
      refine lv_goto (tgt := 115) hx hb dX5_growFrom_62 (by decide) ?_
      exact e_v X hr hlk hh ⟨rfl, so_e hf⟩ dX5_growFrom_115
set_option maxHeartbeats 4000000 in
set_option maxRecDepth 100000 in
theorem m_X5_formerPart (l : Launch) (B : Nat) (D : DD) {n : Nat} (hN : 139 ≤ n) {a0 : Int32} {a1 : Int32} {a2 : Int32} {a3 : Int32} {a4 : Int32} {w : Wd} {r : Int32} (hf : f_X5_formerPart a0 a1 a2 a3 a4 = some r) : Ct l yX5_formerPart cX5_formerPart 5 (some .int) 1 21 0 0 B D [.int a0, .int a1, .int a2, .int a3, .int a4] n w (some (.int r)) n w := by
  refine m_of (by decide) (Nat.le_of_ble_eq_true rfl) (fun p e s m args below meth c X hml hr hlk _ H locs hh ls hl => ?_)
  have hx := X.1
  have hb := X.2.1
  have hl : lv_has ls 5 [(0, .int a0), (1, .int a1), (2, .int a2), (3, .int a3), (4, .int a4)] := hl
  unfold f_X5_formerPart at hf
  refine lv_iload_n hx hb dX5_formerPart_0 rfl (lv_at hl 0 rfl) ?_
  by_cases hc1 : a0.toInt = 0
  · have hf := if_t hc1 hf
    refine lv_tableIn (off := 27) (tgt := 28) hx hb dX5_formerPart_1 (by omega) (by omega) (by rw [hc1]; rfl) (by decide) ?_
    refine lv_iload_n hx hb dX5_formerPart_28 rfl (lv_at hl 2 rfl) ?_
    refine lv_iload_n hx hb dX5_formerPart_29 rfl (lv_at hl 3 rfl) ?_
    refine q_min X hml hl.1 k_295 (Nat.le_of_ble_eq_true rfl) ⟨Nat.le_of_ble_eq_true rfl, Nat.le_of_ble_eq_true rfl⟩ ⟨Nat.zero_le _, Nat.zero_le _⟩ dX5_formerPart_30 ?_
    refine lv_topi (fun x2 e3 => ?_)
    have hf := lt_e e3 hf
    refine lv_iload hx hb dX5_formerPart_33 (lv_at hl 4 rfl) ?_
    refine lv_isub hx hb dX5_formerPart_35 ?_
    exact e_i X hr hlk hh ⟨so_e hf, rfl⟩ dX5_formerPart_36
  · have hf := if_f hc1 hf
    by_cases hc4 : a0.toInt = 1
    · have hf := if_t hc4 hf
      refine lv_tableIn (off := 36) (tgt := 37) hx hb dX5_formerPart_1 (by omega) (by omega) (by rw [hc4]; rfl) (by decide) ?_
      refine lv_iload_n hx hb dX5_formerPart_37 rfl (lv_at hl 2 rfl) ?_
      refine lv_iload_n hx hb dX5_formerPart_38 rfl (lv_at hl 3 rfl) ?_
      refine lv_iload hx hb dX5_formerPart_39 (lv_at hl 4 rfl) ?_
      refine lv_isub hx hb dX5_formerPart_41 ?_
      refine q_min X hml hl.1 k_295 (Nat.le_of_ble_eq_true rfl) ⟨Nat.le_of_ble_eq_true rfl, Nat.le_of_ble_eq_true rfl⟩ ⟨Nat.zero_le _, Nat.zero_le _⟩ dX5_formerPart_42 ?_
      refine lv_topi (fun x5 e6 => ?_)
      have hf := lt_e e6 hf
      exact e_i X hr hlk hh ⟨so_e hf, rfl⟩ dX5_formerPart_45
    · have hf := if_f hc4 hf
      by_cases hc7 : a0.toInt = 2
      · have hf := if_t hc7 hf
        refine lv_tableIn (off := 45) (tgt := 46) hx hb dX5_formerPart_1 (by omega) (by omega) (by rw [hc7]; rfl) (by decide) ?_
        refine lv_iload_n hx hb dX5_formerPart_46 rfl (lv_at hl 2 rfl) ?_
        refine lv_iload hx hb dX5_formerPart_47 (lv_at hl 4 rfl) ?_
        refine lv_isub hx hb dX5_formerPart_49 ?_
        refine lv_iload_n hx hb dX5_formerPart_50 rfl (lv_at hl 3 rfl) ?_
        refine q_min X hml hl.1 k_295 (Nat.le_of_ble_eq_true rfl) ⟨Nat.le_of_ble_eq_true rfl, Nat.le_of_ble_eq_true rfl⟩ ⟨Nat.zero_le _, Nat.zero_le _⟩ dX5_formerPart_51 ?_
        refine lv_topi (fun x8 e9 => ?_)
        have hf := lt_e e9 hf
        exact e_i X hr hlk hh ⟨so_e hf, rfl⟩ dX5_formerPart_54
      · have hf := if_f hc7 hf
        refine lv_tableOut (tgt := 55) hx hb dX5_formerPart_1 (by omega) (by decide) ?_
        refine lv_iload_n hx hb dX5_formerPart_55 rfl (lv_at hl 2 rfl) ?_
        refine lv_iload_n hx hb dX5_formerPart_56 rfl (lv_at hl 3 rfl) ?_
        refine q_min X hml hl.1 k_295 (Nat.le_of_ble_eq_true rfl) ⟨Nat.le_of_ble_eq_true rfl, Nat.le_of_ble_eq_true rfl⟩ ⟨Nat.zero_le _, Nat.zero_le _⟩ dX5_formerPart_57 ?_
        refine lv_topi (fun x10 e11 => ?_)
        have hf := lt_e e11 hf
        refine lv_iload hx hb dX5_formerPart_60 (lv_at hl 4 rfl) ?_
        refine lv_iload_n hx hb dX5_formerPart_62 rfl (lv_at hl 1 rfl) ?_
        refine lv_iload_n hx hb dX5_formerPart_63 rfl (lv_at hl 2 rfl) ?_
        refine mg_W (P := fun (x14 : Int32) => ∀ (ls : Array Slot), lv_has ls 5 [] → W p l e (rmk 1 21 0 0) s m args below meth c H locs 0 0 (MZ below B D n w (some (.int r)) args s 0 0) (F0 m 77 ls [.int x14, .int a4, .int x10])) hf (fun x14 hf ls hl => ?_) (fun hj17 => ?_)
        · refine q_min X hml hl.1 k_295 (Nat.le_of_ble_eq_true rfl) ⟨Nat.le_of_ble_eq_true rfl, Nat.le_of_ble_eq_true rfl⟩ ⟨Nat.zero_le _, Nat.zero_le _⟩ dX5_formerPart_77 ?_
          refine lv_topi (fun x15 e16 => ?_)
          have hf := lt_e e16 hf
          refine lv_isub hx hb dX5_formerPart_80 ?_
          exact e_i X hr hlk hh ⟨so_e hf, rfl⟩ dX5_formerPart_81
        · refine lv_icmp_ne (tgt := 76) hx hb dX5_formerPart_64 (by decide) (fun hc12 => ?_) (fun hc12 => ?_)
          · refine lv_iconst (v := (0 : Int32)) hx hb dX5_formerPart_76 (by decide) ?_
            exact hj17 _ (by rw [if_neg hc12]) ls (lv_sub hl [] rfl)
          · refine lv_iload_n hx hb dX5_formerPart_67 rfl (lv_at hl 2 rfl) ?_
            refine lv_iload_n hx hb dX5_formerPart_68 rfl (lv_at hl 3 rfl) ?_
            refine lv_icmp_ne (tgt := 76) hx hb dX5_formerPart_69 (by decide) (fun hc13 => ?_) (fun hc13 => ?_)
            · refine lv_iconst (v := (0 : Int32)) hx hb dX5_formerPart_76 (by decide) ?_
              exact hj17 _ (by rw [if_pos hc12, if_neg hc13]) ls (lv_sub hl [] rfl)
            · refine lv_iconst (v := (1 : Int32)) hx hb dX5_formerPart_72 (by decide) ?_
              refine lv_goto (tgt := 77) hx hb dX5_formerPart_73 (by decide) ?_
              exact hj17 _ (by rw [if_pos hc12, if_pos hc13]) ls (lv_sub hl [] rfl)
set_option maxHeartbeats 4000000 in
set_option maxRecDepth 100000 in
theorem m_X5_goBackFrom (l : Launch) (B : Nat) (D : DD) {n : Nat} (hN : 139 ≤ n) {t : Nat} {a0 : Nat} {a1 : Nat} {a2 : Nat} {a3 : Int32} {w : Wd} {r : Int32} {w' : Wd} (ht : t < n ∧ kd t = 5) (ha0 : a0 < n ∧ kd a0 = 5) (ha1 : a1 < n ∧ kd a1 = 5) (ha2 : a2 < n ∧ kd a2 = 5) (hf : f_X5_goBackFrom t a0 a1 a2 a3 w = some (r, w')) : Ct l yX5_goBackFrom cX5_goBackFrom 11 (some .int) 2 45 0 0 B D [.ref (B + t), .ref (B + a0), .ref (B + a1), .ref (B + a2), .int a3] n w (some (.int r)) n w' := by
  refine m_of (by decide) (Nat.le_of_ble_eq_true rfl) (fun p e s m args below meth c X hml hr hlk _ H locs hh ls hl => ?_)
  have hx := X.1
  have hb := X.2.1
  have hl : lv_has ls 11 [(0, .ref (B + t)), (1, .ref (B + a0)), (2, .ref (B + a1)), (3, .ref (B + a2)), (4, .int a3)] := hl
  unfold f_X5_goBackFrom at hf
  refine lv_aload_n hx hb dX5_goBackFrom_0 rfl (lv_at hl 0 rfl) ?_
  refine lv_aload_n hx hb dX5_goBackFrom_1 rfl (lv_at hl 1 rfl) ?_
  refine r_gi X hh ha0 fk_X5_15 dX5_goBackFrom_2 ?_
  refine q_pi X hh ht fk_X5_15 pk_5_1 rfl rfl dX5_goBackFrom_5 hf (fun w1 H locs hf hh => ?_)
  refine lv_aload_n hx hb dX5_goBackFrom_8 rfl (lv_at hl 0 rfl) ?_
  refine lv_iconst (v := (0 : Int32)) hx hb dX5_goBackFrom_9 (by decide) ?_
  refine q_pi X hh ht fk_X5_19 pk_5_2 rfl rfl dX5_goBackFrom_10 hf (fun w2 H locs hf hh => ?_)
  refine lv_iconst (v := (0 : Int32)) hx hb dX5_goBackFrom_13 (by decide) ?_
  refine lv_istore (lv' := [(5, .int (0 : Int32)), (0, .ref (B + t)), (1, .ref (B + a0)), (2, .ref (B + a1)), (3, .ref (B + a2)), (4, .int a3)]) hx hb dX5_goBackFrom_14 hl (by decide) rfl (fun ls hl => ?_)
  refine lv_aload_n hx hb dX5_goBackFrom_16 rfl (lv_at hl 2 rfl) ?_
  refine r_gi X hh ha0 fk_X5_15 dX5_goBackFrom_17 ?_
  refine lv_iconst (v := (1 : Int32)) hx hb dX5_goBackFrom_20 (by decide) ?_
  refine lv_isub hx hb dX5_goBackFrom_21 ?_
  refine lv_topi (fun x3 e4 => ?_)
  have hf := lt_e e4 hf
  refine lv_istore (lv' := [(6, .int x3), (5, .int (0 : Int32)), (0, .ref (B + t)), (1, .ref (B + a0)), (2, .ref (B + a1)), (3, .ref (B + a2)), (4, .int a3)]) hx hb dX5_goBackFrom_22 hl (by decide) rfl (fun ls hl => ?_)
  refine wl3_W (P := fun (x5 : Int32) (x6 : Int32) (w7 : Wd) => ∀ (H : Heap) (locs : List Loc) (ls : Array Slot), Hp B D n w7 s H locs → lv_has ls 11 [(0, .ref (B + t)), (1, .ref (B + a0)), (2, .ref (B + a1)), (3, .ref (B + a2)), (4, .int a3), (5, .int x5), (6, .int x6)] → W p l e (rmk 2 45 0 0) s m args below meth c H locs 0 0 (MZ below B D n w' (some (.int r)) args s 0 0) (F0 m 24 ls [])) hf (fun x5 x6 w7 k8 ih9 hf  H locs ls hh hl => ?_)  _ _ _ hh (lv_sub hl [2, 3, 4, 5, 6, 1, 0] rfl)
  refine lv_iload hx hb dX5_goBackFrom_24 (lv_at hl 6 rfl) ?_
  refine lv_if_lt (tgt := 132) hx hb dX5_goBackFrom_26 (by decide) (fun hc10 => ?_) (fun hc10 => ?_)
  · have hf := if_t hc10 hf
    refine lv_iload hx hb dX5_goBackFrom_132 (lv_at hl 5 rfl) ?_
    exact e_i X hr hlk hh (so2_e hf) dX5_goBackFrom_134
  · have hf := if_f hc10 hf
    refine lv_aload_n hx hb dX5_goBackFrom_29 rfl (lv_at hl 1 rfl) ?_
    refine lv_iload hx hb dX5_goBackFrom_30 (lv_at hl 6 rfl) ?_
    obtain ⟨v12, hc11, hf⟩ := c1_e hf
    refine q_V (w' := w7) (rest := []) X hml hh (some (.int v12)) (m_X5_partAt l B D hN ha0 hc11) cf_X5_partAt k_285 ha0 ci_5 rfl rfl hl.1 rfl (Nat.le_of_ble_eq_true rfl) ⟨Nat.le_of_ble_eq_true rfl, Nat.le_of_ble_eq_true rfl⟩ ⟨Nat.zero_le _, Nat.zero_le _⟩ dX5_goBackFrom_32 rfl (fun H locs hh => ?_)
    refine lv_istore (lv' := [(7, .int v12), (0, .ref (B + t)), (1, .ref (B + a0)), (2, .ref (B + a1)), (3, .ref (B + a2)), (4, .int a3), (5, .int x5), (6, .int x6)]) hx hb dX5_goBackFrom_35 hl (by decide) rfl (fun ls hl => ?_)
    refine lv_aload_n hx hb dX5_goBackFrom_37 rfl (lv_at hl 3 rfl) ?_
    refine lv_iload hx hb dX5_goBackFrom_38 (lv_at hl 7 rfl) ?_
    obtain ⟨v14, hc13, hf⟩ := c1_e hf
    refine q_V (w' := w7) (rest := []) X hml hh (some (.int v14)) (m_X5_partAt l B D hN ha1 hc13) cf_X5_partAt k_285 ha1 ci_5 rfl rfl hl.1 rfl (Nat.le_of_ble_eq_true rfl) ⟨Nat.le_of_ble_eq_true rfl, Nat.le_of_ble_eq_true rfl⟩ ⟨Nat.zero_le _, Nat.zero_le _⟩ dX5_goBackFrom_40 rfl (fun H locs hh => ?_)
    refine lv_istore (lv' := [(8, .int v14), (7, .int v12), (0, .ref (B + t)), (1, .ref (B + a0)), (2, .ref (B + a1)), (3, .ref (B + a2)), (4, .int a3), (5, .int x5), (6, .int x6)]) hx hb dX5_goBackFrom_43 hl (by decide) rfl (fun ls hl => ?_)
    refine lv_aload_n hx hb dX5_goBackFrom_45 rfl (lv_at hl 5 rfl) ?_
    refine lv_iload hx hb dX5_goBackFrom_46 (lv_at hl 8 rfl) ?_
    obtain ⟨v16, hc15, hf⟩ := c1_e hf
    refine q_V (w' := w7) (rest := []) X hml hh (some (.int v16)) (m_X5_partAt l B D hN ha2 hc15) cf_X5_partAt k_285 ha2 ci_5 rfl rfl hl.1 rfl (Nat.le_of_ble_eq_true rfl) ⟨Nat.le_of_ble_eq_true rfl, Nat.le_of_ble_eq_true rfl⟩ ⟨Nat.zero_le _, Nat.zero_le _⟩ dX5_goBackFrom_48 rfl (fun H locs hh => ?_)
    refine lv_istore (lv' := [(9, .int v16), (8, .int v14), (7, .int v12), (0, .ref (B + t)), (1, .ref (B + a0)), (2, .ref (B + a1)), (3, .ref (B + a2)), (4, .int a3), (5, .int x5), (6, .int x6)]) hx hb dX5_goBackFrom_51 hl (by decide) rfl (fun ls hl => ?_)
    refine lv_iload hx hb dX5_goBackFrom_53 (lv_at hl 7 rfl) ?_
    refine lv_iload hx hb dX5_goBackFrom_55 (lv_at hl 2 rfl) ?_
    refine lv_iload hx hb dX5_goBackFrom_57 (lv_at hl 1 rfl) ?_
    refine lv_iload hx hb dX5_goBackFrom_59 (lv_at hl 0 rfl) ?_
    refine lv_iload hx hb dX5_goBackFrom_61 (lv_at hl 8 rfl) ?_
    obtain ⟨v18, hc17, hf⟩ := c1_e hf
    refine q_S (w' := w7) (rest := []) X hml hh (some (.int v18)) (m_X5_formerPart l B D hN hc17) cf_X5_formerPart k_363 rfl hl.1 rfl (Nat.le_of_ble_eq_true rfl) ⟨Nat.le_of_ble_eq_true rfl, Nat.le_of_ble_eq_true rfl⟩ ⟨Nat.zero_le _, Nat.zero_le _⟩ dX5_goBackFrom_63 rfl (fun H locs hh => ?_)
    refine lv_istore (lv' := [(10, .int v18), (9, .int v16), (8, .int v14), (7, .int v12), (0, .ref (B + t)), (1, .ref (B + a0)), (2, .ref (B + a1)), (3, .ref (B + a2)), (4, .int a3), (5, .int x5), (6, .int x6)]) hx hb dX5_goBackFrom_66 hl (by decide) rfl (fun ls hl => ?_)
    refine lv_aload_n hx hb dX5_goBackFrom_68 rfl (lv_at hl 4 rfl) ?_
    refine q_gr (P := 9) X hh ht fk_X5_9 dX5_goBackFrom_69 hN hf (fun t19 h20 hf => ?_)
    refine lv_iload hx hb dX5_goBackFrom_72 (lv_at hl 10 rfl) ?_
    refine lv_iload hx hb dX5_goBackFrom_74 (lv_at hl 0 rfl) ?_
    refine q_ast X hh h20 dX5_goBackFrom_76 hf (fun w22 H locs hf hh => ?_)
    refine lv_aload_n hx hb dX5_goBackFrom_77 rfl (lv_at hl 4 rfl) ?_
    refine lv_dup hx hb dX5_goBackFrom_78 rfl ?_
    refine r_gi X hh ht fk_X5_19 dX5_goBackFrom_79 ?_
    refine lv_iload hx hb dX5_goBackFrom_82 (lv_at hl 0 rfl) ?_
    refine lv_iadd hx hb dX5_goBackFrom_84 ?_
    refine q_pi X hh ht fk_X5_19 pk_5_2 rfl rfl dX5_goBackFrom_85 hf (fun w23 H locs hf hh => ?_)
    refine lv_iload hx hb dX5_goBackFrom_88 (lv_at hl 0 rfl) ?_
    refine jn_W (P := fun j26 => ∀ (w25 : Wd), j26 w25 = some (r, w') → ∀ (H : Heap) (locs : List Loc) (ls : Array Slot), Hp B D n w25 s H locs → lv_has ls 11 [(0, .ref (B + t)), (1, .ref (B + a0)), (2, .ref (B + a1)), (3, .ref (B + a2)), (4, .int a3), (5, .int x5), (6, .int x6), (7, .int v12), (8, .int v14), (9, .int v16), (10, .int v18)] → W p l e (rmk 2 45 0 0) s m args below meth c H locs 0 0 (MZ below B D n w' (some (.int r)) args s 0 0) (F0 m 110 ls [])) hf (fun w25 hf  H locs ls hh hl => ?_) (fun j26 hj26 hf => ?_)
    · refine lv_iload hx hb dX5_goBackFrom_110 (lv_at hl 5 rfl) ?_
      refine lv_iload hx hb dX5_goBackFrom_112 (lv_at hl 7 rfl) ?_
      refine lv_iload hx hb dX5_goBackFrom_114 (lv_at hl 10 rfl) ?_
      refine lv_iadd hx hb dX5_goBackFrom_116 ?_
      refine lv_iload hx hb dX5_goBackFrom_117 (lv_at hl 8 rfl) ?_
      refine lv_isub hx hb dX5_goBackFrom_119 ?_
      refine lv_iload hx hb dX5_goBackFrom_120 (lv_at hl 9 rfl) ?_
      refine lv_isub hx hb dX5_goBackFrom_122 ?_
      refine lv_iadd hx hb dX5_goBackFrom_123 ?_
      refine lv_topi (fun x27 e28 => ?_)
      have hf := lt_e e28 hf
      refine lv_istore (lv' := [(5, .int x27), (0, .ref (B + t)), (1, .ref (B + a0)), (2, .ref (B + a1)), (3, .ref (B + a2)), (4, .int a3), (6, .int x6), (7, .int v12), (8, .int v14), (9, .int v16), (10, .int v18)]) hx hb dX5_goBackFrom_124 hl (by decide) rfl (fun ls hl => ?_)
      obtain ⟨x29, e30⟩ : ∃ y : Int32, y = (x6 + (-1 : Int32)) := ⟨_, rfl⟩
      have hf := lt_e e30 hf
      refine lv_iinc (v := x29) (lv' := [(6, .int x29), (5, .int x27), (0, .ref (B + t)), (1, .ref (B + a0)), (2, .ref (B + a1)), (3, .ref (B + a2)), (4, .int a3), (7, .int v12), (8, .int v14), (9, .int v16), (10, .int v18)]) hx hb dX5_goBackFrom_126 hl (k := 6) rfl (by rw [e30]; rfl) (by decide) rfl (fun ls hl => ?_)
      refine lv_goto (tgt := 24) hx hb dX5_goBackFrom_129 (by decide) ?_
      exact ih9 _ _ _ hf  _ _ _ hh (lv_sub hl [2, 3, 4, 5, 6, 1, 0] rfl)
    · refine lv_if_ne (tgt := 110) hx hb dX5_goBackFrom_90 (by decide) (fun hc24 => ?_) (fun hc24 => ?_)
      · have hf := if_f hc24 hf
        exact hj26 _ hf  _ _ _ hh (lv_sub hl [4, 5, 6, 7, 8, 9, 10, 3, 2, 1, 0] rfl)
      · have hf := if_t hc24 hf
        refine lv_aload_n hx hb dX5_goBackFrom_93 rfl (lv_at hl 4 rfl) ?_
        refine r_gi X hh ht fk_X5_15 dX5_goBackFrom_94 ?_
        refine lv_iload hx hb dX5_goBackFrom_97 (lv_at hl 10 rfl) ?_
        refine lv_iconst (v := (1 : Int32)) hx hb dX5_goBackFrom_99 (by decide) ?_
        refine lv_iadd hx hb dX5_goBackFrom_100 ?_
        refine lv_icmp_ne (tgt := 110) hx hb dX5_goBackFrom_101 (by decide) (fun hc31 => ?_) (fun hc31 => ?_)
        · have hf := if_f hc31 hf
          exact hj26 _ hf  _ _ _ hh (lv_sub hl [4, 5, 6, 7, 8, 9, 10, 3, 2, 1, 0] rfl)
        · have hf := if_t hc31 hf
          refine lv_aload_n hx hb dX5_goBackFrom_104 rfl (lv_at hl 4 rfl) ?_
          refine lv_iload hx hb dX5_goBackFrom_105 (lv_at hl 10 rfl) ?_
          refine q_pi X hh ht fk_X5_15 pk_5_1 rfl rfl dX5_goBackFrom_107 hf (fun w32 H locs hf hh => ?_)
          exact hj26 _ hf  _ _ _ hh (lv_sub hl [4, 5, 6, 7, 8, 9, 10, 3, 2, 1, 0] rfl)
set_option maxHeartbeats 4000000 in
set_option maxRecDepth 100000 in
theorem m_X5_goesOnUpright (l : Launch) (B : Nat) (D : DD) {n : Nat} (hN : 139 ≤ n) {t : Nat} {a0 : Nat} {w : Wd} {r : Int32} (ht : t < n ∧ kd t = 5) (ha0 : a0 < n ∧ kd a0 = 5) (hf : f_X5_goesOnUpright t a0 w = some r) : Ct l yX5_goesOnUpright cX5_goesOnUpright 5 (some .boolean) 1 21 0 0 B D [.ref (B + t), .ref (B + a0)] n w (some (.int r)) n w := by
  refine m_of (by decide) (Nat.le_of_ble_eq_true rfl) (fun p e s m args below meth c X hml hr hlk _ H locs hh ls hl => ?_)
  have hx := X.1
  have hb := X.2.1
  have hl : lv_has ls 5 [(0, .ref (B + t)), (1, .ref (B + a0))] := hl
  unfold f_X5_goesOnUpright at hf
  refine lv_aload_n hx hb dX5_goesOnUpright_0 rfl (lv_at hl 0 rfl) ?_
  refine r_gi X hh ht fk_X5_15 dX5_goesOnUpright_1 ?_
  refine lv_aload_n hx hb dX5_goesOnUpright_4 rfl (lv_at hl 1 rfl) ?_
  refine r_gi X hh ha0 fk_X5_15 dX5_goesOnUpright_5 ?_
  refine q_max X hml hl.1 k_292 (Nat.le_of_ble_eq_true rfl) ⟨Nat.le_of_ble_eq_true rfl, Nat.le_of_ble_eq_true rfl⟩ ⟨Nat.zero_le _, Nat.zero_le _⟩ dX5_goesOnUpright_8 ?_
  refine lv_topi (fun x1 e2 => ?_)
  have hf := lt_e e2 hf
  refine lv_istore_n (lv' := [(2, .int x1), (0, .ref (B + t)), (1, .ref (B + a0))]) hx hb dX5_goesOnUpright_11 rfl hl (by decide) rfl (fun ls hl => ?_)
  refine lv_iconst (v := (0 : Int32)) hx hb dX5_goesOnUpright_12 (by decide) ?_
  refine lv_istore_n (lv' := [(3, .int (0 : Int32)), (2, .int x1), (0, .ref (B + t)), (1, .ref (B + a0))]) hx hb dX5_goesOnUpright_13 rfl hl (by decide) rfl (fun ls hl => ?_)
  refine wl1_W (P := fun (x3 : Int32) => ∀ (H : Heap) (locs : List Loc) (ls : Array Slot), Hp B D n w s H locs → lv_has ls 5 [(0, .ref (B + t)), (1, .ref (B + a0)), (2, .int x1), (3, .int x3)] → W p l e (rmk 1 21 0 0) s m args below meth c H locs 0 0 (MZ below B D n w (some (.int r)) args s 0 0) (F0 m 14 ls [])) hf (fun x3 k4 ih5 hf  H locs ls hh hl => ?_)  _ _ _ hh (lv_sub hl [2, 3, 1, 0] rfl)
  refine lv_iload_n hx hb dX5_goesOnUpright_14 rfl (lv_at hl 3 rfl) ?_
  refine lv_iload_n hx hb dX5_goesOnUpright_15 rfl (lv_at hl 2 rfl) ?_
  refine lv_icmp_ge (tgt := 51) hx hb dX5_goesOnUpright_16 (by decide) (fun hc6 => ?_) (fun hc6 => ?_)
  · have hf := if_t hc6 hf
    refine lv_iconst (v := (1 : Int32)) hx hb dX5_goesOnUpright_51 (by decide) ?_
    exact e_z X hr hlk hh (Or.inr rfl) ⟨so_e hf, rfl⟩ dX5_goesOnUpright_52
  · have hf := if_f hc6 hf
    refine lv_aload_n hx hb dX5_goesOnUpright_19 rfl (lv_at hl 0 rfl) ?_
    refine lv_iload_n hx hb dX5_goesOnUpright_20 rfl (lv_at hl 3 rfl) ?_
    obtain ⟨v8, hc7, hf⟩ := c1_e hf
    refine q_V (w' := w) (rest := []) X hml hh (some (.int v8)) (m_X5_partAt l B D hN ht hc7) cf_X5_partAt k_285 ht ci_5 rfl rfl hl.1 rfl (Nat.le_of_ble_eq_true rfl) ⟨Nat.le_of_ble_eq_true rfl, Nat.le_of_ble_eq_true rfl⟩ ⟨Nat.zero_le _, Nat.zero_le _⟩ dX5_goesOnUpright_21 rfl (fun H locs hh => ?_)
    refine lv_aload_n hx hb dX5_goesOnUpright_24 rfl (lv_at hl 1 rfl) ?_
    refine lv_iload_n hx hb dX5_goesOnUpright_25 rfl (lv_at hl 3 rfl) ?_
    obtain ⟨v10, hc9, hf⟩ := c1_e hf
    refine q_V (w' := w) (rest := [.int v8]) X hml hh (some (.int v10)) (m_X5_partAt l B D hN ha0 hc9) cf_X5_partAt k_285 ha0 ci_5 rfl rfl hl.1 rfl (Nat.le_of_ble_eq_true rfl) ⟨Nat.le_of_ble_eq_true rfl, Nat.le_of_ble_eq_true rfl⟩ ⟨Nat.zero_le _, Nat.zero_le _⟩ dX5_goesOnUpright_26 rfl (fun H locs hh => ?_)
    refine lv_isub hx hb dX5_goesOnUpright_29 ?_
    refine lv_topi (fun x11 e12 => ?_)
    have hf := lt_e e12 hf
    refine lv_istore (lv' := [(4, .int x11), (0, .ref (B + t)), (1, .ref (B + a0)), (2, .int x1), (3, .int x3)]) hx hb dX5_goesOnUpright_30 hl (by decide) rfl (fun ls hl => ?_)
    refine lv_iload hx hb dX5_goesOnUpright_32 (lv_at hl 0 rfl) ?_
    refine lv_if_lt (tgt := 43) hx hb dX5_goesOnUpright_34 (by decide) (fun hc13 => ?_) (fun hc13 => ?_)
    · have hf := if_t hc13 hf
      refine lv_iconst (v := (0 : Int32)) hx hb dX5_goesOnUpright_43 (by decide) ?_
      exact e_z X hr hlk hh (Or.inl rfl) ⟨so_e hf, rfl⟩ dX5_goesOnUpright_44
    · have hf := if_f hc13 hf
      refine lv_iload hx hb dX5_goesOnUpright_37 (lv_at hl 0 rfl) ?_
      refine lv_iconst (v := (1 : Int32)) hx hb dX5_goesOnUpright_39 (by decide) ?_
      refine lv_icmp_le (tgt := 45) hx hb dX5_goesOnUpright_40 (by decide) (fun hc14 => ?_) (fun hc14 => ?_)
      · have hf := if_t hc14 hf
        obtain ⟨x15, e16⟩ : ∃ y : Int32, y = (x3 + (1 : Int32)) := ⟨_, rfl⟩
        have hf := lt_e e16 hf
        refine lv_iinc (v := x15) (lv' := [(3, .int x15), (4, .int x11), (0, .ref (B + t)), (1, .ref (B + a0)), (2, .int x1)]) hx hb dX5_goesOnUpright_45 hl (k := 4) rfl (by rw [e16]; rfl) (by decide) rfl (fun ls hl => ?_)
        refine lv_goto (tgt := 14) hx hb dX5_goesOnUpright_48 (by decide) ?_
        exact ih5 _ hf  _ _ _ hh (lv_sub hl [2, 3, 4, 0] rfl)
      · have hf := if_f hc14 hf
        refine lv_iconst (v := (0 : Int32)) hx hb dX5_goesOnUpright_43 (by decide) ?_
        exact e_z X hr hlk hh (Or.inl rfl) ⟨so_e hf, rfl⟩ dX5_goesOnUpright_44
set_option maxHeartbeats 4000000 in
set_option maxRecDepth 100000 in
theorem m_X5_goesOnLevel (l : Launch) (B : Nat) (D : DD) {n : Nat} (hN : 139 ≤ n) {t : Nat} {a0 : Nat} {w : Wd} {r : Int32} (ht : t < n ∧ kd t = 5) (ha0 : a0 < n ∧ kd a0 = 5) (hf : f_X5_goesOnLevel t a0 w = some r) : Ct l yX5_goesOnLevel cX5_goesOnLevel 5 (some .boolean) 1 21 0 0 B D [.ref (B + t), .ref (B + a0)] n w (some (.int r)) n w := by
  refine m_of (by decide) (Nat.le_of_ble_eq_true rfl) (fun p e s m args below meth c X hml hr hlk _ H locs hh ls hl => ?_)
  have hx := X.1
  have hb := X.2.1
  have hl : lv_has ls 5 [(0, .ref (B + t)), (1, .ref (B + a0))] := hl
  unfold f_X5_goesOnLevel at hf
  refine lv_aload_n hx hb dX5_goesOnLevel_0 rfl (lv_at hl 0 rfl) ?_
  refine r_gi X hh ht fk_X5_15 dX5_goesOnLevel_1 ?_
  refine lv_aload_n hx hb dX5_goesOnLevel_4 rfl (lv_at hl 1 rfl) ?_
  refine r_gi X hh ha0 fk_X5_15 dX5_goesOnLevel_5 ?_
  refine q_max X hml hl.1 k_292 (Nat.le_of_ble_eq_true rfl) ⟨Nat.le_of_ble_eq_true rfl, Nat.le_of_ble_eq_true rfl⟩ ⟨Nat.zero_le _, Nat.zero_le _⟩ dX5_goesOnLevel_8 ?_
  refine lv_topi (fun x1 e2 => ?_)
  have hf := lt_e e2 hf
  refine lv_istore_n (lv' := [(2, .int x1), (0, .ref (B + t)), (1, .ref (B + a0))]) hx hb dX5_goesOnLevel_11 rfl hl (by decide) rfl (fun ls hl => ?_)
  refine lv_iconst (v := (0 : Int32)) hx hb dX5_goesOnLevel_12 (by decide) ?_
  refine lv_istore_n (lv' := [(3, .int (0 : Int32)), (2, .int x1), (0, .ref (B + t)), (1, .ref (B + a0))]) hx hb dX5_goesOnLevel_13 rfl hl (by decide) rfl (fun ls hl => ?_)
  refine wl1_W (P := fun (x3 : Int32) => ∀ (H : Heap) (locs : List Loc) (ls : Array Slot), Hp B D n w s H locs → lv_has ls 5 [(0, .ref (B + t)), (1, .ref (B + a0)), (2, .int x1), (3, .int x3)] → W p l e (rmk 1 21 0 0) s m args below meth c H locs 0 0 (MZ below B D n w (some (.int r)) args s 0 0) (F0 m 14 ls [])) hf (fun x3 k4 ih5 hf  H locs ls hh hl => ?_)  _ _ _ hh (lv_sub hl [2, 3, 1, 0] rfl)
  refine lv_iload_n hx hb dX5_goesOnLevel_14 rfl (lv_at hl 3 rfl) ?_
  refine lv_iload_n hx hb dX5_goesOnLevel_15 rfl (lv_at hl 2 rfl) ?_
  refine lv_icmp_ge (tgt := 56) hx hb dX5_goesOnLevel_16 (by decide) (fun hc6 => ?_) (fun hc6 => ?_)
  · have hf := if_t hc6 hf
    refine lv_iconst (v := (1 : Int32)) hx hb dX5_goesOnLevel_56 (by decide) ?_
    exact e_z X hr hlk hh (Or.inr rfl) ⟨so_e hf, rfl⟩ dX5_goesOnLevel_57
  · have hf := if_f hc6 hf
    refine lv_aload_n hx hb dX5_goesOnLevel_19 rfl (lv_at hl 1 rfl) ?_
    refine lv_iload_n hx hb dX5_goesOnLevel_20 rfl (lv_at hl 3 rfl) ?_
    obtain ⟨v8, hc7, hf⟩ := c1_e hf
    refine q_V (w' := w) (rest := []) X hml hh (some (.int v8)) (m_X5_partAt l B D hN ha0 hc7) cf_X5_partAt k_285 ha0 ci_5 rfl rfl hl.1 rfl (Nat.le_of_ble_eq_true rfl) ⟨Nat.le_of_ble_eq_true rfl, Nat.le_of_ble_eq_true rfl⟩ ⟨Nat.zero_le _, Nat.zero_le _⟩ dX5_goesOnLevel_21 rfl (fun H locs hh => ?_)
    refine lv_istore (lv' := [(4, .int v8), (0, .ref (B + t)), (1, .ref (B + a0)), (2, .int x1), (3, .int x3)]) hx hb dX5_goesOnLevel_24 hl (by decide) rfl (fun ls hl => ?_)
    refine lv_aload_n hx hb dX5_goesOnLevel_26 rfl (lv_at hl 1 rfl) ?_
    refine lv_iload_n hx hb dX5_goesOnLevel_27 rfl (lv_at hl 4 rfl) ?_
    obtain ⟨v10, hc9, hf⟩ := c1_e hf
    refine q_V (w' := w) (rest := []) X hml hh (some (.int v10)) (m_X5_partAt l B D hN ht hc9) cf_X5_partAt k_285 ht ci_5 rfl rfl hl.1 rfl (Nat.le_of_ble_eq_true rfl) ⟨Nat.le_of_ble_eq_true rfl, Nat.le_of_ble_eq_true rfl⟩ ⟨Nat.zero_le _, Nat.zero_le _⟩ dX5_goesOnLevel_28 rfl (fun H locs hh => ?_)
    refine lv_iload hx hb dX5_goesOnLevel_31 (lv_at hl 0 rfl) ?_
    refine lv_icmp_lt (tgt := 48) hx hb dX5_goesOnLevel_33 (by decide) (fun hc11 => ?_) (fun hc11 => ?_)
    · have hf := if_t hc11 hf
      refine lv_iconst (v := (0 : Int32)) hx hb dX5_goesOnLevel_48 (by decide) ?_
      exact e_z X hr hlk hh (Or.inl rfl) ⟨so_e hf, rfl⟩ dX5_goesOnLevel_49
    · have hf := if_f hc11 hf
      refine lv_iload hx hb dX5_goesOnLevel_36 (lv_at hl 0 rfl) ?_
      refine lv_aload_n hx hb dX5_goesOnLevel_38 rfl (lv_at hl 1 rfl) ?_
      refine lv_iload_n hx hb dX5_goesOnLevel_39 rfl (lv_at hl 4 rfl) ?_
      refine lv_iconst (v := (1 : Int32)) hx hb dX5_goesOnLevel_40 (by decide) ?_
      refine lv_iadd hx hb dX5_goesOnLevel_41 ?_
      obtain ⟨v13, hc12, hf⟩ := c1_e hf
      refine q_V (w' := w) (rest := [.int v8]) X hml hh (some (.int v13)) (m_X5_partAt l B D hN ht hc12) cf_X5_partAt k_285 ht ci_5 rfl rfl hl.1 rfl (Nat.le_of_ble_eq_true rfl) ⟨Nat.le_of_ble_eq_true rfl, Nat.le_of_ble_eq_true rfl⟩ ⟨Nat.zero_le _, Nat.zero_le _⟩ dX5_goesOnLevel_42 rfl (fun H locs hh => ?_)
      refine lv_icmp_ge (tgt := 50) hx hb dX5_goesOnLevel_45 (by decide) (fun hc14 => ?_) (fun hc14 => ?_)
      · have hf := if_t hc14 hf
        obtain ⟨x15, e16⟩ : ∃ y : Int32, y = (x3 + (1 : Int32)) := ⟨_, rfl⟩
        have hf := lt_e e16 hf
        refine lv_iinc (v := x15) (lv' := [(3, .int x15), (4, .int v8), (0, .ref (B + t)), (1, .ref (B + a0)), (2, .int x1)]) hx hb dX5_goesOnLevel_50 hl (k := 4) rfl (by rw [e16]; rfl) (by decide) rfl (fun ls hl => ?_)
        refine lv_goto (tgt := 14) hx hb dX5_goesOnLevel_53 (by decide) ?_
        exact ih5 _ hf  _ _ _ hh (lv_sub hl [2, 3, 4, 0] rfl)
      · have hf := if_f hc14 hf
        refine lv_iconst (v := (0 : Int32)) hx hb dX5_goesOnLevel_48 (by decide) ?_
        exact e_z X hr hlk hh (Or.inl rfl) ⟨so_e hf, rfl⟩ dX5_goesOnLevel_49
set_option maxHeartbeats 4000000 in
set_option maxRecDepth 100000 in
theorem m_X5_goesOnFrom (l : Launch) (B : Nat) (D : DD) {n : Nat} (hN : 139 ≤ n) {t : Nat} {a0 : Nat} {a1 : Int32} {w : Wd} {r : Int32} (ht : t < n ∧ kd t = 5) (ha0 : a0 < n ∧ kd a0 = 5) (hf : f_X5_goesOnFrom t a0 a1 w = some r) : Ct l yX5_goesOnFrom cX5_goesOnFrom 3 (some .boolean) 2 45 0 0 B D [.ref (B + t), .ref (B + a0), .int a1] n w (some (.int r)) n w := by
  refine m_of (by decide) (Nat.le_of_ble_eq_true rfl) (fun p e s m args below meth c X hml hr hlk _ H locs hh ls hl => ?_)
  have hx := X.1
  have hb := X.2.1
  have hl : lv_has ls 3 [(0, .ref (B + t)), (1, .ref (B + a0)), (2, .int a1)] := hl
  unfold f_X5_goesOnFrom at hf
  refine lv_iload_n hx hb dX5_goesOnFrom_0 rfl (lv_at hl 2 rfl) ?_
  refine lv_if_eq (tgt := 12) hx hb dX5_goesOnFrom_1 (by decide) (fun hc1 => ?_) (fun hc1 => ?_)
  · have hf := if_t hc1 hf
    refine lv_aload_n hx hb dX5_goesOnFrom_12 rfl (lv_at hl 0 rfl) ?_
    refine lv_aload_n hx hb dX5_goesOnFrom_13 rfl (lv_at hl 1 rfl) ?_
    obtain ⟨v3, hc2, hf⟩ := c1_e hf
    refine q_V (w' := w) (rest := []) X hml hh (some (.int v3)) (m_X5_goesOnLevel l B D hN ht ha0 hc2) cf_X5_goesOnLevel k_346 ht ci_5 rfl rfl hl.1 rfl (Nat.le_of_ble_eq_true rfl) ⟨Nat.le_of_ble_eq_true rfl, Nat.le_of_ble_eq_true rfl⟩ ⟨Nat.zero_le _, Nat.zero_le _⟩ dX5_goesOnFrom_14 rfl (fun H locs hh => ?_)
    have hz := zb_e hf
    have hf := hz.2
    exact e_z X hr hlk hh hz.1 ⟨so_e hf, rfl⟩ dX5_goesOnFrom_17
  · have hf := if_f hc1 hf
    refine lv_aload_n hx hb dX5_goesOnFrom_4 rfl (lv_at hl 0 rfl) ?_
    refine lv_aload_n hx hb dX5_goesOnFrom_5 rfl (lv_at hl 1 rfl) ?_
    obtain ⟨v5, hc4, hf⟩ := c1_e hf
    refine q_V (w' := w) (rest := []) X hml hh (some (.int v5)) (m_X5_goesOnUpright l B D hN ht ha0 hc4) cf_X5_goesOnUpright k_342 ht ci_5 rfl rfl hl.1 rfl (Nat.le_of_ble_eq_true rfl) ⟨Nat.le_of_ble_eq_true rfl, Nat.le_of_ble_eq_true rfl⟩ ⟨Nat.zero_le _, Nat.zero_le _⟩ dX5_goesOnFrom_6 rfl (fun H locs hh => ?_)
    refine lv_goto (tgt := 17) hx hb dX5_goesOnFrom_9 (by decide) ?_
    have hz := zb_e hf
    have hf := hz.2
    exact e_z X hr hlk hh hz.1 ⟨so_e hf, rfl⟩ dX5_goesOnFrom_17
set_option maxHeartbeats 4000000 in
set_option maxRecDepth 100000 in
theorem m_X5_partsAbove (l : Launch) (B : Nat) (D : DD) {n : Nat} (hN : 139 ≤ n) {t : Nat} {a0 : Int32} {w : Wd} {r : Int32} (ht : t < n ∧ kd t = 5) (hf : f_X5_partsAbove t a0 w = some r) : Ct l yX5_partsAbove cX5_partsAbove 4 (some .int) 0 0 0 0 B D [.ref (B + t), .int a0] n w (some (.int r)) n w := by
  refine m_of (by decide) (Nat.le_of_ble_eq_true rfl) (fun p e s m args below meth c X hml hr hlk _ H locs hh ls hl => ?_)
  have hx := X.1
  have hb := X.2.1
  have hl : lv_has ls 4 [(0, .ref (B + t)), (1, .int a0)] := hl
  unfold f_X5_partsAbove at hf
  refine lv_iconst (v := (0 : Int32)) hx hb dX5_partsAbove_0 (by decide) ?_
  refine lv_istore_n (lv' := [(2, .int (0 : Int32)), (0, .ref (B + t)), (1, .int a0)]) hx hb dX5_partsAbove_1 rfl hl (by decide) rfl (fun ls hl => ?_)
  refine lv_iconst (v := (0 : Int32)) hx hb dX5_partsAbove_2 (by decide) ?_
  refine lv_istore_n (lv' := [(3, .int (0 : Int32)), (2, .int (0 : Int32)), (0, .ref (B + t)), (1, .int a0)]) hx hb dX5_partsAbove_3 rfl hl (by decide) rfl (fun ls hl => ?_)
  refine wl2_W (P := fun (x1 : Int32) (x2 : Int32) => ∀ (H : Heap) (locs : List Loc) (ls : Array Slot), Hp B D n w s H locs → lv_has ls 4 [(0, .ref (B + t)), (1, .int a0), (2, .int x1), (3, .int x2)] → W p l e (rmk 0 0 0 0) s m args below meth c H locs 0 0 (MZ below B D n w (some (.int r)) args s 0 0) (F0 m 4 ls [])) hf (fun x1 x2 k3 ih4 hf  H locs ls hh hl => ?_)  _ _ _ hh (lv_sub hl [2, 3, 1, 0] rfl)
  refine lv_iload_n hx hb dX5_partsAbove_4 rfl (lv_at hl 3 rfl) ?_
  refine lv_aload_n hx hb dX5_partsAbove_5 rfl (lv_at hl 0 rfl) ?_
  refine r_gi X hh ht fk_X5_15 dX5_partsAbove_6 ?_
  refine lv_icmp_ge (tgt := 36) hx hb dX5_partsAbove_9 (by decide) (fun hc5 => ?_) (fun hc5 => ?_)
  · have hf := if_t hc5 hf
    refine lv_iload_n hx hb dX5_partsAbove_36 rfl (lv_at hl 2 rfl) ?_
    exact e_i X hr hlk hh ⟨so_e hf, rfl⟩ dX5_partsAbove_37
  · have hf := if_f hc5 hf
    refine lv_iload_n hx hb dX5_partsAbove_12 rfl (lv_at hl 2 rfl) ?_
    refine lv_aload_n hx hb dX5_partsAbove_13 rfl (lv_at hl 0 rfl) ?_
    refine q_gr (P := 9) X hh ht fk_X5_9 dX5_partsAbove_14 hN hf (fun t6 h7 hf => ?_)
    refine lv_iload_n hx hb dX5_partsAbove_17 rfl (lv_at hl 3 rfl) ?_
    refine q_ald X hh h7 dX5_partsAbove_18 hf (fun hf => ?_)
    refine lv_iload_n hx hb dX5_partsAbove_19 rfl (lv_at hl 1 rfl) ?_
    refine mg_W (P := fun (x10 : Int32) => ∀ (ls : Array Slot), lv_has ls 4 [(0, .ref (B + t)), (1, .int a0), (3, .int x2)] → W p l e (rmk 0 0 0 0) s m args below meth c H locs 0 0 (MZ below B D n w (some (.int r)) args s 0 0) (F0 m 28 ls [.int x10, .int x1])) hf (fun x10 hf ls hl => ?_) (fun hj15 => ?_)
    · refine lv_iadd hx hb dX5_partsAbove_28 ?_
      refine lv_topi (fun x11 e12 => ?_)
      have hf := lt_e e12 hf
      refine lv_istore_n (lv' := [(2, .int x11), (0, .ref (B + t)), (1, .int a0), (3, .int x2)]) hx hb dX5_partsAbove_29 rfl hl (by decide) rfl (fun ls hl => ?_)
      obtain ⟨x13, e14⟩ : ∃ y : Int32, y = (x2 + (1 : Int32)) := ⟨_, rfl⟩
      have hf := lt_e e14 hf
      refine lv_iinc (v := x13) (lv' := [(3, .int x13), (2, .int x11), (0, .ref (B + t)), (1, .int a0)]) hx hb dX5_partsAbove_30 hl (k := 3) rfl (by rw [e14]; rfl) (by decide) rfl (fun ls hl => ?_)
      refine lv_goto (tgt := 4) hx hb dX5_partsAbove_33 (by decide) ?_
      exact ih4 _ _ hf  _ _ _ hh (lv_sub hl [2, 3, 1, 0] rfl)
    · refine lv_icmp_le (tgt := 27) hx hb dX5_partsAbove_20 (by decide) (fun hc9 => ?_) (fun hc9 => ?_)
      · refine lv_iconst (v := (0 : Int32)) hx hb dX5_partsAbove_27 (by decide) ?_
        exact hj15 _ (by rw [if_pos hc9]) ls (lv_sub hl [0, 1, 3] rfl)
      · refine lv_iconst (v := (1 : Int32)) hx hb dX5_partsAbove_23 (by decide) ?_
        refine lv_goto (tgt := 28) hx hb dX5_partsAbove_24 (by decide) ?_
        exact hj15 _ (by rw [if_neg hc9]) ls (lv_sub hl [0, 1, 3] rfl)
set_option maxHeartbeats 4000000 in
set_option maxRecDepth 100000 in
theorem m_X5_standardFillings (l : Launch) (B : Nat) (D : DD) {n : Nat} (hN : 139 ≤ n) {t : Nat} {w : Wd} {r : Int64} (ht : t < n ∧ kd t = 5) (hf : f_X5_standardFillings t w = some r) : Ct l yX5_standardFillings cX5_standardFillings 7 (some .long) 1 23 0 0 B D [.ref (B + t)] n w (some (.long r)) n w := by
  refine m_of (by decide) (Nat.le_of_ble_eq_true rfl) (fun p e s m args below meth c X hml hr hlk _ H locs hh ls hl => ?_)
  have hx := X.1
  have hb := X.2.1
  have hl : lv_has ls 7 [(0, .ref (B + t))] := hl
  unfold f_X5_standardFillings at hf
  refine lv_lconst (v := (1 : Int64)) hx hb dX5_standardFillings_0 (by decide) ?_
  refine lv_lstore_n (lv' := [(1, .long (1 : Int64)), (0, .ref (B + t))]) hx hb dX5_standardFillings_1 rfl hl (by decide) rfl (fun ls hl => ?_)
  refine lv_iconst (v := (2 : Int32)) hx hb dX5_standardFillings_2 (by decide) ?_
  refine lv_istore_n (lv' := [(3, .int (2 : Int32)), (1, .long (1 : Int64)), (0, .ref (B + t))]) hx hb dX5_standardFillings_3 rfl hl (by decide) rfl (fun ls hl => ?_)
  refine wl2_W (P := fun (x1 : Int64) (x2 : Int32) => ∀ (H : Heap) (locs : List Loc) (ls : Array Slot), Hp B D n w s H locs → lv_has ls 7 [(0, .ref (B + t)), (1, .long x1), (3, .int x2)] → W p l e (rmk 1 23 0 0) s m args below meth c H locs 0 0 (MZ below B D n w (some (.long r)) args s 0 0) (F0 m 4 ls [])) hf (fun x1 x2 k3 ih4 hf  H locs ls hh hl => ?_)  _ _ _ hh (lv_sub hl [2, 1, 0] rfl)
  refine lv_iload_n hx hb dX5_standardFillings_4 rfl (lv_at hl 2 rfl) ?_
  refine lv_aload_n hx hb dX5_standardFillings_5 rfl (lv_at hl 0 rfl) ?_
  refine r_gi X hh ht fk_X5_19 dX5_standardFillings_6 ?_
  refine lv_icmp_gt (tgt := 23) hx hb dX5_standardFillings_9 (by decide) (fun hc5 => ?_) (fun hc5 => ?_)
  · have hf := if_t hc5 hf
    refine lv_lconst (v := (1 : Int64)) hx hb dX5_standardFillings_23 (by decide) ?_
    refine lv_lstore_n (lv' := [(3, .long (1 : Int64)), (0, .ref (B + t)), (1, .long x1)]) hx hb dX5_standardFillings_24 rfl hl (by decide) rfl (fun ls hl => ?_)
    refine lv_iconst (v := (0 : Int32)) hx hb dX5_standardFillings_25 (by decide) ?_
    refine lv_istore (lv' := [(5, .int (0 : Int32)), (3, .long (1 : Int64)), (0, .ref (B + t)), (1, .long x1)]) hx hb dX5_standardFillings_26 hl (by decide) rfl (fun ls hl => ?_)
    refine wl2_W (P := fun (x6 : Int64) (x7 : Int32) => ∀ (H : Heap) (locs : List Loc) (ls : Array Slot), Hp B D n w s H locs → lv_has ls 7 [(0, .ref (B + t)), (1, .long x1), (3, .long x6), (5, .int x7)] → W p l e (rmk 1 23 0 0) s m args below meth c H locs 0 0 (MZ below B D n w (some (.long r)) args s 0 0) (F0 m 28 ls [])) hf (fun x6 x7 k8 ih9 hf  H locs ls hh hl => ?_)  _ _ _ hh (lv_sub hl [2, 3, 1, 0] rfl)
    refine lv_iload hx hb dX5_standardFillings_28 (lv_at hl 3 rfl) ?_
    refine lv_aload_n hx hb dX5_standardFillings_30 rfl (lv_at hl 0 rfl) ?_
    refine r_gi X hh ht fk_X5_15 dX5_standardFillings_31 ?_
    refine lv_icmp_ge (tgt := 90) hx hb dX5_standardFillings_34 (by decide) (fun hc10 => ?_) (fun hc10 => ?_)
    · have hf := if_t hc10 hf
      refine lv_lload_n hx hb dX5_standardFillings_90 rfl (lv_at hl 2 rfl) ?_
      refine lv_lconst (v := (0 : Int64)) hx hb dX5_standardFillings_91 (by decide) ?_
      refine W.lcmp hx hb dX5_standardFillings_92 ?_
      refine lv_if_le (tgt := 102) hx hb dX5_standardFillings_93 (by decide) (fun hc11 => ?_) (fun hc11 => ?_)
      · have hf := if_t hc11 hf
        refine lv_ldc2 hx hb X.2.2.1 (X.2.2.2.1 _ k_320) dX5_standardFillings_102 ?_
        exact e_l X hr hlk hh ⟨so_e hf, rfl⟩ dX5_standardFillings_105
      · have hf := if_f hc11 hf
        refine lv_lload_n hx hb dX5_standardFillings_96 rfl (lv_at hl 1 rfl) ?_
        refine lv_lload_n hx hb dX5_standardFillings_97 rfl (lv_at hl 2 rfl) ?_
        have hz := nzl_e hf
        have hf := hz.2
        refine lv_ldiv hx hb dX5_standardFillings_98 hz.1 ?_
        refine lv_goto (tgt := 105) hx hb dX5_standardFillings_99 (by decide) ?_
        exact e_l X hr hlk hh ⟨so_e hf, rfl⟩ dX5_standardFillings_105
    · have hf := if_f hc10 hf
      refine lv_iconst (v := (0 : Int32)) hx hb dX5_standardFillings_37 (by decide) ?_
      refine lv_istore (lv' := [(6, .int (0 : Int32)), (0, .ref (B + t)), (1, .long x1), (3, .long x6), (5, .int x7)]) hx hb dX5_standardFillings_38 hl (by decide) rfl (fun ls hl => ?_)
      refine wl2_W (P := fun (x12 : Int64) (x13 : Int32) => ∀ (H : Heap) (locs : List Loc) (ls : Array Slot), Hp B D n w s H locs → lv_has ls 7 [(0, .ref (B + t)), (1, .long x1), (3, .long x12), (5, .int x7), (6, .int x13)] → W p l e (rmk 1 23 0 0) s m args below meth c H locs 0 0 (MZ below B D n w (some (.long r)) args s 0 0) (F0 m 40 ls [])) hf (fun x12 x13 k14 ih15 hf  H locs ls hh hl => ?_)  _ _ _ hh (lv_sub hl [1, 2, 3, 4, 0] rfl)
      refine lv_iload hx hb dX5_standardFillings_40 (lv_at hl 4 rfl) ?_
      refine lv_aload_n hx hb dX5_standardFillings_42 rfl (lv_at hl 0 rfl) ?_
      refine q_gr (P := 9) X hh ht fk_X5_9 dX5_standardFillings_43 hN hf (fun t16 h17 hf => ?_)
      refine lv_iload hx hb dX5_standardFillings_46 (lv_at hl 3 rfl) ?_
      refine q_ald X hh h17 dX5_standardFillings_48 hf (fun hf => ?_)
      refine lv_icmp_ge (tgt := 84) hx hb dX5_standardFillings_49 (by decide) (fun hc19 => ?_) (fun hc19 => ?_)
      · have hf := if_t hc19 hf
        obtain ⟨x20, e21⟩ : ∃ y : Int32, y = (x7 + (1 : Int32)) := ⟨_, rfl⟩
        have hf := lt_e e21 hf
        refine lv_iinc (v := x20) (lv' := [(5, .int x20), (0, .ref (B + t)), (1, .long x1), (3, .long x12), (6, .int x13)]) hx hb dX5_standardFillings_84 hl (k := 3) rfl (by rw [e21]; rfl) (by decide) rfl (fun ls hl => ?_)
        refine lv_goto (tgt := 28) hx hb dX5_standardFillings_87 (by decide) ?_
        exact ih9 _ _ hf  _ _ _ hh (lv_sub hl [1, 2, 3, 0] rfl)
      · have hf := if_f hc19 hf
        refine lv_lload_n hx hb dX5_standardFillings_52 rfl (lv_at hl 2 rfl) ?_
        refine lv_aload_n hx hb dX5_standardFillings_53 rfl (lv_at hl 0 rfl) ?_
        refine q_gr (P := 9) X hh ht fk_X5_9 dX5_standardFillings_54 hN hf (fun t22 h23 hf => ?_)
        refine lv_iload hx hb dX5_standardFillings_57 (lv_at hl 3 rfl) ?_
        refine q_ald X hh h23 dX5_standardFillings_59 hf (fun hf => ?_)
        refine lv_iload hx hb dX5_standardFillings_60 (lv_at hl 4 rfl) ?_
        refine lv_isub hx hb dX5_standardFillings_62 ?_
        refine lv_aload_n hx hb dX5_standardFillings_63 rfl (lv_at hl 0 rfl) ?_
        refine lv_iload hx hb dX5_standardFillings_64 (lv_at hl 4 rfl) ?_
        obtain ⟨v26, hc25, hf⟩ := c1_e hf
        refine q_V (w' := w) (rest := [_, .long x12]) X hml hh (some (.int v26)) (m_X5_partsAbove l B D hN ht hc25) cf_X5_partsAbove k_319 ht ci_5 rfl rfl hl.1 rfl (Nat.le_of_ble_eq_true rfl) ⟨Nat.le_of_ble_eq_true rfl, Nat.le_of_ble_eq_true rfl⟩ ⟨Nat.zero_le _, Nat.zero_le _⟩ dX5_standardFillings_66 rfl (fun H locs hh => ?_)
        refine lv_iadd hx hb dX5_standardFillings_69 ?_
        refine lv_iload hx hb dX5_standardFillings_70 (lv_at hl 3 rfl) ?_
        refine lv_isub hx hb dX5_standardFillings_72 ?_
        refine lv_iconst (v := (1 : Int32)) hx hb dX5_standardFillings_73 (by decide) ?_
        refine lv_isub hx hb dX5_standardFillings_74 ?_
        refine lv_i2l hx hb dX5_standardFillings_75 rfl ?_
        refine lv_lmul hx hb dX5_standardFillings_76 ?_
        refine lv_topl (fun x27 e28 => ?_)
        have hf := lt_e e28 hf
        refine lv_lstore_n (lv' := [(3, .long x27), (0, .ref (B + t)), (1, .long x1), (5, .int x7), (6, .int x13)]) hx hb dX5_standardFillings_77 rfl hl (by decide) rfl (fun ls hl => ?_)
        obtain ⟨x29, e30⟩ : ∃ y : Int32, y = (x13 + (1 : Int32)) := ⟨_, rfl⟩
        have hf := lt_e e30 hf
        refine lv_iinc (v := x29) (lv' := [(6, .int x29), (3, .long x27), (0, .ref (B + t)), (1, .long x1), (5, .int x7)]) hx hb dX5_standardFillings_78 hl (k := 4) rfl (by rw [e30]; rfl) (by decide) rfl (fun ls hl => ?_)
        refine lv_goto (tgt := 40) hx hb dX5_standardFillings_81 (by decide) ?_
        exact ih15 _ _ hf  _ _ _ hh (lv_sub hl [2, 3, 1, 4, 0] rfl)
  · have hf := if_f hc5 hf
    refine lv_lload_n hx hb dX5_standardFillings_12 rfl (lv_at hl 1 rfl) ?_
    refine lv_iload_n hx hb dX5_standardFillings_13 rfl (lv_at hl 2 rfl) ?_
    refine lv_i2l hx hb dX5_standardFillings_14 rfl ?_
    refine lv_lmul hx hb dX5_standardFillings_15 ?_
    refine lv_topl (fun x31 e32 => ?_)
    have hf := lt_e e32 hf
    refine lv_lstore_n (lv' := [(1, .long x31), (0, .ref (B + t)), (3, .int x2)]) hx hb dX5_standardFillings_16 rfl hl (by decide) rfl (fun ls hl => ?_)
    obtain ⟨x33, e34⟩ : ∃ y : Int32, y = (x2 + (1 : Int32)) := ⟨_, rfl⟩
    have hf := lt_e e34 hf
    refine lv_iinc (v := x33) (lv' := [(3, .int x33), (1, .long x31), (0, .ref (B + t))]) hx hb dX5_standardFillings_17 hl (k := 2) rfl (by rw [e34]; rfl) (by decide) rfl (fun ls hl => ?_)
    refine lv_goto (tgt := 4) hx hb dX5_standardFillings_20 (by decide) ?_
    exact ih4 _ _ hf  _ _ _ hh (lv_sub hl [2, 1, 0] rfl)
set_option maxHeartbeats 4000000 in
set_option maxRecDepth 100000 in
theorem m_X5_productOrWide (l : Launch) (B : Nat) (D : DD) {n : Nat} (hN : 139 ≤ n) {t : Nat} {w : Wd} {r : Int32} (ht : t < n ∧ kd t = 5) (hf : f_X5_productOrWide t w = some r) : Ct l yX5_productOrWide cX5_productOrWide 4 (some .int) 0 0 0 0 B D [.ref (B + t)] n w (some (.int r)) n w := by
  refine m_of (by decide) (Nat.le_of_ble_eq_true rfl) (fun p e s m args below meth c X hml hr hlk _ H locs hh ls hl => ?_)
  have hx := X.1
  have hb := X.2.1
  have hl : lv_has ls 4 [(0, .ref (B + t))] := hl
  unfold f_X5_productOrWide at hf
  refine lv_lconst (v := (1 : Int64)) hx hb dX5_productOrWide_0 (by decide) ?_
  refine lv_lstore_n (lv' := [(1, .long (1 : Int64)), (0, .ref (B + t))]) hx hb dX5_productOrWide_1 rfl hl (by decide) rfl (fun ls hl => ?_)
  refine lv_iconst (v := (0 : Int32)) hx hb dX5_productOrWide_2 (by decide) ?_
  refine lv_istore_n (lv' := [(3, .int (0 : Int32)), (1, .long (1 : Int64)), (0, .ref (B + t))]) hx hb dX5_productOrWide_3 rfl hl (by decide) rfl (fun ls hl => ?_)
  refine wl2_W (P := fun (x1 : Int64) (x2 : Int32) => ∀ (H : Heap) (locs : List Loc) (ls : Array Slot), Hp B D n w s H locs → lv_has ls 4 [(0, .ref (B + t)), (1, .long x1), (3, .int x2)] → W p l e (rmk 0 0 0 0) s m args below meth c H locs 0 0 (MZ below B D n w (some (.int r)) args s 0 0) (F0 m 4 ls [])) hf (fun x1 x2 k3 ih4 hf  H locs ls hh hl => ?_)  _ _ _ hh (lv_sub hl [2, 1, 0] rfl)
  refine lv_iload_n hx hb dX5_productOrWide_4 rfl (lv_at hl 2 rfl) ?_
  refine lv_aload_n hx hb dX5_productOrWide_5 rfl (lv_at hl 0 rfl) ?_
  refine r_gi X hh ht fk_X5_15 dX5_productOrWide_6 ?_
  refine lv_icmp_ge (tgt := 41) hx hb dX5_productOrWide_9 (by decide) (fun hc5 => ?_) (fun hc5 => ?_)
  · have hf := if_t hc5 hf
    refine lv_lload_n hx hb dX5_productOrWide_41 rfl (lv_at hl 1 rfl) ?_
    refine lv_l2i hx hb dX5_productOrWide_42 rfl ?_
    exact e_i X hr hlk hh ⟨so_e hf, rfl⟩ dX5_productOrWide_43
  · have hf := if_f hc5 hf
    refine lv_lload_n hx hb dX5_productOrWide_12 rfl (lv_at hl 1 rfl) ?_
    refine lv_aload_n hx hb dX5_productOrWide_13 rfl (lv_at hl 0 rfl) ?_
    refine q_gr (P := 9) X hh ht fk_X5_9 dX5_productOrWide_14 hN hf (fun t6 h7 hf => ?_)
    refine lv_iload_n hx hb dX5_productOrWide_17 rfl (lv_at hl 2 rfl) ?_
    refine q_ald X hh h7 dX5_productOrWide_18 hf (fun hf => ?_)
    refine lv_iconst (v := (1 : Int32)) hx hb dX5_productOrWide_19 (by decide) ?_
    refine lv_iadd hx hb dX5_productOrWide_20 ?_
    refine lv_i2l hx hb dX5_productOrWide_21 rfl ?_
    refine lv_lmul hx hb dX5_productOrWide_22 ?_
    refine lv_topl (fun x9 e10 => ?_)
    have hf := lt_e e10 hf
    refine lv_lstore_n (lv' := [(1, .long x9), (0, .ref (B + t)), (3, .int x2)]) hx hb dX5_productOrWide_23 rfl hl (by decide) rfl (fun ls hl => ?_)
    refine lv_lload_n hx hb dX5_productOrWide_24 rfl (lv_at hl 0 rfl) ?_
    refine lv_ldc2 hx hb X.2.2.1 (X.2.2.2.1 _ k_329) dX5_productOrWide_25 ?_
    refine W.lcmp hx hb dX5_productOrWide_28 ?_
    refine lv_if_le (tgt := 35) hx hb dX5_productOrWide_29 (by decide) (fun hc11 => ?_) (fun hc11 => ?_)
    · have hf := if_t hc11 hf
      obtain ⟨x12, e13⟩ : ∃ y : Int32, y = (x2 + (1 : Int32)) := ⟨_, rfl⟩
      have hf := lt_e e13 hf
      refine lv_iinc (v := x12) (lv' := [(3, .int x12), (1, .long x9), (0, .ref (B + t))]) hx hb dX5_productOrWide_35 hl (k := 2) rfl (by rw [e13]; rfl) (by decide) rfl (fun ls hl => ?_)
      refine lv_goto (tgt := 4) hx hb dX5_productOrWide_38 (by decide) ?_
      exact ih4 _ _ hf  _ _ _ hh (lv_sub hl [2, 1, 0] rfl)
    · have hf := if_f hc11 hf
      refine lv_bipush (v := (-6 : Int32)) hx hb dX5_productOrWide_32 (by decide) ?_
      exact e_i X hr hlk hh ⟨so_e hf, rfl⟩ dX5_productOrWide_34
end
section
set_option maxHeartbeats 4000000 in
set_option maxRecDepth 100000 in
theorem m_X1_at (l : Launch) (B : Nat) (D : DD) {n : Nat} (hN : 139 ≤ n) {t : Nat} {a0 : Int32} {a1 : Int32} {w : Wd} {r : Nat} (ht : t < n ∧ kd t = 1) (hf : f_X1_at t a0 a1 w = some r) : Ct l yX1_at cX1_at 3 (some (.object "GrowthGrid$Shape")) 0 0 0 0 B D [.ref (B + t), .int a0, .int a1] n w (some (.ref (B + r))) n w := by
  refine m_of (by decide) (Nat.le_of_ble_eq_true rfl) (fun p e s m args below meth c X hml hr hlk _ H locs hh ls hl => ?_)
  have hx := X.1
  have hb := X.2.1
  have hl : lv_has ls 3 [(0, .ref (B + t)), (1, .int a0), (2, .int a1)] := hl
  unfold f_X1_at at hf
  refine lv_iload_n hx hb dX1_at_0 rfl (lv_at hl 1 rfl) ?_
  refine jn_W (P := fun j2 => j2 = some r → ∀ (H : Heap) (locs : List Loc) (ls : Array Slot), Hp B D n w s H locs → lv_has ls 3 [(0, .ref (B + t))] → W p l e (rmk 0 0 0 0) s m args below meth c H locs 0 0 (MZ below B D n w (some (.ref (B + r))) args s 0 0) (F0 m 18 ls [])) hf (fun  hf  H locs ls hh hl => ?_) (fun j2 hj2 hf => ?_)
  · refine lv_aload_n hx hb dX1_at_18 rfl (lv_at hl 0 rfl) ?_
    refine q_gr (P := 5) X hh ht fk_X1_18 dX1_at_19 hN hf (fun t3 h4 hf => ?_)
    exact e_a X hr hlk hh ⟨so_e hf, rfl⟩ dX1_at_22
  · refine lv_if_lt (tgt := 18) hx hb dX1_at_1 (by decide) (fun hc1 => ?_) (fun hc1 => ?_)
    · have hf := if_t hc1 hf
      exact hj2  hf  _ _ _ hh (lv_sub hl [0] rfl)
    · have hf := if_f hc1 hf
      refine lv_iload_n hx hb dX1_at_4 rfl (lv_at hl 1 rfl) ?_
      refine lv_iconst (v := (5 : Int32)) hx hb dX1_at_5 (by decide) ?_
      refine lv_icmp_gt (tgt := 18) hx hb dX1_at_6 (by decide) (fun hc5 => ?_) (fun hc5 => ?_)
      · have hf := if_t hc5 hf
        exact hj2  hf  _ _ _ hh (lv_sub hl [0] rfl)
      · have hf := if_f hc5 hf
        refine lv_iload_n hx hb dX1_at_9 rfl (lv_at hl 2 rfl) ?_
        refine lv_if_lt (tgt := 18) hx hb dX1_at_10 (by decide) (fun hc6 => ?_) (fun hc6 => ?_)
        · have hf := if_t hc6 hf
          exact hj2  hf  _ _ _ hh (lv_sub hl [0] rfl)
        · have hf := if_f hc6 hf
          refine lv_iload_n hx hb dX1_at_13 rfl (lv_at hl 2 rfl) ?_
          refine lv_iconst (v := (5 : Int32)) hx hb dX1_at_14 (by decide) ?_
          refine lv_icmp_le (tgt := 23) hx hb dX1_at_15 (by decide) (fun hc7 => ?_) (fun hc7 => ?_)
          · have hf := if_t hc7 hf
            refine lv_aload_n hx hb dX1_at_23 rfl (lv_at hl 0 rfl) ?_
            refine q_gr (P := 12) X hh ht fk_X1_11 dX1_at_24 hN hf (fun t8 h9 hf => ?_)
            refine lv_iload_n hx hb dX1_at_27 rfl (lv_at hl 1 rfl) ?_
            refine lv_bipush (v := (6 : Int32)) hx hb dX1_at_28 (by decide) ?_
            refine lv_imul hx hb dX1_at_30 ?_
            refine lv_iload_n hx hb dX1_at_31 rfl (lv_at hl 2 rfl) ?_
            refine lv_iadd hx hb dX1_at_32 ?_
            refine q_aald (P := 5) X hh h9 ⟨by decide, by decide⟩ dX1_at_33 hN hf (fun t11 h12 hf => ?_)
            exact e_a X hr hlk hh ⟨so_e hf, rfl⟩ dX1_at_34
          · have hf := if_f hc7 hf
            exact hj2  hf  _ _ _ hh (lv_sub hl [0] rfl)
set_option maxHeartbeats 4000000 in
set_option maxRecDepth 100000 in
theorem m_X1_growOver (l : Launch) (B : Nat) (D : DD) {n : Nat} (hN : 139 ≤ n) {t : Nat} {a0 : Nat} {w : Wd} {w' : Wd} (ht : t < n ∧ kd t = 1) (ha0 : a0 < n ∧ kd a0 = 0) (hf : f_X1_growOver t a0 w = some w') : Ct l yX1_growOver cX1_growOver 4 none 3 76 0 0 B D [.ref (B + t), .ref (B + a0)] n w none n w' := by
  refine m_of (by decide) (Nat.le_of_ble_eq_true rfl) (fun p e s m args below meth c X hml hr hlk _ H locs hh ls hl => ?_)
  have hx := X.1
  have hb := X.2.1
  have hl : lv_has ls 4 [(0, .ref (B + t)), (1, .ref (B + a0))] := hl
  unfold f_X1_growOver at hf
  refine lv_aload_n hx hb dX1_growOver_0 rfl (lv_at hl 0 rfl) ?_
  refine lv_aload_n hx hb dX1_growOver_1 rfl (lv_at hl 1 rfl) ?_
  refine r_gi X hh ha0 fk_X1_36 dX1_growOver_2 ?_
  refine q_pi X hh ht fk_X1_22 pk_1_2 rfl rfl dX1_growOver_5 hf (fun w1 H locs hf hh => ?_)
  refine lv_aload_n hx hb dX1_growOver_8 rfl (lv_at hl 0 rfl) ?_
  refine lv_aload_n hx hb dX1_growOver_9 rfl (lv_at hl 1 rfl) ?_
  refine r_gi X hh ha0 fk_X1_39 dX1_growOver_10 ?_
  refine q_pi X hh ht fk_X1_26 pk_1_3 rfl rfl dX1_growOver_13 hf (fun w2 H locs hf hh => ?_)
  refine lv_aload_n hx hb dX1_growOver_16 rfl (lv_at hl 0 rfl) ?_
  refine lv_iconst (v := (0 : Int32)) hx hb dX1_growOver_17 (by decide) ?_
  refine q_pi X hh ht fk_X1_33 pk_1_5 rfl rfl dX1_growOver_18 hf (fun w3 H locs hf hh => ?_)
  refine lv_iconst (v := (0 : Int32)) hx hb dX1_growOver_21 (by decide) ?_
  refine lv_istore_n (lv' := [(2, .int (0 : Int32)), (0, .ref (B + t)), (1, .ref (B + a0))]) hx hb dX1_growOver_22 rfl hl (by decide) rfl (fun ls hl => ?_)
  refine wl2_W (P := fun (x4 : Int32) (w5 : Wd) => ∀ (H : Heap) (locs : List Loc) (ls : Array Slot), Hp B D n w5 s H locs → lv_has ls 4 [(0, .ref (B + t)), (1, .ref (B + a0)), (2, .int x4)] → W p l e (rmk 3 76 0 0) s m args below meth c H locs 0 0 (MZ below B D n w' none args s 0 0) (F0 m 23 ls [])) hf (fun x4 w5 k6 ih7 hf  H locs ls hh hl => ?_)  _ _ _ hh (lv_sub hl [1, 2, 0] rfl)
  refine lv_iload_n hx hb dX1_growOver_23 rfl (lv_at hl 2 rfl) ?_
  refine lv_aload_n hx hb dX1_growOver_24 rfl (lv_at hl 0 rfl) ?_
  refine r_gi X hh ht fk_X1_22 dX1_growOver_25 ?_
  refine lv_icmp_gt (tgt := 118) hx hb dX1_growOver_28 (by decide) (fun hc8 => ?_) (fun hc8 => ?_)
  · have hf := if_t hc8 hf
    exact e_v X hr hlk hh ⟨rfl, so_e hf⟩ dX1_growOver_118
  · have hf := if_f hc8 hf
    refine lv_iconst (v := (0 : Int32)) hx hb dX1_growOver_31 (by decide) ?_
    refine lv_istore_n (lv' := [(3, .int (0 : Int32)), (0, .ref (B + t)), (1, .ref (B + a0)), (2, .int x4)]) hx hb dX1_growOver_32 rfl hl (by decide) rfl (fun ls hl => ?_)
    refine wl2_W (P := fun (x9 : Int32) (w10 : Wd) => ∀ (H : Heap) (locs : List Loc) (ls : Array Slot), Hp B D n w10 s H locs → lv_has ls 4 [(0, .ref (B + t)), (1, .ref (B + a0)), (2, .int x4), (3, .int x9)] → W p l e (rmk 3 76 0 0) s m args below meth c H locs 0 0 (MZ below B D n w' none args s 0 0) (F0 m 33 ls [])) hf (fun x9 w10 k11 ih12 hf  H locs ls hh hl => ?_)  _ _ _ hh (lv_sub hl [1, 2, 3, 0] rfl)
    refine lv_iload_n hx hb dX1_growOver_33 rfl (lv_at hl 3 rfl) ?_
    refine lv_aload_n hx hb dX1_growOver_34 rfl (lv_at hl 0 rfl) ?_
    refine r_gi X hh ht fk_X1_26 dX1_growOver_35 ?_
    refine lv_icmp_gt (tgt := 112) hx hb dX1_growOver_38 (by decide) (fun hc13 => ?_) (fun hc13 => ?_)
    · have hf := if_t hc13 hf
      obtain ⟨x14, e15⟩ : ∃ y : Int32, y = (x4 + (1 : Int32)) := ⟨_, rfl⟩
      have hf := lt_e e15 hf
      refine lv_iinc (v := x14) (lv' := [(2, .int x14), (0, .ref (B + t)), (1, .ref (B + a0)), (3, .int x9)]) hx hb dX1_growOver_112 hl (k := 2) rfl (by rw [e15]; rfl) (by decide) rfl (fun ls hl => ?_)
      refine lv_goto (tgt := 23) hx hb dX1_growOver_115 (by decide) ?_
      exact ih7 _ _ hf  _ _ _ hh (lv_sub hl [1, 2, 0] rfl)
    · have hf := if_f hc13 hf
      refine lv_iload_n hx hb dX1_growOver_41 rfl (lv_at hl 2 rfl) ?_
      refine jn_W (P := fun j18 => ∀ (w17 : Wd), j18 w17 = some w' → ∀ (H : Heap) (locs : List Loc) (ls : Array Slot), Hp B D n w17 s H locs → lv_has ls 4 [(0, .ref (B + t)), (1, .ref (B + a0)), (2, .int x4), (3, .int x9)] → W p l e (rmk 3 76 0 0) s m args below meth c H locs 0 0 (MZ below B D n w' none args s 0 0) (F0 m 106 ls [])) hf (fun w17 hf  H locs ls hh hl => ?_) (fun j18 hj18 hf => ?_)
      · obtain ⟨x19, e20⟩ : ∃ y : Int32, y = (x9 + (1 : Int32)) := ⟨_, rfl⟩
        have hf := lt_e e20 hf
        refine lv_iinc (v := x19) (lv' := [(3, .int x19), (0, .ref (B + t)), (1, .ref (B + a0)), (2, .int x4)]) hx hb dX1_growOver_106 hl (k := 3) rfl (by rw [e20]; rfl) (by decide) rfl (fun ls hl => ?_)
        refine lv_goto (tgt := 33) hx hb dX1_growOver_109 (by decide) ?_
        exact ih12 _ _ hf  _ _ _ hh (lv_sub hl [1, 2, 3, 0] rfl)
      · refine jn_W (P := fun j21 => j21 = some w' → ∀ (H : Heap) (locs : List Loc) (ls : Array Slot), Hp B D n w10 s H locs → lv_has ls 4 [(0, .ref (B + t)), (1, .ref (B + a0)), (2, .int x4), (3, .int x9)] → W p l e (rmk 3 76 0 0) s m args below meth c H locs 0 0 (MZ below B D n w' none args s 0 0) (F0 m 49 ls [])) hf (fun  hf  H locs ls hh hl => ?_) (fun j21 hj21 hf => ?_)
        · refine lv_aload_n hx hb dX1_growOver_49 rfl (lv_at hl 0 rfl) ?_
          refine lv_iload_n hx hb dX1_growOver_50 rfl (lv_at hl 2 rfl) ?_
          refine lv_iload_n hx hb dX1_growOver_51 rfl (lv_at hl 3 rfl) ?_
          obtain ⟨v23, hc22, hf⟩ := c1_e hf
          obtain ⟨h24, hf⟩ := ck_n hN hf
          refine q_V (w' := w10) (rest := []) X hml hh (some (.ref (B + v23))) (m_X1_at l B D hN ht hc22) cf_X1_at k_265 ht ci_1 rfl rfl hl.1 rfl (Nat.le_of_ble_eq_true rfl) ⟨Nat.le_of_ble_eq_true rfl, Nat.le_of_ble_eq_true rfl⟩ ⟨Nat.zero_le _, Nat.zero_le _⟩ dX1_growOver_52 rfl (fun H locs hh => ?_)
          obtain ⟨w26, hc25, hf⟩ := c1_e hf
          refine q_V (w' := w26) (rest := []) X hml hh none (m_X5_makeEmpty l B D hN h24 hc25) cf_X5_makeEmpty k_269 h24 ci_5 rfl rfl hl.1 rfl (Nat.le_of_ble_eq_true rfl) ⟨Nat.le_of_ble_eq_true rfl, Nat.le_of_ble_eq_true rfl⟩ ⟨Nat.zero_le _, Nat.zero_le _⟩ dX1_growOver_55 rfl (fun H locs hh => ?_)
          refine lv_goto (tgt := 106) hx hb dX1_growOver_58 (by decide) ?_
          exact hj18 _ hf  _ _ _ hh (lv_sub hl [0, 1, 2, 3] rfl)
        · refine lv_if_eq (tgt := 49) hx hb dX1_growOver_42 (by decide) (fun hc16 => ?_) (fun hc16 => ?_)
          · have hf := if_t hc16 hf
            exact hj21  hf  _ _ _ hh (lv_sub hl [0, 1, 2, 3] rfl)
          · have hf := if_f hc16 hf
            refine lv_iload_n hx hb dX1_growOver_45 rfl (lv_at hl 3 rfl) ?_
            refine lv_if_ne (tgt := 61) hx hb dX1_growOver_46 (by decide) (fun hc27 => ?_) (fun hc27 => ?_)
            · have hf := if_f hc27 hf
              refine lv_aload_n hx hb dX1_growOver_61 rfl (lv_at hl 0 rfl) ?_
              refine lv_iload_n hx hb dX1_growOver_62 rfl (lv_at hl 2 rfl) ?_
              refine lv_iload_n hx hb dX1_growOver_63 rfl (lv_at hl 3 rfl) ?_
              obtain ⟨v29, hc28, hf⟩ := c1_e hf
              obtain ⟨h30, hf⟩ := ck_n hN hf
              refine q_V (w' := w10) (rest := []) X hml hh (some (.ref (B + v29))) (m_X1_at l B D hN ht hc28) cf_X1_at k_265 ht ci_1 rfl rfl hl.1 rfl (Nat.le_of_ble_eq_true rfl) ⟨Nat.le_of_ble_eq_true rfl, Nat.le_of_ble_eq_true rfl⟩ ⟨Nat.zero_le _, Nat.zero_le _⟩ dX1_growOver_64 rfl (fun H locs hh => ?_)
              refine lv_aload_n hx hb dX1_growOver_67 rfl (lv_at hl 0 rfl) ?_
              refine lv_iload_n hx hb dX1_growOver_68 rfl (lv_at hl 2 rfl) ?_
              refine lv_iconst (v := (1 : Int32)) hx hb dX1_growOver_69 (by decide) ?_
              refine lv_isub hx hb dX1_growOver_70 ?_
              refine lv_iload_n hx hb dX1_growOver_71 rfl (lv_at hl 3 rfl) ?_
              refine lv_iconst (v := (1 : Int32)) hx hb dX1_growOver_72 (by decide) ?_
              refine lv_isub hx hb dX1_growOver_73 ?_
              obtain ⟨v32, hc31, hf⟩ := c1_e hf
              obtain ⟨h33, hf⟩ := ck_n hN hf
              refine q_V (w' := w10) (rest := [.ref (B + v29)]) X hml hh (some (.ref (B + v32))) (m_X1_at l B D hN ht hc31) cf_X1_at k_265 ht ci_1 rfl rfl hl.1 rfl (Nat.le_of_ble_eq_true rfl) ⟨Nat.le_of_ble_eq_true rfl, Nat.le_of_ble_eq_true rfl⟩ ⟨Nat.zero_le _, Nat.zero_le _⟩ dX1_growOver_74 rfl (fun H locs hh => ?_)
              refine lv_aload_n hx hb dX1_growOver_77 rfl (lv_at hl 0 rfl) ?_
              refine lv_iload_n hx hb dX1_growOver_78 rfl (lv_at hl 2 rfl) ?_
              refine lv_iconst (v := (1 : Int32)) hx hb dX1_growOver_79 (by decide) ?_
              refine lv_isub hx hb dX1_growOver_80 ?_
              refine lv_iload_n hx hb dX1_growOver_81 rfl (lv_at hl 3 rfl) ?_
              obtain ⟨v35, hc34, hf⟩ := c1_e hf
              obtain ⟨h36, hf⟩ := ck_n hN hf
              refine q_V (w' := w10) (rest := [.ref (B + v32), .ref (B + v29)]) X hml hh (some (.ref (B + v35))) (m_X1_at l B D hN ht hc34) cf_X1_at k_265 ht ci_1 rfl rfl hl.1 rfl (Nat.le_of_ble_eq_true rfl) ⟨Nat.le_of_ble_eq_true rfl, Nat.le_of_ble_eq_true rfl⟩ ⟨Nat.zero_le _, Nat.zero_le _⟩ dX1_growOver_82 rfl (fun H locs hh => ?_)
              refine lv_aload_n hx hb dX1_growOver_85 rfl (lv_at hl 0 rfl) ?_
              refine lv_iload_n hx hb dX1_growOver_86 rfl (lv_at hl 2 rfl) ?_
              refine lv_iload_n hx hb dX1_growOver_87 rfl (lv_at hl 3 rfl) ?_
              refine lv_iconst (v := (1 : Int32)) hx hb dX1_growOver_88 (by decide) ?_
              refine lv_isub hx hb dX1_growOver_89 ?_
              obtain ⟨v38, hc37, hf⟩ := c1_e hf
              obtain ⟨h39, hf⟩ := ck_n hN hf
              refine q_V (w' := w10) (rest := [.ref (B + v35), .ref (B + v32), .ref (B + v29)]) X hml hh (some (.ref (B + v38))) (m_X1_at l B D hN ht hc37) cf_X1_at k_265 ht ci_1 rfl rfl hl.1 rfl (Nat.le_of_ble_eq_true rfl) ⟨Nat.le_of_ble_eq_true rfl, Nat.le_of_ble_eq_true rfl⟩ ⟨Nat.zero_le _, Nat.zero_le _⟩ dX1_growOver_90 rfl (fun H locs hh => ?_)
              refine lv_aload_n hx hb dX1_growOver_93 rfl (lv_at hl 1 rfl) ?_
              refine lv_iload_n hx hb dX1_growOver_94 rfl (lv_at hl 2 rfl) ?_
              refine lv_iload_n hx hb dX1_growOver_95 rfl (lv_at hl 3 rfl) ?_
              obtain ⟨v41, hc40, hf⟩ := c1_e hf
              refine q_V (w' := w10) (rest := [.ref (B + v38), .ref (B + v35), .ref (B + v32), .ref (B + v29)]) X hml hh (some (.int v41)) (m_X0_worthAt l B D hN ha0 hc40) cf_X0_worthAt k_273 ha0 ci_0 rfl rfl hl.1 rfl (Nat.le_of_ble_eq_true rfl) ⟨Nat.le_of_ble_eq_true rfl, Nat.le_of_ble_eq_true rfl⟩ ⟨Nat.zero_le _, Nat.zero_le _⟩ dX1_growOver_96 rfl (fun H locs hh => ?_)
              refine lv_aload_n hx hb dX1_growOver_99 rfl (lv_at hl 1 rfl) ?_
              refine r_gi X hh ha0 fk_X1_51 dX1_growOver_100 ?_
              obtain ⟨w43, hc42, hf⟩ := c1_e hf
              refine q_V (w' := w43) (rest := []) X hml hh none (m_X5_growFrom l B D hN h30 h33 h36 h39 hc42) cf_X5_growFrom k_280 h30 ci_5 rfl rfl hl.1 rfl (Nat.le_of_ble_eq_true rfl) ⟨Nat.le_of_ble_eq_true rfl, Nat.le_of_ble_eq_true rfl⟩ ⟨Nat.zero_le _, Nat.zero_le _⟩ dX1_growOver_103 rfl (fun H locs hh => ?_)
              exact hj18 _ hf  _ _ _ hh (lv_sub hl [0, 1, 2, 3] rfl)
            · have hf := if_t hc27 hf
              exact hj21  hf  _ _ _ hh (lv_sub hl [0, 1, 2, 3] rfl)
set_option maxHeartbeats 4000000 in
set_option maxRecDepth 100000 in
theorem m_X1_goBackInto (l : Launch) (B : Nat) (D : DD) {n : Nat} (hN : 139 ≤ n) {t : Nat} {a0 : Nat} {w : Wd} {r : Int32} {w' : Wd} (ht : t < n ∧ kd t = 1) (ha0 : a0 < n ∧ kd a0 = 0) (hf : f_X1_goBackInto t a0 w = some (r, w')) : Ct l yX1_goBackInto cX1_goBackInto 6 (some .int) 3 75 0 0 B D [.ref (B + t), .ref (B + a0)] n w (some (.int r)) n w' := by
  refine m_of (by decide) (Nat.le_of_ble_eq_true rfl) (fun p e s m args below meth c X hml hr hlk _ H locs hh ls hl => ?_)
  have hx := X.1
  have hb := X.2.1
  have hl : lv_has ls 6 [(0, .ref (B + t)), (1, .ref (B + a0))] := hl
  unfold f_X1_goBackInto at hf
  refine lv_iconst (v := (0 : Int32)) hx hb dX1_goBackInto_0 (by decide) ?_
  refine lv_istore_n (lv' := [(2, .int (0 : Int32)), (0, .ref (B + t)), (1, .ref (B + a0))]) hx hb dX1_goBackInto_1 rfl hl (by decide) rfl (fun ls hl => ?_)
  refine lv_aload_n hx hb dX1_goBackInto_2 rfl (lv_at hl 1 rfl) ?_
  refine r_gi X hh ht fk_X1_22 dX1_goBackInto_3 ?_
  refine lv_topi (fun x1 e2 => ?_)
  have hf := lt_e e2 hf
  refine lv_istore_n (lv' := [(3, .int x1), (2, .int (0 : Int32)), (0, .ref (B + t)), (1, .ref (B + a0))]) hx hb dX1_goBackInto_6 rfl hl (by decide) rfl (fun ls hl => ?_)
  refine wl3_W (P := fun (x3 : Int32) (x4 : Int32) (w5 : Wd) => ∀ (H : Heap) (locs : List Loc) (ls : Array Slot), Hp B D n w5 s H locs → lv_has ls 6 [(0, .ref (B + t)), (1, .ref (B + a0)), (2, .int x3), (3, .int x4)] → W p l e (rmk 3 75 0 0) s m args below meth c H locs 0 0 (MZ below B D n w' (some (.int r)) args s 0 0) (F0 m 7 ls [])) hf (fun x3 x4 w5 k6 ih7 hf  H locs ls hh hl => ?_)  _ _ _ hh (lv_sub hl [2, 3, 1, 0] rfl)
  refine lv_iload_n hx hb dX1_goBackInto_7 rfl (lv_at hl 3 rfl) ?_
  refine lv_iconst (v := (1 : Int32)) hx hb dX1_goBackInto_8 (by decide) ?_
  refine lv_icmp_lt (tgt := 97) hx hb dX1_goBackInto_9 (by decide) (fun hc8 => ?_) (fun hc8 => ?_)
  · have hf := if_t hc8 hf
    refine lv_iload_n hx hb dX1_goBackInto_97 rfl (lv_at hl 2 rfl) ?_
    exact e_i X hr hlk hh (so2_e hf) dX1_goBackInto_98
  · have hf := if_f hc8 hf
    refine lv_aload_n hx hb dX1_goBackInto_12 rfl (lv_at hl 0 rfl) ?_
    refine r_gi X hh ht fk_X1_26 dX1_goBackInto_13 ?_
    refine lv_topi (fun x9 e10 => ?_)
    have hf := lt_e e10 hf
    refine lv_istore (lv' := [(4, .int x9), (0, .ref (B + t)), (1, .ref (B + a0)), (2, .int x3), (3, .int x4)]) hx hb dX1_goBackInto_16 hl (by decide) rfl (fun ls hl => ?_)
    refine wl3_W (P := fun (x11 : Int32) (x12 : Int32) (w13 : Wd) => ∀ (H : Heap) (locs : List Loc) (ls : Array Slot), Hp B D n w13 s H locs → lv_has ls 6 [(0, .ref (B + t)), (1, .ref (B + a0)), (2, .int x11), (3, .int x4), (4, .int x12)] → W p l e (rmk 3 75 0 0) s m args below meth c H locs 0 0 (MZ below B D n w' (some (.int r)) args s 0 0) (F0 m 18 ls [])) hf (fun x11 x12 w13 k14 ih15 hf  H locs ls hh hl => ?_)  _ _ _ hh (lv_sub hl [1, 2, 3, 4, 0] rfl)
    refine lv_iload hx hb dX1_goBackInto_18 (lv_at hl 4 rfl) ?_
    refine lv_iconst (v := (1 : Int32)) hx hb dX1_goBackInto_20 (by decide) ?_
    refine lv_icmp_lt (tgt := 91) hx hb dX1_goBackInto_21 (by decide) (fun hc16 => ?_) (fun hc16 => ?_)
    · have hf := if_t hc16 hf
      obtain ⟨x17, e18⟩ : ∃ y : Int32, y = (x4 + (-1 : Int32)) := ⟨_, rfl⟩
      have hf := lt_e e18 hf
      refine lv_iinc (v := x17) (lv' := [(3, .int x17), (0, .ref (B + t)), (1, .ref (B + a0)), (2, .int x11), (4, .int x12)]) hx hb dX1_goBackInto_91 hl (k := 3) rfl (by rw [e18]; rfl) (by decide) rfl (fun ls hl => ?_)
      refine lv_goto (tgt := 7) hx hb dX1_goBackInto_94 (by decide) ?_
      exact ih7 _ _ _ hf  _ _ _ hh (lv_sub hl [1, 2, 3, 0] rfl)
    · have hf := if_f hc16 hf
      refine lv_aload_n hx hb dX1_goBackInto_24 rfl (lv_at hl 0 rfl) ?_
      refine lv_iload_n hx hb dX1_goBackInto_25 rfl (lv_at hl 3 rfl) ?_
      refine lv_iconst (v := (1 : Int32)) hx hb dX1_goBackInto_26 (by decide) ?_
      refine lv_isub hx hb dX1_goBackInto_27 ?_
      refine lv_iload hx hb dX1_goBackInto_28 (lv_at hl 4 rfl) ?_
      refine lv_iconst (v := (1 : Int32)) hx hb dX1_goBackInto_30 (by decide) ?_
      refine lv_isub hx hb dX1_goBackInto_31 ?_
      obtain ⟨v20, hc19, hf⟩ := c1_e hf
      obtain ⟨h21, hf⟩ := ck_n hN hf
      refine q_V (w' := w13) (rest := []) X hml hh (some (.ref (B + v20))) (m_X1_at l B D hN ht hc19) cf_X1_at k_265 ht ci_1 rfl rfl hl.1 rfl (Nat.le_of_ble_eq_true rfl) ⟨Nat.le_of_ble_eq_true rfl, Nat.le_of_ble_eq_true rfl⟩ ⟨Nat.zero_le _, Nat.zero_le _⟩ dX1_goBackInto_32 rfl (fun H locs hh => ?_)
      refine lv_aload_n hx hb dX1_goBackInto_35 rfl (lv_at hl 0 rfl) ?_
      refine lv_iload_n hx hb dX1_goBackInto_36 rfl (lv_at hl 3 rfl) ?_
      refine lv_iload hx hb dX1_goBackInto_37 (lv_at hl 4 rfl) ?_
      obtain ⟨v23, hc22, hf⟩ := c1_e hf
      obtain ⟨h24, hf⟩ := ck_n hN hf
      refine q_V (w' := w13) (rest := [.ref (B + v20)]) X hml hh (some (.ref (B + v23))) (m_X1_at l B D hN ht hc22) cf_X1_at k_265 ht ci_1 rfl rfl hl.1 rfl (Nat.le_of_ble_eq_true rfl) ⟨Nat.le_of_ble_eq_true rfl, Nat.le_of_ble_eq_true rfl⟩ ⟨Nat.zero_le _, Nat.zero_le _⟩ dX1_goBackInto_39 rfl (fun H locs hh => ?_)
      refine lv_aload_n hx hb dX1_goBackInto_42 rfl (lv_at hl 0 rfl) ?_
      refine lv_iload_n hx hb dX1_goBackInto_43 rfl (lv_at hl 3 rfl) ?_
      refine lv_iconst (v := (1 : Int32)) hx hb dX1_goBackInto_44 (by decide) ?_
      refine lv_isub hx hb dX1_goBackInto_45 ?_
      refine lv_iload hx hb dX1_goBackInto_46 (lv_at hl 4 rfl) ?_
      obtain ⟨v26, hc25, hf⟩ := c1_e hf
      obtain ⟨h27, hf⟩ := ck_n hN hf
      refine q_V (w' := w13) (rest := [.ref (B + v23), .ref (B + v20)]) X hml hh (some (.ref (B + v26))) (m_X1_at l B D hN ht hc25) cf_X1_at k_265 ht ci_1 rfl rfl hl.1 rfl (Nat.le_of_ble_eq_true rfl) ⟨Nat.le_of_ble_eq_true rfl, Nat.le_of_ble_eq_true rfl⟩ ⟨Nat.zero_le _, Nat.zero_le _⟩ dX1_goBackInto_48 rfl (fun H locs hh => ?_)
      refine lv_aload_n hx hb dX1_goBackInto_51 rfl (lv_at hl 0 rfl) ?_
      refine lv_iload_n hx hb dX1_goBackInto_52 rfl (lv_at hl 3 rfl) ?_
      refine lv_iload hx hb dX1_goBackInto_53 (lv_at hl 4 rfl) ?_
      refine lv_iconst (v := (1 : Int32)) hx hb dX1_goBackInto_55 (by decide) ?_
      refine lv_isub hx hb dX1_goBackInto_56 ?_
      obtain ⟨v29, hc28, hf⟩ := c1_e hf
      obtain ⟨h30, hf⟩ := ck_n hN hf
      refine q_V (w' := w13) (rest := [.ref (B + v26), .ref (B + v23), .ref (B + v20)]) X hml hh (some (.ref (B + v29))) (m_X1_at l B D hN ht hc28) cf_X1_at k_265 ht ci_1 rfl rfl hl.1 rfl (Nat.le_of_ble_eq_true rfl) ⟨Nat.le_of_ble_eq_true rfl, Nat.le_of_ble_eq_true rfl⟩ ⟨Nat.zero_le _, Nat.zero_le _⟩ dX1_goBackInto_57 rfl (fun H locs hh => ?_)
      refine lv_aload_n hx hb dX1_goBackInto_60 rfl (lv_at hl 1 rfl) ?_
      refine r_gi X hh ha0 fk_X1_51 dX1_goBackInto_61 ?_
      obtain ⟨v32, w33, hc31, hf⟩ := c2_e hf
      refine q_V (w' := w33) (rest := []) X hml hh (some (.int v32)) (m_X5_goBackFrom l B D hN h21 h24 h27 h30 hc31) cf_X5_goBackFrom k_359 h21 ci_5 rfl rfl hl.1 rfl (Nat.le_of_ble_eq_true rfl) ⟨Nat.le_of_ble_eq_true rfl, Nat.le_of_ble_eq_true rfl⟩ ⟨Nat.zero_le _, Nat.zero_le _⟩ dX1_goBackInto_64 rfl (fun H locs hh => ?_)
      refine lv_istore (lv' := [(5, .int v32), (0, .ref (B + t)), (1, .ref (B + a0)), (2, .int x11), (3, .int x4), (4, .int x12)]) hx hb dX1_goBackInto_67 hl (by decide) rfl (fun ls hl => ?_)
      refine lv_aload_n hx hb dX1_goBackInto_69 rfl (lv_at hl 2 rfl) ?_
      refine lv_iload_n hx hb dX1_goBackInto_70 rfl (lv_at hl 4 rfl) ?_
      refine lv_iload hx hb dX1_goBackInto_71 (lv_at hl 5 rfl) ?_
      refine lv_iload hx hb dX1_goBackInto_73 (lv_at hl 0 rfl) ?_
      obtain ⟨w35, hc34, hf⟩ := c1_e hf
      refine q_V (w' := w35) (rest := []) X hml hh none (m_X0_setNumber l B D hN ha0 hc34) cf_X0_setNumber k_366 ha0 ci_0 rfl rfl hl.1 rfl (Nat.le_of_ble_eq_true rfl) ⟨Nat.le_of_ble_eq_true rfl, Nat.le_of_ble_eq_true rfl⟩ ⟨Nat.zero_le _, Nat.zero_le _⟩ dX1_goBackInto_75 rfl (fun H locs hh => ?_)
      refine lv_iload_n hx hb dX1_goBackInto_78 rfl (lv_at hl 3 rfl) ?_
      refine lv_iload hx hb dX1_goBackInto_79 (lv_at hl 0 rfl) ?_
      refine q_max X hml hl.1 k_370 (Nat.le_of_ble_eq_true rfl) ⟨Nat.le_of_ble_eq_true rfl, Nat.le_of_ble_eq_true rfl⟩ ⟨Nat.zero_le _, Nat.zero_le _⟩ dX1_goBackInto_81 ?_
      refine lv_topi (fun x36 e37 => ?_)
      have hf := lt_e e37 hf
      refine lv_istore_n (lv' := [(2, .int x36), (5, .int v32), (0, .ref (B + t)), (1, .ref (B + a0)), (3, .int x4), (4, .int x12)]) hx hb dX1_goBackInto_84 rfl hl (by decide) rfl (fun ls hl => ?_)
      obtain ⟨x38, e39⟩ : ∃ y : Int32, y = (x12 + (-1 : Int32)) := ⟨_, rfl⟩
      have hf := lt_e e39 hf
      refine lv_iinc (v := x38) (lv' := [(4, .int x38), (2, .int x36), (5, .int v32), (0, .ref (B + t)), (1, .ref (B + a0)), (3, .int x4)]) hx hb dX1_goBackInto_85 hl (k := 5) rfl (by rw [e39]; rfl) (by decide) rfl (fun ls hl => ?_)
      refine lv_goto (tgt := 18) hx hb dX1_goBackInto_88 (by decide) ?_
      exact ih15 _ _ _ hf  _ _ _ hh (lv_sub hl [3, 4, 1, 5, 0] rfl)
set_option maxHeartbeats 4000000 in
set_option maxRecDepth 100000 in
theorem m_X1_rimFits (l : Launch) (B : Nat) (D : DD) {n : Nat} (hN : 139 ≤ n) {t : Nat} {a0 : Int32} {w : Wd} {r : Int32} (ht : t < n ∧ kd t = 1) (hf : f_X1_rimFits t a0 w = some r) : Ct l yX1_rimFits cX1_rimFits 5 (some .boolean) 3 67 0 0 B D [.ref (B + t), .int a0] n w (some (.int r)) n w := by
  refine m_of (by decide) (Nat.le_of_ble_eq_true rfl) (fun p e s m args below meth c X hml hr hlk _ H locs hh ls hl => ?_)
  have hx := X.1
  have hb := X.2.1
  have hl : lv_has ls 5 [(0, .ref (B + t)), (1, .int a0)] := hl
  unfold f_X1_rimFits at hf
  refine lv_iload_n hx hb dX1_rimFits_0 rfl (lv_at hl 1 rfl) ?_
  refine lv_iconst (v := (1 : Int32)) hx hb dX1_rimFits_1 (by decide) ?_
  refine mg_W (P := fun (x3 : Int32) => ∀ (ls : Array Slot), lv_has ls 5 [(0, .ref (B + t)), (1, .int a0)] → W p l e (rmk 3 67 0 0) s m args below meth c H locs 0 0 (MZ below B D n w (some (.int r)) args s 0 0) (F0 m 15 ls [.int x3])) hf (fun x3 hf ls hl => ?_) (fun hj38 => ?_)
  · refine lv_istore_n (lv' := [(2, .int x3), (0, .ref (B + t)), (1, .int a0)]) hx hb dX1_rimFits_15 rfl hl (by decide) rfl (fun ls hl => ?_)
    refine lv_iload_n hx hb dX1_rimFits_16 rfl (lv_at hl 2 rfl) ?_
    refine lv_iconst (v := (2 : Int32)) hx hb dX1_rimFits_17 (by decide) ?_
    refine mg_W (P := fun (x6 : Int32) => ∀ (ls : Array Slot), lv_has ls 5 [(0, .ref (B + t)), (2, .int x3)] → W p l e (rmk 3 67 0 0) s m args below meth c H locs 0 0 (MZ below B D n w (some (.int r)) args s 0 0) (F0 m 31 ls [.int x6])) hf (fun x6 hf ls hl => ?_) (fun hj37 => ?_)
    · refine lv_istore_n (lv' := [(3, .int x6), (0, .ref (B + t)), (2, .int x3)]) hx hb dX1_rimFits_31 rfl hl (by decide) rfl (fun ls hl => ?_)
      refine lv_iconst (v := (1 : Int32)) hx hb dX1_rimFits_32 (by decide) ?_
      refine lv_istore (lv' := [(4, .int (1 : Int32)), (3, .int x6), (0, .ref (B + t)), (2, .int x3)]) hx hb dX1_rimFits_33 hl (by decide) rfl (fun ls hl => ?_)
      refine wl1_W (P := fun (x7 : Int32) => ∀ (H : Heap) (locs : List Loc) (ls : Array Slot), Hp B D n w s H locs → lv_has ls 5 [(0, .ref (B + t)), (2, .int x3), (3, .int x6), (4, .int x7)] → W p l e (rmk 3 67 0 0) s m args below meth c H locs 0 0 (MZ below B D n w (some (.int r)) args s 0 0) (F0 m 35 ls [])) hf (fun x7 k8 ih9 hf  H locs ls hh hl => ?_)  _ _ _ hh (lv_sub hl [2, 3, 1, 0] rfl)
      refine lv_iload hx hb dX1_rimFits_35 (lv_at hl 3 rfl) ?_
      refine lv_aload_n hx hb dX1_rimFits_37 rfl (lv_at hl 0 rfl) ?_
      refine r_gi X hh ht fk_X1_22 dX1_rimFits_38 ?_
      refine lv_icmp_gt (tgt := 81) hx hb dX1_rimFits_41 (by decide) (fun hc10 => ?_) (fun hc10 => ?_)
      · have hf := if_t hc10 hf
        refine lv_iconst (v := (1 : Int32)) hx hb dX1_rimFits_81 (by decide) ?_
        refine lv_istore (lv' := [(4, .int (1 : Int32)), (0, .ref (B + t)), (2, .int x3), (3, .int x6)]) hx hb dX1_rimFits_82 hl (by decide) rfl (fun ls hl => ?_)
        refine wl1_W (P := fun (x11 : Int32) => ∀ (H : Heap) (locs : List Loc) (ls : Array Slot), Hp B D n w s H locs → lv_has ls 5 [(0, .ref (B + t)), (3, .int x6), (4, .int x11)] → W p l e (rmk 3 67 0 0) s m args below meth c H locs 0 0 (MZ below B D n w (some (.int r)) args s 0 0) (F0 m 84 ls [])) hf (fun x11 k12 ih13 hf  H locs ls hh hl => ?_)  _ _ _ hh (lv_sub hl [1, 3, 0] rfl)
        refine lv_iload hx hb dX1_rimFits_84 (lv_at hl 2 rfl) ?_
        refine lv_aload_n hx hb dX1_rimFits_86 rfl (lv_at hl 0 rfl) ?_
        refine r_gi X hh ht fk_X1_26 dX1_rimFits_87 ?_
        refine lv_icmp_gt (tgt := 130) hx hb dX1_rimFits_90 (by decide) (fun hc14 => ?_) (fun hc14 => ?_)
        · have hf := if_t hc14 hf
          refine lv_iconst (v := (1 : Int32)) hx hb dX1_rimFits_130 (by decide) ?_
          exact e_z X hr hlk hh (Or.inr rfl) ⟨so_e hf, rfl⟩ dX1_rimFits_131
        · have hf := if_f hc14 hf
          refine lv_aload_n hx hb dX1_rimFits_93 rfl (lv_at hl 0 rfl) ?_
          refine lv_aload_n hx hb dX1_rimFits_94 rfl (lv_at hl 0 rfl) ?_
          refine r_gi X hh ht fk_X1_22 dX1_rimFits_95 ?_
          refine lv_iload hx hb dX1_rimFits_98 (lv_at hl 2 rfl) ?_
          obtain ⟨v16, hc15, hf⟩ := c1_e hf
          obtain ⟨h17, hf⟩ := ck_n hN hf
          refine q_V (w' := w) (rest := []) X hml hh (some (.ref (B + v16))) (m_X1_at l B D hN ht hc15) cf_X1_at k_265 ht ci_1 rfl rfl hl.1 rfl (Nat.le_of_ble_eq_true rfl) ⟨Nat.le_of_ble_eq_true rfl, Nat.le_of_ble_eq_true rfl⟩ ⟨Nat.zero_le _, Nat.zero_le _⟩ dX1_rimFits_100 rfl (fun H locs hh => ?_)
          refine lv_aload_n hx hb dX1_rimFits_103 rfl (lv_at hl 0 rfl) ?_
          refine lv_aload_n hx hb dX1_rimFits_104 rfl (lv_at hl 0 rfl) ?_
          refine r_gi X hh ht fk_X1_22 dX1_rimFits_105 ?_
          refine lv_iload hx hb dX1_rimFits_108 (lv_at hl 2 rfl) ?_
          refine lv_iconst (v := (1 : Int32)) hx hb dX1_rimFits_110 (by decide) ?_
          refine lv_isub hx hb dX1_rimFits_111 ?_
          obtain ⟨v19, hc18, hf⟩ := c1_e hf
          obtain ⟨h20, hf⟩ := ck_n hN hf
          refine q_V (w' := w) (rest := [.ref (B + v16)]) X hml hh (some (.ref (B + v19))) (m_X1_at l B D hN ht hc18) cf_X1_at k_265 ht ci_1 rfl rfl hl.1 rfl (Nat.le_of_ble_eq_true rfl) ⟨Nat.le_of_ble_eq_true rfl, Nat.le_of_ble_eq_true rfl⟩ ⟨Nat.zero_le _, Nat.zero_le _⟩ dX1_rimFits_112 rfl (fun H locs hh => ?_)
          refine lv_iload_n hx hb dX1_rimFits_115 rfl (lv_at hl 1 rfl) ?_
          obtain ⟨v22, hc21, hf⟩ := c1_e hf
          refine q_V (w' := w) (rest := []) X hml hh (some (.int v22)) (m_X5_goesOnFrom l B D hN h17 h20 hc21) cf_X5_goesOnFrom k_338 h17 ci_5 rfl rfl hl.1 rfl (Nat.le_of_ble_eq_true rfl) ⟨Nat.le_of_ble_eq_true rfl, Nat.le_of_ble_eq_true rfl⟩ ⟨Nat.zero_le _, Nat.zero_le _⟩ dX1_rimFits_116 rfl (fun H locs hh => ?_)
          refine lv_if_ne (tgt := 124) hx hb dX1_rimFits_119 (by decide) (fun hc23 => ?_) (fun hc23 => ?_)
          · have hf := if_f hc23 hf
            obtain ⟨x24, e25⟩ : ∃ y : Int32, y = (x11 + (1 : Int32)) := ⟨_, rfl⟩
            have hf := lt_e e25 hf
            refine lv_iinc (v := x24) (lv' := [(4, .int x24), (0, .ref (B + t)), (3, .int x6)]) hx hb dX1_rimFits_124 hl (k := 2) rfl (by rw [e25]; rfl) (by decide) rfl (fun ls hl => ?_)
            refine lv_goto (tgt := 84) hx hb dX1_rimFits_127 (by decide) ?_
            exact ih13 _ hf  _ _ _ hh (lv_sub hl [1, 2, 0] rfl)
          · have hf := if_t hc23 hf
            refine lv_iconst (v := (0 : Int32)) hx hb dX1_rimFits_122 (by decide) ?_
            exact e_z X hr hlk hh (Or.inl rfl) ⟨so_e hf, rfl⟩ dX1_rimFits_123
      · have hf := if_f hc10 hf
        refine lv_aload_n hx hb dX1_rimFits_44 rfl (lv_at hl 0 rfl) ?_
        refine lv_iload hx hb dX1_rimFits_45 (lv_at hl 3 rfl) ?_
        refine lv_aload_n hx hb dX1_rimFits_47 rfl (lv_at hl 0 rfl) ?_
        refine r_gi X hh ht fk_X1_26 dX1_rimFits_48 ?_
        obtain ⟨v27, hc26, hf⟩ := c1_e hf
        obtain ⟨h28, hf⟩ := ck_n hN hf
        refine q_V (w' := w) (rest := []) X hml hh (some (.ref (B + v27))) (m_X1_at l B D hN ht hc26) cf_X1_at k_265 ht ci_1 rfl rfl hl.1 rfl (Nat.le_of_ble_eq_true rfl) ⟨Nat.le_of_ble_eq_true rfl, Nat.le_of_ble_eq_true rfl⟩ ⟨Nat.zero_le _, Nat.zero_le _⟩ dX1_rimFits_51 rfl (fun H locs hh => ?_)
        refine lv_aload_n hx hb dX1_rimFits_54 rfl (lv_at hl 0 rfl) ?_
        refine lv_iload hx hb dX1_rimFits_55 (lv_at hl 3 rfl) ?_
        refine lv_iconst (v := (1 : Int32)) hx hb dX1_rimFits_57 (by decide) ?_
        refine lv_isub hx hb dX1_rimFits_58 ?_
        refine lv_aload_n hx hb dX1_rimFits_59 rfl (lv_at hl 0 rfl) ?_
        refine r_gi X hh ht fk_X1_26 dX1_rimFits_60 ?_
        obtain ⟨v30, hc29, hf⟩ := c1_e hf
        obtain ⟨h31, hf⟩ := ck_n hN hf
        refine q_V (w' := w) (rest := [.ref (B + v27)]) X hml hh (some (.ref (B + v30))) (m_X1_at l B D hN ht hc29) cf_X1_at k_265 ht ci_1 rfl rfl hl.1 rfl (Nat.le_of_ble_eq_true rfl) ⟨Nat.le_of_ble_eq_true rfl, Nat.le_of_ble_eq_true rfl⟩ ⟨Nat.zero_le _, Nat.zero_le _⟩ dX1_rimFits_63 rfl (fun H locs hh => ?_)
        refine lv_iload_n hx hb dX1_rimFits_66 rfl (lv_at hl 1 rfl) ?_
        obtain ⟨v33, hc32, hf⟩ := c1_e hf
        refine q_V (w' := w) (rest := []) X hml hh (some (.int v33)) (m_X5_goesOnFrom l B D hN h28 h31 hc32) cf_X5_goesOnFrom k_338 h28 ci_5 rfl rfl hl.1 rfl (Nat.le_of_ble_eq_true rfl) ⟨Nat.le_of_ble_eq_true rfl, Nat.le_of_ble_eq_true rfl⟩ ⟨Nat.zero_le _, Nat.zero_le _⟩ dX1_rimFits_67 rfl (fun H locs hh => ?_)
        refine lv_if_ne (tgt := 75) hx hb dX1_rimFits_70 (by decide) (fun hc34 => ?_) (fun hc34 => ?_)
        · have hf := if_f hc34 hf
          obtain ⟨x35, e36⟩ : ∃ y : Int32, y = (x7 + (1 : Int32)) := ⟨_, rfl⟩
          have hf := lt_e e36 hf
          refine lv_iinc (v := x35) (lv' := [(4, .int x35), (0, .ref (B + t)), (2, .int x3), (3, .int x6)]) hx hb dX1_rimFits_75 hl (k := 3) rfl (by rw [e36]; rfl) (by decide) rfl (fun ls hl => ?_)
          refine lv_goto (tgt := 35) hx hb dX1_rimFits_78 (by decide) ?_
          exact ih9 _ hf  _ _ _ hh (lv_sub hl [1, 2, 3, 0] rfl)
        · have hf := if_t hc34 hf
          refine lv_iconst (v := (0 : Int32)) hx hb dX1_rimFits_73 (by decide) ?_
          exact e_z X hr hlk hh (Or.inl rfl) ⟨so_e hf, rfl⟩ dX1_rimFits_74
    · refine lv_icmp_eq (tgt := 26) hx hb dX1_rimFits_18 (by decide) (fun hc4 => ?_) (fun hc4 => ?_)
      · refine lv_iconst (v := (1 : Int32)) hx hb dX1_rimFits_26 (by decide) ?_
        refine lv_goto (tgt := 31) hx hb dX1_rimFits_27 (by decide) ?_
        exact hj37 _ (by rw [if_pos hc4]) ls (lv_sub hl [1, 0] rfl)
      · refine lv_iload_n hx hb dX1_rimFits_21 rfl (lv_at hl 2 rfl) ?_
        refine lv_iconst (v := (3 : Int32)) hx hb dX1_rimFits_22 (by decide) ?_
        refine lv_icmp_ne (tgt := 30) hx hb dX1_rimFits_23 (by decide) (fun hc5 => ?_) (fun hc5 => ?_)
        · refine lv_iconst (v := (0 : Int32)) hx hb dX1_rimFits_30 (by decide) ?_
          exact hj37 _ (by rw [if_neg hc4, if_neg hc5]) ls (lv_sub hl [1, 0] rfl)
        · refine lv_iconst (v := (1 : Int32)) hx hb dX1_rimFits_26 (by decide) ?_
          refine lv_goto (tgt := 31) hx hb dX1_rimFits_27 (by decide) ?_
          exact hj37 _ (by rw [if_neg hc4, if_pos hc5]) ls (lv_sub hl [1, 0] rfl)
  · refine lv_icmp_eq (tgt := 10) hx hb dX1_rimFits_2 (by decide) (fun hc1 => ?_) (fun hc1 => ?_)
    · refine lv_iconst (v := (1 : Int32)) hx hb dX1_rimFits_10 (by decide) ?_
      refine lv_goto (tgt := 15) hx hb dX1_rimFits_11 (by decide) ?_
      exact hj38 _ (by rw [if_pos hc1]) ls (lv_sub hl [0, 1] rfl)
    · refine lv_iload_n hx hb dX1_rimFits_5 rfl (lv_at hl 1 rfl) ?_
      refine lv_iconst (v := (3 : Int32)) hx hb dX1_rimFits_6 (by decide) ?_
      refine lv_icmp_ne (tgt := 14) hx hb dX1_rimFits_7 (by decide) (fun hc2 => ?_) (fun hc2 => ?_)
      · refine lv_iconst (v := (0 : Int32)) hx hb dX1_rimFits_14 (by decide) ?_
        exact hj38 _ (by rw [if_neg hc1, if_neg hc2]) ls (lv_sub hl [0, 1] rfl)
      · refine lv_iconst (v := (1 : Int32)) hx hb dX1_rimFits_10 (by decide) ?_
        refine lv_goto (tgt := 15) hx hb dX1_rimFits_11 (by decide) ?_
        exact hj38 _ (by rw [if_neg hc1, if_pos hc2]) ls (lv_sub hl [0, 1] rfl)
end
section
set_option maxHeartbeats 4000000 in
set_option maxRecDepth 100000 in
theorem m_X2_undoable (l : Launch) (B : Nat) (D : DD) {n : Nat} (hN : 139 ≤ n) {t : Nat} {w : Wd} {r : Int32} (ht : t < n ∧ kd t = 2) (hf : f_X2_undoable t w = some r) : Ct l yX2_undoable cX2_undoable 1 (some .int) 0 0 0 0 B D [.ref (B + t)] n w (some (.int r)) n w := by
  refine m_of (by decide) (Nat.le_of_ble_eq_true rfl) (fun p e s m args below meth c X hml hr hlk _ H locs hh ls hl => ?_)
  have hx := X.1
  have hb := X.2.1
  have hl : lv_has ls 1 [(0, .ref (B + t))] := hl
  unfold f_X2_undoable at hf
  refine lv_aload_n hx hb dX2_undoable_0 rfl (lv_at hl 0 rfl) ?_
  refine r_gi X hh ht fk_X2_18 dX2_undoable_1 ?_
  exact e_i X hr hlk hh ⟨so_e hf, rfl⟩ dX2_undoable_4
set_option maxHeartbeats 4000000 in
set_option maxRecDepth 100000 in
theorem m_X2_redoable (l : Launch) (B : Nat) (D : DD) {n : Nat} (hN : 139 ≤ n) {t : Nat} {w : Wd} {r : Int32} (ht : t < n ∧ kd t = 2) (hf : f_X2_redoable t w = some r) : Ct l yX2_redoable cX2_redoable 1 (some .int) 0 0 0 0 B D [.ref (B + t)] n w (some (.int r)) n w := by
  refine m_of (by decide) (Nat.le_of_ble_eq_true rfl) (fun p e s m args below meth c X hml hr hlk _ H locs hh ls hl => ?_)
  have hx := X.1
  have hb := X.2.1
  have hl : lv_has ls 1 [(0, .ref (B + t))] := hl
  unfold f_X2_redoable at hf
  refine lv_aload_n hx hb dX2_redoable_0 rfl (lv_at hl 0 rfl) ?_
  refine r_gi X hh ht fk_X2_22 dX2_redoable_1 ?_
  refine lv_aload_n hx hb dX2_redoable_4 rfl (lv_at hl 0 rfl) ?_
  refine r_gi X hh ht fk_X2_18 dX2_redoable_5 ?_
  refine lv_isub hx hb dX2_redoable_8 ?_
  exact e_i X hr hlk hh ⟨so_e hf, rfl⟩ dX2_redoable_9
set_option maxHeartbeats 4000000 in
set_option maxRecDepth 100000 in
theorem m_X2_forgetAll (l : Launch) (B : Nat) (D : DD) {n : Nat} (hN : 139 ≤ n) {t : Nat} {w : Wd} {w' : Wd} (ht : t < n ∧ kd t = 2) (hf : f_X2_forgetAll t w = some w') : Ct l yX2_forgetAll cX2_forgetAll 1 none 0 0 0 0 B D [.ref (B + t)] n w none n w' := by
  refine m_of (by decide) (Nat.le_of_ble_eq_true rfl) (fun p e s m args below meth c X hml hr hlk _ H locs hh ls hl => ?_)
  have hx := X.1
  have hb := X.2.1
  have hl : lv_has ls 1 [(0, .ref (B + t))] := hl
  unfold f_X2_forgetAll at hf
  refine lv_aload_n hx hb dX2_forgetAll_0 rfl (lv_at hl 0 rfl) ?_
  refine lv_iconst (v := (0 : Int32)) hx hb dX2_forgetAll_1 (by decide) ?_
  refine q_pi X hh ht fk_X2_18 pk_2_1 rfl rfl dX2_forgetAll_2 hf (fun w1 H locs hf hh => ?_)
  refine lv_aload_n hx hb dX2_forgetAll_5 rfl (lv_at hl 0 rfl) ?_
  refine lv_iconst (v := (0 : Int32)) hx hb dX2_forgetAll_6 (by decide) ?_
  refine q_pi X hh ht fk_X2_22 pk_2_2 rfl rfl dX2_forgetAll_7 hf (fun w2 H locs hf hh => ?_)
  exact e_v X hr hlk hh ⟨rfl, so_e hf⟩ dX2_forgetAll_10
set_option maxHeartbeats 4000000 in
set_option maxRecDepth 100000 in
theorem m_X2_forgetOldest (l : Launch) (B : Nat) (D : DD) {n : Nat} (hN : 139 ≤ n) {t : Nat} {w : Wd} {w' : Wd} (ht : t < n ∧ kd t = 2) (hf : f_X2_forgetOldest t w = some w') : Ct l yX2_forgetOldest cX2_forgetOldest 3 none 0 0 0 0 B D [.ref (B + t)] n w none n w' := by
  refine m_of (by decide) (Nat.le_of_ble_eq_true rfl) (fun p e s m args below meth c X hml hr hlk _ H locs hh ls hl => ?_)
  have hx := X.1
  have hb := X.2.1
  have hl : lv_has ls 3 [(0, .ref (B + t))] := hl
  unfold f_X2_forgetOldest at hf
  refine lv_aload_n hx hb dX2_forgetOldest_0 rfl (lv_at hl 0 rfl) ?_
  refine q_gr (P := 10) X hh ht fk_X2_11 dX2_forgetOldest_1 hN hf (fun t1 h2 hf => ?_)
  refine lv_iconst (v := (0 : Int32)) hx hb dX2_forgetOldest_4 (by decide) ?_
  refine q_aald (P := 0) X hh h2 ⟨by decide, by decide⟩ dX2_forgetOldest_5 hN hf (fun t4 h5 hf => ?_)
  refine lv_astore_n (lv' := [(1, .ref (B + t4)), (0, .ref (B + t))]) hx hb dX2_forgetOldest_6 rfl hl (by decide) rfl (fun ls hl => ?_)
  refine lv_iconst (v := (0 : Int32)) hx hb dX2_forgetOldest_7 (by decide) ?_
  refine lv_istore_n (lv' := [(2, .int (0 : Int32)), (1, .ref (B + t4)), (0, .ref (B + t))]) hx hb dX2_forgetOldest_8 rfl hl (by decide) rfl (fun ls hl => ?_)
  refine wl2_W (P := fun (x6 : Int32) (w7 : Wd) => ∀ (H : Heap) (locs : List Loc) (ls : Array Slot), Hp B D n w7 s H locs → lv_has ls 3 [(0, .ref (B + t)), (1, .ref (B + t4)), (2, .int x6)] → W p l e (rmk 0 0 0 0) s m args below meth c H locs 0 0 (MZ below B D n w' none args s 0 0) (F0 m 9 ls [])) hf (fun x6 w7 k8 ih9 hf  H locs ls hh hl => ?_)  _ _ _ hh (lv_sub hl [2, 1, 0] rfl)
  refine lv_iload_n hx hb dX2_forgetOldest_9 rfl (lv_at hl 2 rfl) ?_
  refine lv_bipush (v := (8 : Int32)) hx hb dX2_forgetOldest_10 (by decide) ?_
  refine lv_icmp_ge (tgt := 35) hx hb dX2_forgetOldest_12 (by decide) (fun hc10 => ?_) (fun hc10 => ?_)
  · have hf := if_t hc10 hf
    refine lv_aload_n hx hb dX2_forgetOldest_35 rfl (lv_at hl 0 rfl) ?_
    refine q_gr (P := 10) X hh ht fk_X2_11 dX2_forgetOldest_36 hN hf (fun t11 h12 hf => ?_)
    refine lv_bipush (v := (8 : Int32)) hx hb dX2_forgetOldest_39 (by decide) ?_
    refine lv_aload_n hx hb dX2_forgetOldest_41 rfl (lv_at hl 1 rfl) ?_
    refine q_aast X hh h12 ⟨by decide, by decide⟩ h5 ci_0 rfl dX2_forgetOldest_42 hf (fun w14 H locs hf hh => ?_)
    refine lv_aload_n hx hb dX2_forgetOldest_43 rfl (lv_at hl 0 rfl) ?_
    refine lv_bipush (v := (7 : Int32)) hx hb dX2_forgetOldest_44 (by decide) ?_
    refine q_pi X hh ht fk_X2_18 pk_2_1 rfl rfl dX2_forgetOldest_46 hf (fun w15 H locs hf hh => ?_)
    exact e_v X hr hlk hh ⟨rfl, so_e hf⟩ dX2_forgetOldest_49
  · have hf := if_f hc10 hf
    refine lv_aload_n hx hb dX2_forgetOldest_15 rfl (lv_at hl 0 rfl) ?_
    refine q_gr (P := 10) X hh ht fk_X2_11 dX2_forgetOldest_16 hN hf (fun t16 h17 hf => ?_)
    refine lv_iload_n hx hb dX2_forgetOldest_19 rfl (lv_at hl 2 rfl) ?_
    refine lv_aload_n hx hb dX2_forgetOldest_20 rfl (lv_at hl 0 rfl) ?_
    refine q_gr (P := 10) X hh ht fk_X2_11 dX2_forgetOldest_21 hN hf (fun t18 h19 hf => ?_)
    refine lv_iload_n hx hb dX2_forgetOldest_24 rfl (lv_at hl 2 rfl) ?_
    refine lv_iconst (v := (1 : Int32)) hx hb dX2_forgetOldest_25 (by decide) ?_
    refine lv_iadd hx hb dX2_forgetOldest_26 ?_
    refine q_aald (P := 0) X hh h19 ⟨by decide, by decide⟩ dX2_forgetOldest_27 hN hf (fun t21 h22 hf => ?_)
    refine q_aast X hh h17 ⟨by decide, by decide⟩ h22 ci_0 rfl dX2_forgetOldest_28 hf (fun w24 H locs hf hh => ?_)
    obtain ⟨x25, e26⟩ : ∃ y : Int32, y = (x6 + (1 : Int32)) := ⟨_, rfl⟩
    have hf := lt_e e26 hf
    refine lv_iinc (v := x25) (lv' := [(2, .int x25), (0, .ref (B + t)), (1, .ref (B + t4))]) hx hb dX2_forgetOldest_29 hl (k := 2) rfl (by rw [e26]; rfl) (by decide) rfl (fun ls hl => ?_)
    refine lv_goto (tgt := 9) hx hb dX2_forgetOldest_32 (by decide) ?_
    exact ih9 _ _ hf  _ _ _ hh (lv_sub hl [1, 2, 0] rfl)
set_option maxHeartbeats 4000000 in
set_option maxRecDepth 100000 in
theorem m_X2_remember (l : Launch) (B : Nat) (D : DD) {n : Nat} (hN : 139 ≤ n) {t : Nat} {a0 : Nat} {w : Wd} {w' : Wd} (ht : t < n ∧ kd t = 2) (ha0 : a0 < n ∧ kd a0 = 0) (hf : f_X2_remember t a0 w = some w') : Ct l yX2_remember cX2_remember 2 none 1 22 0 0 B D [.ref (B + t), .ref (B + a0)] n w none n w' := by
  refine m_of (by decide) (Nat.le_of_ble_eq_true rfl) (fun p e s m args below meth c X hml hr hlk _ H locs hh ls hl => ?_)
  have hx := X.1
  have hb := X.2.1
  have hl : lv_has ls 2 [(0, .ref (B + t)), (1, .ref (B + a0))] := hl
  unfold f_X2_remember at hf
  refine lv_aload_n hx hb dX2_remember_0 rfl (lv_at hl 0 rfl) ?_
  refine r_gi X hh ht fk_X2_18 dX2_remember_1 ?_
  refine lv_bipush (v := (8 : Int32)) hx hb dX2_remember_4 (by decide) ?_
  refine jn_W (P := fun j3 => ∀ (w2 : Wd), j3 w2 = some w' → ∀ (H : Heap) (locs : List Loc) (ls : Array Slot), Hp B D n w2 s H locs → lv_has ls 2 [(0, .ref (B + t)), (1, .ref (B + a0))] → W p l e (rmk 1 22 0 0) s m args below meth c H locs 0 0 (MZ below B D n w' none args s 0 0) (F0 m 13 ls [])) hf (fun w2 hf  H locs ls hh hl => ?_) (fun j3 hj3 hf => ?_)
  · refine lv_aload_n hx hb dX2_remember_13 rfl (lv_at hl 0 rfl) ?_
    refine q_gr (P := 10) X hh ht fk_X2_11 dX2_remember_14 hN hf (fun t4 h5 hf => ?_)
    refine lv_aload_n hx hb dX2_remember_17 rfl (lv_at hl 0 rfl) ?_
    refine r_gi X hh ht fk_X2_18 dX2_remember_18 ?_
    refine q_aald (P := 0) X hh h5 ⟨by decide, by decide⟩ dX2_remember_21 hN hf (fun t7 h8 hf => ?_)
    refine lv_aload_n hx hb dX2_remember_22 rfl (lv_at hl 1 rfl) ?_
    obtain ⟨w10, hc9, hf⟩ := c1_e hf
    refine q_V (w' := w10) (rest := []) X hml hh none (m_X0_copyFrom l B D hN h8 ha0 hc9) cf_X0_copyFrom k_229 h8 ci_0 rfl rfl hl.1 rfl (Nat.le_of_ble_eq_true rfl) ⟨Nat.le_of_ble_eq_true rfl, Nat.le_of_ble_eq_true rfl⟩ ⟨Nat.zero_le _, Nat.zero_le _⟩ dX2_remember_23 rfl (fun H locs hh => ?_)
    refine lv_aload_n hx hb dX2_remember_26 rfl (lv_at hl 0 rfl) ?_
    refine lv_dup hx hb dX2_remember_27 rfl ?_
    refine r_gi X hh ht fk_X2_18 dX2_remember_28 ?_
    refine lv_iconst (v := (1 : Int32)) hx hb dX2_remember_31 (by decide) ?_
    refine lv_iadd hx hb dX2_remember_32 ?_
    refine q_pi X hh ht fk_X2_18 pk_2_1 rfl rfl dX2_remember_33 hf (fun w11 H locs hf hh => ?_)
    refine lv_aload_n hx hb dX2_remember_36 rfl (lv_at hl 0 rfl) ?_
    refine lv_aload_n hx hb dX2_remember_37 rfl (lv_at hl 0 rfl) ?_
    refine r_gi X hh ht fk_X2_18 dX2_remember_38 ?_
    refine q_pi X hh ht fk_X2_22 pk_2_2 rfl rfl dX2_remember_41 hf (fun w12 H locs hf hh => ?_)
    exact e_v X hr hlk hh ⟨rfl, so_e hf⟩ dX2_remember_44
  · refine lv_icmp_lt (tgt := 13) hx hb dX2_remember_6 (by decide) (fun hc1 => ?_) (fun hc1 => ?_)
    · have hf := if_t hc1 hf
      exact hj3 _ hf  _ _ _ hh (lv_sub hl [0, 1] rfl)
    · have hf := if_f hc1 hf
      refine lv_aload_n hx hb dX2_remember_9 rfl (lv_at hl 0 rfl) ?_
      obtain ⟨w14, hc13, hf⟩ := c1_e hf
      refine q_V (w' := w14) (rest := []) X hml hh none (m_X2_forgetOldest l B D hN ht hc13) cf_X2_forgetOldest k_225 ht ci_2 rfl rfl hl.1 rfl (Nat.le_of_ble_eq_true rfl) ⟨Nat.le_of_ble_eq_true rfl, Nat.le_of_ble_eq_true rfl⟩ ⟨Nat.zero_le _, Nat.zero_le _⟩ dX2_remember_10 rfl (fun H locs hh => ?_)
      exact hj3 _ hf  _ _ _ hh (lv_sub hl [0, 1] rfl)
set_option maxHeartbeats 4000000 in
set_option maxRecDepth 100000 in
theorem m_X2_stepBack (l : Launch) (B : Nat) (D : DD) {n : Nat} (hN : 139 ≤ n) {t : Nat} {a0 : Nat} {w : Wd} {w' : Wd} (ht : t < n ∧ kd t = 2) (ha0 : a0 < n ∧ kd a0 = 0) (hf : f_X2_stepBack t a0 w = some w') : Ct l yX2_stepBack cX2_stepBack 2 none 1 22 0 0 B D [.ref (B + t), .ref (B + a0)] n w none n w' := by
  refine m_of (by decide) (Nat.le_of_ble_eq_true rfl) (fun p e s m args below meth c X hml hr hlk _ H locs hh ls hl => ?_)
  have hx := X.1
  have hb := X.2.1
  have hl : lv_has ls 2 [(0, .ref (B + t)), (1, .ref (B + a0))] := hl
  unfold f_X2_stepBack at hf
  refine lv_aload_n hx hb dX2_stepBack_0 rfl (lv_at hl 0 rfl) ?_
  refine r_gi X hh ht fk_X2_18 dX2_stepBack_1 ?_
  refine lv_if_le (tgt := 43) hx hb dX2_stepBack_4 (by decide) (fun hc1 => ?_) (fun hc1 => ?_)
  · have hf := if_t hc1 hf
    exact e_v X hr hlk hh ⟨rfl, so_e hf⟩ dX2_stepBack_43
  · have hf := if_f hc1 hf
    refine lv_aload_n hx hb dX2_stepBack_7 rfl (lv_at hl 0 rfl) ?_
    refine q_gr (P := 10) X hh ht fk_X2_11 dX2_stepBack_8 hN hf (fun t2 h3 hf => ?_)
    refine lv_aload_n hx hb dX2_stepBack_11 rfl (lv_at hl 0 rfl) ?_
    refine r_gi X hh ht fk_X2_18 dX2_stepBack_12 ?_
    refine q_aald (P := 0) X hh h3 ⟨by decide, by decide⟩ dX2_stepBack_15 hN hf (fun t5 h6 hf => ?_)
    refine lv_aload_n hx hb dX2_stepBack_16 rfl (lv_at hl 1 rfl) ?_
    obtain ⟨w8, hc7, hf⟩ := c1_e hf
    refine q_V (w' := w8) (rest := []) X hml hh none (m_X0_copyFrom l B D hN h6 ha0 hc7) cf_X0_copyFrom k_229 h6 ci_0 rfl rfl hl.1 rfl (Nat.le_of_ble_eq_true rfl) ⟨Nat.le_of_ble_eq_true rfl, Nat.le_of_ble_eq_true rfl⟩ ⟨Nat.zero_le _, Nat.zero_le _⟩ dX2_stepBack_17 rfl (fun H locs hh => ?_)
    refine lv_aload_n hx hb dX2_stepBack_20 rfl (lv_at hl 0 rfl) ?_
    refine lv_dup hx hb dX2_stepBack_21 rfl ?_
    refine r_gi X hh ht fk_X2_18 dX2_stepBack_22 ?_
    refine lv_iconst (v := (1 : Int32)) hx hb dX2_stepBack_25 (by decide) ?_
    refine lv_isub hx hb dX2_stepBack_26 ?_
    refine q_pi X hh ht fk_X2_18 pk_2_1 rfl rfl dX2_stepBack_27 hf (fun w9 H locs hf hh => ?_)
    refine lv_aload_n hx hb dX2_stepBack_30 rfl (lv_at hl 1 rfl) ?_
    refine lv_aload_n hx hb dX2_stepBack_31 rfl (lv_at hl 0 rfl) ?_
    refine q_gr (P := 10) X hh ht fk_X2_11 dX2_stepBack_32 hN hf (fun t10 h11 hf => ?_)
    refine lv_aload_n hx hb dX2_stepBack_35 rfl (lv_at hl 0 rfl) ?_
    refine r_gi X hh ht fk_X2_18 dX2_stepBack_36 ?_
    refine q_aald (P := 0) X hh h11 ⟨by decide, by decide⟩ dX2_stepBack_39 hN hf (fun t13 h14 hf => ?_)
    obtain ⟨w16, hc15, hf⟩ := c1_e hf
    refine q_V (w' := w16) (rest := []) X hml hh none (m_X0_copyFrom l B D hN ha0 h14 hc15) cf_X0_copyFrom k_229 ha0 ci_0 rfl rfl hl.1 rfl (Nat.le_of_ble_eq_true rfl) ⟨Nat.le_of_ble_eq_true rfl, Nat.le_of_ble_eq_true rfl⟩ ⟨Nat.zero_le _, Nat.zero_le _⟩ dX2_stepBack_40 rfl (fun H locs hh => ?_)
    exact e_v X hr hlk hh ⟨rfl, so_e hf⟩ dX2_stepBack_43
set_option maxHeartbeats 4000000 in
set_option maxRecDepth 100000 in
theorem m_X2_stepOn (l : Launch) (B : Nat) (D : DD) {n : Nat} (hN : 139 ≤ n) {t : Nat} {a0 : Nat} {w : Wd} {w' : Wd} (ht : t < n ∧ kd t = 2) (ha0 : a0 < n ∧ kd a0 = 0) (hf : f_X2_stepOn t a0 w = some w') : Ct l yX2_stepOn cX2_stepOn 2 none 1 22 0 0 B D [.ref (B + t), .ref (B + a0)] n w none n w' := by
  refine m_of (by decide) (Nat.le_of_ble_eq_true rfl) (fun p e s m args below meth c X hml hr hlk _ H locs hh ls hl => ?_)
  have hx := X.1
  have hb := X.2.1
  have hl : lv_has ls 2 [(0, .ref (B + t)), (1, .ref (B + a0))] := hl
  unfold f_X2_stepOn at hf
  refine lv_aload_n hx hb dX2_stepOn_0 rfl (lv_at hl 0 rfl) ?_
  refine r_gi X hh ht fk_X2_18 dX2_stepOn_1 ?_
  refine lv_aload_n hx hb dX2_stepOn_4 rfl (lv_at hl 0 rfl) ?_
  refine r_gi X hh ht fk_X2_22 dX2_stepOn_5 ?_
  refine lv_icmp_ge (tgt := 34) hx hb dX2_stepOn_8 (by decide) (fun hc1 => ?_) (fun hc1 => ?_)
  · have hf := if_t hc1 hf
    exact e_v X hr hlk hh ⟨rfl, so_e hf⟩ dX2_stepOn_34
  · have hf := if_f hc1 hf
    refine lv_aload_n hx hb dX2_stepOn_11 rfl (lv_at hl 0 rfl) ?_
    refine lv_dup hx hb dX2_stepOn_12 rfl ?_
    refine r_gi X hh ht fk_X2_18 dX2_stepOn_13 ?_
    refine lv_iconst (v := (1 : Int32)) hx hb dX2_stepOn_16 (by decide) ?_
    refine lv_iadd hx hb dX2_stepOn_17 ?_
    refine q_pi X hh ht fk_X2_18 pk_2_1 rfl rfl dX2_stepOn_18 hf (fun w2 H locs hf hh => ?_)
    refine lv_aload_n hx hb dX2_stepOn_21 rfl (lv_at hl 1 rfl) ?_
    refine lv_aload_n hx hb dX2_stepOn_22 rfl (lv_at hl 0 rfl) ?_
    refine q_gr (P := 10) X hh ht fk_X2_11 dX2_stepOn_23 hN hf (fun t3 h4 hf => ?_)
    refine lv_aload_n hx hb dX2_stepOn_26 rfl (lv_at hl 0 rfl) ?_
    refine r_gi X hh ht fk_X2_18 dX2_stepOn_27 ?_
    refine q_aald (P := 0) X hh h4 ⟨by decide, by decide⟩ dX2_stepOn_30 hN hf (fun t6 h7 hf => ?_)
    obtain ⟨w9, hc8, hf⟩ := c1_e hf
    refine q_V (w' := w9) (rest := []) X hml hh none (m_X0_copyFrom l B D hN ha0 h7 hc8) cf_X0_copyFrom k_229 ha0 ci_0 rfl rfl hl.1 rfl (Nat.le_of_ble_eq_true rfl) ⟨Nat.le_of_ble_eq_true rfl, Nat.le_of_ble_eq_true rfl⟩ ⟨Nat.zero_le _, Nat.zero_le _⟩ dX2_stepOn_31 rfl (fun H locs hh => ?_)
    exact e_v X hr hlk hh ⟨rfl, so_e hf⟩ dX2_stepOn_34
end
section
set_option maxHeartbeats 4000000 in
set_option maxRecDepth 100000 in
theorem m_X4_bestRow (l : Launch) (B : Nat) (D : DD) {n : Nat} (hN : 139 ≤ n) {t : Nat} {a0 : Nat} {a1 : Int32} {a2 : Int32} {w : Wd} {r : Int32} {w' : Wd} (ht : t < n ∧ kd t = 4) (ha0 : a0 < n ∧ kd a0 = 0) (hf : f_X4_bestRow t a0 a1 a2 w = some (r, w')) : Ct l yX4_bestRow cX4_bestRow 11 (some .int) 2 44 0 0 B D [.ref (B + t), .ref (B + a0), .int a1, .int a2] n w (some (.int r)) n w' := by
  refine m_of (by decide) (Nat.le_of_ble_eq_true rfl) (fun p e s m args below meth c X hml hr hlk _ H locs hh ls hl => ?_)
  have hx := X.1
  have hb := X.2.1
  have hl : lv_has ls 11 [(0, .ref (B + t)), (1, .ref (B + a0)), (2, .int a1), (3, .int a2)] := hl
  unfold f_X4_bestRow at hf
  refine lv_iload_n hx hb dX4_bestRow_0 rfl (lv_at hl 2 rfl) ?_
  refine lv_iconst (v := (1 : Int32)) hx hb dX4_bestRow_1 (by decide) ?_
  refine mg_W (P := fun (x3 : Int32) => ∀ (ls : Array Slot), lv_has ls 11 [(0, .ref (B + t)), (1, .ref (B + a0)), (2, .int a1), (3, .int a2)] → W p l e (rmk 2 44 0 0) s m args below meth c H locs 0 0 (MZ below B D n w' (some (.int r)) args s 0 0) (F0 m 15 ls [.int x3])) hf (fun x3 hf ls hl => ?_) (fun hj69 => ?_)
  · refine lv_istore (lv' := [(4, .int x3), (0, .ref (B + t)), (1, .ref (B + a0)), (2, .int a1), (3, .int a2)]) hx hb dX4_bestRow_15 hl (by decide) rfl (fun ls hl => ?_)
    refine lv_iload_n hx hb dX4_bestRow_17 rfl (lv_at hl 3 rfl) ?_
    refine lv_iconst (v := (2 : Int32)) hx hb dX4_bestRow_18 (by decide) ?_
    refine mg_W (P := fun (x5 : Int32) => ∀ (ls : Array Slot), lv_has ls 11 [(0, .ref (B + t)), (1, .ref (B + a0)), (3, .int a2), (4, .int x3)] → W p l e (rmk 2 44 0 0) s m args below meth c H locs 0 0 (MZ below B D n w' (some (.int r)) args s 0 0) (F0 m 27 ls [.int x5])) hf (fun x5 hf ls hl => ?_) (fun hj68 => ?_)
    · refine lv_istore (lv' := [(5, .int x5), (0, .ref (B + t)), (1, .ref (B + a0)), (3, .int a2), (4, .int x3)]) hx hb dX4_bestRow_27 hl (by decide) rfl (fun ls hl => ?_)
      refine lv_iconst (v := (1 : Int32)) hx hb dX4_bestRow_29 (by decide) ?_
      refine lv_istore (lv' := [(6, .int (1 : Int32)), (5, .int x5), (0, .ref (B + t)), (1, .ref (B + a0)), (3, .int a2), (4, .int x3)]) hx hb dX4_bestRow_30 hl (by decide) rfl (fun ls hl => ?_)
      refine wl2_W (P := fun (x6 : Int32) (w7 : Wd) => ∀ (H : Heap) (locs : List Loc) (ls : Array Slot), Hp B D n w7 s H locs → lv_has ls 11 [(0, .ref (B + t)), (1, .ref (B + a0)), (3, .int a2), (4, .int x3), (5, .int x5), (6, .int x6)] → W p l e (rmk 2 44 0 0) s m args below meth c H locs 0 0 (MZ below B D n w' (some (.int r)) args s 0 0) (F0 m 32 ls [])) hf (fun x6 w7 k8 ih9 hf  H locs ls hh hl => ?_)  _ _ _ hh (lv_sub hl [2, 3, 4, 5, 1, 0] rfl)
      refine lv_iload hx hb dX4_bestRow_32 (lv_at hl 5 rfl) ?_
      refine lv_aload_n hx hb dX4_bestRow_34 rfl (lv_at hl 1 rfl) ?_
      refine r_gi X hh ha0 fk_X4_16 dX4_bestRow_35 ?_
      refine lv_icmp_gt (tgt := 183) hx hb dX4_bestRow_38 (by decide) (fun hc10 => ?_) (fun hc10 => ?_)
      · have hf := if_t hc10 hf
        refine lv_aload_n hx hb dX4_bestRow_183 rfl (lv_at hl 0 rfl) ?_
        refine q_gr (P := 13) X hh ht fk_X4_11 dX4_bestRow_184 hN hf (fun t11 h12 hf => ?_)
        refine lv_aload_n hx hb dX4_bestRow_187 rfl (lv_at hl 1 rfl) ?_
        refine r_gi X hh ha0 fk_X4_16 dX4_bestRow_188 ?_
        refine q_aald (P := 9) X hh h12 ⟨by decide, by decide⟩ dX4_bestRow_191 hN hf (fun t14 h15 hf => ?_)
        refine lv_aload_n hx hb dX4_bestRow_192 rfl (lv_at hl 1 rfl) ?_
        refine r_gi X hh ha0 fk_X4_22 dX4_bestRow_193 ?_
        refine q_ald X hh h15 dX4_bestRow_196 hf (fun hf => ?_)
        exact e_i X hr hlk hh (so2_e hf) dX4_bestRow_197
      · have hf := if_f hc10 hf
        refine lv_iconst (v := (1 : Int32)) hx hb dX4_bestRow_41 (by decide) ?_
        refine lv_istore (lv' := [(7, .int (1 : Int32)), (0, .ref (B + t)), (1, .ref (B + a0)), (3, .int a2), (4, .int x3), (5, .int x5), (6, .int x6)]) hx hb dX4_bestRow_42 hl (by decide) rfl (fun ls hl => ?_)
        refine wl2_W (P := fun (x17 : Int32) (w18 : Wd) => ∀ (H : Heap) (locs : List Loc) (ls : Array Slot), Hp B D n w18 s H locs → lv_has ls 11 [(0, .ref (B + t)), (1, .ref (B + a0)), (3, .int a2), (4, .int x3), (5, .int x5), (6, .int x6), (7, .int x17)] → W p l e (rmk 2 44 0 0) s m args below meth c H locs 0 0 (MZ below B D n w' (some (.int r)) args s 0 0) (F0 m 44 ls [])) hf (fun x17 w18 k19 ih20 hf  H locs ls hh hl => ?_)  _ _ _ hh (lv_sub hl [1, 2, 3, 4, 5, 6, 0] rfl)
        refine lv_iload hx hb dX4_bestRow_44 (lv_at hl 6 rfl) ?_
        refine lv_aload_n hx hb dX4_bestRow_46 rfl (lv_at hl 1 rfl) ?_
        refine r_gi X hh ha0 fk_X4_22 dX4_bestRow_47 ?_
        refine lv_icmp_gt (tgt := 177) hx hb dX4_bestRow_50 (by decide) (fun hc21 => ?_) (fun hc21 => ?_)
        · have hf := if_t hc21 hf
          obtain ⟨x22, e23⟩ : ∃ y : Int32, y = (x6 + (1 : Int32)) := ⟨_, rfl⟩
          have hf := lt_e e23 hf
          refine lv_iinc (v := x22) (lv' := [(6, .int x22), (0, .ref (B + t)), (1, .ref (B + a0)), (3, .int a2), (4, .int x3), (5, .int x5), (7, .int x17)]) hx hb dX4_bestRow_177 hl (k := 5) rfl (by rw [e23]; rfl) (by decide) rfl (fun ls hl => ?_)
          refine lv_goto (tgt := 32) hx hb dX4_bestRow_180 (by decide) ?_
          exact ih9 _ _ hf  _ _ _ hh (lv_sub hl [1, 2, 3, 4, 5, 0] rfl)
        · have hf := if_f hc21 hf
          refine lv_aload_n hx hb dX4_bestRow_53 rfl (lv_at hl 1 rfl) ?_
          refine lv_iload hx hb dX4_bestRow_54 (lv_at hl 5 rfl) ?_
          refine lv_iload hx hb dX4_bestRow_56 (lv_at hl 4 rfl) ?_
          refine mg_W (P := fun (x25 : Int32) => ∀ (ls : Array Slot), lv_has ls 11 [(0, .ref (B + t)), (1, .ref (B + a0)), (3, .int a2), (4, .int x3), (5, .int x5), (6, .int x6), (7, .int x17)] → W p l e (rmk 2 44 0 0) s m args below meth c H locs 0 0 (MZ below B D n w' (some (.int r)) args s 0 0) (F0 m 75 ls [.int x25, .int x6, .ref (B + a0)])) hf (fun x25 hf ls hl => ?_) (fun hj67 => ?_)
          · obtain ⟨v27, hc26, hf⟩ := c1_e hf
            refine q_V (w' := w18) (rest := []) X hml hh (some (.int v27)) (m_X0_numberAt l B D hN ha0 hc26) cf_X0_numberAt k_383 ha0 ci_0 rfl rfl hl.1 rfl (Nat.le_of_ble_eq_true rfl) ⟨Nat.le_of_ble_eq_true rfl, Nat.le_of_ble_eq_true rfl⟩ ⟨Nat.zero_le _, Nat.zero_le _⟩ dX4_bestRow_75 rfl (fun H locs hh => ?_)
            refine lv_istore (lv' := [(8, .int v27), (0, .ref (B + t)), (1, .ref (B + a0)), (3, .int a2), (4, .int x3), (5, .int x5), (6, .int x6), (7, .int x17)]) hx hb dX4_bestRow_78 hl (by decide) rfl (fun ls hl => ?_)
            refine lv_iload_n hx hb dX4_bestRow_80 rfl (lv_at hl 3 rfl) ?_
            refine mg_W (P := fun (x29 : Int32) => ∀ (ls : Array Slot), lv_has ls 11 [(0, .ref (B + t)), (1, .ref (B + a0)), (3, .int a2), (4, .int x3), (5, .int x5), (6, .int x6), (7, .int x17)] → W p l e (rmk 2 44 0 0) s m args below meth c H locs 0 0 (MZ below B D n w' (some (.int r)) args s 0 0) (F0 m 95 ls [.int x29])) hf (fun x29 hf ls hl => ?_) (fun hj66 => ?_)
            · refine lv_istore (lv' := [(9, .int x29), (0, .ref (B + t)), (1, .ref (B + a0)), (3, .int a2), (4, .int x3), (5, .int x5), (6, .int x6), (7, .int x17)]) hx hb dX4_bestRow_95 hl (by decide) rfl (fun ls hl => ?_)
              refine lv_aload_n hx hb dX4_bestRow_97 rfl (lv_at hl 1 rfl) ?_
              refine q_gr (P := 13) X hh ht fk_X4_11 dX4_bestRow_98 hN hf (fun t30 h31 hf => ?_)
              refine lv_iload hx hb dX4_bestRow_101 (lv_at hl 6 rfl) ?_
              refine lv_iconst (v := (1 : Int32)) hx hb dX4_bestRow_103 (by decide) ?_
              refine lv_isub hx hb dX4_bestRow_104 ?_
              refine q_aald (P := 9) X hh h31 ⟨by decide, by decide⟩ dX4_bestRow_105 hN hf (fun t33 h34 hf => ?_)
              refine lv_iload hx hb dX4_bestRow_106 (lv_at hl 7 rfl) ?_
              refine q_ald X hh h34 dX4_bestRow_108 hf (fun hf => ?_)
              refine lv_aload_n hx hb dX4_bestRow_109 rfl (lv_at hl 1 rfl) ?_
              refine q_gr (P := 13) X hh ht fk_X4_11 dX4_bestRow_110 hN hf (fun t36 h37 hf => ?_)
              refine lv_iload hx hb dX4_bestRow_113 (lv_at hl 6 rfl) ?_
              refine q_aald (P := 9) X hh h37 ⟨by decide, by decide⟩ dX4_bestRow_115 hN hf (fun t39 h40 hf => ?_)
              refine lv_iload hx hb dX4_bestRow_116 (lv_at hl 7 rfl) ?_
              refine lv_iconst (v := (1 : Int32)) hx hb dX4_bestRow_118 (by decide) ?_
              refine lv_isub hx hb dX4_bestRow_119 ?_
              refine q_ald X hh h40 dX4_bestRow_120 hf (fun hf => ?_)
              refine q_max X hml hl.1 k_385 (Nat.le_of_ble_eq_true rfl) ⟨Nat.le_of_ble_eq_true rfl, Nat.le_of_ble_eq_true rfl⟩ ⟨Nat.zero_le _, Nat.zero_le _⟩ dX4_bestRow_121 ?_
              refine lv_topi (fun x42 e43 => ?_)
              have hf := lt_e e43 hf
              refine lv_istore (lv' := [(10, .int x42), (9, .int x29), (0, .ref (B + t)), (1, .ref (B + a0)), (3, .int a2), (4, .int x3), (5, .int x5), (6, .int x6), (7, .int x17)]) hx hb dX4_bestRow_124 hl (by decide) rfl (fun ls hl => ?_)
              refine lv_aload_n hx hb dX4_bestRow_126 rfl (lv_at hl 2 rfl) ?_
              refine q_gr (P := 13) X hh ht fk_X4_11 dX4_bestRow_127 hN hf (fun t44 h45 hf => ?_)
              refine lv_iload hx hb dX4_bestRow_130 (lv_at hl 7 rfl) ?_
              refine q_aald (P := 9) X hh h45 ⟨by decide, by decide⟩ dX4_bestRow_132 hN hf (fun t47 h48 hf => ?_)
              refine lv_iload hx hb dX4_bestRow_133 (lv_at hl 8 rfl) ?_
              refine lv_iload hx hb dX4_bestRow_135 (lv_at hl 5 rfl) ?_
              refine jn_W (P := fun j51 => ∀ (x50 : Int32), j51 x50 = some (r, w') → ∀ (H : Heap) (locs : List Loc) (ls : Array Slot), Hp B D n w18 s H locs → lv_has ls 11 [(0, .ref (B + t)), (1, .ref (B + a0)), (3, .int a2), (4, .int x3), (5, .int x5), (6, .int x6), (7, .int x17)] → W p l e (rmk 2 44 0 0) s m args below meth c H locs 0 0 (MZ below B D n w' (some (.int r)) args s 0 0) (F0 m 170 ls [.int x50, .int x17, .ref (B + t47)])) hf (fun x50 hf  H locs ls hh hl => ?_) (fun j51 hj51 hf => ?_)
              · refine q_ast X hh h48 dX4_bestRow_170 hf (fun w53 H locs hf hh => ?_)
                obtain ⟨x54, e55⟩ : ∃ y : Int32, y = (x17 + (1 : Int32)) := ⟨_, rfl⟩
                have hf := lt_e e55 hf
                refine lv_iinc (v := x54) (lv' := [(7, .int x54), (0, .ref (B + t)), (1, .ref (B + a0)), (3, .int a2), (4, .int x3), (5, .int x5), (6, .int x6)]) hx hb dX4_bestRow_171 hl (k := 6) rfl (by rw [e55]; rfl) (by decide) rfl (fun ls hl => ?_)
                refine lv_goto (tgt := 44) hx hb dX4_bestRow_174 (by decide) ?_
                exact ih20 _ _ hf  _ _ _ hh (lv_sub hl [1, 2, 3, 4, 5, 6, 0] rfl)
              · refine lv_if_eq (tgt := 165) hx hb dX4_bestRow_137 (by decide) (fun hc49 => ?_) (fun hc49 => ?_)
                · have hf := if_t hc49 hf
                  refine lv_iload hx hb dX4_bestRow_165 (lv_at hl 0 rfl) ?_
                  refine lv_iload hx hb dX4_bestRow_167 (lv_at hl 1 rfl) ?_
                  refine lv_iadd hx hb dX4_bestRow_169 ?_
                  refine lv_topi (fun x56 e57 => ?_)
                  have hf := lt_e e57 hf
                  exact hj51 _ hf  _ _ _ hh (lv_sub hl [2, 3, 4, 5, 6, 7, 8] rfl)
                · have hf := if_f hc49 hf
                  refine lv_iload hx hb dX4_bestRow_140 (lv_at hl 0 rfl) ?_
                  refine lv_aload_n hx hb dX4_bestRow_142 rfl (lv_at hl 2 rfl) ?_
                  refine q_gr (P := 13) X hh ht fk_X4_11 dX4_bestRow_143 hN hf (fun t58 h59 hf => ?_)
                  refine lv_iload hx hb dX4_bestRow_146 (lv_at hl 7 rfl) ?_
                  refine lv_iconst (v := (1 : Int32)) hx hb dX4_bestRow_148 (by decide) ?_
                  refine lv_isub hx hb dX4_bestRow_149 ?_
                  refine q_aald (P := 9) X hh h59 ⟨by decide, by decide⟩ dX4_bestRow_150 hN hf (fun t61 h62 hf => ?_)
                  refine lv_iload hx hb dX4_bestRow_151 (lv_at hl 8 rfl) ?_
                  refine lv_iconst (v := (1 : Int32)) hx hb dX4_bestRow_153 (by decide) ?_
                  refine lv_isub hx hb dX4_bestRow_154 ?_
                  refine q_ald X hh h62 dX4_bestRow_155 hf (fun hf => ?_)
                  refine lv_iload hx hb dX4_bestRow_156 (lv_at hl 1 rfl) ?_
                  refine lv_iadd hx hb dX4_bestRow_158 ?_
                  refine q_max X hml hl.1 k_385 (Nat.le_of_ble_eq_true rfl) ⟨Nat.le_of_ble_eq_true rfl, Nat.le_of_ble_eq_true rfl⟩ ⟨Nat.zero_le _, Nat.zero_le _⟩ dX4_bestRow_159 ?_
                  refine lv_topi (fun x64 e65 => ?_)
                  have hf := lt_e e65 hf
                  refine lv_goto (tgt := 170) hx hb dX4_bestRow_162 (by decide) ?_
                  exact hj51 _ hf  _ _ _ hh (lv_sub hl [2, 3, 4, 5, 6, 7, 8] rfl)
            · refine lv_if_eq (tgt := 93) hx hb dX4_bestRow_81 (by decide) (fun hc28 => ?_) (fun hc28 => ?_)
              · refine lv_iload hx hb dX4_bestRow_93 (lv_at hl 0 rfl) ?_
                exact hj66 _ (by rw [if_pos hc28]) ls (lv_sub hl [1, 2, 3, 4, 5, 6, 7] rfl)
              · refine lv_iload hx hb dX4_bestRow_84 (lv_at hl 0 rfl) ?_
                refine lv_iconst (v := (1 : Int32)) hx hb dX4_bestRow_86 (by decide) ?_
                refine q_min X hml hl.1 k_384 (Nat.le_of_ble_eq_true rfl) ⟨Nat.le_of_ble_eq_true rfl, Nat.le_of_ble_eq_true rfl⟩ ⟨Nat.zero_le _, Nat.zero_le _⟩ dX4_bestRow_87 ?_
                refine lv_goto (tgt := 95) hx hb dX4_bestRow_90 (by decide) ?_
                exact hj66 _ (by rw [if_neg hc28]) ls (lv_sub hl [1, 2, 3, 4, 5, 6, 7] rfl)
          · refine lv_if_eq (tgt := 73) hx hb dX4_bestRow_58 (by decide) (fun hc24 => ?_) (fun hc24 => ?_)
            · refine lv_iload hx hb dX4_bestRow_73 (lv_at hl 6 rfl) ?_
              exact hj67 _ (by rw [if_pos hc24]) ls (lv_sub hl [0, 1, 2, 3, 4, 5, 6] rfl)
            · refine lv_aload_n hx hb dX4_bestRow_61 rfl (lv_at hl 1 rfl) ?_
              refine r_gi X hh ha0 fk_X4_22 dX4_bestRow_62 ?_
              refine lv_iconst (v := (1 : Int32)) hx hb dX4_bestRow_65 (by decide) ?_
              refine lv_iadd hx hb dX4_bestRow_66 ?_
              refine lv_iload hx hb dX4_bestRow_67 (lv_at hl 6 rfl) ?_
              refine lv_isub hx hb dX4_bestRow_69 ?_
              refine lv_goto (tgt := 75) hx hb dX4_bestRow_70 (by decide) ?_
              exact hj67 _ (by rw [if_neg hc24]) ls (lv_sub hl [0, 1, 2, 3, 4, 5, 6] rfl)
    · refine lv_icmp_lt (tgt := 26) hx hb dX4_bestRow_19 (by decide) (fun hc4 => ?_) (fun hc4 => ?_)
      · refine lv_iconst (v := (0 : Int32)) hx hb dX4_bestRow_26 (by decide) ?_
        exact hj68 _ (by rw [if_pos hc4]) ls (lv_sub hl [1, 2, 4, 0] rfl)
      · refine lv_iconst (v := (1 : Int32)) hx hb dX4_bestRow_22 (by decide) ?_
        refine lv_goto (tgt := 27) hx hb dX4_bestRow_23 (by decide) ?_
        exact hj68 _ (by rw [if_neg hc4]) ls (lv_sub hl [1, 2, 4, 0] rfl)
  · refine lv_icmp_eq (tgt := 10) hx hb dX4_bestRow_2 (by decide) (fun hc1 => ?_) (fun hc1 => ?_)
    · refine lv_iconst (v := (1 : Int32)) hx hb dX4_bestRow_10 (by decide) ?_
      refine lv_goto (tgt := 15) hx hb dX4_bestRow_11 (by decide) ?_
      exact hj69 _ (by rw [if_pos hc1]) ls (lv_sub hl [0, 1, 2, 3] rfl)
    · refine lv_iload_n hx hb dX4_bestRow_5 rfl (lv_at hl 2 rfl) ?_
      refine lv_iconst (v := (3 : Int32)) hx hb dX4_bestRow_6 (by decide) ?_
      refine lv_icmp_ne (tgt := 14) hx hb dX4_bestRow_7 (by decide) (fun hc2 => ?_) (fun hc2 => ?_)
      · refine lv_iconst (v := (0 : Int32)) hx hb dX4_bestRow_14 (by decide) ?_
        exact hj69 _ (by rw [if_neg hc1, if_neg hc2]) ls (lv_sub hl [0, 1, 2, 3] rfl)
      · refine lv_iconst (v := (1 : Int32)) hx hb dX4_bestRow_10 (by decide) ?_
        refine lv_goto (tgt := 15) hx hb dX4_bestRow_11 (by decide) ?_
        exact hj69 _ (by rw [if_neg hc1, if_pos hc2]) ls (lv_sub hl [0, 1, 2, 3] rfl)
end
section
set_option maxHeartbeats 4000000 in
set_option maxRecDepth 100000 in
theorem m_X7_isSide (l : Launch) (B : Nat) (D : DD) {n : Nat} (hN : 139 ≤ n) {a0 : Int32} {w : Wd} {r : Int32} (hf : f_X7_isSide a0 = some r) : Ct l yX7_isSide cX7_isSide 1 (some .boolean) 0 0 0 0 B D [.int a0] n w (some (.int r)) n w := by
  refine m_of (by decide) (Nat.le_of_ble_eq_true rfl) (fun p e s m args below meth c X hml hr hlk _ H locs hh ls hl => ?_)
  have hx := X.1
  have hb := X.2.1
  have hl : lv_has ls 1 [(0, .int a0)] := hl
  unfold f_X7_isSide at hf
  refine lv_iload_n hx hb dX7_isSide_0 rfl (lv_at hl 0 rfl) ?_
  refine lv_iconst (v := (1 : Int32)) hx hb dX7_isSide_1 (by decide) ?_
  refine mg_W (P := fun (x3 : Int32) => ∀ (ls : Array Slot), lv_has ls 1 [] → W p l e (rmk 0 0 0 0) s m args below meth c H locs 0 0 (MZ below B D n w (some (.int r)) args s 0 0) (F0 m 15 ls [.int x3])) hf (fun x3 hf ls hl => ?_) (fun hj4 => ?_)
  · have hz := zb_e hf
    have hf := hz.2
    exact e_z X hr hlk hh hz.1 ⟨so_e hf, rfl⟩ dX7_isSide_15
  · refine lv_icmp_lt (tgt := 14) hx hb dX7_isSide_2 (by decide) (fun hc1 => ?_) (fun hc1 => ?_)
    · refine lv_iconst (v := (0 : Int32)) hx hb dX7_isSide_14 (by decide) ?_
      exact hj4 _ (by rw [if_pos hc1]) ls (lv_sub hl [] rfl)
    · refine lv_iload_n hx hb dX7_isSide_5 rfl (lv_at hl 0 rfl) ?_
      refine lv_iconst (v := (5 : Int32)) hx hb dX7_isSide_6 (by decide) ?_
      refine lv_icmp_gt (tgt := 14) hx hb dX7_isSide_7 (by decide) (fun hc2 => ?_) (fun hc2 => ?_)
      · refine lv_iconst (v := (0 : Int32)) hx hb dX7_isSide_14 (by decide) ?_
        exact hj4 _ (by rw [if_neg hc1, if_pos hc2]) ls (lv_sub hl [] rfl)
      · refine lv_iconst (v := (1 : Int32)) hx hb dX7_isSide_10 (by decide) ?_
        refine lv_goto (tgt := 15) hx hb dX7_isSide_11 (by decide) ?_
        exact hj4 _ (by rw [if_neg hc1, if_neg hc2]) ls (lv_sub hl [] rfl)
set_option maxHeartbeats 4000000 in
set_option maxRecDepth 100000 in
theorem m_X7_beginDeed (l : Launch) (B : Nat) (D : DD) {n : Nat} (hN : 139 ≤ n) {t : Nat} {w : Wd} {w' : Wd} (ht : t < n ∧ kd t = 7) (hf : f_X7_beginDeed t w = some w') : Ct l yX7_beginDeed cX7_beginDeed 1 none 2 43 0 0 B D [.ref (B + t)] n w none n w' := by
  refine m_of (by decide) (Nat.le_of_ble_eq_true rfl) (fun p e s m args below meth c X hml hr hlk _ H locs hh ls hl => ?_)
  have hx := X.1
  have hb := X.2.1
  have hl : lv_has ls 1 [(0, .ref (B + t))] := hl
  unfold f_X7_beginDeed at hf
  refine lv_aload_n hx hb dX7_beginDeed_0 rfl (lv_at hl 0 rfl) ?_
  refine q_gr (P := 2) X hh ht fk_X7_48 dX7_beginDeed_1 hN hf (fun t1 h2 hf => ?_)
  refine lv_aload_n hx hb dX7_beginDeed_4 rfl (lv_at hl 0 rfl) ?_
  refine q_gr (P := 0) X hh ht fk_X7_14 dX7_beginDeed_5 hN hf (fun t3 h4 hf => ?_)
  obtain ⟨w6, hc5, hf⟩ := c1_e hf
  refine q_V (w' := w6) (rest := []) X hml hh none (m_X2_remember l B D hN h2 h4 hc5) cf_X2_remember k_221 h2 ci_2 rfl rfl hl.1 rfl (Nat.le_of_ble_eq_true rfl) ⟨Nat.le_of_ble_eq_true rfl, Nat.le_of_ble_eq_true rfl⟩ ⟨Nat.zero_le _, Nat.zero_le _⟩ dX7_beginDeed_8 rfl (fun H locs hh => ?_)
  refine lv_aload_n hx hb dX7_beginDeed_11 rfl (lv_at hl 0 rfl) ?_
  refine lv_iconst (v := (0 : Int32)) hx hb dX7_beginDeed_12 (by decide) ?_
  refine q_pi X hh ht fk_X7_35 pk_7_5 rfl rfl dX7_beginDeed_13 hf (fun w7 H locs hf hh => ?_)
  exact e_v X hr hlk hh ⟨rfl, so_e hf⟩ dX7_beginDeed_16
set_option maxHeartbeats 4000000 in
set_option maxRecDepth 100000 in
theorem m_X7_grid (l : Launch) (B : Nat) (D : DD) {n : Nat} (hN : 139 ≤ n) {t : Nat} {a0 : Int32} {a1 : Int32} {w : Wd} {r : Int32} {w' : Wd} (ht : t < n ∧ kd t = 7) (hf : f_X7_grid t a0 a1 w = some (r, w')) : Ct l yX7_grid cX7_grid 4 (some .int) 3 63 0 0 B D [.ref (B + t), .int a0, .int a1] n w (some (.int r)) n w' := by
  refine m_of (by decide) (Nat.le_of_ble_eq_true rfl) (fun p e s m args below meth c X hml hr hlk _ H locs hh ls hl => ?_)
  have hx := X.1
  have hb := X.2.1
  have hl : lv_has ls 4 [(0, .ref (B + t)), (1, .int a0), (2, .int a1)] := hl
  unfold f_X7_grid at hf
  refine lv_iload_n hx hb dX7_grid_0 rfl (lv_at hl 1 rfl) ?_
  obtain ⟨v2, hc1, hf⟩ := c1_e hf
  refine q_S (w' := w) (rest := []) X hml hh (some (.int v2)) (m_X7_isSide l B D hN hc1) cf_X7_isSide k_443 rfl hl.1 rfl (Nat.le_of_ble_eq_true rfl) ⟨Nat.le_of_ble_eq_true rfl, Nat.le_of_ble_eq_true rfl⟩ ⟨Nat.zero_le _, Nat.zero_le _⟩ dX7_grid_1 rfl (fun H locs hh => ?_)
  refine lv_if_eq (tgt := 14) hx hb dX7_grid_4 (by decide) (fun hc3 => ?_) (fun hc3 => ?_)
  · have hf := if_t hc3 hf
    refine lv_iconst (v := (-1 : Int32)) hx hb dX7_grid_14 (by decide) ?_
    exact e_i X hr hlk hh (so2_e hf) dX7_grid_15
  · have hf := if_f hc3 hf
    refine lv_iload_n hx hb dX7_grid_7 rfl (lv_at hl 2 rfl) ?_
    obtain ⟨v5, hc4, hf⟩ := c1_e hf
    refine q_S (w' := w) (rest := []) X hml hh (some (.int v5)) (m_X7_isSide l B D hN hc4) cf_X7_isSide k_443 rfl hl.1 rfl (Nat.le_of_ble_eq_true rfl) ⟨Nat.le_of_ble_eq_true rfl, Nat.le_of_ble_eq_true rfl⟩ ⟨Nat.zero_le _, Nat.zero_le _⟩ dX7_grid_8 rfl (fun H locs hh => ?_)
    refine lv_if_ne (tgt := 16) hx hb dX7_grid_11 (by decide) (fun hc6 => ?_) (fun hc6 => ?_)
    · have hf := if_f hc6 hf
      refine lv_bipush (v := (10 : Int32)) hx hb dX7_grid_16 (by decide) ?_
      refine lv_aload_n hx hb dX7_grid_18 rfl (lv_at hl 0 rfl) ?_
      refine q_gr (P := 0) X hh ht fk_X7_14 dX7_grid_19 hN hf (fun t7 h8 hf => ?_)
      refine r_gi X hh h8 fk_X7_70 dX7_grid_22 ?_
      refine lv_imul hx hb dX7_grid_25 ?_
      refine lv_aload_n hx hb dX7_grid_26 rfl (lv_at hl 0 rfl) ?_
      refine q_gr (P := 0) X hh ht fk_X7_14 dX7_grid_27 hN hf (fun t9 h10 hf => ?_)
      refine r_gi X hh h10 fk_X7_74 dX7_grid_30 ?_
      refine lv_iadd hx hb dX7_grid_33 ?_
      refine lv_topi (fun x11 e12 => ?_)
      have hf := lt_e e12 hf
      refine lv_istore_n (lv' := [(3, .int x11), (0, .ref (B + t)), (1, .int a0), (2, .int a1)]) hx hb dX7_grid_34 rfl hl (by decide) rfl (fun ls hl => ?_)
      refine lv_aload_n hx hb dX7_grid_35 rfl (lv_at hl 1 rfl) ?_
      obtain ⟨w14, hc13, hf⟩ := c1_e hf
      refine q_V (w' := w14) (rest := []) X hml hh none (m_X7_beginDeed l B D hN ht hc13) cf_X7_beginDeed k_217 ht ci_7 rfl rfl hl.1 rfl (Nat.le_of_ble_eq_true rfl) ⟨Nat.le_of_ble_eq_true rfl, Nat.le_of_ble_eq_true rfl⟩ ⟨Nat.zero_le _, Nat.zero_le _⟩ dX7_grid_36 rfl (fun H locs hh => ?_)
      refine lv_aload_n hx hb dX7_grid_39 rfl (lv_at hl 1 rfl) ?_
      refine q_gr (P := 0) X hh ht fk_X7_14 dX7_grid_40 hN hf (fun t15 h16 hf => ?_)
      refine lv_iload_n hx hb dX7_grid_43 rfl (lv_at hl 2 rfl) ?_
      refine lv_iload_n hx hb dX7_grid_44 rfl (lv_at hl 3 rfl) ?_
      obtain ⟨w18, hc17, hf⟩ := c1_e hf
      refine q_V (w' := w18) (rest := []) X hml hh none (m_X0_clearTo l B D hN h16 hc17) cf_X0_clearTo k_446 h16 ci_0 rfl rfl hl.1 rfl (Nat.le_of_ble_eq_true rfl) ⟨Nat.le_of_ble_eq_true rfl, Nat.le_of_ble_eq_true rfl⟩ ⟨Nat.zero_le _, Nat.zero_le _⟩ dX7_grid_45 rfl (fun H locs hh => ?_)
      refine lv_iload_n hx hb dX7_grid_48 rfl (lv_at hl 0 rfl) ?_
      exact e_i X hr hlk hh (so2_e hf) dX7_grid_49
    · have hf := if_t hc6 hf
      refine lv_iconst (v := (-1 : Int32)) hx hb dX7_grid_14 (by decide) ?_
      exact e_i X hr hlk hh (so2_e hf) dX7_grid_15
set_option maxHeartbeats 4000000 in
set_option maxRecDepth 100000 in
theorem m_X7_isNumber (l : Launch) (B : Nat) (D : DD) {n : Nat} (hN : 139 ≤ n) {a0 : Int32} {w : Wd} {r : Int32} (hf : f_X7_isNumber a0 = some r) : Ct l yX7_isNumber cX7_isNumber 1 (some .boolean) 0 0 0 0 B D [.int a0] n w (some (.int r)) n w := by
  refine m_of (by decide) (Nat.le_of_ble_eq_true rfl) (fun p e s m args below meth c X hml hr hlk _ H locs hh ls hl => ?_)
  have hx := X.1
  have hb := X.2.1
  have hl : lv_has ls 1 [(0, .int a0)] := hl
  unfold f_X7_isNumber at hf
  refine lv_iload_n hx hb dX7_isNumber_0 rfl (lv_at hl 0 rfl) ?_
  refine mg_W (P := fun (x3 : Int32) => ∀ (ls : Array Slot), lv_has ls 1 [] → W p l e (rmk 0 0 0 0) s m args below meth c H locs 0 0 (MZ below B D n w (some (.int r)) args s 0 0) (F0 m 14 ls [.int x3])) hf (fun x3 hf ls hl => ?_) (fun hj4 => ?_)
  · have hz := zb_e hf
    have hf := hz.2
    exact e_z X hr hlk hh hz.1 ⟨so_e hf, rfl⟩ dX7_isNumber_14
  · refine lv_if_lt (tgt := 13) hx hb dX7_isNumber_1 (by decide) (fun hc1 => ?_) (fun hc1 => ?_)
    · refine lv_iconst (v := (0 : Int32)) hx hb dX7_isNumber_13 (by decide) ?_
      exact hj4 _ (by rw [if_pos hc1]) ls (lv_sub hl [] rfl)
    · refine lv_iload_n hx hb dX7_isNumber_4 rfl (lv_at hl 0 rfl) ?_
      refine lv_iconst (v := (3 : Int32)) hx hb dX7_isNumber_5 (by decide) ?_
      refine lv_icmp_gt (tgt := 13) hx hb dX7_isNumber_6 (by decide) (fun hc2 => ?_) (fun hc2 => ?_)
      · refine lv_iconst (v := (0 : Int32)) hx hb dX7_isNumber_13 (by decide) ?_
        exact hj4 _ (by rw [if_neg hc1, if_pos hc2]) ls (lv_sub hl [] rfl)
      · refine lv_iconst (v := (1 : Int32)) hx hb dX7_isNumber_9 (by decide) ?_
        refine lv_goto (tgt := 14) hx hb dX7_isNumber_10 (by decide) ?_
        exact hj4 _ (by rw [if_neg hc1, if_neg hc2]) ls (lv_sub hl [] rfl)
set_option maxHeartbeats 4000000 in
set_option maxRecDepth 100000 in
theorem m_X7_put (l : Launch) (B : Nat) (D : DD) {n : Nat} (hN : 139 ≤ n) {t : Nat} {a0 : Int32} {a1 : Int32} {a2 : Int32} {w : Wd} {r : Int32} {w' : Wd} (ht : t < n ∧ kd t = 7) (hf : f_X7_put t a0 a1 a2 w = some (r, w')) : Ct l yX7_put cX7_put 5 (some .int) 3 63 0 0 B D [.ref (B + t), .int a0, .int a1, .int a2] n w (some (.int r)) n w' := by
  refine m_of (by decide) (Nat.le_of_ble_eq_true rfl) (fun p e s m args below meth c X hml hr hlk _ H locs hh ls hl => ?_)
  have hx := X.1
  have hb := X.2.1
  have hl : lv_has ls 5 [(0, .ref (B + t)), (1, .int a0), (2, .int a1), (3, .int a2)] := hl
  unfold f_X7_put at hf
  refine lv_aload_n hx hb dX7_put_0 rfl (lv_at hl 0 rfl) ?_
  refine q_gr (P := 0) X hh ht fk_X7_14 dX7_put_1 hN hf (fun t1 h2 hf => ?_)
  refine lv_iload_n hx hb dX7_put_4 rfl (lv_at hl 1 rfl) ?_
  refine lv_iload_n hx hb dX7_put_5 rfl (lv_at hl 2 rfl) ?_
  obtain ⟨v4, hc3, hf⟩ := c1_e hf
  refine q_V (w' := w) (rest := []) X hml hh (some (.int v4)) (m_X0_hasCell l B D hN h2 hc3) cf_X0_hasCell k_198 h2 ci_0 rfl rfl hl.1 rfl (Nat.le_of_ble_eq_true rfl) ⟨Nat.le_of_ble_eq_true rfl, Nat.le_of_ble_eq_true rfl⟩ ⟨Nat.zero_le _, Nat.zero_le _⟩ dX7_put_6 rfl (fun H locs hh => ?_)
  refine lv_if_eq (tgt := 19) hx hb dX7_put_9 (by decide) (fun hc5 => ?_) (fun hc5 => ?_)
  · have hf := if_t hc5 hf
    refine lv_iconst (v := (-1 : Int32)) hx hb dX7_put_19 (by decide) ?_
    exact e_i X hr hlk hh (so2_e hf) dX7_put_20
  · have hf := if_f hc5 hf
    refine lv_iload_n hx hb dX7_put_12 rfl (lv_at hl 3 rfl) ?_
    obtain ⟨v7, hc6, hf⟩ := c1_e hf
    refine q_S (w' := w) (rest := []) X hml hh (some (.int v7)) (m_X7_isNumber l B D hN hc6) cf_X7_isNumber k_454 rfl hl.1 rfl (Nat.le_of_ble_eq_true rfl) ⟨Nat.le_of_ble_eq_true rfl, Nat.le_of_ble_eq_true rfl⟩ ⟨Nat.zero_le _, Nat.zero_le _⟩ dX7_put_13 rfl (fun H locs hh => ?_)
    refine lv_if_ne (tgt := 21) hx hb dX7_put_16 (by decide) (fun hc8 => ?_) (fun hc8 => ?_)
    · have hf := if_f hc8 hf
      refine lv_aload_n hx hb dX7_put_21 rfl (lv_at hl 0 rfl) ?_
      refine q_gr (P := 0) X hh ht fk_X7_14 dX7_put_22 hN hf (fun t9 h10 hf => ?_)
      refine lv_iload_n hx hb dX7_put_25 rfl (lv_at hl 1 rfl) ?_
      refine lv_iload_n hx hb dX7_put_26 rfl (lv_at hl 2 rfl) ?_
      obtain ⟨v12, hc11, hf⟩ := c1_e hf
      refine q_V (w' := w) (rest := []) X hml hh (some (.int v12)) (m_X0_numberAt l B D hN h10 hc11) cf_X0_numberAt k_202 h10 ci_0 rfl rfl hl.1 rfl (Nat.le_of_ble_eq_true rfl) ⟨Nat.le_of_ble_eq_true rfl, Nat.le_of_ble_eq_true rfl⟩ ⟨Nat.zero_le _, Nat.zero_le _⟩ dX7_put_27 rfl (fun H locs hh => ?_)
      refine lv_istore (lv' := [(4, .int v12), (0, .ref (B + t)), (1, .int a0), (2, .int a1), (3, .int a2)]) hx hb dX7_put_30 hl (by decide) rfl (fun ls hl => ?_)
      refine lv_aload_n hx hb dX7_put_32 rfl (lv_at hl 1 rfl) ?_
      obtain ⟨w14, hc13, hf⟩ := c1_e hf
      refine q_V (w' := w14) (rest := []) X hml hh none (m_X7_beginDeed l B D hN ht hc13) cf_X7_beginDeed k_217 ht ci_7 rfl rfl hl.1 rfl (Nat.le_of_ble_eq_true rfl) ⟨Nat.le_of_ble_eq_true rfl, Nat.le_of_ble_eq_true rfl⟩ ⟨Nat.zero_le _, Nat.zero_le _⟩ dX7_put_33 rfl (fun H locs hh => ?_)
      refine lv_aload_n hx hb dX7_put_36 rfl (lv_at hl 1 rfl) ?_
      refine q_gr (P := 0) X hh ht fk_X7_14 dX7_put_37 hN hf (fun t15 h16 hf => ?_)
      refine lv_iload_n hx hb dX7_put_40 rfl (lv_at hl 2 rfl) ?_
      refine lv_iload_n hx hb dX7_put_41 rfl (lv_at hl 3 rfl) ?_
      refine lv_iload_n hx hb dX7_put_42 rfl (lv_at hl 4 rfl) ?_
      obtain ⟨w18, hc17, hf⟩ := c1_e hf
      refine q_V (w' := w18) (rest := []) X hml hh none (m_X0_setNumber l B D hN h16 hc17) cf_X0_setNumber k_457 h16 ci_0 rfl rfl hl.1 rfl (Nat.le_of_ble_eq_true rfl) ⟨Nat.le_of_ble_eq_true rfl, Nat.le_of_ble_eq_true rfl⟩ ⟨Nat.zero_le _, Nat.zero_le _⟩ dX7_put_43 rfl (fun H locs hh => ?_)
      refine lv_iload hx hb dX7_put_46 (lv_at hl 0 rfl) ?_
      exact e_i X hr hlk hh (so2_e hf) dX7_put_48
    · have hf := if_t hc8 hf
      refine lv_iconst (v := (-1 : Int32)) hx hb dX7_put_19 (by decide) ?_
      exact e_i X hr hlk hh (so2_e hf) dX7_put_20
set_option maxHeartbeats 4000000 in
set_option maxRecDepth 100000 in
theorem m_X7_cell (l : Launch) (B : Nat) (D : DD) {n : Nat} (hN : 139 ≤ n) {t : Nat} {a0 : Int32} {a1 : Int32} {w : Wd} {r : Int32} (ht : t < n ∧ kd t = 7) (hf : f_X7_cell t a0 a1 w = some r) : Ct l yX7_cell cX7_cell 3 (some .int) 2 44 0 0 B D [.ref (B + t), .int a0, .int a1] n w (some (.int r)) n w := by
  refine m_of (by decide) (Nat.le_of_ble_eq_true rfl) (fun p e s m args below meth c X hml hr hlk _ H locs hh ls hl => ?_)
  have hx := X.1
  have hb := X.2.1
  have hl : lv_has ls 3 [(0, .ref (B + t)), (1, .int a0), (2, .int a1)] := hl
  unfold f_X7_cell at hf
  refine lv_aload_n hx hb dX7_cell_0 rfl (lv_at hl 0 rfl) ?_
  refine q_gr (P := 0) X hh ht fk_X7_14 dX7_cell_1 hN hf (fun t1 h2 hf => ?_)
  refine lv_iload_n hx hb dX7_cell_4 rfl (lv_at hl 1 rfl) ?_
  refine lv_iload_n hx hb dX7_cell_5 rfl (lv_at hl 2 rfl) ?_
  obtain ⟨v4, hc3, hf⟩ := c1_e hf
  refine q_V (w' := w) (rest := []) X hml hh (some (.int v4)) (m_X0_hasCell l B D hN h2 hc3) cf_X0_hasCell k_198 h2 ci_0 rfl rfl hl.1 rfl (Nat.le_of_ble_eq_true rfl) ⟨Nat.le_of_ble_eq_true rfl, Nat.le_of_ble_eq_true rfl⟩ ⟨Nat.zero_le _, Nat.zero_le _⟩ dX7_cell_6 rfl (fun H locs hh => ?_)
  refine lv_if_eq (tgt := 24) hx hb dX7_cell_9 (by decide) (fun hc5 => ?_) (fun hc5 => ?_)
  · have hf := if_t hc5 hf
    refine lv_iconst (v := (-1 : Int32)) hx hb dX7_cell_24 (by decide) ?_
    exact e_i X hr hlk hh ⟨so_e hf, rfl⟩ dX7_cell_25
  · have hf := if_f hc5 hf
    refine lv_aload_n hx hb dX7_cell_12 rfl (lv_at hl 0 rfl) ?_
    refine q_gr (P := 0) X hh ht fk_X7_14 dX7_cell_13 hN hf (fun t6 h7 hf => ?_)
    refine lv_iload_n hx hb dX7_cell_16 rfl (lv_at hl 1 rfl) ?_
    refine lv_iload_n hx hb dX7_cell_17 rfl (lv_at hl 2 rfl) ?_
    obtain ⟨v9, hc8, hf⟩ := c1_e hf
    refine q_V (w' := w) (rest := []) X hml hh (some (.int v9)) (m_X0_numberAt l B D hN h7 hc8) cf_X0_numberAt k_202 h7 ci_0 rfl rfl hl.1 rfl (Nat.le_of_ble_eq_true rfl) ⟨Nat.le_of_ble_eq_true rfl, Nat.le_of_ble_eq_true rfl⟩ ⟨Nat.zero_le _, Nat.zero_le _⟩ dX7_cell_18 rfl (fun H locs hh => ?_)
    refine lv_goto (tgt := 25) hx hb dX7_cell_21 (by decide) ?_
    exact e_i X hr hlk hh ⟨so_e hf, rfl⟩ dX7_cell_25
set_option maxHeartbeats 4000000 in
set_option maxRecDepth 100000 in
theorem m_X7_isRule (l : Launch) (B : Nat) (D : DD) {n : Nat} (hN : 139 ≤ n) {a0 : Int32} {w : Wd} {r : Int32} (hf : f_X7_isRule a0 = some r) : Ct l yX7_isRule cX7_isRule 1 (some .boolean) 0 0 0 0 B D [.int a0] n w (some (.int r)) n w := by
  refine m_of (by decide) (Nat.le_of_ble_eq_true rfl) (fun p e s m args below meth c X hml hr hlk _ H locs hh ls hl => ?_)
  have hx := X.1
  have hb := X.2.1
  have hl : lv_has ls 1 [(0, .int a0)] := hl
  unfold f_X7_isRule at hf
  refine lv_iload_n hx hb dX7_isRule_0 rfl (lv_at hl 0 rfl) ?_
  refine mg_W (P := fun (x3 : Int32) => ∀ (ls : Array Slot), lv_has ls 1 [] → W p l e (rmk 0 0 0 0) s m args below meth c H locs 0 0 (MZ below B D n w (some (.int r)) args s 0 0) (F0 m 14 ls [.int x3])) hf (fun x3 hf ls hl => ?_) (fun hj4 => ?_)
  · have hz := zb_e hf
    have hf := hz.2
    exact e_z X hr hlk hh hz.1 ⟨so_e hf, rfl⟩ dX7_isRule_14
  · refine lv_if_lt (tgt := 13) hx hb dX7_isRule_1 (by decide) (fun hc1 => ?_) (fun hc1 => ?_)
    · refine lv_iconst (v := (0 : Int32)) hx hb dX7_isRule_13 (by decide) ?_
      exact hj4 _ (by rw [if_pos hc1]) ls (lv_sub hl [] rfl)
    · refine lv_iload_n hx hb dX7_isRule_4 rfl (lv_at hl 0 rfl) ?_
      refine lv_iconst (v := (4 : Int32)) hx hb dX7_isRule_5 (by decide) ?_
      refine lv_icmp_ge (tgt := 13) hx hb dX7_isRule_6 (by decide) (fun hc2 => ?_) (fun hc2 => ?_)
      · refine lv_iconst (v := (0 : Int32)) hx hb dX7_isRule_13 (by decide) ?_
        exact hj4 _ (by rw [if_neg hc1, if_pos hc2]) ls (lv_sub hl [] rfl)
      · refine lv_iconst (v := (1 : Int32)) hx hb dX7_isRule_9 (by decide) ?_
        refine lv_goto (tgt := 14) hx hb dX7_isRule_10 (by decide) ?_
        exact hj4 _ (by rw [if_neg hc1, if_neg hc2]) ls (lv_sub hl [] rfl)
set_option maxHeartbeats 4000000 in
set_option maxRecDepth 100000 in
theorem m_X7_rule (l : Launch) (B : Nat) (D : DD) {n : Nat} (hN : 139 ≤ n) {t : Nat} {a0 : Int32} {w : Wd} {r : Int32} {w' : Wd} (ht : t < n ∧ kd t = 7) (hf : f_X7_rule t a0 w = some (r, w')) : Ct l yX7_rule cX7_rule 3 (some .int) 3 63 0 0 B D [.ref (B + t), .int a0] n w (some (.int r)) n w' := by
  refine m_of (by decide) (Nat.le_of_ble_eq_true rfl) (fun p e s m args below meth c X hml hr hlk _ H locs hh ls hl => ?_)
  have hx := X.1
  have hb := X.2.1
  have hl : lv_has ls 3 [(0, .ref (B + t)), (1, .int a0)] := hl
  unfold f_X7_rule at hf
  refine lv_iload_n hx hb dX7_rule_0 rfl (lv_at hl 1 rfl) ?_
  obtain ⟨v2, hc1, hf⟩ := c1_e hf
  refine q_S (w' := w) (rest := []) X hml hh (some (.int v2)) (m_X7_isRule l B D hN hc1) cf_X7_isRule k_214 rfl hl.1 rfl (Nat.le_of_ble_eq_true rfl) ⟨Nat.le_of_ble_eq_true rfl, Nat.le_of_ble_eq_true rfl⟩ ⟨Nat.zero_le _, Nat.zero_le _⟩ dX7_rule_1 rfl (fun H locs hh => ?_)
  refine lv_if_ne (tgt := 9) hx hb dX7_rule_4 (by decide) (fun hc3 => ?_) (fun hc3 => ?_)
  · have hf := if_f hc3 hf
    refine lv_aload_n hx hb dX7_rule_9 rfl (lv_at hl 0 rfl) ?_
    refine q_gr (P := 0) X hh ht fk_X7_14 dX7_rule_10 hN hf (fun t4 h5 hf => ?_)
    refine r_gi X hh h5 fk_X7_102 dX7_rule_13 ?_
    refine lv_topi (fun x6 e7 => ?_)
    have hf := lt_e e7 hf
    refine lv_istore_n (lv' := [(2, .int x6), (0, .ref (B + t)), (1, .int a0)]) hx hb dX7_rule_16 rfl hl (by decide) rfl (fun ls hl => ?_)
    refine lv_aload_n hx hb dX7_rule_17 rfl (lv_at hl 1 rfl) ?_
    obtain ⟨w9, hc8, hf⟩ := c1_e hf
    refine q_V (w' := w9) (rest := []) X hml hh none (m_X7_beginDeed l B D hN ht hc8) cf_X7_beginDeed k_217 ht ci_7 rfl rfl hl.1 rfl (Nat.le_of_ble_eq_true rfl) ⟨Nat.le_of_ble_eq_true rfl, Nat.le_of_ble_eq_true rfl⟩ ⟨Nat.zero_le _, Nat.zero_le _⟩ dX7_rule_18 rfl (fun H locs hh => ?_)
    refine lv_aload_n hx hb dX7_rule_21 rfl (lv_at hl 1 rfl) ?_
    refine q_gr (P := 0) X hh ht fk_X7_14 dX7_rule_22 hN hf (fun t10 h11 hf => ?_)
    refine lv_iload_n hx hb dX7_rule_25 rfl (lv_at hl 2 rfl) ?_
    refine q_pi X hh h11 fk_X7_102 pk_0_2 rfl rfl dX7_rule_26 hf (fun w12 H locs hf hh => ?_)
    refine lv_iload_n hx hb dX7_rule_29 rfl (lv_at hl 0 rfl) ?_
    exact e_i X hr hlk hh (so2_e hf) dX7_rule_30
  · have hf := if_t hc3 hf
    refine lv_iconst (v := (-1 : Int32)) hx hb dX7_rule_7 (by decide) ?_
    exact e_i X hr hlk hh (so2_e hf) dX7_rule_8
set_option maxHeartbeats 4000000 in
set_option maxRecDepth 100000 in
theorem m_X7_spelled (l : Launch) (B : Nat) (D : DD) {n : Nat} (hN : 139 ≤ n) {t : Nat} {w : Wd} {r : Int32} (ht : t < n ∧ kd t = 7) (hf : f_X7_spelled t w = some r) : Ct l yX7_spelled cX7_spelled 1 (some .int) 3 69 0 0 B D [.ref (B + t)] n w (some (.int r)) n w := by
  refine m_of (by decide) (Nat.le_of_ble_eq_true rfl) (fun p e s m args below meth c X hml hr hlk _ H locs hh ls hl => ?_)
  have hx := X.1
  have hb := X.2.1
  have hl : lv_has ls 1 [(0, .ref (B + t))] := hl
  unfold f_X7_spelled at hf
  refine lv_aload_n hx hb dX7_spelled_0 rfl (lv_at hl 0 rfl) ?_
  refine q_gr (P := 0) X hh ht fk_X7_14 dX7_spelled_1 hN hf (fun t1 h2 hf => ?_)
  obtain ⟨v4, hc3, hf⟩ := c1_e hf
  refine q_V (w' := w) (rest := []) X hml hh (some (.int v4)) (m_X0_spelling l B D hN h2 hc3) cf_X0_spelling k_237 h2 ci_0 rfl rfl hl.1 rfl (Nat.le_of_ble_eq_true rfl) ⟨Nat.le_of_ble_eq_true rfl, Nat.le_of_ble_eq_true rfl⟩ ⟨Nat.zero_le _, Nat.zero_le _⟩ dX7_spelled_4 rfl (fun H locs hh => ?_)
  exact e_i X hr hlk hh ⟨so_e hf, rfl⟩ dX7_spelled_7
set_option maxHeartbeats 4000000 in
set_option maxRecDepth 100000 in
theorem m_X7_isPlace (l : Launch) (B : Nat) (D : DD) {n : Nat} (hN : 139 ≤ n) {a0 : Int32} {w : Wd} {r : Int32} (hf : f_X7_isPlace a0 = some r) : Ct l yX7_isPlace cX7_isPlace 1 (some .boolean) 0 0 0 0 B D [.int a0] n w (some (.int r)) n w := by
  refine m_of (by decide) (Nat.le_of_ble_eq_true rfl) (fun p e s m args below meth c X hml hr hlk _ H locs hh ls hl => ?_)
  have hx := X.1
  have hb := X.2.1
  have hl : lv_has ls 1 [(0, .int a0)] := hl
  unfold f_X7_isPlace at hf
  refine lv_iload_n hx hb dX7_isPlace_0 rfl (lv_at hl 0 rfl) ?_
  refine mg_W (P := fun (x3 : Int32) => ∀ (ls : Array Slot), lv_has ls 1 [] → W p l e (rmk 0 0 0 0) s m args below meth c H locs 0 0 (MZ below B D n w (some (.int r)) args s 0 0) (F0 m 15 ls [.int x3])) hf (fun x3 hf ls hl => ?_) (fun hj4 => ?_)
  · have hz := zb_e hf
    have hf := hz.2
    exact e_z X hr hlk hh hz.1 ⟨so_e hf, rfl⟩ dX7_isPlace_15
  · refine lv_if_lt (tgt := 14) hx hb dX7_isPlace_1 (by decide) (fun hc1 => ?_) (fun hc1 => ?_)
    · refine lv_iconst (v := (0 : Int32)) hx hb dX7_isPlace_14 (by decide) ?_
      exact hj4 _ (by rw [if_pos hc1]) ls (lv_sub hl [] rfl)
    · refine lv_iload_n hx hb dX7_isPlace_4 rfl (lv_at hl 0 rfl) ?_
      refine lv_bipush (v := (100 : Int32)) hx hb dX7_isPlace_5 (by decide) ?_
      refine lv_icmp_ge (tgt := 14) hx hb dX7_isPlace_7 (by decide) (fun hc2 => ?_) (fun hc2 => ?_)
      · refine lv_iconst (v := (0 : Int32)) hx hb dX7_isPlace_14 (by decide) ?_
        exact hj4 _ (by rw [if_neg hc1, if_pos hc2]) ls (lv_sub hl [] rfl)
      · refine lv_iconst (v := (1 : Int32)) hx hb dX7_isPlace_10 (by decide) ?_
        refine lv_goto (tgt := 15) hx hb dX7_isPlace_11 (by decide) ?_
        exact hj4 _ (by rw [if_neg hc1, if_neg hc2]) ls (lv_sub hl [] rfl)
set_option maxHeartbeats 4000000 in
set_option maxRecDepth 100000 in
theorem m_X7_grownCorners (l : Launch) (B : Nat) (D : DD) {n : Nat} (hN : 139 ≤ n) {t : Nat} {w : Wd} {r : Nat} {w' : Wd} (ht : t < n ∧ kd t = 7) (hf : f_X7_grownCorners t w = some (r, w')) : Ct l yX7_grownCorners cX7_grownCorners 1 (some (.object "GrowthGrid$Corners")) 4 99 0 0 B D [.ref (B + t)] n w (some (.ref (B + r))) n w' := by
  refine m_of (by decide) (Nat.le_of_ble_eq_true rfl) (fun p e s m args below meth c X hml hr hlk _ H locs hh ls hl => ?_)
  have hx := X.1
  have hb := X.2.1
  have hl : lv_has ls 1 [(0, .ref (B + t))] := hl
  unfold f_X7_grownCorners at hf
  refine lv_aload_n hx hb dX7_grownCorners_0 rfl (lv_at hl 0 rfl) ?_
  refine r_gi X hh ht fk_X7_35 dX7_grownCorners_1 ?_
  refine jn_W (P := fun j3 => ∀ (w2 : Wd), j3 w2 = some (r, w') → ∀ (H : Heap) (locs : List Loc) (ls : Array Slot), Hp B D n w2 s H locs → lv_has ls 1 [(0, .ref (B + t))] → W p l e (rmk 4 99 0 0) s m args below meth c H locs 0 0 (MZ below B D n w' (some (.ref (B + r))) args s 0 0) (F0 m 23 ls [])) hf (fun w2 hf  H locs ls hh hl => ?_) (fun j3 hj3 hf => ?_)
  · refine lv_aload_n hx hb dX7_grownCorners_23 rfl (lv_at hl 0 rfl) ?_
    refine q_gr (P := 1) X hh ht fk_X7_31 dX7_grownCorners_24 hN hf (fun t4 h5 hf => ?_)
    exact e_a X hr hlk hh (so2_e hf) dX7_grownCorners_27
  · refine lv_if_ne (tgt := 23) hx hb dX7_grownCorners_4 (by decide) (fun hc1 => ?_) (fun hc1 => ?_)
    · have hf := if_f hc1 hf
      exact hj3 _ hf  _ _ _ hh (lv_sub hl [0] rfl)
    · have hf := if_t hc1 hf
      refine lv_aload_n hx hb dX7_grownCorners_7 rfl (lv_at hl 0 rfl) ?_
      refine q_gr (P := 1) X hh ht fk_X7_31 dX7_grownCorners_8 hN hf (fun t6 h7 hf => ?_)
      refine lv_aload_n hx hb dX7_grownCorners_11 rfl (lv_at hl 0 rfl) ?_
      refine q_gr (P := 0) X hh ht fk_X7_14 dX7_grownCorners_12 hN hf (fun t8 h9 hf => ?_)
      obtain ⟨w11, hc10, hf⟩ := c1_e hf
      refine q_V (w' := w11) (rest := []) X hml hh none (m_X1_growOver l B D hN h7 h9 hc10) cf_X1_growOver k_261 h7 ci_1 rfl rfl hl.1 rfl (Nat.le_of_ble_eq_true rfl) ⟨Nat.le_of_ble_eq_true rfl, Nat.le_of_ble_eq_true rfl⟩ ⟨Nat.zero_le _, Nat.zero_le _⟩ dX7_grownCorners_15 rfl (fun H locs hh => ?_)
      refine lv_aload_n hx hb dX7_grownCorners_18 rfl (lv_at hl 0 rfl) ?_
      refine lv_iconst (v := (1 : Int32)) hx hb dX7_grownCorners_19 (by decide) ?_
      refine q_pi X hh ht fk_X7_35 pk_7_5 rfl rfl dX7_grownCorners_20 hf (fun w12 H locs hf hh => ?_)
      exact hj3 _ hf  _ _ _ hh (lv_sub hl [0] rfl)
set_option maxHeartbeats 4000000 in
set_option maxRecDepth 100000 in
theorem m_X7_shapeAt (l : Launch) (B : Nat) (D : DD) {n : Nat} (hN : 139 ≤ n) {t : Nat} {a0 : Int32} {a1 : Int32} {w : Wd} {r : Nat} {w' : Wd} (ht : t < n ∧ kd t = 7) (hf : f_X7_shapeAt t a0 a1 w = some (r, w')) : Ct l yX7_shapeAt cX7_shapeAt 3 (some (.object "GrowthGrid$Shape")) 5 119 0 0 B D [.ref (B + t), .int a0, .int a1] n w (some (.ref (B + r))) n w' := by
  refine m_of (by decide) (Nat.le_of_ble_eq_true rfl) (fun p e s m args below meth c X hml hr hlk _ H locs hh ls hl => ?_)
  have hx := X.1
  have hb := X.2.1
  have hl : lv_has ls 3 [(0, .ref (B + t)), (1, .int a0), (2, .int a1)] := hl
  unfold f_X7_shapeAt at hf
  refine lv_aload_n hx hb dX7_shapeAt_0 rfl (lv_at hl 0 rfl) ?_
  obtain ⟨v2, w3, hc1, hf⟩ := c2_e hf
  obtain ⟨h4, hf⟩ := ck_n hN hf
  refine q_V (w' := w3) (rest := []) X hml hh (some (.ref (B + v2))) (m_X7_grownCorners l B D hN ht hc1) cf_X7_grownCorners k_257 ht ci_7 rfl rfl hl.1 rfl (Nat.le_of_ble_eq_true rfl) ⟨Nat.le_of_ble_eq_true rfl, Nat.le_of_ble_eq_true rfl⟩ ⟨Nat.zero_le _, Nat.zero_le _⟩ dX7_shapeAt_1 rfl (fun H locs hh => ?_)
  refine lv_iload_n hx hb dX7_shapeAt_4 rfl (lv_at hl 1 rfl) ?_
  refine lv_iload_n hx hb dX7_shapeAt_5 rfl (lv_at hl 2 rfl) ?_
  obtain ⟨v6, hc5, hf⟩ := c1_e hf
  obtain ⟨h7, hf⟩ := ck_n hN hf
  refine q_V (w' := w3) (rest := []) X hml hh (some (.ref (B + v6))) (m_X1_at l B D hN h4 hc5) cf_X1_at k_296 h4 ci_1 rfl rfl hl.1 rfl (Nat.le_of_ble_eq_true rfl) ⟨Nat.le_of_ble_eq_true rfl, Nat.le_of_ble_eq_true rfl⟩ ⟨Nat.zero_le _, Nat.zero_le _⟩ dX7_shapeAt_6 rfl (fun H locs hh => ?_)
  exact e_a X hr hlk hh (so2_e hf) dX7_shapeAt_9
set_option maxHeartbeats 4000000 in
set_option maxRecDepth 100000 in
theorem m_X7_part (l : Launch) (B : Nat) (D : DD) {n : Nat} (hN : 139 ≤ n) {t : Nat} {a0 : Int32} {a1 : Int32} {a2 : Int32} {w : Wd} {r : Int32} {w' : Wd} (ht : t < n ∧ kd t = 7) (hf : f_X7_part t a0 a1 a2 w = some (r, w')) : Ct l yX7_part cX7_part 4 (some .int) 6 141 0 0 B D [.ref (B + t), .int a0, .int a1, .int a2] n w (some (.int r)) n w' := by
  refine m_of (by decide) (Nat.le_of_ble_eq_true rfl) (fun p e s m args below meth c X hml hr hlk _ H locs hh ls hl => ?_)
  have hx := X.1
  have hb := X.2.1
  have hl : lv_has ls 4 [(0, .ref (B + t)), (1, .int a0), (2, .int a1), (3, .int a2)] := hl
  unfold f_X7_part at hf
  refine lv_aload_n hx hb dX7_part_0 rfl (lv_at hl 0 rfl) ?_
  refine q_gr (P := 0) X hh ht fk_X7_14 dX7_part_1 hN hf (fun t1 h2 hf => ?_)
  refine lv_iload_n hx hb dX7_part_4 rfl (lv_at hl 1 rfl) ?_
  refine lv_iload_n hx hb dX7_part_5 rfl (lv_at hl 2 rfl) ?_
  obtain ⟨v4, hc3, hf⟩ := c1_e hf
  refine q_V (w' := w) (rest := []) X hml hh (some (.int v4)) (m_X0_hasCorner l B D hN h2 hc3) cf_X0_hasCorner k_246 h2 ci_0 rfl rfl hl.1 rfl (Nat.le_of_ble_eq_true rfl) ⟨Nat.le_of_ble_eq_true rfl, Nat.le_of_ble_eq_true rfl⟩ ⟨Nat.zero_le _, Nat.zero_le _⟩ dX7_part_6 rfl (fun H locs hh => ?_)
  refine lv_if_eq (tgt := 19) hx hb dX7_part_9 (by decide) (fun hc5 => ?_) (fun hc5 => ?_)
  · have hf := if_t hc5 hf
    refine lv_iconst (v := (-1 : Int32)) hx hb dX7_part_19 (by decide) ?_
    exact e_i X hr hlk hh (so2_e hf) dX7_part_20
  · have hf := if_f hc5 hf
    refine lv_iload_n hx hb dX7_part_12 rfl (lv_at hl 3 rfl) ?_
    obtain ⟨v7, hc6, hf⟩ := c1_e hf
    refine q_S (w' := w) (rest := []) X hml hh (some (.int v7)) (m_X7_isPlace l B D hN hc6) cf_X7_isPlace k_250 rfl hl.1 rfl (Nat.le_of_ble_eq_true rfl) ⟨Nat.le_of_ble_eq_true rfl, Nat.le_of_ble_eq_true rfl⟩ ⟨Nat.zero_le _, Nat.zero_le _⟩ dX7_part_13 rfl (fun H locs hh => ?_)
    refine lv_if_ne (tgt := 21) hx hb dX7_part_16 (by decide) (fun hc8 => ?_) (fun hc8 => ?_)
    · have hf := if_f hc8 hf
      refine lv_aload_n hx hb dX7_part_21 rfl (lv_at hl 0 rfl) ?_
      refine lv_iload_n hx hb dX7_part_22 rfl (lv_at hl 1 rfl) ?_
      refine lv_iload_n hx hb dX7_part_23 rfl (lv_at hl 2 rfl) ?_
      obtain ⟨v10, w11, hc9, hf⟩ := c2_e hf
      obtain ⟨h12, hf⟩ := ck_n hN hf
      refine q_V (w' := w11) (rest := []) X hml hh (some (.ref (B + v10))) (m_X7_shapeAt l B D hN ht hc9) cf_X7_shapeAt k_253 ht ci_7 rfl rfl hl.1 rfl (Nat.le_of_ble_eq_true rfl) ⟨Nat.le_of_ble_eq_true rfl, Nat.le_of_ble_eq_true rfl⟩ ⟨Nat.zero_le _, Nat.zero_le _⟩ dX7_part_24 rfl (fun H locs hh => ?_)
      refine lv_iload_n hx hb dX7_part_27 rfl (lv_at hl 3 rfl) ?_
      obtain ⟨v14, hc13, hf⟩ := c1_e hf
      refine q_V (w' := w11) (rest := []) X hml hh (some (.int v14)) (m_X5_partAt l B D hN h12 hc13) cf_X5_partAt k_297 h12 ci_5 rfl rfl hl.1 rfl (Nat.le_of_ble_eq_true rfl) ⟨Nat.le_of_ble_eq_true rfl, Nat.le_of_ble_eq_true rfl⟩ ⟨Nat.zero_le _, Nat.zero_le _⟩ dX7_part_28 rfl (fun H locs hh => ?_)
      exact e_i X hr hlk hh (so2_e hf) dX7_part_31
    · have hf := if_t hc8 hf
      refine lv_iconst (v := (-1 : Int32)) hx hb dX7_part_19 (by decide) ?_
      exact e_i X hr hlk hh (so2_e hf) dX7_part_20
set_option maxHeartbeats 4000000 in
set_option maxRecDepth 100000 in
theorem m_X7_shape (l : Launch) (B : Nat) (D : DD) {n : Nat} (hN : 139 ≤ n) {t : Nat} {a0 : Int32} {a1 : Int32} {a2 : Int32} {w : Wd} {r : Int32} {w' : Wd} (ht : t < n ∧ kd t = 7) (hf : f_X7_shape t a0 a1 a2 w = some (r, w')) : Ct l yX7_shape cX7_shape 5 (some .int) 6 141 0 0 B D [.ref (B + t), .int a0, .int a1, .int a2] n w (some (.int r)) n w' := by
  refine m_of (by decide) (Nat.le_of_ble_eq_true rfl) (fun p e s m args below meth c X hml hr hlk _ H locs hh ls hl => ?_)
  have hx := X.1
  have hb := X.2.1
  have hl : lv_has ls 5 [(0, .ref (B + t)), (1, .int a0), (2, .int a1), (3, .int a2)] := hl
  unfold f_X7_shape at hf
  refine lv_aload_n hx hb dX7_shape_0 rfl (lv_at hl 0 rfl) ?_
  refine q_gr (P := 0) X hh ht fk_X7_14 dX7_shape_1 hN hf (fun t1 h2 hf => ?_)
  refine lv_iload_n hx hb dX7_shape_4 rfl (lv_at hl 1 rfl) ?_
  refine lv_iload_n hx hb dX7_shape_5 rfl (lv_at hl 2 rfl) ?_
  obtain ⟨v4, hc3, hf⟩ := c1_e hf
  refine q_V (w' := w) (rest := []) X hml hh (some (.int v4)) (m_X0_hasCorner l B D hN h2 hc3) cf_X0_hasCorner k_246 h2 ci_0 rfl rfl hl.1 rfl (Nat.le_of_ble_eq_true rfl) ⟨Nat.le_of_ble_eq_true rfl, Nat.le_of_ble_eq_true rfl⟩ ⟨Nat.zero_le _, Nat.zero_le _⟩ dX7_shape_6 rfl (fun H locs hh => ?_)
  refine lv_if_eq (tgt := 21) hx hb dX7_shape_9 (by decide) (fun hc5 => ?_) (fun hc5 => ?_)
  · have hf := if_t hc5 hf
    refine lv_iconst (v := (-1 : Int32)) hx hb dX7_shape_21 (by decide) ?_
    exact e_i X hr hlk hh (so2_e hf) dX7_shape_22
  · have hf := if_f hc5 hf
    refine lv_iload_n hx hb dX7_shape_12 rfl (lv_at hl 3 rfl) ?_
    refine lv_if_lt (tgt := 21) hx hb dX7_shape_13 (by decide) (fun hc6 => ?_) (fun hc6 => ?_)
    · have hf := if_t hc6 hf
      refine lv_iconst (v := (-1 : Int32)) hx hb dX7_shape_21 (by decide) ?_
      exact e_i X hr hlk hh (so2_e hf) dX7_shape_22
    · have hf := if_f hc6 hf
      refine lv_iload_n hx hb dX7_shape_16 rfl (lv_at hl 3 rfl) ?_
      refine lv_iconst (v := (1 : Int32)) hx hb dX7_shape_17 (by decide) ?_
      refine lv_icmp_le (tgt := 23) hx hb dX7_shape_18 (by decide) (fun hc7 => ?_) (fun hc7 => ?_)
      · have hf := if_t hc7 hf
        refine lv_aload_n hx hb dX7_shape_23 rfl (lv_at hl 0 rfl) ?_
        refine lv_iload_n hx hb dX7_shape_24 rfl (lv_at hl 1 rfl) ?_
        refine lv_iload_n hx hb dX7_shape_25 rfl (lv_at hl 2 rfl) ?_
        obtain ⟨v9, w10, hc8, hf⟩ := c2_e hf
        obtain ⟨h11, hf⟩ := ck_n hN hf
        refine q_V (w' := w10) (rest := []) X hml hh (some (.ref (B + v9))) (m_X7_shapeAt l B D hN ht hc8) cf_X7_shapeAt k_253 ht ci_7 rfl rfl hl.1 rfl (Nat.le_of_ble_eq_true rfl) ⟨Nat.le_of_ble_eq_true rfl, Nat.le_of_ble_eq_true rfl⟩ ⟨Nat.zero_le _, Nat.zero_le _⟩ dX7_shape_26 rfl (fun H locs hh => ?_)
        refine lv_astore (lv' := [(4, .ref (B + v9)), (0, .ref (B + t)), (1, .int a0), (2, .int a1), (3, .int a2)]) hx hb dX7_shape_29 hl (by decide) rfl (fun ls hl => ?_)
        refine lv_iload_n hx hb dX7_shape_31 rfl (lv_at hl 4 rfl) ?_
        refine mg_W (P := fun (x13 : Int32) => ∀ (ls : Array Slot), lv_has ls 5 [] → W p l e (rmk 6 141 0 0) s m args below meth c H locs 0 0 (MZ below B D n w' (some (.int r)) args s 0 0) (F0 m 48 ls [.int x13])) hf (fun x13 hf ls hl => ?_) (fun hj14 => ?_)
        · exact e_i X hr hlk hh (so2_e hf) dX7_shape_48
        · refine lv_if_ne (tgt := 43) hx hb dX7_shape_32 (by decide) (fun hc12 => ?_) (fun hc12 => ?_)
          · refine lv_aload hx hb dX7_shape_43 (lv_at hl 0 rfl) ?_
            refine r_gi X hh h11 fk_X7_142 dX7_shape_45 ?_
            exact hj14 _ (by rw [if_neg hc12]) ls (lv_sub hl [] rfl)
          · refine lv_aload hx hb dX7_shape_35 (lv_at hl 0 rfl) ?_
            refine r_gi X hh h11 fk_X7_139 dX7_shape_37 ?_
            refine lv_goto (tgt := 48) hx hb dX7_shape_40 (by decide) ?_
            exact hj14 _ (by rw [if_pos hc12]) ls (lv_sub hl [] rfl)
      · have hf := if_f hc7 hf
        refine lv_iconst (v := (-1 : Int32)) hx hb dX7_shape_21 (by decide) ?_
        exact e_i X hr hlk hh (so2_e hf) dX7_shape_22
set_option maxHeartbeats 4000000 in
set_option maxRecDepth 100000 in
theorem m_X7_turned (l : Launch) (B : Nat) (D : DD) {n : Nat} (hN : 139 ≤ n) {t : Nat} {a0 : Int32} {a1 : Int32} {a2 : Int32} {w : Wd} {r : Int32} {w' : Wd} (ht : t < n ∧ kd t = 7) (hf : f_X7_turned t a0 a1 a2 w = some (r, w')) : Ct l yX7_turned cX7_turned 4 (some .int) 6 141 0 0 B D [.ref (B + t), .int a0, .int a1, .int a2] n w (some (.int r)) n w' := by
  refine m_of (by decide) (Nat.le_of_ble_eq_true rfl) (fun p e s m args below meth c X hml hr hlk _ H locs hh ls hl => ?_)
  have hx := X.1
  have hb := X.2.1
  have hl : lv_has ls 4 [(0, .ref (B + t)), (1, .int a0), (2, .int a1), (3, .int a2)] := hl
  unfold f_X7_turned at hf
  refine lv_aload_n hx hb dX7_turned_0 rfl (lv_at hl 0 rfl) ?_
  refine q_gr (P := 0) X hh ht fk_X7_14 dX7_turned_1 hN hf (fun t1 h2 hf => ?_)
  refine lv_iload_n hx hb dX7_turned_4 rfl (lv_at hl 1 rfl) ?_
  refine lv_iload_n hx hb dX7_turned_5 rfl (lv_at hl 2 rfl) ?_
  obtain ⟨v4, hc3, hf⟩ := c1_e hf
  refine q_V (w' := w) (rest := []) X hml hh (some (.int v4)) (m_X0_hasCorner l B D hN h2 hc3) cf_X0_hasCorner k_246 h2 ci_0 rfl rfl hl.1 rfl (Nat.le_of_ble_eq_true rfl) ⟨Nat.le_of_ble_eq_true rfl, Nat.le_of_ble_eq_true rfl⟩ ⟨Nat.zero_le _, Nat.zero_le _⟩ dX7_turned_6 rfl (fun H locs hh => ?_)
  refine lv_if_eq (tgt := 19) hx hb dX7_turned_9 (by decide) (fun hc5 => ?_) (fun hc5 => ?_)
  · have hf := if_t hc5 hf
    refine lv_iconst (v := (-1 : Int32)) hx hb dX7_turned_19 (by decide) ?_
    exact e_i X hr hlk hh (so2_e hf) dX7_turned_20
  · have hf := if_f hc5 hf
    refine lv_iload_n hx hb dX7_turned_12 rfl (lv_at hl 3 rfl) ?_
    obtain ⟨v7, hc6, hf⟩ := c1_e hf
    refine q_S (w' := w) (rest := []) X hml hh (some (.int v7)) (m_X7_isPlace l B D hN hc6) cf_X7_isPlace k_250 rfl hl.1 rfl (Nat.le_of_ble_eq_true rfl) ⟨Nat.le_of_ble_eq_true rfl, Nat.le_of_ble_eq_true rfl⟩ ⟨Nat.zero_le _, Nat.zero_le _⟩ dX7_turned_13 rfl (fun H locs hh => ?_)
    refine lv_if_ne (tgt := 21) hx hb dX7_turned_16 (by decide) (fun hc8 => ?_) (fun hc8 => ?_)
    · have hf := if_f hc8 hf
      refine lv_aload_n hx hb dX7_turned_21 rfl (lv_at hl 0 rfl) ?_
      refine lv_iload_n hx hb dX7_turned_22 rfl (lv_at hl 1 rfl) ?_
      refine lv_iload_n hx hb dX7_turned_23 rfl (lv_at hl 2 rfl) ?_
      obtain ⟨v10, w11, hc9, hf⟩ := c2_e hf
      obtain ⟨h12, hf⟩ := ck_n hN hf
      refine q_V (w' := w11) (rest := []) X hml hh (some (.ref (B + v10))) (m_X7_shapeAt l B D hN ht hc9) cf_X7_shapeAt k_253 ht ci_7 rfl rfl hl.1 rfl (Nat.le_of_ble_eq_true rfl) ⟨Nat.le_of_ble_eq_true rfl, Nat.le_of_ble_eq_true rfl⟩ ⟨Nat.zero_le _, Nat.zero_le _⟩ dX7_turned_24 rfl (fun H locs hh => ?_)
      refine lv_iload_n hx hb dX7_turned_27 rfl (lv_at hl 3 rfl) ?_
      obtain ⟨v14, hc13, hf⟩ := c1_e hf
      refine q_V (w' := w11) (rest := []) X hml hh (some (.int v14)) (m_X5_partsAbove l B D hN h12 hc13) cf_X5_partsAbove k_306 h12 ci_5 rfl rfl hl.1 rfl (Nat.le_of_ble_eq_true rfl) ⟨Nat.le_of_ble_eq_true rfl, Nat.le_of_ble_eq_true rfl⟩ ⟨Nat.zero_le _, Nat.zero_le _⟩ dX7_turned_28 rfl (fun H locs hh => ?_)
      exact e_i X hr hlk hh (so2_e hf) dX7_turned_31
    · have hf := if_t hc8 hf
      refine lv_iconst (v := (-1 : Int32)) hx hb dX7_turned_19 (by decide) ?_
      exact e_i X hr hlk hh (so2_e hf) dX7_turned_20
set_option maxHeartbeats 4000000 in
set_option maxRecDepth 100000 in
theorem m_X7_standard (l : Launch) (B : Nat) (D : DD) {n : Nat} (hN : 139 ≤ n) {t : Nat} {a0 : Int32} {a1 : Int32} {w : Wd} {r : Int64} {w' : Wd} (ht : t < n ∧ kd t = 7) (hf : f_X7_standard t a0 a1 w = some (r, w')) : Ct l yX7_standard cX7_standard 4 (some .long) 6 141 0 0 B D [.ref (B + t), .int a0, .int a1] n w (some (.long r)) n w' := by
  refine m_of (by decide) (Nat.le_of_ble_eq_true rfl) (fun p e s m args below meth c X hml hr hlk _ H locs hh ls hl => ?_)
  have hx := X.1
  have hb := X.2.1
  have hl : lv_has ls 4 [(0, .ref (B + t)), (1, .int a0), (2, .int a1)] := hl
  unfold f_X7_standard at hf
  refine lv_aload_n hx hb dX7_standard_0 rfl (lv_at hl 0 rfl) ?_
  refine q_gr (P := 0) X hh ht fk_X7_14 dX7_standard_1 hN hf (fun t1 h2 hf => ?_)
  refine lv_iload_n hx hb dX7_standard_4 rfl (lv_at hl 1 rfl) ?_
  refine lv_iload_n hx hb dX7_standard_5 rfl (lv_at hl 2 rfl) ?_
  obtain ⟨v4, hc3, hf⟩ := c1_e hf
  refine q_V (w' := w) (rest := []) X hml hh (some (.int v4)) (m_X0_hasCorner l B D hN h2 hc3) cf_X0_hasCorner k_246 h2 ci_0 rfl rfl hl.1 rfl (Nat.le_of_ble_eq_true rfl) ⟨Nat.le_of_ble_eq_true rfl, Nat.le_of_ble_eq_true rfl⟩ ⟨Nat.zero_le _, Nat.zero_le _⟩ dX7_standard_6 rfl (fun H locs hh => ?_)
  refine lv_if_ne (tgt := 16) hx hb dX7_standard_9 (by decide) (fun hc5 => ?_) (fun hc5 => ?_)
  · have hf := if_f hc5 hf
    refine lv_aload_n hx hb dX7_standard_16 rfl (lv_at hl 0 rfl) ?_
    refine lv_iload_n hx hb dX7_standard_17 rfl (lv_at hl 1 rfl) ?_
    refine lv_iload_n hx hb dX7_standard_18 rfl (lv_at hl 2 rfl) ?_
    obtain ⟨v7, w8, hc6, hf⟩ := c2_e hf
    obtain ⟨h9, hf⟩ := ck_n hN hf
    refine q_V (w' := w8) (rest := []) X hml hh (some (.ref (B + v7))) (m_X7_shapeAt l B D hN ht hc6) cf_X7_shapeAt k_253 ht ci_7 rfl rfl hl.1 rfl (Nat.le_of_ble_eq_true rfl) ⟨Nat.le_of_ble_eq_true rfl, Nat.le_of_ble_eq_true rfl⟩ ⟨Nat.zero_le _, Nat.zero_le _⟩ dX7_standard_19 rfl (fun H locs hh => ?_)
    refine lv_astore_n (lv' := [(3, .ref (B + v7)), (0, .ref (B + t)), (1, .int a0), (2, .int a1)]) hx hb dX7_standard_22 rfl hl (by decide) rfl (fun ls hl => ?_)
    refine lv_aload_n hx hb dX7_standard_23 rfl (lv_at hl 0 rfl) ?_
    refine r_gi X hh h9 fk_X7_139 dX7_standard_24 ?_
    refine lv_bipush (v := (20 : Int32)) hx hb dX7_standard_27 (by decide) ?_
    refine lv_icmp_le (tgt := 38) hx hb dX7_standard_29 (by decide) (fun hc10 => ?_) (fun hc10 => ?_)
    · have hf := if_t hc10 hf
      refine lv_aload_n hx hb dX7_standard_38 rfl (lv_at hl 0 rfl) ?_
      obtain ⟨v12, hc11, hf⟩ := c1_e hf
      refine q_V (w' := w8) (rest := []) X hml hh (some (.long v12)) (m_X5_standardFillings l B D hN h9 hc11) cf_X5_standardFillings k_315 h9 ci_5 rfl rfl hl.1 rfl (Nat.le_of_ble_eq_true rfl) ⟨Nat.le_of_ble_eq_true rfl, Nat.le_of_ble_eq_true rfl⟩ ⟨Nat.zero_le _, Nat.zero_le _⟩ dX7_standard_39 rfl (fun H locs hh => ?_)
      exact e_l X hr hlk hh (so2_e hf) dX7_standard_42
    · have hf := if_f hc10 hf
      refine lv_ldc2 hx hb X.2.2.1 (X.2.2.2.1 _ k_314) dX7_standard_32 ?_
      refine lv_goto (tgt := 42) hx hb dX7_standard_35 (by decide) ?_
      exact e_l X hr hlk hh (so2_e hf) dX7_standard_42
  · have hf := if_t hc5 hf
    refine lv_ldc2 hx hb X.2.2.1 (X.2.2.2.1 _ k_314) dX7_standard_12 ?_
    exact e_l X hr hlk hh (so2_e hf) dX7_standard_15
set_option maxHeartbeats 4000000 in
set_option maxRecDepth 100000 in
theorem m_X7_product (l : Launch) (B : Nat) (D : DD) {n : Nat} (hN : 139 ≤ n) {t : Nat} {a0 : Int32} {a1 : Int32} {w : Wd} {r : Int32} {w' : Wd} (ht : t < n ∧ kd t = 7) (hf : f_X7_product t a0 a1 w = some (r, w')) : Ct l yX7_product cX7_product 3 (some .int) 6 141 0 0 B D [.ref (B + t), .int a0, .int a1] n w (some (.int r)) n w' := by
  refine m_of (by decide) (Nat.le_of_ble_eq_true rfl) (fun p e s m args below meth c X hml hr hlk _ H locs hh ls hl => ?_)
  have hx := X.1
  have hb := X.2.1
  have hl : lv_has ls 3 [(0, .ref (B + t)), (1, .int a0), (2, .int a1)] := hl
  unfold f_X7_product at hf
  refine lv_aload_n hx hb dX7_product_0 rfl (lv_at hl 0 rfl) ?_
  refine q_gr (P := 0) X hh ht fk_X7_14 dX7_product_1 hN hf (fun t1 h2 hf => ?_)
  refine lv_iload_n hx hb dX7_product_4 rfl (lv_at hl 1 rfl) ?_
  refine lv_iload_n hx hb dX7_product_5 rfl (lv_at hl 2 rfl) ?_
  obtain ⟨v4, hc3, hf⟩ := c1_e hf
  refine q_V (w' := w) (rest := []) X hml hh (some (.int v4)) (m_X0_hasCorner l B D hN h2 hc3) cf_X0_hasCorner k_246 h2 ci_0 rfl rfl hl.1 rfl (Nat.le_of_ble_eq_true rfl) ⟨Nat.le_of_ble_eq_true rfl, Nat.le_of_ble_eq_true rfl⟩ ⟨Nat.zero_le _, Nat.zero_le _⟩ dX7_product_6 rfl (fun H locs hh => ?_)
  refine lv_if_ne (tgt := 14) hx hb dX7_product_9 (by decide) (fun hc5 => ?_) (fun hc5 => ?_)
  · have hf := if_f hc5 hf
    refine lv_aload_n hx hb dX7_product_14 rfl (lv_at hl 0 rfl) ?_
    refine lv_iload_n hx hb dX7_product_15 rfl (lv_at hl 1 rfl) ?_
    refine lv_iload_n hx hb dX7_product_16 rfl (lv_at hl 2 rfl) ?_
    obtain ⟨v7, w8, hc6, hf⟩ := c2_e hf
    obtain ⟨h9, hf⟩ := ck_n hN hf
    refine q_V (w' := w8) (rest := []) X hml hh (some (.ref (B + v7))) (m_X7_shapeAt l B D hN ht hc6) cf_X7_shapeAt k_253 ht ci_7 rfl rfl hl.1 rfl (Nat.le_of_ble_eq_true rfl) ⟨Nat.le_of_ble_eq_true rfl, Nat.le_of_ble_eq_true rfl⟩ ⟨Nat.zero_le _, Nat.zero_le _⟩ dX7_product_17 rfl (fun H locs hh => ?_)
    obtain ⟨v11, hc10, hf⟩ := c1_e hf
    refine q_V (w' := w8) (rest := []) X hml hh (some (.int v11)) (m_X5_productOrWide l B D hN h9 hc10) cf_X5_productOrWide k_325 h9 ci_5 rfl rfl hl.1 rfl (Nat.le_of_ble_eq_true rfl) ⟨Nat.le_of_ble_eq_true rfl, Nat.le_of_ble_eq_true rfl⟩ ⟨Nat.zero_le _, Nat.zero_le _⟩ dX7_product_20 rfl (fun H locs hh => ?_)
    exact e_i X hr hlk hh (so2_e hf) dX7_product_23
  · have hf := if_t hc5 hf
    refine lv_iconst (v := (-1 : Int32)) hx hb dX7_product_12 (by decide) ?_
    exact e_i X hr hlk hh (so2_e hf) dX7_product_13
set_option maxHeartbeats 4000000 in
set_option maxRecDepth 100000 in
theorem m_X7_fits (l : Launch) (B : Nat) (D : DD) {n : Nat} (hN : 139 ≤ n) {t : Nat} {a0 : Int32} {w : Wd} {r : Int32} {w' : Wd} (ht : t < n ∧ kd t = 7) (hf : f_X7_fits t a0 w = some (r, w')) : Ct l yX7_fits cX7_fits 2 (some .int) 5 119 0 0 B D [.ref (B + t), .int a0] n w (some (.int r)) n w' := by
  refine m_of (by decide) (Nat.le_of_ble_eq_true rfl) (fun p e s m args below meth c X hml hr hlk _ H locs hh ls hl => ?_)
  have hx := X.1
  have hb := X.2.1
  have hl : lv_has ls 2 [(0, .ref (B + t)), (1, .int a0)] := hl
  unfold f_X7_fits at hf
  refine lv_iload_n hx hb dX7_fits_0 rfl (lv_at hl 1 rfl) ?_
  obtain ⟨v2, hc1, hf⟩ := c1_e hf
  refine q_S (w' := w) (rest := []) X hml hh (some (.int v2)) (m_X7_isRule l B D hN hc1) cf_X7_isRule k_214 rfl hl.1 rfl (Nat.le_of_ble_eq_true rfl) ⟨Nat.le_of_ble_eq_true rfl, Nat.le_of_ble_eq_true rfl⟩ ⟨Nat.zero_le _, Nat.zero_le _⟩ dX7_fits_1 rfl (fun H locs hh => ?_)
  refine lv_if_ne (tgt := 9) hx hb dX7_fits_4 (by decide) (fun hc3 => ?_) (fun hc3 => ?_)
  · have hf := if_f hc3 hf
    refine lv_aload_n hx hb dX7_fits_9 rfl (lv_at hl 0 rfl) ?_
    obtain ⟨v5, w6, hc4, hf⟩ := c2_e hf
    obtain ⟨h7, hf⟩ := ck_n hN hf
    refine q_V (w' := w6) (rest := []) X hml hh (some (.ref (B + v5))) (m_X7_grownCorners l B D hN ht hc4) cf_X7_grownCorners k_257 ht ci_7 rfl rfl hl.1 rfl (Nat.le_of_ble_eq_true rfl) ⟨Nat.le_of_ble_eq_true rfl, Nat.le_of_ble_eq_true rfl⟩ ⟨Nat.zero_le _, Nat.zero_le _⟩ dX7_fits_10 rfl (fun H locs hh => ?_)
    refine lv_iload_n hx hb dX7_fits_13 rfl (lv_at hl 1 rfl) ?_
    obtain ⟨v9, hc8, hf⟩ := c1_e hf
    refine q_V (w' := w6) (rest := []) X hml hh (some (.int v9)) (m_X1_rimFits l B D hN h7 hc8) cf_X1_rimFits k_334 h7 ci_1 rfl rfl hl.1 rfl (Nat.le_of_ble_eq_true rfl) ⟨Nat.le_of_ble_eq_true rfl, Nat.le_of_ble_eq_true rfl⟩ ⟨Nat.zero_le _, Nat.zero_le _⟩ dX7_fits_14 rfl (fun H locs hh => ?_)
    refine mg_W (P := fun (x11 : Int32) => ∀ (ls : Array Slot), lv_has ls 2 [] → W p l e (rmk 5 119 0 0) s m args below meth c H locs 0 0 (MZ below B D n w' (some (.int r)) args s 0 0) (F0 m 25 ls [.int x11])) hf (fun x11 hf ls hl => ?_) (fun hj12 => ?_)
    · exact e_i X hr hlk hh (so2_e hf) dX7_fits_25
    · refine lv_if_eq (tgt := 24) hx hb dX7_fits_17 (by decide) (fun hc10 => ?_) (fun hc10 => ?_)
      · refine lv_iconst (v := (0 : Int32)) hx hb dX7_fits_24 (by decide) ?_
        exact hj12 _ (by rw [if_pos hc10]) ls (lv_sub hl [] rfl)
      · refine lv_iconst (v := (1 : Int32)) hx hb dX7_fits_20 (by decide) ?_
        refine lv_goto (tgt := 25) hx hb dX7_fits_21 (by decide) ?_
        exact hj12 _ (by rw [if_neg hc10]) ls (lv_sub hl [] rfl)
  · have hf := if_t hc3 hf
    refine lv_iconst (v := (-1 : Int32)) hx hb dX7_fits_7 (by decide) ?_
    exact e_i X hr hlk hh (so2_e hf) dX7_fits_8
set_option maxHeartbeats 4000000 in
set_option maxRecDepth 100000 in
theorem m_X7_back (l : Launch) (B : Nat) (D : DD) {n : Nat} (hN : 139 ≤ n) {t : Nat} {a0 : Int32} {w : Wd} {r : Int32} {w' : Wd} (ht : t < n ∧ kd t = 7) (hf : f_X7_back t a0 w = some (r, w')) : Ct l yX7_back cX7_back 3 (some .int) 5 119 0 0 B D [.ref (B + t), .int a0] n w (some (.int r)) n w' := by
  refine m_of (by decide) (Nat.le_of_ble_eq_true rfl) (fun p e s m args below meth c X hml hr hlk _ H locs hh ls hl => ?_)
  have hx := X.1
  have hb := X.2.1
  have hl : lv_has ls 3 [(0, .ref (B + t)), (1, .int a0)] := hl
  unfold f_X7_back at hf
  refine lv_iload_n hx hb dX7_back_0 rfl (lv_at hl 1 rfl) ?_
  obtain ⟨v2, hc1, hf⟩ := c1_e hf
  refine q_S (w' := w) (rest := []) X hml hh (some (.int v2)) (m_X7_isRule l B D hN hc1) cf_X7_isRule k_214 rfl hl.1 rfl (Nat.le_of_ble_eq_true rfl) ⟨Nat.le_of_ble_eq_true rfl, Nat.le_of_ble_eq_true rfl⟩ ⟨Nat.zero_le _, Nat.zero_le _⟩ dX7_back_1 rfl (fun H locs hh => ?_)
  refine lv_if_ne (tgt := 9) hx hb dX7_back_4 (by decide) (fun hc3 => ?_) (fun hc3 => ?_)
  · have hf := if_f hc3 hf
    refine lv_aload_n hx hb dX7_back_9 rfl (lv_at hl 0 rfl) ?_
    obtain ⟨v5, w6, hc4, hf⟩ := c2_e hf
    obtain ⟨h7, hf⟩ := ck_n hN hf
    refine q_V (w' := w6) (rest := []) X hml hh (some (.ref (B + v5))) (m_X7_grownCorners l B D hN ht hc4) cf_X7_grownCorners k_257 ht ci_7 rfl rfl hl.1 rfl (Nat.le_of_ble_eq_true rfl) ⟨Nat.le_of_ble_eq_true rfl, Nat.le_of_ble_eq_true rfl⟩ ⟨Nat.zero_le _, Nat.zero_le _⟩ dX7_back_10 rfl (fun H locs hh => ?_)
    refine lv_iload_n hx hb dX7_back_13 rfl (lv_at hl 1 rfl) ?_
    obtain ⟨v9, hc8, hf⟩ := c1_e hf
    refine q_V (w' := w6) (rest := []) X hml hh (some (.int v9)) (m_X1_rimFits l B D hN h7 hc8) cf_X1_rimFits k_334 h7 ci_1 rfl rfl hl.1 rfl (Nat.le_of_ble_eq_true rfl) ⟨Nat.le_of_ble_eq_true rfl, Nat.le_of_ble_eq_true rfl⟩ ⟨Nat.zero_le _, Nat.zero_le _⟩ dX7_back_14 rfl (fun H locs hh => ?_)
    refine lv_if_ne (tgt := 23) hx hb dX7_back_17 (by decide) (fun hc10 => ?_) (fun hc10 => ?_)
    · have hf := if_f hc10 hf
      refine lv_aload_n hx hb dX7_back_23 rfl (lv_at hl 0 rfl) ?_
      refine lv_iconst (v := (0 : Int32)) hx hb dX7_back_24 (by decide) ?_
      refine q_pi X hh ht fk_X7_35 pk_7_5 rfl rfl dX7_back_25 hf (fun w11 H locs hf hh => ?_)
      refine lv_aload_n hx hb dX7_back_28 rfl (lv_at hl 0 rfl) ?_
      refine q_gr (P := 0) X hh ht fk_X7_18 dX7_back_29 hN hf (fun t12 h13 hf => ?_)
      refine lv_aload_n hx hb dX7_back_32 rfl (lv_at hl 0 rfl) ?_
      refine q_gr (P := 0) X hh ht fk_X7_14 dX7_back_33 hN hf (fun t14 h15 hf => ?_)
      obtain ⟨w17, hc16, hf⟩ := c1_e hf
      refine q_V (w' := w17) (rest := []) X hml hh none (m_X0_copyFrom l B D hN h13 h15 hc16) cf_X0_copyFrom k_354 h13 ci_0 rfl rfl hl.1 rfl (Nat.le_of_ble_eq_true rfl) ⟨Nat.le_of_ble_eq_true rfl, Nat.le_of_ble_eq_true rfl⟩ ⟨Nat.zero_le _, Nat.zero_le _⟩ dX7_back_36 rfl (fun H locs hh => ?_)
      refine lv_aload_n hx hb dX7_back_39 rfl (lv_at hl 0 rfl) ?_
      refine q_gr (P := 0) X hh ht fk_X7_18 dX7_back_40 hN hf (fun t18 h19 hf => ?_)
      refine lv_iload_n hx hb dX7_back_43 rfl (lv_at hl 1 rfl) ?_
      refine q_pi X hh h19 fk_X7_102 pk_0_2 rfl rfl dX7_back_44 hf (fun w20 H locs hf hh => ?_)
      refine lv_aload_n hx hb dX7_back_47 rfl (lv_at hl 0 rfl) ?_
      refine q_gr (P := 1) X hh ht fk_X7_31 dX7_back_48 hN hf (fun t21 h22 hf => ?_)
      refine lv_aload_n hx hb dX7_back_51 rfl (lv_at hl 0 rfl) ?_
      refine q_gr (P := 0) X hh ht fk_X7_18 dX7_back_52 hN hf (fun t23 h24 hf => ?_)
      obtain ⟨v26, w27, hc25, hf⟩ := c2_e hf
      refine q_V (w' := w27) (rest := []) X hml hh (some (.int v26)) (m_X1_goBackInto l B D hN h22 h24 hc25) cf_X1_goBackInto k_355 h22 ci_1 rfl rfl hl.1 rfl (Nat.le_of_ble_eq_true rfl) ⟨Nat.le_of_ble_eq_true rfl, Nat.le_of_ble_eq_true rfl⟩ ⟨Nat.zero_le _, Nat.zero_le _⟩ dX7_back_55 rfl (fun H locs hh => ?_)
      refine lv_iconst (v := (3 : Int32)) hx hb dX7_back_58 (by decide) ?_
      refine lv_icmp_le (tgt := 65) hx hb dX7_back_59 (by decide) (fun hc28 => ?_) (fun hc28 => ?_)
      · have hf := if_t hc28 hf
        refine lv_aload_n hx hb dX7_back_65 rfl (lv_at hl 0 rfl) ?_
        refine q_gr (P := 0) X hh ht fk_X7_14 dX7_back_66 hN hf (fun t29 h30 hf => ?_)
        refine lv_aload_n hx hb dX7_back_69 rfl (lv_at hl 0 rfl) ?_
        refine q_gr (P := 0) X hh ht fk_X7_18 dX7_back_70 hN hf (fun t31 h32 hf => ?_)
        obtain ⟨v34, hc33, hf⟩ := c1_e hf
        refine q_V (w' := w27) (rest := []) X hml hh (some (.int v34)) (m_X0_differing l B D hN h30 h32 hc33) cf_X0_differing k_371 h30 ci_0 rfl rfl hl.1 rfl (Nat.le_of_ble_eq_true rfl) ⟨Nat.le_of_ble_eq_true rfl, Nat.le_of_ble_eq_true rfl⟩ ⟨Nat.zero_le _, Nat.zero_le _⟩ dX7_back_73 rfl (fun H locs hh => ?_)
        refine lv_istore_n (lv' := [(2, .int v34), (0, .ref (B + t)), (1, .int a0)]) hx hb dX7_back_76 rfl hl (by decide) rfl (fun ls hl => ?_)
        refine lv_aload_n hx hb dX7_back_77 rfl (lv_at hl 1 rfl) ?_
        obtain ⟨w36, hc35, hf⟩ := c1_e hf
        refine q_V (w' := w36) (rest := []) X hml hh none (m_X7_beginDeed l B D hN ht hc35) cf_X7_beginDeed k_217 ht ci_7 rfl rfl hl.1 rfl (Nat.le_of_ble_eq_true rfl) ⟨Nat.le_of_ble_eq_true rfl, Nat.le_of_ble_eq_true rfl⟩ ⟨Nat.zero_le _, Nat.zero_le _⟩ dX7_back_78 rfl (fun H locs hh => ?_)
        refine lv_aload_n hx hb dX7_back_81 rfl (lv_at hl 1 rfl) ?_
        refine q_gr (P := 0) X hh ht fk_X7_14 dX7_back_82 hN hf (fun t37 h38 hf => ?_)
        refine lv_aload_n hx hb dX7_back_85 rfl (lv_at hl 1 rfl) ?_
        refine q_gr (P := 0) X hh ht fk_X7_18 dX7_back_86 hN hf (fun t39 h40 hf => ?_)
        obtain ⟨w42, hc41, hf⟩ := c1_e hf
        refine q_V (w' := w42) (rest := []) X hml hh none (m_X0_copyFrom l B D hN h38 h40 hc41) cf_X0_copyFrom k_354 h38 ci_0 rfl rfl hl.1 rfl (Nat.le_of_ble_eq_true rfl) ⟨Nat.le_of_ble_eq_true rfl, Nat.le_of_ble_eq_true rfl⟩ ⟨Nat.zero_le _, Nat.zero_le _⟩ dX7_back_89 rfl (fun H locs hh => ?_)
        refine lv_iload_n hx hb dX7_back_92 rfl (lv_at hl 0 rfl) ?_
        exact e_i X hr hlk hh (so2_e hf) dX7_back_93
      · have hf := if_f hc28 hf
        refine lv_bipush (v := (-5 : Int32)) hx hb dX7_back_62 (by decide) ?_
        exact e_i X hr hlk hh (so2_e hf) dX7_back_64
    · have hf := if_t hc10 hf
      refine lv_bipush (v := (-5 : Int32)) hx hb dX7_back_20 (by decide) ?_
      exact e_i X hr hlk hh (so2_e hf) dX7_back_22
  · have hf := if_t hc3 hf
    refine lv_iconst (v := (-1 : Int32)) hx hb dX7_back_7 (by decide) ?_
    exact e_i X hr hlk hh (so2_e hf) dX7_back_8
set_option maxHeartbeats 4000000 in
set_option maxRecDepth 100000 in
theorem m_X7_longest (l : Launch) (B : Nat) (D : DD) {n : Nat} (hN : 139 ≤ n) {t : Nat} {a0 : Int32} {a1 : Int32} {w : Wd} {r : Int32} {w' : Wd} (ht : t < n ∧ kd t = 7) (hf : f_X7_longest t a0 a1 w = some (r, w')) : Ct l yX7_longest cX7_longest 3 (some .int) 3 74 0 0 B D [.ref (B + t), .int a0, .int a1] n w (some (.int r)) n w' := by
  refine m_of (by decide) (Nat.le_of_ble_eq_true rfl) (fun p e s m args below meth c X hml hr hlk _ H locs hh ls hl => ?_)
  have hx := X.1
  have hb := X.2.1
  have hl : lv_has ls 3 [(0, .ref (B + t)), (1, .int a0), (2, .int a1)] := hl
  unfold f_X7_longest at hf
  refine lv_iload_n hx hb dX7_longest_0 rfl (lv_at hl 1 rfl) ?_
  refine lv_if_lt (tgt := 18) hx hb dX7_longest_1 (by decide) (fun hc1 => ?_) (fun hc1 => ?_)
  · have hf := if_t hc1 hf
    refine lv_iconst (v := (-1 : Int32)) hx hb dX7_longest_18 (by decide) ?_
    exact e_i X hr hlk hh (so2_e hf) dX7_longest_19
  · have hf := if_f hc1 hf
    refine lv_iload_n hx hb dX7_longest_4 rfl (lv_at hl 1 rfl) ?_
    refine lv_iconst (v := (4 : Int32)) hx hb dX7_longest_5 (by decide) ?_
    refine lv_icmp_ge (tgt := 18) hx hb dX7_longest_6 (by decide) (fun hc2 => ?_) (fun hc2 => ?_)
    · have hf := if_t hc2 hf
      refine lv_iconst (v := (-1 : Int32)) hx hb dX7_longest_18 (by decide) ?_
      exact e_i X hr hlk hh (so2_e hf) dX7_longest_19
    · have hf := if_f hc2 hf
      refine lv_iload_n hx hb dX7_longest_9 rfl (lv_at hl 2 rfl) ?_
      refine lv_if_lt (tgt := 18) hx hb dX7_longest_10 (by decide) (fun hc3 => ?_) (fun hc3 => ?_)
      · have hf := if_t hc3 hf
        refine lv_iconst (v := (-1 : Int32)) hx hb dX7_longest_18 (by decide) ?_
        exact e_i X hr hlk hh (so2_e hf) dX7_longest_19
      · have hf := if_f hc3 hf
        refine lv_iload_n hx hb dX7_longest_13 rfl (lv_at hl 2 rfl) ?_
        refine lv_iconst (v := (1 : Int32)) hx hb dX7_longest_14 (by decide) ?_
        refine lv_icmp_le (tgt := 20) hx hb dX7_longest_15 (by decide) (fun hc4 => ?_) (fun hc4 => ?_)
        · have hf := if_t hc4 hf
          refine lv_aload_n hx hb dX7_longest_20 rfl (lv_at hl 0 rfl) ?_
          refine q_gr (P := 4) X hh ht fk_X7_41 dX7_longest_21 hN hf (fun t5 h6 hf => ?_)
          refine lv_aload_n hx hb dX7_longest_24 rfl (lv_at hl 0 rfl) ?_
          refine q_gr (P := 0) X hh ht fk_X7_14 dX7_longest_25 hN hf (fun t7 h8 hf => ?_)
          refine lv_iload_n hx hb dX7_longest_28 rfl (lv_at hl 1 rfl) ?_
          refine lv_iload_n hx hb dX7_longest_29 rfl (lv_at hl 2 rfl) ?_
          refine lv_iconst (v := (1 : Int32)) hx hb dX7_longest_30 (by decide) ?_
          refine mg_W (P := fun (x10 : Int32) => ∀ (ls : Array Slot), lv_has ls 3 [] → W p l e (rmk 3 74 0 0) s m args below meth c H locs 0 0 (MZ below B D n w' (some (.int r)) args s 0 0) (F0 m 39 ls [.int x10, .int a0, .ref (B + t7), .ref (B + t5)])) hf (fun x10 hf ls hl => ?_) (fun hj14 => ?_)
          · obtain ⟨v12, w13, hc11, hf⟩ := c2_e hf
            refine q_V (w' := w13) (rest := []) X hml hh (some (.int v12)) (m_X4_bestRow l B D hN h6 h8 hc11) cf_X4_bestRow k_379 h6 ci_4 rfl rfl hl.1 rfl (Nat.le_of_ble_eq_true rfl) ⟨Nat.le_of_ble_eq_true rfl, Nat.le_of_ble_eq_true rfl⟩ ⟨Nat.zero_le _, Nat.zero_le _⟩ dX7_longest_39 rfl (fun H locs hh => ?_)
            exact e_i X hr hlk hh (so2_e hf) dX7_longest_42
          · refine lv_icmp_ne (tgt := 38) hx hb dX7_longest_31 (by decide) (fun hc9 => ?_) (fun hc9 => ?_)
            · refine lv_iconst (v := (0 : Int32)) hx hb dX7_longest_38 (by decide) ?_
              exact hj14 _ (by rw [if_neg hc9]) ls (lv_sub hl [] rfl)
            · refine lv_iconst (v := (1 : Int32)) hx hb dX7_longest_34 (by decide) ?_
              refine lv_goto (tgt := 39) hx hb dX7_longest_35 (by decide) ?_
              exact hj14 _ (by rw [if_pos hc9]) ls (lv_sub hl [] rfl)
        · have hf := if_f hc4 hf
          refine lv_iconst (v := (-1 : Int32)) hx hb dX7_longest_18 (by decide) ?_
          exact e_i X hr hlk hh (so2_e hf) dX7_longest_19
set_option maxHeartbeats 4000000 in
set_option maxRecDepth 100000 in
theorem m_X7_undo (l : Launch) (B : Nat) (D : DD) {n : Nat} (hN : 139 ≤ n) {t : Nat} {w : Wd} {r : Int32} {w' : Wd} (ht : t < n ∧ kd t = 7) (hf : f_X7_undo t w = some (r, w')) : Ct l yX7_undo cX7_undo 1 (some .int) 2 43 0 0 B D [.ref (B + t)] n w (some (.int r)) n w' := by
  refine m_of (by decide) (Nat.le_of_ble_eq_true rfl) (fun p e s m args below meth c X hml hr hlk _ H locs hh ls hl => ?_)
  have hx := X.1
  have hb := X.2.1
  have hl : lv_has ls 1 [(0, .ref (B + t))] := hl
  unfold f_X7_undo at hf
  refine lv_aload_n hx hb dX7_undo_0 rfl (lv_at hl 0 rfl) ?_
  refine q_gr (P := 2) X hh ht fk_X7_48 dX7_undo_1 hN hf (fun t1 h2 hf => ?_)
  obtain ⟨v4, hc3, hf⟩ := c1_e hf
  refine q_V (w' := w) (rest := []) X hml hh (some (.int v4)) (m_X2_undoable l B D hN h2 hc3) cf_X2_undoable k_390 h2 ci_2 rfl rfl hl.1 rfl (Nat.le_of_ble_eq_true rfl) ⟨Nat.le_of_ble_eq_true rfl, Nat.le_of_ble_eq_true rfl⟩ ⟨Nat.zero_le _, Nat.zero_le _⟩ dX7_undo_4 rfl (fun H locs hh => ?_)
  refine lv_if_ne (tgt := 13) hx hb dX7_undo_7 (by decide) (fun hc5 => ?_) (fun hc5 => ?_)
  · have hf := if_f hc5 hf
    refine lv_aload_n hx hb dX7_undo_13 rfl (lv_at hl 0 rfl) ?_
    refine q_gr (P := 2) X hh ht fk_X7_48 dX7_undo_14 hN hf (fun t6 h7 hf => ?_)
    refine lv_aload_n hx hb dX7_undo_17 rfl (lv_at hl 0 rfl) ?_
    refine q_gr (P := 0) X hh ht fk_X7_14 dX7_undo_18 hN hf (fun t8 h9 hf => ?_)
    obtain ⟨w11, hc10, hf⟩ := c1_e hf
    refine q_V (w' := w11) (rest := []) X hml hh none (m_X2_stepBack l B D hN h7 h9 hc10) cf_X2_stepBack k_394 h7 ci_2 rfl rfl hl.1 rfl (Nat.le_of_ble_eq_true rfl) ⟨Nat.le_of_ble_eq_true rfl, Nat.le_of_ble_eq_true rfl⟩ ⟨Nat.zero_le _, Nat.zero_le _⟩ dX7_undo_21 rfl (fun H locs hh => ?_)
    refine lv_aload_n hx hb dX7_undo_24 rfl (lv_at hl 0 rfl) ?_
    refine lv_iconst (v := (0 : Int32)) hx hb dX7_undo_25 (by decide) ?_
    refine q_pi X hh ht fk_X7_35 pk_7_5 rfl rfl dX7_undo_26 hf (fun w12 H locs hf hh => ?_)
    refine lv_aload_n hx hb dX7_undo_29 rfl (lv_at hl 0 rfl) ?_
    refine q_gr (P := 2) X hh ht fk_X7_48 dX7_undo_30 hN hf (fun t13 h14 hf => ?_)
    obtain ⟨v16, hc15, hf⟩ := c1_e hf
    refine q_V (w' := w12) (rest := []) X hml hh (some (.int v16)) (m_X2_undoable l B D hN h14 hc15) cf_X2_undoable k_390 h14 ci_2 rfl rfl hl.1 rfl (Nat.le_of_ble_eq_true rfl) ⟨Nat.le_of_ble_eq_true rfl, Nat.le_of_ble_eq_true rfl⟩ ⟨Nat.zero_le _, Nat.zero_le _⟩ dX7_undo_33 rfl (fun H locs hh => ?_)
    exact e_i X hr hlk hh (so2_e hf) dX7_undo_36
  · have hf := if_t hc5 hf
    refine lv_bipush (v := (-5 : Int32)) hx hb dX7_undo_10 (by decide) ?_
    exact e_i X hr hlk hh (so2_e hf) dX7_undo_12
set_option maxHeartbeats 4000000 in
set_option maxRecDepth 100000 in
theorem m_X7_again (l : Launch) (B : Nat) (D : DD) {n : Nat} (hN : 139 ≤ n) {t : Nat} {w : Wd} {r : Int32} {w' : Wd} (ht : t < n ∧ kd t = 7) (hf : f_X7_again t w = some (r, w')) : Ct l yX7_again cX7_again 1 (some .int) 2 43 0 0 B D [.ref (B + t)] n w (some (.int r)) n w' := by
  refine m_of (by decide) (Nat.le_of_ble_eq_true rfl) (fun p e s m args below meth c X hml hr hlk _ H locs hh ls hl => ?_)
  have hx := X.1
  have hb := X.2.1
  have hl : lv_has ls 1 [(0, .ref (B + t))] := hl
  unfold f_X7_again at hf
  refine lv_aload_n hx hb dX7_again_0 rfl (lv_at hl 0 rfl) ?_
  refine q_gr (P := 2) X hh ht fk_X7_48 dX7_again_1 hN hf (fun t1 h2 hf => ?_)
  obtain ⟨v4, hc3, hf⟩ := c1_e hf
  refine q_V (w' := w) (rest := []) X hml hh (some (.int v4)) (m_X2_redoable l B D hN h2 hc3) cf_X2_redoable k_402 h2 ci_2 rfl rfl hl.1 rfl (Nat.le_of_ble_eq_true rfl) ⟨Nat.le_of_ble_eq_true rfl, Nat.le_of_ble_eq_true rfl⟩ ⟨Nat.zero_le _, Nat.zero_le _⟩ dX7_again_4 rfl (fun H locs hh => ?_)
  refine lv_if_ne (tgt := 13) hx hb dX7_again_7 (by decide) (fun hc5 => ?_) (fun hc5 => ?_)
  · have hf := if_f hc5 hf
    refine lv_aload_n hx hb dX7_again_13 rfl (lv_at hl 0 rfl) ?_
    refine q_gr (P := 2) X hh ht fk_X7_48 dX7_again_14 hN hf (fun t6 h7 hf => ?_)
    refine lv_aload_n hx hb dX7_again_17 rfl (lv_at hl 0 rfl) ?_
    refine q_gr (P := 0) X hh ht fk_X7_14 dX7_again_18 hN hf (fun t8 h9 hf => ?_)
    obtain ⟨w11, hc10, hf⟩ := c1_e hf
    refine q_V (w' := w11) (rest := []) X hml hh none (m_X2_stepOn l B D hN h7 h9 hc10) cf_X2_stepOn k_406 h7 ci_2 rfl rfl hl.1 rfl (Nat.le_of_ble_eq_true rfl) ⟨Nat.le_of_ble_eq_true rfl, Nat.le_of_ble_eq_true rfl⟩ ⟨Nat.zero_le _, Nat.zero_le _⟩ dX7_again_21 rfl (fun H locs hh => ?_)
    refine lv_aload_n hx hb dX7_again_24 rfl (lv_at hl 0 rfl) ?_
    refine lv_iconst (v := (0 : Int32)) hx hb dX7_again_25 (by decide) ?_
    refine q_pi X hh ht fk_X7_35 pk_7_5 rfl rfl dX7_again_26 hf (fun w12 H locs hf hh => ?_)
    refine lv_aload_n hx hb dX7_again_29 rfl (lv_at hl 0 rfl) ?_
    refine q_gr (P := 2) X hh ht fk_X7_48 dX7_again_30 hN hf (fun t13 h14 hf => ?_)
    obtain ⟨v16, hc15, hf⟩ := c1_e hf
    refine q_V (w' := w12) (rest := []) X hml hh (some (.int v16)) (m_X2_redoable l B D hN h14 hc15) cf_X2_redoable k_402 h14 ci_2 rfl rfl hl.1 rfl (Nat.le_of_ble_eq_true rfl) ⟨Nat.le_of_ble_eq_true rfl, Nat.le_of_ble_eq_true rfl⟩ ⟨Nat.zero_le _, Nat.zero_le _⟩ dX7_again_33 rfl (fun H locs hh => ?_)
    exact e_i X hr hlk hh (so2_e hf) dX7_again_36
  · have hf := if_t hc5 hf
    refine lv_bipush (v := (-5 : Int32)) hx hb dX7_again_10 (by decide) ?_
    exact e_i X hr hlk hh (so2_e hf) dX7_again_12
set_option maxHeartbeats 4000000 in
set_option maxRecDepth 100000 in
theorem m_X7_restore (l : Launch) (B : Nat) (D : DD) {n : Nat} (hN : 139 ≤ n) {t : Nat} {w : Wd} {r : Int32} {w' : Wd} (ht : t < n ∧ kd t = 7) (hf : f_X7_restore t w = some (r, w')) : Ct l yX7_restore cX7_restore 1 (some .int) 1 22 0 0 B D [.ref (B + t)] n w (some (.int r)) n w' := by
  refine m_of (by decide) (Nat.le_of_ble_eq_true rfl) (fun p e s m args below meth c X hml hr hlk _ H locs hh ls hl => ?_)
  have hx := X.1
  have hb := X.2.1
  have hl : lv_has ls 1 [(0, .ref (B + t))] := hl
  unfold f_X7_restore at hf
  refine lv_aload_n hx hb dX7_restore_0 rfl (lv_at hl 0 rfl) ?_
  refine r_gi X hh ht fk_X7_24 dX7_restore_1 ?_
  refine lv_if_ne (tgt := 10) hx hb dX7_restore_4 (by decide) (fun hc1 => ?_) (fun hc1 => ?_)
  · have hf := if_f hc1 hf
    refine lv_aload_n hx hb dX7_restore_10 rfl (lv_at hl 0 rfl) ?_
    refine q_gr (P := 0) X hh ht fk_X7_14 dX7_restore_11 hN hf (fun t2 h3 hf => ?_)
    refine lv_aload_n hx hb dX7_restore_14 rfl (lv_at hl 0 rfl) ?_
    refine q_gr (P := 0) X hh ht fk_X7_21 dX7_restore_15 hN hf (fun t4 h5 hf => ?_)
    obtain ⟨w7, hc6, hf⟩ := c1_e hf
    refine q_V (w' := w7) (rest := []) X hml hh none (m_X0_copyFrom l B D hN h3 h5 hc6) cf_X0_copyFrom k_354 h3 ci_0 rfl rfl hl.1 rfl (Nat.le_of_ble_eq_true rfl) ⟨Nat.le_of_ble_eq_true rfl, Nat.le_of_ble_eq_true rfl⟩ ⟨Nat.zero_le _, Nat.zero_le _⟩ dX7_restore_18 rfl (fun H locs hh => ?_)
    refine lv_aload_n hx hb dX7_restore_21 rfl (lv_at hl 0 rfl) ?_
    refine lv_iconst (v := (0 : Int32)) hx hb dX7_restore_22 (by decide) ?_
    refine q_pi X hh ht fk_X7_35 pk_7_5 rfl rfl dX7_restore_23 hf (fun w8 H locs hf hh => ?_)
    refine lv_aload_n hx hb dX7_restore_26 rfl (lv_at hl 0 rfl) ?_
    refine q_gr (P := 2) X hh ht fk_X7_48 dX7_restore_27 hN hf (fun t9 h10 hf => ?_)
    obtain ⟨w12, hc11, hf⟩ := c1_e hf
    refine q_V (w' := w12) (rest := []) X hml hh none (m_X2_forgetAll l B D hN h10 hc11) cf_X2_forgetAll k_414 h10 ci_2 rfl rfl hl.1 rfl (Nat.le_of_ble_eq_true rfl) ⟨Nat.le_of_ble_eq_true rfl, Nat.le_of_ble_eq_true rfl⟩ ⟨Nat.zero_le _, Nat.zero_le _⟩ dX7_restore_30 rfl (fun H locs hh => ?_)
    refine lv_aload_n hx hb dX7_restore_33 rfl (lv_at hl 0 rfl) ?_
    refine q_gr (P := 0) X hh ht fk_X7_14 dX7_restore_34 hN hf (fun t13 h14 hf => ?_)
    obtain ⟨v16, hc15, hf⟩ := c1_e hf
    refine q_V (w' := w12) (rest := []) X hml hh (some (.int v16)) (m_X0_filled l B D hN h14 hc15) cf_X0_filled k_418 h14 ci_0 rfl rfl hl.1 rfl (Nat.le_of_ble_eq_true rfl) ⟨Nat.le_of_ble_eq_true rfl, Nat.le_of_ble_eq_true rfl⟩ ⟨Nat.zero_le _, Nat.zero_le _⟩ dX7_restore_37 rfl (fun H locs hh => ?_)
    exact e_i X hr hlk hh (so2_e hf) dX7_restore_40
  · have hf := if_t hc1 hf
    refine lv_bipush (v := (-5 : Int32)) hx hb dX7_restore_7 (by decide) ?_
    exact e_i X hr hlk hh (so2_e hf) dX7_restore_9
set_option maxHeartbeats 4000000 in
set_option maxRecDepth 100000 in
theorem m_X7_count (l : Launch) (B : Nat) (D : DD) {n : Nat} (hN : 139 ≤ n) {t : Nat} {a0 : Int32} {w : Wd} {r : Int32} (ht : t < n ∧ kd t = 7) (hf : f_X7_count t a0 w = some r) : Ct l yX7_count cX7_count 2 (some .int) 1 22 0 0 B D [.ref (B + t), .int a0] n w (some (.int r)) n w := by
  refine m_of (by decide) (Nat.le_of_ble_eq_true rfl) (fun p e s m args below meth c X hml hr hlk _ H locs hh ls hl => ?_)
  have hx := X.1
  have hb := X.2.1
  have hl : lv_has ls 2 [(0, .ref (B + t)), (1, .int a0)] := hl
  unfold f_X7_count at hf
  refine lv_iload_n hx hb dX7_count_0 rfl (lv_at hl 1 rfl) ?_
  by_cases hc1 : a0.toInt = 0
  · have hf := if_t hc1 hf
    refine lv_tableIn (off := 43) (tgt := 44) hx hb dX7_count_1 (by omega) (by omega) (by rw [hc1]; rfl) (by decide) ?_
    refine lv_aload_n hx hb dX7_count_44 rfl (lv_at hl 0 rfl) ?_
    refine q_gr (P := 0) X hh ht fk_X7_14 dX7_count_45 hN hf (fun t2 h3 hf => ?_)
    refine r_gi X hh h3 fk_X7_70 dX7_count_48 ?_
    exact e_i X hr hlk hh ⟨so_e hf, rfl⟩ dX7_count_51
  · have hf := if_f hc1 hf
    by_cases hc4 : a0.toInt = 1
    · have hf := if_t hc4 hf
      refine lv_tableIn (off := 51) (tgt := 52) hx hb dX7_count_1 (by omega) (by omega) (by rw [hc4]; rfl) (by decide) ?_
      refine lv_aload_n hx hb dX7_count_52 rfl (lv_at hl 0 rfl) ?_
      refine q_gr (P := 0) X hh ht fk_X7_14 dX7_count_53 hN hf (fun t5 h6 hf => ?_)
      refine r_gi X hh h6 fk_X7_74 dX7_count_56 ?_
      exact e_i X hr hlk hh ⟨so_e hf, rfl⟩ dX7_count_59
    · have hf := if_f hc4 hf
      by_cases hc7 : a0.toInt = 2
      · have hf := if_t hc7 hf
        refine lv_tableIn (off := 59) (tgt := 60) hx hb dX7_count_1 (by omega) (by omega) (by rw [hc7]; rfl) (by decide) ?_
        refine lv_aload_n hx hb dX7_count_60 rfl (lv_at hl 0 rfl) ?_
        refine q_gr (P := 0) X hh ht fk_X7_14 dX7_count_61 hN hf (fun t8 h9 hf => ?_)
        refine r_gi X hh h9 fk_X7_102 dX7_count_64 ?_
        exact e_i X hr hlk hh ⟨so_e hf, rfl⟩ dX7_count_67
      · have hf := if_f hc7 hf
        by_cases hc10 : a0.toInt = 3
        · have hf := if_t hc10 hf
          refine lv_tableIn (off := 67) (tgt := 68) hx hb dX7_count_1 (by omega) (by omega) (by rw [hc10]; rfl) (by decide) ?_
          refine lv_aload_n hx hb dX7_count_68 rfl (lv_at hl 0 rfl) ?_
          refine q_gr (P := 2) X hh ht fk_X7_48 dX7_count_69 hN hf (fun t11 h12 hf => ?_)
          obtain ⟨v14, hc13, hf⟩ := c1_e hf
          refine q_V (w' := w) (rest := []) X hml hh (some (.int v14)) (m_X2_undoable l B D hN h12 hc13) cf_X2_undoable k_390 h12 ci_2 rfl rfl hl.1 rfl (Nat.le_of_ble_eq_true rfl) ⟨Nat.le_of_ble_eq_true rfl, Nat.le_of_ble_eq_true rfl⟩ ⟨Nat.zero_le _, Nat.zero_le _⟩ dX7_count_72 rfl (fun H locs hh => ?_)
          exact e_i X hr hlk hh ⟨so_e hf, rfl⟩ dX7_count_75
        · have hf := if_f hc10 hf
          by_cases hc15 : a0.toInt = 4
          · have hf := if_t hc15 hf
            refine lv_tableIn (off := 75) (tgt := 76) hx hb dX7_count_1 (by omega) (by omega) (by rw [hc15]; rfl) (by decide) ?_
            refine lv_aload_n hx hb dX7_count_76 rfl (lv_at hl 0 rfl) ?_
            refine q_gr (P := 2) X hh ht fk_X7_48 dX7_count_77 hN hf (fun t16 h17 hf => ?_)
            obtain ⟨v19, hc18, hf⟩ := c1_e hf
            refine q_V (w' := w) (rest := []) X hml hh (some (.int v19)) (m_X2_redoable l B D hN h17 hc18) cf_X2_redoable k_402 h17 ci_2 rfl rfl hl.1 rfl (Nat.le_of_ble_eq_true rfl) ⟨Nat.le_of_ble_eq_true rfl, Nat.le_of_ble_eq_true rfl⟩ ⟨Nat.zero_le _, Nat.zero_le _⟩ dX7_count_80 rfl (fun H locs hh => ?_)
            exact e_i X hr hlk hh ⟨so_e hf, rfl⟩ dX7_count_83
          · have hf := if_f hc15 hf
            by_cases hc20 : a0.toInt = 5
            · have hf := if_t hc20 hf
              refine lv_tableIn (off := 83) (tgt := 84) hx hb dX7_count_1 (by omega) (by omega) (by rw [hc20]; rfl) (by decide) ?_
              refine lv_aload_n hx hb dX7_count_84 rfl (lv_at hl 0 rfl) ?_
              refine q_gr (P := 6) X hh ht fk_X7_55 dX7_count_85 hN hf (fun t21 h22 hf => ?_)
              refine r_gi X hh h22 fk_X7_205 dX7_count_88 ?_
              exact e_i X hr hlk hh ⟨so_e hf, rfl⟩ dX7_count_91
            · have hf := if_f hc20 hf
              by_cases hc23 : a0.toInt = 6
              · have hf := if_t hc23 hf
                refine lv_tableIn (off := 91) (tgt := 92) hx hb dX7_count_1 (by omega) (by omega) (by rw [hc23]; rfl) (by decide) ?_
                refine lv_aload_n hx hb dX7_count_92 rfl (lv_at hl 0 rfl) ?_
                refine q_gr (P := 0) X hh ht fk_X7_14 dX7_count_93 hN hf (fun t24 h25 hf => ?_)
                obtain ⟨v27, hc26, hf⟩ := c1_e hf
                refine q_V (w' := w) (rest := []) X hml hh (some (.int v27)) (m_X0_total l B D hN h25 hc26) cf_X0_total k_426 h25 ci_0 rfl rfl hl.1 rfl (Nat.le_of_ble_eq_true rfl) ⟨Nat.le_of_ble_eq_true rfl, Nat.le_of_ble_eq_true rfl⟩ ⟨Nat.zero_le _, Nat.zero_le _⟩ dX7_count_96 rfl (fun H locs hh => ?_)
                exact e_i X hr hlk hh ⟨so_e hf, rfl⟩ dX7_count_99
              · have hf := if_f hc23 hf
                refine lv_tableOut (tgt := 100) hx hb dX7_count_1 (by omega) (by decide) ?_
                refine lv_iconst (v := (-1 : Int32)) hx hb dX7_count_100 (by decide) ?_
                exact e_i X hr hlk hh ⟨so_e hf, rfl⟩ dX7_count_101
end
section
set_option maxHeartbeats 4000000 in
set_option maxRecDepth 100000 in
theorem m_L_cell (l : Launch) (B : Nat) (D : DD) {n : Nat} (hN : 139 ≤ n) {b L : Nat} {xs : Nat → Int32} {a1 : Int32} {w : Wd} {r : Int32} (hf : f_L_cell L xs a1 w = some r) : CtX l yL_cell cL_cell 2 (some .int) 0 0 0 0 B D b L xs [.ref b, .int a1] n w (some (.int r)) n w := by
  refine mX_of (by decide) (Nat.le_of_ble_eq_true rfl) (fun p e s m args below meth c X hml hr hlk hX hbl hbA H locs hh ls hl => ?_)
  have hx := X.1
  have hb := X.2.1
  have hl : lv_has ls 2 [(0, .ref b), (1, .int a1)] := hl
  unfold f_L_cell at hf
  refine lv_iload_n hx hb dL_cell_0 rfl (lv_at hl 1 rfl) ?_
  refine lv_aload_n hx hb dL_cell_1 rfl (lv_at hl 0 rfl) ?_
  refine va_slen hx hb hX hbl hbA hh.2 dL_cell_2 ?_
  refine lv_icmp_ge (tgt := 12) hx hb dL_cell_3 (by decide) (fun hc1 => ?_) (fun hc1 => ?_)
  · have hf := if_t hc1 hf
    refine lv_sipush (v := (7919 : Int32)) hx hb dL_cell_12 (by decide) ?_
    refine lv_iload_n hx hb dL_cell_15 rfl (lv_at hl 1 rfl) ?_
    refine lv_imul hx hb dL_cell_16 ?_
    refine lv_bipush (v := (12 : Int32)) hx hb dL_cell_17 (by decide) ?_
    refine lv_iadd hx hb dL_cell_19 ?_
    refine lv_topi (fun x2 e3 => ?_)
    have hf := lt_e e3 hf
    exact e_i X hr hlk hh ⟨so_e hf, rfl⟩ dL_cell_20
  · have hf := if_f hc1 hf
    refine lv_aload_n hx hb dL_cell_6 rfl (lv_at hl 0 rfl) ?_
    refine lv_iload_n hx hb dL_cell_7 rfl (lv_at hl 1 rfl) ?_
    have hz := ix_e hf
    have hf := hz.2
    refine va_sld hx hb hX hbl hbA hh.2 hz.1 dL_cell_8 ?_
    refine lv_topi (fun x5 e6 => ?_)
    have hf := lt_e e6 hf
    refine lv_goto (tgt := 20) hx hb dL_cell_9 (by decide) ?_
    exact e_i X hr hlk hh ⟨so_e hf, rfl⟩ dL_cell_20
set_option maxHeartbeats 4000000 in
set_option maxRecDepth 100000 in
theorem m_L_some (l : Launch) (B : Nat) (D : DD) {n : Nat} (hN : 139 ≤ n) {b L : Nat} {xs : Nat → Int32} {a1 : Int32} {a2 : Int32} {w : Wd} {r : Int32} (hf : f_L_some L xs a1 a2 w = some r) : CtX l yL_some cL_some 3 (some .int) 1 21 0 0 B D b L xs [.ref b, .int a1, .int a2] n w (some (.int r)) n w := by
  refine mX_of (by decide) (Nat.le_of_ble_eq_true rfl) (fun p e s m args below meth c X hml hr hlk hX hbl hbA H locs hh ls hl => ?_)
  have hx := X.1
  have hb := X.2.1
  have hl : lv_has ls 3 [(0, .ref b), (1, .int a1), (2, .int a2)] := hl
  unfold f_L_some at hf
  refine lv_aload_n hx hb dL_some_0 rfl (lv_at hl 0 rfl) ?_
  refine lv_iload_n hx hb dL_some_1 rfl (lv_at hl 1 rfl) ?_
  obtain ⟨v2, hc1, hf⟩ := c1_e hf
  refine q_SX (w' := w) (rest := []) X hml hh hX hbl hbA (some (.int v2)) (m_L_cell l B D hN hc1) cf_L_cell k_436 rfl hl.1 rfl (Nat.le_of_ble_eq_true rfl) ⟨Nat.le_of_ble_eq_true rfl, Nat.le_of_ble_eq_true rfl⟩ ⟨Nat.zero_le _, Nat.zero_le _⟩ dL_some_2 rfl (fun H locs hh => ?_)
  refine lv_iconst (v := (3 : Int32)) hx hb dL_some_5 (by decide) ?_
  refine lv_iushr hx hb dL_some_6 rfl ?_
  refine lv_iload_n hx hb dL_some_7 rfl (lv_at hl 2 rfl) ?_
  have hz := nz_e hf
  have hf := hz.2
  refine lv_irem hx hb dL_some_8 hz.1 ?_
  exact e_i X hr hlk hh ⟨so_e hf, rfl⟩ dL_some_9
set_option maxHeartbeats 4000000 in
set_option maxRecDepth 100000 in
theorem m_L_setUp (l : Launch) (B : Nat) (D : DD) {n : Nat} (hN : 139 ≤ n) {b L : Nat} {xs : Nat → Int32} {a0 : Nat} {a2 : Int32} {w : Wd} {w' : Wd} (ha0 : a0 < n ∧ kd a0 = 7) (hf : f_L_setUp L xs a0 a2 w = some w') : CtX l yL_setUp cL_setUp 7 none 4 87 0 0 B D b L xs [.ref (B + a0), .ref b, .int a2] n w none n w' := by
  refine mX_of (by decide) (Nat.le_of_ble_eq_true rfl) (fun p e s m args below meth c X hml hr hlk hX hbl hbA H locs hh ls hl => ?_)
  have hx := X.1
  have hb := X.2.1
  have hl : lv_has ls 7 [(0, .ref (B + a0)), (1, .ref b), (2, .int a2)] := hl
  unfold f_L_setUp at hf
  refine lv_iconst (v := (1 : Int32)) hx hb dL_setUp_0 (by decide) ?_
  refine lv_aload_n hx hb dL_setUp_1 rfl (lv_at hl 1 rfl) ?_
  refine lv_iload_n hx hb dL_setUp_2 rfl (lv_at hl 2 rfl) ?_
  refine lv_iconst (v := (5 : Int32)) hx hb dL_setUp_3 (by decide) ?_
  obtain ⟨v2, hc1, hf⟩ := c1_e hf
  refine q_SX (w' := w) (rest := [.int (1 : Int32)]) X hml hh hX hbl hbA (some (.int v2)) (m_L_some l B D hN hc1) cf_L_some k_433 rfl hl.1 rfl (Nat.le_of_ble_eq_true rfl) ⟨Nat.le_of_ble_eq_true rfl, Nat.le_of_ble_eq_true rfl⟩ ⟨Nat.zero_le _, Nat.zero_le _⟩ dL_setUp_4 rfl (fun H locs hh => ?_)
  refine lv_iadd hx hb dL_setUp_7 ?_
  refine lv_topi (fun x3 e4 => ?_)
  have hf := lt_e e4 hf
  refine lv_istore_n (lv' := [(3, .int x3), (0, .ref (B + a0)), (1, .ref b), (2, .int a2)]) hx hb dL_setUp_8 rfl hl (by decide) rfl (fun ls hl => ?_)
  refine lv_iconst (v := (1 : Int32)) hx hb dL_setUp_9 (by decide) ?_
  refine lv_aload_n hx hb dL_setUp_10 rfl (lv_at hl 2 rfl) ?_
  refine lv_iload_n hx hb dL_setUp_11 rfl (lv_at hl 3 rfl) ?_
  refine lv_iconst (v := (1 : Int32)) hx hb dL_setUp_12 (by decide) ?_
  refine lv_iadd hx hb dL_setUp_13 ?_
  refine lv_iconst (v := (5 : Int32)) hx hb dL_setUp_14 (by decide) ?_
  obtain ⟨v6, hc5, hf⟩ := c1_e hf
  refine q_SX (w' := w) (rest := [.int (1 : Int32)]) X hml hh hX hbl hbA (some (.int v6)) (m_L_some l B D hN hc5) cf_L_some k_433 rfl hl.1 rfl (Nat.le_of_ble_eq_true rfl) ⟨Nat.le_of_ble_eq_true rfl, Nat.le_of_ble_eq_true rfl⟩ ⟨Nat.zero_le _, Nat.zero_le _⟩ dL_setUp_15 rfl (fun H locs hh => ?_)
  refine lv_iadd hx hb dL_setUp_18 ?_
  refine lv_topi (fun x7 e8 => ?_)
  have hf := lt_e e8 hf
  refine lv_istore (lv' := [(4, .int x7), (3, .int x3), (0, .ref (B + a0)), (1, .ref b), (2, .int a2)]) hx hb dL_setUp_19 hl (by decide) rfl (fun ls hl => ?_)
  refine lv_aload_n hx hb dL_setUp_21 rfl (lv_at hl 2 rfl) ?_
  refine lv_iload_n hx hb dL_setUp_22 rfl (lv_at hl 1 rfl) ?_
  refine lv_iload hx hb dL_setUp_23 (lv_at hl 0 rfl) ?_
  obtain ⟨v10, w11, hc9, hf⟩ := c2_e hf
  refine q_V (w' := w11) (rest := []) X hml hh (some (.int v10)) (m_X7_grid l B D hN ha0 hc9) cf_X7_grid k_439 ha0 ci_7 rfl rfl hl.1 rfl (Nat.le_of_ble_eq_true rfl) ⟨Nat.le_of_ble_eq_true rfl, Nat.le_of_ble_eq_true rfl⟩ ⟨Nat.zero_le _, Nat.zero_le _⟩ dL_setUp_25 rfl (fun H locs hh => ?_)
  refine lv_pop hx hb dL_setUp_28 rfl ?_
  refine lv_iconst (v := (1 : Int32)) hx hb dL_setUp_29 (by decide) ?_
  refine lv_istore (lv' := [(5, .int (1 : Int32)), (4, .int x7), (3, .int x3), (0, .ref (B + a0)), (1, .ref b), (2, .int a2)]) hx hb dL_setUp_30 hl (by decide) rfl (fun ls hl => ?_)
  refine wl2_W (P := fun (x12 : Int32) (w13 : Wd) => ∀ (H : Heap) (locs : List Loc) (ls : Array Slot), Hp B D n w13 s H locs → lv_has ls 7 [(0, .ref (B + a0)), (1, .ref b), (2, .int a2), (3, .int x3), (4, .int x7), (5, .int x12)] → W p l e (rmk 4 87 0 0) s m args below meth c H locs 0 0 (MZ below B D n w' none args s 0 0) (F0 m 32 ls [])) hf (fun x12 w13 k14 ih15 hf  H locs ls hh hl => ?_)  _ _ _ hh (lv_sub hl [3, 4, 5, 2, 1, 0] rfl)
  refine lv_iload hx hb dL_setUp_32 (lv_at hl 5 rfl) ?_
  refine lv_iload_n hx hb dL_setUp_34 rfl (lv_at hl 3 rfl) ?_
  refine lv_icmp_gt (tgt := 103) hx hb dL_setUp_35 (by decide) (fun hc16 => ?_) (fun hc16 => ?_)
  · have hf := if_t hc16 hf
    refine lv_aload_n hx hb dL_setUp_103 rfl (lv_at hl 0 rfl) ?_
    refine lv_aload_n hx hb dL_setUp_104 rfl (lv_at hl 1 rfl) ?_
    refine lv_iload_n hx hb dL_setUp_105 rfl (lv_at hl 2 rfl) ?_
    refine lv_iconst (v := (2 : Int32)) hx hb dL_setUp_106 (by decide) ?_
    refine lv_iadd hx hb dL_setUp_107 ?_
    refine lv_iconst (v := (4 : Int32)) hx hb dL_setUp_108 (by decide) ?_
    obtain ⟨v18, hc17, hf⟩ := c1_e hf
    refine q_SX (w' := w13) (rest := [.ref (B + a0)]) X hml hh hX hbl hbA (some (.int v18)) (m_L_some l B D hN hc17) cf_L_some k_433 rfl hl.1 rfl (Nat.le_of_ble_eq_true rfl) ⟨Nat.le_of_ble_eq_true rfl, Nat.le_of_ble_eq_true rfl⟩ ⟨Nat.zero_le _, Nat.zero_le _⟩ dL_setUp_109 rfl (fun H locs hh => ?_)
    obtain ⟨v20, w21, hc19, hf⟩ := c2_e hf
    refine q_V (w' := w21) (rest := []) X hml hh (some (.int v20)) (m_X7_rule l B D hN ha0 hc19) cf_X7_rule k_210 ha0 ci_7 rfl rfl hl.1 rfl (Nat.le_of_ble_eq_true rfl) ⟨Nat.le_of_ble_eq_true rfl, Nat.le_of_ble_eq_true rfl⟩ ⟨Nat.zero_le _, Nat.zero_le _⟩ dL_setUp_112 rfl (fun H locs hh => ?_)
    refine lv_pop hx hb dL_setUp_115 rfl ?_
    exact e_v X hr hlk hh ⟨rfl, so_e hf⟩ dL_setUp_116
  · have hf := if_f hc16 hf
    refine lv_iconst (v := (1 : Int32)) hx hb dL_setUp_38 (by decide) ?_
    refine lv_istore (lv' := [(6, .int (1 : Int32)), (0, .ref (B + a0)), (1, .ref b), (2, .int a2), (3, .int x3), (4, .int x7), (5, .int x12)]) hx hb dL_setUp_39 hl (by decide) rfl (fun ls hl => ?_)
    refine wl2_W (P := fun (x22 : Int32) (w23 : Wd) => ∀ (H : Heap) (locs : List Loc) (ls : Array Slot), Hp B D n w23 s H locs → lv_has ls 7 [(0, .ref (B + a0)), (1, .ref b), (2, .int a2), (3, .int x3), (4, .int x7), (5, .int x12), (6, .int x22)] → W p l e (rmk 4 87 0 0) s m args below meth c H locs 0 0 (MZ below B D n w' none args s 0 0) (F0 m 41 ls [])) hf (fun x22 w23 k24 ih25 hf  H locs ls hh hl => ?_)  _ _ _ hh (lv_sub hl [1, 2, 3, 4, 5, 6, 0] rfl)
    refine lv_iload hx hb dL_setUp_41 (lv_at hl 6 rfl) ?_
    refine lv_iload hx hb dL_setUp_43 (lv_at hl 4 rfl) ?_
    refine lv_icmp_gt (tgt := 97) hx hb dL_setUp_45 (by decide) (fun hc26 => ?_) (fun hc26 => ?_)
    · have hf := if_t hc26 hf
      obtain ⟨x27, e28⟩ : ∃ y : Int32, y = (x12 + (1 : Int32)) := ⟨_, rfl⟩
      have hf := lt_e e28 hf
      refine lv_iinc (v := x27) (lv' := [(5, .int x27), (0, .ref (B + a0)), (1, .ref b), (2, .int a2), (3, .int x3), (4, .int x7), (6, .int x22)]) hx hb dL_setUp_97 hl (k := 5) rfl (by rw [e28]; rfl) (by decide) rfl (fun ls hl => ?_)
      refine lv_goto (tgt := 32) hx hb dL_setUp_100 (by decide) ?_
      exact ih15 _ _ hf  _ _ _ hh (lv_sub hl [1, 2, 3, 4, 5, 0] rfl)
    · have hf := if_f hc26 hf
      refine lv_aload_n hx hb dL_setUp_48 rfl (lv_at hl 1 rfl) ?_
      refine lv_iload_n hx hb dL_setUp_49 rfl (lv_at hl 2 rfl) ?_
      refine lv_iconst (v := (5 : Int32)) hx hb dL_setUp_50 (by decide) ?_
      refine lv_iload hx hb dL_setUp_51 (lv_at hl 5 rfl) ?_
      refine lv_imul hx hb dL_setUp_53 ?_
      refine lv_iadd hx hb dL_setUp_54 ?_
      refine lv_iload hx hb dL_setUp_55 (lv_at hl 6 rfl) ?_
      refine lv_iadd hx hb dL_setUp_57 ?_
      refine lv_iconst (v := (3 : Int32)) hx hb dL_setUp_58 (by decide) ?_
      obtain ⟨v30, hc29, hf⟩ := c1_e hf
      refine q_SX (w' := w23) (rest := []) X hml hh hX hbl hbA (some (.int v30)) (m_L_some l B D hN hc29) cf_L_some k_433 rfl hl.1 rfl (Nat.le_of_ble_eq_true rfl) ⟨Nat.le_of_ble_eq_true rfl, Nat.le_of_ble_eq_true rfl⟩ ⟨Nat.zero_le _, Nat.zero_le _⟩ dL_setUp_59 rfl (fun H locs hh => ?_)
      refine jn_W (P := fun j33 => ∀ (w32 : Wd), j33 w32 = some w' → ∀ (H : Heap) (locs : List Loc) (ls : Array Slot), Hp B D n w32 s H locs → lv_has ls 7 [(0, .ref (B + a0)), (1, .ref b), (2, .int a2), (3, .int x3), (4, .int x7), (5, .int x12), (6, .int x22)] → W p l e (rmk 4 87 0 0) s m args below meth c H locs 0 0 (MZ below B D n w' none args s 0 0) (F0 m 91 ls [])) hf (fun w32 hf  H locs ls hh hl => ?_) (fun j33 hj33 hf => ?_)
      · obtain ⟨x34, e35⟩ : ∃ y : Int32, y = (x22 + (1 : Int32)) := ⟨_, rfl⟩
        have hf := lt_e e35 hf
        refine lv_iinc (v := x34) (lv' := [(6, .int x34), (0, .ref (B + a0)), (1, .ref b), (2, .int a2), (3, .int x3), (4, .int x7), (5, .int x12)]) hx hb dL_setUp_91 hl (k := 6) rfl (by rw [e35]; rfl) (by decide) rfl (fun ls hl => ?_)
        refine lv_goto (tgt := 41) hx hb dL_setUp_94 (by decide) ?_
        exact ih25 _ _ hf  _ _ _ hh (lv_sub hl [1, 2, 3, 4, 5, 6, 0] rfl)
      · refine lv_if_ne (tgt := 91) hx hb dL_setUp_62 (by decide) (fun hc31 => ?_) (fun hc31 => ?_)
        · have hf := if_f hc31 hf
          exact hj33 _ hf  _ _ _ hh (lv_sub hl [0, 1, 2, 3, 4, 5, 6] rfl)
        · have hf := if_t hc31 hf
          refine lv_aload_n hx hb dL_setUp_65 rfl (lv_at hl 0 rfl) ?_
          refine lv_iload hx hb dL_setUp_66 (lv_at hl 5 rfl) ?_
          refine lv_iload hx hb dL_setUp_68 (lv_at hl 6 rfl) ?_
          refine lv_aload_n hx hb dL_setUp_70 rfl (lv_at hl 1 rfl) ?_
          refine lv_iload_n hx hb dL_setUp_71 rfl (lv_at hl 2 rfl) ?_
          refine lv_bipush (v := (30 : Int32)) hx hb dL_setUp_72 (by decide) ?_
          refine lv_iadd hx hb dL_setUp_74 ?_
          refine lv_iconst (v := (5 : Int32)) hx hb dL_setUp_75 (by decide) ?_
          refine lv_iload hx hb dL_setUp_76 (lv_at hl 5 rfl) ?_
          refine lv_imul hx hb dL_setUp_78 ?_
          refine lv_iadd hx hb dL_setUp_79 ?_
          refine lv_iload hx hb dL_setUp_80 (lv_at hl 6 rfl) ?_
          refine lv_iadd hx hb dL_setUp_82 ?_
          refine lv_iconst (v := (4 : Int32)) hx hb dL_setUp_83 (by decide) ?_
          obtain ⟨v37, hc36, hf⟩ := c1_e hf
          refine q_SX (w' := w23) (rest := [.int x22, .int x12, .ref (B + a0)]) X hml hh hX hbl hbA (some (.int v37)) (m_L_some l B D hN hc36) cf_L_some k_433 rfl hl.1 rfl (Nat.le_of_ble_eq_true rfl) ⟨Nat.le_of_ble_eq_true rfl, Nat.le_of_ble_eq_true rfl⟩ ⟨Nat.zero_le _, Nat.zero_le _⟩ dL_setUp_84 rfl (fun H locs hh => ?_)
          obtain ⟨v39, w40, hc38, hf⟩ := c2_e hf
          refine q_V (w' := w40) (rest := []) X hml hh (some (.int v39)) (m_X7_put l B D hN ha0 hc38) cf_X7_put k_450 ha0 ci_7 rfl rfl hl.1 rfl (Nat.le_of_ble_eq_true rfl) ⟨Nat.le_of_ble_eq_true rfl, Nat.le_of_ble_eq_true rfl⟩ ⟨Nat.zero_le _, Nat.zero_le _⟩ dL_setUp_87 rfl (fun H locs hh => ?_)
          refine lv_pop hx hb dL_setUp_90 rfl ?_
          exact hj33 _ hf  _ _ _ hh (lv_sub hl [0, 1, 2, 3, 4, 5, 6] rfl)
end
section
theorem k_obj1 : Cond.instanceMethod Lib.objectInit ∈ AL := al_mem 22 (by decide +kernel) rfl
theorem k_obj2 : Cond.code Lib.objectInit ⟨#[0xb1]⟩ 1 none ∈ AL := al_mem 23 (by decide +kernel) rfl
/-! makings: a new cell is the next place; its kind is looked up -/
theorem up_r {t a b k : Nat} (h : t < a ∧ kd t = k) (hab : a ≤ b) : t < b ∧ kd t = k := ⟨Nat.lt_of_lt_of_le h.1 hab, h.2⟩
def mk {ρ : Type} (N top k len : Nat) (K : Option ρ) : Option ρ := if N + 1 ≤ top ∧ kd N = k ∧ ln N = len then K else none
def mk2 {ρ : Type} (N top n len : Nat) (K : Option ρ) : Option ρ := if N + 1 + n ≤ top ∧ kd N = 13 ∧ ln N = n ∧ (∀ i, i < n → kd (N + 1 + i) = 9 ∧ ln (N + 1 + i) = len) then K else none
def clr2 (w : Wd) (N n : Nat) : Wd := (fun a b => if N ≤ a ∧ a < N + 1 + n then 0 else w.1 a b, fun a b => if a = N then (if b < n then some (N + 1 + b) else none) else if N ≤ a ∧ a < N + 1 + n then none else w.2 a b)
def ckn {ρ : Type} (N top : Nat) (K : Option ρ) : Option ρ := if N = top then K else none
theorem mk_e {ρ : Type} {N top k len : Nat} {K : Option ρ} {r : ρ} (h : mk N top k len K = some r) : (N + 1 ≤ top ∧ kd N = k ∧ ln N = len) ∧ K = some r := by
  unfold mk at h
  split at h
  · rename_i hc; exact ⟨hc, h⟩
  · cases h
theorem ckn_e {ρ : Type} {N top : Nat} {K : Option ρ} {r : ρ} (h : ckn N top K = some r) : N = top ∧ K = some r := by
  unfold ckn at h
  split at h
  · rename_i hc; exact ⟨hc, h⟩
  · cases h
def CIn (ci : Nat) (q : vw_C) (ty0 : Nat → FieldType) : Prop := (∀ j, j < q.2.2 → parseFieldDescriptor (q.2.1 j).2.2.1 = some (ty0 j)) ∧ (∀ j, j < q.2.2 → defaultValue (ty0 j) = if isRf ci j = true then .null else .int 0) ∧ q.2.2 ≤ 2880
theorem vl_clr {B : Nat} {w : Wd} {N j : Nat} : vl B (clr w N) N j = if isRf (kd N) j = true then .null else .int 0 := by
  unfold vl clr
  by_cases h : isRf (kd N) j = true
  · rw [if_pos h, if_pos h]; simp [va_rf]
  · rw [if_neg h, if_neg h]; simp
section CT
variable {p : Program} {l : Launch} {e : Env} {R : Room} {s : State} {m : MethodId} {args : Array Value} {below : List Frame} {meth : Method} {c : Code} {H : Heap} {locs : List Loc} {cells slots : Nat} {Q : State → Prop}
variable {cc : ByteArray} {pc : Nat} {ls : Array Slot} {rest : List Value} {D : DD} {own : String} {B n0 N : Nat} {w : Wd}
theorem Hp.push {B : Nat} {D : DD} {n : Nat} {w w1 : Wd} {s : State} {H H1 : Heap} {locs : List Loc} {n1 : Nat} (h : Hp B D n w s H locs) (hR : Rep B D n1 w1 H1) (z : H.size ≤ H1.size) (oq : ∀ q : Nat, q < H.size → H1[q]? = H[q]?) : Hp B D n1 w1 s H1 locs :=
  ⟨hR, Nat.le_trans h.2.1 z, fun q h1 h2 => (oq q (Nat.lt_of_lt_of_le h1 h.2.1)).trans (h.2.2.1 q h1 h2), h.2.2.2⟩
theorem r_new {ρ : Type} {z : ρ} {K : Nat → Wd → Option ρ} (X : Cx p s m args c cc own D) (h : Hp B D N w s H locs) {ci idx top : Nat} {q : vw_C} (hq : CI ci q) {ty0 : Nat → FieldType} (hn : CIn ci q ty0) (hcl : Cond.classLink own idx q.1 ∈ AL) (hins : Cond.instantiable q.1 q.2.2 ∈ AL) (hini : Cond.initialized q.1 ∈ AL) (h0 : n0 ≤ N) (hR : top ≤ n0 + R.cells ∧ 2880 * (top - n0) ≤ R.slots) (hdg : decode cc pc = .ok (.new idx, 3)) (hr : mk N top ci 0 (lt2 (N + 1) (clr w N) K) = some z)
    (kk : ∀ (N1 : Nat) (w1 : Wd) (H1 : Heap), N1 = N + 1 → (N < N1 ∧ kd N = ci) → K N1 w1 = some z → Hp B D N1 w1 s H1 locs → W p l e R s m args below meth c H1 locs (N1 - n0) (2880 * (N1 - n0)) Q (F0 m (pc + 3) ls (.ref (B + N) :: rest))) : W p l e R s m args below meth c H locs (N - n0) (2880 * (N - n0)) Q (F0 m pc ls rest) := by
  obtain ⟨⟨ht, hk, hl⟩, hr⟩ := mk_e hr
  have hX := X
  obtain ⟨hx, hb, hown, hts, hK, -⟩ := X
  obtain ⟨hc, hnf, h9, hin, -⟩ := hq
  have hKn := hK.1 ci _ hc
  refine W.newcK hx hb hown (hts _ hcl) (hts _ hins) (hts _ hini) rfl hdg (by omega) (by have := hn.2.2; omega) hKn.2.1 h.1.1 fun H1 kC hkC e1 z1 o1 => ?_
  have hsz : H.size = B + N := h.1.1
  refine W.widen (k := N + 1 - n0) (n := 2880 * (N + 1 - n0)) (by omega) (by have := hn.2.2; omega) ?_
  refine kk _ _ H1 rfl ⟨Nat.lt_succ_self _, hk⟩ hr (h.push (h.1.push (by omega) (fun x hx2 => o1 x hx2) ⟨fun _ => ?_, fun a1 _ => by rw [hk] at a1; omega⟩) (by omega) (fun x hx2 => o1 x (by omega)))
  rw [hk, hnf]
  refine (u_born ty0 hts hin hKn hkC e1 hn.1).to (fun j hj => ?_)
  rw [vl_clr, hk]
  exact hn.2.1 j hj
theorem r_newa {ρ : Type} {z : ρ} {K : Nat → Wd → Option ρ} (X : Cx p s m args c cc own D) (h : Hp B D N w s H locs) {top len : Nat} {x : Int32} (hw : Cond.arrayClass .int ∈ AL) (hx0 : ¬ x < 0) (hxl : x.toNatClampNeg = len) (hlen : len ≤ 2880) (h0 : n0 ≤ N) (hR : top ≤ n0 + R.cells ∧ 2880 * (top - n0) ≤ R.slots) (hdg : decode cc pc = .ok (.newarray .int, 2)) (hr : mk N top 9 len (lt2 (N + 1) (clr w N) K) = some z)
    (kk : ∀ (N1 : Nat) (w1 : Wd) (H1 : Heap), N1 = N + 1 → (N < N1 ∧ kd N = 9) → K N1 w1 = some z → Hp B D N1 w1 s H1 locs → W p l e R s m args below meth c H1 locs (N1 - n0) (2880 * (N1 - n0)) Q (F0 m (pc + 2) ls (.ref (B + N) :: rest))) : W p l e R s m args below meth c H locs (N - n0) (2880 * (N - n0)) Q (F0 m pc ls (.int x :: rest)) := by
  obtain ⟨⟨ht, hk, hl⟩, hr⟩ := mk_e hr
  obtain ⟨hx, hb, hown, hts, hK, hA, -⟩ := X
  have hsz : H.size = B + N := h.1.1
  refine va_newaK (atype := .int) hx hb (hts _ hw) rfl hdg rfl hx0 hxl (by show len * 4 ≤ _; omega) (by omega) (by omega) h.1.1 fun H1 cA e1 z1 o1 _ hcn => ?_
  have hcA : cA = D.2 9 := Option.some.inj (hcn.symm.trans (hA 9 (by decide) (by decide)).2)
  refine W.widen (k := N + 1 - n0) (n := 2880 * (N + 1 - n0)) (by omega) (by omega) ?_
  refine kk _ _ H1 rfl ⟨Nat.lt_succ_self _, hk⟩ hr (h.push (h.1.push (by omega) (fun x hx2 => o1 x hx2) ⟨fun a1 => by rw [hk] at a1; omega, fun _ _ => ?_⟩) (by omega) (fun x hx2 => o1 x (by omega)))
  rw [e1, hcA, hk, hl]
  refine congrArg (fun f => some (arrV (D.2 9) len f)) (funext fun j => ?_)
  rw [vl_clr, hk]; rfl
theorem r_newq {ρ : Type} {z : ρ} {K : Nat → Wd → Option ρ} (X : Cx p s m args c cc own D) (h : Hp B D N w s H locs) {top len ka idx : Nat} {C : String} {x : Int32} (hcl : Cond.classLink own idx C ∈ AL) (hka : 10 ≤ ka ∧ ka < 13) (hel : aty ka = .object C) (hao : va_AO C s) (hx0 : ¬ x < 0) (hxl : x.toNatClampNeg = len) (hlen : len ≤ 2880) (h0 : n0 ≤ N) (hR : top ≤ n0 + R.cells ∧ 2880 * (top - n0) ≤ R.slots) (hdg : decode cc pc = .ok (.anewarray idx, 3)) (hr : mk N top ka len (lt2 (N + 1) (clr w N) K) = some z)
    (kk : ∀ (N1 : Nat) (w1 : Wd) (H1 : Heap), N1 = N + 1 → (N < N1 ∧ kd N = ka) → K N1 w1 = some z → Hp B D N1 w1 s H1 locs → W p l e R s m args below meth c H1 locs (N1 - n0) (2880 * (N1 - n0)) Q (F0 m (pc + 3) ls (.ref (B + N) :: rest))) : W p l e R s m args below meth c H locs (N - n0) (2880 * (N - n0)) Q (F0 m pc ls (.int x :: rest)) := by
  obtain ⟨⟨ht, hk, hl⟩, hr2⟩ := mk_e hr
  obtain ⟨hx, hb, hown, hts, hK, hA, -⟩ := X
  have hsz : H.size = B + N := h.1.1
  subst hxl
  refine W.anew hx hb hown (hts _ hcl) (va_AO.use hao) rfl hdg rfl hx0 (by omega) (by omega) (by omega) fun cA kA comp f1 f2 f3 f4 => ?_
  generalize hH1 : H.push ({ cls := cA, slots := Array.replicate x.toNatClampNeg .null, vm := .none } : Cell) = H1
  have z1 : H1.size = H.size + 1 := by rw [← hH1, Array.size_push]
  have e1 : H1[H.size]? = some (arrV cA x.toNatClampNeg (fun _ => .null)) := by rw [← hH1, Array.getElem?_push_size, ← arrV_new]
  have o1 : ∀ q : Nat, q < H.size → H1[q]? = H[q]? := fun q hq => by rw [← hH1, Array.getElem?_push, if_neg (Nat.ne_of_lt hq)]
  have hRA := (hA ka (by omega) (by omega)).2
  rw [hel] at hRA
  obtain ⟨kA2, comp2, -, -, -, g4⟩ := hRA
  have hcA : cA = D.2 ka := Option.some.inj (f1.symm.trans g4)
  refine W.widen (k := N + 1 - n0) (n := 2880 * (N + 1 - n0)) (by omega) (by omega) ?_
  rw [hsz]
  refine kk _ _ H1 rfl ⟨Nat.lt_succ_self _, hk⟩ hr2 (h.push (h.1.push (by omega) (fun x hx2 => o1 x (by omega)) ⟨fun a1 => by rw [hk] at a1; omega, fun _ _ => ?_⟩) (by omega) (fun x hx2 => o1 x (by omega)))
  rw [← hsz, e1, hcA, hk, hl]
  refine congrArg (fun f => some (arrV (D.2 ka) x.toNatClampNeg f)) (funext fun j => ?_)
  have hrf : isRf ka j = true := by
    unfold isRf
    rw [if_neg (by omega)]
    exact decide_eq_true hka.1
  rw [vl_clr, hk, if_pos hrf]
theorem q_prF {ρ : Type} {z : ρ} {K : Wd → Option ρ} (X : Cx p s m args c cc own D) (h : Hp B D N w s H locs) {t ci j idx : Nat} {ty : FieldType} (ht : t < N ∧ kd t = ci) (hf : FK own idx ci j true) (hp : PKf ci j true ty) (hin2 : meth.name = "<init>") (hcl : ∀ q : vw_C, vwCl[ci]? = some q → q.1 = own) {x : Nat} (hnv : ∀ a : Nat, narrow ty (.ref a) = .ref a ∧ fits ty (.ref a) = true) (hdg : decode cc pc = .ok (.putfield idx, 3)) (hr : lt (upR w t j x) K = some z)
    (kk : ∀ (w1 : Wd) (H1 : Heap) (locs1 : List Loc), K w1 = some z → Hp B D N w1 s H1 locs1 → W p l e R s m args below meth c H1 locs1 cells slots Q (F0 m (pc + 3) ls rest)) : W p l e R s m args below meth c H locs cells slots Q (F0 m pc ls (.ref (B + x) :: .ref (B + t) :: rest)) :=
  r_prF X h ht hf hp hin2 hcl hnv hdg (fun H1 l1 h1 => kk _ H1 l1 hr h1)
theorem q_I {ρ : Type} {z : ρ} {K : Nat → Wd → Option ρ} {nL : Nat} (X : Cx p s m args c cc own D) (hml : c.maxLocals = nL) (h : Hp B D N w s H locs) {y : MethodName} {bytes : ByteArray} {maxL fr lo cX t idx : Nat} {w' : Wd} (hy1 : y.name = "<init>")
    (hM : Ct l y bytes maxL none fr lo cX (2880 * cX) B D [.ref (B + t)] N w none (N + cX) w') (hF : CFi y bytes maxL none 0) (hl : Cond.methodLink own idx y ∈ AL) (hls : ls.size = nL) (hW : (rest.map fun v => v.category).sum ≤ 8) (hR : fr + 1 ≤ R.frames ∧ 8 + (maxL + 11) + lo ≤ R.locals) (h0 : n0 ≤ N) {top : Nat} (hR2 : top ≤ n0 + R.cells ∧ 2880 * (top - n0) ≤ R.slots) (hdg : decode cc pc = .ok (.invokespecial idx, 3)) (hr : (if N + cX ≤ top then lt2 (N + cX) w' K else none) = some z)
    (kk : ∀ (N1 : Nat) (w1 : Wd) (H1 : Heap) (locs1 : List Loc), N1 = N + cX → K N1 w1 = some z → Hp B D N1 w1 s H1 locs1 → W p l e R s m args below meth c H1 locs1 (N1 - n0) (2880 * (N1 - n0)) Q (F0 m (pc + 3) ls rest)) : W p l e R s m args below meth c H locs (N - n0) (2880 * (N - n0)) Q (F0 m pc ls (.ref (B + t) :: rest)) := by
  by_cases htop : N + cX ≤ top
  · have hr := (if_pos htop).symm.trans hr
    exact kI X hml h (As := []) hy1 hM hF hl rfl hls rfl hW hR ⟨by omega, by omega⟩ hdg (fun H1 l1 h1 => W.widen (k := N + cX - n0) (n := 2880 * (N + cX - n0)) (by omega) (by omega) (kk _ _ H1 l1 rfl hr h1))
  · rw [if_neg htop] at hr; cases hr
theorem q_obj (X : Cx p s m args c cc own D) {nL idx : Nat} (hml : c.maxLocals = nL) (hls : ls.size = nL) (hl : Cond.methodLink own idx Lib.objectInit ∈ AL) (hR : 1 ≤ R.frames ∧ 20 ≤ R.locals) (hdg : decode cc pc = .ok (.invokespecial idx, 3)) {a : Nat}
    (kk : W p l e R s m args below meth c H locs cells slots Q (F0 m (pc + 3) ls [])) : W p l e R s m args below meth c H locs cells slots Q (F0 m pc ls [.ref a]) :=
  W.objInit X.1 X.2.1 X.2.2.1 (X.2.2.2.1 _ hl) (X.2.2.2.1 _ k_obj1) (X.2.2.2.1 _ k_obj2) rfl (by rw [hml]; exact hls) rfl hdg hR.1 (by show 2 * 0 + 0 + 12 ≤ _; omega) (W.eq rfl kk)
end CT

theorem cin_0 : CIn 0 ("GrowthGrid$Cells", TX0, 4) tyX0 := ⟨tyX0_ok, by decide +kernel, by decide⟩
theorem cin_1 : CIn 1 ("GrowthGrid$Corners", TX1, 6) tyX1 := ⟨tyX1_ok, by decide +kernel, by decide⟩
theorem cin_2 : CIn 2 ("GrowthGrid$Deeds", TX2, 3) tyX2 := ⟨tyX2_ok, by decide +kernel, by decide⟩
theorem cin_3 : CIn 3 ("GrowthGrid$Holder", TX3, 4) tyX3 := ⟨tyX3_ok, by decide +kernel, by decide⟩
theorem cin_4 : CIn 4 ("GrowthGrid$RowSearch", TX4, 1) tyX4 := ⟨tyX4_ok, by decide +kernel, by decide⟩
theorem cin_5 : CIn 5 ("GrowthGrid$Shape", TX5, 3) tyX5 := ⟨tyX5_ok, by decide +kernel, by decide⟩
theorem cin_6 : CIn 6 ("GrowthGrid$Tape", TX6, 2) tyX6 := ⟨tyX6_ok, by decide +kernel, by decide⟩
theorem cin_7 : CIn 7 ("GrowthGrid", TX7, 10) tyX7 := ⟨tyX7_ok, by decide +kernel, by decide⟩
def f_X5_init (t n : Nat) (w : Wd) : Option Wd := mk n (n + 1) 9 75 (lt2 (n + 1) (clr w n) (fun n1 w2 => lt (upR w2 t 0 n) (fun w5 => lt (upI w5 t 1 (0 : Int32)) (fun w6 => lt (upI w6 t 2 (0 : Int32)) (fun w7 => ckn n1 (n + 1) (some w7))))))
set_option maxHeartbeats 4000000 in
set_option maxRecDepth 100000 in
theorem m_X5_init (l : Launch) (B : Nat) (D : DD) {t n : Nat} {w w' : Wd} (ht : t < n ∧ kd t = 5) (hf : f_X5_init t n w = some w') : Ct l yX5_init cX5_init 1 none 1 20 1 2880 B D [.ref (B + t)] n w none (n + 1) w' := by
  refine m_of (by decide) (Nat.le_of_ble_eq_true rfl) (fun p e s m args below meth c X hml hr hlk hin H locs hh ls hl => ?_)
  have hx := X.1
  have hb := X.2.1
  have hl : lv_has ls 1 [(0, .ref (B + t))] := hl
  have hRR : n + 1 ≤ n + (rmk 1 20 1 2880).cells ∧ 2880 * (n + 1 - n) ≤ (rmk 1 20 1 2880).slots := ⟨Nat.le_refl _, by show 2880 * (n + 1 - n) ≤ 2880; omega⟩
  refine W.widen (k := n - n) (n := 2880 * (n - n)) (Nat.zero_le _) (Nat.zero_le _) ?_
  unfold f_X5_init at hf
  refine lv_aload_n hx hb dX5_init_0 rfl (lv_at hl 0 rfl) ?_
  refine q_obj X hml hl.1 k_64 ⟨Nat.le_of_ble_eq_true rfl, Nat.le_of_ble_eq_true rfl⟩ dX5_init_1 ?_
  refine lv_aload_n hx hb dX5_init_4 rfl (lv_at hl 0 rfl) ?_
  refine lv_bipush (v := (75 : Int32)) hx hb dX5_init_5 (by decide) ?_
  refine r_newa (n0 := n) (len := 75) X hh k_51 (by decide) (by decide) (by decide) (by omega) hRR dX5_init_7 hf (fun n1 w2 H e3 h4 hf hh => ?_)
  refine q_prF X hh (up_r ht (by omega)) fk_X5_9 pk_5_0 hin (fun q h => by cases h; rfl) (fun _ => ⟨rfl, rfl⟩) dX5_init_9 hf (fun w5 H locs hf hh => ?_)
  refine lv_aload_n hx hb dX5_init_12 rfl (lv_at hl 0 rfl) ?_
  refine lv_iconst (v := (0 : Int32)) hx hb dX5_init_13 (by decide) ?_
  refine q_pi X hh (up_r ht (by omega)) fk_X5_15 pk_5_1 rfl rfl dX5_init_14 hf (fun w6 H locs hf hh => ?_)
  refine lv_aload_n hx hb dX5_init_17 rfl (lv_at hl 0 rfl) ?_
  refine lv_iconst (v := (0 : Int32)) hx hb dX5_init_18 (by decide) ?_
  refine q_pi X hh (up_r ht (by omega)) fk_X5_19 pk_5_2 rfl rfl dX5_init_19 hf (fun w7 H locs hf hh => ?_)
  have hz := ckn_e hf
  refine W.widen (k := 1) (n := 2880) (by omega) (by omega) ?_
  exact e_v X hr hlk hh ⟨hz.1, so_e hz.2⟩ dX5_init_22
def f_X0_init (t n : Nat) (w : Wd) : Option Wd := lt (upI w t 0 (3 : Int32)) (fun w1 => lt (upI w1 t 1 (3 : Int32)) (fun w2 => lt (upI w2 t 2 (0 : Int32)) (fun w3 => mk n (n + 1) 9 25 (lt2 (n + 1) (clr w3 n) (fun n4 w5 => lt (upR w5 t 3 n) (fun w8 => ckn n4 (n + 1) (some w8)))))))
set_option maxHeartbeats 4000000 in
set_option maxRecDepth 100000 in
theorem m_X0_init (l : Launch) (B : Nat) (D : DD) {t n : Nat} {w w' : Wd} (ht : t < n ∧ kd t = 0) (hf : f_X0_init t n w = some w') : Ct l yX0_init cX0_init 1 none 1 20 1 2880 B D [.ref (B + t)] n w none (n + 1) w' := by
  refine m_of (by decide) (Nat.le_of_ble_eq_true rfl) (fun p e s m args below meth c X hml hr hlk hin H locs hh ls hl => ?_)
  have hx := X.1
  have hb := X.2.1
  have hl : lv_has ls 1 [(0, .ref (B + t))] := hl
  have hRR : n + 1 ≤ n + (rmk 1 20 1 2880).cells ∧ 2880 * (n + 1 - n) ≤ (rmk 1 20 1 2880).slots := ⟨Nat.le_refl _, by show 2880 * (n + 1 - n) ≤ 2880; omega⟩
  refine W.widen (k := n - n) (n := 2880 * (n - n)) (Nat.zero_le _) (Nat.zero_le _) ?_
  unfold f_X0_init at hf
  refine lv_aload_n hx hb dX0_init_0 rfl (lv_at hl 0 rfl) ?_
  refine q_obj X hml hl.1 k_29 ⟨Nat.le_of_ble_eq_true rfl, Nat.le_of_ble_eq_true rfl⟩ dX0_init_1 ?_
  refine lv_aload_n hx hb dX0_init_4 rfl (lv_at hl 0 rfl) ?_
  refine lv_iconst (v := (3 : Int32)) hx hb dX0_init_5 (by decide) ?_
  refine q_pi X hh ht fk_X0_9 pk_0_0 rfl rfl dX0_init_6 hf (fun w1 H locs hf hh => ?_)
  refine lv_aload_n hx hb dX0_init_9 rfl (lv_at hl 0 rfl) ?_
  refine lv_iconst (v := (3 : Int32)) hx hb dX0_init_10 (by decide) ?_
  refine q_pi X hh ht fk_X0_15 pk_0_1 rfl rfl dX0_init_11 hf (fun w2 H locs hf hh => ?_)
  refine lv_aload_n hx hb dX0_init_14 rfl (lv_at hl 0 rfl) ?_
  refine lv_iconst (v := (0 : Int32)) hx hb dX0_init_15 (by decide) ?_
  refine q_pi X hh ht fk_X0_18 pk_0_2 rfl rfl dX0_init_16 hf (fun w3 H locs hf hh => ?_)
  refine lv_aload_n hx hb dX0_init_19 rfl (lv_at hl 0 rfl) ?_
  refine lv_bipush (v := (25 : Int32)) hx hb dX0_init_20 (by decide) ?_
  refine r_newa (n0 := n) (len := 25) X hh k_51 (by decide) (by decide) (by decide) (by omega) hRR dX0_init_22 hf (fun n4 w5 H e6 h7 hf hh => ?_)
  refine q_prF X hh (up_r ht (by omega)) fk_X0_21 pk_0_3 hin (fun q h => by cases h; rfl) (fun _ => ⟨rfl, rfl⟩) dX0_init_24 hf (fun w8 H locs hf hh => ?_)
  have hz := ckn_e hf
  refine W.widen (k := 1) (n := 2880) (by omega) (by omega) ?_
  exact e_v X hr hlk hh ⟨hz.1, so_e hz.2⟩ dX0_init_27
def f_X6_init (t n : Nat) (w : Wd) : Option Wd := mk n (n + 1) 9 60 (lt2 (n + 1) (clr w n) (fun n1 w2 => lt (upR w2 t 0 n) (fun w5 => lt (upI w5 t 1 (0 : Int32)) (fun w6 => ckn n1 (n + 1) (some w6)))))
set_option maxHeartbeats 4000000 in
set_option maxRecDepth 100000 in
theorem m_X6_init (l : Launch) (B : Nat) (D : DD) {t n : Nat} {w w' : Wd} (ht : t < n ∧ kd t = 6) (hf : f_X6_init t n w = some w') : Ct l yX6_init cX6_init 1 none 1 20 1 2880 B D [.ref (B + t)] n w none (n + 1) w' := by
  refine m_of (by decide) (Nat.le_of_ble_eq_true rfl) (fun p e s m args below meth c X hml hr hlk hin H locs hh ls hl => ?_)
  have hx := X.1
  have hb := X.2.1
  have hl : lv_has ls 1 [(0, .ref (B + t))] := hl
  have hRR : n + 1 ≤ n + (rmk 1 20 1 2880).cells ∧ 2880 * (n + 1 - n) ≤ (rmk 1 20 1 2880).slots := ⟨Nat.le_refl _, by show 2880 * (n + 1 - n) ≤ 2880; omega⟩
  refine W.widen (k := n - n) (n := 2880 * (n - n)) (Nat.zero_le _) (Nat.zero_le _) ?_
  unfold f_X6_init at hf
  refine lv_aload_n hx hb dX6_init_0 rfl (lv_at hl 0 rfl) ?_
  refine q_obj X hml hl.1 k_132 ⟨Nat.le_of_ble_eq_true rfl, Nat.le_of_ble_eq_true rfl⟩ dX6_init_1 ?_
  refine lv_aload_n hx hb dX6_init_4 rfl (lv_at hl 0 rfl) ?_
  refine lv_bipush (v := (60 : Int32)) hx hb dX6_init_5 (by decide) ?_
  refine r_newa (n0 := n) (len := 60) X hh k_51 (by decide) (by decide) (by decide) (by omega) hRR dX6_init_7 hf (fun n1 w2 H e3 h4 hf hh => ?_)
  refine q_prF X hh (up_r ht (by omega)) fk_X6_9 pk_6_0 hin (fun q h => by cases h; rfl) (fun _ => ⟨rfl, rfl⟩) dX6_init_9 hf (fun w5 H locs hf hh => ?_)
  refine lv_aload_n hx hb dX6_init_12 rfl (lv_at hl 0 rfl) ?_
  refine lv_iconst (v := (0 : Int32)) hx hb dX6_init_13 (by decide) ?_
  refine q_pi X hh (up_r ht (by omega)) fk_X6_15 pk_6_1 rfl rfl dX6_init_14 hf (fun w6 H locs hf hh => ?_)
  have hz := ckn_e hf
  refine W.widen (k := 1) (n := 2880) (by omega) (by omega) ?_
  exact e_v X hr hlk hh ⟨hz.1, so_e hz.2⟩ dX6_init_17
def f_X3_init (t n : Nat) (w : Wd) : Option Wd := lt (upI w t 0 (0 : Int32)) (fun w1 => mk n (n + 3) 5 0 (lt2 (n + 1) (clr w1 n) (fun n2 w3 => c1 (f_X5_init n n2 w3) (fun w8 => if n2 + 1 ≤ (n + 3) then lt2 (n2 + 1) w8 (fun n6 w7 => lt (upR w7 t 1 n) (fun w11 => mk n6 (n + 3) 9 30 (lt2 (n6 + 1) (clr w11 n6) (fun n12 w13 => lt (upR w13 t 2 n6) (fun w16 => lt (upI w16 t 3 (0 : Int32)) (fun w17 => ckn n12 (n + 3) (some w17))))))) else none))))
set_option maxHeartbeats 4000000 in
set_option maxRecDepth 100000 in
theorem m_X3_init (l : Launch) (B : Nat) (D : DD) {t n : Nat} {w w' : Wd} (ht : t < n ∧ kd t = 3) (hf : f_X3_init t n w = some w') : Ct l yX3_init cX3_init 1 none 2 40 3 8640 B D [.ref (B + t)] n w none (n + 3) w' := by
  refine m_of (by decide) (Nat.le_of_ble_eq_true rfl) (fun p e s m args below meth c X hml hr hlk hin H locs hh ls hl => ?_)
  have hx := X.1
  have hb := X.2.1
  have hl : lv_has ls 1 [(0, .ref (B + t))] := hl
  have hRR : n + 3 ≤ n + (rmk 2 40 3 8640).cells ∧ 2880 * (n + 3 - n) ≤ (rmk 2 40 3 8640).slots := ⟨Nat.le_refl _, by show 2880 * (n + 3 - n) ≤ 8640; omega⟩
  refine W.widen (k := n - n) (n := 2880 * (n - n)) (Nat.zero_le _) (Nat.zero_le _) ?_
  unfold f_X3_init at hf
  refine lv_aload_n hx hb dX3_init_0 rfl (lv_at hl 0 rfl) ?_
  refine q_obj X hml hl.1 k_147 ⟨Nat.le_of_ble_eq_true rfl, Nat.le_of_ble_eq_true rfl⟩ dX3_init_1 ?_
  refine lv_aload_n hx hb dX3_init_4 rfl (lv_at hl 0 rfl) ?_
  refine lv_iconst (v := (0 : Int32)) hx hb dX3_init_5 (by decide) ?_
  refine q_pi X hh ht fk_X3_9 pk_3_0 rfl rfl dX3_init_6 hf (fun w1 H locs hf hh => ?_)
  refine lv_aload_n hx hb dX3_init_9 rfl (lv_at hl 0 rfl) ?_
  refine r_new (n0 := n) X hh ci_5 cin_5 k_148 k_60 k_10 (by omega) hRR dX3_init_10 hf (fun n2 w3 H e4 h5 hf hh => ?_)
  refine lv_dup hx hb dX3_init_13 rfl ?_
  obtain ⟨w8, hc10, hf⟩ := c1_e hf
  refine q_I (n0 := n) (rest := [.ref (B + n), .ref (B + t)]) X hml hh rfl (m_X5_init l B D h5 hc10) cf_X5_init k_149 hl.1 (Nat.le_of_ble_eq_true rfl) ⟨Nat.le_of_ble_eq_true rfl, Nat.le_of_ble_eq_true rfl⟩ (by omega) hRR dX3_init_14 hf (fun n6 w7 H locs e9 hf hh => ?_)
  refine q_prF X hh (up_r ht (by omega)) fk_X3_18 pk_3_1 hin (fun q h => by cases h; rfl) (fun _ => ⟨rfl, rfl⟩) dX3_init_17 hf (fun w11 H locs hf hh => ?_)
  refine lv_aload_n hx hb dX3_init_20 rfl (lv_at hl 0 rfl) ?_
  refine lv_bipush (v := (30 : Int32)) hx hb dX3_init_21 (by decide) ?_
  refine r_newa (n0 := n) (len := 30) X hh k_51 (by decide) (by decide) (by decide) (by omega) hRR dX3_init_23 hf (fun n12 w13 H e14 h15 hf hh => ?_)
  refine q_prF X hh (up_r ht (by omega)) fk_X3_22 pk_3_2 hin (fun q h => by cases h; rfl) (fun _ => ⟨rfl, rfl⟩) dX3_init_25 hf (fun w16 H locs hf hh => ?_)
  refine lv_aload_n hx hb dX3_init_28 rfl (lv_at hl 0 rfl) ?_
  refine lv_iconst (v := (0 : Int32)) hx hb dX3_init_29 (by decide) ?_
  refine q_pi X hh (up_r ht (by omega)) fk_X3_26 pk_3_3 rfl rfl dX3_init_30 hf (fun w17 H locs hf hh => ?_)
  have hz := ckn_e hf
  refine W.widen (k := 3) (n := 8640) (by omega) (by omega) ?_
  exact e_v X hr hlk hh ⟨hz.1, so_e hz.2⟩ dX3_init_33
def f_X2_init (t n : Nat) (w : Wd) : Option Wd := mk n (n + 19) 10 9 (lt2 (n + 1) (clr w n) (fun n1 w2 => lt (upR w2 t 0 n) (fun w5 => wl3 (fun (x6 : Int32) (w7 : Wd) (n8 : Nat) k10 => (if (8 : Int32) < x6 then lt (upI w7 t 1 (0 : Int32)) (fun w13 => lt (upI w13 t 2 (0 : Int32)) (fun w14 => ckn n8 (n + 19) (some w14))) else rf n8 (w7.2 t 0) 10 (fun t15 => mk n8 (n + 19) 0 0 (lt2 (n8 + 1) (clr w7 n8) (fun n17 w18 => c1 (f_X0_init n8 n17 w18) (fun w23 => if n17 + 1 ≤ (n + 19) then lt2 (n17 + 1) w23 (fun n21 w22 => ix x6 (ln t15) (fun j26 => lt (upR w22 t15 j26 n8) (fun w27 => lt (x6 + (1 : Int32)) (fun x28 => k10 x28 w27 n21)))) else none)))))) fu (0 : Int32) w5 n1)))
set_option maxHeartbeats 4000000 in
set_option maxRecDepth 100000 in
theorem m_X2_init (l : Launch) (B : Nat) (D : DD) {t n : Nat} {w w' : Wd} (ht : t < n ∧ kd t = 2) (hf : f_X2_init t n w = some w') : Ct l yX2_init cX2_init 2 none 2 40 19 54720 B D [.ref (B + t)] n w none (n + 19) w' := by
  refine m_of (by decide) (Nat.le_of_ble_eq_true rfl) (fun p e s m args below meth c X hml hr hlk hin H locs hh ls hl => ?_)
  have hx := X.1
  have hb := X.2.1
  have hl : lv_has ls 2 [(0, .ref (B + t))] := hl
  have hRR : n + 19 ≤ n + (rmk 2 40 19 54720).cells ∧ 2880 * (n + 19 - n) ≤ (rmk 2 40 19 54720).slots := ⟨Nat.le_refl _, by show 2880 * (n + 19 - n) ≤ 54720; omega⟩
  refine W.widen (k := n - n) (n := 2880 * (n - n)) (Nat.zero_le _) (Nat.zero_le _) ?_
  unfold f_X2_init at hf
  refine lv_aload_n hx hb dX2_init_0 rfl (lv_at hl 0 rfl) ?_
  refine q_obj X hml hl.1 k_113 ⟨Nat.le_of_ble_eq_true rfl, Nat.le_of_ble_eq_true rfl⟩ dX2_init_1 ?_
  refine lv_aload_n hx hb dX2_init_4 rfl (lv_at hl 0 rfl) ?_
  refine lv_bipush (v := (9 : Int32)) hx hb dX2_init_5 (by decide) ?_
  refine r_newq (n0 := n) (len := 9) (ka := 10) X hh k_114 ⟨by decide, by decide⟩ rfl X.2.2.2.2.2.2.1 (by decide) (by decide) (by decide) (by omega) hRR dX2_init_7 hf (fun n1 w2 H e3 h4 hf hh => ?_)
  refine q_prF X hh (up_r ht (by omega)) fk_X2_11 pk_2_0 hin (fun q h => by cases h; rfl) (fun _ => ⟨rfl, rfl⟩) dX2_init_10 hf (fun w5 H locs hf hh => ?_)
  refine lv_iconst (v := (0 : Int32)) hx hb dX2_init_13 (by decide) ?_
  refine lv_istore_n (lv' := [(1, .int (0 : Int32)), (0, .ref (B + t))]) hx hb dX2_init_14 rfl hl (by decide) rfl (fun ls hl => ?_)
  refine wl3_W (P := fun (x6 : Int32) (w7 : Wd) (n8 : Nat) => n ≤ n8 → ∀ (H : Heap) (locs : List Loc) (ls : Array Slot), Hp B D n8 w7 s H locs → lv_has ls 2 [(0, .ref (B + t)), (1, .int x6)] → W p l e (rmk 2 40 19 54720) s m args below meth c H locs (n8 - n) (2880 * (n8 - n)) (MZ below B D (n + 19) w' none args s 19 54720) (F0 m 15 ls [])) hf (fun x6 w7 n8 k10 ih11 hf hn9 H locs ls hh hl => ?_) (by omega) _ _ _ hh (lv_sub hl [1, 0] rfl)
  refine lv_iload_n hx hb dX2_init_15 rfl (lv_at hl 1 rfl) ?_
  refine lv_bipush (v := (8 : Int32)) hx hb dX2_init_16 (by decide) ?_
  refine lv_icmp_gt (tgt := 40) hx hb dX2_init_18 (by decide) (fun hc12 => ?_) (fun hc12 => ?_)
  · have hf := if_t hc12 hf
    refine lv_aload_n hx hb dX2_init_40 rfl (lv_at hl 0 rfl) ?_
    refine lv_iconst (v := (0 : Int32)) hx hb dX2_init_41 (by decide) ?_
    refine q_pi X hh (up_r ht (by omega)) fk_X2_18 pk_2_1 rfl rfl dX2_init_42 hf (fun w13 H locs hf hh => ?_)
    refine lv_aload_n hx hb dX2_init_45 rfl (lv_at hl 0 rfl) ?_
    refine lv_iconst (v := (0 : Int32)) hx hb dX2_init_46 (by decide) ?_
    refine q_pi X hh (up_r ht (by omega)) fk_X2_22 pk_2_2 rfl rfl dX2_init_47 hf (fun w14 H locs hf hh => ?_)
    have hz := ckn_e hf
    refine W.widen (k := 19) (n := 54720) (by omega) (by omega) ?_
    exact e_v X hr hlk hh ⟨hz.1, so_e hz.2⟩ dX2_init_50
  · have hf := if_f hc12 hf
    refine lv_aload_n hx hb dX2_init_21 rfl (lv_at hl 0 rfl) ?_
    refine q_gr (P := 10) X hh (up_r ht (by omega)) fk_X2_11 dX2_init_22 (Nat.le_refl _) hf (fun t15 h16 hf => ?_)
    refine lv_iload_n hx hb dX2_init_25 rfl (lv_at hl 1 rfl) ?_
    refine r_new (n0 := n) X hh ci_0 cin_0 k_114 k_25 k_8 (by omega) hRR dX2_init_26 hf (fun n17 w18 H e19 h20 hf hh => ?_)
    refine lv_dup hx hb dX2_init_29 rfl ?_
    obtain ⟨w23, hc25, hf⟩ := c1_e hf
    refine q_I (n0 := n) (rest := [.ref (B + n8), .int x6, .ref (B + t15)]) X hml hh rfl (m_X0_init l B D h20 hc25) cf_X0_init k_116 hl.1 (Nat.le_of_ble_eq_true rfl) ⟨Nat.le_of_ble_eq_true rfl, Nat.le_of_ble_eq_true rfl⟩ (by omega) hRR dX2_init_30 hf (fun n21 w22 H locs e24 hf hh => ?_)
    refine q_aast X hh (up_r h16 (by omega)) ⟨by decide, by decide⟩ (up_r h20 (by omega)) ci_0 rfl dX2_init_33 hf (fun w27 H locs hf hh => ?_)
    obtain ⟨x28, e29⟩ : ∃ y : Int32, y = (x6 + (1 : Int32)) := ⟨_, rfl⟩
    have hf := lt_e e29 hf
    refine lv_iinc (v := x28) (lv' := [(1, .int x28), (0, .ref (B + t))]) hx hb dX2_init_34 hl (k := 1) rfl (by rw [e29]; rfl) (by decide) rfl (fun ls hl => ?_)
    refine lv_goto (tgt := 15) hx hb dX2_init_37 (by decide) ?_
    exact ih11 _ _ _ hf (by omega) _ _ _ hh (lv_sub hl [1, 0] rfl)
def f_X1_init (t n : Nat) (w : Wd) : Option Wd := mk n (n + 76) 12 36 (lt2 (n + 1) (clr w n) (fun n1 w2 => lt (upR w2 t 0 n) (fun w5 => wl3 (fun (x6 : Int32) (w7 : Wd) (n8 : Nat) k10 => (if (36 : Int32) ≤ x6 then mk n8 (n + 76) 5 0 (lt2 (n8 + 1) (clr w7 n8) (fun n13 w14 => c1 (f_X5_init n8 n13 w14) (fun w19 => if n13 + 1 ≤ (n + 76) then lt2 (n13 + 1) w19 (fun n17 w18 => lt (upR w18 t 1 n8) (fun w22 => lt (upI w22 t 2 (0 : Int32)) (fun w23 => lt (upI w23 t 3 (0 : Int32)) (fun w24 => mk n17 (n + 76) 9 36 (lt2 (n17 + 1) (clr w24 n17) (fun n25 w26 => lt (upR w26 t 4 n17) (fun w29 => lt (upI w29 t 5 (0 : Int32)) (fun w30 => ckn n25 (n + 76) (some w30))))))))) else none))) else rf n8 (w7.2 t 0) 12 (fun t31 => mk n8 (n + 76) 5 0 (lt2 (n8 + 1) (clr w7 n8) (fun n33 w34 => c1 (f_X5_init n8 n33 w34) (fun w39 => if n33 + 1 ≤ (n + 76) then lt2 (n33 + 1) w39 (fun n37 w38 => ix x6 (ln t31) (fun j42 => lt (upR w38 t31 j42 n8) (fun w43 => lt (x6 + (1 : Int32)) (fun x44 => k10 x44 w43 n37)))) else none)))))) fu (0 : Int32) w5 n1)))
set_option maxHeartbeats 4000000 in
set_option maxRecDepth 100000 in
theorem m_X1_init (l : Launch) (B : Nat) (D : DD) {t n : Nat} {w w' : Wd} (ht : t < n ∧ kd t = 1) (hf : f_X1_init t n w = some w') : Ct l yX1_init cX1_init 2 none 2 40 76 218880 B D [.ref (B + t)] n w none (n + 76) w' := by
  refine m_of (by decide) (Nat.le_of_ble_eq_true rfl) (fun p e s m args below meth c X hml hr hlk hin H locs hh ls hl => ?_)
  have hx := X.1
  have hb := X.2.1
  have hl : lv_has ls 2 [(0, .ref (B + t))] := hl
  have hRR : n + 76 ≤ n + (rmk 2 40 76 218880).cells ∧ 2880 * (n + 76 - n) ≤ (rmk 2 40 76 218880).slots := ⟨Nat.le_refl _, by show 2880 * (n + 76 - n) ≤ 218880; omega⟩
  refine W.widen (k := n - n) (n := 2880 * (n - n)) (Nat.zero_le _) (Nat.zero_le _) ?_
  unfold f_X1_init at hf
  refine lv_aload_n hx hb dX1_init_0 rfl (lv_at hl 0 rfl) ?_
  refine q_obj X hml hl.1 k_57 ⟨Nat.le_of_ble_eq_true rfl, Nat.le_of_ble_eq_true rfl⟩ dX1_init_1 ?_
  refine lv_aload_n hx hb dX1_init_4 rfl (lv_at hl 0 rfl) ?_
  refine lv_bipush (v := (36 : Int32)) hx hb dX1_init_5 (by decide) ?_
  refine r_newq (n0 := n) (len := 36) (ka := 12) X hh k_58 ⟨by decide, by decide⟩ rfl X.2.2.2.2.2.2.2.2.1 (by decide) (by decide) (by decide) (by omega) hRR dX1_init_7 hf (fun n1 w2 H e3 h4 hf hh => ?_)
  refine q_prF X hh (up_r ht (by omega)) fk_X1_11 pk_1_0 hin (fun q h => by cases h; rfl) (fun _ => ⟨rfl, rfl⟩) dX1_init_10 hf (fun w5 H locs hf hh => ?_)
  refine lv_iconst (v := (0 : Int32)) hx hb dX1_init_13 (by decide) ?_
  refine lv_istore_n (lv' := [(1, .int (0 : Int32)), (0, .ref (B + t))]) hx hb dX1_init_14 rfl hl (by decide) rfl (fun ls hl => ?_)
  refine wl3_W (P := fun (x6 : Int32) (w7 : Wd) (n8 : Nat) => n ≤ n8 → ∀ (H : Heap) (locs : List Loc) (ls : Array Slot), Hp B D n8 w7 s H locs → lv_has ls 2 [(0, .ref (B + t)), (1, .int x6)] → W p l e (rmk 2 40 76 218880) s m args below meth c H locs (n8 - n) (2880 * (n8 - n)) (MZ below B D (n + 76) w' none args s 76 218880) (F0 m 15 ls [])) hf (fun x6 w7 n8 k10 ih11 hf hn9 H locs ls hh hl => ?_) (by omega) _ _ _ hh (lv_sub hl [1, 0] rfl)
  refine lv_iload_n hx hb dX1_init_15 rfl (lv_at hl 1 rfl) ?_
  refine lv_bipush (v := (36 : Int32)) hx hb dX1_init_16 (by decide) ?_
  refine lv_icmp_ge (tgt := 40) hx hb dX1_init_18 (by decide) (fun hc12 => ?_) (fun hc12 => ?_)
  · have hf := if_t hc12 hf
    refine lv_aload_n hx hb dX1_init_40 rfl (lv_at hl 0 rfl) ?_
    refine r_new (n0 := n) X hh ci_5 cin_5 k_58 k_60 k_10 (by omega) hRR dX1_init_41 hf (fun n13 w14 H e15 h16 hf hh => ?_)
    refine lv_dup hx hb dX1_init_44 rfl ?_
    obtain ⟨w19, hc21, hf⟩ := c1_e hf
    refine q_I (n0 := n) (rest := [.ref (B + n8), .ref (B + t)]) X hml hh rfl (m_X5_init l B D h16 hc21) cf_X5_init k_61 hl.1 (Nat.le_of_ble_eq_true rfl) ⟨Nat.le_of_ble_eq_true rfl, Nat.le_of_ble_eq_true rfl⟩ (by omega) hRR dX1_init_45 hf (fun n17 w18 H locs e20 hf hh => ?_)
    refine q_prF X hh (up_r ht (by omega)) fk_X1_18 pk_1_1 hin (fun q h => by cases h; rfl) (fun _ => ⟨rfl, rfl⟩) dX1_init_48 hf (fun w22 H locs hf hh => ?_)
    refine lv_aload_n hx hb dX1_init_51 rfl (lv_at hl 0 rfl) ?_
    refine lv_iconst (v := (0 : Int32)) hx hb dX1_init_52 (by decide) ?_
    refine q_pi X hh (up_r ht (by omega)) fk_X1_22 pk_1_2 rfl rfl dX1_init_53 hf (fun w23 H locs hf hh => ?_)
    refine lv_aload_n hx hb dX1_init_56 rfl (lv_at hl 0 rfl) ?_
    refine lv_iconst (v := (0 : Int32)) hx hb dX1_init_57 (by decide) ?_
    refine q_pi X hh (up_r ht (by omega)) fk_X1_26 pk_1_3 rfl rfl dX1_init_58 hf (fun w24 H locs hf hh => ?_)
    refine lv_aload_n hx hb dX1_init_61 rfl (lv_at hl 0 rfl) ?_
    refine lv_bipush (v := (36 : Int32)) hx hb dX1_init_62 (by decide) ?_
    refine r_newa (n0 := n) (len := 36) X hh k_51 (by decide) (by decide) (by decide) (by omega) hRR dX1_init_64 hf (fun n25 w26 H e27 h28 hf hh => ?_)
    refine q_prF X hh (up_r ht (by omega)) fk_X1_29 pk_1_4 hin (fun q h => by cases h; rfl) (fun _ => ⟨rfl, rfl⟩) dX1_init_66 hf (fun w29 H locs hf hh => ?_)
    refine lv_aload_n hx hb dX1_init_69 rfl (lv_at hl 0 rfl) ?_
    refine lv_iconst (v := (0 : Int32)) hx hb dX1_init_70 (by decide) ?_
    refine q_pi X hh (up_r ht (by omega)) fk_X1_33 pk_1_5 rfl rfl dX1_init_71 hf (fun w30 H locs hf hh => ?_)
    have hz := ckn_e hf
    refine W.widen (k := 76) (n := 218880) (by omega) (by omega) ?_
    exact e_v X hr hlk hh ⟨hz.1, so_e hz.2⟩ dX1_init_74
  · have hf := if_f hc12 hf
    refine lv_aload_n hx hb dX1_init_21 rfl (lv_at hl 0 rfl) ?_
    refine q_gr (P := 12) X hh (up_r ht (by omega)) fk_X1_11 dX1_init_22 (Nat.le_refl _) hf (fun t31 h32 hf => ?_)
    refine lv_iload_n hx hb dX1_init_25 rfl (lv_at hl 1 rfl) ?_
    refine r_new (n0 := n) X hh ci_5 cin_5 k_58 k_60 k_10 (by omega) hRR dX1_init_26 hf (fun n33 w34 H e35 h36 hf hh => ?_)
    refine lv_dup hx hb dX1_init_29 rfl ?_
    obtain ⟨w39, hc41, hf⟩ := c1_e hf
    refine q_I (n0 := n) (rest := [.ref (B + n8), .int x6, .ref (B + t31)]) X hml hh rfl (m_X5_init l B D h36 hc41) cf_X5_init k_61 hl.1 (Nat.le_of_ble_eq_true rfl) ⟨Nat.le_of_ble_eq_true rfl, Nat.le_of_ble_eq_true rfl⟩ (by omega) hRR dX1_init_30 hf (fun n37 w38 H locs e40 hf hh => ?_)
    refine q_aast X hh (up_r h32 (by omega)) ⟨by decide, by decide⟩ (up_r h36 (by omega)) ci_5 rfl dX1_init_33 hf (fun w43 H locs hf hh => ?_)
    obtain ⟨x44, e45⟩ : ∃ y : Int32, y = (x6 + (1 : Int32)) := ⟨_, rfl⟩
    have hf := lt_e e45 hf
    refine lv_iinc (v := x44) (lv' := [(1, .int x44), (0, .ref (B + t))]) hx hb dX1_init_34 hl (k := 1) rfl (by rw [e45]; rfl) (by decide) rfl (fun ls hl => ?_)
    refine lv_goto (tgt := 15) hx hb dX1_init_37 (by decide) ?_
    exact ih11 _ _ _ hf (by omega) _ _ _ hh (lv_sub hl [1, 0] rfl)
end
section
/-! new int[n][m] -/
theorem mk2_e {ρ : Type} {N top n len : Nat} {K : Option ρ} {r : ρ} (h : mk2 N top n len K = some r) : (N + 1 + n ≤ top ∧ kd N = 13 ∧ ln N = n ∧ (∀ i, i < n → kd (N + 1 + i) = 9 ∧ ln (N + 1 + i) = len)) ∧ K = some r := by
  unfold mk2 at h
  split at h
  · rename_i hc; exact ⟨hc, h⟩
  · cases h
theorem mn_outer (c : ClassId) (N h0 : Nat) : ∀ i : Nat, Jvm.Free.Multi.outerC c N h0 i = arrV c N (fun j => va_rf (if j < i then some (h0 + 1 + j) else none))
  | 0 => by
    show ({ cls := c, slots := Array.replicate N .null, vm := .none } : Cell) = _
    rw [arrV_new]
    refine congrArg (arrV c N) (funext fun j => ?_)
    simp [va_rf]
  | i + 1 => by
    show (Jvm.Free.Multi.outerC c N h0 i).setSlot i (.ref (h0 + 1 + i)) = _
    rw [mn_outer c N h0 i, arrV_store]
    refine congrArg (arrV c N) (funext fun j => ?_)
    by_cases e : j = i
    · subst e
      simp [updV, va_rf]
    · by_cases h : j < i
      · simp [updV, e, h, Nat.lt_succ_of_lt h]
      · simp [updV, e, h, show ¬ j < i + 1 by omega]
section MN
variable {p : Program} {l : Launch} {e : Env} {R : Room} {s : State} {m : MethodId} {args : Array Value} {below : List Frame} {meth : Method} {c : Code} {H : Heap} {locs : List Loc} {Q : State → Prop}
variable {cc : ByteArray} {pc : Nat} {ls : Array Slot} {rest : List Value} {D : DD} {own : String} {B n0 N : Nat} {w : Wd}
theorem r_mna {ρ : Type} {z : ρ} {K : Nat → Wd → Option ρ} (X : Cx p s m args c cc own D) (h : Hp B D N w s H locs) {top idx nn len : Nat} {x y : Int32} (hcl : Cond.classLink own idx "[[I" ∈ AL) (hw : Cond.arrayClass .int ∈ AL) (hx0 : ¬ x < 0) (hxl : x.toNatClampNeg = nn) (hy0 : ¬ y < 0) (hyl : y.toNatClampNeg = len) (hb9 : nn + nn * len ≤ 2880 ∧ len ≤ 2880) (h0 : n0 ≤ N) (hR : top ≤ n0 + R.cells ∧ 2880 * (top - n0) ≤ R.slots) (hdg : decode cc pc = .ok (.multianewarray idx 2, 4)) (hr : mk2 N top nn len (lt2 (N + 1 + nn) (clr2 w N nn) K) = some z)
    (kk : ∀ (N1 : Nat) (w1 : Wd) (H1 : Heap), N1 = N + 1 + nn → (N < N1 ∧ kd N = 13) → K N1 w1 = some z → Hp B D N1 w1 s H1 locs → W p l e R s m args below meth c H1 locs (N1 - n0) (2880 * (N1 - n0)) Q (F0 m (pc + 4) ls (.ref (B + N) :: rest))) : W p l e R s m args below meth c H locs (N - n0) (2880 * (N - n0)) Q (F0 m pc ls (.int y :: .int x :: rest)) := by
  obtain ⟨⟨ht, hk, hl, hin⟩, hr2⟩ := mk2_e hr
  obtain ⟨hx, hb, hown, hts, hK, hA, -, -, -, hao⟩ := X
  have hsz : H.size = B + N := h.1.1
  subst hxl
  subst hyl
  have hcl2 : (Cond.classLink own idx ("[" ++ (FieldType.array .int).toString)).before args s = true := hts _ hcl
  intro T hT Xs
  have hao2 : (Cond.arrayOver (.array .int)).before args s = true := hao
  obtain ⟨vm₁, cA, comp, -, fA, fC, hO, -, X', step⟩ := Xs.multianewarray2F (ty := .int) hx hown hcl2 hao2 (hts _ hw) (g := F0 m pc ls (.int y :: .int x :: rest)) rfl (by rw [hb]; exact hdg) rfl hx0 hy0 (by omega) (by show y.toNatClampNeg * 4 ≤ _; omega) (by omega) rfl rfl (by omega) (by omega)
  have hcA : cA = D.2 13 := Option.some.inj (fA.symm.trans (hA 13 (by decide) (by decide)).2)
  have hcy : comp = D.2 9 := Option.some.inj (fC.symm.trans (hA 9 (by decide) (by decide)).2)
  subst hcA
  subst hcy
  generalize hF : Jvm.Free.Multi.fill (T.setVm vm₁) (D.2 13) (D.2 9) x.toNatClampNeg y.toNatClampNeg (defaultValue .int) x.toNatClampNeg = F at X' step
  have hTh : (T.setVm vm₁).heap = H := hT
  obtain ⟨f1, f2, -, -⟩ := Jvm.Free.Multi.fill_facts (T.setVm vm₁) (D.2 13) (D.2 9) x.toNatClampNeg y.toNatClampNeg (defaultValue .int) x.toNatClampNeg
  rw [hF, hTh] at f1 f2
  have hold : ∀ q : Nat, q < H.size → F.heap[q]? = H[q]? := fun q hq => by
    have := Jvm.Free.Multi.fill_old (T.setVm vm₁) (D.2 13) (D.2 9) x.toNatClampNeg y.toNatClampNeg (defaultValue .int) (a := q) (by rw [hTh]; exact hq) x.toNatClampNeg
    rw [hF, hTh] at this
    exact this
  have hrow : ∀ j : Nat, j < x.toNatClampNeg → F.heap[H.size + 1 + j]? = some (arrV (D.2 9) y.toNatClampNeg (fun _ => .int 0)) := fun j hj => by
    have := Jvm.Free.Multi.fill_inner (T.setVm vm₁) (D.2 13) (D.2 9) x.toNatClampNeg y.toNatClampNeg (defaultValue .int) x.toNatClampNeg j hj
    rw [hF, hTh] at this
    rw [this]
    show some ({ cls := D.2 9, slots := Array.replicate y.toNatClampNeg (.int 0), vm := .none } : Cell) = _
    rw [arrV_new]
  rw [mn_outer] at f2
  have hRp : Rep B D (N + 1 + x.toNatClampNeg) (clr2 w N x.toNatClampNeg) F.heap := by
    refine ⟨by omega, fun k hk2 => ?_⟩
    by_cases e1 : k < N
    · refine (h.1.2 k e1).kept (hold _ (by omega)) (fun j => ?_)
      unfold vl clr2
      simp [show ¬ N ≤ k by omega, show ¬ k = N by omega]
    · by_cases e2 : k = N
      · subst e2
        refine ⟨fun a1 => by rw [hk] at a1; omega, fun _ _ => ?_⟩
        rw [← hsz, f2, hk, hl]
        refine congrArg (fun f => some (arrV (D.2 13) x.toNatClampNeg f)) (funext fun j => ?_)
        have hrf : isRf (kd k) j = true := by rw [hk]; rfl
        by_cases e3 : j < x.toNatClampNeg
        · rw [vl_R (r := k + 1 + j) hrf (by simp [clr2, e3]), if_pos e3, hsz]
          exact congrArg Value.ref (show (B + k + 1 + j : Nat) = B + (k + 1 + j) by omega)
        · rw [if_neg e3]
          unfold vl
          rw [if_pos hrf]
          simp [clr2, e3, va_rf]
      · obtain ⟨i, rfl⟩ : ∃ i, k = N + 1 + i := ⟨k - (N + 1), by omega⟩
        have hi := hin i (by omega)
        refine ⟨fun a1 => by rw [hi.1] at a1; omega, fun _ _ => ?_⟩
        have e4 := hrow i (by omega)
        rw [show B + (N + 1 + i) = H.size + 1 + i by omega, e4, hi.1, hi.2]
        refine congrArg (fun f => some (arrV (D.2 9) y.toNatClampNeg f)) (funext fun j => ?_)
        rw [vl_I (by rw [hi.1]; rfl)]
        simp [clr2, show N ≤ N + 1 + i by omega, show N + 1 + i < N + 1 + x.toNatClampNeg by omega]
  obtain ⟨t, a1, b1⟩ := (W.widen (k := N + 1 + x.toNatClampNeg - n0) (n := 2880 * (N + 1 + x.toNatClampNeg - n0)) (cells := N - n0 + 1 + x.toNatClampNeg) (slots := 2880 * (N - n0) + x.toNatClampNeg + x.toNatClampNeg * y.toNatClampNeg) (by omega) (by omega) (kk _ _ F.heap rfl ⟨by omega, hk⟩ hr2 (h.push hRp (by omega) hold))) F rfl X'
  refine ⟨t, step t ?_, b1⟩
  have e : T.heap.size = H.size := by rw [hT]
  rw [e, hsz]
  exact a1
end MN

def f_X4_init (t n : Nat) (w : Wd) : Option Wd := mk2 n (n + 7) 6 6 (lt2 (n + 1 + 6) (clr2 w n 6) (fun n1 w2 => lt (upR w2 t 0 n) (fun w5 => ckn n1 (n + 7) (some w5))))
set_option maxHeartbeats 4000000 in
set_option maxRecDepth 100000 in
theorem m_X4_init (l : Launch) (B : Nat) (D : DD) {t n : Nat} {w w' : Wd} (ht : t < n ∧ kd t = 4) (hf : f_X4_init t n w = some w') : Ct l yX4_init cX4_init 1 none 1 20 7 20160 B D [.ref (B + t)] n w none (n + 7) w' := by
  refine m_of (by decide) (Nat.le_of_ble_eq_true rfl) (fun p e s m args below meth c X hml hr hlk hin H locs hh ls hl => ?_)
  have hx := X.1
  have hb := X.2.1
  have hl : lv_has ls 1 [(0, .ref (B + t))] := hl
  have hRR : n + 7 ≤ n + (rmk 1 20 7 20160).cells ∧ 2880 * (n + 7 - n) ≤ (rmk 1 20 7 20160).slots := ⟨Nat.le_refl _, by show 2880 * (n + 7 - n) ≤ 20160; omega⟩
  refine W.widen (k := n - n) (n := 2880 * (n - n)) (Nat.zero_le _) (Nat.zero_le _) ?_
  unfold f_X4_init at hf
  refine lv_aload_n hx hb dX4_init_0 rfl (lv_at hl 0 rfl) ?_
  refine q_obj X hml hl.1 k_101 ⟨Nat.le_of_ble_eq_true rfl, Nat.le_of_ble_eq_true rfl⟩ dX4_init_1 ?_
  refine lv_aload_n hx hb dX4_init_4 rfl (lv_at hl 0 rfl) ?_
  refine lv_bipush (v := (6 : Int32)) hx hb dX4_init_5 (by decide) ?_
  refine lv_bipush (v := (6 : Int32)) hx hb dX4_init_7 (by decide) ?_
  refine r_mna (n0 := n) (nn := 6) (len := 6) X hh k_102 k_51 (by decide) (by decide) (by decide) (by decide) (by decide) (by omega) hRR dX4_init_9 hf (fun n1 w2 H e3 h4 hf hh => ?_)
  refine q_prF X hh (up_r ht (by omega)) fk_X4_11 pk_4_0 hin (fun q h => by cases h; rfl) (fun _ => ⟨rfl, rfl⟩) dX4_init_13 hf (fun w5 H locs hf hh => ?_)
  have hz := ckn_e hf
  refine W.widen (k := 7) (n := 20160) (by omega) (by omega) ?_
  exact e_v X hr hlk hh ⟨hz.1, so_e hz.2⟩ dX4_init_16
def f_X7_init (t n : Nat) (w : Wd) : Option Wd := mk n (n + 138) 0 0 (lt2 (n + 1) (clr w n) (fun n1 w2 => c1 (f_X0_init n n1 w2) (fun w7 => if n1 + 1 ≤ (n + 138) then lt2 (n1 + 1) w7 (fun n5 w6 => lt (upR w6 t 0 n) (fun w10 => mk n5 (n + 138) 0 0 (lt2 (n5 + 1) (clr w10 n5) (fun n11 w12 => c1 (f_X0_init n5 n11 w12) (fun w17 => if n11 + 1 ≤ (n + 138) then lt2 (n11 + 1) w17 (fun n15 w16 => lt (upR w16 t 1 n5) (fun w20 => mk n15 (n + 138) 0 0 (lt2 (n15 + 1) (clr w20 n15) (fun n21 w22 => c1 (f_X0_init n15 n21 w22) (fun w27 => if n21 + 1 ≤ (n + 138) then lt2 (n21 + 1) w27 (fun n25 w26 => lt (upR w26 t 2 n15) (fun w30 => lt (upI w30 t 3 (0 : Int32)) (fun w31 => mk n25 (n + 138) 1 0 (lt2 (n25 + 1) (clr w31 n25) (fun n32 w33 => c1 (f_X1_init n25 n32 w33) (fun w38 => if n32 + 76 ≤ (n + 138) then lt2 (n32 + 76) w38 (fun n36 w37 => lt (upR w37 t 4 n25) (fun w41 => lt (upI w41 t 5 (0 : Int32)) (fun w42 => mk n36 (n + 138) 4 0 (lt2 (n36 + 1) (clr w42 n36) (fun n43 w44 => c1 (f_X4_init n36 n43 w44) (fun w49 => if n43 + 7 ≤ (n + 138) then lt2 (n43 + 7) w49 (fun n47 w48 => lt (upR w48 t 6 n36) (fun w52 => mk n47 (n + 138) 2 0 (lt2 (n47 + 1) (clr w52 n47) (fun n53 w54 => c1 (f_X2_init n47 n53 w54) (fun w59 => if n53 + 19 ≤ (n + 138) then lt2 (n53 + 19) w59 (fun n57 w58 => lt (upR w58 t 7 n47) (fun w62 => mk n57 (n + 138) 6 0 (lt2 (n57 + 1) (clr w62 n57) (fun n63 w64 => c1 (f_X6_init n57 n63 w64) (fun w69 => if n63 + 1 ≤ (n + 138) then lt2 (n63 + 1) w69 (fun n67 w68 => lt (upR w68 t 8 n57) (fun w72 => mk n67 (n + 138) 11 6 (lt2 (n67 + 1) (clr w72 n67) (fun n73 w74 => lt (upR w74 t 9 n67) (fun w77 => wl3 (fun (x78 : Int32) (w79 : Wd) (n80 : Nat) k82 => (if (6 : Int32) ≤ x78 then ckn n80 (n + 138) (some w79) else rf n80 (w79.2 t 9) 11 (fun t85 => mk n80 (n + 138) 3 0 (lt2 (n80 + 1) (clr w79 n80) (fun n87 w88 => c1 (f_X3_init n80 n87 w88) (fun w93 => if n87 + 3 ≤ (n + 138) then lt2 (n87 + 3) w93 (fun n91 w92 => ix x78 (ln t85) (fun j96 => lt (upR w92 t85 j96 n80) (fun w97 => lt (x78 + (1 : Int32)) (fun x98 => k82 x98 w97 n91)))) else none)))))) fu (0 : Int32) w77 n73))))) else none))))) else none))))) else none)))))) else none)))))) else none))))) else none))))) else none)))
set_option maxHeartbeats 4000000 in
set_option maxRecDepth 100000 in
theorem m_X7_init (l : Launch) (B : Nat) (D : DD) {t n : Nat} {w w' : Wd} (ht : t < n ∧ kd t = 7) (hf : f_X7_init t n w = some w') : Ct l yX7_init cX7_init 2 none 3 61 138 397440 B D [.ref (B + t)] n w none (n + 138) w' := by
  refine m_of (by decide) (Nat.le_of_ble_eq_true rfl) (fun p e s m args below meth c X hml hr hlk hin H locs hh ls hl => ?_)
  have hx := X.1
  have hb := X.2.1
  have hl : lv_has ls 2 [(0, .ref (B + t))] := hl
  have hRR : n + 138 ≤ n + (rmk 3 61 138 397440).cells ∧ 2880 * (n + 138 - n) ≤ (rmk 3 61 138 397440).slots := ⟨Nat.le_refl _, by show 2880 * (n + 138 - n) ≤ 397440; omega⟩
  refine W.widen (k := n - n) (n := 2880 * (n - n)) (Nat.zero_le _) (Nat.zero_le _) ?_
  unfold f_X7_init at hf
  refine lv_aload_n hx hb dX7_init_0 rfl (lv_at hl 0 rfl) ?_
  refine q_obj X hml hl.1 k_21 ⟨Nat.le_of_ble_eq_true rfl, Nat.le_of_ble_eq_true rfl⟩ dX7_init_1 ?_
  refine lv_aload_n hx hb dX7_init_4 rfl (lv_at hl 0 rfl) ?_
  refine r_new (n0 := n) X hh ci_0 cin_0 k_24 k_25 k_8 (by omega) hRR dX7_init_5 hf (fun n1 w2 H e3 h4 hf hh => ?_)
  refine lv_dup hx hb dX7_init_8 rfl ?_
  obtain ⟨w7, hc9, hf⟩ := c1_e hf
  refine q_I (n0 := n) (rest := [.ref (B + n), .ref (B + t)]) X hml hh rfl (m_X0_init l B D h4 hc9) cf_X0_init k_26 hl.1 (Nat.le_of_ble_eq_true rfl) ⟨Nat.le_of_ble_eq_true rfl, Nat.le_of_ble_eq_true rfl⟩ (by omega) hRR dX7_init_9 hf (fun n5 w6 H locs e8 hf hh => ?_)
  refine q_prF X hh (up_r ht (by omega)) fk_X7_14 pk_7_0 hin (fun q h => by cases h; rfl) (fun _ => ⟨rfl, rfl⟩) dX7_init_12 hf (fun w10 H locs hf hh => ?_)
  refine lv_aload_n hx hb dX7_init_15 rfl (lv_at hl 0 rfl) ?_
  refine r_new (n0 := n) X hh ci_0 cin_0 k_24 k_25 k_8 (by omega) hRR dX7_init_16 hf (fun n11 w12 H e13 h14 hf hh => ?_)
  refine lv_dup hx hb dX7_init_19 rfl ?_
  obtain ⟨w17, hc19, hf⟩ := c1_e hf
  refine q_I (n0 := n) (rest := [.ref (B + n5), .ref (B + t)]) X hml hh rfl (m_X0_init l B D h14 hc19) cf_X0_init k_26 hl.1 (Nat.le_of_ble_eq_true rfl) ⟨Nat.le_of_ble_eq_true rfl, Nat.le_of_ble_eq_true rfl⟩ (by omega) hRR dX7_init_20 hf (fun n15 w16 H locs e18 hf hh => ?_)
  refine q_prF X hh (up_r ht (by omega)) fk_X7_18 pk_7_1 hin (fun q h => by cases h; rfl) (fun _ => ⟨rfl, rfl⟩) dX7_init_23 hf (fun w20 H locs hf hh => ?_)
  refine lv_aload_n hx hb dX7_init_26 rfl (lv_at hl 0 rfl) ?_
  refine r_new (n0 := n) X hh ci_0 cin_0 k_24 k_25 k_8 (by omega) hRR dX7_init_27 hf (fun n21 w22 H e23 h24 hf hh => ?_)
  refine lv_dup hx hb dX7_init_30 rfl ?_
  obtain ⟨w27, hc29, hf⟩ := c1_e hf
  refine q_I (n0 := n) (rest := [.ref (B + n15), .ref (B + t)]) X hml hh rfl (m_X0_init l B D h24 hc29) cf_X0_init k_26 hl.1 (Nat.le_of_ble_eq_true rfl) ⟨Nat.le_of_ble_eq_true rfl, Nat.le_of_ble_eq_true rfl⟩ (by omega) hRR dX7_init_31 hf (fun n25 w26 H locs e28 hf hh => ?_)
  refine q_prF X hh (up_r ht (by omega)) fk_X7_21 pk_7_2 hin (fun q h => by cases h; rfl) (fun _ => ⟨rfl, rfl⟩) dX7_init_34 hf (fun w30 H locs hf hh => ?_)
  refine lv_aload_n hx hb dX7_init_37 rfl (lv_at hl 0 rfl) ?_
  refine lv_iconst (v := (0 : Int32)) hx hb dX7_init_38 (by decide) ?_
  refine q_pi X hh (up_r ht (by omega)) fk_X7_24 pk_7_3 rfl rfl dX7_init_39 hf (fun w31 H locs hf hh => ?_)
  refine lv_aload_n hx hb dX7_init_42 rfl (lv_at hl 0 rfl) ?_
  refine r_new (n0 := n) X hh ci_1 cin_1 k_52 k_53 k_9 (by omega) hRR dX7_init_43 hf (fun n32 w33 H e34 h35 hf hh => ?_)
  refine lv_dup hx hb dX7_init_46 rfl ?_
  obtain ⟨w38, hc40, hf⟩ := c1_e hf
  refine q_I (n0 := n) (rest := [.ref (B + n25), .ref (B + t)]) X hml hh rfl (m_X1_init l B D h35 hc40) cf_X1_init k_54 hl.1 (Nat.le_of_ble_eq_true rfl) ⟨Nat.le_of_ble_eq_true rfl, Nat.le_of_ble_eq_true rfl⟩ (by omega) hRR dX7_init_47 hf (fun n36 w37 H locs e39 hf hh => ?_)
  refine q_prF X hh (up_r ht (by omega)) fk_X7_31 pk_7_4 hin (fun q h => by cases h; rfl) (fun _ => ⟨rfl, rfl⟩) dX7_init_50 hf (fun w41 H locs hf hh => ?_)
  refine lv_aload_n hx hb dX7_init_53 rfl (lv_at hl 0 rfl) ?_
  refine lv_iconst (v := (0 : Int32)) hx hb dX7_init_54 (by decide) ?_
  refine q_pi X hh (up_r ht (by omega)) fk_X7_35 pk_7_5 rfl rfl dX7_init_55 hf (fun w42 H locs hf hh => ?_)
  refine lv_aload_n hx hb dX7_init_58 rfl (lv_at hl 0 rfl) ?_
  refine r_new (n0 := n) X hh ci_4 cin_4 k_96 k_97 k_11 (by omega) hRR dX7_init_59 hf (fun n43 w44 H e45 h46 hf hh => ?_)
  refine lv_dup hx hb dX7_init_62 rfl ?_
  obtain ⟨w49, hc51, hf⟩ := c1_e hf
  refine q_I (n0 := n) (rest := [.ref (B + n36), .ref (B + t)]) X hml hh rfl (m_X4_init l B D h46 hc51) cf_X4_init k_98 hl.1 (Nat.le_of_ble_eq_true rfl) ⟨Nat.le_of_ble_eq_true rfl, Nat.le_of_ble_eq_true rfl⟩ (by omega) hRR dX7_init_63 hf (fun n47 w48 H locs e50 hf hh => ?_)
  refine q_prF X hh (up_r ht (by omega)) fk_X7_41 pk_7_6 hin (fun q h => by cases h; rfl) (fun _ => ⟨rfl, rfl⟩) dX7_init_66 hf (fun w52 H locs hf hh => ?_)
  refine lv_aload_n hx hb dX7_init_69 rfl (lv_at hl 0 rfl) ?_
  refine r_new (n0 := n) X hh ci_2 cin_2 k_108 k_109 k_12 (by omega) hRR dX7_init_70 hf (fun n53 w54 H e55 h56 hf hh => ?_)
  refine lv_dup hx hb dX7_init_73 rfl ?_
  obtain ⟨w59, hc61, hf⟩ := c1_e hf
  refine q_I (n0 := n) (rest := [.ref (B + n47), .ref (B + t)]) X hml hh rfl (m_X2_init l B D h56 hc61) cf_X2_init k_110 hl.1 (Nat.le_of_ble_eq_true rfl) ⟨Nat.le_of_ble_eq_true rfl, Nat.le_of_ble_eq_true rfl⟩ (by omega) hRR dX7_init_74 hf (fun n57 w58 H locs e60 hf hh => ?_)
  refine q_prF X hh (up_r ht (by omega)) fk_X7_48 pk_7_7 hin (fun q h => by cases h; rfl) (fun _ => ⟨rfl, rfl⟩) dX7_init_77 hf (fun w62 H locs hf hh => ?_)
  refine lv_aload_n hx hb dX7_init_80 rfl (lv_at hl 0 rfl) ?_
  refine r_new (n0 := n) X hh ci_6 cin_6 k_127 k_128 k_13 (by omega) hRR dX7_init_81 hf (fun n63 w64 H e65 h66 hf hh => ?_)
  refine lv_dup hx hb dX7_init_84 rfl ?_
  obtain ⟨w69, hc71, hf⟩ := c1_e hf
  refine q_I (n0 := n) (rest := [.ref (B + n57), .ref (B + t)]) X hml hh rfl (m_X6_init l B D h66 hc71) cf_X6_init k_129 hl.1 (Nat.le_of_ble_eq_true rfl) ⟨Nat.le_of_ble_eq_true rfl, Nat.le_of_ble_eq_true rfl⟩ (by omega) hRR dX7_init_85 hf (fun n67 w68 H locs e70 hf hh => ?_)
  refine q_prF X hh (up_r ht (by omega)) fk_X7_55 pk_7_8 hin (fun q h => by cases h; rfl) (fun _ => ⟨rfl, rfl⟩) dX7_init_88 hf (fun w72 H locs hf hh => ?_)
  refine lv_aload_n hx hb dX7_init_91 rfl (lv_at hl 0 rfl) ?_
  refine lv_bipush (v := (6 : Int32)) hx hb dX7_init_92 (by decide) ?_
  refine r_newq (n0 := n) (len := 6) (ka := 11) X hh k_141 ⟨by decide, by decide⟩ rfl X.2.2.2.2.2.2.2.1 (by decide) (by decide) (by decide) (by omega) hRR dX7_init_94 hf (fun n73 w74 H e75 h76 hf hh => ?_)
  refine q_prF X hh (up_r ht (by omega)) fk_X7_61 pk_7_9 hin (fun q h => by cases h; rfl) (fun _ => ⟨rfl, rfl⟩) dX7_init_97 hf (fun w77 H locs hf hh => ?_)
  refine lv_iconst (v := (0 : Int32)) hx hb dX7_init_100 (by decide) ?_
  refine lv_istore_n (lv' := [(1, .int (0 : Int32)), (0, .ref (B + t))]) hx hb dX7_init_101 rfl hl (by decide) rfl (fun ls hl => ?_)
  refine wl3_W (P := fun (x78 : Int32) (w79 : Wd) (n80 : Nat) => n ≤ n80 → ∀ (H : Heap) (locs : List Loc) (ls : Array Slot), Hp B D n80 w79 s H locs → lv_has ls 2 [(0, .ref (B + t)), (1, .int x78)] → W p l e (rmk 3 61 138 397440) s m args below meth c H locs (n80 - n) (2880 * (n80 - n)) (MZ below B D (n + 138) w' none args s 138 397440) (F0 m 102 ls [])) hf (fun x78 w79 n80 k82 ih83 hf hn81 H locs ls hh hl => ?_) (by omega) _ _ _ hh (lv_sub hl [1, 0] rfl)
  refine lv_iload_n hx hb dX7_init_102 rfl (lv_at hl 1 rfl) ?_
  refine lv_bipush (v := (6 : Int32)) hx hb dX7_init_103 (by decide) ?_
  refine lv_icmp_ge (tgt := 127) hx hb dX7_init_105 (by decide) (fun hc84 => ?_) (fun hc84 => ?_)
  · have hf := if_t hc84 hf
    have hz := ckn_e hf
    refine W.widen (k := 138) (n := 397440) (by omega) (by omega) ?_
    exact e_v X hr hlk hh ⟨hz.1, so_e hz.2⟩ dX7_init_127
  · have hf := if_f hc84 hf
    refine lv_aload_n hx hb dX7_init_108 rfl (lv_at hl 0 rfl) ?_
    refine q_gr (P := 11) X hh (up_r ht (by omega)) fk_X7_61 dX7_init_109 (Nat.le_refl _) hf (fun t85 h86 hf => ?_)
    refine lv_iload_n hx hb dX7_init_112 rfl (lv_at hl 1 rfl) ?_
    refine r_new (n0 := n) X hh ci_3 cin_3 k_141 k_143 k_14 (by omega) hRR dX7_init_113 hf (fun n87 w88 H e89 h90 hf hh => ?_)
    refine lv_dup hx hb dX7_init_116 rfl ?_
    obtain ⟨w93, hc95, hf⟩ := c1_e hf
    refine q_I (n0 := n) (rest := [.ref (B + n80), .int x78, .ref (B + t85)]) X hml hh rfl (m_X3_init l B D h90 hc95) cf_X3_init k_144 hl.1 (Nat.le_of_ble_eq_true rfl) ⟨Nat.le_of_ble_eq_true rfl, Nat.le_of_ble_eq_true rfl⟩ (by omega) hRR dX7_init_117 hf (fun n91 w92 H locs e94 hf hh => ?_)
    refine q_aast X hh (up_r h86 (by omega)) ⟨by decide, by decide⟩ (up_r h90 (by omega)) ci_3 rfl dX7_init_120 hf (fun w97 H locs hf hh => ?_)
    obtain ⟨x98, e99⟩ : ∃ y : Int32, y = (x78 + (1 : Int32)) := ⟨_, rfl⟩
    have hf := lt_e e99 hf
    refine lv_iinc (v := x98) (lv' := [(1, .int x98), (0, .ref (B + t))]) hx hb dX7_init_121 hl (k := 1) rfl (by rw [e99]; rfl) (by decide) rfl (fun ls hl => ?_)
    refine lv_goto (tgt := 102) hx hb dX7_init_124 (by decide) ?_
    exact ih83 _ _ _ hf (by omega) _ _ _ hh (lv_sub hl [1, 0] rfl)
end
section
def R_law : String := "GrowthGridLaw"
def lw_P (b : Addr) (xs : List Int32) (args : Array Value) (s : State) : Prop := args = #[.ref b] ∧ s.IntsAt b xs ∧ xs.length ≤ 260 ∧ (Jvm.Cond.and given_1 narrow_1).before args s = true
def lw_Q (_ : Array Value) (s : State) (o : Outcome) (t : State) : Prop := o = .returned (some (.int 1)) ∧ Framed s o t [] 600000 7302249
def lw_Z (below : List Frame) (a : Array Value) (s : State) : State → Prop := fun t => ∃ o, t.status = .running ∧ Ended t below o ∧ lw_Q a s o t
/-- the law's own end, with 1 on the stack, nothing written that was there before, its room as the claim has it -/
theorem lw_ret {p : Program} {l : Launch} {e : Env} {s : State} {m : MethodId} {below : List Frame} {meth : Method} {c : Code} {b : Nat} (hx : p.tables.exec = Jvm.exec) (hb : c.code = code) (hr : meth.sig.returnType = ret) (hlocks : meth.locks = false) {pc : Nat} {H : Heap} {ls : Array Slot} (hdg : decode code pc = .ok (.ireturn, 1)) : W p l e room_1 s m #[Value.ref b] below meth c H [] 600000 7302249 (lw_Z below #[Value.ref b] s) (F0 m pc ls [.int 1]) := by
  intro T hT X
  obtain ⟨fs, hret, hrun, hended, hW, hframe⟩ := X.leave (v := some (.int 1)) (hlocks := hlocks) (fun h => by rw [hr] at h; cases h)
  have hmeth' : T.vm.method? m = some meth := X.method'
  refine ⟨T.setFrames fs, ?_, .returned (some (.int 1)), hrun, hended, rfl, ⟨_, rfl⟩, hW, hframe⟩
  jvm_step X.here [X.here.top, hx, hb, hdg, hmeth', hr, ret, narrow_b1]
  (try refine ⟨rfl, ?_⟩); (try refine ⟨rfl, ?_⟩)
  first | (intro acts; rw [hret _ acts rfl rfl rfl]) | rw [hret _ _ rfl rfl rfl]
  exact Steps.refl _
/-- what holds at the law's entry: the machine, the code, the tables' words (any of lw_tbl by 'hts w (by decide +kernel)'), the script of L ints xs at the cell b, what the Statement gives of the start (any of its parts by flat_of_before) -/
def lw_At (p : Program) (s : State) (m : MethodId) (meth : Method) (c : Code) (b L : Nat) (xs : Nat → Int32) : Prop :=
  p.tables.exec = Jvm.exec ∧ c.code = code ∧ meth.sig.returnType = ret ∧ c.maxLocals = 12 ∧ s.vm.findClass R_law = some m.cls ∧ (∀ w ∈ lw_tbl, w.before #[Value.ref b] s = true) ∧ va_X b L xs s s.heap ∧ b < s.heap.size ∧ meth.locks = false ∧ (Jvm.Cond.and given_1 narrow_1).before #[Value.ref b] s = true
end
section
def f_main (L : Nat) (xs : Nat → Int32) (w : Wd) : Option Int32 := c1 (f_X7_count 0 (0 : Int32) w) (fun v2 => (if v2 = (3 : Int32) then c1 (f_X7_count 0 (1 : Int32) w) (fun v5 => (if v5 = (3 : Int32) then c1 (f_X7_count 0 (2 : Int32) w) (fun v8 => (if v8 = 0 then c1 (f_X7_count 0 (3 : Int32) w) (fun v11 => (if v11 = 0 then c2 (f_X7_shape 0 (3 : Int32) (3 : Int32) (0 : Int32) w) (fun v14 w15 => (if v14 = 0 then c1 (f_X7_spelled 0 w15) (fun v18 => (if v18 = 0 then c2 (f_X7_fits 0 (3 : Int32) w15) (fun v21 w22 => (if v21 = (1 : Int32) then c2 (f_X7_standard 0 (3 : Int32) (3 : Int32) w22) (fun v25 w26 => (if (lg_cmp v25 (1 : Int64)) = 0 then c2 (f_X7_product 0 (0 : Int32) (0 : Int32) w26) (fun v29 w30 => (if v29 = (1 : Int32) then c2 (f_X7_undo 0 w30) (fun v33 w34 => (if v33 = (-5 : Int32) then c2 (f_X7_restore 0 w34) (fun v37 w38 => (if v37 = (-5 : Int32) then c1 (f_L_setUp L xs 0 (0 : Int32) w38) (fun w41 => c1 (f_X7_count 0 (0 : Int32) w41) (fun v43 => c1 (f_X7_count 0 (1 : Int32) w41) (fun v45 => wl3 (fun (x46 : Int32) (w47 : Wd) (n48 : Nat) k49 => (if (4 : Int32) ≤ x46 then some (1 : Int32) else c2 (f_X7_rule 0 x46 w47) (fun v53 w54 => mk n48 (0 + 143) 9 36 (lt2 (n48 + 1) (clr w54 n48) (fun n55 w56 => wl2 (fun (x59 : Int32) (w60 : Wd) k61 => (if v43 < x59 then wl2 (fun (x64 : Int32) (w65 : Wd) k66 => (if v43 < x64 then c2 (f_X7_shape 0 v43 v45 (1 : Int32) w65) (fun v70 w71 => wl4 (fun (x72 : Int32) (x73 : Int32) (x74 : Int32) (w75 : Wd) k76 => (if (77 : Int32) ≤ x74 then c2 (f_X7_shape 0 v43 v45 (0 : Int32) w75) (fun v80 w81 => (if x72 = v80 then (if x73 = x72 then c2 (f_X7_turned 0 v43 v45 (0 : Int32) w81) (fun v85 w86 => (if v85 = v70 then jn (fun (w89 : Wd) => jn (fun (w92 : Wd) => c2 (f_X7_fits 0 x46 w92) (fun v95 w96 => (if v95 = (1 : Int32) then wl2 (fun (x98 : Int32) (x99 : Int32) k100 => (if v43 < x99 then c2 (f_X7_back 0 x46 w96) (fun v104 w105 => (if v104 = x98 then c1 (f_X7_count 0 (2 : Int32) w105) (fun v108 => (if v108 = x46 then c2 (f_X7_undo 0 w105) (fun v111 w112 => (if 0 ≤ v111 then c2 (f_X7_again 0 w112) (fun v115 w116 => wl1 (fun (x117 : Int32) k118 => (if v43 < x117 then c2 (f_X7_shape 0 v43 v45 (0 : Int32) w116) (fun v122 w123 => (if v122 = x72 then c2 (f_X7_undo 0 w123) (fun v126 w127 => lt (x46 + (1 : Int32)) (fun x128 => k49 x128 w127 n55)) else some (0 : Int32))) else wl1 (fun (x130 : Int32) k131 => (if v45 < x130 then lt (x117 + (1 : Int32)) (fun x134 => k118 x134) else c1 (f_X7_cell 0 x117 x130 w116) (fun v137 => ix (((6 : Int32) * x117) + x130) (ln n48) (fun j138 => (if v137 = (w116.1 n48 j138) then lt (x130 + (1 : Int32)) (fun x140 => k131 x140) else some (0 : Int32)))))) fu (1 : Int32))) fu (1 : Int32)) else some (0 : Int32))) else some (0 : Int32))) else some (0 : Int32))) else wl2 (fun (x142 : Int32) (x143 : Int32) k144 => (if v45 < x143 then lt (x99 + (1 : Int32)) (fun x147 => k100 x142 x147) else c1 (f_X7_cell 0 x99 x143 w96) (fun v150 => ix (((6 : Int32) * x99) + x143) (ln n48) (fun j151 => lt (if v150 = (w96.1 n48 j151) then (0 : Int32) else (1 : Int32)) (fun x153 => lt (x142 + x153) (fun x154 => lt (x143 + (1 : Int32)) (fun x156 => k144 x154 x156))))))) fu x98 (1 : Int32))) fu (0 : Int32) (1 : Int32) else some (0 : Int32)))) (fun j93 => (if x46 = (3 : Int32) then c2 (f_X7_part 0 v43 v45 (0 : Int32) w89) (fun v160 w161 => c2 (f_X7_longest 0 (1 : Int32) (1 : Int32) w161) (fun v163 w164 => (if v160 = v163 then c2 (f_X7_longest 0 (2 : Int32) (0 : Int32) w164) (fun v167 w168 => (if v70 = v167 then j93 w168 else some (0 : Int32))) else some (0 : Int32)))) else j93 w89))) (fun j90 => (if x46 = 0 then c2 (f_X7_part 0 v43 v45 (0 : Int32) w86) (fun v171 w172 => c2 (f_X7_longest 0 (0 : Int32) (0 : Int32) w172) (fun v174 w175 => (if v171 = v174 then c2 (f_X7_longest 0 (3 : Int32) (1 : Int32) w175) (fun v178 w179 => (if v70 = v178 then j90 w179 else some (0 : Int32))) else some (0 : Int32)))) else j90 w86)) else some (0 : Int32))) else some (0 : Int32)) else some (0 : Int32))) else c2 (f_X7_part 0 v43 v45 x74 w75) (fun v182 w183 => lt (x72 + v182) (fun x184 => c2 (f_X7_turned 0 v43 v45 x74 w183) (fun v187 w188 => lt (x73 + v187) (fun x189 => c2 (f_X7_part 0 v43 v45 (x74 + (1 : Int32)) w188) (fun v192 w193 => c2 (f_X7_part 0 v43 v45 x74 w193) (fun v195 w196 => (if v195 < v192 then some (0 : Int32) else c2 (f_X7_turned 0 v43 v45 (x74 + (1 : Int32)) w196) (fun v199 w200 => c2 (f_X7_turned 0 v43 v45 x74 w200) (fun v202 w203 => (if v202 < v199 then some (0 : Int32) else c2 (f_X7_part 0 v43 v45 x74 w203) (fun v206 w207 => lt (if v206 ≤ 0 then (0 : Int32) else (1 : Int32)) (fun x209 => lt (if v70 ≤ x74 then (0 : Int32) else (1 : Int32)) (fun x211 => (if x209 = x211 then lt (x74 + (1 : Int32)) (fun x213 => k76 x184 x189 x213 w207) else some (0 : Int32))))))))))))))))) fu (0 : Int32) (0 : Int32) (0 : Int32) w71) else wl2 (fun (x217 : Int32) (w218 : Wd) k219 => (if v45 < x217 then lt (x64 + (1 : Int32)) (fun x222 => k66 x222 w218) else wl2 (fun (x224 : Int32) (x225 : Int32) k226 => (if x64 < x225 then c2 (f_X7_shape 0 x64 x217 (0 : Int32) w218) (fun v230 w231 => (if v230 = x224 then lt (x217 + (1 : Int32)) (fun x233 => k219 x233 w231) else some (0 : Int32))) else wl2 (fun (x235 : Int32) (x236 : Int32) k237 => (if x217 < x236 then lt (x225 + (1 : Int32)) (fun x240 => k226 x235 x240) else ix (((6 : Int32) * x225) + x236) (ln n48) (fun j242 => lt (x235 + (w218.1 n48 j242)) (fun x243 => lt (x236 + (1 : Int32)) (fun x245 => k237 x243 x245))))) fu x224 (1 : Int32))) fu (0 : Int32) (1 : Int32))) fu (0 : Int32) w65)) fu (0 : Int32) w60 else wl2 (fun (x247 : Int32) (w248 : Wd) k249 => (if v45 < x247 then lt (x59 + (1 : Int32)) (fun x252 => k61 x252 w248) else lt (((6 : Int32) * x59) + x247) (fun x254 => jn (fun (x257 : Int32) => ix x254 (ln n48) (fun j259 => lt (upI w248 n48 j259 x257) (fun w260 => lt (x247 + (1 : Int32)) (fun x261 => k249 x261 w260)))) (fun j258 => jn (c1 (f_X7_cell 0 x59 x247 w248) (fun v265 => lt (if v265 < (1 : Int32) then v265 else (1 : Int32)) (fun x266 => j258 x266))) (fun j263 => (if x46 = (1 : Int32) then j263 else (if x46 = (2 : Int32) then j263 else c1 (f_X7_cell 0 x59 x247 w248) (fun v270 => j258 v270)))))))) fu (1 : Int32) w60)) fu (1 : Int32) w56))))) fu (0 : Int32) w41 139))) else some (0 : Int32))) else some (0 : Int32))) else some (0 : Int32))) else some (0 : Int32))) else some (0 : Int32))) else some (0 : Int32))) else some (0 : Int32))) else some (0 : Int32))) else some (0 : Int32))) else some (0 : Int32))) else some (0 : Int32)))
def w00 : Wd := (fun _ _ => 0, fun _ _ => none)
def f_law (L : Nat) (xs : Nat → Int32) : Option Int32 := mk 0 (0 + 143) 7 0 (lt2 (0 + 1) (clr w00 0) (fun n1 w1 => c1 (f_X7_init 0 n1 w1) (fun w2 => if n1 + 138 ≤ 0 + 143 then lt2 (n1 + 138) w2 (fun n2 w3 => f_main L xs w3) else none)))
theorem z_room {n : Nat} (h : n ≤ 143) : n - 0 ≤ room_1.cells ∧ 2880 * (n - 0) ≤ room_1.slots := by
  show n - 0 ≤ 600000 ∧ 2880 * (n - 0) ≤ 7302249
  omega
set_option maxHeartbeats 8000000 in
set_option maxRecDepth 100000 in
theorem m_main (l : Launch) {p : Program} {e : Env} {s : State} {m : MethodId} {below : List Frame} {meth : Method} {c : Code} {b L : Nat} {xs : Nat → Int32} {B : Nat} {D : DD} (X : Cx p s m #[Value.ref b] c code "GrowthGridLaw" D) (hml : c.maxLocals = 12) (hr : meth.sig.returnType = ret) (hlk : meth.locks = false) (hX : va_X b L xs s s.heap) (hbl : b < s.heap.size) (hbA : ¬ (fun q : Nat => B ≤ q) b) (hBs : B = s.heap.size) {w : Wd} (hf : f_main L xs w = some (1 : Int32)) {H : Heap} {locs : List Loc} {ls : Array Slot} (hh : Hp B D 139 w s H locs) (hl : lv_has ls 12 [(0, .ref b)]) : W p l e room_1 s m #[Value.ref b] below meth c H locs (139 - 0) (2880 * (139 - 0)) (lw_Z below #[Value.ref b] s) (F0 m 7 ls [.ref (B + 0)]) := by
  have hx := X.1
  have hb := X.2.1
  have hg0 : 0 < 139 ∧ kd 0 = 7 := ⟨by decide, by decide⟩
  have hN : 139 ≤ 139 := Nat.le_refl _
  have hZ := z_room (n := 139) (by decide)
  have hRR : 0 + 143 ≤ 0 + room_1.cells ∧ 2880 * (0 + 143 - 0) ≤ room_1.slots := ⟨Nat.le_of_ble_eq_true rfl, Nat.le_of_ble_eq_true rfl⟩
  unfold f_main at hf
  refine lv_astore_n (lv' := [(1, .ref (B + 0)), (0, .ref b)]) hx hb dL_law_7 rfl hl (by decide) rfl (fun ls hl => ?_)
  refine lv_aload_n hx hb dL_law_8 rfl (lv_at hl 0 rfl) ?_
  refine lv_iconst (v := (0 : Int32)) hx hb dL_law_9 (by decide) ?_
  obtain ⟨v2, hc1, hf⟩ := c1_e hf
  refine q_V (w' := w) (rest := []) X hml hh (some (.int v2)) (m_X7_count l B D hN hg0 hc1) cf_X7_count k_422 hg0 ci_7 rfl rfl hl.1 rfl (Nat.le_of_ble_eq_true rfl) ⟨Nat.le_of_ble_eq_true rfl, Nat.le_of_ble_eq_true rfl⟩ hZ dL_law_10 rfl (fun H locs hh => ?_)
  refine lv_iconst (v := (3 : Int32)) hx hb dL_law_13 (by decide) ?_
  refine lv_icmp_ne (tgt := 107) hx hb dL_law_14 (by decide) (fun hc3 => ?_) (fun hc3 => ?_)
  · have hf := if_f hc3 hf
    refine lv_iconst (v := (0 : Int32)) hx hb dL_law_107 (by decide) ?_
    exact absurd (so_e hf) (by decide)
  · have hf := if_t hc3 hf
    refine lv_aload_n hx hb dL_law_17 rfl (lv_at hl 0 rfl) ?_
    refine lv_iconst (v := (1 : Int32)) hx hb dL_law_18 (by decide) ?_
    obtain ⟨v5, hc4, hf⟩ := c1_e hf
    refine q_V (w' := w) (rest := []) X hml hh (some (.int v5)) (m_X7_count l B D hN hg0 hc4) cf_X7_count k_422 hg0 ci_7 rfl rfl hl.1 rfl (Nat.le_of_ble_eq_true rfl) ⟨Nat.le_of_ble_eq_true rfl, Nat.le_of_ble_eq_true rfl⟩ hZ dL_law_19 rfl (fun H locs hh => ?_)
    refine lv_iconst (v := (3 : Int32)) hx hb dL_law_22 (by decide) ?_
    refine lv_icmp_ne (tgt := 107) hx hb dL_law_23 (by decide) (fun hc6 => ?_) (fun hc6 => ?_)
    · have hf := if_f hc6 hf
      refine lv_iconst (v := (0 : Int32)) hx hb dL_law_107 (by decide) ?_
      exact absurd (so_e hf) (by decide)
    · have hf := if_t hc6 hf
      refine lv_aload_n hx hb dL_law_26 rfl (lv_at hl 0 rfl) ?_
      refine lv_iconst (v := (2 : Int32)) hx hb dL_law_27 (by decide) ?_
      obtain ⟨v8, hc7, hf⟩ := c1_e hf
      refine q_V (w' := w) (rest := []) X hml hh (some (.int v8)) (m_X7_count l B D hN hg0 hc7) cf_X7_count k_422 hg0 ci_7 rfl rfl hl.1 rfl (Nat.le_of_ble_eq_true rfl) ⟨Nat.le_of_ble_eq_true rfl, Nat.le_of_ble_eq_true rfl⟩ hZ dL_law_28 rfl (fun H locs hh => ?_)
      refine lv_if_ne (tgt := 107) hx hb dL_law_31 (by decide) (fun hc9 => ?_) (fun hc9 => ?_)
      · have hf := if_f hc9 hf
        refine lv_iconst (v := (0 : Int32)) hx hb dL_law_107 (by decide) ?_
        exact absurd (so_e hf) (by decide)
      · have hf := if_t hc9 hf
        refine lv_aload_n hx hb dL_law_34 rfl (lv_at hl 0 rfl) ?_
        refine lv_iconst (v := (3 : Int32)) hx hb dL_law_35 (by decide) ?_
        obtain ⟨v11, hc10, hf⟩ := c1_e hf
        refine q_V (w' := w) (rest := []) X hml hh (some (.int v11)) (m_X7_count l B D hN hg0 hc10) cf_X7_count k_422 hg0 ci_7 rfl rfl hl.1 rfl (Nat.le_of_ble_eq_true rfl) ⟨Nat.le_of_ble_eq_true rfl, Nat.le_of_ble_eq_true rfl⟩ hZ dL_law_36 rfl (fun H locs hh => ?_)
        refine lv_if_ne (tgt := 107) hx hb dL_law_39 (by decide) (fun hc12 => ?_) (fun hc12 => ?_)
        · have hf := if_f hc12 hf
          refine lv_iconst (v := (0 : Int32)) hx hb dL_law_107 (by decide) ?_
          exact absurd (so_e hf) (by decide)
        · have hf := if_t hc12 hf
          refine lv_aload_n hx hb dL_law_42 rfl (lv_at hl 0 rfl) ?_
          refine lv_iconst (v := (3 : Int32)) hx hb dL_law_43 (by decide) ?_
          refine lv_iconst (v := (3 : Int32)) hx hb dL_law_44 (by decide) ?_
          refine lv_iconst (v := (0 : Int32)) hx hb dL_law_45 (by decide) ?_
          obtain ⟨v14, w15, hc13, hf⟩ := c2_e hf
          refine q_V (w' := w15) (rest := []) X hml hh (some (.int v14)) (m_X7_shape l B D hN hg0 hc13) cf_X7_shape k_298 hg0 ci_7 rfl rfl hl.1 rfl (Nat.le_of_ble_eq_true rfl) ⟨Nat.le_of_ble_eq_true rfl, Nat.le_of_ble_eq_true rfl⟩ hZ dL_law_46 rfl (fun H locs hh => ?_)
          refine lv_if_ne (tgt := 107) hx hb dL_law_49 (by decide) (fun hc16 => ?_) (fun hc16 => ?_)
          · have hf := if_f hc16 hf
            refine lv_iconst (v := (0 : Int32)) hx hb dL_law_107 (by decide) ?_
            exact absurd (so_e hf) (by decide)
          · have hf := if_t hc16 hf
            refine lv_aload_n hx hb dL_law_52 rfl (lv_at hl 0 rfl) ?_
            obtain ⟨v18, hc17, hf⟩ := c1_e hf
            refine q_V (w' := w15) (rest := []) X hml hh (some (.int v18)) (m_X7_spelled l B D hN hg0 hc17) cf_X7_spelled k_233 hg0 ci_7 rfl rfl hl.1 rfl (Nat.le_of_ble_eq_true rfl) ⟨Nat.le_of_ble_eq_true rfl, Nat.le_of_ble_eq_true rfl⟩ hZ dL_law_53 rfl (fun H locs hh => ?_)
            refine lv_if_ne (tgt := 107) hx hb dL_law_56 (by decide) (fun hc19 => ?_) (fun hc19 => ?_)
            · have hf := if_f hc19 hf
              refine lv_iconst (v := (0 : Int32)) hx hb dL_law_107 (by decide) ?_
              exact absurd (so_e hf) (by decide)
            · have hf := if_t hc19 hf
              refine lv_aload_n hx hb dL_law_59 rfl (lv_at hl 0 rfl) ?_
              refine lv_iconst (v := (3 : Int32)) hx hb dL_law_60 (by decide) ?_
              obtain ⟨v21, w22, hc20, hf⟩ := c2_e hf
              refine q_V (w' := w22) (rest := []) X hml hh (some (.int v21)) (m_X7_fits l B D hN hg0 hc20) cf_X7_fits k_330 hg0 ci_7 rfl rfl hl.1 rfl (Nat.le_of_ble_eq_true rfl) ⟨Nat.le_of_ble_eq_true rfl, Nat.le_of_ble_eq_true rfl⟩ hZ dL_law_61 rfl (fun H locs hh => ?_)
              refine lv_iconst (v := (1 : Int32)) hx hb dL_law_64 (by decide) ?_
              refine lv_icmp_ne (tgt := 107) hx hb dL_law_65 (by decide) (fun hc23 => ?_) (fun hc23 => ?_)
              · have hf := if_f hc23 hf
                refine lv_iconst (v := (0 : Int32)) hx hb dL_law_107 (by decide) ?_
                exact absurd (so_e hf) (by decide)
              · have hf := if_t hc23 hf
                refine lv_aload_n hx hb dL_law_68 rfl (lv_at hl 0 rfl) ?_
                refine lv_iconst (v := (3 : Int32)) hx hb dL_law_69 (by decide) ?_
                refine lv_iconst (v := (3 : Int32)) hx hb dL_law_70 (by decide) ?_
                obtain ⟨v25, w26, hc24, hf⟩ := c2_e hf
                refine q_V (w' := w26) (rest := []) X hml hh (some (.long v25)) (m_X7_standard l B D hN hg0 hc24) cf_X7_standard k_310 hg0 ci_7 rfl rfl hl.1 rfl (Nat.le_of_ble_eq_true rfl) ⟨Nat.le_of_ble_eq_true rfl, Nat.le_of_ble_eq_true rfl⟩ hZ dL_law_71 rfl (fun H locs hh => ?_)
                refine lv_lconst (v := (1 : Int64)) hx hb dL_law_74 (by decide) ?_
                refine W.lcmp hx hb dL_law_75 ?_
                refine lv_if_ne (tgt := 107) hx hb dL_law_76 (by decide) (fun hc27 => ?_) (fun hc27 => ?_)
                · have hf := if_f hc27 hf
                  refine lv_iconst (v := (0 : Int32)) hx hb dL_law_107 (by decide) ?_
                  exact absurd (so_e hf) (by decide)
                · have hf := if_t hc27 hf
                  refine lv_aload_n hx hb dL_law_79 rfl (lv_at hl 0 rfl) ?_
                  refine lv_iconst (v := (0 : Int32)) hx hb dL_law_80 (by decide) ?_
                  refine lv_iconst (v := (0 : Int32)) hx hb dL_law_81 (by decide) ?_
                  obtain ⟨v29, w30, hc28, hf⟩ := c2_e hf
                  refine q_V (w' := w30) (rest := []) X hml hh (some (.int v29)) (m_X7_product l B D hN hg0 hc28) cf_X7_product k_321 hg0 ci_7 rfl rfl hl.1 rfl (Nat.le_of_ble_eq_true rfl) ⟨Nat.le_of_ble_eq_true rfl, Nat.le_of_ble_eq_true rfl⟩ hZ dL_law_82 rfl (fun H locs hh => ?_)
                  refine lv_iconst (v := (1 : Int32)) hx hb dL_law_85 (by decide) ?_
                  refine lv_icmp_ne (tgt := 107) hx hb dL_law_86 (by decide) (fun hc31 => ?_) (fun hc31 => ?_)
                  · have hf := if_f hc31 hf
                    refine lv_iconst (v := (0 : Int32)) hx hb dL_law_107 (by decide) ?_
                    exact absurd (so_e hf) (by decide)
                  · have hf := if_t hc31 hf
                    refine lv_aload_n hx hb dL_law_89 rfl (lv_at hl 0 rfl) ?_
                    obtain ⟨v33, w34, hc32, hf⟩ := c2_e hf
                    refine q_V (w' := w34) (rest := []) X hml hh (some (.int v33)) (m_X7_undo l B D hN hg0 hc32) cf_X7_undo k_386 hg0 ci_7 rfl rfl hl.1 rfl (Nat.le_of_ble_eq_true rfl) ⟨Nat.le_of_ble_eq_true rfl, Nat.le_of_ble_eq_true rfl⟩ hZ dL_law_90 rfl (fun H locs hh => ?_)
                    refine lv_bipush (v := (-5 : Int32)) hx hb dL_law_93 (by decide) ?_
                    refine lv_icmp_ne (tgt := 107) hx hb dL_law_95 (by decide) (fun hc35 => ?_) (fun hc35 => ?_)
                    · have hf := if_f hc35 hf
                      refine lv_iconst (v := (0 : Int32)) hx hb dL_law_107 (by decide) ?_
                      exact absurd (so_e hf) (by decide)
                    · have hf := if_t hc35 hf
                      refine lv_aload_n hx hb dL_law_98 rfl (lv_at hl 0 rfl) ?_
                      obtain ⟨v37, w38, hc36, hf⟩ := c2_e hf
                      refine q_V (w' := w38) (rest := []) X hml hh (some (.int v37)) (m_X7_restore l B D hN hg0 hc36) cf_X7_restore k_410 hg0 ci_7 rfl rfl hl.1 rfl (Nat.le_of_ble_eq_true rfl) ⟨Nat.le_of_ble_eq_true rfl, Nat.le_of_ble_eq_true rfl⟩ hZ dL_law_99 rfl (fun H locs hh => ?_)
                      refine lv_bipush (v := (-5 : Int32)) hx hb dL_law_102 (by decide) ?_
                      refine lv_icmp_eq (tgt := 109) hx hb dL_law_104 (by decide) (fun hc39 => ?_) (fun hc39 => ?_)
                      · have hf := if_t hc39 hf
                        refine lv_aload_n hx hb dL_law_109 rfl (lv_at hl 0 rfl) ?_
                        refine lv_aload_n hx hb dL_law_110 rfl (lv_at hl 1 rfl) ?_
                        refine lv_iconst (v := (0 : Int32)) hx hb dL_law_111 (by decide) ?_
                        obtain ⟨w41, hc40, hf⟩ := c1_e hf
                        refine q_SX (w' := w41) (rest := []) X hml hh hX hbl hbA none (m_L_setUp l B D hN hg0 hc40) cf_L_setUp k_430 rfl hl.1 rfl (Nat.le_of_ble_eq_true rfl) ⟨Nat.le_of_ble_eq_true rfl, Nat.le_of_ble_eq_true rfl⟩ hZ dL_law_112 rfl (fun H locs hh => ?_)
                        refine lv_aload_n hx hb dL_law_115 rfl (lv_at hl 0 rfl) ?_
                        refine lv_iconst (v := (0 : Int32)) hx hb dL_law_116 (by decide) ?_
                        obtain ⟨v43, hc42, hf⟩ := c1_e hf
                        refine q_V (w' := w41) (rest := []) X hml hh (some (.int v43)) (m_X7_count l B D hN hg0 hc42) cf_X7_count k_422 hg0 ci_7 rfl rfl hl.1 rfl (Nat.le_of_ble_eq_true rfl) ⟨Nat.le_of_ble_eq_true rfl, Nat.le_of_ble_eq_true rfl⟩ hZ dL_law_117 rfl (fun H locs hh => ?_)
                        refine lv_istore_n (lv' := [(2, .int v43), (1, .ref (B + 0)), (0, .ref b)]) hx hb dL_law_120 rfl hl (by decide) rfl (fun ls hl => ?_)
                        refine lv_aload_n hx hb dL_law_121 rfl (lv_at hl 1 rfl) ?_
                        refine lv_iconst (v := (1 : Int32)) hx hb dL_law_122 (by decide) ?_
                        obtain ⟨v45, hc44, hf⟩ := c1_e hf
                        refine q_V (w' := w41) (rest := []) X hml hh (some (.int v45)) (m_X7_count l B D hN hg0 hc44) cf_X7_count k_422 hg0 ci_7 rfl rfl hl.1 rfl (Nat.le_of_ble_eq_true rfl) ⟨Nat.le_of_ble_eq_true rfl, Nat.le_of_ble_eq_true rfl⟩ hZ dL_law_123 rfl (fun H locs hh => ?_)
                        refine lv_istore_n (lv' := [(3, .int v45), (2, .int v43), (1, .ref (B + 0)), (0, .ref b)]) hx hb dL_law_126 rfl hl (by decide) rfl (fun ls hl => ?_)
                        refine lv_iconst (v := (0 : Int32)) hx hb dL_law_127 (by decide) ?_
                        refine lv_istore (lv' := [(4, .int (0 : Int32)), (3, .int v45), (2, .int v43), (1, .ref (B + 0)), (0, .ref b)]) hx hb dL_law_128 hl (by decide) rfl (fun ls hl => ?_)
                        refine wl3_W (P := fun (x46 : Int32) (w47 : Wd) (n48 : Nat) => 139 ≤ n48 → n48 ≤ 143 → ∀ (H : Heap) (locs : List Loc) (ls : Array Slot), Hp B D n48 w47 s H locs → lv_has ls 12 [(1, .ref (B + 0)), (2, .int v43), (3, .int v45), (4, .int x46)] → W p l e room_1 s m #[Value.ref b] below meth c H locs (n48 - 0) (2880 * (n48 - 0)) (lw_Z below #[Value.ref b] s) (F0 m 130 ls [])) hf (fun x46 w47 n48 k49 ih50 hf hN hM H locs ls hh hl => ?_) (by omega) (by omega) _ _ _ hh (lv_sub hl [3, 2, 1, 0] rfl)
                        have hZ := z_room hM
                        have hg0 : 0 < n48 ∧ kd 0 = 7 := ⟨by omega, hg0.2⟩
                        refine lv_iload hx hb dL_law_130 (lv_at hl 3 rfl) ?_
                        refine lv_iconst (v := (4 : Int32)) hx hb dL_law_132 (by decide) ?_
                        refine lv_icmp_ge (tgt := 747) hx hb dL_law_133 (by decide) (fun hc51 => ?_) (fun hc51 => ?_)
                        · have hf := if_t hc51 hf
                          refine lv_iconst (v := (1 : Int32)) hx hb dL_law_747 (by decide) ?_
                          refine va_forget (fun q hq => by rw [← hBs]; exact hh.2.2.2 q hq) ?_
                          refine W.widen (k := 600000) (n := 7302249) (by omega) (by omega) ?_
                          exact lw_ret hx hb hr hlk dL_law_748
                        · have hf := if_f hc51 hf
                          refine lv_aload_n hx hb dL_law_136 rfl (lv_at hl 0 rfl) ?_
                          refine lv_iload hx hb dL_law_137 (lv_at hl 3 rfl) ?_
                          obtain ⟨v53, w54, hc52, hf⟩ := c2_e hf
                          refine q_V (w' := w54) (rest := []) X hml hh (some (.int v53)) (m_X7_rule l B D hN hg0 hc52) cf_X7_rule k_210 hg0 ci_7 rfl rfl hl.1 rfl (Nat.le_of_ble_eq_true rfl) ⟨Nat.le_of_ble_eq_true rfl, Nat.le_of_ble_eq_true rfl⟩ hZ dL_law_139 rfl (fun H locs hh => ?_)
                          refine lv_pop hx hb dL_law_142 rfl ?_
                          refine lv_bipush (v := (36 : Int32)) hx hb dL_law_143 (by decide) ?_
                          refine r_newa (n0 := 0) (len := 36) X hh k_51 (by decide) (by decide) (by decide) (by omega) hRR dL_law_145 hf (fun n55 w56 H e57 h58 hf hh => ?_)
                          have hM : n55 ≤ 143 := by have := kd_b (t := n48) (by rw [h58.2]; decide); omega
                          have hN : 139 ≤ n55 := by omega
                          have hZ := z_room hM
                          have hg0 : 0 < n55 ∧ kd 0 = 7 := ⟨by omega, hg0.2⟩
                          refine lv_astore (lv' := [(5, .ref (B + n48)), (1, .ref (B + 0)), (2, .int v43), (3, .int v45), (4, .int x46)]) hx hb dL_law_147 hl (by decide) rfl (fun ls hl => ?_)
                          refine lv_iconst (v := (1 : Int32)) hx hb dL_law_149 (by decide) ?_
                          refine lv_istore (lv' := [(6, .int (1 : Int32)), (5, .ref (B + n48)), (1, .ref (B + 0)), (2, .int v43), (3, .int v45), (4, .int x46)]) hx hb dL_law_150 hl (by decide) rfl (fun ls hl => ?_)
                          refine wl2_W (P := fun (x59 : Int32) (w60 : Wd) => ∀ (H : Heap) (locs : List Loc) (ls : Array Slot), Hp B D n55 w60 s H locs → lv_has ls 12 [(1, .ref (B + 0)), (2, .int v43), (3, .int v45), (4, .int x46), (5, .ref (B + n48)), (6, .int x59)] → W p l e room_1 s m #[Value.ref b] below meth c H locs (n55 - 0) (2880 * (n55 - 0)) (lw_Z below #[Value.ref b] s) (F0 m 152 ls [])) hf (fun x59 w60 k61 ih62 hf  H locs ls hh hl => ?_)  _ _ _ hh (lv_sub hl [2, 3, 4, 5, 1, 0] rfl)
                          refine lv_iload hx hb dL_law_152 (lv_at hl 5 rfl) ?_
                          refine lv_iload_n hx hb dL_law_154 rfl (lv_at hl 1 rfl) ?_
                          refine lv_icmp_gt (tgt := 225) hx hb dL_law_155 (by decide) (fun hc63 => ?_) (fun hc63 => ?_)
                          · have hf := if_t hc63 hf
                            refine lv_iconst (v := (0 : Int32)) hx hb dL_law_225 (by decide) ?_
                            refine lv_istore (lv' := [(6, .int (0 : Int32)), (1, .ref (B + 0)), (2, .int v43), (3, .int v45), (4, .int x46), (5, .ref (B + n48))]) hx hb dL_law_226 hl (by decide) rfl (fun ls hl => ?_)
                            refine wl2_W (P := fun (x64 : Int32) (w65 : Wd) => ∀ (H : Heap) (locs : List Loc) (ls : Array Slot), Hp B D n55 w65 s H locs → lv_has ls 12 [(1, .ref (B + 0)), (2, .int v43), (3, .int v45), (4, .int x46), (5, .ref (B + n48)), (6, .int x64)] → W p l e room_1 s m #[Value.ref b] below meth c H locs (n55 - 0) (2880 * (n55 - 0)) (lw_Z below #[Value.ref b] s) (F0 m 228 ls [])) hf (fun x64 w65 k66 ih67 hf  H locs ls hh hl => ?_)  _ _ _ hh (lv_sub hl [1, 2, 3, 4, 5, 0] rfl)
                            refine lv_iload hx hb dL_law_228 (lv_at hl 5 rfl) ?_
                            refine lv_iload_n hx hb dL_law_230 rfl (lv_at hl 1 rfl) ?_
                            refine lv_icmp_gt (tgt := 322) hx hb dL_law_231 (by decide) (fun hc68 => ?_) (fun hc68 => ?_)
                            · have hf := if_t hc68 hf
                              refine lv_aload_n hx hb dL_law_322 rfl (lv_at hl 0 rfl) ?_
                              refine lv_iload_n hx hb dL_law_323 rfl (lv_at hl 1 rfl) ?_
                              refine lv_iload_n hx hb dL_law_324 rfl (lv_at hl 2 rfl) ?_
                              refine lv_iconst (v := (1 : Int32)) hx hb dL_law_325 (by decide) ?_
                              obtain ⟨v70, w71, hc69, hf⟩ := c2_e hf
                              refine q_V (w' := w71) (rest := []) X hml hh (some (.int v70)) (m_X7_shape l B D hN hg0 hc69) cf_X7_shape k_298 hg0 ci_7 rfl rfl hl.1 rfl (Nat.le_of_ble_eq_true rfl) ⟨Nat.le_of_ble_eq_true rfl, Nat.le_of_ble_eq_true rfl⟩ hZ dL_law_326 rfl (fun H locs hh => ?_)
                              refine lv_istore (lv' := [(6, .int v70), (1, .ref (B + 0)), (2, .int v43), (3, .int v45), (4, .int x46), (5, .ref (B + n48))]) hx hb dL_law_329 hl (by decide) rfl (fun ls hl => ?_)
                              refine lv_iconst (v := (0 : Int32)) hx hb dL_law_331 (by decide) ?_
                              refine lv_istore (lv' := [(7, .int (0 : Int32)), (6, .int v70), (1, .ref (B + 0)), (2, .int v43), (3, .int v45), (4, .int x46), (5, .ref (B + n48))]) hx hb dL_law_332 hl (by decide) rfl (fun ls hl => ?_)
                              refine lv_iconst (v := (0 : Int32)) hx hb dL_law_334 (by decide) ?_
                              refine lv_istore (lv' := [(8, .int (0 : Int32)), (7, .int (0 : Int32)), (6, .int v70), (1, .ref (B + 0)), (2, .int v43), (3, .int v45), (4, .int x46), (5, .ref (B + n48))]) hx hb dL_law_335 hl (by decide) rfl (fun ls hl => ?_)
                              refine lv_iconst (v := (0 : Int32)) hx hb dL_law_337 (by decide) ?_
                              refine lv_istore (lv' := [(9, .int (0 : Int32)), (8, .int (0 : Int32)), (7, .int (0 : Int32)), (6, .int v70), (1, .ref (B + 0)), (2, .int v43), (3, .int v45), (4, .int x46), (5, .ref (B + n48))]) hx hb dL_law_338 hl (by decide) rfl (fun ls hl => ?_)
                              refine wl4_W (P := fun (x72 : Int32) (x73 : Int32) (x74 : Int32) (w75 : Wd) => ∀ (H : Heap) (locs : List Loc) (ls : Array Slot), Hp B D n55 w75 s H locs → lv_has ls 12 [(1, .ref (B + 0)), (2, .int v43), (3, .int v45), (4, .int x46), (5, .ref (B + n48)), (6, .int v70), (7, .int x72), (8, .int x73), (9, .int x74)] → W p l e room_1 s m #[Value.ref b] below meth c H locs (n55 - 0) (2880 * (n55 - 0)) (lw_Z below #[Value.ref b] s) (F0 m 340 ls [])) hf (fun x72 x73 x74 w75 k76 ih77 hf  H locs ls hh hl => ?_)  _ _ _ hh (lv_sub hl [4, 5, 6, 7, 8, 3, 2, 1, 0] rfl)
                              refine lv_iload hx hb dL_law_340 (lv_at hl 8 rfl) ?_
                              refine lv_bipush (v := (77 : Int32)) hx hb dL_law_342 (by decide) ?_
                              refine lv_icmp_ge (tgt := 454) hx hb dL_law_344 (by decide) (fun hc78 => ?_) (fun hc78 => ?_)
                              · have hf := if_t hc78 hf
                                refine lv_iload hx hb dL_law_454 (lv_at hl 6 rfl) ?_
                                refine lv_aload_n hx hb dL_law_456 rfl (lv_at hl 0 rfl) ?_
                                refine lv_iload_n hx hb dL_law_457 rfl (lv_at hl 1 rfl) ?_
                                refine lv_iload_n hx hb dL_law_458 rfl (lv_at hl 2 rfl) ?_
                                refine lv_iconst (v := (0 : Int32)) hx hb dL_law_459 (by decide) ?_
                                obtain ⟨v80, w81, hc79, hf⟩ := c2_e hf
                                refine q_V (w' := w81) (rest := [.int x72]) X hml hh (some (.int v80)) (m_X7_shape l B D hN hg0 hc79) cf_X7_shape k_298 hg0 ci_7 rfl rfl hl.1 rfl (Nat.le_of_ble_eq_true rfl) ⟨Nat.le_of_ble_eq_true rfl, Nat.le_of_ble_eq_true rfl⟩ hZ dL_law_460 rfl (fun H locs hh => ?_)
                                refine lv_icmp_ne (tgt := 485) hx hb dL_law_463 (by decide) (fun hc82 => ?_) (fun hc82 => ?_)
                                · have hf := if_f hc82 hf
                                  refine lv_iconst (v := (0 : Int32)) hx hb dL_law_485 (by decide) ?_
                                  exact absurd (so_e hf) (by decide)
                                · have hf := if_t hc82 hf
                                  refine lv_iload hx hb dL_law_466 (lv_at hl 7 rfl) ?_
                                  refine lv_iload hx hb dL_law_468 (lv_at hl 6 rfl) ?_
                                  refine lv_icmp_ne (tgt := 485) hx hb dL_law_470 (by decide) (fun hc83 => ?_) (fun hc83 => ?_)
                                  · have hf := if_f hc83 hf
                                    refine lv_iconst (v := (0 : Int32)) hx hb dL_law_485 (by decide) ?_
                                    exact absurd (so_e hf) (by decide)
                                  · have hf := if_t hc83 hf
                                    refine lv_aload_n hx hb dL_law_473 rfl (lv_at hl 0 rfl) ?_
                                    refine lv_iload_n hx hb dL_law_474 rfl (lv_at hl 1 rfl) ?_
                                    refine lv_iload_n hx hb dL_law_475 rfl (lv_at hl 2 rfl) ?_
                                    refine lv_iconst (v := (0 : Int32)) hx hb dL_law_476 (by decide) ?_
                                    obtain ⟨v85, w86, hc84, hf⟩ := c2_e hf
                                    refine q_V (w' := w86) (rest := []) X hml hh (some (.int v85)) (m_X7_turned l B D hN hg0 hc84) cf_X7_turned k_302 hg0 ci_7 rfl rfl hl.1 rfl (Nat.le_of_ble_eq_true rfl) ⟨Nat.le_of_ble_eq_true rfl, Nat.le_of_ble_eq_true rfl⟩ hZ dL_law_477 rfl (fun H locs hh => ?_)
                                    refine lv_iload hx hb dL_law_480 (lv_at hl 5 rfl) ?_
                                    refine lv_icmp_eq (tgt := 487) hx hb dL_law_482 (by decide) (fun hc87 => ?_) (fun hc87 => ?_)
                                    · have hf := if_t hc87 hf
                                      refine lv_iload hx hb dL_law_487 (lv_at hl 3 rfl) ?_
                                      refine jn_W (P := fun j90 => ∀ (w89 : Wd), j90 w89 = some (1 : Int32) → ∀ (H : Heap) (locs : List Loc) (ls : Array Slot), Hp B D n55 w89 s H locs → lv_has ls 12 [(1, .ref (B + 0)), (2, .int v43), (3, .int v45), (4, .int x46), (5, .ref (B + n48)), (6, .int v70), (7, .int x72)] → W p l e room_1 s m #[Value.ref b] below meth c H locs (n55 - 0) (2880 * (n55 - 0)) (lw_Z below #[Value.ref b] s) (F0 m 521 ls [])) hf (fun w89 hf  H locs ls hh hl => ?_) (fun j90 hj90 hf => ?_)
                                      · refine lv_iload hx hb dL_law_521 (lv_at hl 3 rfl) ?_
                                        refine lv_iconst (v := (3 : Int32)) hx hb dL_law_523 (by decide) ?_
                                        refine jn_W (P := fun j93 => ∀ (w92 : Wd), j93 w92 = some (1 : Int32) → ∀ (H : Heap) (locs : List Loc) (ls : Array Slot), Hp B D n55 w92 s H locs → lv_has ls 12 [(1, .ref (B + 0)), (2, .int v43), (3, .int v45), (4, .int x46), (5, .ref (B + n48)), (7, .int x72)] → W p l e room_1 s m #[Value.ref b] below meth c H locs (n55 - 0) (2880 * (n55 - 0)) (lw_Z below #[Value.ref b] s) (F0 m 556 ls [])) hf (fun w92 hf  H locs ls hh hl => ?_) (fun j93 hj93 hf => ?_)
                                        · refine lv_aload_n hx hb dL_law_556 rfl (lv_at hl 0 rfl) ?_
                                          refine lv_iload hx hb dL_law_557 (lv_at hl 3 rfl) ?_
                                          obtain ⟨v95, w96, hc94, hf⟩ := c2_e hf
                                          refine q_V (w' := w96) (rest := []) X hml hh (some (.int v95)) (m_X7_fits l B D hN hg0 hc94) cf_X7_fits k_330 hg0 ci_7 rfl rfl hl.1 rfl (Nat.le_of_ble_eq_true rfl) ⟨Nat.le_of_ble_eq_true rfl, Nat.le_of_ble_eq_true rfl⟩ hZ dL_law_559 rfl (fun H locs hh => ?_)
                                          refine lv_iconst (v := (1 : Int32)) hx hb dL_law_562 (by decide) ?_
                                          refine lv_icmp_eq (tgt := 568) hx hb dL_law_563 (by decide) (fun hc97 => ?_) (fun hc97 => ?_)
                                          · have hf := if_t hc97 hf
                                            refine lv_iconst (v := (0 : Int32)) hx hb dL_law_568 (by decide) ?_
                                            refine lv_istore (lv' := [(9, .int (0 : Int32)), (1, .ref (B + 0)), (2, .int v43), (3, .int v45), (4, .int x46), (5, .ref (B + n48)), (7, .int x72)]) hx hb dL_law_569 hl (by decide) rfl (fun ls hl => ?_)
                                            refine lv_iconst (v := (1 : Int32)) hx hb dL_law_571 (by decide) ?_
                                            refine lv_istore (lv' := [(10, .int (1 : Int32)), (9, .int (0 : Int32)), (1, .ref (B + 0)), (2, .int v43), (3, .int v45), (4, .int x46), (5, .ref (B + n48)), (7, .int x72)]) hx hb dL_law_572 hl (by decide) rfl (fun ls hl => ?_)
                                            refine wl2_W (P := fun (x98 : Int32) (x99 : Int32) => ∀ (H : Heap) (locs : List Loc) (ls : Array Slot), Hp B D n55 w96 s H locs → lv_has ls 12 [(1, .ref (B + 0)), (2, .int v43), (3, .int v45), (4, .int x46), (5, .ref (B + n48)), (7, .int x72), (9, .int x98), (10, .int x99)] → W p l e room_1 s m #[Value.ref b] below meth c H locs (n55 - 0) (2880 * (n55 - 0)) (lw_Z below #[Value.ref b] s) (F0 m 574 ls [])) hf (fun x98 x99 k100 ih101 hf  H locs ls hh hl => ?_)  _ _ _ hh (lv_sub hl [2, 3, 4, 5, 6, 7, 1, 0] rfl)
                                            refine lv_iload hx hb dL_law_574 (lv_at hl 7 rfl) ?_
                                            refine lv_iload_n hx hb dL_law_576 rfl (lv_at hl 1 rfl) ?_
                                            refine lv_icmp_gt (tgt := 633) hx hb dL_law_577 (by decide) (fun hc102 => ?_) (fun hc102 => ?_)
                                            · have hf := if_t hc102 hf
                                              refine lv_aload_n hx hb dL_law_633 rfl (lv_at hl 0 rfl) ?_
                                              refine lv_iload hx hb dL_law_634 (lv_at hl 3 rfl) ?_
                                              obtain ⟨v104, w105, hc103, hf⟩ := c2_e hf
                                              refine q_V (w' := w105) (rest := []) X hml hh (some (.int v104)) (m_X7_back l B D hN hg0 hc103) cf_X7_back k_350 hg0 ci_7 rfl rfl hl.1 rfl (Nat.le_of_ble_eq_true rfl) ⟨Nat.le_of_ble_eq_true rfl, Nat.le_of_ble_eq_true rfl⟩ hZ dL_law_636 rfl (fun H locs hh => ?_)
                                              refine lv_iload hx hb dL_law_639 (lv_at hl 6 rfl) ?_
                                              refine lv_icmp_ne (tgt := 661) hx hb dL_law_641 (by decide) (fun hc106 => ?_) (fun hc106 => ?_)
                                              · have hf := if_f hc106 hf
                                                refine lv_iconst (v := (0 : Int32)) hx hb dL_law_661 (by decide) ?_
                                                exact absurd (so_e hf) (by decide)
                                              · have hf := if_t hc106 hf
                                                refine lv_aload_n hx hb dL_law_644 rfl (lv_at hl 0 rfl) ?_
                                                refine lv_iconst (v := (2 : Int32)) hx hb dL_law_645 (by decide) ?_
                                                obtain ⟨v108, hc107, hf⟩ := c1_e hf
                                                refine q_V (w' := w105) (rest := []) X hml hh (some (.int v108)) (m_X7_count l B D hN hg0 hc107) cf_X7_count k_422 hg0 ci_7 rfl rfl hl.1 rfl (Nat.le_of_ble_eq_true rfl) ⟨Nat.le_of_ble_eq_true rfl, Nat.le_of_ble_eq_true rfl⟩ hZ dL_law_646 rfl (fun H locs hh => ?_)
                                                refine lv_iload hx hb dL_law_649 (lv_at hl 3 rfl) ?_
                                                refine lv_icmp_ne (tgt := 661) hx hb dL_law_651 (by decide) (fun hc109 => ?_) (fun hc109 => ?_)
                                                · have hf := if_f hc109 hf
                                                  refine lv_iconst (v := (0 : Int32)) hx hb dL_law_661 (by decide) ?_
                                                  exact absurd (so_e hf) (by decide)
                                                · have hf := if_t hc109 hf
                                                  refine lv_aload_n hx hb dL_law_654 rfl (lv_at hl 0 rfl) ?_
                                                  obtain ⟨v111, w112, hc110, hf⟩ := c2_e hf
                                                  refine q_V (w' := w112) (rest := []) X hml hh (some (.int v111)) (m_X7_undo l B D hN hg0 hc110) cf_X7_undo k_386 hg0 ci_7 rfl rfl hl.1 rfl (Nat.le_of_ble_eq_true rfl) ⟨Nat.le_of_ble_eq_true rfl, Nat.le_of_ble_eq_true rfl⟩ hZ dL_law_655 rfl (fun H locs hh => ?_)
                                                  refine lv_if_ge (tgt := 663) hx hb dL_law_658 (by decide) (fun hc113 => ?_) (fun hc113 => ?_)
                                                  · have hf := if_t hc113 hf
                                                    refine lv_aload_n hx hb dL_law_663 rfl (lv_at hl 0 rfl) ?_
                                                    obtain ⟨v115, w116, hc114, hf⟩ := c2_e hf
                                                    refine q_V (w' := w116) (rest := []) X hml hh (some (.int v115)) (m_X7_again l B D hN hg0 hc114) cf_X7_again k_398 hg0 ci_7 rfl rfl hl.1 rfl (Nat.le_of_ble_eq_true rfl) ⟨Nat.le_of_ble_eq_true rfl, Nat.le_of_ble_eq_true rfl⟩ hZ dL_law_664 rfl (fun H locs hh => ?_)
                                                    refine lv_pop hx hb dL_law_667 rfl ?_
                                                    refine lv_iconst (v := (1 : Int32)) hx hb dL_law_668 (by decide) ?_
                                                    refine lv_istore (lv' := [(10, .int (1 : Int32)), (1, .ref (B + 0)), (2, .int v43), (3, .int v45), (4, .int x46), (5, .ref (B + n48)), (7, .int x72), (9, .int x98)]) hx hb dL_law_669 hl (by decide) rfl (fun ls hl => ?_)
                                                    refine wl1_W (P := fun (x117 : Int32) => ∀ (H : Heap) (locs : List Loc) (ls : Array Slot), Hp B D n55 w116 s H locs → lv_has ls 12 [(1, .ref (B + 0)), (2, .int v43), (3, .int v45), (4, .int x46), (5, .ref (B + n48)), (7, .int x72), (10, .int x117)] → W p l e room_1 s m #[Value.ref b] below meth c H locs (n55 - 0) (2880 * (n55 - 0)) (lw_Z below #[Value.ref b] s) (F0 m 671 ls [])) hf (fun x117 k118 ih119 hf  H locs ls hh hl => ?_)  _ _ _ hh (lv_sub hl [1, 2, 3, 4, 5, 6, 0] rfl)
                                                    refine lv_iload hx hb dL_law_671 (lv_at hl 6 rfl) ?_
                                                    refine lv_iload_n hx hb dL_law_673 rfl (lv_at hl 1 rfl) ?_
                                                    refine lv_icmp_gt (tgt := 722) hx hb dL_law_674 (by decide) (fun hc120 => ?_) (fun hc120 => ?_)
                                                    · have hf := if_t hc120 hf
                                                      refine lv_aload_n hx hb dL_law_722 rfl (lv_at hl 0 rfl) ?_
                                                      refine lv_iload_n hx hb dL_law_723 rfl (lv_at hl 1 rfl) ?_
                                                      refine lv_iload_n hx hb dL_law_724 rfl (lv_at hl 2 rfl) ?_
                                                      refine lv_iconst (v := (0 : Int32)) hx hb dL_law_725 (by decide) ?_
                                                      obtain ⟨v122, w123, hc121, hf⟩ := c2_e hf
                                                      refine q_V (w' := w123) (rest := []) X hml hh (some (.int v122)) (m_X7_shape l B D hN hg0 hc121) cf_X7_shape k_298 hg0 ci_7 rfl rfl hl.1 rfl (Nat.le_of_ble_eq_true rfl) ⟨Nat.le_of_ble_eq_true rfl, Nat.le_of_ble_eq_true rfl⟩ hZ dL_law_726 rfl (fun H locs hh => ?_)
                                                      refine lv_iload hx hb dL_law_729 (lv_at hl 5 rfl) ?_
                                                      refine lv_icmp_eq (tgt := 736) hx hb dL_law_731 (by decide) (fun hc124 => ?_) (fun hc124 => ?_)
                                                      · have hf := if_t hc124 hf
                                                        refine lv_aload_n hx hb dL_law_736 rfl (lv_at hl 0 rfl) ?_
                                                        obtain ⟨v126, w127, hc125, hf⟩ := c2_e hf
                                                        refine q_V (w' := w127) (rest := []) X hml hh (some (.int v126)) (m_X7_undo l B D hN hg0 hc125) cf_X7_undo k_386 hg0 ci_7 rfl rfl hl.1 rfl (Nat.le_of_ble_eq_true rfl) ⟨Nat.le_of_ble_eq_true rfl, Nat.le_of_ble_eq_true rfl⟩ hZ dL_law_737 rfl (fun H locs hh => ?_)
                                                        refine lv_pop hx hb dL_law_740 rfl ?_
                                                        obtain ⟨x128, e129⟩ : ∃ y : Int32, y = (x46 + (1 : Int32)) := ⟨_, rfl⟩
                                                        have hf := lt_e e129 hf
                                                        refine lv_iinc (v := x128) (lv' := [(4, .int x128), (1, .ref (B + 0)), (2, .int v43), (3, .int v45), (5, .ref (B + n48)), (7, .int x72), (10, .int x117)]) hx hb dL_law_741 hl (k := 3) rfl (by rw [e129]; rfl) (by decide) rfl (fun ls hl => ?_)
                                                        refine lv_goto (tgt := 130) hx hb dL_law_744 (by decide) ?_
                                                        exact ih50 _ _ _ hf hN hM _ _ _ hh (lv_sub hl [1, 2, 3, 0] rfl)
                                                      · have hf := if_f hc124 hf
                                                        refine lv_iconst (v := (0 : Int32)) hx hb dL_law_734 (by decide) ?_
                                                        exact absurd (so_e hf) (by decide)
                                                    · have hf := if_f hc120 hf
                                                      refine lv_iconst (v := (1 : Int32)) hx hb dL_law_677 (by decide) ?_
                                                      refine lv_istore (lv' := [(11, .int (1 : Int32)), (1, .ref (B + 0)), (2, .int v43), (3, .int v45), (4, .int x46), (5, .ref (B + n48)), (7, .int x72), (10, .int x117)]) hx hb dL_law_678 hl (by decide) rfl (fun ls hl => ?_)
                                                      refine wl1_W (P := fun (x130 : Int32) => ∀ (H : Heap) (locs : List Loc) (ls : Array Slot), Hp B D n55 w116 s H locs → lv_has ls 12 [(1, .ref (B + 0)), (2, .int v43), (3, .int v45), (4, .int x46), (5, .ref (B + n48)), (7, .int x72), (10, .int x117), (11, .int x130)] → W p l e room_1 s m #[Value.ref b] below meth c H locs (n55 - 0) (2880 * (n55 - 0)) (lw_Z below #[Value.ref b] s) (F0 m 680 ls [])) hf (fun x130 k131 ih132 hf  H locs ls hh hl => ?_)  _ _ _ hh (lv_sub hl [1, 2, 3, 4, 5, 6, 7, 0] rfl)
                                                      refine lv_iload hx hb dL_law_680 (lv_at hl 7 rfl) ?_
                                                      refine lv_iload_n hx hb dL_law_682 rfl (lv_at hl 2 rfl) ?_
                                                      refine lv_icmp_gt (tgt := 716) hx hb dL_law_683 (by decide) (fun hc133 => ?_) (fun hc133 => ?_)
                                                      · have hf := if_t hc133 hf
                                                        obtain ⟨x134, e135⟩ : ∃ y : Int32, y = (x117 + (1 : Int32)) := ⟨_, rfl⟩
                                                        have hf := lt_e e135 hf
                                                        refine lv_iinc (v := x134) (lv' := [(10, .int x134), (1, .ref (B + 0)), (2, .int v43), (3, .int v45), (4, .int x46), (5, .ref (B + n48)), (7, .int x72), (11, .int x130)]) hx hb dL_law_716 hl (k := 6) rfl (by rw [e135]; rfl) (by decide) rfl (fun ls hl => ?_)
                                                        refine lv_goto (tgt := 671) hx hb dL_law_719 (by decide) ?_
                                                        exact ih119 _ hf  _ _ _ hh (lv_sub hl [1, 2, 3, 4, 5, 6, 0] rfl)
                                                      · have hf := if_f hc133 hf
                                                        refine lv_aload_n hx hb dL_law_686 rfl (lv_at hl 0 rfl) ?_
                                                        refine lv_iload hx hb dL_law_687 (lv_at hl 6 rfl) ?_
                                                        refine lv_iload hx hb dL_law_689 (lv_at hl 7 rfl) ?_
                                                        obtain ⟨v137, hc136, hf⟩ := c1_e hf
                                                        refine q_V (w' := w116) (rest := []) X hml hh (some (.int v137)) (m_X7_cell l B D hN hg0 hc136) cf_X7_cell k_194 hg0 ci_7 rfl rfl hl.1 rfl (Nat.le_of_ble_eq_true rfl) ⟨Nat.le_of_ble_eq_true rfl, Nat.le_of_ble_eq_true rfl⟩ hZ dL_law_691 rfl (fun H locs hh => ?_)
                                                        refine lv_aload hx hb dL_law_694 (lv_at hl 4 rfl) ?_
                                                        refine lv_bipush (v := (6 : Int32)) hx hb dL_law_696 (by decide) ?_
                                                        refine lv_iload hx hb dL_law_698 (lv_at hl 6 rfl) ?_
                                                        refine lv_imul hx hb dL_law_700 ?_
                                                        refine lv_iload hx hb dL_law_701 (lv_at hl 7 rfl) ?_
                                                        refine lv_iadd hx hb dL_law_703 ?_
                                                        refine q_ald X hh h58 dL_law_704 hf (fun hf => ?_)
                                                        refine lv_icmp_eq (tgt := 710) hx hb dL_law_705 (by decide) (fun hc139 => ?_) (fun hc139 => ?_)
                                                        · have hf := if_t hc139 hf
                                                          obtain ⟨x140, e141⟩ : ∃ y : Int32, y = (x130 + (1 : Int32)) := ⟨_, rfl⟩
                                                          have hf := lt_e e141 hf
                                                          refine lv_iinc (v := x140) (lv' := [(11, .int x140), (1, .ref (B + 0)), (2, .int v43), (3, .int v45), (4, .int x46), (5, .ref (B + n48)), (7, .int x72), (10, .int x117)]) hx hb dL_law_710 hl (k := 7) rfl (by rw [e141]; rfl) (by decide) rfl (fun ls hl => ?_)
                                                          refine lv_goto (tgt := 680) hx hb dL_law_713 (by decide) ?_
                                                          exact ih132 _ hf  _ _ _ hh (lv_sub hl [1, 2, 3, 4, 5, 6, 7, 0] rfl)
                                                        · have hf := if_f hc139 hf
                                                          refine lv_iconst (v := (0 : Int32)) hx hb dL_law_708 (by decide) ?_
                                                          exact absurd (so_e hf) (by decide)
                                                  · have hf := if_f hc113 hf
                                                    refine lv_iconst (v := (0 : Int32)) hx hb dL_law_661 (by decide) ?_
                                                    exact absurd (so_e hf) (by decide)
                                            · have hf := if_f hc102 hf
                                              refine lv_iconst (v := (1 : Int32)) hx hb dL_law_580 (by decide) ?_
                                              refine lv_istore (lv' := [(11, .int (1 : Int32)), (1, .ref (B + 0)), (2, .int v43), (3, .int v45), (4, .int x46), (5, .ref (B + n48)), (7, .int x72), (9, .int x98), (10, .int x99)]) hx hb dL_law_581 hl (by decide) rfl (fun ls hl => ?_)
                                              refine wl2_W (P := fun (x142 : Int32) (x143 : Int32) => ∀ (H : Heap) (locs : List Loc) (ls : Array Slot), Hp B D n55 w96 s H locs → lv_has ls 12 [(1, .ref (B + 0)), (2, .int v43), (3, .int v45), (4, .int x46), (5, .ref (B + n48)), (7, .int x72), (9, .int x142), (10, .int x99), (11, .int x143)] → W p l e room_1 s m #[Value.ref b] below meth c H locs (n55 - 0) (2880 * (n55 - 0)) (lw_Z below #[Value.ref b] s) (F0 m 583 ls [])) hf (fun x142 x143 k144 ih145 hf  H locs ls hh hl => ?_)  _ _ _ hh (lv_sub hl [1, 2, 3, 4, 5, 6, 7, 8, 0] rfl)
                                              refine lv_iload hx hb dL_law_583 (lv_at hl 8 rfl) ?_
                                              refine lv_iload_n hx hb dL_law_585 rfl (lv_at hl 2 rfl) ?_
                                              refine lv_icmp_gt (tgt := 627) hx hb dL_law_586 (by decide) (fun hc146 => ?_) (fun hc146 => ?_)
                                              · have hf := if_t hc146 hf
                                                obtain ⟨x147, e148⟩ : ∃ y : Int32, y = (x99 + (1 : Int32)) := ⟨_, rfl⟩
                                                have hf := lt_e e148 hf
                                                refine lv_iinc (v := x147) (lv' := [(10, .int x147), (1, .ref (B + 0)), (2, .int v43), (3, .int v45), (4, .int x46), (5, .ref (B + n48)), (7, .int x72), (9, .int x142), (11, .int x143)]) hx hb dL_law_627 hl (k := 7) rfl (by rw [e148]; rfl) (by decide) rfl (fun ls hl => ?_)
                                                refine lv_goto (tgt := 574) hx hb dL_law_630 (by decide) ?_
                                                exact ih101 _ _ hf  _ _ _ hh (lv_sub hl [1, 2, 3, 4, 5, 6, 7, 0] rfl)
                                              · have hf := if_f hc146 hf
                                                refine lv_iload hx hb dL_law_589 (lv_at hl 6 rfl) ?_
                                                refine lv_aload_n hx hb dL_law_591 rfl (lv_at hl 0 rfl) ?_
                                                refine lv_iload hx hb dL_law_592 (lv_at hl 7 rfl) ?_
                                                refine lv_iload hx hb dL_law_594 (lv_at hl 8 rfl) ?_
                                                obtain ⟨v150, hc149, hf⟩ := c1_e hf
                                                refine q_V (w' := w96) (rest := [.int x142]) X hml hh (some (.int v150)) (m_X7_cell l B D hN hg0 hc149) cf_X7_cell k_194 hg0 ci_7 rfl rfl hl.1 rfl (Nat.le_of_ble_eq_true rfl) ⟨Nat.le_of_ble_eq_true rfl, Nat.le_of_ble_eq_true rfl⟩ hZ dL_law_596 rfl (fun H locs hh => ?_)
                                                refine lv_aload hx hb dL_law_599 (lv_at hl 4 rfl) ?_
                                                refine lv_bipush (v := (6 : Int32)) hx hb dL_law_601 (by decide) ?_
                                                refine lv_iload hx hb dL_law_603 (lv_at hl 7 rfl) ?_
                                                refine lv_imul hx hb dL_law_605 ?_
                                                refine lv_iload hx hb dL_law_606 (lv_at hl 8 rfl) ?_
                                                refine lv_iadd hx hb dL_law_608 ?_
                                                refine q_ald X hh h58 dL_law_609 hf (fun hf => ?_)
                                                refine mg_W (P := fun (x153 : Int32) => ∀ (ls : Array Slot), lv_has ls 12 [(1, .ref (B + 0)), (2, .int v43), (3, .int v45), (4, .int x46), (5, .ref (B + n48)), (7, .int x72), (10, .int x99), (11, .int x143)] → W p l e room_1 s m #[Value.ref b] below meth c H locs (n55 - 0) (2880 * (n55 - 0)) (lw_Z below #[Value.ref b] s) (F0 m 618 ls [.int x153, .int x142])) hf (fun x153 hf ls hl => ?_) (fun hj158 => ?_)
                                                · refine lv_iadd hx hb dL_law_618 ?_
                                                  refine lv_topi (fun x154 e155 => ?_)
                                                  have hf := lt_e e155 hf
                                                  refine lv_istore (lv' := [(9, .int x154), (1, .ref (B + 0)), (2, .int v43), (3, .int v45), (4, .int x46), (5, .ref (B + n48)), (7, .int x72), (10, .int x99), (11, .int x143)]) hx hb dL_law_619 hl (by decide) rfl (fun ls hl => ?_)
                                                  obtain ⟨x156, e157⟩ : ∃ y : Int32, y = (x143 + (1 : Int32)) := ⟨_, rfl⟩
                                                  have hf := lt_e e157 hf
                                                  refine lv_iinc (v := x156) (lv' := [(11, .int x156), (9, .int x154), (1, .ref (B + 0)), (2, .int v43), (3, .int v45), (4, .int x46), (5, .ref (B + n48)), (7, .int x72), (10, .int x99)]) hx hb dL_law_621 hl (k := 8) rfl (by rw [e157]; rfl) (by decide) rfl (fun ls hl => ?_)
                                                  refine lv_goto (tgt := 583) hx hb dL_law_624 (by decide) ?_
                                                  exact ih145 _ _ hf  _ _ _ hh (lv_sub hl [2, 3, 4, 5, 6, 7, 1, 8, 0] rfl)
                                                · refine lv_icmp_ne (tgt := 617) hx hb dL_law_610 (by decide) (fun hc152 => ?_) (fun hc152 => ?_)
                                                  · refine lv_iconst (v := (1 : Int32)) hx hb dL_law_617 (by decide) ?_
                                                    exact hj158 _ (by rw [if_neg hc152]) ls (lv_sub hl [0, 1, 2, 3, 4, 5, 7, 8] rfl)
                                                  · refine lv_iconst (v := (0 : Int32)) hx hb dL_law_613 (by decide) ?_
                                                    refine lv_goto (tgt := 618) hx hb dL_law_614 (by decide) ?_
                                                    exact hj158 _ (by rw [if_pos hc152]) ls (lv_sub hl [0, 1, 2, 3, 4, 5, 7, 8] rfl)
                                          · have hf := if_f hc97 hf
                                            refine lv_iconst (v := (0 : Int32)) hx hb dL_law_566 (by decide) ?_
                                            exact absurd (so_e hf) (by decide)
                                        · refine lv_icmp_ne (tgt := 556) hx hb dL_law_524 (by decide) (fun hc91 => ?_) (fun hc91 => ?_)
                                          · have hf := if_f hc91 hf
                                            exact hj93 _ hf  _ _ _ hh (lv_sub hl [0, 1, 2, 3, 4, 6] rfl)
                                          · have hf := if_t hc91 hf
                                            refine lv_aload_n hx hb dL_law_527 rfl (lv_at hl 0 rfl) ?_
                                            refine lv_iload_n hx hb dL_law_528 rfl (lv_at hl 1 rfl) ?_
                                            refine lv_iload_n hx hb dL_law_529 rfl (lv_at hl 2 rfl) ?_
                                            refine lv_iconst (v := (0 : Int32)) hx hb dL_law_530 (by decide) ?_
                                            obtain ⟨v160, w161, hc159, hf⟩ := c2_e hf
                                            refine q_V (w' := w161) (rest := []) X hml hh (some (.int v160)) (m_X7_part l B D hN hg0 hc159) cf_X7_part k_242 hg0 ci_7 rfl rfl hl.1 rfl (Nat.le_of_ble_eq_true rfl) ⟨Nat.le_of_ble_eq_true rfl, Nat.le_of_ble_eq_true rfl⟩ hZ dL_law_531 rfl (fun H locs hh => ?_)
                                            refine lv_aload_n hx hb dL_law_534 rfl (lv_at hl 0 rfl) ?_
                                            refine lv_iconst (v := (1 : Int32)) hx hb dL_law_535 (by decide) ?_
                                            refine lv_iconst (v := (1 : Int32)) hx hb dL_law_536 (by decide) ?_
                                            obtain ⟨v163, w164, hc162, hf⟩ := c2_e hf
                                            refine q_V (w' := w164) (rest := [.int v160]) X hml hh (some (.int v163)) (m_X7_longest l B D hN hg0 hc162) cf_X7_longest k_375 hg0 ci_7 rfl rfl hl.1 rfl (Nat.le_of_ble_eq_true rfl) ⟨Nat.le_of_ble_eq_true rfl, Nat.le_of_ble_eq_true rfl⟩ hZ dL_law_537 rfl (fun H locs hh => ?_)
                                            refine lv_icmp_ne (tgt := 554) hx hb dL_law_540 (by decide) (fun hc165 => ?_) (fun hc165 => ?_)
                                            · have hf := if_f hc165 hf
                                              refine lv_iconst (v := (0 : Int32)) hx hb dL_law_554 (by decide) ?_
                                              exact absurd (so_e hf) (by decide)
                                            · have hf := if_t hc165 hf
                                              refine lv_iload hx hb dL_law_543 (lv_at hl 5 rfl) ?_
                                              refine lv_aload_n hx hb dL_law_545 rfl (lv_at hl 0 rfl) ?_
                                              refine lv_iconst (v := (2 : Int32)) hx hb dL_law_546 (by decide) ?_
                                              refine lv_iconst (v := (0 : Int32)) hx hb dL_law_547 (by decide) ?_
                                              obtain ⟨v167, w168, hc166, hf⟩ := c2_e hf
                                              refine q_V (w' := w168) (rest := [.int v70]) X hml hh (some (.int v167)) (m_X7_longest l B D hN hg0 hc166) cf_X7_longest k_375 hg0 ci_7 rfl rfl hl.1 rfl (Nat.le_of_ble_eq_true rfl) ⟨Nat.le_of_ble_eq_true rfl, Nat.le_of_ble_eq_true rfl⟩ hZ dL_law_548 rfl (fun H locs hh => ?_)
                                              refine lv_icmp_eq (tgt := 556) hx hb dL_law_551 (by decide) (fun hc169 => ?_) (fun hc169 => ?_)
                                              · have hf := if_t hc169 hf
                                                exact hj93 _ hf  _ _ _ hh (lv_sub hl [0, 1, 2, 3, 4, 6] rfl)
                                              · have hf := if_f hc169 hf
                                                refine lv_iconst (v := (0 : Int32)) hx hb dL_law_554 (by decide) ?_
                                                exact absurd (so_e hf) (by decide)
                                      · refine lv_if_ne (tgt := 521) hx hb dL_law_489 (by decide) (fun hc88 => ?_) (fun hc88 => ?_)
                                        · have hf := if_f hc88 hf
                                          exact hj90 _ hf  _ _ _ hh (lv_sub hl [0, 1, 2, 3, 4, 5, 6] rfl)
                                        · have hf := if_t hc88 hf
                                          refine lv_aload_n hx hb dL_law_492 rfl (lv_at hl 0 rfl) ?_
                                          refine lv_iload_n hx hb dL_law_493 rfl (lv_at hl 1 rfl) ?_
                                          refine lv_iload_n hx hb dL_law_494 rfl (lv_at hl 2 rfl) ?_
                                          refine lv_iconst (v := (0 : Int32)) hx hb dL_law_495 (by decide) ?_
                                          obtain ⟨v171, w172, hc170, hf⟩ := c2_e hf
                                          refine q_V (w' := w172) (rest := []) X hml hh (some (.int v171)) (m_X7_part l B D hN hg0 hc170) cf_X7_part k_242 hg0 ci_7 rfl rfl hl.1 rfl (Nat.le_of_ble_eq_true rfl) ⟨Nat.le_of_ble_eq_true rfl, Nat.le_of_ble_eq_true rfl⟩ hZ dL_law_496 rfl (fun H locs hh => ?_)
                                          refine lv_aload_n hx hb dL_law_499 rfl (lv_at hl 0 rfl) ?_
                                          refine lv_iconst (v := (0 : Int32)) hx hb dL_law_500 (by decide) ?_
                                          refine lv_iconst (v := (0 : Int32)) hx hb dL_law_501 (by decide) ?_
                                          obtain ⟨v174, w175, hc173, hf⟩ := c2_e hf
                                          refine q_V (w' := w175) (rest := [.int v171]) X hml hh (some (.int v174)) (m_X7_longest l B D hN hg0 hc173) cf_X7_longest k_375 hg0 ci_7 rfl rfl hl.1 rfl (Nat.le_of_ble_eq_true rfl) ⟨Nat.le_of_ble_eq_true rfl, Nat.le_of_ble_eq_true rfl⟩ hZ dL_law_502 rfl (fun H locs hh => ?_)
                                          refine lv_icmp_ne (tgt := 519) hx hb dL_law_505 (by decide) (fun hc176 => ?_) (fun hc176 => ?_)
                                          · have hf := if_f hc176 hf
                                            refine lv_iconst (v := (0 : Int32)) hx hb dL_law_519 (by decide) ?_
                                            exact absurd (so_e hf) (by decide)
                                          · have hf := if_t hc176 hf
                                            refine lv_iload hx hb dL_law_508 (lv_at hl 5 rfl) ?_
                                            refine lv_aload_n hx hb dL_law_510 rfl (lv_at hl 0 rfl) ?_
                                            refine lv_iconst (v := (3 : Int32)) hx hb dL_law_511 (by decide) ?_
                                            refine lv_iconst (v := (1 : Int32)) hx hb dL_law_512 (by decide) ?_
                                            obtain ⟨v178, w179, hc177, hf⟩ := c2_e hf
                                            refine q_V (w' := w179) (rest := [.int v70]) X hml hh (some (.int v178)) (m_X7_longest l B D hN hg0 hc177) cf_X7_longest k_375 hg0 ci_7 rfl rfl hl.1 rfl (Nat.le_of_ble_eq_true rfl) ⟨Nat.le_of_ble_eq_true rfl, Nat.le_of_ble_eq_true rfl⟩ hZ dL_law_513 rfl (fun H locs hh => ?_)
                                            refine lv_icmp_eq (tgt := 521) hx hb dL_law_516 (by decide) (fun hc180 => ?_) (fun hc180 => ?_)
                                            · have hf := if_t hc180 hf
                                              exact hj90 _ hf  _ _ _ hh (lv_sub hl [0, 1, 2, 3, 4, 5, 6] rfl)
                                            · have hf := if_f hc180 hf
                                              refine lv_iconst (v := (0 : Int32)) hx hb dL_law_519 (by decide) ?_
                                              exact absurd (so_e hf) (by decide)
                                    · have hf := if_f hc87 hf
                                      refine lv_iconst (v := (0 : Int32)) hx hb dL_law_485 (by decide) ?_
                                      exact absurd (so_e hf) (by decide)
                              · have hf := if_f hc78 hf
                                refine lv_iload hx hb dL_law_347 (lv_at hl 6 rfl) ?_
                                refine lv_aload_n hx hb dL_law_349 rfl (lv_at hl 0 rfl) ?_
                                refine lv_iload_n hx hb dL_law_350 rfl (lv_at hl 1 rfl) ?_
                                refine lv_iload_n hx hb dL_law_351 rfl (lv_at hl 2 rfl) ?_
                                refine lv_iload hx hb dL_law_352 (lv_at hl 8 rfl) ?_
                                obtain ⟨v182, w183, hc181, hf⟩ := c2_e hf
                                refine q_V (w' := w183) (rest := [.int x72]) X hml hh (some (.int v182)) (m_X7_part l B D hN hg0 hc181) cf_X7_part k_242 hg0 ci_7 rfl rfl hl.1 rfl (Nat.le_of_ble_eq_true rfl) ⟨Nat.le_of_ble_eq_true rfl, Nat.le_of_ble_eq_true rfl⟩ hZ dL_law_354 rfl (fun H locs hh => ?_)
                                refine lv_iadd hx hb dL_law_357 ?_
                                refine lv_topi (fun x184 e185 => ?_)
                                have hf := lt_e e185 hf
                                refine lv_istore (lv' := [(7, .int x184), (1, .ref (B + 0)), (2, .int v43), (3, .int v45), (4, .int x46), (5, .ref (B + n48)), (6, .int v70), (8, .int x73), (9, .int x74)]) hx hb dL_law_358 hl (by decide) rfl (fun ls hl => ?_)
                                refine lv_iload hx hb dL_law_360 (lv_at hl 7 rfl) ?_
                                refine lv_aload_n hx hb dL_law_362 rfl (lv_at hl 1 rfl) ?_
                                refine lv_iload_n hx hb dL_law_363 rfl (lv_at hl 2 rfl) ?_
                                refine lv_iload_n hx hb dL_law_364 rfl (lv_at hl 3 rfl) ?_
                                refine lv_iload hx hb dL_law_365 (lv_at hl 8 rfl) ?_
                                obtain ⟨v187, w188, hc186, hf⟩ := c2_e hf
                                refine q_V (w' := w188) (rest := [.int x73]) X hml hh (some (.int v187)) (m_X7_turned l B D hN hg0 hc186) cf_X7_turned k_302 hg0 ci_7 rfl rfl hl.1 rfl (Nat.le_of_ble_eq_true rfl) ⟨Nat.le_of_ble_eq_true rfl, Nat.le_of_ble_eq_true rfl⟩ hZ dL_law_367 rfl (fun H locs hh => ?_)
                                refine lv_iadd hx hb dL_law_370 ?_
                                refine lv_topi (fun x189 e190 => ?_)
                                have hf := lt_e e190 hf
                                refine lv_istore (lv' := [(8, .int x189), (7, .int x184), (1, .ref (B + 0)), (2, .int v43), (3, .int v45), (4, .int x46), (5, .ref (B + n48)), (6, .int v70), (9, .int x74)]) hx hb dL_law_371 hl (by decide) rfl (fun ls hl => ?_)
                                refine lv_aload_n hx hb dL_law_373 rfl (lv_at hl 2 rfl) ?_
                                refine lv_iload_n hx hb dL_law_374 rfl (lv_at hl 3 rfl) ?_
                                refine lv_iload_n hx hb dL_law_375 rfl (lv_at hl 4 rfl) ?_
                                refine lv_iload hx hb dL_law_376 (lv_at hl 8 rfl) ?_
                                refine lv_iconst (v := (1 : Int32)) hx hb dL_law_378 (by decide) ?_
                                refine lv_iadd hx hb dL_law_379 ?_
                                obtain ⟨v192, w193, hc191, hf⟩ := c2_e hf
                                refine q_V (w' := w193) (rest := []) X hml hh (some (.int v192)) (m_X7_part l B D hN hg0 hc191) cf_X7_part k_242 hg0 ci_7 rfl rfl hl.1 rfl (Nat.le_of_ble_eq_true rfl) ⟨Nat.le_of_ble_eq_true rfl, Nat.le_of_ble_eq_true rfl⟩ hZ dL_law_380 rfl (fun H locs hh => ?_)
                                refine lv_aload_n hx hb dL_law_383 rfl (lv_at hl 2 rfl) ?_
                                refine lv_iload_n hx hb dL_law_384 rfl (lv_at hl 3 rfl) ?_
                                refine lv_iload_n hx hb dL_law_385 rfl (lv_at hl 4 rfl) ?_
                                refine lv_iload hx hb dL_law_386 (lv_at hl 8 rfl) ?_
                                obtain ⟨v195, w196, hc194, hf⟩ := c2_e hf
                                refine q_V (w' := w196) (rest := [.int v192]) X hml hh (some (.int v195)) (m_X7_part l B D hN hg0 hc194) cf_X7_part k_242 hg0 ci_7 rfl rfl hl.1 rfl (Nat.le_of_ble_eq_true rfl) ⟨Nat.le_of_ble_eq_true rfl, Nat.le_of_ble_eq_true rfl⟩ hZ dL_law_388 rfl (fun H locs hh => ?_)
                                refine lv_icmp_gt (tgt := 446) hx hb dL_law_391 (by decide) (fun hc197 => ?_) (fun hc197 => ?_)
                                · have hf := if_t hc197 hf
                                  refine lv_iconst (v := (0 : Int32)) hx hb dL_law_446 (by decide) ?_
                                  exact absurd (so_e hf) (by decide)
                                · have hf := if_f hc197 hf
                                  refine lv_aload_n hx hb dL_law_394 rfl (lv_at hl 2 rfl) ?_
                                  refine lv_iload_n hx hb dL_law_395 rfl (lv_at hl 3 rfl) ?_
                                  refine lv_iload_n hx hb dL_law_396 rfl (lv_at hl 4 rfl) ?_
                                  refine lv_iload hx hb dL_law_397 (lv_at hl 8 rfl) ?_
                                  refine lv_iconst (v := (1 : Int32)) hx hb dL_law_399 (by decide) ?_
                                  refine lv_iadd hx hb dL_law_400 ?_
                                  obtain ⟨v199, w200, hc198, hf⟩ := c2_e hf
                                  refine q_V (w' := w200) (rest := []) X hml hh (some (.int v199)) (m_X7_turned l B D hN hg0 hc198) cf_X7_turned k_302 hg0 ci_7 rfl rfl hl.1 rfl (Nat.le_of_ble_eq_true rfl) ⟨Nat.le_of_ble_eq_true rfl, Nat.le_of_ble_eq_true rfl⟩ hZ dL_law_401 rfl (fun H locs hh => ?_)
                                  refine lv_aload_n hx hb dL_law_404 rfl (lv_at hl 2 rfl) ?_
                                  refine lv_iload_n hx hb dL_law_405 rfl (lv_at hl 3 rfl) ?_
                                  refine lv_iload_n hx hb dL_law_406 rfl (lv_at hl 4 rfl) ?_
                                  refine lv_iload hx hb dL_law_407 (lv_at hl 8 rfl) ?_
                                  obtain ⟨v202, w203, hc201, hf⟩ := c2_e hf
                                  refine q_V (w' := w203) (rest := [.int v199]) X hml hh (some (.int v202)) (m_X7_turned l B D hN hg0 hc201) cf_X7_turned k_302 hg0 ci_7 rfl rfl hl.1 rfl (Nat.le_of_ble_eq_true rfl) ⟨Nat.le_of_ble_eq_true rfl, Nat.le_of_ble_eq_true rfl⟩ hZ dL_law_409 rfl (fun H locs hh => ?_)
                                  refine lv_icmp_gt (tgt := 446) hx hb dL_law_412 (by decide) (fun hc204 => ?_) (fun hc204 => ?_)
                                  · have hf := if_t hc204 hf
                                    refine lv_iconst (v := (0 : Int32)) hx hb dL_law_446 (by decide) ?_
                                    exact absurd (so_e hf) (by decide)
                                  · have hf := if_f hc204 hf
                                    refine lv_aload_n hx hb dL_law_415 rfl (lv_at hl 2 rfl) ?_
                                    refine lv_iload_n hx hb dL_law_416 rfl (lv_at hl 3 rfl) ?_
                                    refine lv_iload_n hx hb dL_law_417 rfl (lv_at hl 4 rfl) ?_
                                    refine lv_iload hx hb dL_law_418 (lv_at hl 8 rfl) ?_
                                    obtain ⟨v206, w207, hc205, hf⟩ := c2_e hf
                                    refine q_V (w' := w207) (rest := []) X hml hh (some (.int v206)) (m_X7_part l B D hN hg0 hc205) cf_X7_part k_242 hg0 ci_7 rfl rfl hl.1 rfl (Nat.le_of_ble_eq_true rfl) ⟨Nat.le_of_ble_eq_true rfl, Nat.le_of_ble_eq_true rfl⟩ hZ dL_law_420 rfl (fun H locs hh => ?_)
                                    refine mg_W (P := fun (x209 : Int32) => ∀ (ls : Array Slot), lv_has ls 12 [(1, .ref (B + 0)), (2, .int v43), (3, .int v45), (4, .int x46), (5, .ref (B + n48)), (6, .int v70), (7, .int x184), (8, .int x189), (9, .int x74)] → W p l e room_1 s m #[Value.ref b] below meth c H locs (n55 - 0) (2880 * (n55 - 0)) (lw_Z below #[Value.ref b] s) (F0 m 431 ls [.int x209])) hf (fun x209 hf ls hl => ?_) (fun hj216 => ?_)
                                    · refine lv_iload hx hb dL_law_431 (lv_at hl 8 rfl) ?_
                                      refine lv_iload hx hb dL_law_433 (lv_at hl 5 rfl) ?_
                                      refine mg_W (P := fun (x211 : Int32) => ∀ (ls : Array Slot), lv_has ls 12 [(1, .ref (B + 0)), (2, .int v43), (3, .int v45), (4, .int x46), (5, .ref (B + n48)), (6, .int v70), (7, .int x184), (8, .int x189), (9, .int x74)] → W p l e room_1 s m #[Value.ref b] below meth c H locs (n55 - 0) (2880 * (n55 - 0)) (lw_Z below #[Value.ref b] s) (F0 m 443 ls [.int x211, .int x209])) hf (fun x211 hf ls hl => ?_) (fun hj215 => ?_)
                                      · refine lv_icmp_eq (tgt := 448) hx hb dL_law_443 (by decide) (fun hc212 => ?_) (fun hc212 => ?_)
                                        · have hf := if_t hc212 hf
                                          obtain ⟨x213, e214⟩ : ∃ y : Int32, y = (x74 + (1 : Int32)) := ⟨_, rfl⟩
                                          have hf := lt_e e214 hf
                                          refine lv_iinc (v := x213) (lv' := [(9, .int x213), (1, .ref (B + 0)), (2, .int v43), (3, .int v45), (4, .int x46), (5, .ref (B + n48)), (6, .int v70), (7, .int x184), (8, .int x189)]) hx hb dL_law_448 hl (k := 8) rfl (by rw [e214]; rfl) (by decide) rfl (fun ls hl => ?_)
                                          refine lv_goto (tgt := 340) hx hb dL_law_451 (by decide) ?_
                                          exact ih77 _ _ _ _ hf  _ _ _ hh (lv_sub hl [1, 2, 3, 4, 5, 6, 7, 8, 0] rfl)
                                        · have hf := if_f hc212 hf
                                          refine lv_iconst (v := (0 : Int32)) hx hb dL_law_446 (by decide) ?_
                                          exact absurd (so_e hf) (by decide)
                                      · refine lv_icmp_ge (tgt := 442) hx hb dL_law_435 (by decide) (fun hc210 => ?_) (fun hc210 => ?_)
                                        · refine lv_iconst (v := (0 : Int32)) hx hb dL_law_442 (by decide) ?_
                                          exact hj215 _ (by rw [if_pos hc210]) ls (lv_sub hl [0, 1, 2, 3, 4, 5, 6, 7, 8] rfl)
                                        · refine lv_iconst (v := (1 : Int32)) hx hb dL_law_438 (by decide) ?_
                                          refine lv_goto (tgt := 443) hx hb dL_law_439 (by decide) ?_
                                          exact hj215 _ (by rw [if_neg hc210]) ls (lv_sub hl [0, 1, 2, 3, 4, 5, 6, 7, 8] rfl)
                                    · refine lv_if_le (tgt := 430) hx hb dL_law_423 (by decide) (fun hc208 => ?_) (fun hc208 => ?_)
                                      · refine lv_iconst (v := (0 : Int32)) hx hb dL_law_430 (by decide) ?_
                                        exact hj216 _ (by rw [if_pos hc208]) ls (lv_sub hl [2, 3, 4, 5, 6, 7, 1, 0, 8] rfl)
                                      · refine lv_iconst (v := (1 : Int32)) hx hb dL_law_426 (by decide) ?_
                                        refine lv_goto (tgt := 431) hx hb dL_law_427 (by decide) ?_
                                        exact hj216 _ (by rw [if_neg hc208]) ls (lv_sub hl [2, 3, 4, 5, 6, 7, 1, 0, 8] rfl)
                            · have hf := if_f hc68 hf
                              refine lv_iconst (v := (0 : Int32)) hx hb dL_law_234 (by decide) ?_
                              refine lv_istore (lv' := [(7, .int (0 : Int32)), (1, .ref (B + 0)), (2, .int v43), (3, .int v45), (4, .int x46), (5, .ref (B + n48)), (6, .int x64)]) hx hb dL_law_235 hl (by decide) rfl (fun ls hl => ?_)
                              refine wl2_W (P := fun (x217 : Int32) (w218 : Wd) => ∀ (H : Heap) (locs : List Loc) (ls : Array Slot), Hp B D n55 w218 s H locs → lv_has ls 12 [(1, .ref (B + 0)), (2, .int v43), (3, .int v45), (4, .int x46), (5, .ref (B + n48)), (6, .int x64), (7, .int x217)] → W p l e room_1 s m #[Value.ref b] below meth c H locs (n55 - 0) (2880 * (n55 - 0)) (lw_Z below #[Value.ref b] s) (F0 m 237 ls [])) hf (fun x217 w218 k219 ih220 hf  H locs ls hh hl => ?_)  _ _ _ hh (lv_sub hl [1, 2, 3, 4, 5, 6, 0] rfl)
                              refine lv_iload hx hb dL_law_237 (lv_at hl 6 rfl) ?_
                              refine lv_iload_n hx hb dL_law_239 rfl (lv_at hl 2 rfl) ?_
                              refine lv_icmp_gt (tgt := 316) hx hb dL_law_240 (by decide) (fun hc221 => ?_) (fun hc221 => ?_)
                              · have hf := if_t hc221 hf
                                obtain ⟨x222, e223⟩ : ∃ y : Int32, y = (x64 + (1 : Int32)) := ⟨_, rfl⟩
                                have hf := lt_e e223 hf
                                refine lv_iinc (v := x222) (lv' := [(6, .int x222), (1, .ref (B + 0)), (2, .int v43), (3, .int v45), (4, .int x46), (5, .ref (B + n48)), (7, .int x217)]) hx hb dL_law_316 hl (k := 5) rfl (by rw [e223]; rfl) (by decide) rfl (fun ls hl => ?_)
                                refine lv_goto (tgt := 228) hx hb dL_law_319 (by decide) ?_
                                exact ih67 _ _ hf  _ _ _ hh (lv_sub hl [1, 2, 3, 4, 5, 0] rfl)
                              · have hf := if_f hc221 hf
                                refine lv_iconst (v := (0 : Int32)) hx hb dL_law_243 (by decide) ?_
                                refine lv_istore (lv' := [(8, .int (0 : Int32)), (1, .ref (B + 0)), (2, .int v43), (3, .int v45), (4, .int x46), (5, .ref (B + n48)), (6, .int x64), (7, .int x217)]) hx hb dL_law_244 hl (by decide) rfl (fun ls hl => ?_)
                                refine lv_iconst (v := (1 : Int32)) hx hb dL_law_246 (by decide) ?_
                                refine lv_istore (lv' := [(9, .int (1 : Int32)), (8, .int (0 : Int32)), (1, .ref (B + 0)), (2, .int v43), (3, .int v45), (4, .int x46), (5, .ref (B + n48)), (6, .int x64), (7, .int x217)]) hx hb dL_law_247 hl (by decide) rfl (fun ls hl => ?_)
                                refine wl2_W (P := fun (x224 : Int32) (x225 : Int32) => ∀ (H : Heap) (locs : List Loc) (ls : Array Slot), Hp B D n55 w218 s H locs → lv_has ls 12 [(1, .ref (B + 0)), (2, .int v43), (3, .int v45), (4, .int x46), (5, .ref (B + n48)), (6, .int x64), (7, .int x217), (8, .int x224), (9, .int x225)] → W p l e room_1 s m #[Value.ref b] below meth c H locs (n55 - 0) (2880 * (n55 - 0)) (lw_Z below #[Value.ref b] s) (F0 m 249 ls [])) hf (fun x224 x225 k226 ih227 hf  H locs ls hh hl => ?_)  _ _ _ hh (lv_sub hl [2, 3, 4, 5, 6, 7, 8, 1, 0] rfl)
                                refine lv_iload hx hb dL_law_249 (lv_at hl 8 rfl) ?_
                                refine lv_iload hx hb dL_law_251 (lv_at hl 5 rfl) ?_
                                refine lv_icmp_gt (tgt := 294) hx hb dL_law_253 (by decide) (fun hc228 => ?_) (fun hc228 => ?_)
                                · have hf := if_t hc228 hf
                                  refine lv_aload_n hx hb dL_law_294 rfl (lv_at hl 0 rfl) ?_
                                  refine lv_iload hx hb dL_law_295 (lv_at hl 5 rfl) ?_
                                  refine lv_iload hx hb dL_law_297 (lv_at hl 6 rfl) ?_
                                  refine lv_iconst (v := (0 : Int32)) hx hb dL_law_299 (by decide) ?_
                                  obtain ⟨v230, w231, hc229, hf⟩ := c2_e hf
                                  refine q_V (w' := w231) (rest := []) X hml hh (some (.int v230)) (m_X7_shape l B D hN hg0 hc229) cf_X7_shape k_298 hg0 ci_7 rfl rfl hl.1 rfl (Nat.le_of_ble_eq_true rfl) ⟨Nat.le_of_ble_eq_true rfl, Nat.le_of_ble_eq_true rfl⟩ hZ dL_law_300 rfl (fun H locs hh => ?_)
                                  refine lv_iload hx hb dL_law_303 (lv_at hl 7 rfl) ?_
                                  refine lv_icmp_eq (tgt := 310) hx hb dL_law_305 (by decide) (fun hc232 => ?_) (fun hc232 => ?_)
                                  · have hf := if_t hc232 hf
                                    obtain ⟨x233, e234⟩ : ∃ y : Int32, y = (x217 + (1 : Int32)) := ⟨_, rfl⟩
                                    have hf := lt_e e234 hf
                                    refine lv_iinc (v := x233) (lv' := [(7, .int x233), (1, .ref (B + 0)), (2, .int v43), (3, .int v45), (4, .int x46), (5, .ref (B + n48)), (6, .int x64), (8, .int x224), (9, .int x225)]) hx hb dL_law_310 hl (k := 6) rfl (by rw [e234]; rfl) (by decide) rfl (fun ls hl => ?_)
                                    refine lv_goto (tgt := 237) hx hb dL_law_313 (by decide) ?_
                                    exact ih220 _ _ hf  _ _ _ hh (lv_sub hl [1, 2, 3, 4, 5, 6, 0] rfl)
                                  · have hf := if_f hc232 hf
                                    refine lv_iconst (v := (0 : Int32)) hx hb dL_law_308 (by decide) ?_
                                    exact absurd (so_e hf) (by decide)
                                · have hf := if_f hc228 hf
                                  refine lv_iconst (v := (1 : Int32)) hx hb dL_law_256 (by decide) ?_
                                  refine lv_istore (lv' := [(10, .int (1 : Int32)), (1, .ref (B + 0)), (2, .int v43), (3, .int v45), (4, .int x46), (5, .ref (B + n48)), (6, .int x64), (7, .int x217), (8, .int x224), (9, .int x225)]) hx hb dL_law_257 hl (by decide) rfl (fun ls hl => ?_)
                                  refine wl2_W (P := fun (x235 : Int32) (x236 : Int32) => ∀ (H : Heap) (locs : List Loc) (ls : Array Slot), Hp B D n55 w218 s H locs → lv_has ls 12 [(1, .ref (B + 0)), (2, .int v43), (3, .int v45), (4, .int x46), (5, .ref (B + n48)), (6, .int x64), (7, .int x217), (8, .int x235), (9, .int x225), (10, .int x236)] → W p l e room_1 s m #[Value.ref b] below meth c H locs (n55 - 0) (2880 * (n55 - 0)) (lw_Z below #[Value.ref b] s) (F0 m 259 ls [])) hf (fun x235 x236 k237 ih238 hf  H locs ls hh hl => ?_)  _ _ _ hh (lv_sub hl [1, 2, 3, 4, 5, 6, 7, 8, 9, 0] rfl)
                                  refine lv_iload hx hb dL_law_259 (lv_at hl 9 rfl) ?_
                                  refine lv_iload hx hb dL_law_261 (lv_at hl 6 rfl) ?_
                                  refine lv_icmp_gt (tgt := 288) hx hb dL_law_263 (by decide) (fun hc239 => ?_) (fun hc239 => ?_)
                                  · have hf := if_t hc239 hf
                                    obtain ⟨x240, e241⟩ : ∃ y : Int32, y = (x225 + (1 : Int32)) := ⟨_, rfl⟩
                                    have hf := lt_e e241 hf
                                    refine lv_iinc (v := x240) (lv' := [(9, .int x240), (1, .ref (B + 0)), (2, .int v43), (3, .int v45), (4, .int x46), (5, .ref (B + n48)), (6, .int x64), (7, .int x217), (8, .int x235), (10, .int x236)]) hx hb dL_law_288 hl (k := 8) rfl (by rw [e241]; rfl) (by decide) rfl (fun ls hl => ?_)
                                    refine lv_goto (tgt := 249) hx hb dL_law_291 (by decide) ?_
                                    exact ih227 _ _ hf  _ _ _ hh (lv_sub hl [1, 2, 3, 4, 5, 6, 7, 8, 0] rfl)
                                  · have hf := if_f hc239 hf
                                    refine lv_iload hx hb dL_law_266 (lv_at hl 7 rfl) ?_
                                    refine lv_aload hx hb dL_law_268 (lv_at hl 4 rfl) ?_
                                    refine lv_bipush (v := (6 : Int32)) hx hb dL_law_270 (by decide) ?_
                                    refine lv_iload hx hb dL_law_272 (lv_at hl 8 rfl) ?_
                                    refine lv_imul hx hb dL_law_274 ?_
                                    refine lv_iload hx hb dL_law_275 (lv_at hl 9 rfl) ?_
                                    refine lv_iadd hx hb dL_law_277 ?_
                                    refine q_ald X hh h58 dL_law_278 hf (fun hf => ?_)
                                    refine lv_iadd hx hb dL_law_279 ?_
                                    refine lv_topi (fun x243 e244 => ?_)
                                    have hf := lt_e e244 hf
                                    refine lv_istore (lv' := [(8, .int x243), (1, .ref (B + 0)), (2, .int v43), (3, .int v45), (4, .int x46), (5, .ref (B + n48)), (6, .int x64), (7, .int x217), (9, .int x225), (10, .int x236)]) hx hb dL_law_280 hl (by decide) rfl (fun ls hl => ?_)
                                    obtain ⟨x245, e246⟩ : ∃ y : Int32, y = (x236 + (1 : Int32)) := ⟨_, rfl⟩
                                    have hf := lt_e e246 hf
                                    refine lv_iinc (v := x245) (lv' := [(10, .int x245), (8, .int x243), (1, .ref (B + 0)), (2, .int v43), (3, .int v45), (4, .int x46), (5, .ref (B + n48)), (6, .int x64), (7, .int x217), (9, .int x225)]) hx hb dL_law_282 hl (k := 9) rfl (by rw [e246]; rfl) (by decide) rfl (fun ls hl => ?_)
                                    refine lv_goto (tgt := 259) hx hb dL_law_285 (by decide) ?_
                                    exact ih238 _ _ hf  _ _ _ hh (lv_sub hl [2, 3, 4, 5, 6, 7, 8, 1, 9, 0] rfl)
                          · have hf := if_f hc63 hf
                            refine lv_iconst (v := (1 : Int32)) hx hb dL_law_158 (by decide) ?_
                            refine lv_istore (lv' := [(7, .int (1 : Int32)), (1, .ref (B + 0)), (2, .int v43), (3, .int v45), (4, .int x46), (5, .ref (B + n48)), (6, .int x59)]) hx hb dL_law_159 hl (by decide) rfl (fun ls hl => ?_)
                            refine wl2_W (P := fun (x247 : Int32) (w248 : Wd) => ∀ (H : Heap) (locs : List Loc) (ls : Array Slot), Hp B D n55 w248 s H locs → lv_has ls 12 [(1, .ref (B + 0)), (2, .int v43), (3, .int v45), (4, .int x46), (5, .ref (B + n48)), (6, .int x59), (7, .int x247)] → W p l e room_1 s m #[Value.ref b] below meth c H locs (n55 - 0) (2880 * (n55 - 0)) (lw_Z below #[Value.ref b] s) (F0 m 161 ls [])) hf (fun x247 w248 k249 ih250 hf  H locs ls hh hl => ?_)  _ _ _ hh (lv_sub hl [1, 2, 3, 4, 5, 6, 0] rfl)
                            refine lv_iload hx hb dL_law_161 (lv_at hl 6 rfl) ?_
                            refine lv_iload_n hx hb dL_law_163 rfl (lv_at hl 2 rfl) ?_
                            refine lv_icmp_gt (tgt := 219) hx hb dL_law_164 (by decide) (fun hc251 => ?_) (fun hc251 => ?_)
                            · have hf := if_t hc251 hf
                              obtain ⟨x252, e253⟩ : ∃ y : Int32, y = (x59 + (1 : Int32)) := ⟨_, rfl⟩
                              have hf := lt_e e253 hf
                              refine lv_iinc (v := x252) (lv' := [(6, .int x252), (1, .ref (B + 0)), (2, .int v43), (3, .int v45), (4, .int x46), (5, .ref (B + n48)), (7, .int x247)]) hx hb dL_law_219 hl (k := 5) rfl (by rw [e253]; rfl) (by decide) rfl (fun ls hl => ?_)
                              refine lv_goto (tgt := 152) hx hb dL_law_222 (by decide) ?_
                              exact ih62 _ _ hf  _ _ _ hh (lv_sub hl [1, 2, 3, 4, 5, 0] rfl)
                            · have hf := if_f hc251 hf
                              refine lv_aload hx hb dL_law_167 (lv_at hl 4 rfl) ?_
                              refine lv_bipush (v := (6 : Int32)) hx hb dL_law_169 (by decide) ?_
                              refine lv_iload hx hb dL_law_171 (lv_at hl 5 rfl) ?_
                              refine lv_imul hx hb dL_law_173 ?_
                              refine lv_iload hx hb dL_law_174 (lv_at hl 6 rfl) ?_
                              refine lv_iadd hx hb dL_law_176 ?_
                              refine lv_topi (fun x254 e255 => ?_)
                              have hf := lt_e e255 hf
                              refine lv_iload hx hb dL_law_177 (lv_at hl 3 rfl) ?_
                              refine lv_iconst (v := (1 : Int32)) hx hb dL_law_179 (by decide) ?_
                              refine jn_W (P := fun j258 => ∀ (x257 : Int32), j258 x257 = some (1 : Int32) → ∀ (H : Heap) (locs : List Loc) (ls : Array Slot), Hp B D n55 w248 s H locs → lv_has ls 12 [(1, .ref (B + 0)), (2, .int v43), (3, .int v45), (4, .int x46), (5, .ref (B + n48)), (6, .int x59), (7, .int x247)] → W p l e room_1 s m #[Value.ref b] below meth c H locs (n55 - 0) (2880 * (n55 - 0)) (lw_Z below #[Value.ref b] s) (F0 m 212 ls [.int x257, .int x254, .ref (B + n48)])) hf (fun x257 hf  H locs ls hh hl => ?_) (fun j258 hj258 hf => ?_)
                              · refine q_ast X hh h58 dL_law_212 hf (fun w260 H locs hf hh => ?_)
                                obtain ⟨x261, e262⟩ : ∃ y : Int32, y = (x247 + (1 : Int32)) := ⟨_, rfl⟩
                                have hf := lt_e e262 hf
                                refine lv_iinc (v := x261) (lv' := [(7, .int x261), (1, .ref (B + 0)), (2, .int v43), (3, .int v45), (4, .int x46), (5, .ref (B + n48)), (6, .int x59)]) hx hb dL_law_213 hl (k := 6) rfl (by rw [e262]; rfl) (by decide) rfl (fun ls hl => ?_)
                                refine lv_goto (tgt := 161) hx hb dL_law_216 (by decide) ?_
                                exact ih250 _ _ hf  _ _ _ hh (lv_sub hl [1, 2, 3, 4, 5, 6, 0] rfl)
                              · refine jn_W (P := fun j263 => j263 = some (1 : Int32) → ∀ (H : Heap) (locs : List Loc) (ls : Array Slot), Hp B D n55 w248 s H locs → lv_has ls 12 [(1, .ref (B + 0)), (2, .int v43), (3, .int v45), (4, .int x46), (5, .ref (B + n48)), (6, .int x59), (7, .int x247)] → W p l e room_1 s m #[Value.ref b] below meth c H locs (n55 - 0) (2880 * (n55 - 0)) (lw_Z below #[Value.ref b] s) (F0 m 189 ls [.int x254, .ref (B + n48)])) hf (fun  hf  H locs ls hh hl => ?_) (fun j263 hj263 hf => ?_)
                                · refine lv_iconst (v := (1 : Int32)) hx hb dL_law_189 (by decide) ?_
                                  refine lv_aload_n hx hb dL_law_190 rfl (lv_at hl 0 rfl) ?_
                                  refine lv_iload hx hb dL_law_191 (lv_at hl 5 rfl) ?_
                                  refine lv_iload hx hb dL_law_193 (lv_at hl 6 rfl) ?_
                                  obtain ⟨v265, hc264, hf⟩ := c1_e hf
                                  refine q_V (w' := w248) (rest := [.int (1 : Int32), .int x254, .ref (B + n48)]) X hml hh (some (.int v265)) (m_X7_cell l B D hN hg0 hc264) cf_X7_cell k_194 hg0 ci_7 rfl rfl hl.1 rfl (Nat.le_of_ble_eq_true rfl) ⟨Nat.le_of_ble_eq_true rfl, Nat.le_of_ble_eq_true rfl⟩ hZ dL_law_195 rfl (fun H locs hh => ?_)
                                  refine q_min X hml hl.1 k_458 (Nat.le_of_ble_eq_true rfl) ⟨Nat.le_of_ble_eq_true rfl, Nat.le_of_ble_eq_true rfl⟩ hZ dL_law_198 ?_
                                  refine lv_topi (fun x266 e267 => ?_)
                                  have hf := lt_e e267 hf
                                  refine lv_goto (tgt := 212) hx hb dL_law_201 (by decide) ?_
                                  exact hj258 _ hf  _ _ _ hh (lv_sub hl [0, 1, 2, 3, 4, 5, 6] rfl)
                                · refine lv_icmp_eq (tgt := 189) hx hb dL_law_180 (by decide) (fun hc256 => ?_) (fun hc256 => ?_)
                                  · have hf := if_t hc256 hf
                                    exact hj263  hf  _ _ _ hh (lv_sub hl [0, 1, 2, 3, 4, 5, 6] rfl)
                                  · have hf := if_f hc256 hf
                                    refine lv_iload hx hb dL_law_183 (lv_at hl 3 rfl) ?_
                                    refine lv_iconst (v := (2 : Int32)) hx hb dL_law_185 (by decide) ?_
                                    refine lv_icmp_ne (tgt := 204) hx hb dL_law_186 (by decide) (fun hc268 => ?_) (fun hc268 => ?_)
                                    · have hf := if_f hc268 hf
                                      refine lv_aload_n hx hb dL_law_204 rfl (lv_at hl 0 rfl) ?_
                                      refine lv_iload hx hb dL_law_205 (lv_at hl 5 rfl) ?_
                                      refine lv_iload hx hb dL_law_207 (lv_at hl 6 rfl) ?_
                                      obtain ⟨v270, hc269, hf⟩ := c1_e hf
                                      refine q_V (w' := w248) (rest := [.int x254, .ref (B + n48)]) X hml hh (some (.int v270)) (m_X7_cell l B D hN hg0 hc269) cf_X7_cell k_194 hg0 ci_7 rfl rfl hl.1 rfl (Nat.le_of_ble_eq_true rfl) ⟨Nat.le_of_ble_eq_true rfl, Nat.le_of_ble_eq_true rfl⟩ hZ dL_law_209 rfl (fun H locs hh => ?_)
                                      exact hj258 _ hf  _ _ _ hh (lv_sub hl [0, 1, 2, 3, 4, 5, 6] rfl)
                                    · have hf := if_t hc268 hf
                                      exact hj263  hf  _ _ _ hh (lv_sub hl [0, 1, 2, 3, 4, 5, 6] rfl)
                      · have hf := if_f hc39 hf
                        refine lv_iconst (v := (0 : Int32)) hx hb dL_law_107 (by decide) ?_
                        exact absurd (so_e hf) (by decide)
set_option maxHeartbeats 4000000 in
set_option maxRecDepth 100000 in
theorem m_law (l : Launch) {p : Program} {e : Env} {s : State} {m : MethodId} {below : List Frame} {meth : Method} {c : Code} {b L : Nat} {xs : Nat → Int32} {D : DD} (X : Cx p s m #[Value.ref b] c code "GrowthGridLaw" D) (hml : c.maxLocals = 12) (hr : meth.sig.returnType = ret) (hlk : meth.locks = false) (hX : va_X b L xs s s.heap) (hbl : b < s.heap.size) (hf : f_law L xs = some (1 : Int32)) : W p l e room_1 s m #[Value.ref b] below meth c s.heap [] 0 0 (lw_Z below #[Value.ref b] s) (entryFrame m ([Value.ref b] : List Value).toArray 12) := by
  have hx := X.1
  have hb := X.2.1
  have hbA : ¬ (fun q : Nat => s.heap.size ≤ q) b := Nat.not_le.mpr hbl
  have hl := lv_entry ([.ref b]) (n := 12) (Nat.le_of_ble_eq_true rfl)
  rw [lg_entry_eq]
  generalize (lg_sl ([.ref b]) ++ List.replicate (12 - (lg_sl ([.ref b])).length) Slot.unset).toArray = ls at hl ⊢
  have hl : lv_has ls 12 [(0, .ref b)] := hl
  have hh : Hp s.heap.size D 0 w00 s s.heap [] := ⟨⟨rfl, fun k hk => absurd hk (Nat.not_lt_zero k)⟩, va_S.rf⟩
  obtain ⟨B, hB⟩ : ∃ B, B = s.heap.size := ⟨_, rfl⟩
  have hBs := hB
  rw [← hB] at hh hbA
  generalize hH0 : s.heap = H0 at hh
  generalize hL0 : ([] : List Loc) = locs at hh
  refine W.widen (k := 0 - 0) (n := 2880 * (0 - 0)) (Nat.zero_le _) (Nat.zero_le _) ?_
  have hRR : 0 + 143 ≤ 0 + room_1.cells ∧ 2880 * (0 + 143 - 0) ≤ room_1.slots := ⟨Nat.le_of_ble_eq_true rfl, Nat.le_of_ble_eq_true rfl⟩
  unfold f_law at hf
  refine r_new (n0 := 0) X hh ci_7 cin_7 k_16 k_17 k_7 (by omega) hRR dL_law_0 hf (fun n1 w1 H e1 h1 hf hh => ?_)
  refine lv_dup hx hb dL_law_3 rfl ?_
  obtain ⟨w2, hc2, hf⟩ := c1_e hf
  refine q_I (n0 := 0) (rest := [.ref (B + 0)]) X hml hh rfl (m_X7_init l B D h1 hc2) cf_X7_init k_18 hl.1 (Nat.le_of_ble_eq_true rfl) ⟨Nat.le_of_ble_eq_true rfl, Nat.le_of_ble_eq_true rfl⟩ (by omega) hRR dL_law_4 hf (fun n2 w3 H locs e2 hf hh => ?_)
  have en2 : n2 = 139 := by omega
  rw [en2] at hh ⊢
  exact m_main l X hml hr hlk hX hbl hbA hBs hf hh hl
end
section
/-! whole numbers behind ints -/
def I (z : Int) : Int32 := Int32.ofInt z
def LI (z : Int) : Int64 := Int64.ofInt z
theorem I_toInt {z : Int} (h1 : -2147483648 ≤ z) (h2 : z < 2147483648) : (I z).toInt = z := Int32.toInt_ofInt_of_le (by simpa using h1) (by simpa using h2)
theorem I_of (x : Int32) : ∃ z : Int, (-2147483648 ≤ z ∧ z < 2147483648) ∧ x = I z := ⟨x.toInt, ⟨Int32.le_toInt x, Int32.toInt_lt x⟩, (Int32.ofInt_toInt x).symm⟩
theorem I_add (a b : Int) : I a + I b = I (a + b) := (Int32.ofInt_add a b).symm
theorem I_sub (a b : Int) : I a - I b = I (a - b) := (Int32.ofInt_sub a b).symm
theorem I_mul (a b : Int) : I a * I b = I (a * b) := (Int32.ofInt_mul a b).symm
theorem I_lt {a b : Int} (h1 : -2147483648 ≤ a) (h2 : a < 2147483648) (h3 : -2147483648 ≤ b) (h4 : b < 2147483648) : (I a < I b) = (a < b) := by
  rw [Int32.lt_iff_toInt_lt, I_toInt h1 h2, I_toInt h3 h4]
theorem I_le {a b : Int} (h1 : -2147483648 ≤ a) (h2 : a < 2147483648) (h3 : -2147483648 ≤ b) (h4 : b < 2147483648) : (I a ≤ I b) = (a ≤ b) := by
  rw [Int32.le_iff_toInt_le, I_toInt h1 h2, I_toInt h3 h4]
theorem I_eq {a b : Int} (h1 : -2147483648 ≤ a) (h2 : a < 2147483648) (h3 : -2147483648 ≤ b) (h4 : b < 2147483648) : (I a = I b) = (a = b) := by
  rw [← Int32.toInt_inj, I_toInt h1 h2, I_toInt h3 h4]
theorem I_nat (n : Nat) : Int32.ofNat n = I n := Int32.ofInt_eq_ofNat.symm
theorem I_clamp {z : Int} (h1 : -2147483648 ≤ z) (h2 : z < 2147483648) : (I z).toNatClampNeg = z.toNat := Int32.toNatClampNeg_ofInt_of_le (by simpa using h1) (by simpa using h2)
theorem I_div {a b : Int} (h1 : 0 ≤ a) (h2 : a < 2147483648) (h3 : 0 < b) (h4 : b < 2147483648) : I a / I b = I (a / b) := by
  have := Int32.ofInt_tdiv (a := a) (b := b) (by have : Int32.minValue.toInt = -2147483648 := rfl; omega) (by have : Int32.maxValue.toInt = 2147483647 := rfl; omega) (by have : Int32.minValue.toInt = -2147483648 := rfl; omega) (by have : Int32.maxValue.toInt = 2147483647 := rfl; omega)
  rw [Int.tdiv_eq_ediv_of_nonneg h1] at this
  exact this.symm
theorem I_long {z : Int} (h1 : -2147483648 ≤ z) (h2 : z < 2147483648) : (I z).toInt64 = LI z := Int32.toInt64_ofInt (by simpa using h1) (by have : Int32.maxValue.toInt = 2147483647 := rfl; omega)
theorem LI_toInt {z : Int} (h1 : -9223372036854775808 ≤ z) (h2 : z < 9223372036854775808) : (LI z).toInt = z := Int64.toInt_ofInt_of_le (by simpa using h1) (by simpa using h2)
theorem LI_add (a b : Int) : LI a + LI b = LI (a + b) := (Int64.ofInt_add a b).symm
theorem LI_mul (a b : Int) : LI a * LI b = LI (a * b) := (Int64.ofInt_mul a b).symm
theorem LI_lt {a b : Int} (h1 : -9223372036854775808 ≤ a) (h2 : a < 9223372036854775808) (h3 : -9223372036854775808 ≤ b) (h4 : b < 9223372036854775808) : (LI a < LI b) = (a < b) := by
  rw [Int64.lt_iff_toInt_lt, LI_toInt h1 h2, LI_toInt h3 h4]
theorem LI_eq {a b : Int} (h1 : -9223372036854775808 ≤ a) (h2 : a < 9223372036854775808) (h3 : -9223372036854775808 ≤ b) (h4 : b < 9223372036854775808) : (LI a = LI b) = (a = b) := by
  rw [← Int64.toInt_inj, LI_toInt h1 h2, LI_toInt h3 h4]
theorem LI_div {a b : Int} (h1 : 0 ≤ a) (h2 : a < 9223372036854775808) (h3 : 0 < b) (h4 : b < 9223372036854775808) : LI a / LI b = LI (a / b) := by
  have := Int64.ofInt_tdiv (a := a) (b := b) (by have : Int64.minValue.toInt = -9223372036854775808 := rfl; omega) (by have : Int64.maxValue.toInt = 9223372036854775807 := rfl; omega) (by have : Int64.minValue.toInt = -9223372036854775808 := rfl; omega) (by have : Int64.maxValue.toInt = 9223372036854775807 := rfl; omega)
  rw [Int.tdiv_eq_ediv_of_nonneg h1] at this
  exact this.symm
theorem LI_int (z : Int) : (LI z).toInt32 = I z := by
  unfold LI I
  exact Int64.toInt32_ofInt
theorem LI_cmp {a b : Int} (h1 : -9223372036854775808 ≤ a) (h2 : a < 9223372036854775808) (h3 : -9223372036854775808 ≤ b) (h4 : b < 9223372036854775808) : lg_cmp (LI a) (LI b) = I (if b < a then 1 else if a = b then 0 else -1) := by
  unfold lg_cmp
  simp only [gt_iff_lt, LI_lt h3 h4 h1 h2, LI_eq h1 h2 h3 h4]
  by_cases c1 : b < a
  · rw [if_pos c1, if_pos c1]; rfl
  · rw [if_neg c1, if_neg c1]
    by_cases c2 : a = b
    · rw [if_pos c2, if_pos c2]; rfl
    · rw [if_neg c2, if_neg c2]; rfl

theorem i0 : (0 : Int32) = I 0 := rfl
theorem i1 : (1 : Int32) = I 1 := rfl
theorem i2 : (2 : Int32) = I 2 := rfl
theorem i3 : (3 : Int32) = I 3 := rfl
theorem i4 : (4 : Int32) = I 4 := rfl
theorem i5 : (5 : Int32) = I 5 := rfl
theorem i6 : (6 : Int32) = I 6 := rfl
theorem i7 : (7 : Int32) = I 7 := rfl
theorem i8 : (8 : Int32) = I 8 := rfl
theorem i9 : (9 : Int32) = I 9 := rfl
theorem i10 : (10 : Int32) = I 10 := rfl
theorem i12 : (12 : Int32) = I 12 := rfl
theorem i14 : (14 : Int32) = I 14 := rfl
theorem i20 : (20 : Int32) = I 20 := rfl
theorem i25 : (25 : Int32) = I 25 := rfl
theorem i26 : (26 : Int32) = I 26 := rfl
theorem i28 : (28 : Int32) = I 28 := rfl
theorem i30 : (30 : Int32) = I 30 := rfl
theorem i36 : (36 : Int32) = I 36 := rfl
theorem i48 : (48 : Int32) = I 48 := rfl
theorem i50 : (50 : Int32) = I 50 := rfl
theorem i53 : (53 : Int32) = I 53 := rfl
theorem i57 : (57 : Int32) = I 57 := rfl
theorem i59 : (59 : Int32) = I 59 := rfl
theorem i49 : (49 : Int32) = I 49 := rfl
theorem i60 : (60 : Int32) = I 60 := rfl
theorem i63 : (63 : Int32) = I 63 := rfl
theorem i75 : (75 : Int32) = I 75 := rfl
theorem i80 : (80 : Int32) = I 80 := rfl
theorem i99 : (99 : Int32) = I 99 := rfl
theorem i100 : (100 : Int32) = I 100 := rfl
theorem i196 : (196 : Int32) = I 196 := rfl
theorem i255 : (255 : Int32) = I 255 := rfl
theorem i1000 : (1000 : Int32) = I 1000 := rfl
theorem im1 : (-1 : Int32) = I (-1) := rfl
theorem im2 : (-2 : Int32) = I (-2) := rfl
theorem im3 : (-3 : Int32) = I (-3) := rfl
theorem im5 : (-5 : Int32) = I (-5) := rfl
theorem im6 : (-6 : Int32) = I (-6) := rfl
theorem im11 : (-11 : Int32) = I (-11) := rfl
theorem im12 : (-12 : Int32) = I (-12) := rfl
theorem im13 : (-13 : Int32) = I (-13) := rfl
theorem im14 : (-14 : Int32) = I (-14) := rfl
theorem im1000 : (-1000 : Int32) = I (-1000) := rfl
theorem l0 : (0 : Int64) = LI 0 := rfl
theorem l1 : (1 : Int64) = LI 1 := rfl
theorem l2 : (2 : Int64) = LI 2 := rfl
theorem l3 : (3 : Int64) = LI 3 := rfl
theorem l4 : (4 : Int64) = LI 4 := rfl
theorem l5 : (5 : Int64) = LI 5 := rfl
theorem l8 : (8 : Int64) = LI 8 := rfl
theorem l30 : (30 : Int64) = LI 30 := rfl
theorem l99 : (99 : Int64) = LI 99 := rfl
theorem l2147483647 : (2147483647 : Int64) = LI 2147483647 := rfl
theorem lm1 : (-9223372036854775808 : Int64) = LI (-9223372036854775808) := rfl
/-! the words of the functions -/
theorem lt_d {α β : Type} (a : α) (f : α → β) : lt a f = f a := rfl
theorem lt2_d {α α2 β : Type} (a : α) (b : α2) (f : α → α2 → β) : lt2 a b f = f a b := rfl
theorem lt3_d {α α2 α3 β : Type} (a : α) (b : α2) (c : α3) (f : α → α2 → α3 → β) : lt3 a b c f = f a b c := rfl
theorem jn_d {κ β : Type} (K : κ) (f : κ → β) : jn K f = f K := rfl
theorem c1_d {α ρ : Type} (a : α) (K : α → Option ρ) : c1 (some a) K = K a := rfl
theorem c2_d {α ρ : Type} (a : α) (w : Wd) (K : α → Wd → Option ρ) : c2 (some (a, w)) K = K a w := rfl
theorem c1_r {α ρ : Type} {x : Option α} {a : α} (h : x = some a) (K : α → Option ρ) : c1 x K = K a := by rw [h]; rfl
theorem c2_r {α ρ : Type} {x : Option (α × Wd)} {a : α} {w : Wd} (h : x = some (a, w)) (K : α → Wd → Option ρ) : c2 x K = K a w := by rw [h]; rfl
theorem ix_d {ρ : Type} {z : Int} {n : Nat} (h1 : 0 ≤ z) (h2 : z < n) (hn : n < 2147483648) (K : Nat → Option ρ) : ix (I z) n K = K z.toNat := by
  unfold ix
  rw [I_toInt (by omega) (by omega), if_pos ⟨h1, h2⟩, I_clamp (by omega) (by omega)]
theorem ck_d {ρ : Type} {n r P : Nat} (h1 : r < n) (h2 : kd r = P) (K : Option ρ) : ck n r P K = K := if_pos ⟨h1, h2⟩
theorem rf_d {ρ : Type} {n P r : Nat} {o : Option Nat} (h : o = some r) (h1 : r < n) (h2 : kd r = P) (K : Nat → Option ρ) : rf n o P K = K r := by
  rw [h]; exact if_pos ⟨h1, h2⟩
theorem nz_d {ρ : Type} {y : Int32} (h : ¬ y = 0) (K : Option ρ) : nz y K = K := if_neg h
theorem nzl_d {ρ : Type} {y : Int64} (h : ¬ y = 0) (K : Option ρ) : nzl y K = K := if_neg h
theorem zb_0 {ρ : Type} (K : Option ρ) : zb (I 0) K = K := if_pos (Or.inl rfl)
theorem zb_1 {ρ : Type} (K : Option ρ) : zb (I 1) K = K := if_pos (Or.inr rfl)
theorem zb_i {ρ : Type} {c : Prop} [Decidable c] (K : Option ρ) : zb (I (if c then 1 else 0)) K = K := by by_cases h : c <;> simp [h, zb_0, zb_1]
theorem I_ite {c : Prop} [Decidable c] (a b : Int) : (if c then I a else I b) = I (if c then a else b) := by by_cases h : c <;> simp [h]
/-! worlds -/
def fill (w : Wd) (k n : Nat) (f : Nat → Int32) : Wd := (fun a b => if a = k ∧ b < n then f b else w.1 a b, w.2)
theorem fill_1 (w : Wd) (k n : Nat) (f : Nat → Int32) (a b : Nat) : (fill w k n f).1 a b = if a = k ∧ b < n then f b else w.1 a b := rfl
theorem fill_2 (w : Wd) (k n : Nat) (f : Nat → Int32) : (fill w k n f).2 = w.2 := rfl
theorem upI_1 (w : Wd) (k j : Nat) (v : Int32) (a b : Nat) : (upI w k j v).1 a b = if a = k ∧ b = j then v else w.1 a b := rfl
theorem upI_2 (w : Wd) (k j : Nat) (v : Int32) : (upI w k j v).2 = w.2 := rfl
theorem upR_1 (w : Wd) (k j v : Nat) : (upR w k j v).1 = w.1 := rfl
theorem upR_2 (w : Wd) (k j v a b : Nat) : (upR w k j v).2 a b = if a = k ∧ b = j then some v else w.2 a b := rfl
theorem W_ext {w v : Wd} (h1 : ∀ a b, w.1 a b = v.1 a b) (h2 : w.2 = v.2) : w = v := by
  obtain ⟨w1, w2⟩ := w
  obtain ⟨v1, v2⟩ := v
  have e1 : w1 = v1 := funext fun a => funext fun b => h1 a b
  have e2 : w2 = v2 := h2
  rw [e1, e2]
theorem fill_0 (w : Wd) (k : Nat) (f : Nat → Int32) : fill w k 0 f = w := W_ext (fun a b => by rw [fill_1, if_neg (by omega)]) rfl
theorem fill_s (w : Wd) (k i : Nat) (f : Nat → Int32) : upI (fill w k i f) k i (f i) = fill w k (i + 1) f := W_ext (fun a b => by
  rw [upI_1, fill_1, fill_1]
  by_cases h : a = k ∧ b = i
  · obtain ⟨rfl, rfl⟩ := h
    rw [if_pos ⟨rfl, rfl⟩, if_pos ⟨rfl, Nat.lt_succ_self _⟩]
  · rw [if_neg h]
    by_cases h2 : a = k ∧ b < i
    · rw [if_pos h2, if_pos ⟨h2.1, by omega⟩]
    · rw [if_neg h2, if_neg (by omega)]) rfl

theorem wl1_for {α0 ρ : Type} {body : α0 → (α0 → Option ρ) → Option ρ} {E : Option ρ} (N : Nat) (s0 : Nat → α0) {n : Nat} {a0 : α0} (hn : N < n) (h0 : a0 = s0 0) (step : ∀ i, i < N → ∀ k, body (s0 i) k = k (s0 (i + 1))) (fin : ∀ k, body (s0 N) k = E) : wl1 body n a0 = E := by
  rw [h0]
  have key : ∀ d i m, i + d = N → d < m → wl1 body m (s0 i) = E := by
    intro d
    induction d with
    | zero =>
      intro i m hi hm
      obtain ⟨m, rfl⟩ : ∃ q, m = q + 1 := ⟨m - 1, by omega⟩
      obtain rfl : i = N := by omega
      exact fin _
    | succ d ih =>
      intro i m hi hm
      obtain ⟨m, rfl⟩ : ∃ q, m = q + 1 := ⟨m - 1, by omega⟩
      exact (step i (by omega) _).trans (ih (i + 1) m (by omega) (by omega))
  exact key N 0 n (by omega) hn
theorem wl2_for {α0 α1 ρ : Type} {body : α0 → α1 → (α0 → α1 → Option ρ) → Option ρ} {E : Option ρ} (N : Nat) (s0 : Nat → α0) (s1 : Nat → α1) {n : Nat} {a0 : α0} {a1 : α1} (hn : N < n) (h0 : a0 = s0 0) (h1 : a1 = s1 0) (step : ∀ i, i < N → ∀ k, body (s0 i) (s1 i) k = k (s0 (i + 1)) (s1 (i + 1))) (fin : ∀ k, body (s0 N) (s1 N) k = E) : wl2 body n a0 a1 = E := by
  rw [h0, h1]
  have key : ∀ d i m, i + d = N → d < m → wl2 body m (s0 i) (s1 i) = E := by
    intro d
    induction d with
    | zero =>
      intro i m hi hm
      obtain ⟨m, rfl⟩ : ∃ q, m = q + 1 := ⟨m - 1, by omega⟩
      obtain rfl : i = N := by omega
      exact fin _
    | succ d ih =>
      intro i m hi hm
      obtain ⟨m, rfl⟩ : ∃ q, m = q + 1 := ⟨m - 1, by omega⟩
      exact (step i (by omega) _).trans (ih (i + 1) m (by omega) (by omega))
  exact key N 0 n (by omega) hn
theorem wl3_for {α0 α1 α2 ρ : Type} {body : α0 → α1 → α2 → (α0 → α1 → α2 → Option ρ) → Option ρ} {E : Option ρ} (N : Nat) (s0 : Nat → α0) (s1 : Nat → α1) (s2 : Nat → α2) {n : Nat} {a0 : α0} {a1 : α1} {a2 : α2} (hn : N < n) (h0 : a0 = s0 0) (h1 : a1 = s1 0) (h2 : a2 = s2 0) (step : ∀ i, i < N → ∀ k, body (s0 i) (s1 i) (s2 i) k = k (s0 (i + 1)) (s1 (i + 1)) (s2 (i + 1))) (fin : ∀ k, body (s0 N) (s1 N) (s2 N) k = E) : wl3 body n a0 a1 a2 = E := by
  rw [h0, h1, h2]
  have key : ∀ d i m, i + d = N → d < m → wl3 body m (s0 i) (s1 i) (s2 i) = E := by
    intro d
    induction d with
    | zero =>
      intro i m hi hm
      obtain ⟨m, rfl⟩ : ∃ q, m = q + 1 := ⟨m - 1, by omega⟩
      obtain rfl : i = N := by omega
      exact fin _
    | succ d ih =>
      intro i m hi hm
      obtain ⟨m, rfl⟩ : ∃ q, m = q + 1 := ⟨m - 1, by omega⟩
      exact (step i (by omega) _).trans (ih (i + 1) m (by omega) (by omega))
  exact key N 0 n (by omega) hn
theorem wl4_for {α0 α1 α2 α3 ρ : Type} {body : α0 → α1 → α2 → α3 → (α0 → α1 → α2 → α3 → Option ρ) → Option ρ} {E : Option ρ} (N : Nat) (s0 : Nat → α0) (s1 : Nat → α1) (s2 : Nat → α2) (s3 : Nat → α3) {n : Nat} {a0 : α0} {a1 : α1} {a2 : α2} {a3 : α3} (hn : N < n) (h0 : a0 = s0 0) (h1 : a1 = s1 0) (h2 : a2 = s2 0) (h3 : a3 = s3 0) (step : ∀ i, i < N → ∀ k, body (s0 i) (s1 i) (s2 i) (s3 i) k = k (s0 (i + 1)) (s1 (i + 1)) (s2 (i + 1)) (s3 (i + 1))) (fin : ∀ k, body (s0 N) (s1 N) (s2 N) (s3 N) k = E) : wl4 body n a0 a1 a2 a3 = E := by
  rw [h0, h1, h2, h3]
  have key : ∀ d i m, i + d = N → d < m → wl4 body m (s0 i) (s1 i) (s2 i) (s3 i) = E := by
    intro d
    induction d with
    | zero =>
      intro i m hi hm
      obtain ⟨m, rfl⟩ : ∃ q, m = q + 1 := ⟨m - 1, by omega⟩
      obtain rfl : i = N := by omega
      exact fin _
    | succ d ih =>
      intro i m hi hm
      obtain ⟨m, rfl⟩ : ∃ q, m = q + 1 := ⟨m - 1, by omega⟩
      exact (step i (by omega) _).trans (ih (i + 1) m (by omega) (by omega))
  exact key N 0 n (by omega) hn
theorem wl5_for {α0 α1 α2 α3 α4 ρ : Type} {body : α0 → α1 → α2 → α3 → α4 → (α0 → α1 → α2 → α3 → α4 → Option ρ) → Option ρ} {E : Option ρ} (N : Nat) (s0 : Nat → α0) (s1 : Nat → α1) (s2 : Nat → α2) (s3 : Nat → α3) (s4 : Nat → α4) {n : Nat} {a0 : α0} {a1 : α1} {a2 : α2} {a3 : α3} {a4 : α4} (hn : N < n) (h0 : a0 = s0 0) (h1 : a1 = s1 0) (h2 : a2 = s2 0) (h3 : a3 = s3 0) (h4 : a4 = s4 0) (step : ∀ i, i < N → ∀ k, body (s0 i) (s1 i) (s2 i) (s3 i) (s4 i) k = k (s0 (i + 1)) (s1 (i + 1)) (s2 (i + 1)) (s3 (i + 1)) (s4 (i + 1))) (fin : ∀ k, body (s0 N) (s1 N) (s2 N) (s3 N) (s4 N) k = E) : wl5 body n a0 a1 a2 a3 a4 = E := by
  rw [h0, h1, h2, h3, h4]
  have key : ∀ d i m, i + d = N → d < m → wl5 body m (s0 i) (s1 i) (s2 i) (s3 i) (s4 i) = E := by
    intro d
    induction d with
    | zero =>
      intro i m hi hm
      obtain ⟨m, rfl⟩ : ∃ q, m = q + 1 := ⟨m - 1, by omega⟩
      obtain rfl : i = N := by omega
      exact fin _
    | succ d ih =>
      intro i m hi hm
      obtain ⟨m, rfl⟩ : ∃ q, m = q + 1 := ⟨m - 1, by omega⟩
      exact (step i (by omega) _).trans (ih (i + 1) m (by omega) (by omega))
  exact key N 0 n (by omega) hn
theorem fu_lt {n : Nat} (h : n < 3000) : n < fu := h
end
section
/-! the wiring, which never changes but in the row of states; a grid as 28 numbers -/
abbrev Gd : Type := Nat → Int
theorem nS (i : Nat) : I ((i : Int) + 1) = I ((i + 1 : Nat) : Int) := congrArg I (by omega)
def Wi (r : Nat → Nat → Option Nat) : Prop :=
  (r 0 0 = some 1 ∧ r 0 1 = some 3 ∧ r 0 2 = some 5 ∧ r 0 4 = some 7 ∧ r 0 6 = some 84 ∧ r 0 7 = some 92 ∧ r 0 8 = some 112 ∧ r 0 9 = some 114) ∧
  (∀ t, kd t = 0 → r t 3 = some (t + 1)) ∧ (∀ t, kd t = 5 → r t 0 = some (t + 1)) ∧
  (r 7 0 = some 8 ∧ r 7 1 = some 81 ∧ r 7 4 = some 83) ∧ (∀ k, k < 36 → r 8 k = some (9 + 2 * k)) ∧
  (r 84 0 = some 85 ∧ ∀ k, k < 6 → r 85 k = some (86 + k)) ∧ r 92 0 = some 93 ∧ r 112 0 = some 113 ∧
  (∀ h, h < 6 → r 114 h = some (115 + 4 * h) ∧ r (115 + 4 * h) 1 = some (116 + 4 * h) ∧ r (115 + 4 * h) 2 = some (118 + 4 * h)) ∧ True
theorem kd_l0 : ∀ t, t < 143 → (139 ≤ t → kd t = 9 ∧ ln t = 36) := by decide +kernel
theorem kd_c : ∀ t, t < 143 → kd t = 0 → t + 1 < 139 ∧ kd (t + 1) = 9 ∧ ln (t + 1) = 25 := by decide +kernel
theorem kd_s : ∀ t, t < 143 → kd t = 5 → t + 1 < 139 ∧ kd (t + 1) = 9 ∧ ln (t + 1) = 75 := by decide +kernel
theorem kdC {t : Nat} (h : kd t = 0) : t + 1 < 139 ∧ kd (t + 1) = 9 ∧ ln (t + 1) = 25 := kd_c t (kd_b (by rw [h]; decide)) h
theorem kdS {t : Nat} (h : kd t = 5) : t + 1 < 139 ∧ kd (t + 1) = 9 ∧ ln (t + 1) = 75 := kd_s t (kd_b (by rw [h]; decide)) h
/-- what isn't an array of ints lies among the class's own -/
theorem kd_lt {t k : Nat} (h : kd t = k) (hk : k < 99) (h9 : k ≠ 9) : t < 139 := by
  have h1 := kd_b (t := t) (by omega)
  have h2 := kd_l0 t h1
  omega
theorem nums {t : Nat} {w : Wd} {ρ : Type} (hk : kd t = 0) (hr : w.2 t 3 = some (t + 1)) (K : Nat → Option ρ) : rf 139 (w.2 t 3) 9 K = K (t + 1) := rf_d hr (kdC hk).1 (kdC hk).2.1 K
def GV (g : Gd) : Prop := (1 ≤ g 0 ∧ g 0 ≤ 5) ∧ (1 ≤ g 1 ∧ g 1 ≤ 5) ∧ (0 ≤ g 2 ∧ g 2 ≤ 3) ∧ (∀ j, j < 25 → 0 ≤ g (3 + j) ∧ g (3 + j) ≤ 3) ∧ ∀ j : Nat, j < 25 → (g 0 ≤ ((j / 5 : Nat) : Int) ∨ g 1 ≤ ((j % 5 : Nat) : Int)) → g (3 + j) = 0
/-- class Cells at t hold g -/
def CG (w : Wd) (t : Nat) (g : Gd) : Prop := w.1 t 0 = I (g 0) ∧ w.1 t 1 = I (g 1) ∧ w.1 t 2 = I (g 2) ∧ ∀ j, j < 25 → w.1 (t + 1) j = I (g (3 + j))
theorem CG.of {w w' : Wd} {t : Nat} {g : Gd} (h : CG w t g) (h1 : ∀ b, w'.1 t b = w.1 t b) (h2 : ∀ b, w'.1 (t + 1) b = w.1 (t + 1) b) : CG w' t g := ⟨(h1 0).trans h.1, (h1 1).trans h.2.1, (h1 2).trans h.2.2.1, fun j hj => (h2 j).trans (h.2.2.2 j hj)⟩
theorem s_hasCell {w : Wd} {t : Nat} {g : Gd} {x y : Int} (h : CG w t g) (hv : GV g) (hx : -2147483648 ≤ x ∧ x < 2147483648) (hy : -2147483648 ≤ y ∧ y < 2147483648) :
    f_X0_hasCell t (I x) (I y) w = some (I (if 1 ≤ x ∧ x ≤ g 0 ∧ 1 ≤ y ∧ y ≤ g 1 then 1 else 0)) := by
  obtain ⟨v1, v2, -⟩ := hv
  unfold f_X0_hasCell
  rw [h.1, h.2.1]
  simp (disch := omega) only [lt_d, i0, i1, i2, i3, i4, i5, i6, i7, i8, i9, i10, i12, i14, i20, i25, i26, i28, i30, i36, i48, i49, i50, i53, i57, i59, i60, i63, i75, i80, i99, i100, i196, i255, i1000, im1, im2, im3, im5, im6, im11, im12, im13, im14, im1000, I_lt, I_le, I_eq]
  by_cases c : 1 ≤ x ∧ x ≤ g 0 ∧ 1 ≤ y ∧ y ≤ g 1
  · rw [if_pos c, if_neg (by omega), if_neg (by omega), if_neg (by omega), if_neg (by omega), zb_1]
  · rw [if_neg c]
    have e : (if x < 1 then I 0 else if g 0 < x then I 0 else if y < 1 then I 0 else if g 1 < y then I 0 else I 1) = I 0 := by
      split
      · rfl
      · split
        · rfl
        · split
          · rfl
          · rw [if_pos (by omega)]
    rw [e, zb_0]
theorem s_hasCorner {w : Wd} {t : Nat} {g : Gd} {x y : Int} (h : CG w t g) (hv : GV g) (hx : -2147483648 ≤ x ∧ x < 2147483648) (hy : -2147483648 ≤ y ∧ y < 2147483648) :
    f_X0_hasCorner t (I x) (I y) w = some (I (if 0 ≤ x ∧ x ≤ g 0 ∧ 0 ≤ y ∧ y ≤ g 1 then 1 else 0)) := by
  obtain ⟨v1, v2, -⟩ := hv
  unfold f_X0_hasCorner
  rw [h.1, h.2.1]
  simp (disch := omega) only [lt_d, i0, i1, i2, i3, i4, i5, i6, i7, i8, i9, i10, i12, i14, i20, i25, i26, i28, i30, i36, i48, i49, i50, i53, i57, i59, i60, i63, i75, i80, i99, i100, i196, i255, i1000, im1, im2, im3, im5, im6, im11, im12, im13, im14, im1000, I_lt, I_le, I_eq]
  by_cases c : 0 ≤ x ∧ x ≤ g 0 ∧ 0 ≤ y ∧ y ≤ g 1
  · rw [if_pos c, if_neg (by omega), if_neg (by omega), if_neg (by omega), if_neg (by omega), zb_1]
  · rw [if_neg c]
    have e : (if x < 0 then I 0 else if g 0 < x then I 0 else if y < 0 then I 0 else if g 1 < y then I 0 else I 1) = I 0 := by
      split
      · rfl
      · split
        · rfl
        · split
          · rfl
          · rw [if_pos (by omega)]
    rw [e, zb_0]
/-- the number at column x, row y -/
def num (g : Gd) (x y : Int) : Int := if 1 ≤ x ∧ x ≤ g 0 ∧ 1 ≤ y ∧ y ≤ g 1 then g (3 + (5 * (x - 1) + (y - 1)).toNat) else 0
theorem s_numberAt {w : Wd} {t : Nat} {g : Gd} {x y : Int} (hk : kd t = 0) (hr : w.2 t 3 = some (t + 1)) (h : CG w t g) (hv : GV g) (hx : -2147483648 ≤ x ∧ x < 2147483648) (hy : -2147483648 ≤ y ∧ y < 2147483648) :
    f_X0_numberAt t (I x) (I y) w = some (I (num g x y)) := by
  unfold f_X0_numberAt f_X0_placeOf num
  rw [c1_r (s_hasCell h hv hx hy)]
  obtain ⟨v1, v2, -⟩ := hv
  by_cases c : 1 ≤ x ∧ x ≤ g 0 ∧ 1 ≤ y ∧ y ≤ g 1
  · rw [if_pos c, if_pos c, if_neg (by decide), nums hk hr, c1_d]
    simp only [i0, i1, i2, i3, i4, i5, i6, i7, i8, i9, i10, i12, i14, i20, i25, i26, i28, i30, i36, i48, i49, i50, i53, i57, i59, i60, i63, i75, i80, i99, i100, i196, i255, i1000, im1, im2, im3, im5, im6, im11, im12, im13, im14, im1000, I_add, I_sub, I_mul, I_nat]
    rw [(kdC hk).2.2, ix_d (by omega) (by omega) (by decide), lt_d, h.2.2.2 _ (by omega)]
    congr 4
    omega
  · rw [if_neg c, if_neg c, if_pos (show I 0 = 0 from rfl)]; rfl
theorem s_setNumber {w : Wd} {t : Nat} {g : Gd} {x y : Int} (v : Int32) (hk : kd t = 0) (hr : w.2 t 3 = some (t + 1)) (h : CG w t g) (hv : GV g) (hx : 1 ≤ x ∧ x ≤ g 0) (hy : 1 ≤ y ∧ y ≤ g 1) :
    f_X0_setNumber t (I x) (I y) v w = some (upI w (t + 1) (5 * (x - 1) + (y - 1)).toNat v) := by
  unfold f_X0_setNumber f_X0_placeOf
  have hv2 := hv
  obtain ⟨v1, v2, -⟩ := hv
  have c : 1 ≤ x ∧ x ≤ g 0 ∧ 1 ≤ y ∧ y ≤ g 1 := by omega
  rw [c1_r (s_hasCell h hv2 (by omega) (by omega)), if_pos c, if_neg (by decide), nums hk hr, c1_d]
  simp only [i0, i1, i2, i3, i4, i5, i6, i7, i8, i9, i10, i12, i14, i20, i25, i26, i28, i30, i36, i48, i49, i50, i53, i57, i59, i60, i63, i75, i80, i99, i100, i196, i255, i1000, im1, im2, im3, im5, im6, im11, im12, im13, im14, im1000, I_add, I_sub, I_mul, I_nat]
  rw [(kdC hk).2.2, ix_d (by omega) (by omega) (by decide), lt_d]
  congr 3
  omega
/-- setNumber outside the grid does nothing -/
theorem s_setNumberO {w : Wd} {t : Nat} {g : Gd} {x y : Int} (v : Int32) (h : CG w t g) (hv : GV g) (hx : -2147483648 ≤ x ∧ x < 2147483648) (hy : -2147483648 ≤ y ∧ y < 2147483648) (c : ¬ (1 ≤ x ∧ x ≤ g 0 ∧ 1 ≤ y ∧ y ≤ g 1)) :
    f_X0_setNumber t (I x) (I y) v w = some w := by
  unfold f_X0_setNumber
  rw [c1_r (s_hasCell h hv hx hy), if_neg c, if_pos (show I 0 = 0 from rfl)]
def clg (w : Wd) (t : Nat) (a b : Int32) : Wd := fill (upI (upI w t 0 a) t 1 b) (t + 1) 25 (fun _ => I 0)
theorem s_clearTo {w : Wd} {t : Nat} (a b : Int32) (hk : kd t = 0) (hr : w.2 t 3 = some (t + 1)) : f_X0_clearTo t a b w = some (clg w t a b) := by
  unfold f_X0_clearTo
  rw [lt_d, lt_d]
  refine wl2_for 25 (fun i => I i) (fun i => fill (upI (upI w t 0 a) t 1 b) (t + 1) i (fun _ => I 0)) (by decide) rfl (fill_0 _ _ _).symm (fun i hi k => ?_) (fun k => ?_)
  · rw [fill_2, upI_2, upI_2, nums hk hr, (kdC hk).2.2, nums hk hr, I_nat]
    simp (disch := omega) only [i0, i1, i2, i3, i4, i5, i6, i7, i8, i9, i10, i12, i14, i20, i25, i26, i28, i30, i36, i48, i49, i50, i53, i57, i59, i60, i63, i75, i80, i99, i100, i196, i255, i1000, im1, im2, im3, im5, im6, im11, im12, im13, im14, im1000, I_add, I_sub, I_mul, I_nat, I_le]
    rw [if_neg (by omega), (kdC hk).2.2, ix_d (by omega) (by omega) (by decide)]
    simp only [Int.toNat_natCast, fill_s _ _ i (fun _ => I 0), lt_d, nS]
  · rw [fill_2, upI_2, upI_2, nums hk hr, (kdC hk).2.2, I_nat, if_pos (by decide)]
    rfl
def cpg (w : Wd) (t u : Nat) : Wd := fill (upI (upI (upI w t 0 (w.1 u 0)) t 1 (w.1 u 1)) t 2 (w.1 u 2)) (t + 1) 25 (fun j => w.1 (u + 1) j)
theorem s_copyFrom {w : Wd} {t u : Nat} (hk : kd t = 0) (hr : w.2 t 3 = some (t + 1)) (hk2 : kd u = 0) (hr2 : w.2 u 3 = some (u + 1)) (hne : t ≠ u) : f_X0_copyFrom t u w = some (cpg w t u) := by
  have n1 : t ≠ u + 1 := fun e => by have := (kdC hk2).2.1; rw [← e, hk] at this; cases this
  have n2 : u ≠ t + 1 := fun e => by have := (kdC hk).2.1; rw [← e, hk2] at this; cases this
  unfold f_X0_copyFrom
  rw [lt_d, lt_d, lt_d]
  have e1 : (upI w t 0 (w.1 u 0)).1 u 1 = w.1 u 1 := by rw [upI_1, if_neg (by omega)]
  have e2 : (upI (upI w t 0 (w.1 u 0)) t 1 (w.1 u 1)).1 u 2 = w.1 u 2 := by rw [upI_1, if_neg (by omega), upI_1, if_neg (by omega)]
  rw [e1, e2]
  refine wl2_for 25 (fun i => I i) (fun i => fill (upI (upI (upI w t 0 (w.1 u 0)) t 1 (w.1 u 1)) t 2 (w.1 u 2)) (t + 1) i (fun j => w.1 (u + 1) j)) (by decide) rfl (fill_0 _ _ _).symm (fun i hi k => ?_) (fun k => ?_)
  · rw [fill_2, upI_2, upI_2, upI_2, nums hk hr, (kdC hk).2.2, nums hk hr, nums hk2 hr2, I_nat]
    simp (disch := omega) only [i0, i1, i2, i3, i4, i5, i6, i7, i8, i9, i10, i12, i14, i20, i25, i26, i28, i30, i36, i48, i49, i50, i53, i57, i59, i60, i63, i75, i80, i99, i100, i196, i255, i1000, im1, im2, im3, im5, im6, im11, im12, im13, im14, im1000, I_add, I_sub, I_mul, I_nat, I_le]
    rw [if_neg (by omega), (kdC hk2).2.2, ix_d (by omega) (by omega) (by decide), (kdC hk).2.2, ix_d (by omega) (by omega) (by decide)]
    have e : (fill (upI (upI (upI w t 0 (w.1 u 0)) t 1 (w.1 u 1)) t 2 (w.1 u 2)) (t + 1) i (fun j => w.1 (u + 1) j)).1 (u + 1) i = w.1 (u + 1) i := by
      simp only [upI_1, upI_2, fill_1, fill_2, upR_1, upR_2]
      rw [if_neg (by omega), if_neg (by omega), if_neg (by omega), if_neg (by omega)]
    simp only [Int.toNat_natCast, lt_d]
    rw [e, fill_s _ _ i (fun j => w.1 (u + 1) j), nS]
  · rw [fill_2, upI_2, upI_2, upI_2, nums hk hr, (kdC hk).2.2, I_nat, if_pos (by decide)]
    rfl
theorem upI_s (w : Wd) (k j : Nat) (v : Int32) : (upI w k j v).1 k j = v := if_pos ⟨rfl, rfl⟩
theorem upI_n {w : Wd} {k j a b : Nat} {v : Int32} (h : ¬ (a = k ∧ b = j)) : (upI w k j v).1 a b = w.1 a b := if_neg h
theorem fill_i {w : Wd} {k n b : Nat} {f : Nat → Int32} (h : b < n) : (fill w k n f).1 k b = f b := if_pos ⟨rfl, h⟩
theorem fill_n {w : Wd} {k n a b : Nat} {f : Nat → Int32} (h : ¬ (a = k ∧ b < n)) : (fill w k n f).1 a b = w.1 a b := if_neg h
theorem cpg_2 (w : Wd) (t u : Nat) : (cpg w t u).2 = w.2 := rfl
theorem cpg_o {w : Wd} {t u a b : Nat} (h1 : a ≠ t) (h2 : a ≠ t + 1) : (cpg w t u).1 a b = w.1 a b := by
  unfold cpg
  rw [fill_n (fun h => h2 h.1), upI_n (fun h => h1 h.1), upI_n (fun h => h1 h.1), upI_n (fun h => h1 h.1)]
theorem cpg_CG {w : Wd} {t u : Nat} {g : Gd} (h : CG w u g) : CG (cpg w t u) t g := by
  unfold cpg
  refine ⟨?_, ?_, ?_, fun j hj => ?_⟩
  · rw [fill_n (by omega), upI_n (by omega), upI_n (by omega), upI_s]; exact h.1
  · rw [fill_n (by omega), upI_n (by omega), upI_s]; exact h.2.1
  · rw [fill_n (by omega), upI_s]; exact h.2.2.1
  · rw [fill_i hj]; exact h.2.2.2 j hj
theorem clg_2 (w : Wd) (t : Nat) (a b : Int32) : (clg w t a b).2 = w.2 := rfl
theorem clg_o {w : Wd} {t a b : Nat} {x y : Int32} (h1 : a ≠ t) (h2 : a ≠ t + 1) : (clg w t x y).1 a b = w.1 a b := by
  unfold clg
  rw [fill_n (fun h => h2 h.1), upI_n (fun h => h1 h.1), upI_n (fun h => h1 h.1)]
/-- how many of the first n numbers are above 0; their sum -/
def fld (g : Gd) : Nat → Int
  | 0 => 0
  | n + 1 => fld g n + if 0 < g (3 + n) then 1 else 0
def tot (g : Gd) : Nat → Int
  | 0 => 0
  | n + 1 => tot g n + g (3 + n)
theorem fld_b (g : Gd) : ∀ n, 0 ≤ fld g n ∧ fld g n ≤ n
  | 0 => by simp [fld]
  | n + 1 => by
    have := fld_b g n
    unfold fld
    split <;> omega
theorem tot_b {g : Gd} (hv : GV g) : ∀ n, n ≤ 25 → 0 ≤ tot g n ∧ tot g n ≤ 3 * n
  | 0, _ => by simp [tot]
  | n + 1, h => by
    have h1 := tot_b hv n (by omega)
    have h2 := hv.2.2.2.1 n (by omega)
    unfold tot
    omega
theorem s_filled {w : Wd} {t : Nat} {g : Gd} (hk : kd t = 0) (hr : w.2 t 3 = some (t + 1)) (h : CG w t g) (hv : GV g) : f_X0_filled t w = some (I (fld g 25)) := by
  unfold f_X0_filled
  refine wl2_for 25 (fun i => I (fld g i)) (fun i => I i) (by decide) rfl rfl (fun i hi k => ?_) (fun k => ?_)
  · have hb := hv.2.2.2.1 i hi
    rw [nums hk hr, (kdC hk).2.2, nums hk hr, I_nat]
    simp (disch := omega) only [i0, i1, i2, i3, i4, i5, i6, i7, i8, i9, i10, i12, i14, i20, i25, i26, i28, i30, i36, i48, i49, i50, i53, i57, i59, i60, i63, i75, i80, i99, i100, i196, i255, i1000, im1, im2, im3, im5, im6, im11, im12, im13, im14, im1000, I_add, I_sub, I_mul, I_nat, I_le]
    rw [if_neg (by omega), (kdC hk).2.2, ix_d (by omega) (by omega) (by decide)]
    simp only [Int.toNat_natCast, lt_d]
    simp (disch := omega) only [h.2.2.2 i hi, I_le, I_ite, I_add, nS]
    rw [show fld g (i + 1) = fld g i + (if 0 < g (3 + i) then 1 else 0) from rfl]
    congr 3
    split <;> split <;> omega
  · rw [nums hk hr, (kdC hk).2.2, I_nat, if_pos (by decide)]
theorem s_total {w : Wd} {t : Nat} {g : Gd} (hk : kd t = 0) (hr : w.2 t 3 = some (t + 1)) (h : CG w t g) : f_X0_total t w = some (I (tot g 25)) := by
  unfold f_X0_total
  refine wl2_for 25 (fun i => I (tot g i)) (fun i => I i) (by decide) rfl rfl (fun i hi k => ?_) (fun k => ?_)
  · rw [nums hk hr, (kdC hk).2.2, nums hk hr, I_nat]
    simp (disch := omega) only [i0, i1, i2, i3, i4, i5, i6, i7, i8, i9, i10, i12, i14, i20, i25, i26, i28, i30, i36, i48, i49, i50, i53, i57, i59, i60, i63, i75, i80, i99, i100, i196, i255, i1000, im1, im2, im3, im5, im6, im11, im12, im13, im14, im1000, I_add, I_sub, I_mul, I_nat, I_le]
    rw [if_neg (by omega), (kdC hk).2.2, ix_d (by omega) (by omega) (by decide)]
    simp only [Int.toNat_natCast, lt_d]
    simp only [h.2.2.2 i hi, I_add, nS]
    rfl
  · rw [nums hk hr, (kdC hk).2.2, I_nat, if_pos (by decide)]
def dif (g f : Gd) : Nat → Int
  | 0 => 0
  | n + 1 => dif g f n + if g (3 + n) = f (3 + n) then 0 else 1
theorem s_differing {w : Wd} {t u : Nat} {g f : Gd} (hk : kd t = 0) (hr : w.2 t 3 = some (t + 1)) (hk2 : kd u = 0) (hr2 : w.2 u 3 = some (u + 1)) (h : CG w t g) (h2 : CG w u f) (hb : ∀ j, j < 25 → (-2147483648 ≤ g (3 + j) ∧ g (3 + j) < 2147483648) ∧ (-2147483648 ≤ f (3 + j) ∧ f (3 + j) < 2147483648)) : f_X0_differing t u w = some (I (dif g f 25)) := by
  unfold f_X0_differing
  refine wl2_for 25 (fun i => I (dif g f i)) (fun i => I i) (by decide) rfl rfl (fun i hi k => ?_) (fun k => ?_)
  · have hb1 := hb i hi
    rw [nums hk hr, (kdC hk).2.2, nums hk hr, I_nat]
    simp (disch := omega) only [i0, i1, i2, i3, i4, i5, i6, i7, i8, i9, i10, i12, i14, i20, i25, i26, i28, i30, i36, i48, i49, i50, i53, i57, i59, i60, i63, i75, i80, i99, i100, i196, i255, i1000, im1, im2, im3, im5, im6, im11, im12, im13, im14, im1000, I_add, I_sub, I_mul, I_nat, I_le]
    rw [if_neg (by omega), (kdC hk).2.2, ix_d (by omega) (by omega) (by decide), nums hk2 hr2, (kdC hk2).2.2, ix_d (by omega) (by omega) (by decide)]
    simp only [Int.toNat_natCast, lt_d]
    simp (disch := omega) only [h.2.2.2 i hi, h2.2.2.2 i hi, I_eq, I_ite, I_add, nS]
    rfl
  · rw [nums hk hr, (kdC hk).2.2, I_nat, if_pos (by decide)]
end
section
/-! the table at its places -/
theorem kd_0 : kd 0 = 7 := rfl
theorem kd_1 : kd 1 = 0 := rfl
theorem kd_3 : kd 3 = 0 := rfl
theorem kd_5 : kd 5 = 0 := rfl
theorem kd_7 : kd 7 = 1 := rfl
theorem kd_8 : kd 8 = 12 := rfl
theorem ln_8 : ln 8 = 36 := rfl
theorem kd_81 : kd 81 = 5 := rfl
theorem kd_83 : kd 83 = 9 := rfl
theorem ln_83 : ln 83 = 36 := rfl
theorem kd_84 : kd 84 = 4 := rfl
theorem kd_85 : kd 85 = 13 := rfl
theorem ln_85 : ln 85 = 6 := rfl
theorem kd_92 : kd 92 = 2 := rfl
theorem kd_93 : kd 93 = 10 := rfl
theorem ln_93 : ln 93 = 9 := rfl
theorem kd_112 : kd 112 = 6 := rfl
theorem kd_113 : kd 113 = 9 := rfl
theorem ln_113 : ln 113 = 60 := rfl
theorem kd_114 : kd 114 = 11 := rfl
theorem ln_114 : ln 114 = 6 := rfl
theorem kd_best : ∀ x, x < 6 → kd (86 + x) = 9 ∧ ln (86 + x) = 6 := by decide +kernel
theorem kd_hold : ∀ h, h < 6 → kd (115 + 4 * h) = 3 ∧ kd (116 + 4 * h) = 5 ∧ kd (118 + 4 * h) = 9 ∧ ln (118 + 4 * h) = 30 := by decide +kernel
theorem kd_shape : ∀ k, k < 36 → kd (9 + 2 * k) = 5 := by decide +kernel
theorem kd_st : ∀ t, t < 112 → 94 ≤ t → kd t = 0 ∨ kd t = 9 := by decide +kernel
theorem rfc {ρ : Type} {o : Option Nat} {r P : Nat} (h : o = some r) (hk : kd r = P) (hP : P < 99 ∧ P ≠ 9) (K : Nat → Option ρ) : rf 139 o P K = K r := rf_d h (kd_lt hk hP.1 hP.2) hk K
theorem ckc {ρ : Type} {r P : Nat} (hk : kd r = P) (hP : P < 99 ∧ P ≠ 9) (K : Option ρ) : ck 139 r P K = K := ck_d (kd_lt hk hP.1 hP.2) hk K
theorem rf9 {ρ : Type} {o : Option Nat} {r : Nat} {Q : Prop} (h : o = some r) (hk : r < 139 ∧ kd r = 9 ∧ Q) (K : Nat → Option ρ) : rf 139 o 9 K = K r := rf_d h hk.1 hk.2.1 K
/-! deeds, in the class -/
def DC (w : Wd) (p u : Nat) (G : Nat → Gd) : Prop := ∃ P : Nat → Nat, (∀ k, k < 9 → w.2 93 k = some (P k) ∧ kd (P k) = 0 ∧ 94 ≤ P k ∧ P k < 111) ∧ (∀ i j, i < 9 → j < 9 → P i = P j → i = j) ∧ w.1 92 1 = I p ∧ w.1 92 2 = I ((p + u : Nat) : Int) ∧ p + u ≤ 8 ∧ ∀ k, k ≤ p + u → (k < p ∨ 0 < u) → CG w (P k) (G k)
def pshP (p : Nat) : Nat := if p < 8 then p + 1 else 8
def pshG (p : Nat) (G : Nat → Gd) (g : Gd) : Nat → Gd := if p < 8 then (fun k => if k = p then g else G k) else (fun k => if k = 7 then g else G (k + 1))
theorem DC.of {w w' : Wd} {p u : Nat} {G : Nat → Gd} (h : DC w p u G) (h0 : ∀ b, w'.1 92 b = w.1 92 b) (h1 : ∀ a b, 94 ≤ a → a < 112 → w'.1 a b = w.1 a b) (h2 : ∀ b, w'.2 93 b = w.2 93 b) : DC w' p u G := by
  obtain ⟨P, a1, a2, a3, a4, a5, a6⟩ := h
  refine ⟨P, fun k hk => by rw [h2]; exact a1 k hk, a2, by rw [h0]; exact a3, by rw [h0]; exact a4, a5, fun k hk hk2 => (a6 k hk hk2).of (fun b => ?_) (fun b => ?_)⟩
  · have := a1 k (by omega); exact h1 _ b (by omega) (by omega)
  · have := a1 k (by omega); exact h1 _ b (by omega) (by omega)
theorem Wi.up93 {r : Nat → Nat → Option Nat} (h : Wi r) (f : Nat → Option Nat) : Wi (fun a b => if a = 93 then f b else r a b) := by
  obtain ⟨a1, a2, a3, a4, a5, a6, a7, a8, a9, a10⟩ := h
  refine ⟨a1, fun t ht => ?_, fun t ht => ?_, a4, fun k hk => a5 k hk, ⟨a6.1, fun k hk => ?_⟩, a7, a8, fun h hh => ⟨(a9 h hh).1, ?_, ?_⟩, a10⟩
  · have : t ≠ 93 := fun e => by rw [e] at ht; cases ht
    show (if t = 93 then f 3 else r t 3) = _
    rw [if_neg this]; exact a2 t ht
  · have : t ≠ 93 := fun e => by rw [e] at ht; cases ht
    show (if t = 93 then f 0 else r t 0) = _
    rw [if_neg this]; exact a3 t ht
  · exact a6.2 k hk
  · show (if 115 + 4 * h = 93 then f 1 else r (115 + 4 * h) 1) = _
    rw [if_neg (by omega)]; exact (a9 h hh).2.1
  · show (if 115 + 4 * h = 93 then f 2 else r (115 + 4 * h) 2) = _
    rw [if_neg (by omega)]; exact (a9 h hh).2.2
def rot (w : Wd) (P : Nat → Nat) (n : Nat) : Wd := (w.1, fun a b => if a = 93 then (if b < n then some (P (b + 1)) else w.2 93 b) else w.2 a b)
theorem rot_s (w : Wd) (P : Nat → Nat) (n : Nat) : upR (rot w P n) 93 n (P (n + 1)) = rot w P (n + 1) := by
  refine Prod.ext rfl (funext fun a => funext fun b => ?_)
  show (if a = 93 ∧ b = n then some (P (n + 1)) else if a = 93 then (if b < n then some (P (b + 1)) else w.2 93 b) else w.2 a b) = if a = 93 then (if b < n + 1 then some (P (b + 1)) else w.2 93 b) else w.2 a b
  by_cases h1 : a = 93
  · by_cases h2 : b = n
    · rw [if_pos ⟨h1, h2⟩, if_pos h1, if_pos (by omega), h2]
    · rw [if_neg (by omega), if_pos h1, if_pos h1]
      by_cases h3 : b < n
      · rw [if_pos h3, if_pos (by omega)]
      · rw [if_neg h3, if_neg (by omega)]
  · rw [if_neg (by omega), if_neg h1, if_neg h1]
theorem s_forgetOldest {w : Wd} (hW : Wi w.2) (P : Nat → Nat) (hP : ∀ k, k < 9 → w.2 93 k = some (P k) ∧ kd (P k) = 0) : f_X2_forgetOldest 92 w = some (upI (upR (rot w P 8) 93 8 (P 0)) 92 1 (I 7)) := by
  have hw := hW.2.2.2.2.2.2.1
  unfold f_X2_forgetOldest
  rw [rfc hw kd_93 (by decide), ln_93, i0, ix_d (by decide) (by decide) (by decide), show (0 : Int).toNat = 0 from rfl, rfc (hP 0 (by decide)).1 (hP 0 (by decide)).2 (by decide)]
  refine wl2_for 8 (fun i => I i) (fun i => rot w P i) (by decide) rfl ?_ (fun i hi k => ?_) (fun k => ?_)
  · refine Prod.ext rfl (funext fun a => funext fun b => ?_)
    show w.2 a b = if a = 93 then (if b < 0 then some (P (b + 1)) else w.2 93 b) else w.2 a b
    by_cases h1 : a = 93
    · rw [if_pos h1, if_neg (by omega), h1]
    · rw [if_neg h1]
  · have e0 : (rot w P i).2 92 0 = some 93 := hw
    have e1 : (rot w P i).2 93 (i + 1) = some (P (i + 1)) := by
      show (if 93 = 93 then (if i + 1 < i then some (P (i + 1 + 1)) else w.2 93 (i + 1)) else w.2 93 (i + 1)) = _
      rw [if_pos rfl, if_neg (by omega)]; exact (hP (i + 1) (by omega)).1
    simp (disch := omega) only [i0, i1, i2, i3, i4, i5, i6, i7, i8, i9, i10, i12, i14, i20, i25, i26, i28, i30, i36, i48, i49, i50, i53, i57, i59, i60, i63, i75, i80, i99, i100, i196, i255, i1000, im1, im2, im3, im5, im6, im11, im12, im13, im14, im1000, I_le]
    rw [if_neg (by omega), rfc e0 kd_93 (by decide), rfc e0 kd_93 (by decide), ln_93, I_add, ix_d (by omega) (by omega) (by decide)]
    rw [show ((i : Int) + 1).toNat = i + 1 by omega, rfc e1 (hP (i + 1) (by omega)).2 (by decide), ix_d (by omega) (by omega) (by decide), lt_d, lt_d, Int.toNat_natCast, rot_s, nS]
  · have e0 : (rot w P 8).2 92 0 = some 93 := hw
    rw [if_pos (by decide), rfc e0 kd_93 (by decide), ln_93, i8, ix_d (by decide) (by decide) (by decide)]
    rfl
theorem s_remember {w : Wd} {g : Gd} {p u : Nat} {G : Nat → Gd} (hW : Wi w.2) (hd : DC w p u G) (hg : CG w 1 g) : ∃ w', f_X2_remember 92 1 w = some w' ∧ Wi w'.2 ∧ DC w' (pshP p) 0 (pshG p G g) ∧ (∀ a b, a ≠ 92 → (a < 94 ∨ 112 ≤ a) → w'.1 a b = w.1 a b) := by
  obtain ⟨P, a1, a2, a3, a4, a5, a6⟩ := hd
  have hw := hW.2.2.2.2.2.2.1
  have hcell := hW.2.1
  unfold f_X2_remember
  rw [jn_d, a3]
  by_cases c : p < 8
  · simp (disch := omega) only [i0, i1, i2, i3, i4, i5, i6, i7, i8, i9, i10, i12, i14, i20, i25, i26, i28, i30, i36, i48, i49, i50, i53, i57, i59, i60, i63, i75, i80, i99, i100, i196, i255, i1000, im1, im2, im3, im5, im6, im11, im12, im13, im14, im1000, I_lt]
    rw [if_pos (by omega), rfc hw kd_93 (by decide), a3, ln_93, ix_d (by omega) (by omega) (by decide), Int.toNat_natCast]
    obtain ⟨b1, b2, b3, b4⟩ := a1 p (by omega)
    rw [rfc b1 b2 (by decide), c1_r (s_copyFrom b2 (hcell _ b2) kd_1 (hcell _ kd_1) (by omega)), lt_d, lt_d]
    refine ⟨_, rfl, hW, ⟨P, a1, a2, ?_, ?_, by unfold pshP; rw [if_pos c]; omega, ?_⟩, ?_⟩
    · rw [upI_n (by omega), upI_s, cpg_o (by omega) (by omega), a3, I_add]
      unfold pshP; rw [if_pos c]; exact congrArg I (by omega)
    · rw [upI_s, upI_s, cpg_o (by omega) (by omega), a3, I_add]
      unfold pshP; rw [if_pos c]; exact congrArg I (by omega)
    · intro k hk0 hk
      have hk : k < p + 1 := by
        unfold pshP at hk
        rw [if_pos c] at hk
        omega
      unfold pshG
      rw [if_pos c]
      obtain ⟨d1, d2, d3, d4⟩ := a1 k (by omega)
      by_cases e : k = p
      · subst e
        show CG _ _ (if k = k then g else G k)
        rw [if_pos rfl]
        exact (cpg_CG hg).of (fun b => by rw [upI_n (by omega), upI_n (by omega)]) (fun b => by rw [upI_n (by omega), upI_n (by omega)])
      · show CG _ _ (if k = p then g else G k)
        rw [if_neg e]
        have hne : P k ≠ P p := fun z => e (a2 k p (by omega) (by omega) z)
        have hne2 : P k ≠ P p + 1 := fun z => by have := (kdC b2).2.1; rw [← z, d2] at this; cases this
        have hne3 : P k + 1 ≠ P p := fun z => by have := (kdC d2).2.1; rw [z, b2] at this; cases this
        exact (a6 k (by omega) (by omega)).of (fun b => by rw [upI_n (by omega), upI_n (by omega), cpg_o hne hne2]) (fun b => by rw [upI_n (by omega), upI_n (by omega), cpg_o hne3 (by omega)])
    · intro a b h1 h2
      rw [upI_n (by omega), upI_n (by omega), cpg_o (by omega) (by omega)]
  · have hp : p = 8 := by omega
    subst hp
    have hu : u = 0 := by omega
    subst hu
    simp (disch := omega) only [i0, i1, i2, i3, i4, i5, i6, i7, i8, i9, i10, i12, i14, i20, i25, i26, i28, i30, i36, i48, i49, i50, i53, i57, i59, i60, i63, i75, i80, i99, i100, i196, i255, i1000, im1, im2, im3, im5, im6, im11, im12, im13, im14, im1000, I_lt]
    rw [if_neg (by omega), c1_r (s_forgetOldest hW P (fun k hk => ⟨(a1 k hk).1, (a1 k hk).2.1⟩))]
    generalize hw1 : upI (upR (rot w P 8) 93 8 (P 0)) 92 1 (I 7) = w1
    have r1 : ∀ a b, w1.1 a b = if a = 92 ∧ b = 1 then I 7 else w.1 a b := fun a b => by rw [← hw1]; rfl
    have r2 : ∀ b, b < 9 → w1.2 93 b = some (P ((b + 1) % 9)) := fun b hb => by
      rw [← hw1]
      show (if 93 = 93 ∧ b = 8 then some (P 0) else if 93 = 93 then (if b < 8 then some (P (b + 1)) else w.2 93 b) else w.2 93 b) = _
      by_cases h : b = 8
      · rw [if_pos ⟨rfl, h⟩, h]
      · rw [if_neg (by omega), if_pos rfl, if_pos (by omega), Nat.mod_eq_of_lt (by omega)]
    have r3 : ∀ a b, a ≠ 93 → w1.2 a b = w.2 a b := fun a b h => by
      rw [← hw1]
      show (if a = 93 ∧ b = 8 then some (P 0) else if a = 93 then (if b < 8 then some (P (b + 1)) else w.2 93 b) else w.2 a b) = _
      rw [if_neg (by omega), if_neg h]
    have hW1 : Wi w1.2 := by
      have e : w1.2 = fun a b => if a = 93 then w1.2 93 b else w.2 a b := funext fun a => funext fun b => by
        by_cases h : a = 93
        · rw [if_pos h, h]
        · rw [if_neg h, r3 a b h]
      rw [e]
      exact hW.up93 _
    clear hw1
    have hcell := hW1.2.1
    obtain ⟨b1, b2, b3, b4⟩ := a1 8 (by omega)
    rw [rfc hW1.2.2.2.2.2.2.1 kd_93 (by decide), r1, if_pos ⟨rfl, rfl⟩, ln_93, ix_d (by decide) (by decide) (by decide)]
    rw [show ((7 : Int).toNat) = 7 from rfl, rfc (r2 7 (by decide)) b2 (by decide), c1_r (s_copyFrom b2 (hcell _ b2) kd_1 (hcell _ kd_1) (by omega)), lt_d, lt_d]
    have key : ∀ a, a < 9 → kd (P ((a + 1) % 9)) = 0 ∧ 94 ≤ P ((a + 1) % 9) ∧ P ((a + 1) % 9) < 111 := fun a ha => (a1 _ (Nat.mod_lt _ (by decide))).2
    refine ⟨_, rfl, hW1, ⟨fun k => P ((k + 1) % 9), fun k hk => ⟨r2 k hk, key k hk⟩, fun i j hi hj h => ?_, ?_, ?_, by unfold pshP; rw [if_neg c]; omega, ?_⟩, ?_⟩
    · have := a2 _ _ (Nat.mod_lt (i + 1) (by decide)) (Nat.mod_lt (j + 1) (by decide)) h
      omega
    · rw [upI_n (by omega), upI_s, cpg_o (by omega) (by omega), r1, if_pos ⟨rfl, rfl⟩, I_add]
      unfold pshP; rw [if_neg c]; rfl
    · rw [upI_s, upI_s, cpg_o (by omega) (by omega), r1, if_pos ⟨rfl, rfl⟩, I_add]
      unfold pshP; rw [if_neg c]; rfl
    · intro k hk0 hk
      have hk : k < 8 := by
        unfold pshP at hk
        rw [if_neg c] at hk
        omega
      unfold pshG
      rw [if_neg c]
      obtain ⟨d1, d2, d3, d4⟩ := a1 ((k + 1) % 9) (by omega)
      have hg1 : CG w1 1 g := hg.of (fun b => by rw [r1, if_neg (by omega)]) (fun b => by rw [r1, if_neg (by omega)])
      by_cases e : k = 7
      · subst e
        show CG _ (P 8) (if 7 = 7 then g else G _)
        rw [if_pos rfl]
        exact (cpg_CG hg1).of (fun b => by rw [upI_n (by omega), upI_n (by omega)]) (fun b => by rw [upI_n (by omega), upI_n (by omega)])
      · show CG _ _ (if k = 7 then g else G (k + 1))
        rw [if_neg e]
        have hm : (k + 1) % 9 = k + 1 := Nat.mod_eq_of_lt (by omega)
        show CG _ (P ((k + 1) % 9)) _
        rw [hm] at d1 d2 d3 d4 ⊢
        have hne : P (k + 1) ≠ P 8 := fun z => e (by have := a2 (k + 1) 8 (by omega) (by omega) z; omega)
        have hne2 : P (k + 1) ≠ P 8 + 1 := fun z => by have := (kdC b2).2.1; rw [← z, d2] at this; cases this
        have hne3 : P (k + 1) + 1 ≠ P 8 := fun z => by have := (kdC d2).2.1; rw [z, b2] at this; cases this
        exact (a6 (k + 1) (by omega) (by omega)).of (fun b => by rw [upI_n (by omega), upI_n (by omega), cpg_o hne hne2, r1, if_neg (by omega)]) (fun b => by rw [upI_n (by omega), upI_n (by omega), cpg_o hne3 (by omega), r1, if_neg (by omega)])
    · intro a b h1 h2
      rw [upI_n (by omega), upI_n (by omega), cpg_o (by omega) (by omega), r1, if_neg (by omega)]
end
section
/-! undo and again, in the class -/
theorem s_stepBack {w : Wd} {g : Gd} {p u : Nat} {G : Nat → Gd} (hW : Wi w.2) (hd : DC w p u G) (hg : CG w 1 g) (hp : 0 < p) : ∃ w', f_X2_stepBack 92 1 w = some w' ∧ w'.2 = w.2 ∧ CG w' 1 (G (p - 1)) ∧ DC w' (p - 1) (u + 1) (fun k => if k = p then g else G k) ∧ (∀ a b, a ≠ 92 → a ≠ 1 → a ≠ 2 → (a < 94 ∨ 112 ≤ a) → w'.1 a b = w.1 a b) := by
  obtain ⟨P, a1, a2, a3, a4, a5, a6⟩ := hd
  have hw := hW.2.2.2.2.2.2.1
  have hcell := hW.2.1
  obtain ⟨b1, b2, b3, b4⟩ := a1 p (by omega)
  obtain ⟨d1, d2, d3, d4⟩ := a1 (p - 1) (by omega)
  have hne : P (p - 1) ≠ P p := fun z => by have := a2 _ _ (by omega) (by omega) z; omega
  have hne2 : P (p - 1) ≠ P p + 1 := fun z => by have := (kdC b2).2.1; rw [← z, d2] at this; cases this
  have hne3 : P (p - 1) + 1 ≠ P p := fun z => by have := (kdC d2).2.1; rw [z, b2] at this; cases this
  unfold f_X2_stepBack
  rw [a3]
  simp (disch := omega) only [i0, i1, i2, i3, i4, i5, i6, i7, i8, i9, i10, i12, i14, i20, i25, i26, i28, i30, i36, i48, i49, i50, i53, i57, i59, i60, i63, i75, i80, i99, i100, i196, i255, i1000, im1, im2, im3, im5, im6, im11, im12, im13, im14, im1000, I_le]
  rw [if_neg (by omega), rfc hw kd_93 (by decide), ln_93, ix_d (by omega) (by omega) (by decide), Int.toNat_natCast, rfc b1 b2 (by decide), c1_r (s_copyFrom b2 (hcell _ b2) kd_1 (hcell _ kd_1) (by omega)), lt_d]
  rw [upI_2, cpg_2, rfc hw kd_93 (by decide), cpg_o (by omega) (by omega), a3, upI_s, I_sub, ln_93, ix_d (by omega) (by omega) (by decide), show ((p : Int) - 1).toNat = p - 1 by omega, rfc d1 d2 (by decide)]
  rw [c1_r (s_copyFrom (w := upI (cpg w (P p) 1) 92 1 (I ((p : Int) - 1))) kd_1 (hcell _ kd_1) d2 (hcell _ d2) (by omega))]
  refine ⟨_, rfl, rfl, cpg_CG ((a6 (p - 1) (by omega) (by omega)).of (fun b => ?_) (fun b => ?_)), ⟨P, a1, a2, ?_, ?_, by omega, fun k hk0 hk => ?_⟩, fun a b h1 h2 h3 h4 => ?_⟩
  · rw [upI_n (by omega), cpg_o hne hne2]
  · rw [upI_n (by omega), cpg_o hne3 (by omega)]
  · rw [cpg_o (by omega) (by omega), upI_s]; exact congrArg I (by omega)
  · rw [cpg_o (by omega) (by omega), upI_n (by omega), cpg_o (by omega) (by omega), a4]; exact congrArg I (by omega)
  · obtain ⟨e1, e2, e3, e4⟩ := a1 k (by omega)
    show CG _ _ (if k = p then g else G k)
    by_cases e : k = p
    · subst e
      rw [if_pos rfl]
      exact (cpg_CG hg).of (fun b => by rw [cpg_o (by omega) (by omega), upI_n (by omega)]) (fun b => by rw [cpg_o (by omega) (by omega), upI_n (by omega)])
    · rw [if_neg e]
      have hne : P k ≠ P p := fun z => e (a2 k p (by omega) (by omega) z)
      have hne2 : P k ≠ P p + 1 := fun z => by have := (kdC b2).2.1; rw [← z, e2] at this; cases this
      have hne3 : P k + 1 ≠ P p := fun z => by have := (kdC e2).2.1; rw [z, b2] at this; cases this
      exact (a6 k (by omega) (by omega)).of (fun b => by rw [cpg_o (by omega) (by omega), upI_n (by omega), cpg_o hne hne2]) (fun b => by rw [cpg_o (by omega) (by omega), upI_n (by omega), cpg_o hne3 (by omega)])
  · rw [cpg_o (by omega) (by omega), upI_n (by omega), cpg_o (by omega) (by omega)]
theorem s_stepOn {w : Wd} {p u : Nat} {G : Nat → Gd} (hW : Wi w.2) (hd : DC w p u G) (hu : 0 < u) : ∃ w', f_X2_stepOn 92 1 w = some w' ∧ w'.2 = w.2 ∧ CG w' 1 (G (p + 1)) ∧ DC w' (p + 1) (u - 1) G ∧ (∀ a b, a ≠ 92 → a ≠ 1 → a ≠ 2 → w'.1 a b = w.1 a b) := by
  obtain ⟨P, a1, a2, a3, a4, a5, a6⟩ := hd
  have hw := hW.2.2.2.2.2.2.1
  have hcell := hW.2.1
  obtain ⟨d1, d2, d3, d4⟩ := a1 (p + 1) (by omega)
  unfold f_X2_stepOn
  rw [a3, a4]
  simp (disch := omega) only [i0, i1, i2, i3, i4, i5, i6, i7, i8, i9, i10, i12, i14, i20, i25, i26, i28, i30, i36, i48, i49, i50, i53, i57, i59, i60, i63, i75, i80, i99, i100, i196, i255, i1000, im1, im2, im3, im5, im6, im11, im12, im13, im14, im1000, I_le]
  rw [if_neg (by omega), lt_d, upI_2, rfc hw kd_93 (by decide), upI_s, I_add, ln_93, ix_d (by omega) (by omega) (by decide), show ((p : Int) + 1).toNat = p + 1 by omega, rfc d1 d2 (by decide)]
  rw [c1_r (s_copyFrom (w := upI w 92 1 (I ((p : Int) + 1))) kd_1 (hcell _ kd_1) d2 (hcell _ d2) (by omega))]
  refine ⟨_, rfl, rfl, cpg_CG ((a6 (p + 1) (by omega) (by omega)).of (fun b => ?_) (fun b => ?_)), ⟨P, a1, a2, ?_, ?_, by omega, fun k hk0 hk => ?_⟩, fun a b h1 h2 h3 => ?_⟩
  · rw [upI_n (by omega)]
  · rw [upI_n (by omega)]
  · rw [cpg_o (by omega) (by omega), upI_s]; exact congrArg I (by omega)
  · rw [cpg_o (by omega) (by omega), upI_n (by omega), a4]; exact congrArg I (by omega)
  · obtain ⟨e1, e2, e3, e4⟩ := a1 k (by omega)
    exact (a6 k (by omega) (by omega)).of (fun b => by rw [cpg_o (by omega) (by omega), upI_n (by omega)]) (fun b => by rw [cpg_o (by omega) (by omega), upI_n (by omega)])
  · rw [cpg_o (by omega) (by omega), upI_n (by omega)]
theorem s_begin {w : Wd} {g : Gd} {p u : Nat} {G : Nat → Gd} (hW : Wi w.2) (hd : DC w p u G) (hg : CG w 1 g) : ∃ w', f_X7_beginDeed 0 w = some w' ∧ Wi w'.2 ∧ CG w' 1 g ∧ DC w' (pshP p) 0 (pshG p G g) ∧ w'.1 0 5 = 0 ∧ (∀ a b, a ≠ 92 → (a < 94 ∨ 112 ≤ a) → ¬ (a = 0 ∧ b = 5) → w'.1 a b = w.1 a b) := by
  obtain ⟨w1, h1, h2, h3, h4⟩ := s_remember hW hd hg
  unfold f_X7_beginDeed
  rw [rfc hW.1.2.2.2.2.2.1 kd_92 (by decide), rfc hW.1.1 kd_1 (by decide), c1_r h1, lt_d]
  refine ⟨_, rfl, h2, hg.of (fun b => ?_) (fun b => ?_), h3.of (fun b => ?_) (fun a b x y => ?_) (fun b => rfl), upI_s _ _ _ _, fun a b x y z => ?_⟩
  · rw [upI_n (by omega), h4 _ _ (by omega) (by omega)]
  · rw [upI_n (by omega), h4 _ _ (by omega) (by omega)]
  · rw [upI_n (by omega)]
  · rw [upI_n (by omega)]
  · rw [upI_n (by omega), h4 _ _ (by omega) (by omega)]
end
section
/-! growth, on whole numbers -/
def mx (a b : Int) : Int := if a < b then b else a
def eqi (a b : Int) : Int := if a = b then 1 else 0
def tri (o a b : Int) : Int := if o = a then (if a = b then 1 else 0) else 0
def lo (a b : Int) : Int := if a < b then a else b
def gN (r o a b c : Int) : Int := if r = 0 then mx a b + c else if r = 1 then mx (a + c) b else if r = 2 then mx a (b + c) else mx a b + lo (tri o a b) c
def worth (r v : Int) : Int := if r = 1 then (if 1 < v then 1 else v) else if r = 2 then (if 1 < v then 1 else v) else v
def gc (r w : Int) (o a b : Nat → Int) : Nat → Int
  | 0 => w
  | k + 1 => gc r w o a b k + (a k + b k - o k - gN r (o k) (a k) (b k) (gc r w o a b k))
def gp (r w : Int) (o a b : Nat → Int) (k : Nat) : Int := gN r (o k) (a k) (b k) (gc r w o a b k)
def rowS (r : Int) (wt : Nat → Int) (prev : Nat → Nat → Int) : Nat → Nat → Int
  | 0 => fun _ => 0
  | y + 1 => gp r (wt y) (prev y) (prev (y + 1)) (rowS r wt prev y)
def SR (r : Int) (wt : Nat → Nat → Int) : Nat → Nat → Nat → Int
  | 0 => fun _ _ => 0
  | x + 1 => rowS r (wt x) (SR r wt x)
theorem SR_0 (r : Int) (wt : Nat → Nat → Int) (y k : Nat) : SR r wt 0 y k = 0 := rfl
theorem SR_y0 (r : Int) (wt : Nat → Nat → Int) : ∀ x k, SR r wt x 0 k = 0
  | 0, _ => rfl
  | _ + 1, _ => rfl
theorem SR_s (r : Int) (wt : Nat → Nat → Int) (x y : Nat) : SR r wt (x + 1) (y + 1) = gp r (wt x y) (SR r wt x y) (SR r wt x (y + 1)) (SR r wt (x + 1) y) := rfl
def tsum (s : Nat → Int) : Nat → Int
  | 0 => 0
  | k + 1 => tsum s k + s k
/-- a shape of total size W -/
def Gs (s : Nat → Int) (W : Int) : Prop := (∀ k, 0 ≤ s k) ∧ (∀ k, s (k + 1) ≤ s k) ∧ s 75 = 0 ∧ tsum s 75 = W
theorem Gs.dn {s : Nat → Int} {W : Int} (h : Gs s W) {k j : Nat} (hk : k ≤ j) : s j ≤ s k := by
  induction j with
  | zero => have : k = 0 := by omega
            subst this; exact Int.le_refl _
  | succ j ih =>
    by_cases e : k = j + 1
    · subst e; exact Int.le_refl _
    · exact Int.le_trans (h.2.1 j) (ih (by omega))
theorem Gs.z {s : Nat → Int} {W : Int} (h : Gs s W) {k : Nat} (hk : 75 ≤ k) : s k = 0 := by
  have h1 := h.dn hk
  have h2 := h.1 k
  rw [h.2.2.1] at h1
  omega
theorem Gs.t {s : Nat → Int} {W : Int} (h : Gs s W) : ∀ d, tsum s (75 + d) = W
  | 0 => h.2.2.2
  | d + 1 => by
    have h1 := h.t d
    have h2 := h.z (k := 75 + d) (by omega)
    show tsum s (75 + d) + s (75 + d) = W
    omega
theorem tsum_b {s : Nat → Int} (h : ∀ k, 0 ≤ s k) {i j : Nat} (hij : i ≤ j) : tsum s i ≤ tsum s j := by
  induction j with
  | zero => have : i = 0 := by omega
            subst this; exact Int.le_refl _
  | succ j ih =>
    by_cases e : i = j + 1
    · subst e; exact Int.le_refl _
    · have h1 := ih (by omega)
      have h2 := h j
      show tsum s i ≤ tsum s j + s j
      omega
theorem Gs.tb {s : Nat → Int} {W : Int} (h : Gs s W) (K : Nat) : 0 ≤ tsum s K ∧ tsum s K ≤ W := by
  refine ⟨tsum_b h.1 (Nat.zero_le K), ?_⟩
  rw [← h.t K]
  exact tsum_b h.1 (by omega)
theorem Gs.b {s : Nat → Int} {W : Int} (h : Gs s W) (k : Nat) : s k ≤ W := by
  have h1 := (h.tb (k + 1)).2
  have h2 := (h.tb k).1
  have h3 : tsum s (k + 1) = tsum s k + s k := rfl
  omega
/-- from s to t: contained, and level (0) or upright (1) -/
def Sp (e : Int) (s t : Nat → Int) : Prop := (∀ k, s k ≤ t k) ∧ (e = 0 → ∀ k, t (k + 1) ≤ s k) ∧ (e = 1 → ∀ k, t k ≤ s k + 1)
def eC (r : Int) : Int := if r = 1 then 1 else if r = 3 then 1 else 0
def eR (r : Int) : Int := if r = 2 then 1 else if r = 3 then 1 else 0
theorem gc_b {r w : Int} {o a b : Nat → Int} (hr : 0 ≤ r ∧ r ≤ 3) (hw : 0 ≤ w) (ho : ∀ k, 0 ≤ o k) (h1 : ∀ k, o k ≤ a k) (h2 : ∀ k, o k ≤ b k) : ∀ k, 0 ≤ gc r w o a b k
  | 0 => hw
  | k + 1 => by
    have ih := gc_b hr hw ho h1 h2 k
    have x0 := ho k; have x1 := h1 k; have x2 := h2 k
    show 0 ≤ gc r w o a b k + (a k + b k - o k - gN r (o k) (a k) (b k) (gc r w o a b k))
    unfold gN mx lo tri
    repeat' split
    all_goals omega
theorem gp_sum {r w : Int} {o a b : Nat → Int} : ∀ k, tsum (gp r w o a b) k + gc r w o a b k = w + tsum a k + tsum b k - tsum o k
  | 0 => by show (0 : Int) + w = w + 0 + 0 - 0; omega
  | k + 1 => by
    have ih := gp_sum (r := r) (w := w) (o := o) (a := a) (b := b) k
    show tsum (gp r w o a b) k + gp r w o a b k + (gc r w o a b k + (a k + b k - o k - gp r w o a b k)) = w + (tsum a k + a k) + (tsum b k + b k) - (tsum o k + o k)
    omega
theorem gp_pt {r w : Int} {o a b : Nat → Int} (hr : 0 ≤ r ∧ r ≤ 3) (hw : 0 ≤ w) (ho : ∀ k, 0 ≤ o k) (h1 : ∀ k, o k ≤ a k) (h2 : ∀ k, o k ≤ b k) (k : Nat) : a k ≤ gp r w o a b k ∧ b k ≤ gp r w o a b k ∧ (gp r w o a b k = 0 → gc r w o a b k = 0) := by
  have ih := gc_b hr hw ho h1 h2 k
  have x0 := ho k; have x1 := h1 k; have x2 := h2 k
  unfold gp gN mx lo tri
  refine ⟨?_, ?_, fun h => ?_⟩
  · repeat' split
    all_goals omega
  · repeat' split
    all_goals omega
  · revert h
    repeat' split
    all_goals omega
theorem gp_step {r w : Int} {o a b : Nat → Int} {Wo Wa Wb : Int} (hr : 0 ≤ r ∧ r ≤ 3) (hw : 0 ≤ w) (hw1 : r = 1 ∨ r = 2 → w ≤ 1) (Ho : Gs o Wo) (Ha : Gs a Wa) (Hb : Gs b Wb) (Sa : Sp (eR r) o a) (Sb : Sp (eC r) o b) (hb : w + Wa + Wb - Wo ≤ 75) :
    Gs (gp r w o a b) (w + Wa + Wb - Wo) ∧ Sp (eC r) a (gp r w o a b) ∧ Sp (eR r) b (gp r w o a b) := by
  have hc := gc_b hr hw Ho.1 Sa.1 Sb.1
  have hp := gp_pt hr hw Ho.1 Sa.1 Sb.1
  have hs : ∀ k, gc r w o a b (k + 1) = gc r w o a b k + (a k + b k - o k - gp r w o a b k) := fun k => rfl
  have hc1 : r = 1 ∨ r = 2 → ∀ k, gc r w o a b k ≤ 1 := fun h k => by
    cases k with
    | zero => exact hw1 h
    | succ k =>
      rw [hs]
      have x1 := hc k; have x2 := Sa.1 k; have x3 := Sb.1 k
      have x4 := Sa.2.2; have x5 := Sb.2.2
      unfold eR at x4; unfold eC at x5
      unfold gp gN mx
      obtain h | h := h
      · have x6 := x5 (by rw [if_pos h]) k
        rw [if_neg (by omega), if_pos h]
        split <;> omega
      · have x6 := x4 (by rw [if_pos h]) k
        rw [if_neg (by omega), if_neg (by omega), if_pos h]
        split <;> omega
  have hC : Sp (eC r) a (gp r w o a b) := by
    refine ⟨fun k => (hp k).1, fun h k => ?_, fun h k => ?_⟩
    · have x1 := hc k; have x2 := Sa.1 k; have x3 := Sb.1 k; have x7 := Ha.2.1 k; have x8 := Hb.2.1 k; have x9 := hs k
      have x4 := Sa.2.1; have x5 := Sb.2.1; have x6 := Sa.2.2
      unfold eC at h x5; unfold eR at x4 x6
      have hr2 : r = 0 ∨ r = 2 := by
        revert h
        repeat' split
        all_goals omega
      obtain h0 | h0 := hr2
      · have y1 := x4 (by rw [if_neg (by omega), if_neg (by omega)]) k
        have y2 := x5 (by rw [if_neg (by omega), if_neg (by omega)]) k
        unfold gp gN mx at x9 ⊢
        rw [if_pos h0] at x9 ⊢
        revert x9
        repeat' split
        all_goals omega
      · have y1 := x6 (by rw [if_pos (by omega)]) k
        have y2 := x5 (by rw [if_neg (by omega), if_neg (by omega)]) k
        unfold gp gN mx at x9 ⊢
        rw [if_neg (by omega), if_neg (by omega), if_pos h0] at x9 ⊢
        revert x9
        repeat' split
        all_goals omega
    · have x1 := hc k; have x2 := Sa.1 k; have x3 := Sb.1 k
      have x5 := Sb.2.2 h k
      unfold eC at h
      have hr2 : r = 1 ∨ r = 3 := by
        revert h
        repeat' split
        all_goals omega
      obtain h0 | h0 := hr2
      · have y1 := hc1 (by omega) k
        unfold gp gN mx
        rw [if_neg (by omega), if_pos h0]
        split <;> omega
      · have y1 := Sa.2.2 (by unfold eR; rw [if_neg (by omega), if_pos h0]) k
        unfold gp gN mx lo tri
        rw [if_neg (by omega), if_neg (by omega), if_neg (by omega)]
        repeat' split
        all_goals omega
  have hR : Sp (eR r) b (gp r w o a b) := by
    refine ⟨fun k => (hp k).2.1, fun h k => ?_, fun h k => ?_⟩
    · have x1 := hc k; have x2 := Sa.1 k; have x3 := Sb.1 k; have x7 := Ha.2.1 k; have x8 := Hb.2.1 k; have x9 := hs k
      have x4 := Sa.2.1; have x5 := Sb.2.1; have x6 := Sb.2.2
      unfold eC at x5 x6; unfold eR at h x4
      have hr2 : r = 0 ∨ r = 1 := by
        revert h
        repeat' split
        all_goals omega
      obtain h0 | h0 := hr2
      · have y1 := x4 (by rw [if_neg (by omega), if_neg (by omega)]) k
        have y2 := x5 (by rw [if_neg (by omega), if_neg (by omega)]) k
        unfold gp gN mx at x9 ⊢
        rw [if_pos h0] at x9 ⊢
        revert x9
        repeat' split
        all_goals omega
      · have y1 := x6 (by rw [if_pos (by omega)]) k
        have y2 := x4 (by rw [if_neg (by omega), if_neg (by omega)]) k
        unfold gp gN mx at x9 ⊢
        rw [if_neg (by omega), if_pos h0] at x9 ⊢
        revert x9
        repeat' split
        all_goals omega
    · have x1 := hc k; have x2 := Sa.1 k; have x3 := Sb.1 k
      have x5 := Sa.2.2 h k
      unfold eR at h
      have hr2 : r = 2 ∨ r = 3 := by
        revert h
        repeat' split
        all_goals omega
      obtain h0 | h0 := hr2
      · have y1 := hc1 (by omega) k
        unfold gp gN mx
        rw [if_neg (by omega), if_neg (by omega), if_pos h0]
        split <;> omega
      · have y1 := Sb.2.2 (by unfold eC; rw [if_neg (by omega), if_pos h0]) k
        unfold gp gN mx lo tri
        rw [if_neg (by omega), if_neg (by omega), if_neg (by omega)]
        repeat' split
        all_goals omega
  have hdn : ∀ k, gp r w o a b (k + 1) ≤ gp r w o a b k := fun k => by
    by_cases h : r = 3
    · have x1 := hc k; have x2 := Sa.1 k; have x3 := Sb.1 k; have x9 := hs k
      have y1 := Sa.2.2 (by unfold eR; rw [if_neg (by omega), if_pos h]) k
      have y2 := Sb.2.2 (by unfold eC; rw [if_neg (by omega), if_pos h]) k
      have z1 := Ho.2.1 k; have z2 := Ha.2.1 k; have z3 := Hb.2.1 k
      have e : ∀ k, gp r w o a b k = mx (a k) (b k) + lo (tri (o k) (a k) (b k)) (gc r w o a b k) := fun k => by
        unfold gp gN
        rw [if_neg (by omega), if_neg (by omega), if_neg (by omega)]
      rw [e (k + 1), e k]
      rw [e k] at x9
      revert x9
      generalize gc r w o a b (k + 1) = c1
      revert x1
      generalize gc r w o a b k = c0
      intro x1
      unfold mx lo tri
      repeat' split
      all_goals intro x9
      all_goals omega
    · by_cases h2 : r = 1
      · have := hR.2.1 (by unfold eR; rw [if_neg (by omega), if_neg (by omega)]) k
        have := (hp k).2.1
        omega
      · have := hC.2.1 (by unfold eC; rw [if_neg (by omega), if_neg (by omega)]) k
        have := (hp k).1
        omega
  have h0 : ∀ k, 0 ≤ gp r w o a b k := fun k => Int.le_trans (Ha.1 k) (hp k).1
  have hsum := gp_sum (r := r) (w := w) (o := o) (a := a) (b := b)
  have hz : gp r w o a b 75 = 0 := by
    by_cases c : gp r w o a b 75 = 0
    · exact c
    · exfalso
      have hpos : ∀ k, k ≤ 75 → 1 ≤ gp r w o a b k := fun k hk => by
        have key : ∀ d, d ≤ 75 → gp r w o a b 75 ≤ gp r w o a b (75 - d) := fun d => by
          induction d with
          | zero => intro _; exact Int.le_refl _
          | succ d ih =>
            intro hd
            have e1 := ih (by omega)
            have e2 := hdn (75 - (d + 1))
            rw [show 75 - (d + 1) + 1 = 75 - d by omega] at e2
            omega
        have e1 := key (75 - k) (by omega)
        rw [show 75 - (75 - k) = k by omega] at e1
        have e2 := h0 75
        omega
      have hbig : ∀ K : Nat, K ≤ 76 → (K : Int) ≤ tsum (gp r w o a b) K := fun K => by
        induction K with
        | zero => intro _; exact Int.le_refl _
        | succ K ih =>
          intro hK
          have e1 := ih (by omega)
          have e2 := hpos K (by omega)
          show ((K + 1 : Nat) : Int) ≤ tsum (gp r w o a b) K + gp r w o a b K
          omega
      have e1 := hbig 76 (by omega)
      have e2 := hsum 76
      have e3 := hc 76
      have e4 : tsum a 76 = Wa := Ha.t 1
      have e5 : tsum b 76 = Wb := Hb.t 1
      have e6 : tsum o 76 = Wo := Ho.t 1
      omega
  refine ⟨⟨h0, hdn, hz, ?_⟩, hC, hR⟩
  have e1 := hsum 75
  have e2 := (hp 75).2.2 hz
  have e4 := Ha.2.2.2; have e5 := Hb.2.2.2; have e6 := Ho.2.2.2
  omega
def csum (wt : Nat → Int) : Nat → Int
  | 0 => 0
  | y + 1 => csum wt y + wt y
def WS (wt : Nat → Nat → Int) : Nat → Nat → Int
  | 0, _ => 0
  | x + 1, y => WS wt x y + csum (wt x) y
theorem Gs0 : Gs (fun _ => 0) 0 := ⟨fun _ => Int.le_refl _, fun _ => Int.le_refl _, rfl, by decide⟩
theorem Sp0 (e : Int) {t : Nat → Int} (h : ∀ k, t k = 0) : Sp e (fun _ => 0) t := ⟨fun k => by rw [h]; exact Int.le_refl _, fun _ k => by rw [h]; exact Int.le_refl _, fun _ k => by rw [h]; show (0 : Int) ≤ 0 + 1; decide⟩
theorem csum_b {wt : Nat → Int} (h : ∀ y, y < 5 → 0 ≤ wt y ∧ wt y ≤ 3) : ∀ y, y ≤ 5 → 0 ≤ csum wt y ∧ csum wt y ≤ 15
  | y, hy => by
    have key : ∀ y, y ≤ 5 → 0 ≤ csum wt y ∧ csum wt y ≤ 3 * y := fun y => by
      induction y with
      | zero => intro _; exact ⟨Int.le_refl _, Int.le_refl _⟩
      | succ y ih =>
        intro hy
        have e1 := ih (by omega)
        have e2 := h y (by omega)
        show 0 ≤ csum wt y + wt y ∧ csum wt y + wt y ≤ 3 * ((y + 1 : Nat) : Int)
        omega
    have := key y hy
    omega
theorem WS_b {wt : Nat → Nat → Int} (h : ∀ x, x < 5 → ∀ y, y < 5 → 0 ≤ wt x y ∧ wt x y ≤ 3) {y : Nat} (hy : y ≤ 5) : ∀ x, x ≤ 5 → 0 ≤ WS wt x y ∧ WS wt x y ≤ 15 * x
  | 0, _ => by show (0 : Int) ≤ 0 ∧ (0 : Int) ≤ _; omega
  | x + 1, hx => by
    have e1 := WS_b h hy x (by omega)
    have e2 := csum_b (h x (by omega)) y hy
    show 0 ≤ WS wt x y + csum (wt x) y ∧ WS wt x y + csum (wt x) y ≤ 15 * ((x + 1 : Nat) : Int)
    omega
theorem WS_y0 (wt : Nat → Nat → Int) : ∀ x, WS wt x 0 = 0
  | 0 => rfl
  | x + 1 => by show WS wt x 0 + 0 = 0; rw [WS_y0 wt x]; rfl
theorem SR_ok {r : Int} {wt : Nat → Nat → Int} (hr : 0 ≤ r ∧ r ≤ 3) (h : ∀ x, x < 5 → ∀ y, y < 5 → 0 ≤ wt x y ∧ wt x y ≤ 3) (h1 : r = 1 ∨ r = 2 → ∀ x y, wt x y ≤ 1) : ∀ x, x ≤ 5 → ∀ y, y ≤ 5 → Gs (SR r wt x y) (WS wt x y) ∧ (0 < y → Sp (eR r) (SR r wt x (y - 1)) (SR r wt x y)) ∧ (0 < x → Sp (eC r) (SR r wt (x - 1) y) (SR r wt x y)) := by
  intro x
  induction x with
  | zero =>
    intro _ y hy
    exact ⟨Gs0, fun _ => Sp0 _ (fun _ => rfl), fun h => absurd h (by decide)⟩
  | succ x ihx =>
    intro hx y
    have ihx := ihx (by omega)
    induction y with
    | zero =>
      intro _
      rw [WS_y0]
      refine ⟨Gs0, fun h => absurd h (by decide), fun _ => ?_⟩
      have e : SR r wt x 0 = fun _ => 0 := funext fun k => SR_y0 r wt x k
      show Sp (eC r) (SR r wt x 0) (fun _ => 0)
      rw [e]; exact Sp0 _ (fun _ => rfl)
    | succ y ihy =>
      intro hy
      have ihy := ihy (by omega)
      have o := ihx y (by omega)
      have a := ihx (y + 1) (by omega)
      have hw := h x (by omega) y (by omega)
      have e2 := WS_b h hy (x + 1) hx
      have e3 : WS wt (x + 1) (y + 1) = WS wt x (y + 1) + (csum (wt x) y + wt x y) := rfl
      have e4 : WS wt (x + 1) y = WS wt x y + csum (wt x) y := rfl
      have key := gp_step hr hw.1 (fun h => h1 h x y) o.1 a.1 ihy.1 (a.2.1 (by omega)) (ihy.2.2 (by omega)) (by omega)
      rw [show wt x y + WS wt x (y + 1) + WS wt (x + 1) y - WS wt x y = WS wt (x + 1) (y + 1) by omega] at key
      exact ⟨key.1, fun _ => key.2.2, fun _ => key.2.1⟩
def wts (g : Gd) (x y : Nat) : Int := worth (g 2) (g (3 + (5 * x + y)))
def Sg (g : Gd) : Nat → Nat → Nat → Int := SR (g 2) (wts g)
def Wg (g : Gd) : Nat → Nat → Int := WS (wts g)
theorem wts_b {g : Gd} (hv : GV g) : ∀ x, x < 5 → ∀ y, y < 5 → 0 ≤ wts g x y ∧ wts g x y ≤ 3 := fun x hx y hy => by
  have := hv.2.2.2.1 (5 * x + y) (by omega)
  unfold wts worth
  repeat' split
  all_goals omega
theorem Sg_ok {g : Gd} (hv : GV g) {x y : Nat} (hx : x ≤ 5) (hy : y ≤ 5) : Gs (Sg g x y) (Wg g x y) ∧ (0 < y → Sp (eR (g 2)) (Sg g x (y - 1)) (Sg g x y)) ∧ (0 < x → Sp (eC (g 2)) (Sg g (x - 1) y) (Sg g x y)) :=
  SR_ok hv.2.2.1 (wts_b hv) (fun h x y => by
    unfold wts worth
    repeat' split
    all_goals omega) x hx y hy
theorem Wg_b {g : Gd} (hv : GV g) {x y : Nat} (hx : x ≤ 5) (hy : y ≤ 5) : 0 ≤ Wg g x y ∧ Wg g x y ≤ 75 := by
  have := WS_b (wts_b hv) hy x hx
  unfold Wg
  omega
theorem gc_le {r w : Int} {o a b : Nat → Int} {Wo Wa Wb : Int} (hr : 0 ≤ r ∧ r ≤ 3) (hw : 0 ≤ w) (Ho : Gs o Wo) (Ha : Gs a Wa) (Hb : Gs b Wb) (h1 : ∀ k, o k ≤ a k) (h2 : ∀ k, o k ≤ b k) (k : Nat) (hk : k ≤ 75) : gc r w o a b k ≤ w + Wa + Wb - Wo := by
  have key : ∀ d, d ≤ 75 → tsum a (75 - d) + tsum b (75 - d) - tsum o (75 - d) ≤ Wa + Wb - Wo := fun d => by
    induction d with
    | zero =>
      intro _
      have e4 : tsum a 75 = Wa := Ha.2.2.2
      have e5 : tsum b 75 = Wb := Hb.2.2.2
      have e6 : tsum o 75 = Wo := Ho.2.2.2
      show tsum a 75 + tsum b 75 - tsum o 75 ≤ _
      omega
    | succ d ih =>
      intro hd
      have e1 := ih (by omega)
      obtain ⟨q, hq⟩ : ∃ q, q = 75 - (d + 1) := ⟨_, rfl⟩
      rw [show 75 - d = q + 1 by omega] at e1
      rw [← hq]
      have e2 := h1 q; have e3 := h2 q; have e4 := Ha.1 q; have e5 := Hb.1 q
      have f1 : tsum a (q + 1) = tsum a q + a q := rfl
      have f2 : tsum b (q + 1) = tsum b q + b q := rfl
      have f3 : tsum o (q + 1) = tsum o q + o q := rfl
      omega
  have e1 := key (75 - k) (by omega)
  rw [show 75 - (75 - k) = k by omega] at e1
  have e2 := gp_sum (r := r) (w := w) (o := o) (a := a) (b := b) k
  have e3 : 0 ≤ tsum (gp r w o a b) k := tsum_b (i := 0) (fun k => Int.le_trans (Ha.1 k) (gp_pt hr hw Ho.1 h1 h2 k).1) (Nat.zero_le k)
  omega
/-- how many of the first n are above 0 -/
def cnt (s : Nat → Int) : Nat → Nat
  | 0 => 0
  | k + 1 => cnt s k + if 0 < s k then 1 else 0
def len (s : Nat → Int) : Nat := cnt s 75
theorem cnt_le (s : Nat → Int) : ∀ n, cnt s n ≤ n
  | 0 => Nat.le_refl _
  | n + 1 => by
    have := cnt_le s n
    show cnt s n + (if 0 < s n then 1 else 0) ≤ n + 1
    split <;> omega
theorem cnt_p {s : Nat → Int} {W : Int} (h : Gs s W) : ∀ n k, k < n → (k < cnt s n ↔ 0 < s k)
  | 0, _, hk => absurd hk (Nat.not_lt_zero _)
  | n + 1, k, hk => by
    have e0 := cnt_le s n
    have e1 : cnt s (n + 1) = cnt s n + (if 0 < s n then 1 else 0) := rfl
    rw [e1]
    by_cases c : 0 < s n
    · rw [if_pos c]
      have e2 : cnt s n = n := by
        by_cases z : n = 0
        · rw [z]; rfl
        · have f1 := cnt_p h n (n - 1) (by omega)
          have f2 := h.dn (k := n - 1) (j := n) (by omega)
          have f3 := f1.2 (by omega)
          omega
      have f2 := h.dn (k := k) (j := n) (by omega)
      omega
    · rw [if_neg c]
      by_cases z : k = n
      · subst z; omega
      · have := cnt_p h n k (by omega)
        omega
theorem len_b (s : Nat → Int) : len s ≤ 75 := cnt_le s 75
theorem len_p {s : Nat → Int} {W : Int} (h : Gs s W) (k : Nat) : k < len s ↔ 0 < s k := by
  by_cases c : k < 75
  · exact cnt_p h 75 k c
  · have e1 := h.z (k := k) (by omega)
    have e2 := len_b s
    omega
theorem len_z {s : Nat → Int} {W : Int} (h : Gs s W) {k : Nat} (hk : len s ≤ k) : s k = 0 := by
  have e1 := len_p h k
  have e2 := h.1 k
  omega
end
section
/-! shapes in the class -/
def ShC (w : Wd) (t : Nat) (s : Nat → Int) : Prop := w.1 t 1 = I (len s) ∧ w.1 t 2 = I (tsum s 75) ∧ ∀ k, k < len s → w.1 (t + 1) k = I (s k)
theorem ShC.of {w w' : Wd} {t : Nat} {s : Nat → Int} (h : ShC w t s) (h1 : ∀ b, 0 < b → w'.1 t b = w.1 t b) (h2 : ∀ b, w'.1 (t + 1) b = w.1 (t + 1) b) : ShC w' t s := ⟨(h1 1 (by decide)).trans h.1, (h1 2 (by decide)).trans h.2.1, fun k hk => (h2 k).trans (h.2.2 k hk)⟩
theorem s_partAt {w : Wd} {t : Nat} {s : Nat → Int} {W : Int} (hk : kd t = 5) (hr : w.2 t 0 = some (t + 1)) (h : ShC w t s) (hs : Gs s W) {i : Nat} (hi : i < 2147483648) : f_X5_partAt t (I i) w = some (I (s i)) := by
  have hl := len_b s
  unfold f_X5_partAt
  rw [jn_d, h.1]
  simp (disch := omega) only [i0, i1, i2, i3, i4, i5, i6, i7, i8, i9, i10, i12, i14, i20, i25, i26, i28, i30, i36, i48, i49, i50, i53, i57, i59, i60, i63, i75, i80, i99, i100, i196, i255, i1000, im1, im2, im3, im5, im6, im11, im12, im13, im14, im1000, I_lt, I_le, I_eq]
  rw [if_neg (by omega)]
  by_cases c : i < len s
  · rw [if_neg (by omega), rf9 hr (kdS hk), (kdS hk).2.2, ix_d (by omega) (by omega) (by decide), lt_d, Int.toNat_natCast, h.2.2 i c]
  · rw [if_pos (by omega), len_z hs (by omega)]
theorem s_grownPart {r o a b c : Int} (hr : 0 ≤ r ∧ r ≤ 3) (ho : 0 ≤ o ∧ o < 1000) (ha : 0 ≤ a ∧ a < 1000) (hb : 0 ≤ b ∧ b < 1000) (hc : 0 ≤ c ∧ c < 1000) : f_X5_grownPart (I r) (I o) (I a) (I b) (I c) = some (I (gN r o a b c)) := by
  unfold f_X5_grownPart gN
  rw [I_toInt (by omega) (by omega)]
  by_cases h0 : r = 0
  · rw [if_pos h0, if_pos h0, lt_d]
    simp (disch := omega) only [I_lt, I_le, I_eq, I_ite, I_add]
    rfl
  · rw [if_neg h0, if_neg h0]
    by_cases h1 : r = 1
    · rw [if_pos h1, if_pos h1, lt_d]
      simp (disch := omega) only [I_add, I_lt, I_le, I_eq, I_ite]
      rfl
    · rw [if_neg h1, if_neg h1]
      by_cases h2 : r = 2
      · rw [if_pos h2, if_pos h2, lt_d]
        simp (disch := omega) only [I_add, I_lt, I_le, I_eq, I_ite]
        rfl
      · rw [if_neg h2, if_neg h2, lt_d, lt_d, lt_d]
        simp (disch := omega) only [i0, i1, i2, i3, i4, i5, i6, i7, i8, i9, i10, i12, i14, i20, i25, i26, i28, i30, i36, i48, i49, i50, i53, i57, i59, i60, i63, i75, i80, i99, i100, i196, i255, i1000, im1, im2, im3, im5, im6, im11, im12, im13, im14, im1000, I_lt, I_le, I_eq, I_ite, I_add]
        rfl
/-- the world when i parts of s have been written at t -/
def shw (w : Wd) (t : Nat) (s : Nat → Int) (i : Nat) : Wd := (fun a b => if a = t ∧ b = 1 then I i else if a = t ∧ b = 2 then I (tsum s i) else if a = t + 1 ∧ b < i then I (s b) else w.1 a b, w.2)
theorem shw_1 (w : Wd) (t : Nat) (s : Nat → Int) (i : Nat) : (shw w t s i).1 t 1 = I i := if_pos ⟨rfl, rfl⟩
theorem shw_2 (w : Wd) (t : Nat) (s : Nat → Int) (i : Nat) : (shw w t s i).1 t 2 = I (tsum s i) := (if_neg (by omega)).trans (if_pos ⟨rfl, rfl⟩)
theorem shw_i {w : Wd} {t : Nat} {s : Nat → Int} {i b : Nat} (h : b < i) : (shw w t s i).1 (t + 1) b = I (s b) := (if_neg (by omega)).trans ((if_neg (by omega)).trans (if_pos ⟨rfl, h⟩))
theorem shw_n {w : Wd} {t : Nat} {s : Nat → Int} {i a b : Nat} (h1 : ¬ (a = t ∧ (b = 1 ∨ b = 2))) (h2 : a ≠ t + 1) : (shw w t s i).1 a b = w.1 a b := (if_neg (by omega)).trans ((if_neg (by omega)).trans (if_neg (by omega)))
theorem shw_m {w : Wd} {t : Nat} {s : Nat → Int} {i b : Nat} (h2 : ¬ b < i) : (shw w t s i).1 (t + 1) b = w.1 (t + 1) b := (if_neg (by omega)).trans ((if_neg (by omega)).trans (if_neg (by omega)))
theorem shw_s {w : Wd} {t : Nat} {s : Nat → Int} {i : Nat} : upI (upI (upI (shw w t s i) (t + 1) i (I (s i))) t 1 (I ((i + 1 : Nat) : Int))) t 2 (I (tsum s (i + 1))) = shw w t s (i + 1) := by
  refine W_ext (fun a b => ?_) rfl
  by_cases h1 : a = t ∧ b = 1
  · obtain ⟨rfl, rfl⟩ := h1
    rw [shw_1, upI_n (by omega), upI_s]
  · by_cases h2 : a = t ∧ b = 2
    · obtain ⟨rfl, rfl⟩ := h2
      rw [shw_2, upI_s]
    · rw [upI_n h2, upI_n h1]
      by_cases h3 : a = t + 1
      · subst h3
        by_cases h4 : b = i
        · subst h4; rw [upI_s, shw_i (by omega)]
        · rw [upI_n (by omega)]
          by_cases h5 : b < i
          · rw [shw_i h5, shw_i (by omega)]
          · rw [shw_m h5, shw_m (by omega)]
      · rw [upI_n (by omega), shw_n (by omega) h3, shw_n (by omega) h3]
theorem s_makeEmpty (w : Wd) (t : Nat) (s : Nat → Int) : f_X5_makeEmpty t w = some (shw w t s 0) := by
  unfold f_X5_makeEmpty
  rw [lt_d, lt_d]
  refine congrArg some (W_ext (fun a b => ?_) rfl)
  by_cases h1 : a = t ∧ b = 1
  · obtain ⟨rfl, rfl⟩ := h1
    rw [shw_1, upI_n (by omega), upI_s]; rfl
  · by_cases h2 : a = t ∧ b = 2
    · obtain ⟨rfl, rfl⟩ := h2
      rw [shw_2, upI_s]; rfl
    · rw [upI_n h2, upI_n h1]
      by_cases h3 : a = t + 1
      · subst h3; rw [shw_m (by omega)]
      · rw [shw_n (by omega) h3]
theorem shw_len {w : Wd} {t : Nat} {s : Nat → Int} {W : Int} (hs : Gs s W) : ShC (shw w t s (len s)) t s := by
  refine ⟨shw_1 _ _ _ _, ?_, fun k hk => shw_i hk⟩
  rw [shw_2]
  have key : ∀ d, tsum s (len s + d) = tsum s (len s) := fun d => by
    induction d with
    | zero => rfl
    | succ d ih =>
      show tsum s (len s + d) + s (len s + d) = _
      rw [ih, len_z hs (by omega)]
      omega
  have hl := len_b s
  rw [← key (75 - len s), show len s + (75 - len s) = 75 by omega]
theorem s_growFrom {w : Wd} {t o a b : Nat} {r wt : Int} {so sa sb : Nat → Int} {Wo Wa Wb : Int} (hW : Wi w.2) (kt : kd t = 5) (ko : kd o = 5) (ka : kd a = 5) (kb : kd b = 5) (no : o ≠ t) (na : a ≠ t) (nb : b ≠ t) (Co : ShC w o so) (Ca : ShC w a sa) (Cb : ShC w b sb)
    (hr : 0 ≤ r ∧ r ≤ 3) (hw : 0 ≤ wt ∧ wt ≤ 3) (Ho : Gs so Wo) (Ha : Gs sa Wa) (Hb : Gs sb Wb) (h1 : ∀ k, so k ≤ sa k) (h2 : ∀ k, so k ≤ sb k) (hT : wt + Wa + Wb - Wo ≤ 75) (hG : Gs (gp r wt so sa sb) (wt + Wa + Wb - Wo)) (bo : Wo ≤ 75) (ba : Wa ≤ 75) (bb : Wb ≤ 75) :
    f_X5_growFrom t o a b (I wt) (I r) w = some (shw w t (gp r wt so sa sb) (len (gp r wt so sa sb))) := by
  have hsh := hW.2.2.1
  have hl := len_b (gp r wt so sa sb)
  have fr : ∀ i u, kd u = 5 → u ≠ t → (∀ q, 0 < q → (shw w t (gp r wt so sa sb) i).1 u q = w.1 u q) ∧ ∀ q, (shw w t (gp r wt so sa sb) i).1 (u + 1) q = w.1 (u + 1) q := fun i u hu hne => by
    have n1 : u ≠ t + 1 := fun e => by have := (kdS kt).2.1; rw [← e, hu] at this; cases this
    have n2 : u + 1 ≠ t := fun e => by have := (kdS hu).2.1; rw [e, kt] at this; cases this
    exact ⟨fun q _ => shw_n (by omega) n1, fun q => shw_n (by omega) (by omega)⟩
  unfold f_X5_growFrom
  rw [c1_r (s_makeEmpty w t (gp r wt so sa sb))]
  refine wl3_for (len (gp r wt so sa sb)) (fun i => I (gc r wt so sa sb i)) (fun i => I i) (fun i => shw w t (gp r wt so sa sb) i) (fu_lt (by omega)) rfl rfl rfl (fun i hi k => ?_) (fun k => ?_)
  · obtain ⟨f1, f2⟩ := fr i o ko no
    obtain ⟨f3, f4⟩ := fr i a ka na
    obtain ⟨f5, f6⟩ := fr i b kb nb
    have x1 := Ho.1 i; have x2 := Ho.b i; have x3 := Ha.1 i; have x4 := Ha.b i; have x5 := Hb.1 i; have x6 := Hb.b i
    have x7 := gc_b hr hw.1 Ho.1 h1 h2 i
    have x8 := gc_le hr hw.1 Ho Ha Hb h1 h2 i (by omega)
    have x9 := (len_p hG i).1 hi
    have x10 := hG.b i
    have x11 := hG.tb i
    have x12 := h1 i
    have x13 := h2 i
    simp (disch := omega) only [i0, i1, i2, i3, i4, i5, i6, i7, i8, i9, i10, i12, i14, i20, i25, i26, i28, i30, i36, i48, i49, i50, i53, i57, i59, i60, i63, i75, i80, i99, i100, i196, i255, i1000, im1, im2, im3, im5, im6, im11, im12, im13, im14, im1000, I_le]
    rw [if_neg (by omega), c1_r (s_partAt (w := shw w t (gp r wt so sa sb) i) ko (hsh _ ko) (Co.of f1 f2) Ho (by omega)), c1_r (s_partAt (w := shw w t (gp r wt so sa sb) i) ka (hsh _ ka) (Ca.of f3 f4) Ha (by omega)), c1_r (s_partAt (w := shw w t (gp r wt so sa sb) i) kb (hsh _ kb) (Cb.of f5 f6) Hb (by omega)), c1_r (s_grownPart hr (by omega) (by omega) (by omega) (by omega))]
    rw [show gN r (so i) (sa i) (sb i) (gc r wt so sa sb i) = gp r wt so sa sb i from rfl]
    simp (disch := omega) only [I_lt]
    rw [if_pos x9, show (shw w t (gp r wt so sa sb) i).2 = w.2 from rfl, rf9 (hsh _ kt) (kdS kt), (kdS kt).2.2, ix_d (by omega) (by omega) (by decide), lt_d, lt_d, lt_d, lt_d, lt_d, Int.toNat_natCast]
    have e1 : t ≠ t + 1 := by omega
    rw [upI_n (by omega), upI_n (by omega), shw_2]
    simp only [I_add, I_sub, I_mul, I_nat]
    have e2 := shw_s (w := w) (t := t) (s := gp r wt so sa sb) (i := i)
    rw [show tsum (gp r wt so sa sb) (i + 1) = tsum (gp r wt so sa sb) i + gp r wt so sa sb i from rfl] at e2
    rw [nS, e2]
    congr 2
  · have e0 := len_z hG (Nat.le_refl _)
    simp (disch := omega) only [i0, i1, i2, i3, i4, i5, i6, i7, i8, i9, i10, i12, i14, i20, i25, i26, i28, i30, i36, i48, i49, i50, i53, i57, i59, i60, i63, i75, i80, i99, i100, i196, i255, i1000, im1, im2, im3, im5, im6, im11, im12, im13, im14, im1000, I_le]
    by_cases c : len (gp r wt so sa sb) = 75
    · rw [if_pos (by omega)]
    · rw [if_neg (by omega)]
      generalize hn : len (gp r wt so sa sb) = n at *
      obtain ⟨f1, f2⟩ := fr n o ko no
      obtain ⟨f3, f4⟩ := fr n a ka na
      obtain ⟨f5, f6⟩ := fr n b kb nb
      have x1 := Ho.1 n; have x2 := Ho.b n; have x3 := Ha.1 n; have x4 := Ha.b n; have x5 := Hb.1 n; have x6 := Hb.b n
      have x7 := gc_b hr hw.1 Ho.1 h1 h2 n
      have x8 := gc_le hr hw.1 Ho Ha Hb h1 h2 n (by omega)
      have x12 := h1 n
      have x13 := h2 n
      rw [c1_r (s_partAt (w := shw w t (gp r wt so sa sb) n) ko (hsh _ ko) (Co.of f1 f2) Ho (by omega)), c1_r (s_partAt (w := shw w t (gp r wt so sa sb) n) ka (hsh _ ka) (Ca.of f3 f4) Ha (by omega)), c1_r (s_partAt (w := shw w t (gp r wt so sa sb) n) kb (hsh _ kb) (Cb.of f5 f6) Hb (by omega)), c1_r (s_grownPart hr (by omega) (by omega) (by omega) (by omega))]
      rw [show gN r (so n) (sa n) (sb n) (gc r wt so sa sb n) = gp r wt so sa sb n from rfl, e0]
      rfl
end
section
/-! the corners grown, in the class -/
theorem s_worthAt {w : Wd} {t : Nat} {g : Gd} {x y : Int} (hk : kd t = 0) (hr : w.2 t 3 = some (t + 1)) (h : CG w t g) (hv : GV g) (hx : -2147483648 ≤ x ∧ x < 2147483648) (hy : -2147483648 ≤ y ∧ y < 2147483648) :
    f_X0_worthAt t (I x) (I y) w = some (I (worth (g 2) (num g x y))) := by
  unfold f_X0_worthAt
  rw [c1_r (s_numberAt hk hr h hv hx hy), h.2.2.1, lt_d]
  have h2 := hv.2.2.1
  have h3 : 0 ≤ num g x y ∧ num g x y ≤ 3 := by
    unfold num
    split
    · have := hv.2.2.2.1 (5 * (x - 1) + (y - 1)).toNat (by have := hv.1; have := hv.2.1; omega)
      omega
    · omega
  unfold worth
  simp (disch := omega) only [i0, i1, i2, i3, i4, i5, i6, i7, i8, i9, i10, i12, i14, i20, i25, i26, i28, i30, i36, i48, i49, i50, i53, i57, i59, i60, i63, i75, i80, i99, i100, i196, i255, i1000, im1, im2, im3, im5, im6, im11, im12, im13, im14, im1000, I_lt, I_le, I_eq, I_ite]
theorem s_at {w : Wd} {x y : Nat} (hW : Wi w.2) (hx : x ≤ 5) (hy : y ≤ 5) : f_X1_at 7 (I x) (I y) w = some (9 + 2 * (6 * x + y)) := by
  unfold f_X1_at
  rw [jn_d]
  simp (disch := omega) only [i0, i1, i2, i3, i4, i5, i6, i7, i8, i9, i10, i12, i14, i20, i25, i26, i28, i30, i36, i48, i49, i50, i53, i57, i59, i60, i63, i75, i80, i99, i100, i196, i255, i1000, im1, im2, im3, im5, im6, im11, im12, im13, im14, im1000, I_add, I_sub, I_mul, I_nat, I_lt, I_le, I_eq]
  rw [if_neg (by omega), if_neg (by omega), if_neg (by omega), if_pos (by omega), rfc hW.2.2.2.1.1 kd_8 (by decide), ln_8, ix_d (by omega) (by omega) (by decide), show ((x : Int) * 6 + y).toNat = 6 * x + y by omega, rfc (hW.2.2.2.2.1 (6 * x + y) (by omega)) (kd_shape _ (by omega)) (by decide)]
def gws (w : Wd) (g : Gd) : Nat → Wd
  | 0 => w
  | c + 1 => if ((c % 6 : Nat) : Int) ≤ g 1 then shw (gws w g c) (9 + 2 * c) (Sg g (c / 6) (c % 6)) (len (Sg g (c / 6) (c % 6))) else gws w g c
theorem gws_t (w : Wd) (g : Gd) (c : Nat) : gws w g (c + 1) = if ((c % 6 : Nat) : Int) ≤ g 1 then shw (gws w g c) (9 + 2 * c) (Sg g (c / 6) (c % 6)) (len (Sg g (c / 6) (c % 6))) else gws w g c := rfl
theorem gws_2 (w : Wd) (g : Gd) : ∀ c, (gws w g c).2 = w.2
  | 0 => rfl
  | c + 1 => by
    unfold gws
    split
    · exact gws_2 w g c
    · exact gws_2 w g c
theorem gws_n (w : Wd) (g : Gd) : ∀ c a b, (a < 9 ∨ 9 + 2 * c ≤ a ∨ a % 2 = 1 ∧ b = 0) → (gws w g c).1 a b = w.1 a b
  | 0, _, _, _ => rfl
  | c + 1, a, b, h => by
    unfold gws
    split
    · rw [shw_n (by omega) (by omega), gws_n w g c a b (by omega)]
    · exact gws_n w g c a b (by omega)
theorem gws_S {g : Gd} (hv : GV g) (w : Wd) : ∀ c, c ≤ 36 → ∀ d, d < c → ((d % 6 : Nat) : Int) ≤ g 1 → ShC (gws w g c) (9 + 2 * d) (Sg g (d / 6) (d % 6))
  | 0, _, _, h, _ => absurd h (Nat.not_lt_zero _)
  | c + 1, hc, d, hd, hR => by
    unfold gws
    by_cases e : d = c
    · subst e
      rw [if_pos hR]
      exact shw_len (Sg_ok hv (by omega) (by omega)).1
    · have ih := gws_S hv w c (by omega) d (by omega) hR
      split
      · exact ih.of (fun b _ => shw_n (by omega) (by omega)) (fun b => shw_n (by omega) (by omega))
      · exact ih
theorem gws_e {g : Gd} (hv : GV g) (w : Wd) (x : Nat) : ∀ d (R : Nat), g 1 = R → R + 1 + d ≤ 6 → gws w g (6 * x + (R + 1 + d)) = gws w g (6 * x + (R + 1))
  | 0, _, _, _ => rfl
  | d + 1, R, hR, h => by
    rw [← gws_e hv w x d R hR (by omega), show 6 * x + (R + 1 + (d + 1)) = 6 * x + (R + 1 + d) + 1 by omega, gws_t, if_neg (by omega)]
theorem len_0 : len (fun _ => 0) = 0 := by decide
theorem gN_0 (r c : Int) : True := trivial
def GrC (w : Wd) (g : Gd) : Prop := w.1 7 2 = I (g 0) ∧ w.1 7 3 = I (g 1) ∧ ∀ x y : Nat, (x : Int) ≤ g 0 → (y : Int) ≤ g 1 → ShC w (9 + 2 * (6 * x + y)) (Sg g x y)
theorem GrC.of {w w' : Wd} {g : Gd} (hv : GV g) (h : GrC w g) (h1 : ∀ b, b = 2 ∨ b = 3 → w'.1 7 b = w.1 7 b) (h2 : ∀ a b, 9 ≤ a → a < 81 → ¬ (a % 2 = 1 ∧ b = 0) → w'.1 a b = w.1 a b) : GrC w' g := ⟨(h1 2 (Or.inl rfl)).trans h.1, (h1 3 (Or.inr rfl)).trans h.2.1, fun x y hx hy => by
  have v1 := hv.1; have v2 := hv.2.1
  exact (h.2.2 x y hx hy).of (fun b _ => h2 _ b (by omega) (by omega) (by omega)) (fun b => h2 _ b (by omega) (by omega) (by omega))⟩
theorem s_growOver {w : Wd} {g : Gd} (hW : Wi w.2) (hv : GV g) (hg : CG w 1 g) : ∃ w', f_X1_growOver 7 1 w = some w' ∧ w'.2 = w.2 ∧ GrC w' g ∧ w'.1 7 5 = 0 ∧ (∀ a b, (a < 9 ∨ 81 ≤ a ∨ a % 2 = 1 ∧ b = 0) → ¬ (a = 7 ∧ (b = 2 ∨ b = 3 ∨ b = 5)) → w'.1 a b = w.1 a b) := by
  obtain ⟨C, hC⟩ : ∃ C : Nat, g 0 = C := ⟨(g 0).toNat, by have := hv.1; omega⟩
  obtain ⟨R, hR⟩ : ∃ R : Nat, g 1 = R := ⟨(g 1).toNat, by have := hv.2.1; omega⟩
  have v1 := hv.1; have v2 := hv.2.1; have v3 := hv.2.2.1
  unfold f_X1_growOver
  rw [lt_d, lt_d, lt_d, upI_n (by omega), hg.1, hg.2.1]
  generalize hz : upI (upI (upI w 7 2 (I (g 0))) 7 3 (I (g 1))) 7 5 0 = z
  have z2 : z.2 = w.2 := by rw [← hz]; rfl
  have z72 : z.1 7 2 = I (g 0) := by rw [← hz, upI_n (by omega), upI_n (by omega), upI_s]
  have z73 : z.1 7 3 = I (g 1) := by rw [← hz, upI_n (by omega), upI_s]
  have z75 : z.1 7 5 = 0 := by rw [← hz, upI_s]
  have zn : ∀ a b, ¬ (a = 7 ∧ (b = 2 ∨ b = 3 ∨ b = 5)) → z.1 a b = w.1 a b := fun a b h => by rw [← hz, upI_n (by omega), upI_n (by omega), upI_n (by omega)]
  clear hz
  have hWz : ∀ c, Wi (gws z g c).2 := fun c => by rw [gws_2, z2]; exact hW
  have hgz : ∀ c, CG (gws z g c) 1 g := fun c => hg.of (fun b => by rw [gws_n _ _ _ _ _ (by omega), zn _ _ (by omega)]) (fun b => by rw [gws_n _ _ _ _ _ (by omega), zn _ _ (by omega)])
  refine ⟨gws z g (6 * (C + 1)), ?_, by rw [gws_2, z2], ⟨by rw [gws_n _ _ _ _ _ (by omega), z72], by rw [gws_n _ _ _ _ _ (by omega), z73], fun x y hx hy => ?_⟩, by rw [gws_n _ _ _ _ _ (by omega), z75], fun a b h1 h2 => by rw [gws_n _ _ _ _ _ (by omega), zn _ _ h2]⟩
  · refine wl2_for (C + 1) (fun x => I x) (fun x => gws z g (6 * x)) (fu_lt (by omega)) rfl rfl (fun x hx k => ?_) (fun k => ?_)
    · rw [gws_n _ _ _ _ _ (by omega), z72]
      simp (disch := omega) only [I_lt]
      rw [if_neg (by omega)]
      refine wl2_for (R + 1) (fun y => I y) (fun y => gws z g (6 * x + y)) (fu_lt (by omega)) rfl rfl (fun y hy k2 => ?_) (fun k2 => ?_)
      · rw [gws_n _ _ _ _ _ (by omega), z73]
        simp (disch := omega) only [I_lt]
        rw [if_neg (by omega), jn_d, jn_d, s_at (hWz _) (by omega) (by omega)]
        have eS : gws z g (6 * x + (y + 1)) = shw (gws z g (6 * x + y)) (9 + 2 * (6 * x + y)) (Sg g x y) (len (Sg g x y)) := by
          rw [show 6 * x + (y + 1) = 6 * x + y + 1 by omega, gws_t, if_pos (by omega), show (6 * x + y) / 6 = x by omega, show (6 * x + y) % 6 = y by omega]
        rw [eS, ← nS]
        have kt := kd_shape (6 * x + y) (by omega)
        simp (disch := omega) only [i0, i1, i2, i3, i4, i5, i6, i7, i8, i9, i10, i12, i14, i20, i25, i26, i28, i30, i36, i48, i49, i50, i53, i57, i59, i60, i63, i75, i80, i99, i100, i196, i255, i1000, im1, im2, im3, im5, im6, im11, im12, im13, im14, im1000, I_eq]
        by_cases c0 : (x : Int) = 0
        · have hx0 : x = 0 := by omega
          subst hx0
          rw [if_pos c0, c1_d, ckc kt (by decide), c1_r (s_makeEmpty (gws z g (6 * 0 + y)) (9 + 2 * (6 * 0 + y)) (Sg g 0 y)), lt_d, I_add]
          rw [show Sg g 0 y = fun _ => 0 from rfl, len_0]
        · rw [if_neg c0]
          by_cases c1' : (y : Int) = 0
          · have hy0 : y = 0 := by omega
            subst hy0
            rw [if_pos c1', c1_d, ckc kt (by decide), c1_r (s_makeEmpty (gws z g (6 * x + 0)) (9 + 2 * (6 * x + 0)) (Sg g x 0)), lt_d, I_add]
            rw [show Sg g x 0 = fun _ => 0 from funext fun k => SR_y0 _ _ x k, len_0]
          · rw [if_neg c1']
            obtain ⟨x, rfl⟩ : ∃ q, x = q + 1 := ⟨x - 1, by omega⟩
            obtain ⟨y, rfl⟩ : ∃ q, y = q + 1 := ⟨y - 1, by omega⟩
            rw [c1_d, ckc kt (by decide), I_sub, I_sub]
            rw [show ((x + 1 : Nat) : Int) - 1 = (x : Int) by omega, show ((y + 1 : Nat) : Int) - 1 = (y : Int) by omega]
            rw [c1_r (s_at (hWz _) (by omega) (by omega)), ckc (kd_shape _ (by omega)) (by decide), c1_r (s_at (hWz _) (by omega) (by omega)), ckc (kd_shape _ (by omega)) (by decide), c1_r (s_at (hWz _) (by omega) (by omega)), ckc (kd_shape _ (by omega)) (by decide)]
            rw [c1_r (s_worthAt kd_1 ((hWz _).2.1 _ kd_1) (hgz _) hv (by omega) (by omega)), (hgz _).2.2.1]
            have So := gws_S hv z (6 * (x + 1) + (y + 1)) (by omega) (6 * x + y) (by omega) (by omega)
            have Sa := gws_S hv z (6 * (x + 1) + (y + 1)) (by omega) (6 * x + (y + 1)) (by omega) (by omega)
            have Sb := gws_S hv z (6 * (x + 1) + (y + 1)) (by omega) (6 * (x + 1) + y) (by omega) (by omega)
            rw [show (6 * x + y) / 6 = x by omega, show (6 * x + y) % 6 = y by omega] at So
            rw [show (6 * x + (y + 1)) / 6 = x by omega, show (6 * x + (y + 1)) % 6 = y + 1 by omega] at Sa
            rw [show (6 * (x + 1) + y) / 6 = x + 1 by omega, show (6 * (x + 1) + y) % 6 = y by omega] at Sb
            have ew : worth (g 2) (num g ((x + 1 : Nat) : Int) ((y + 1 : Nat) : Int)) = wts g x y := by
              unfold wts num
              rw [if_pos (by omega), show (5 * (((x + 1 : Nat) : Int) - 1) + (((y + 1 : Nat) : Int) - 1)).toNat = 5 * x + y by omega]
            rw [ew]
            have ko := Sg_ok hv (x := x) (y := y) (by omega) (by omega)
            have ka := Sg_ok hv (x := x) (y := y + 1) (by omega) (by omega)
            have kb := Sg_ok hv (x := x + 1) (y := y) (by omega) (by omega)
            have kn := Sg_ok hv (x := x + 1) (y := y + 1) (by omega) (by omega)
            have bo := Wg_b hv (x := x) (y := y) (by omega) (by omega)
            have ba := Wg_b hv (x := x) (y := y + 1) (by omega) (by omega)
            have bb := Wg_b hv (x := x + 1) (y := y) (by omega) (by omega)
            have bn := Wg_b hv (x := x + 1) (y := y + 1) (by omega) (by omega)
            have eW : wts g x y + Wg g x (y + 1) + Wg g (x + 1) y - Wg g x y = Wg g (x + 1) (y + 1) := by
              have e1 : Wg g (x + 1) y = Wg g x y + csum (wts g x) y := rfl
              have e2 : Wg g (x + 1) (y + 1) = Wg g x (y + 1) + (csum (wts g x) y + wts g x y) := rfl
              omega
            have hG : Gs (gp (g 2) (wts g x y) (Sg g x y) (Sg g x (y + 1)) (Sg g (x + 1) y)) (wts g x y + Wg g x (y + 1) + Wg g (x + 1) y - Wg g x y) := by rw [eW]; exact kn.1
            rw [c1_r (s_growFrom (hWz _) kt (kd_shape _ (by omega)) (kd_shape _ (by omega)) (kd_shape _ (by omega)) (by omega) (by omega) (by omega) So Sa Sb v3 (wts_b hv x (by omega) y (by omega)) ko.1 ka.1 kb.1 (ka.2.1 (by omega)).1 (kb.2.2 (by omega)).1 (by omega) hG (by omega) (by omega) (by omega)), lt_d, I_add]
            rfl
      · rw [gws_n _ _ _ _ _ (by omega), z73]
        simp (disch := omega) only [I_lt]
        rw [if_pos (by omega), lt_d]
        have e := gws_e hv z x (5 - R) R hR (by omega)
        rw [show R + 1 + (5 - R) = 6 by omega] at e
        rw [← e, i1, I_add, nS]
        rfl
    · rw [gws_n _ _ _ _ _ (by omega), z72]
      simp (disch := omega) only [I_lt]
      rw [if_pos (by omega)]
  · have := gws_S hv z (6 * (C + 1)) (by omega) (6 * x + y) (by omega) (by omega)
    rw [show (6 * x + y) / 6 = x by omega, show (6 * x + y) % 6 = y by omega] at this
    exact this
end
section
theorem if_or {P Q : Prop} [Decidable P] [Decidable Q] {α : Type} {A B : α} (h : P ∨ Q) : (if P then A else if Q then A else B) = A := by
  by_cases c : P
  · rw [if_pos c]
  · rw [if_neg c, if_pos (by cases h with | inl h => exact absurd h c | inr h => exact h)]
end
section
/-! loops with an invariant, and two loops side by side -/
theorem wl1_inv {α0 ρ : Type} {body : α0 → (α0 → Option ρ) → Option ρ} {Q : Option ρ → Prop} (N : Nat) (Inv : Nat → α0 → Prop) {n : Nat} {a0 : α0} (hn : N < n) (h0 : Inv 0 a0) (step : ∀ i, i < N → ∀ s0, Inv i s0 → ∀ k, (∃ t0, Inv (i + 1) t0 ∧ body s0 k = k t0) ∨ Q (body s0 k)) (fin : ∀ s0, Inv N s0 → ∀ k, Q (body s0 k)) : Q (wl1 body n a0) := by
  have key : ∀ d i m s0, i + d = N → d < m → Inv i s0 → Q (wl1 body m s0) := by
    intro d
    induction d with
    | zero =>
      intro i m s0 hi hm h
      obtain ⟨m, rfl⟩ : ∃ q, m = q + 1 := ⟨m - 1, by omega⟩
      obtain rfl : i = N := by omega
      exact fin s0 h _
    | succ d ih =>
      intro i m s0 hi hm h
      obtain ⟨m, rfl⟩ : ∃ q, m = q + 1 := ⟨m - 1, by omega⟩
      show Q (body s0 (wl1 body m))
      obtain ⟨t0, h1, h2⟩ | h1 := step i (by omega) s0 h (wl1 body m)
      · rw [h2]
        exact ih (i + 1) m t0 (by omega) (by omega) h1
      · exact h1
  exact key N 0 n a0 (by omega) hn h0
theorem wl2_inv {α0 α1 ρ : Type} {body : α0 → α1 → (α0 → α1 → Option ρ) → Option ρ} {Q : Option ρ → Prop} (N : Nat) (Inv : Nat → α0 → α1 → Prop) {n : Nat} {a0 : α0} {a1 : α1} (hn : N < n) (h0 : Inv 0 a0 a1) (step : ∀ i, i < N → ∀ s0 s1, Inv i s0 s1 → ∀ k, (∃ t0 t1, Inv (i + 1) t0 t1 ∧ body s0 s1 k = k t0 t1) ∨ Q (body s0 s1 k)) (fin : ∀ s0 s1, Inv N s0 s1 → ∀ k, Q (body s0 s1 k)) : Q (wl2 body n a0 a1) := by
  have key : ∀ d i m s0 s1, i + d = N → d < m → Inv i s0 s1 → Q (wl2 body m s0 s1) := by
    intro d
    induction d with
    | zero =>
      intro i m s0 s1 hi hm h
      obtain ⟨m, rfl⟩ : ∃ q, m = q + 1 := ⟨m - 1, by omega⟩
      obtain rfl : i = N := by omega
      exact fin s0 s1 h _
    | succ d ih =>
      intro i m s0 s1 hi hm h
      obtain ⟨m, rfl⟩ : ∃ q, m = q + 1 := ⟨m - 1, by omega⟩
      show Q (body s0 s1 (wl2 body m))
      obtain ⟨t0, t1, h1, h2⟩ | h1 := step i (by omega) s0 s1 h (wl2 body m)
      · rw [h2]
        exact ih (i + 1) m t0 t1 (by omega) (by omega) h1
      · exact h1
  exact key N 0 n a0 a1 (by omega) hn h0
theorem wl3_inv {α0 α1 α2 ρ : Type} {body : α0 → α1 → α2 → (α0 → α1 → α2 → Option ρ) → Option ρ} {Q : Option ρ → Prop} (N : Nat) (Inv : Nat → α0 → α1 → α2 → Prop) {n : Nat} {a0 : α0} {a1 : α1} {a2 : α2} (hn : N < n) (h0 : Inv 0 a0 a1 a2) (step : ∀ i, i < N → ∀ s0 s1 s2, Inv i s0 s1 s2 → ∀ k, (∃ t0 t1 t2, Inv (i + 1) t0 t1 t2 ∧ body s0 s1 s2 k = k t0 t1 t2) ∨ Q (body s0 s1 s2 k)) (fin : ∀ s0 s1 s2, Inv N s0 s1 s2 → ∀ k, Q (body s0 s1 s2 k)) : Q (wl3 body n a0 a1 a2) := by
  have key : ∀ d i m s0 s1 s2, i + d = N → d < m → Inv i s0 s1 s2 → Q (wl3 body m s0 s1 s2) := by
    intro d
    induction d with
    | zero =>
      intro i m s0 s1 s2 hi hm h
      obtain ⟨m, rfl⟩ : ∃ q, m = q + 1 := ⟨m - 1, by omega⟩
      obtain rfl : i = N := by omega
      exact fin s0 s1 s2 h _
    | succ d ih =>
      intro i m s0 s1 s2 hi hm h
      obtain ⟨m, rfl⟩ : ∃ q, m = q + 1 := ⟨m - 1, by omega⟩
      show Q (body s0 s1 s2 (wl3 body m))
      obtain ⟨t0, t1, t2, h1, h2⟩ | h1 := step i (by omega) s0 s1 s2 h (wl3 body m)
      · rw [h2]
        exact ih (i + 1) m t0 t1 t2 (by omega) (by omega) h1
      · exact h1
  exact key N 0 n a0 a1 a2 (by omega) hn h0
theorem wl4_inv {α0 α1 α2 α3 ρ : Type} {body : α0 → α1 → α2 → α3 → (α0 → α1 → α2 → α3 → Option ρ) → Option ρ} {Q : Option ρ → Prop} (N : Nat) (Inv : Nat → α0 → α1 → α2 → α3 → Prop) {n : Nat} {a0 : α0} {a1 : α1} {a2 : α2} {a3 : α3} (hn : N < n) (h0 : Inv 0 a0 a1 a2 a3) (step : ∀ i, i < N → ∀ s0 s1 s2 s3, Inv i s0 s1 s2 s3 → ∀ k, (∃ t0 t1 t2 t3, Inv (i + 1) t0 t1 t2 t3 ∧ body s0 s1 s2 s3 k = k t0 t1 t2 t3) ∨ Q (body s0 s1 s2 s3 k)) (fin : ∀ s0 s1 s2 s3, Inv N s0 s1 s2 s3 → ∀ k, Q (body s0 s1 s2 s3 k)) : Q (wl4 body n a0 a1 a2 a3) := by
  have key : ∀ d i m s0 s1 s2 s3, i + d = N → d < m → Inv i s0 s1 s2 s3 → Q (wl4 body m s0 s1 s2 s3) := by
    intro d
    induction d with
    | zero =>
      intro i m s0 s1 s2 s3 hi hm h
      obtain ⟨m, rfl⟩ : ∃ q, m = q + 1 := ⟨m - 1, by omega⟩
      obtain rfl : i = N := by omega
      exact fin s0 s1 s2 s3 h _
    | succ d ih =>
      intro i m s0 s1 s2 s3 hi hm h
      obtain ⟨m, rfl⟩ : ∃ q, m = q + 1 := ⟨m - 1, by omega⟩
      show Q (body s0 s1 s2 s3 (wl4 body m))
      obtain ⟨t0, t1, t2, t3, h1, h2⟩ | h1 := step i (by omega) s0 s1 s2 s3 h (wl4 body m)
      · rw [h2]
        exact ih (i + 1) m t0 t1 t2 t3 (by omega) (by omega) h1
      · exact h1
  exact key N 0 n a0 a1 a2 a3 (by omega) hn h0
theorem wl5_inv {α0 α1 α2 α3 α4 ρ : Type} {body : α0 → α1 → α2 → α3 → α4 → (α0 → α1 → α2 → α3 → α4 → Option ρ) → Option ρ} {Q : Option ρ → Prop} (N : Nat) (Inv : Nat → α0 → α1 → α2 → α3 → α4 → Prop) {n : Nat} {a0 : α0} {a1 : α1} {a2 : α2} {a3 : α3} {a4 : α4} (hn : N < n) (h0 : Inv 0 a0 a1 a2 a3 a4) (step : ∀ i, i < N → ∀ s0 s1 s2 s3 s4, Inv i s0 s1 s2 s3 s4 → ∀ k, (∃ t0 t1 t2 t3 t4, Inv (i + 1) t0 t1 t2 t3 t4 ∧ body s0 s1 s2 s3 s4 k = k t0 t1 t2 t3 t4) ∨ Q (body s0 s1 s2 s3 s4 k)) (fin : ∀ s0 s1 s2 s3 s4, Inv N s0 s1 s2 s3 s4 → ∀ k, Q (body s0 s1 s2 s3 s4 k)) : Q (wl5 body n a0 a1 a2 a3 a4) := by
  have key : ∀ d i m s0 s1 s2 s3 s4, i + d = N → d < m → Inv i s0 s1 s2 s3 s4 → Q (wl5 body m s0 s1 s2 s3 s4) := by
    intro d
    induction d with
    | zero =>
      intro i m s0 s1 s2 s3 s4 hi hm h
      obtain ⟨m, rfl⟩ : ∃ q, m = q + 1 := ⟨m - 1, by omega⟩
      obtain rfl : i = N := by omega
      exact fin s0 s1 s2 s3 s4 h _
    | succ d ih =>
      intro i m s0 s1 s2 s3 s4 hi hm h
      obtain ⟨m, rfl⟩ : ∃ q, m = q + 1 := ⟨m - 1, by omega⟩
      show Q (body s0 s1 s2 s3 s4 (wl5 body m))
      obtain ⟨t0, t1, t2, t3, t4, h1, h2⟩ | h1 := step i (by omega) s0 s1 s2 s3 s4 h (wl5 body m)
      · rw [h2]
        exact ih (i + 1) m t0 t1 t2 t3 t4 (by omega) (by omega) h1
      · exact h1
  exact key N 0 n a0 a1 a2 a3 a4 (by omega) hn h0
/-! literals, not by rfl, so that simp looks after what decides them -/
theorem j_0 : (0 : Int32) = I 0 := Eq.trans i0 (Eq.refl (I 0))
theorem j_1 : (1 : Int32) = I 1 := Eq.trans i1 (Eq.refl (I 1))
theorem j_2 : (2 : Int32) = I 2 := Eq.trans i2 (Eq.refl (I 2))
theorem j_3 : (3 : Int32) = I 3 := Eq.trans i3 (Eq.refl (I 3))
theorem j_4 : (4 : Int32) = I 4 := Eq.trans i4 (Eq.refl (I 4))
theorem j_5 : (5 : Int32) = I 5 := Eq.trans i5 (Eq.refl (I 5))
theorem j_6 : (6 : Int32) = I 6 := Eq.trans i6 (Eq.refl (I 6))
theorem j_7 : (7 : Int32) = I 7 := Eq.trans i7 (Eq.refl (I 7))
theorem j_8 : (8 : Int32) = I 8 := Eq.trans i8 (Eq.refl (I 8))
theorem j_9 : (9 : Int32) = I 9 := Eq.trans i9 (Eq.refl (I 9))
theorem j_10 : (10 : Int32) = I 10 := Eq.trans i10 (Eq.refl (I 10))
theorem j_12 : (12 : Int32) = I 12 := Eq.trans i12 (Eq.refl (I 12))
theorem j_14 : (14 : Int32) = I 14 := Eq.trans i14 (Eq.refl (I 14))
theorem j_20 : (20 : Int32) = I 20 := Eq.trans i20 (Eq.refl (I 20))
theorem j_25 : (25 : Int32) = I 25 := Eq.trans i25 (Eq.refl (I 25))
theorem j_26 : (26 : Int32) = I 26 := Eq.trans i26 (Eq.refl (I 26))
theorem j_28 : (28 : Int32) = I 28 := Eq.trans i28 (Eq.refl (I 28))
theorem j_30 : (30 : Int32) = I 30 := Eq.trans i30 (Eq.refl (I 30))
theorem j_36 : (36 : Int32) = I 36 := Eq.trans i36 (Eq.refl (I 36))
theorem j_48 : (48 : Int32) = I 48 := Eq.trans i48 (Eq.refl (I 48))
theorem j_49 : (49 : Int32) = I 49 := Eq.trans i49 (Eq.refl (I 49))
theorem j_50 : (50 : Int32) = I 50 := Eq.trans i50 (Eq.refl (I 50))
theorem j_53 : (53 : Int32) = I 53 := Eq.trans i53 (Eq.refl (I 53))
theorem j_57 : (57 : Int32) = I 57 := Eq.trans i57 (Eq.refl (I 57))
theorem j_59 : (59 : Int32) = I 59 := Eq.trans i59 (Eq.refl (I 59))
theorem j_60 : (60 : Int32) = I 60 := Eq.trans i60 (Eq.refl (I 60))
theorem j_63 : (63 : Int32) = I 63 := Eq.trans i63 (Eq.refl (I 63))
theorem j_75 : (75 : Int32) = I 75 := Eq.trans i75 (Eq.refl (I 75))
theorem j_80 : (80 : Int32) = I 80 := Eq.trans i80 (Eq.refl (I 80))
theorem j_99 : (99 : Int32) = I 99 := Eq.trans i99 (Eq.refl (I 99))
theorem j_100 : (100 : Int32) = I 100 := Eq.trans i100 (Eq.refl (I 100))
theorem j_196 : (196 : Int32) = I 196 := Eq.trans i196 (Eq.refl (I 196))
theorem j_255 : (255 : Int32) = I 255 := Eq.trans i255 (Eq.refl (I 255))
theorem j_1000 : (1000 : Int32) = I 1000 := Eq.trans i1000 (Eq.refl (I 1000))
theorem j_m1 : (-1 : Int32) = I (-1) := Eq.trans im1 (Eq.refl (I (-1)))
theorem j_m2 : (-2 : Int32) = I (-2) := Eq.trans im2 (Eq.refl (I (-2)))
theorem j_m3 : (-3 : Int32) = I (-3) := Eq.trans im3 (Eq.refl (I (-3)))
theorem j_m5 : (-5 : Int32) = I (-5) := Eq.trans im5 (Eq.refl (I (-5)))
theorem j_m6 : (-6 : Int32) = I (-6) := Eq.trans im6 (Eq.refl (I (-6)))
theorem j_m11 : (-11 : Int32) = I (-11) := Eq.trans im11 (Eq.refl (I (-11)))
theorem j_m12 : (-12 : Int32) = I (-12) := Eq.trans im12 (Eq.refl (I (-12)))
theorem j_m13 : (-13 : Int32) = I (-13) := Eq.trans im13 (Eq.refl (I (-13)))
theorem j_m14 : (-14 : Int32) = I (-14) := Eq.trans im14 (Eq.refl (I (-14)))
theorem j_m1000 : (-1000 : Int32) = I (-1000) := Eq.trans im1000 (Eq.refl (I (-1000)))
end
section
/-! the order of corners; what always holds between calls -/
/-- s stands before t, by shape -/
def big (s t : Nat → Int) : Prop := tsum t 75 < tsum s 75 ∨ (tsum s 75 = tsum t 75 ∧ ∃ k, t k < s k ∧ ∀ j, j < k → s j = t j)
def alike (s t : Nat → Int) : Prop := ∀ k, s k = t k
def nR (g : Gd) : Nat := (g 1).toNat + 1
def nc (g : Gd) : Nat := ((g 0).toNat + 1) * nR g
def sh (g : Gd) (i : Nat) : Nat → Int := Sg g (i / nR g) (i % nR g)
def cod (g : Gd) (i : Nat) : Int := 10 * ((i / nR g : Nat) : Int) + ((i % nR g : Nat) : Int)
def bef (g : Gd) (i j : Nat) : Prop := big (sh g i) (sh g j) ∨ (alike (sh g i) (sh g j) ∧ i < j)
noncomputable def nb (P : Nat → Prop) : Nat → Nat
  | 0 => 0
  | n + 1 => nb P n + @ite Nat (P n) (Classical.propDecidable (P n)) 1 0
noncomputable def rk (g : Gd) (m i : Nat) : Nat := nb (fun k => bef g k i) m
def Rs (w : Wd) : Prop := (∀ y, y < 6 → w.1 86 y = I 0) ∧ ∀ x, x < 6 → w.1 (86 + x) 0 = I 0
theorem Rs.of {w w' : Wd} (H : Rs w) (f : ∀ a b, (86 ≤ a ∧ a < 92) → w'.1 a b = w.1 a b) : Rs w' := ⟨fun y hy => (f _ _ (by omega)).trans (H.1 y hy), fun x hx => (f _ _ (by omega)).trans (H.2 x hx)⟩
theorem pshG_V {p : Nat} {G : Nat → Gd} {g : Gd} (h : ∀ k, GV (G k)) (hg : GV g) : ∀ k, GV (pshG p G g k) := fun k => by
  unfold pshG
  split
  · show GV (if k = p then g else G k)
    split
    · exact hg
    · exact h k
  · show GV (if k = 7 then g else G (k + 1))
    split
    · exact hg
    · exact h _
theorem n10 : ¬ (I 1 = 0) := by decide
theorem z00 : I 0 = 0 := rfl
/-! small checks -/
theorem zb_c {c : Prop} [Decidable c] {z : Int} (h : z = if c then 1 else 0) : zb (I z) (some (I z)) = some (I (if c then 1 else 0)) := by
  rw [h, zb_i]
theorem s_isSide {z : Int} (h : -2147483648 ≤ z ∧ z < 2147483648) : f_X7_isSide (I z) = some (I (if 1 ≤ z ∧ z ≤ 5 then 1 else 0)) := by
  unfold f_X7_isSide
  simp (disch := omega) only [lt_d, i0, i1, i2, i3, i4, i5, i6, i7, i8, i9, i10, i12, i14, i20, i25, i26, i28, i30, i36, i48, i49, i50, i53, i57, i59, i60, i63, i75, i80, i99, i100, i196, i255, i1000, im1, im2, im3, im5, im6, im11, im12, im13, im14, im1000, I_lt, I_le, I_eq, I_ite]
  exact zb_c (by (repeat' split) <;> omega)
theorem s_isNumber {z : Int} (h : -2147483648 ≤ z ∧ z < 2147483648) : f_X7_isNumber (I z) = some (I (if 0 ≤ z ∧ z ≤ 3 then 1 else 0)) := by
  unfold f_X7_isNumber
  simp (disch := omega) only [lt_d, i0, i1, i2, i3, i4, i5, i6, i7, i8, i9, i10, i12, i14, i20, i25, i26, i28, i30, i36, i48, i49, i50, i53, i57, i59, i60, i63, i75, i80, i99, i100, i196, i255, i1000, im1, im2, im3, im5, im6, im11, im12, im13, im14, im1000, I_lt, I_le, I_eq, I_ite]
  exact zb_c (by (repeat' split) <;> omega)
theorem s_isRule {z : Int} (h : -2147483648 ≤ z ∧ z < 2147483648) : f_X7_isRule (I z) = some (I (if 0 ≤ z ∧ z ≤ 3 then 1 else 0)) := by
  unfold f_X7_isRule
  simp (disch := omega) only [lt_d, i0, i1, i2, i3, i4, i5, i6, i7, i8, i9, i10, i12, i14, i20, i25, i26, i28, i30, i36, i48, i49, i50, i53, i57, i59, i60, i63, i75, i80, i99, i100, i196, i255, i1000, im1, im2, im3, im5, im6, im11, im12, im13, im14, im1000, I_lt, I_le, I_eq, I_ite]
  exact zb_c (by (repeat' split) <;> omega)
theorem s_isPlace {z : Int} (h : -2147483648 ≤ z ∧ z < 2147483648) : f_X7_isPlace (I z) = some (I (if 0 ≤ z ∧ z ≤ 99 then 1 else 0)) := by
  unfold f_X7_isPlace
  simp (disch := omega) only [lt_d, i0, i1, i2, i3, i4, i5, i6, i7, i8, i9, i10, i12, i14, i20, i25, i26, i28, i30, i36, i48, i49, i50, i53, i57, i59, i60, i63, i75, i80, i99, i100, i196, i255, i1000, im1, im2, im3, im5, im6, im11, im12, im13, im14, im1000, I_lt, I_le, I_eq, I_ite]
  exact zb_c (by (repeat' split) <;> omega)
end
section
def gst (a b r : Int) : Gd := fun j => if j = 0 then a else if j = 1 then b else if j = 2 then r else 0
theorem gst_0 (a b r : Int) : gst a b r 0 = a := rfl
theorem gst_1 (a b r : Int) : gst a b r 1 = b := rfl
theorem gst_2 (a b r : Int) : gst a b r 2 = r := rfl
theorem gst_n (a b r : Int) (j : Nat) : gst a b r (3 + j) = 0 := by
  unfold gst
  rw [if_neg (by omega), if_neg (by omega), if_neg (by omega)]
theorem gst_V {a b r : Int} (ha : 1 ≤ a ∧ a ≤ 5) (hb : 1 ≤ b ∧ b ≤ 5) (hr : 0 ≤ r ∧ r ≤ 3) : GV (gst a b r) := by
  refine ⟨ha, hb, hr, fun j hj => ?_, fun j hj _ => gst_n _ _ _ _⟩
  rw [gst_n]; omega
theorem clg_CG {w : Wd} {t : Nat} {a b : Int} {g : Gd} (h : CG w t g) : CG (clg w t (I a) (I b)) t (gst a b (g 2)) := by
  unfold clg
  refine ⟨?_, ?_, ?_, fun j hj => ?_⟩
  · rw [fill_n (by omega), upI_n (by omega), upI_s]; rfl
  · rw [fill_n (by omega), upI_s]; rfl
  · rw [fill_n (by omega), upI_n (by omega), upI_n (by omega), h.2.2.1]; rfl
  · rw [fill_i hj, gst_n]
/-- g with number v at place k -/
def gset (g : Gd) (k : Nat) (v : Int) : Gd := fun j => if j = 3 + k then v else g j
theorem gset_V {g : Gd} {x y : Int} {v : Int} (hv : GV g) (h : 0 ≤ v ∧ v ≤ 3) (hx : 1 ≤ x ∧ x ≤ g 0) (hy : 1 ≤ y ∧ y ≤ g 1) : GV (gset g (5 * (x - 1) + (y - 1)).toNat v) := by
  have v1 := hv.1; have v2 := hv.2.1
  generalize hk : (5 * (x - 1) + (y - 1)).toNat = k
  have a0 : gset g k v 0 = g 0 := if_neg (by omega)
  have a1 : gset g k v 1 = g 1 := if_neg (by omega)
  have a2 : gset g k v 2 = g 2 := if_neg (by omega)
  refine ⟨by rw [a0]; exact v1, by rw [a1]; exact v2, by rw [a2]; exact hv.2.2.1, fun j hj => ?_, fun j hj hz => ?_⟩
  · unfold gset
    by_cases e : 3 + j = 3 + k
    · rw [if_pos e]; exact h
    · rw [if_neg e]; exact hv.2.2.2.1 j hj
  · rw [a0, a1] at hz
    unfold gset
    by_cases e : 3 + j = 3 + k
    · exfalso; omega
    · rw [if_neg e]; exact hv.2.2.2.2 j hj hz
theorem gset_CG {w : Wd} {t k : Nat} {g : Gd} {v : Int} (h : CG w t g) : CG (upI w (t + 1) k (I v)) t (gset g k v) := by
  refine ⟨?_, ?_, ?_, fun j hj => ?_⟩
  · rw [upI_n (by omega)]; exact h.1.trans (congrArg I (if_neg (by omega)).symm)
  · rw [upI_n (by omega)]; exact h.2.1.trans (congrArg I (if_neg (by omega)).symm)
  · rw [upI_n (by omega)]; exact h.2.2.1.trans (congrArg I (if_neg (by omega)).symm)
  · unfold gset
    by_cases e : j = k
    · subst e; rw [upI_s, if_pos rfl]
    · rw [upI_n (by omega), if_neg (by omega)]; exact h.2.2.2 j hj
end
section
/-! word -/
def grd (a b r : Int) (T : Nat → Int) : Gd := fun j => if j = 0 then a else if j = 1 then b else if j = 2 then r else T (j - 3)
theorem grd_0 (a b r : Int) (T : Nat → Int) : grd a b r T 0 = a := rfl
theorem grd_1 (a b r : Int) (T : Nat → Int) : grd a b r T 1 = b := rfl
theorem grd_2 (a b r : Int) (T : Nat → Int) : grd a b r T 2 = r := rfl
theorem grd_n (a b r : Int) (T : Nat → Int) (q : Nat) : grd a b r T (3 + q) = T q := by
  unfold grd
  rw [if_neg (by omega), if_neg (by omega), if_neg (by omega), show 3 + q - 3 = q by omega]
/-! turn -/
theorem grd_V {a b r : Int} {T : Nat → Int} (ha : 1 ≤ a ∧ a ≤ 5) (hb : 1 ≤ b ∧ b ≤ 5) (hr : 0 ≤ r ∧ r ≤ 3) (h1 : ∀ q, q < 25 → 0 ≤ T q ∧ T q ≤ 3) (h2 : ∀ q : Nat, q < 25 → (a ≤ ((q / 5 : Nat) : Int) ∨ b ≤ ((q % 5 : Nat) : Int)) → T q = 0) : GV (grd a b r T) :=
  ⟨ha, hb, hr, fun j hj => by rw [grd_n]; exact h1 j hj, fun j hj h => by rw [grd_n]; exact h2 j hj h⟩
theorem grd_CG {w : Wd} {t : Nat} {a b r : Int} {T : Nat → Int} (h0 : w.1 t 0 = I a) (h1 : w.1 t 1 = I b) (h2 : w.1 t 2 = I r) (h3 : ∀ q, q < 25 → w.1 (t + 1) q = I (T q)) : CG w t (grd a b r T) :=
  ⟨h0, h1, h2, fun j hj => by rw [grd_n]; exact h3 j hj⟩
theorem GV.g0 {g : Gd} (hv : GV g) {q : Nat} (hq : q < 25) : 0 ≤ g (3 + q) ∧ g (3 + q) ≤ 3 := hv.2.2.2.1 q hq
end
section
theorem mxN {n m : Nat} (hn : n ≤ 75) (hm : m ≤ 75) : ∃ N : Nat, (if I n < I m then I m else I n) = I N ∧ n ≤ N ∧ m ≤ N ∧ N ≤ 75 := by
  have e : (I n < I m) = ((n : Int) < m) := I_lt (by omega) (by omega) (by omega) (by omega)
  by_cases c : (n : Int) < m
  · exact ⟨m, if_pos (by rw [e]; exact c), by omega, by omega, by omega⟩
  · exact ⟨n, if_neg (by rw [e]; exact c), by omega, by omega, by omega⟩
end
section
theorem tsum_len {s : Nat → Int} {W : Int} (hs : Gs s W) : tsum s (len s) = W := by
  have hl := len_b s
  have key : ∀ d, tsum s (len s + d) = tsum s (len s) := fun d => by
    induction d with
    | zero => rfl
    | succ d ih =>
      show tsum s (len s + d) + s (len s + d) = _
      rw [ih, len_z hs (by omega)]
      omega
  rw [← key (75 - len s), show len s + (75 - len s) = 75 by omega]
  exact hs.2.2.2
end
section
/-- how many parts are above j -/
def abv (s : Nat → Int) (j : Int) : Nat → Nat
  | 0 => 0
  | n + 1 => abv s j n + if j < s n then 1 else 0
theorem abv_s (s : Nat → Int) (j : Int) (i : Nat) : ((abv s j (i + 1) : Nat) : Int) = (abv s j i : Int) + (if j < s i then 1 else 0) := by
  show ((abv s j i + (if j < s i then 1 else 0) : Nat) : Int) = _
  (repeat' split) <;> omega
theorem abv_le (s : Nat → Int) (j : Int) : ∀ n, abv s j n ≤ n
  | 0 => Nat.le_refl _
  | n + 1 => by
    have := abv_le s j n
    show abv s j n + (if j < s n then 1 else 0) ≤ _
    split <;> omega
theorem abv_len {s : Nat → Int} {W : Int} (hs : Gs s W) {j : Int} (hj : 0 ≤ j) : ∀ d, abv s j (len s + d) = abv s j (len s)
  | 0 => rfl
  | d + 1 => by
    have h1 := abv_len hs hj d
    have h2 := len_z hs (k := len s + d) (by omega)
    show abv s j (len s + d) + (if j < s (len s + d) then 1 else 0) = _
    rw [if_neg (by omega)]; omega
theorem s_partsAbove {w : Wd} {t : Nat} {s : Nat → Int} {W j : Int} (hk : kd t = 5) (hr : w.2 t 0 = some (t + 1)) (h : ShC w t s) (hs : Gs s W) (hb : W ≤ 75) (hj : 0 ≤ j ∧ j < 2147483648) : f_X5_partsAbove t (I j) w = some (I (abv s j (len s))) := by
  have hl := len_b s
  unfold f_X5_partsAbove
  rw [h.1]
  refine wl2_for (len s) (fun i => I (abv s j i)) (fun i => I i) (fu_lt (by omega)) rfl rfl (fun i hi k => ?_) (fun k => ?_)
  · have x1 := hs.1 i; have x2 := hs.b i
    simp (disch := omega) only [↓j_m1, ↓j_m2, ↓j_m3, ↓j_m5, ↓j_m6, ↓j_m11, ↓j_m12, ↓j_m13, ↓j_m14, ↓j_m1000, j_0, j_1, j_2, j_3, j_4, j_5, j_6, j_7, j_8, j_9, j_10, j_12, j_14, j_20, j_25, j_26, j_28, j_30, j_36, j_48, j_49, j_50, j_53, j_57, j_59, j_60, j_63, j_75, j_80, j_99, j_100, j_196, j_255, j_1000, I_le]
    rw [if_neg (by omega), rf9 hr (kdS hk), (kdS hk).2.2, ix_d (by omega) (by omega) (by decide), Int.toNat_natCast, h.2.2 i hi]
    simp (disch := omega) only [lt_d, I_le, I_ite, I_add, nS]
    rw [abv_s]
    congr 3
    (repeat' split) <;> omega
  · simp (disch := omega) only [I_le]
    rw [if_pos (by omega)]
end
section
/-! fits -/
theorem s_goesLevel {w : Wd} {t u : Nat} {s r : Nat → Int} {W V : Int} (kt : kd t = 5) (rt : w.2 t 0 = some (t + 1)) (ku : kd u = 5) (ru : w.2 u 0 = some (u + 1)) (h : ShC w t s) (hs : Gs s W) (hb : W ≤ 75) (h2 : ShC w u r) (hr : Gs r V) (hb2 : V ≤ 75) :
    (f_X5_goesOnLevel t u w = some (I 1) ∧ Sp 0 r s) ∨ (f_X5_goesOnLevel t u w = some (I 0) ∧ ¬ Sp 0 r s) := by
  have l1 := len_b s
  have l2 := len_b r
  obtain ⟨N, e, n1, n2, n3⟩ := mxN l1 l2
  unfold f_X5_goesOnLevel
  rw [h.1, h2.1, e, lt_d]
  refine wl1_inv (Q := fun z => (z = some (I 1) ∧ Sp 0 r s) ∨ (z = some (I 0) ∧ ¬ Sp 0 r s)) N (fun i x => x = I i ∧ ∀ j, j < i → r j ≤ s j ∧ s (j + 1) ≤ r j) (fu_lt (by omega)) ⟨rfl, fun j hj => absurd hj (by omega)⟩ ?_ ?_
  · rintro i hi x ⟨rfl, hd⟩ k
    have x1 := hs.1 i; have x2 := hs.b i; have x3 := hr.1 i; have x4 := hr.b i; have x5 := hs.1 (i + 1); have x6 := hs.b (i + 1)
    simp (disch := omega) only [↓j_m1, ↓j_m2, ↓j_m3, ↓j_m5, ↓j_m6, ↓j_m11, ↓j_m12, ↓j_m13, ↓j_m14, ↓j_m1000, j_0, j_1, j_2, j_3, j_4, j_5, j_6, j_7, j_8, j_9, j_10, j_12, j_14, j_20, j_25, j_26, j_28, j_30, j_36, j_48, j_49, j_50, j_53, j_57, j_59, j_60, j_63, j_75, j_80, j_99, j_100, j_196, j_255, j_1000, I_le]
    rw [if_neg (by omega), c1_r (s_partAt ku ru h2 hr (by omega)), c1_r (s_partAt kt rt h hs (by omega)), I_add, nS, c1_r (s_partAt kt rt h hs (by omega))]
    simp (disch := omega) only [I_lt, I_le, lt_d]
    by_cases c : s i < r i
    · right; right
      rw [if_pos c]
      exact ⟨rfl, fun q => absurd (q.1 i) (by omega)⟩
    · rw [if_neg c]
      by_cases d : s (i + 1) ≤ r i
      · left
        refine ⟨_, ⟨rfl, fun j hj => ?_⟩, by rw [if_pos d]⟩
        by_cases e2 : j = i
        · subst e2; omega
        · exact hd j (by omega)
      · right; right
        rw [if_neg d]
        exact ⟨rfl, fun q => absurd (q.2.1 rfl i) d⟩
  · rintro x ⟨rfl, hd⟩ k
    rw [if_pos (by rw [I_le (by omega) (by omega) (by omega) (by omega)]; omega)]
    have al : ∀ j, r j ≤ s j ∧ s (j + 1) ≤ r j := fun j => by
      by_cases c : j < N
      · exact hd j c
      · rw [len_z hs (k := j) (by omega), len_z hr (k := j) (by omega), len_z hs (k := j + 1) (by omega)]
        omega
    exact Or.inl ⟨rfl, fun k => (al k).1, fun _ k => (al k).2, fun h => absurd h (by decide)⟩
theorem s_goesUp {w : Wd} {t u : Nat} {s r : Nat → Int} {W V : Int} (kt : kd t = 5) (rt : w.2 t 0 = some (t + 1)) (ku : kd u = 5) (ru : w.2 u 0 = some (u + 1)) (h : ShC w t s) (hs : Gs s W) (hb : W ≤ 75) (h2 : ShC w u r) (hr : Gs r V) (hb2 : V ≤ 75) :
    (f_X5_goesOnUpright t u w = some (I 1) ∧ Sp 1 r s) ∨ (f_X5_goesOnUpright t u w = some (I 0) ∧ ¬ Sp 1 r s) := by
  have l1 := len_b s
  have l2 := len_b r
  obtain ⟨N, e, n1, n2, n3⟩ := mxN l1 l2
  unfold f_X5_goesOnUpright
  rw [h.1, h2.1, e, lt_d]
  refine wl1_inv (Q := fun z => (z = some (I 1) ∧ Sp 1 r s) ∨ (z = some (I 0) ∧ ¬ Sp 1 r s)) N (fun i x => x = I i ∧ ∀ j, j < i → r j ≤ s j ∧ s j ≤ r j + 1) (fu_lt (by omega)) ⟨rfl, fun j hj => absurd hj (by omega)⟩ ?_ ?_
  · rintro i hi x ⟨rfl, hd⟩ k
    have x1 := hs.1 i; have x2 := hs.b i; have x3 := hr.1 i; have x4 := hr.b i
    simp (disch := omega) only [↓j_m1, ↓j_m2, ↓j_m3, ↓j_m5, ↓j_m6, ↓j_m11, ↓j_m12, ↓j_m13, ↓j_m14, ↓j_m1000, j_0, j_1, j_2, j_3, j_4, j_5, j_6, j_7, j_8, j_9, j_10, j_12, j_14, j_20, j_25, j_26, j_28, j_30, j_36, j_48, j_49, j_50, j_53, j_57, j_59, j_60, j_63, j_75, j_80, j_99, j_100, j_196, j_255, j_1000, I_le]
    rw [if_neg (by omega), c1_r (s_partAt kt rt h hs (by omega)), c1_r (s_partAt ku ru h2 hr (by omega)), I_sub]
    simp (disch := omega) only [lt_d, I_lt, I_le, I_add, nS]
    by_cases c : s i - r i < 0
    · right; right
      rw [if_pos c]
      exact ⟨rfl, fun q => absurd (q.1 i) (by omega)⟩
    · rw [if_neg c]
      by_cases d : s i - r i ≤ 1
      · left
        refine ⟨_, ⟨rfl, fun j hj => ?_⟩, by rw [if_pos d]⟩
        by_cases e2 : j = i
        · subst e2; omega
        · exact hd j (by omega)
      · right; right
        rw [if_neg d]
        exact ⟨rfl, fun q => absurd (q.2.2 rfl i) (by omega)⟩
  · rintro x ⟨rfl, hd⟩ k
    rw [if_pos (by rw [I_le (by omega) (by omega) (by omega) (by omega)]; omega)]
    have al : ∀ j, r j ≤ s j ∧ s j ≤ r j + 1 := fun j => by
      by_cases c : j < N
      · exact hd j c
      · rw [len_z hs (k := j) (by omega), len_z hr (k := j) (by omega)]
        omega
    exact Or.inl ⟨rfl, fun k => (al k).1, fun h => absurd h (by decide), fun _ k => (al k).2⟩
theorem s_goesOn {w : Wd} {t u : Nat} {s r : Nat → Int} {W V e : Int} (he : e = 0 ∨ e = 1) (kt : kd t = 5) (rt : w.2 t 0 = some (t + 1)) (ku : kd u = 5) (ru : w.2 u 0 = some (u + 1)) (h : ShC w t s) (hs : Gs s W) (hb : W ≤ 75) (h2 : ShC w u r) (hr : Gs r V) (hb2 : V ≤ 75) :
    (f_X5_goesOnFrom t u (I e) w = some (I 1) ∧ Sp e r s) ∨ (f_X5_goesOnFrom t u (I e) w = some (I 0) ∧ ¬ Sp e r s) := by
  unfold f_X5_goesOnFrom
  obtain rfl | rfl := he
  · rw [if_pos z00]
    obtain ⟨q, z⟩ | ⟨q, z⟩ := s_goesLevel kt rt ku ru h hs hb h2 hr hb2
    · rw [c1_r q, zb_1]; exact Or.inl ⟨rfl, z⟩
    · rw [c1_r q, zb_0]; exact Or.inr ⟨rfl, z⟩
  · rw [if_neg n10]
    obtain ⟨q, z⟩ | ⟨q, z⟩ := s_goesUp kt rt ku ru h hs hb h2 hr hb2
    · rw [c1_r q, zb_1]; exact Or.inl ⟨rfl, z⟩
    · rw [c1_r q, zb_0]; exact Or.inr ⟨rfl, z⟩
def RimF (g : Gd) (C R : Nat) (q : Int) : Prop := (∀ x, x < C → Sp (eC q) (Sg g x R) (Sg g (x + 1) R)) ∧ ∀ y, y < R → Sp (eR q) (Sg g C y) (Sg g C (y + 1))
theorem eC_b (q : Int) : eC q = 0 ∨ eC q = 1 := by
  unfold eC
  (repeat' split) <;> omega
theorem eR_b (q : Int) : eR q = 0 ∨ eR q = 1 := by
  unfold eR
  (repeat' split) <;> omega
theorem s_rimFits {w : Wd} {g : Gd} {C R : Nat} {q : Int} (hW : Wi w.2) (hv : GV g) (hg : GrC w g) (hC : g 0 = C) (hR : g 1 = R) (hq : 0 ≤ q ∧ q ≤ 3) : (f_X1_rimFits 7 (I q) w = some (I 1) ∧ RimF g C R q) ∨ (f_X1_rimFits 7 (I q) w = some (I 0) ∧ ¬ RimF g C R q) := by
  have v1 := hv.1; have v2 := hv.2.1
  have kk : ∀ x y : Nat, x ≤ 5 → y ≤ 5 → kd (9 + 2 * (6 * x + y)) = 5 := fun x y _ _ => kd_shape _ (by omega)
  have step : ∀ (a b c d : Nat) (e : Int), (e = 0 ∨ e = 1) → a ≤ C → c ≤ C → b ≤ R → d ≤ R → (f_X5_goesOnFrom (9 + 2 * (6 * a + b)) (9 + 2 * (6 * c + d)) (I e) w = some (I 1) ∧ Sp e (Sg g c d) (Sg g a b)) ∨ (f_X5_goesOnFrom (9 + 2 * (6 * a + b)) (9 + 2 * (6 * c + d)) (I e) w = some (I 0) ∧ ¬ Sp e (Sg g c d) (Sg g a b)) := fun a b c d e he h1 h2 h3 h4 =>
    s_goesOn he (kk a b (by omega) (by omega)) (hW.2.2.1 _ (kk a b (by omega) (by omega))) (kk c d (by omega) (by omega)) (hW.2.2.1 _ (kk c d (by omega) (by omega))) (hg.2.2 a b (by omega) (by omega)) (Sg_ok hv (by omega) (by omega)).1 (Wg_b hv (by omega) (by omega)).2 (hg.2.2 c d (by omega) (by omega)) (Sg_ok hv (by omega) (by omega)).1 (Wg_b hv (by omega) (by omega)).2
  have x3 : (if I q = (1 : Int32) then (1 : Int32) else (if I q = (3 : Int32) then (1 : Int32) else (0 : Int32))) = I (eC q) := by
    unfold eC
    simp (disch := omega) only [↓j_m1, ↓j_m2, ↓j_m3, ↓j_m5, ↓j_m6, ↓j_m11, ↓j_m12, ↓j_m13, ↓j_m14, ↓j_m1000, j_0, j_1, j_2, j_3, j_4, j_5, j_6, j_7, j_8, j_9, j_10, j_12, j_14, j_20, j_25, j_26, j_28, j_30, j_36, j_48, j_49, j_50, j_53, j_57, j_59, j_60, j_63, j_75, j_80, j_99, j_100, j_196, j_255, j_1000, I_eq, I_ite]
  have x6 : (if I q = (2 : Int32) then (1 : Int32) else (if I q = (3 : Int32) then (1 : Int32) else (0 : Int32))) = I (eR q) := by
    unfold eR
    simp (disch := omega) only [↓j_m1, ↓j_m2, ↓j_m3, ↓j_m5, ↓j_m6, ↓j_m11, ↓j_m12, ↓j_m13, ↓j_m14, ↓j_m1000, j_0, j_1, j_2, j_3, j_4, j_5, j_6, j_7, j_8, j_9, j_10, j_12, j_14, j_20, j_25, j_26, j_28, j_30, j_36, j_48, j_49, j_50, j_53, j_57, j_59, j_60, j_63, j_75, j_80, j_99, j_100, j_196, j_255, j_1000, I_eq, I_ite]
  unfold f_X1_rimFits
  rw [x3, x6, lt_d, lt_d, hg.1, hg.2.1, hC, hR]
  refine wl1_inv (Q := fun z => (z = some (I 1) ∧ RimF g C R q) ∨ (z = some (I 0) ∧ ¬ RimF g C R q)) C (fun i x => x = I ((i : Int) + 1) ∧ ∀ j, j < i → Sp (eC q) (Sg g j R) (Sg g (j + 1) R)) (fu_lt (by omega)) ⟨rfl, fun j hj => absurd hj (by omega)⟩ ?_ ?_
  · rintro i hi x ⟨rfl, hd⟩ k
    simp (disch := omega) only [↓j_m1, ↓j_m2, ↓j_m3, ↓j_m5, ↓j_m6, ↓j_m11, ↓j_m12, ↓j_m13, ↓j_m14, ↓j_m1000, j_0, j_1, j_2, j_3, j_4, j_5, j_6, j_7, j_8, j_9, j_10, j_12, j_14, j_20, j_25, j_26, j_28, j_30, j_36, j_48, j_49, j_50, j_53, j_57, j_59, j_60, j_63, j_75, j_80, j_99, j_100, j_196, j_255, j_1000, I_lt, I_sub]
    rw [if_neg (by omega), show (i : Int) + 1 - 1 = (i : Int) by omega, nS i, c1_r (s_at (x := i + 1) (y := R) hW (by omega) (by omega)), ckc (kk _ _ (by omega) (by omega)) (by decide), c1_r (s_at (x := i) (y := R) hW (by omega) (by omega)), ckc (kk _ _ (by omega) (by omega)) (by decide)]
    obtain ⟨z1, z2⟩ | ⟨z1, z2⟩ := step (i + 1) R i R (eC q) (eC_b q) (by omega) (by omega) (by omega) (by omega)
    · left
      refine ⟨I (((i + 1 : Nat) : Int) + 1), ⟨rfl, fun j hj => ?_⟩, ?_⟩
      · by_cases e2 : j = i
        · subst e2; exact z2
        · exact hd j (by omega)
      · rw [c1_r z1, if_neg (by decide), lt_d, I_add]
    · right; right
      rw [c1_r z1, if_pos rfl]
      exact ⟨rfl, fun h => z2 (h.1 i hi)⟩
  · rintro x ⟨rfl, hd⟩ k
    rw [if_pos (by rw [I_lt (by omega) (by omega) (by omega) (by omega)]; omega)]
    refine wl1_inv (Q := fun z => (z = some (I 1) ∧ RimF g C R q) ∨ (z = some (I 0) ∧ ¬ RimF g C R q)) R (fun i x => x = I ((i : Int) + 1) ∧ ∀ j, j < i → Sp (eR q) (Sg g C j) (Sg g C (j + 1))) (fu_lt (by omega)) ⟨rfl, fun j hj => absurd hj (by omega)⟩ ?_ ?_
    · rintro i hi x ⟨rfl, hd2⟩ k
      simp (disch := omega) only [↓j_m1, ↓j_m2, ↓j_m3, ↓j_m5, ↓j_m6, ↓j_m11, ↓j_m12, ↓j_m13, ↓j_m14, ↓j_m1000, j_0, j_1, j_2, j_3, j_4, j_5, j_6, j_7, j_8, j_9, j_10, j_12, j_14, j_20, j_25, j_26, j_28, j_30, j_36, j_48, j_49, j_50, j_53, j_57, j_59, j_60, j_63, j_75, j_80, j_99, j_100, j_196, j_255, j_1000, I_lt, I_sub]
      rw [if_neg (by omega), show (i : Int) + 1 - 1 = (i : Int) by omega, nS i, c1_r (s_at (x := C) (y := i + 1) hW (by omega) (by omega)), ckc (kk _ _ (by omega) (by omega)) (by decide), c1_r (s_at (x := C) (y := i) hW (by omega) (by omega)), ckc (kk _ _ (by omega) (by omega)) (by decide)]
      obtain ⟨z1, z2⟩ | ⟨z1, z2⟩ := step C (i + 1) C i (eR q) (eR_b q) (by omega) (by omega) (by omega) (by omega)
      · left
        refine ⟨I (((i + 1 : Nat) : Int) + 1), ⟨rfl, fun j hj => ?_⟩, ?_⟩
        · by_cases e2 : j = i
          · subst e2; exact z2
          · exact hd2 j (by omega)
        · rw [c1_r z1, if_neg (by decide), lt_d, I_add]
      · right; right
        rw [c1_r z1, if_pos rfl]
        exact ⟨rfl, fun h => z2 (h.2 i hi)⟩
    · rintro x ⟨rfl, hd2⟩ k
      rw [if_pos (by rw [I_lt (by omega) (by omega) (by omega) (by omega)]; omega)]
      exact Or.inl ⟨rfl, hd, hd2⟩
end
section
/-! longest: the best rows -/
def brow (st : Bool) (V prev : Nat → Int) : Nat → Int
  | 0 => 0
  | y + 1 => if st = true then mx (mx (prev (y + 1)) (brow st V prev y)) (prev y + V y) else mx (prev (y + 1)) (brow st V prev y) + V y
def BR (st : Bool) (V : Nat → Nat → Int) : Nat → Nat → Int
  | 0 => fun _ => 0
  | x + 1 => brow st (V x) (BR st V x)
theorem BR_y0 (st : Bool) (V : Nat → Nat → Int) : ∀ x, BR st V x 0 = 0
  | 0 => rfl
  | _ + 1 => rfl
theorem BR_s (st : Bool) (V : Nat → Nat → Int) (x y : Nat) : BR st V (x + 1) (y + 1) = if st = true then mx (mx (BR st V x (y + 1)) (BR st V (x + 1) y)) (BR st V x y + V x y) else mx (BR st V x (y + 1)) (BR st V (x + 1) y) + V x y := rfl
theorem mx_b (a b : Int) : a ≤ mx a b ∧ b ≤ mx a b ∧ (mx a b = a ∨ mx a b = b) := by
  unfold mx
  split <;> omega
theorem BR_b {st : Bool} {V : Nat → Nat → Int} (hV : ∀ x y, 0 ≤ V x y ∧ V x y ≤ 3) : ∀ x y, 0 ≤ BR st V x y ∧ BR st V x y ≤ 3 * ((x : Int) + y) := by
  intro x
  induction x with
  | zero =>
    intro y
    have h0 : BR st V 0 y = 0 := rfl
    omega
  | succ x ih =>
    intro y
    induction y with
    | zero =>
      have h0 : BR st V (x + 1) 0 = 0 := rfl
      omega
    | succ y ihy =>
      have h2 := BR_s st V x y
      have v := hV x y
      have i1 := ih (y + 1)
      have i2 := ih y
      have m1 := mx_b (BR st V x (y + 1)) (BR st V (x + 1) y)
      have m2 := mx_b (mx (BR st V x (y + 1)) (BR st V (x + 1) y)) (BR st V x y + V x y)
      cases st
      · rw [if_neg (by decide)] at h2
        omega
      · rw [if_pos rfl] at h2
        omega
theorem BR_m {st : Bool} {V : Nat → Nat → Int} (hV : ∀ x y, 0 ≤ V x y ∧ V x y ≤ 3) (x y : Nat) : BR st V x (y + 1) ≤ BR st V (x + 1) (y + 1) ∧ BR st V (x + 1) y ≤ BR st V (x + 1) (y + 1) := by
  have h2 := BR_s st V x y
  have v := hV x y
  have m1 := mx_b (BR st V x (y + 1)) (BR st V (x + 1) y)
  have m2 := mx_b (mx (BR st V x (y + 1)) (BR st V (x + 1) y)) (BR st V x y + V x y)
  cases st
  · rw [if_neg (by decide)] at h2
    omega
  · rw [if_pos rfl] at h2
    omega
theorem BR_mx {st : Bool} {V : Nat → Nat → Int} (hV : ∀ x y, 0 ≤ V x y ∧ V x y ≤ 3) (x y : Nat) : ∀ d, BR st V x y ≤ BR st V (x + d) y
  | 0 => Int.le_refl _
  | d + 1 => by
    have h1 := BR_mx (st := st) hV x y d
    cases y with
    | zero => rw [BR_y0, BR_y0]; exact Int.le_refl _
    | succ y => exact Int.le_trans h1 (BR_m hV (x + d) y).1
theorem BR_my {st : Bool} {V : Nat → Nat → Int} (hV : ∀ x y, 0 ≤ V x y ∧ V x y ≤ 3) (x y : Nat) : ∀ d, BR st V x y ≤ BR st V x (y + d)
  | 0 => Int.le_refl _
  | d + 1 => by
    have h1 := BR_my (st := st) hV x y d
    cases x with
    | zero => exact Int.le_refl _
    | succ x => exact Int.le_trans h1 (BR_m hV x (y + d)).2
theorem BR_mm {st : Bool} {V : Nat → Nat → Int} (hV : ∀ x y, 0 ≤ V x y ∧ V x y ≤ 3) {a b x y : Nat} (h1 : a ≤ x) (h2 : b ≤ y) : BR st V a b ≤ BR st V x y := by
  have e1 := BR_mx (st := st) hV a b (x - a)
  have e2 := BR_my (st := st) hV (a + (x - a)) b (y - b)
  rw [show a + (x - a) = x by omega, show b + (y - b) = y by omega] at e2
  rw [show a + (x - a) = x by omega] at e1
  exact Int.le_trans e1 e2
/-- the best row that ends at a cell -/
def Sx (st : Bool) (V : Nat → Nat → Int) (x k : Nat) : Int := if st = true then BR st V x k + V x k else BR st V (x + 1) (k + 1)
theorem Sx_b {st : Bool} {V : Nat → Nat → Int} (hV : ∀ x y, 0 ≤ V x y ∧ V x y ≤ 3) (x k : Nat) : 0 ≤ Sx st V x k ∧ Sx st V x k ≤ BR st V (x + 1) (k + 1) := by
  have h2 := BR_s st V x k
  have v := hV x k
  have i1 := BR_b (st := st) hV x k
  have i2 := BR_b (st := st) hV (x + 1) (k + 1)
  have m2 := mx_b (mx (BR st V x (k + 1)) (BR st V (x + 1) k)) (BR st V x k + V x k)
  unfold Sx
  cases st
  · rw [if_neg (by decide)]
    omega
  · rw [if_pos rfl] at h2 ⊢
    omega
def IsMx (S : Nat → Nat → Int) (P : Nat → Nat → Prop) (m : Int) : Prop := 0 ≤ m ∧ (∀ a b, P a b → S a b ≤ m) ∧ (m = 0 ∨ ∃ a b, P a b ∧ S a b = m)
theorem IsMx_u {S : Nat → Nat → Int} {P : Nat → Nat → Prop} {m m' : Int} (h : IsMx S P m) (h' : IsMx S P m') : m = m' := by
  obtain ⟨h0, h1, h2⟩ := h
  obtain ⟨g0, g1, g2⟩ := h'
  obtain h2 | ⟨a, b, h2, h3⟩ := h2
  · obtain g2 | ⟨c, d, g2, g3⟩ := g2
    · omega
    · have := h1 c d g2; omega
  · have e1 := g1 a b h2
    obtain g2 | ⟨c, d, g2, g3⟩ := g2
    · omega
    · have := h1 c d g2; omega
theorem IsMx_c {S : Nat → Nat → Int} {P P' : Nat → Nat → Prop} {m : Int} (h : IsMx S P m) (e : ∀ a b, P' a b ↔ P a b) : IsMx S P' m :=
  ⟨h.1, fun a b q => h.2.1 a b ((e a b).1 q), h.2.2.elim Or.inl (fun ⟨a, b, q, r⟩ => Or.inr ⟨a, b, (e a b).2 q, r⟩)⟩
theorem IsMx_a {S : Nat → Nat → Int} {P P' : Nat → Nat → Prop} {m : Int} (h : IsMx S P m) (a0 b0 : Nat) (e : ∀ a b, P' a b ↔ P a b ∨ (a = a0 ∧ b = b0)) : IsMx S P' (if S a0 b0 ≤ m then m else S a0 b0) := by
  obtain ⟨h0, h1, h2⟩ := h
  by_cases c : S a0 b0 ≤ m
  · rw [if_pos c]
    refine ⟨h0, fun a b q => ?_, h2.elim Or.inl (fun ⟨a, b, q, r⟩ => Or.inr ⟨a, b, (e a b).2 (Or.inl q), r⟩)⟩
    obtain q | ⟨rfl, rfl⟩ := (e a b).1 q
    · exact h1 a b q
    · exact c
  · rw [if_neg c]
    refine ⟨by omega, fun a b q => ?_, Or.inr ⟨a0, b0, (e a0 b0).2 (Or.inr ⟨rfl, rfl⟩), rfl⟩⟩
    obtain q | ⟨rfl, rfl⟩ := (e a b).1 q
    · have := h1 a b q; omega
    · exact Int.le_refl _
theorem BR_is {st : Bool} {V : Nat → Nat → Int} (hV : ∀ x y, 0 ≤ V x y ∧ V x y ≤ 3) : ∀ x y, IsMx (Sx st V) (fun a b => a < x ∧ b < y) (BR st V x y) := by
  intro x
  induction x with
  | zero => exact fun y => ⟨Int.le_refl _, fun a b h => absurd h.1 (by omega), Or.inl rfl⟩
  | succ x ih =>
    intro y
    induction y with
    | zero => exact ⟨Int.le_refl _, fun a b h => absurd h.2 (by omega), Or.inl rfl⟩
    | succ y ihy =>
      refine ⟨(BR_b hV _ _).1, fun a b h => Int.le_trans (Sx_b hV a b).2 (BR_mm hV (by omega) (by omega)), ?_⟩
      have h2 := BR_s st V x y
      have m1 := mx_b (BR st V x (y + 1)) (BR st V (x + 1) y)
      have up : ∀ z, BR st V (x + 1) (y + 1) = z → (z = BR st V x (y + 1) ∨ z = BR st V (x + 1) y ∨ z = Sx st V x y) → (BR st V (x + 1) (y + 1) = 0 ∨ ∃ a b, (a < x + 1 ∧ b < y + 1) ∧ Sx st V a b = BR st V (x + 1) (y + 1)) := fun z hz h => by
        rw [hz]
        obtain h | h | h := h
        · obtain q | ⟨a, b, q, r⟩ := (ih (y + 1)).2.2
          · exact Or.inl (h.trans q)
          · exact Or.inr ⟨a, b, ⟨by omega, by omega⟩, r.trans h.symm⟩
        · obtain q | ⟨a, b, q, r⟩ := ihy.2.2
          · exact Or.inl (h.trans q)
          · exact Or.inr ⟨a, b, ⟨by omega, by omega⟩, r.trans h.symm⟩
        · exact Or.inr ⟨x, y, ⟨by omega, by omega⟩, h.symm⟩
      cases st
      · exact up _ rfl (Or.inr (Or.inr (by unfold Sx; rw [if_neg (by decide)])))
      · have m2 := mx_b (mx (BR true V x (y + 1)) (BR true V (x + 1) y)) (BR true V x y + V x y)
        rw [if_pos rfl] at h2
        have es : Sx true V x y = BR true V x y + V x y := if_pos rfl
        exact up _ rfl (by omega)
def pv (st : Bool) (x k a b : Nat) : Prop := if st = true then a < x ∧ b < k else (a ≤ x ∧ b ≤ k ∧ ¬ (a = x ∧ b = k))
def pm (st : Bool) (V : Nat → Nat → Int) (x k : Nat) : Int := if st = true then BR st V x k else mx (BR st V x (k + 1)) (BR st V (x + 1) k)
theorem pm_S (st : Bool) (V : Nat → Nat → Int) (x k : Nat) : Sx st V x k = pm st V x k + V x k := by
  have h2 := BR_s st V x k
  unfold Sx pm
  cases st
  · rw [if_neg (by decide)] at h2 ⊢
    rw [if_neg (by decide)]
    exact h2
  · rw [if_pos rfl, if_pos rfl]
theorem pm_is {st : Bool} {V : Nat → Nat → Int} (hV : ∀ x y, 0 ≤ V x y ∧ V x y ≤ 3) (x k : Nat) : IsMx (Sx st V) (pv st x k) (pm st V x k) := by
  unfold pm
  cases st
  · rw [if_neg (by decide)]
    have i1 := BR_is (st := false) hV x (k + 1)
    have i2 := BR_is (st := false) hV (x + 1) k
    have m1 := mx_b (BR false V x (k + 1)) (BR false V (x + 1) k)
    have e : ∀ a b, pv false x k a b ↔ ((a < x ∧ b < k + 1) ∨ (a < x + 1 ∧ b < k)) := fun a b => by
      unfold pv
      rw [if_neg (by decide)]
      omega
    refine ⟨by have := i1.1; omega, fun a b h => ?_, ?_⟩
    · obtain h | h := (e a b).1 h
      · have := i1.2.1 a b h; omega
      · have := i2.2.1 a b h; omega
    · obtain m | m := m1.2.2
      · rw [m]
        obtain q | ⟨a, b, q, r⟩ := i1.2.2
        · exact Or.inl q
        · exact Or.inr ⟨a, b, (e a b).2 (Or.inl q), r⟩
      · rw [m]
        obtain q | ⟨a, b, q, r⟩ := i2.2.2
        · exact Or.inl q
        · exact Or.inr ⟨a, b, (e a b).2 (Or.inr q), r⟩
  · rw [if_pos rfl]
    exact IsMx_c (BR_is hV x k) (fun a b => by unfold pv; rw [if_pos rfl])
end
section
/-! longest, by both -/
def lyk (fl : Bool) (R k : Nat) : Nat := if fl = true then R - 1 - k else k
theorem lyk_b {fl : Bool} {R k : Nat} (h : k < R) : lyk fl R k < R ∧ lyk fl R (lyk fl R k) = k := by
  unfold lyk
  cases fl
  · rw [if_neg (by decide), if_neg (by decide)]; omega
  · rw [if_pos rfl, if_pos rfl]; omega
def lV (g : Gd) (R : Nat) (fl : Bool) (d : Int) (x k : Nat) : Int := if x < 5 ∧ k < R then (if d = 0 then g (3 + (5 * x + lyk fl R k)) else if 1 < g (3 + (5 * x + lyk fl R k)) then 1 else g (3 + (5 * x + lyk fl R k))) else 0
theorem lV_b {g : Gd} {R : Nat} (hv : GV g) (hR : R ≤ 5) (fl : Bool) (d : Int) (x k : Nat) : 0 ≤ lV g R fl d x k ∧ lV g R fl d x k ≤ 3 := by
  unfold lV
  by_cases c : x < 5 ∧ k < R
  · have h1 := (lyk_b (fl := fl) c.2).1
    have h2 := hv.g0 (q := 5 * x + lyk fl R k) (by omega)
    rw [if_pos c]
    (repeat' split) <;> omega
  · rw [if_neg c]
    omega
theorem I_mx {a b : Int} (ha : 0 ≤ a ∧ a < 1000) (hb : 0 ≤ b ∧ b < 1000) : (if I a < I b then I b else I a) = I (mx a b) := by
  unfold mx
  simp (disch := omega) only [I_lt, I_ite]
theorem s_bestRow {w : Wd} {g : Gd} {C R : Nat} {z d : Int} {st fl : Bool} (hW : Wi w.2) (hv : GV g) (hc : CG w 1 g) (hs : Rs w) (hC : g 0 = C) (hR : g 1 = R) (hz : 0 ≤ z ∧ z ≤ 3) (hst : st = true ↔ (z = 1 ∨ z = 3)) (hfl : fl = true ↔ 2 ≤ z) (hd : d = 0 ∨ d = 1) :
    ∃ w', f_X4_bestRow 84 1 (I z) (I d) w = some (I (BR st (lV g R fl d) C R), w') ∧ w'.2 = w.2 ∧ Rs w' ∧ ∀ a b, (a < 86 ∨ 92 ≤ a) → w'.1 a b = w.1 a b := by
  have v1 := hv.1; have v2 := hv.2.1
  have hV := lV_b hv (show R ≤ 5 by omega) fl d
  have x3 : (if I z = (1 : Int32) then (1 : Int32) else (if I z = (3 : Int32) then (1 : Int32) else (0 : Int32))) = I (if st = true then 1 else 0) := by
    simp (disch := omega) only [↓j_m1, ↓j_m2, ↓j_m3, ↓j_m5, ↓j_m6, ↓j_m11, ↓j_m12, ↓j_m13, ↓j_m14, ↓j_m1000, j_0, j_1, j_2, j_3, j_4, j_5, j_6, j_7, j_8, j_9, j_10, j_12, j_14, j_20, j_25, j_26, j_28, j_30, j_36, j_48, j_49, j_50, j_53, j_57, j_59, j_60, j_63, j_75, j_80, j_99, j_100, j_196, j_255, j_1000, I_eq, I_ite]
    by_cases e : st = true
    · rw [if_pos e]; have := hst.1 e; (repeat' split) <;> omega
    · rw [if_neg e]; have : ¬ (z = 1 ∨ z = 3) := fun f => e (hst.2 f); (repeat' split) <;> omega
  have x5 : (if I z < (2 : Int32) then (0 : Int32) else (1 : Int32)) = I (if fl = true then 1 else 0) := by
    simp (disch := omega) only [↓j_m1, ↓j_m2, ↓j_m3, ↓j_m5, ↓j_m6, ↓j_m11, ↓j_m12, ↓j_m13, ↓j_m14, ↓j_m1000, j_0, j_1, j_2, j_3, j_4, j_5, j_6, j_7, j_8, j_9, j_10, j_12, j_14, j_20, j_25, j_26, j_28, j_30, j_36, j_48, j_49, j_50, j_53, j_57, j_59, j_60, j_63, j_75, j_80, j_99, j_100, j_196, j_255, j_1000, I_lt, I_ite]
    refine congrArg I ?_
    by_cases e : fl = true
    · rw [if_pos e]; have := hfl.1 e; (repeat' split) <;> omega
    · rw [if_neg e]; have : ¬ (2 ≤ z) := fun f => e (hfl.2 f); (repeat' split) <;> omega
  unfold f_X4_bestRow
  rw [x3, x5, lt_d, lt_d]
  refine wl2_inv (Q := fun r => ∃ w', r = some (I (BR st (lV g R fl d) C R), w') ∧ w'.2 = w.2 ∧ Rs w' ∧ ∀ a b, (a < 86 ∨ 92 ≤ a) → w'.1 a b = w.1 a b) C (fun i x (v : Wd) => x = I ((i : Int) + 1) ∧ v.2 = w.2 ∧ (∀ a b, a ≤ i → b ≤ R → v.1 (86 + a) b = I (BR st (lV g R fl d) a b)) ∧ Rs v ∧ ∀ a b, (a < 86 ∨ 92 ≤ a) → v.1 a b = w.1 a b) (fu_lt (by omega)) ?_ ?_ ?_
  · refine ⟨rfl, rfl, fun a b h1 h2 => ?_, hs, fun _ _ _ => rfl⟩
    obtain rfl : a = 0 := by omega
    exact hs.1 b (by omega)
  · rintro i hi x v ⟨rfl, hv2, hvb, hvs, hf⟩ k
    have ec : v.1 1 0 = I C := by rw [hf _ _ (by omega), hc.1, hC]
    rw [ec, if_neg (show ¬ (I (C : Int) < I ((i : Int) + 1)) by rw [I_lt (by omega) (by omega) (by omega) (by omega)]; omega)]
    left
    refine wl2_inv (Q := fun r => ∃ t0 t1, (t0 = I (((i + 1 : Nat) : Int) + 1) ∧ t1.2 = w.2 ∧ (∀ a b, a ≤ i + 1 → b ≤ R → t1.1 (86 + a) b = I (BR st (lV g R fl d) a b)) ∧ Rs t1 ∧ ∀ a b, (a < 86 ∨ 92 ≤ a) → t1.1 a b = w.1 a b) ∧ r = k t0 t1) R (fun j x (v : Wd) => x = I ((j : Int) + 1) ∧ v.2 = w.2 ∧ (∀ a b, a ≤ i → b ≤ R → v.1 (86 + a) b = I (BR st (lV g R fl d) a b)) ∧ (∀ b, b ≤ j → v.1 (86 + (i + 1)) b = I (BR st (lV g R fl d) (i + 1) b)) ∧ Rs v ∧ ∀ a b, (a < 86 ∨ 92 ≤ a) → v.1 a b = w.1 a b) (fu_lt (by omega)) ?_ ?_ ?_
    · refine ⟨rfl, hv2, hvb, fun b hb => ?_, hvs, hf⟩
      obtain rfl : b = 0 := by omega
      rw [hvs.2 _ (by omega)]
      rfl
    · rintro j hj x u ⟨rfl, hu2, hub, huj, hus, hfu⟩ kk
      have hWu : Wi u.2 := by rw [hu2]; exact hW
      have cu : CG u 1 g := hc.of (fun b => hfu _ _ (by omega)) (fun b => hfu _ _ (by omega))
      have er : u.1 1 1 = I R := by rw [cu.2.1, hR]
      have r85 : u.2 84 0 = some 85 := hWu.2.2.2.2.2.1.1
      have rr := hWu.2.2.2.2.2.1.2
      have hA : u.1 (86 + i) (j + 1) = I (BR st (lV g R fl d) i (j + 1)) := hub i (j + 1) (by omega) (by omega)
      have hB : u.1 (86 + (i + 1)) j = I (BR st (lV g R fl d) (i + 1) j) := huj j (by omega)
      have hD : u.1 (86 + i) j = I (BR st (lV g R fl d) i j) := hub i j (by omega) (by omega)
      have bA := BR_b (st := st) hV i (j + 1)
      have bB := BR_b (st := st) hV (i + 1) j
      have bD := BR_b (st := st) hV i j
      have bV := hV i j
      have hs2 := BR_s st (lV g R fl d) i j
      obtain ⟨ka, la⟩ := kd_best i (by omega)
      obtain ⟨kb, lb⟩ := kd_best (i + 1) (by omega)
      have ly := lyk_b (fl := fl) hj
      have eV : (if I d = 0 then I (g (3 + (5 * i + lyk fl R j))) else (if (1 : Int32) < I (g (3 + (5 * i + lyk fl R j))) then (1 : Int32) else I (g (3 + (5 * i + lyk fl R j))))) = I (lV g R fl d i j) := by
        have h2 := hv.g0 (q := 5 * i + lyk fl R j) (by omega)
        unfold lV
        rw [if_pos (show i < 5 ∧ j < R by omega)]
        simp (disch := omega) only [↓j_m1, ↓j_m2, ↓j_m3, ↓j_m5, ↓j_m6, ↓j_m11, ↓j_m12, ↓j_m13, ↓j_m14, ↓j_m1000, j_0, j_1, j_2, j_3, j_4, j_5, j_6, j_7, j_8, j_9, j_10, j_12, j_14, j_20, j_25, j_26, j_28, j_30, j_36, j_48, j_49, j_50, j_53, j_57, j_59, j_60, j_63, j_75, j_80, j_99, j_100, j_196, j_255, j_1000, I_lt, I_eq, I_ite]
      have ey : (if I (if fl = true then 1 else 0) = 0 then I ((j : Int) + 1) else ((I (R : Int) + (1 : Int32)) - I ((j : Int) + 1))) = I ((lyk fl R j : Int) + 1) := by
        unfold lyk
        cases fl
        · rw [if_neg (show ¬ (false = true) by decide), if_pos z00, if_neg (show ¬ (false = true) by decide)]
        · rw [if_pos (show true = true from rfl), if_neg n10, if_pos (show true = true from rfl), i1, I_add, I_sub]
          exact congrArg I (by omega)
      have en : num g ((i : Int) + 1) ((lyk fl R j : Int) + 1) = g (3 + (5 * i + lyk fl R j)) := by
        unfold num
        rw [if_pos (by omega), show (5 * ((i : Int) + 1 - 1) + ((lyk fl R j : Int) + 1 - 1)).toNat = 5 * i + lyk fl R j by omega]
      left
      refine ⟨I (((j + 1 : Nat) : Int) + 1), upI u (86 + (i + 1)) (j + 1) (I (BR st (lV g R fl d) (i + 1) (j + 1))), ⟨rfl, hu2, fun a b h1 h2 => by rw [upI_n (by omega)]; exact hub a b h1 h2, fun b hb => ?_, ⟨fun y hy => by rw [upI_n (by omega)]; exact hus.1 y hy, fun x hx => by rw [upI_n (by omega)]; exact hus.2 x hx⟩, fun a b h => by rw [upI_n (by omega)]; exact hfu a b h⟩, ?_⟩
      · by_cases e : b = j + 1
        · subst e; rw [upI_s]
        · rw [upI_n (by omega)]; exact huj b (by omega)
      · rw [er, if_neg (show ¬ (I (R : Int) < I ((j : Int) + 1)) by rw [I_lt (by omega) (by omega) (by omega) (by omega)]; omega), ey, lt_d, c1_r (s_numberAt kd_1 (hWu.2.1 _ kd_1) cu hv (by omega) (by omega)), en, eV, lt_d, i1, I_sub, I_sub, show (i : Int) + 1 - 1 = (i : Int) by omega, show (j : Int) + 1 - 1 = (j : Int) by omega]
        have e1 : ∀ {ρ : Type} (K : Nat → Option ρ), rf 139 (u.2 84 0) 13 K = K 85 := fun K => rfc r85 kd_85 (by decide) K
        have e2 : ∀ {ρ : Type} (K : Nat → Option ρ), ix (I (i : Int)) (ln 85) K = K i := fun K => by rw [ln_85, ix_d (by omega) (by omega) (by decide), Int.toNat_natCast]
        have e3 : ∀ {ρ : Type} (K : Nat → Option ρ), ix (I ((i : Int) + 1)) (ln 85) K = K (i + 1) := fun K => by rw [ln_85, ix_d (by omega) (by omega) (by decide), show ((i : Int) + 1).toNat = i + 1 by omega]
        have e4 : ∀ {ρ : Type} (K : Nat → Option ρ), rf 139 (u.2 85 i) 9 K = K (86 + i) := fun K => rf9 (rr i (by omega)) ⟨by omega, ka, la⟩ K
        have e5 : ∀ {ρ : Type} (K : Nat → Option ρ), rf 139 (u.2 85 (i + 1)) 9 K = K (86 + (i + 1)) := fun K => rf9 (rr (i + 1) (by omega)) ⟨by omega, kb, lb⟩ K
        have e6 : ∀ {ρ : Type} (K : Nat → Option ρ), ix (I ((j : Int) + 1)) (ln (86 + i)) K = K (j + 1) := fun K => by rw [la, ix_d (by omega) (by omega) (by decide), show ((j : Int) + 1).toNat = j + 1 by omega]
        have e7 : ∀ {ρ : Type} (K : Nat → Option ρ), ix (I ((j : Int) + 1)) (ln (86 + (i + 1))) K = K (j + 1) := fun K => by rw [lb, ix_d (by omega) (by omega) (by decide), show ((j : Int) + 1).toNat = j + 1 by omega]
        have e8 : ∀ {ρ : Type} (K : Nat → Option ρ), ix (I (j : Int)) (ln (86 + i)) K = K j := fun K => by rw [la, ix_d (by omega) (by omega) (by decide), Int.toNat_natCast]
        have e9 : ∀ {ρ : Type} (K : Nat → Option ρ), ix (I (j : Int)) (ln (86 + (i + 1))) K = K j := fun K => by rw [lb, ix_d (by omega) (by omega) (by decide), Int.toNat_natCast]
        simp only [e1, e2, e3, e4, e5, e6, e7, e8, e9, hA, hB, hD, jn_d, lt_d, I_add, I_mx ⟨bA.1, by omega⟩ ⟨bB.1, by omega⟩]
        have bM := mx_b (BR st (lV g R fl d) i (j + 1)) (BR st (lV g R fl d) (i + 1) j)
        rw [I_mx ⟨by omega, by omega⟩ ⟨by omega, by omega⟩]
        cases st
        · rw [if_neg (by decide)] at hs2
          rw [if_neg (show ¬ (false = true) by decide), if_pos z00, hs2]
          rfl
        · rw [if_pos rfl] at hs2
          rw [if_pos (show true = true from rfl), if_neg n10, hs2]
          rfl
    · rintro x u ⟨rfl, hu2, hub, huj, hus, hfu⟩ kk
      have er : u.1 1 1 = I R := by rw [hfu _ _ (by omega), hc.2.1, hR]
      rw [er, if_pos (show I (R : Int) < I ((R : Int) + 1) by rw [I_lt (by omega) (by omega) (by omega) (by omega)]; omega), lt_d, i1, I_add]
      refine ⟨_, u, ⟨rfl, hu2, fun a b h1 h2 => ?_, hus, hfu⟩, rfl⟩
      by_cases e : a = i + 1
      · subst e; exact huj b h2
      · exact hub a b (by omega) h2
  · rintro x v ⟨rfl, hv2, hvb, hvs, hf⟩ k
    have hWv : Wi v.2 := by rw [hv2]; exact hW
    have ec : v.1 1 0 = I C := by rw [hf _ _ (by omega), hc.1, hC]
    have er : v.1 1 1 = I R := by rw [hf _ _ (by omega), hc.2.1, hR]
    obtain ⟨ka, la⟩ := kd_best C (by omega)
    rw [ec, er, if_pos (show I (C : Int) < I ((C : Int) + 1) by rw [I_lt (by omega) (by omega) (by omega) (by omega)]; omega), rfc hWv.2.2.2.2.2.1.1 kd_85 (by decide), ln_85, ix_d (by omega) (by omega) (by decide), Int.toNat_natCast, rf9 (hWv.2.2.2.2.2.1.2 C (by omega)) ⟨by omega, ka, la⟩, la, ix_d (by omega) (by omega) (by decide), Int.toNat_natCast, hvb C R (by omega) (by omega)]
    exact ⟨v, rfl, hv2, hvs, hf⟩
end
section
/-! back: the shapes and the numbers -/
def bO (q n a b c : Int) : Int := if q = 0 then lo a b - c else if q = 1 then lo a (b - c) else if q = 2 then lo (a - c) b else lo a b - lo (tri n a b) c
def J (q n a b o c : Int) : Prop := (q = 0 → c = n - mx a b) ∧ (q = 1 → c ≤ 1 ∧ c ≤ n - a) ∧ (q = 2 → c ≤ 1 ∧ c ≤ n - b) ∧ (q = 3 → 1 ≤ c → n = a → a = b → o ≤ n - 1)
theorem lo_c (a b : Int) : (a < b ∧ lo a b = a) ∨ (b ≤ a ∧ lo a b = b) := by
  unfold lo
  (repeat' split) <;> omega
theorem mx_c (a b : Int) : (a < b ∧ mx a b = b) ∨ (b ≤ a ∧ mx a b = a) := by
  unfold mx
  (repeat' split) <;> omega
theorem bk_step {q n a b c n' a' b' o' : Int} (hq : 0 ≤ q ∧ q ≤ 3) (hn : 1 ≤ n) (ha : 0 ≤ a ∧ a ≤ n) (hb : 0 ≤ b ∧ b ≤ n) (hn' : n' ≤ n) (ha' : 0 ≤ a' ∧ a' ≤ a ∧ a' ≤ n') (hb' : 0 ≤ b' ∧ b' ≤ b ∧ b' ≤ n') (h1 : eC q = 0 → n' ≤ a) (h2 : eC q = 1 → n ≤ a + 1) (h3 : eR q = 0 → n' ≤ b) (h4 : eR q = 1 → n ≤ b + 1) (hc : 0 ≤ c) (hJ : J q n' a' b' o' c) (ho : 0 ≤ o' ∧ o' ≤ a' ∧ o' ≤ b') :
    (0 ≤ bO q n a b c ∧ bO q n a b c ≤ a ∧ bO q n a b c ≤ b) ∧ (eC q = 0 → b' ≤ bO q n a b c) ∧ (eC q = 1 → b ≤ bO q n a b c + 1) ∧ (eR q = 0 → a' ≤ bO q n a b c) ∧ (eR q = 1 → a ≤ bO q n a b c + 1) ∧ o' ≤ bO q n a b c ∧ 0 ≤ c + (n + bO q n a b c - a - b) ∧ J q n a b (bO q n a b c) (c + (n + bO q n a b c - a - b)) ∧ (c + (n + bO q n a b c - a - b) ≤ n ∨ c + (n + bO q n a b c - a - b) ≤ c + 1) := by
  obtain ⟨j0, j1, j2, j3⟩ := hJ
  have hz : q = 0 ∨ q = 1 ∨ q = 2 ∨ q = 3 := by omega
  obtain rfl | rfl | rfl | rfl := hz
  · have e1 : eC 0 = 0 := rfl
    have e2 : eR 0 = 0 := rfl
    have k := j0 rfl
    have eb : bO 0 n a b c = lo a b - c := rfl
    have l1 := lo_c a b
    have l2 := mx_c a b
    have l3 := mx_c a' b'
    generalize bO 0 n a b c = o at *
    unfold J
    refine ⟨by omega, by omega, by omega, by omega, by omega, by omega, by omega, ⟨fun _ => by omega, fun h => by omega, fun h => by omega, fun h => by omega⟩, by omega⟩
  · have e1 : eC 1 = 1 := rfl
    have e2 : eR 1 = 0 := rfl
    have k := j1 rfl
    have eb : bO 1 n a b c = lo a (b - c) := rfl
    have l1 := lo_c a (b - c)
    generalize bO 1 n a b c = o at *
    unfold J
    refine ⟨by omega, by omega, by omega, by omega, by omega, by omega, by omega, ⟨fun h => by omega, fun _ => by omega, fun h => by omega, fun h => by omega⟩, by omega⟩
  · have e1 : eC 2 = 0 := rfl
    have e2 : eR 2 = 1 := rfl
    have k := j2 rfl
    have eb : bO 2 n a b c = lo (a - c) b := rfl
    have l1 := lo_c (a - c) b
    generalize bO 2 n a b c = o at *
    unfold J
    refine ⟨by omega, by omega, by omega, by omega, by omega, by omega, by omega, ⟨fun h => by omega, fun h => by omega, fun _ => by omega, fun h => by omega⟩, by omega⟩
  · have e1 : eC 3 = 1 := rfl
    have e2 : eR 3 = 1 := rfl
    have k := j3 rfl
    have eb : bO 3 n a b c = lo a b - lo (tri n a b) c := rfl
    have et : (n = a ∧ a = b ∧ tri n a b = 1) ∨ (¬ (n = a ∧ a = b) ∧ tri n a b = 0) := by
      unfold tri
      (repeat' split) <;> omega
    have l1 := lo_c a b
    have l2 := lo_c (tri n a b) c
    generalize lo (tri n a b) c = u at *
    generalize tri n a b = t at *
    generalize bO 3 n a b c = o at *
    generalize lo a b = v at *
    unfold J
    have oo : o' ≤ o := by
      by_cases f : n' = a' ∧ a' = b' ∧ 1 ≤ c
      · have := k f.2.2 f.1 f.2.1
        omega
      · omega
    refine ⟨by omega, by omega, by omega, by omega, by omega, oo, by omega, ⟨fun h => by omega, fun h => by omega, fun h => by omega, fun _ => by omega⟩, by omega⟩
/-- the carry when d parts are done, from the last one on -/
def bc (q : Int) (n a b : Nat → Int) (L : Nat) : Nat → Int
  | 0 => 0
  | d + 1 => bc q n a b L d + (n (L - 1 - d) + bO q (n (L - 1 - d)) (a (L - 1 - d)) (b (L - 1 - d)) (bc q n a b L d) - a (L - 1 - d) - b (L - 1 - d))
def bo (q : Int) (n a b : Nat → Int) (i : Nat) : Int := if i < len n then bO q (n i) (a i) (b i) (bc q n a b (len n) (len n - 1 - i)) else 0
def bm (q : Int) (n a b : Nat → Int) : Int := bc q n a b (len n) (len n)
theorem bo_z {q : Int} {n a b : Nat → Int} {i : Nat} (h : len n ≤ i) : bo q n a b i = 0 := if_neg (by omega)
theorem bo_d {q : Int} {n a b : Nat → Int} {d : Nat} (h : d < len n) : bo q n a b (len n - 1 - d) = bO q (n (len n - 1 - d)) (a (len n - 1 - d)) (b (len n - 1 - d)) (bc q n a b (len n) d) := by
  unfold bo
  rw [if_pos (by omega), show len n - 1 - (len n - 1 - d) = d by omega]
theorem bc_s (q : Int) (n a b : Nat → Int) (d : Nat) (h : d < len n) : bc q n a b (len n) (d + 1) = bc q n a b (len n) d + (n (len n - 1 - d) + bo q n a b (len n - 1 - d) - a (len n - 1 - d) - b (len n - 1 - d)) := by
  rw [bo_d h]
  rfl
def BF (q : Int) (n a b : Nat → Int) (i : Nat) : Prop := (0 ≤ bo q n a b i ∧ bo q n a b i ≤ a i ∧ bo q n a b i ≤ b i) ∧ (eC q = 0 → b (i + 1) ≤ bo q n a b i) ∧ (eC q = 1 → b i ≤ bo q n a b i + 1) ∧ (eR q = 0 → a (i + 1) ≤ bo q n a b i) ∧ (eR q = 1 → a i ≤ bo q n a b i + 1) ∧ bo q n a b (i + 1) ≤ bo q n a b i
theorem bk_all {q Wn Wa Wb : Int} {n a b : Nat → Int} (hq : 0 ≤ q ∧ q ≤ 3) (hn : Gs n Wn) (hW : Wn ≤ 75) (ha : Gs a Wa) (hb : Gs b Wb) (sa : Sp (eC q) a n) (sb : Sp (eR q) b n) : ∀ d, d ≤ len n → (∀ i, len n - d ≤ i → BF q n a b i) ∧ (0 ≤ bc q n a b (len n) d ∧ bc q n a b (len n) d ≤ 75 + d) ∧ J q (n (len n - d)) (a (len n - d)) (b (len n - d)) (bo q n a b (len n - d)) (bc q n a b (len n) d) := by
  have az : ∀ i, len n ≤ i → a i = 0 := fun i h => by have := sa.1 i; have := ha.1 i; have := len_z hn h; omega
  have bz : ∀ i, len n ≤ i → b i = 0 := fun i h => by have := sb.1 i; have := hb.1 i; have := len_z hn h; omega
  intro d
  induction d with
  | zero =>
    intro _
    refine ⟨fun i hi => ?_, ⟨Int.le_refl _, by show (0 : Int) ≤ _; omega⟩, ?_⟩
    · unfold BF
      rw [bo_z (q := q) (a := a) (b := b) (show len n ≤ i by omega), bo_z (q := q) (a := a) (b := b) (show len n ≤ i + 1 by omega), az i (by omega), bz i (by omega), az (i + 1) (by omega), bz (i + 1) (by omega)]
      omega
    · show J q (n (len n)) (a (len n)) (b (len n)) _ 0
      rw [len_z hn (Nat.le_refl _), az _ (Nat.le_refl _), bz _ (Nat.le_refl _)]
      unfold J mx
      omega
  | succ d ih =>
    intro hd
    obtain ⟨i1, i2, i3⟩ := ih (by omega)
    have e1 : len n - d = (len n - 1 - d) + 1 := by omega
    have e2 : len n - (d + 1) = len n - 1 - d := by omega
    have f1 := i1 (len n - d) (Nat.le_refl _)
    rw [e1] at i3 f1
    rw [e2]
    have hs := bc_s q n a b d (by omega)
    have ho := bo_d (q := q) (a := a) (b := b) (show d < len n by omega)
    have np := (len_p hn (len n - 1 - d)).1 (by omega)
    generalize len n - 1 - d = i at *
    have st := bk_step hq (by omega) ⟨ha.1 i, sa.1 i⟩ ⟨hb.1 i, sb.1 i⟩ (hn.2.1 i) ⟨ha.1 (i + 1), ha.2.1 i, sa.1 (i + 1)⟩ ⟨hb.1 (i + 1), hb.2.1 i, sb.1 (i + 1)⟩ (fun h => sa.2.1 h i) (fun h => sa.2.2 h i) (fun h => sb.2.1 h i) (fun h => sb.2.2 h i) i2.1 i3 f1.1
    rw [← ho, ← hs] at st
    obtain ⟨t1, t2, t3, t4, t5, t6, t7, t8, t9⟩ := st
    have nb := hn.b i
    refine ⟨fun k hk => ?_, ⟨t7, by omega⟩, t8⟩
    by_cases e : k = i
    · subst e
      exact ⟨t1, t2, t3, t4, t5, t6⟩
    · exact i1 k (by omega)
theorem bk_ok {q Wn Wa Wb : Int} {n a b : Nat → Int} (hq : 0 ≤ q ∧ q ≤ 3) (hn : Gs n Wn) (hW : Wn ≤ 75) (ha : Gs a Wa) (hb : Gs b Wb) (sa : Sp (eC q) a n) (sb : Sp (eR q) b n) :
    Gs (bo q n a b) (tsum (bo q n a b) 75) ∧ (0 ≤ tsum (bo q n a b) 75 ∧ tsum (bo q n a b) 75 ≤ Wa) ∧ Sp (eC q) (bo q n a b) b ∧ Sp (eR q) (bo q n a b) a ∧ (0 ≤ bm q n a b ∧ bm q n a b ≤ 150) ∧ len (bo q n a b) ≤ len n := by
  obtain ⟨i1, i2, i3⟩ := bk_all hq hn hW ha hb sa sb (len n) (Nat.le_refl _)
  have f : ∀ i, BF q n a b i := fun i => i1 i (by omega)
  have hl := len_b n
  have g : Gs (bo q n a b) (tsum (bo q n a b) 75) := ⟨fun k => (f k).1.1, fun k => (f k).2.2.2.2.2, bo_z (by omega), rfl⟩
  have ts : ∀ k, tsum (bo q n a b) k ≤ tsum a k := fun k => by
    induction k with
    | zero => exact Int.le_refl _
    | succ k ih =>
      have := (f k).1.2.1
      show tsum (bo q n a b) k + bo q n a b k ≤ tsum a k + a k
      omega
  refine ⟨g, ⟨(g.tb 75).1, by have := ts 75; rw [ha.2.2.2] at this; exact this⟩, ⟨fun k => (f k).1.2.2, fun h k => (f k).2.1 h, fun h k => (f k).2.2.1 h⟩, ⟨fun k => (f k).1.2.1, fun h k => (f k).2.2.2.1 h, fun h k => (f k).2.2.2.2.1 h⟩, ⟨i2.1, by have := i2.2; show bc q n a b (len n) (len n) ≤ 150; omega⟩, ?_⟩
  by_cases c : len (bo q n a b) ≤ len n
  · exact c
  · have := (len_p g (len n)).1 (by omega)
    rw [bo_z (Nat.le_refl _)] at this
    omega
def bkrow (q : Int) (prev : Nat → Nat → Int) (h0 : Nat → Int) : Nat → Nat → Int
  | 0 => h0
  | j + 1 => bo q (prev j) (bkrow q prev h0 j) (prev (j + 1))
/-- the shape of (C - i, R - j), found back -/
def BK (q : Int) (g : Gd) (C R : Nat) : Nat → Nat → Nat → Int
  | 0 => fun j => Sg g C (R - j)
  | i + 1 => bkrow q (BK q g C R i) (Sg g (C - (i + 1)) R)
def BM (q : Int) (g : Gd) (C R i j : Nat) : Int := bm q (BK q g C R i j) (BK q g C R (i + 1) j) (BK q g C R i (j + 1))
theorem BK_s (q : Int) (g : Gd) (C R i j : Nat) : BK q g C R (i + 1) (j + 1) = bo q (BK q g C R i j) (BK q g C R (i + 1) j) (BK q g C R i (j + 1)) := rfl
theorem BK_ok {q : Int} {g : Gd} {C R : Nat} (hq : 0 ≤ q ∧ q ≤ 3) (hv : GV g) (hC : g 0 = C) (hR : g 1 = R) (hf : RimF g C R q) : ∀ i, i ≤ C → (∀ j, j ≤ R → Gs (BK q g C R i j) (tsum (BK q g C R i j) 75) ∧ 0 ≤ tsum (BK q g C R i j) 75 ∧ tsum (BK q g C R i j) 75 ≤ 75) ∧ (∀ j, j < R → Sp (eR q) (BK q g C R i (j + 1)) (BK q g C R i j)) ∧ (0 < i → ∀ j, j ≤ R → Sp (eC q) (BK q g C R i j) (BK q g C R (i - 1) j)) := by
  have v1 := hv.1; have v2 := hv.2.1
  have sgo : ∀ x y : Nat, x ≤ 5 → y ≤ 5 → Gs (Sg g x y) (tsum (Sg g x y) 75) ∧ 0 ≤ tsum (Sg g x y) 75 ∧ tsum (Sg g x y) 75 ≤ 75 := fun x y hx hy => by
    have h1 := (Sg_ok hv hx hy).1
    have h2 := Wg_b hv hx hy
    rw [h1.2.2.2]
    exact ⟨h1, h2⟩
  intro i
  induction i with
  | zero =>
    intro _
    refine ⟨fun j hj => sgo C (R - j) (by omega) (by omega), fun j hj => ?_, fun h => absurd h (by omega)⟩
    have := hf.2 (R - (j + 1)) (by omega)
    rw [show R - (j + 1) + 1 = R - j by omega] at this
    exact this
  | succ i ih =>
    intro hi
    obtain ⟨i1, i2, -⟩ := ih (by omega)
    have key : ∀ j, j ≤ R → (Gs (BK q g C R (i + 1) j) (tsum (BK q g C R (i + 1) j) 75) ∧ 0 ≤ tsum (BK q g C R (i + 1) j) 75 ∧ tsum (BK q g C R (i + 1) j) 75 ≤ 75) ∧ Sp (eC q) (BK q g C R (i + 1) j) (BK q g C R i j) ∧ (0 < j → Sp (eR q) (BK q g C R (i + 1) j) (BK q g C R (i + 1) (j - 1))) := by
      intro j
      induction j with
      | zero =>
        intro _
        refine ⟨sgo (C - (i + 1)) R (by omega) (by omega), ?_, fun h => absurd h (by omega)⟩
        show Sp (eC q) (Sg g (C - (i + 1)) R) (BK q g C R i 0)
        have h1 := hf.1 (C - (i + 1)) (by omega)
        rw [show C - (i + 1) + 1 = C - i by omega] at h1
        cases i with
        | zero => exact h1
        | succ i => exact h1
      | succ j ihj =>
        intro hj
        obtain ⟨k1, k2, k3⟩ := ihj (by omega)
        obtain ⟨b1, b2, b3, b4, -, -⟩ := bk_ok hq (i1 j (by omega)).1 (i1 j (by omega)).2.2 k1.1 (i1 (j + 1) hj).1 k2 (i2 j (by omega))
        rw [BK_s]
        exact ⟨⟨b1, b2.1, Int.le_trans b2.2 k1.2.2⟩, b3, fun _ => b4⟩
    exact ⟨fun j hj => (key j hj).1, fun j hj => (key (j + 1) hj).2.2 (by omega), fun _ j hj => (key j hj).2.1⟩
theorem BM_b {q : Int} {g : Gd} {C R i j : Nat} (hq : 0 ≤ q ∧ q ≤ 3) (hv : GV g) (hC : g 0 = C) (hR : g 1 = R) (hf : RimF g C R q) (hi : i < C) (hj : j < R) : 0 ≤ BM q g C R i j ∧ BM q g C R i j ≤ 150 := by
  obtain ⟨i1, i2, -⟩ := BK_ok hq hv hC hR hf i (by omega)
  obtain ⟨k1, k2, k3⟩ := BK_ok hq hv hC hR hf (i + 1) (by omega)
  exact (bk_ok hq (i1 j (by omega)).1 (i1 j (by omega)).2.2 (k1 j (by omega)).1 (i1 (j + 1) hj).1 (k3 (by omega) j (by omega)) (i2 j hj)).2.2.2.2.1
end
section
/-! back, by cells of corners -/
theorem s_formerPart {q n a b c : Int} (hq : 0 ≤ q ∧ q ≤ 3) (hn : 0 ≤ n ∧ n < 1000) (ha : 0 ≤ a ∧ a < 1000) (hb : 0 ≤ b ∧ b < 1000) (hc : 0 ≤ c ∧ c < 1000) : f_X5_formerPart (I q) (I n) (I a) (I b) (I c) = some (I (bO q n a b c)) := by
  have hz : q = 0 ∨ q = 1 ∨ q = 2 ∨ q = 3 := by omega
  have ls : ∀ x y : Int, -1000 ≤ x ∧ x < 1000 → -1000 ≤ y ∧ y < 1000 → (if I y < I x then I y else I x) = I (lo x y) := fun x y hx hy => by
    have l := lo_c x y
    by_cases c : y < x
    · rw [if_pos (show I y < I x by rw [I_lt (by omega) (by omega) (by omega) (by omega)]; exact c)]
      exact congrArg I (by omega)
    · rw [if_neg (show ¬ I y < I x by rw [I_lt (by omega) (by omega) (by omega) (by omega)]; exact c)]
      exact congrArg I (by omega)
  unfold f_X5_formerPart
  rw [I_toInt (by omega) (by omega)]
  obtain rfl | rfl | rfl | rfl := hz
  · rw [if_pos rfl, show bO 0 n a b c = lo a b - c from rfl, ls a b (by omega) (by omega), lt_d, I_sub]
  · rw [if_neg (by decide), if_pos rfl, show bO 1 n a b c = lo a (b - c) from rfl, I_sub, ls a (b - c) (by omega) (by omega), lt_d]
  · rw [if_neg (by decide), if_neg (by decide), if_pos rfl, show bO 2 n a b c = lo (a - c) b from rfl, I_sub, ls (a - c) b (by omega) (by omega), lt_d]
  · have et : (if I n = I a then (if I a = I b then (1 : Int32) else (0 : Int32)) else (0 : Int32)) = I (tri n a b) := by
      unfold tri
      simp (disch := omega) only [↓j_m1, ↓j_m2, ↓j_m3, ↓j_m5, ↓j_m6, ↓j_m11, ↓j_m12, ↓j_m13, ↓j_m14, ↓j_m1000, j_0, j_1, j_2, j_3, j_4, j_5, j_6, j_7, j_8, j_9, j_10, j_12, j_14, j_20, j_25, j_26, j_28, j_30, j_36, j_48, j_49, j_50, j_53, j_57, j_59, j_60, j_63, j_75, j_80, j_99, j_100, j_196, j_255, j_1000, I_eq, I_ite]
    have t01 : 0 ≤ tri n a b ∧ tri n a b ≤ 1 := by
      unfold tri
      (repeat' split) <;> omega
    have lt1 : (if I (tri n a b) < I c then I (tri n a b) else I c) = I (lo (tri n a b) c) := by
      have l := lo_c (tri n a b) c
      by_cases d : tri n a b < c
      · rw [if_pos (show I (tri n a b) < I c by rw [I_lt (by omega) (by omega) (by omega) (by omega)]; exact d)]
        exact congrArg I (by omega)
      · rw [if_neg (show ¬ I (tri n a b) < I c by rw [I_lt (by omega) (by omega) (by omega) (by omega)]; exact d)]
        exact congrArg I (by omega)
    rw [if_neg (by decide), if_neg (by decide), if_neg (by decide), show bO 3 n a b c = lo a b - lo (tri n a b) c from rfl, ls a b (by omega) (by omega), lt_d, et, lt_d, lt1, lt_d, I_sub]
theorem s_goBackFrom {w : Wd} {t n a b : Nat} {q : Int} {sn sa sb : Nat → Int} {Wn Wa Wb : Int} (hW : Wi w.2) (hq : 0 ≤ q ∧ q ≤ 3) (kt : kd t = 5) (kn : kd n = 5) (ka : kd a = 5) (kb : kd b = 5) (nn : n ≠ t) (na : a ≠ t) (nb : b ≠ t) (Cn : ShC w n sn) (Ca : ShC w a sa) (Cb : ShC w b sb) (hn : Gs sn Wn) (hWn : Wn ≤ 75) (ha : Gs sa Wa) (hb : Gs sb Wb) (Sa : Sp (eC q) sa sn) (Sb : Sp (eR q) sb sn) :
    ∃ w', f_X5_goBackFrom t n a b (I q) w = some (I (bm q sn sa sb), w') ∧ w'.2 = w.2 ∧ ShC w' t (bo q sn sa sb) ∧ ∀ x y, ¬ (x = t ∧ (y = 1 ∨ y = 2)) → x ≠ t + 1 → w'.1 x y = w.1 x y := by
  obtain ⟨gO, gW, -, -, gm, gl⟩ := bk_ok hq hn hWn ha hb Sa Sb
  have all := bk_all hq hn hWn ha hb Sa Sb
  have hl := len_b sn
  have rt := hW.2.2.1 _ kt
  have kt1 := (kdS kt).2.1
  have kn1 := (kdS kn).2.1
  have ka1 := (kdS ka).2.1
  have kb1 := (kdS kb).2.1
  have d1 : n ≠ t + 1 := fun e => by rw [e, kt1] at kn; cases kn
  have d2 : a ≠ t + 1 := fun e => by rw [e, kt1] at ka; cases ka
  have d3 : b ≠ t + 1 := fun e => by rw [e, kt1] at kb; cases kb
  have e1 : n + 1 ≠ t := fun e => by rw [e, kt] at kn1; cases kn1
  have e2 : a + 1 ≠ t := fun e => by rw [e, kt] at ka1; cases ka1
  have e3 : b + 1 ≠ t := fun e => by rw [e, kt] at kb1; cases kb1
  have oz := fun k => (bo_z (q := q) (n := sn) (a := sa) (b := sb) (i := k))
  have tl := tsum_len gO
  generalize hO : bo q sn sa sb = o at *
  unfold f_X5_goBackFrom
  rw [Cn.1, lt_d, lt_d, upI_n (show ¬ (n = t ∧ 1 = 2) by omega), upI_n (show ¬ (n = t ∧ 1 = 1) by omega), Cn.1, lt_d, show I (len sn : Int) - (1 : Int32) = I ((len sn : Int) - 1) from I_sub _ 1]
  refine wl3_inv (Q := fun r => ∃ w' : Wd, r = some (I (bm q sn sa sb), w') ∧ w'.2 = w.2 ∧ ShC w' t o ∧ ∀ x y, ¬ (x = t ∧ (y = 1 ∨ y = 2)) → x ≠ t + 1 → w'.1 x y = w.1 x y) (len sn) (fun d x y (v : Wd) => x = I (bc q sn sa sb (len sn) d) ∧ y = I ((len sn : Int) - 1 - d) ∧ v.2 = w.2 ∧ v.1 t 1 = I ((if len o ≤ len sn - d then len sn - d else len o : Nat) : Int) ∧ v.1 t 2 = I (tsum o (len sn) - tsum o (len sn - d)) ∧ (∀ k, len sn - d ≤ k → k < len sn → v.1 (t + 1) k = I (o k)) ∧ ∀ x y, ¬ (x = t ∧ (y = 1 ∨ y = 2)) → x ≠ t + 1 → v.1 x y = w.1 x y) (fu_lt (by omega)) ?_ ?_ ?_
  · refine ⟨rfl, congrArg I (by omega), rfl, ?_, ?_, fun k h1 h2 => absurd h2 (by omega), fun x y h1 h2 => by rw [upI_n (by omega), upI_n (by omega)]⟩
    · rw [upI_n (by omega), upI_s, Nat.sub_zero, if_pos gl]
    · rw [upI_s, Nat.sub_zero, Int.sub_self]
      rfl
  · rintro d hd x y v ⟨rfl, rfl, hv2, hv3, hv4, hv5, hf⟩ k
    obtain ⟨A1, A2, A3⟩ := all d (by omega)
    obtain ⟨B1, B2, B3⟩ := all (d + 1) (by omega)
    have hWv : Wi v.2 := by rw [hv2]; exact hW
    have cn : ShC v n sn := Cn.of (fun b _ => hf _ _ (by omega) (by omega)) (fun b => hf _ _ (by omega) (by omega))
    have ca : ShC v a sa := Ca.of (fun b _ => hf _ _ (by omega) (by omega)) (fun b => hf _ _ (by omega) (by omega))
    have cb : ShC v b sb := Cb.of (fun b _ => hf _ _ (by omega) (by omega)) (fun b => hf _ _ (by omega) (by omega))
    have hbs := bc_s q sn sa sb d hd
    have hbd := bo_d (q := q) (a := sa) (b := sb) hd
    rw [hO] at hbs hbd
    have ei : (len sn : Int) - 1 - d = ((len sn - 1 - d : Nat) : Int) := by omega
    have et : tsum o (len sn - d) = tsum o (len sn - 1 - d) + o (len sn - 1 - d) := by
      rw [show len sn - d = (len sn - 1 - d) + 1 by omega]
      rfl
    have ed : len sn - (d + 1) = len sn - 1 - d := by omega
    have olen := len_p gO (len sn - 1 - d)
    rw [ed] at B1
    have bf := B1 (len sn - 1 - d) (Nat.le_refl _)
    unfold BF at bf
    rw [hO] at bf
    have nb := hn.b (len sn - 1 - d); have n0 := hn.1 (len sn - 1 - d); have a0 := ha.1 (len sn - 1 - d); have b0 := hb.1 (len sn - 1 - d); have a1 := Sa.1 (len sn - 1 - d); have b1 := Sb.1 (len sn - 1 - d)
    rw [ei]
    generalize hii : len sn - 1 - d = i at *
    rw [if_neg (show ¬ (I (i : Int) < 0) by rw [i0, I_lt (by omega) (by omega) (by omega) (by omega)]; omega), c1_r (s_partAt kn (hWv.2.2.1 _ kn) cn hn (by omega)), c1_r (s_partAt ka (hWv.2.2.1 _ ka) ca ha (by omega)), c1_r (s_partAt kb (hWv.2.2.1 _ kb) cb hb (by omega)), c1_r (s_formerPart hq (by omega) (by omega) (by omega) (by omega)), ← hbd, rf9 (hWv.2.2.1 _ kt) (kdS kt), (kdS kt).2.2, ix_d (by omega) (by omega) (by decide), lt_d, Int.toNat_natCast, upI_n (show ¬ (t = t + 1 ∧ 2 = i) by omega), hv4, I_add, lt_d, jn_d]
    have e4 : tsum o (len sn) - tsum o (len sn - d) + o i = tsum o (len sn) - tsum o i := by omega
    rw [e4]
    left
    have ey : (I (i : Int) + (-1 : Int32)) = I ((len sn : Int) - 1 - ((d + 1 : Nat) : Int)) := by rw [im1, I_add]; exact congrArg I (by omega)
    have ex : I (bc q sn sa sb (len sn) d) + (((I (sn i) + I (o i)) - I (sa i)) - I (sb i)) = I (bc q sn sa sb (len sn) (d + 1)) := by rw [I_add, I_sub, I_sub, I_add, hbs]
    have fr : ∀ u : Wd, (∀ x y, ¬ (x = t ∧ y = 1) → u.1 x y = (upI (upI v (t + 1) i (I (o i))) t 2 (I (tsum o (len sn) - tsum o i))).1 x y) → u.2 = v.2 → u.1 t 1 = I ((if len o ≤ i then i else len o : Nat) : Int) → ∃ t0 t1 t2, (t0 = I (bc q sn sa sb (len sn) (d + 1)) ∧ t1 = I ((len sn : Int) - 1 - ((d + 1 : Nat) : Int)) ∧ t2.2 = w.2 ∧ t2.1 t 1 = I ((if len o ≤ len sn - (d + 1) then len sn - (d + 1) else len o : Nat) : Int) ∧ t2.1 t 2 = I (tsum o (len sn) - tsum o (len sn - (d + 1))) ∧ (∀ k, len sn - (d + 1) ≤ k → k < len sn → t2.1 (t + 1) k = I (o k)) ∧ ∀ x y, ¬ (x = t ∧ (y = 1 ∨ y = 2)) → x ≠ t + 1 → t2.1 x y = w.1 x y) ∧ lt (I (bc q sn sa sb (len sn) d) + (((I (sn i) + I (o i)) - I (sa i)) - I (sb i))) (fun x27 => lt (I (i : Int) + (-1 : Int32)) (fun x29 => k x27 x29 u)) = k t0 t1 t2 := fun u hu hu2 hu1 => by
      refine ⟨_, _, u, ⟨rfl, rfl, by rw [hu2, hv2], ?_, ?_, fun kk h1 h2 => ?_, fun x y h1 h2 => ?_⟩, by rw [lt_d, lt_d, ex, ey]⟩
      · rw [ed]; exact hu1
      · rw [ed, hu _ _ (by omega), upI_s]
      · rw [hu _ _ (by omega), upI_n (by omega)]
        by_cases e : kk = i
        · subst e; rw [upI_s]
        · rw [upI_n (by omega)]; exact hv5 kk (by omega) h2
      · rw [hu _ _ (by omega), upI_n (by omega), upI_n (by omega)]; exact hf x y h1 h2
    have q1 : (upI (upI v (t + 1) i (I (o i))) t 2 (I (tsum o (len sn) - tsum o i))).1 t 1 = I ((if len o ≤ len sn - d then len sn - d else len o : Nat) : Int) := by rw [upI_n (by omega), upI_n (by omega), hv3]
    rw [q1]
    by_cases z : o i = 0
    · have lo' : len o ≤ i := by omega
      rw [if_pos (show I (o i) = 0 by rw [z]; rfl), if_pos (show len o ≤ len sn - d by omega), if_pos (show I ((len sn - d : Nat) : Int) = I (i : Int) + (1 : Int32) by rw [i1, I_add]; exact congrArg I (by omega)), lt_d]
      exact fr (upI (upI (upI v (t + 1) i (I (o i))) t 2 (I (tsum o (len sn) - tsum o i))) t 1 (I (i : Int))) (fun x y h => upI_n h) rfl (by rw [upI_s, if_pos lo'])
    · have lo' : ¬ len o ≤ i := by omega
      rw [if_neg (show ¬ I (o i) = 0 by rw [i0, I_eq (by omega) (by omega) (by omega) (by omega)]; exact z)]
      refine fr _ (fun x y _ => rfl) rfl ?_
      rw [q1, if_neg lo']
      congr 2
      split <;> omega
  · rintro x y v ⟨rfl, rfl, hv2, hv3, hv4, hv5, hf⟩ k
    rw [if_pos (show I ((len sn : Int) - 1 - (len sn : Int)) < 0 by rw [i0, I_lt (by omega) (by omega) (by omega) (by omega)]; omega)]
    rw [Nat.sub_self] at hv3 hv4 hv5
    refine ⟨v, rfl, hv2, ⟨?_, ?_, fun k hk => hv5 k (by omega) (by omega)⟩, hf⟩
    · rw [hv3]
      congr 2
      split <;> omega
    · have key : ∀ d, tsum o (len sn + d) = tsum o (len sn) := fun d => by
        induction d with
        | zero => rfl
        | succ d ih =>
          show tsum o (len sn + d) + o (len sn + d) = _
          rw [ih, oz _ (by omega)]
          omega
      have k75 := key (75 - len sn)
      rw [show len sn + (75 - len sn) = 75 by omega] at k75
      rw [hv4, k75]
      exact congrArg I (by show tsum o (len sn) - 0 = _; omega)
end
section
/-! back, over all cells -/
theorem s_setN {w : Wd} {t C R : Nat} {x y : Int} (v : Int32) (hk : kd t = 0) (hr : w.2 t 3 = some (t + 1)) (h0 : w.1 t 0 = I C) (h1 : w.1 t 1 = I R) (hC : C ≤ 5) (hR : R ≤ 5) (hx : 1 ≤ x ∧ x ≤ (C : Int)) (hy : 1 ≤ y ∧ y ≤ (R : Int)) :
    f_X0_setNumber t (I x) (I y) v w = some (upI w (t + 1) (5 * (x - 1) + (y - 1)).toNat v) := by
  have hh : f_X0_hasCell t (I x) (I y) w = some (I 1) := by
    unfold f_X0_hasCell
    rw [h0, h1]
    simp (disch := omega) only [lt_d, i0, i1, i2, i3, i4, i5, i6, i7, i8, i9, i10, i12, i14, i20, i25, i26, i28, i30, i36, i48, i49, i50, i53, i57, i59, i60, i63, i75, i80, i99, i100, i196, i255, i1000, im1, im2, im3, im5, im6, im11, im12, im13, im14, im1000, I_lt, I_le, I_eq]
    rw [if_neg (by omega), if_neg (by omega), if_neg (by omega), if_neg (by omega), zb_1]
  unfold f_X0_setNumber f_X0_placeOf
  rw [c1_r hh, if_neg (by decide), nums hk hr, c1_d]
  simp only [i0, i1, i2, i3, i4, i5, i6, i7, i8, i9, i10, i12, i14, i20, i25, i26, i28, i30, i36, i48, i49, i50, i53, i57, i59, i60, i63, i75, i80, i99, i100, i196, i255, i1000, im1, im2, im3, im5, im6, im11, im12, im13, im14, im1000, I_add, I_sub, I_mul, I_nat]
  rw [(kdC hk).2.2, ix_d (by omega) (by omega) (by decide), lt_d]
  congr 3
  omega
/-- the number that place p has when the cells up to (i, j) are found -/
def SN (q : Int) (g : Gd) (C R : Nat) (ini : Nat → Int) (i j p : Nat) : Int := if (p / 5 < C ∧ p % 5 < R) ∧ (C - 1 - p / 5 < i ∨ (C - 1 - p / 5 = i ∧ R - 1 - p % 5 < j)) then BM q g C R (C - 1 - p / 5) (R - 1 - p % 5) else ini p
theorem SN_s {q : Int} {g : Gd} {C R i j : Nat} {ini : Nat → Int} (hi : i < C) (hj : j < R) (hC : C ≤ 5) (hR : R ≤ 5) : SN q g C R ini i (j + 1) (5 * (C - 1 - i) + (R - 1 - j)) = BM q g C R i j := by
  unfold SN
  rw [if_pos (by omega), show C - 1 - (5 * (C - 1 - i) + (R - 1 - j)) / 5 = i by omega, show R - 1 - (5 * (C - 1 - i) + (R - 1 - j)) % 5 = j by omega]
theorem SN_n {q : Int} {g : Gd} {C R i j p : Nat} {ini : Nat → Int} (hi : i < C) (hj : j < R) (hC : C ≤ 5) (hR : R ≤ 5) (hp : p < 25) (h : p ≠ 5 * (C - 1 - i) + (R - 1 - j)) : SN q g C R ini i (j + 1) p = SN q g C R ini i j p := by
  unfold SN
  by_cases c : (p / 5 < C ∧ p % 5 < R) ∧ (C - 1 - p / 5 < i ∨ (C - 1 - p / 5 = i ∧ R - 1 - p % 5 < j))
  · rw [if_pos c, if_pos (by omega)]
  · rw [if_neg c, if_neg (by omega)]
theorem SN_e {q : Int} {g : Gd} {C R i p : Nat} {ini : Nat → Int} (hR : R ≤ 5) : SN q g C R ini i R p = SN q g C R ini (i + 1) 0 p := by
  unfold SN
  by_cases c : (p / 5 < C ∧ p % 5 < R) ∧ (C - 1 - p / 5 < i ∨ (C - 1 - p / 5 = i ∧ R - 1 - p % 5 < R))
  · rw [if_pos c, if_pos (by omega)]
  · rw [if_neg c, if_neg (by omega)]
theorem SN_0 {q : Int} {g : Gd} {C R p : Nat} {ini : Nat → Int} : SN q g C R ini 0 0 p = ini p := by
  unfold SN
  rw [if_neg (by omega)]
def GMx (q : Int) (g : Gd) (C R i j : Nat) (m : Int) : Prop := (0 ≤ m ∧ m ≤ 150) ∧ (m ≤ 3 ↔ ∀ i' j', i' < C → j' < R → (i' < i ∨ (i' = i ∧ j' < j)) → BM q g C R i' j' ≤ 3)
theorem GMx_s {q : Int} {g : Gd} {C R i j : Nat} {m m' : Int} (h : GMx q g C R i j m) (hi : i < C) (hj : j < R) (hb : 0 ≤ m' ∧ m' ≤ 150) (e : m' ≤ 3 ↔ (m ≤ 3 ∧ BM q g C R i j ≤ 3)) : GMx q g C R i (j + 1) m' := by
  refine ⟨hb, e.trans ⟨fun f => fun i' j' h1 h2 h3 => ?_, fun f => ⟨h.2.2 (fun i' j' h1 h2 h3 => f i' j' h1 h2 (by omega)), f i j hi hj (by omega)⟩⟩⟩
  by_cases c : i' = i ∧ j' = j
  · rw [c.1, c.2]; exact f.2
  · exact h.2.1 f.1 i' j' h1 h2 (by omega)
theorem GMx_e {q : Int} {g : Gd} {C R i : Nat} {m : Int} (h : GMx q g C R i R m) : GMx q g C R (i + 1) 0 m := ⟨h.1, h.2.trans ⟨fun f i' j' h1 h2 h3 => f i' j' h1 h2 (by omega), fun f i' j' h1 h2 h3 => f i' j' h1 h2 (by omega)⟩⟩
def BT (v : Wd) (q : Int) (g : Gd) (C R i j : Nat) : Prop := ∀ i' j', i' ≤ C → j' ≤ R → (i' = 0 ∨ j' = 0 ∨ i' ≤ i ∨ (i' = i + 1 ∧ j' ≤ j)) → ShC v (9 + 2 * (6 * (C - i') + (R - j'))) (BK q g C R i' j')
theorem BT_0 {v : Wd} {q : Int} {g : Gd} {C R : Nat} (hg : GrC v g) (hC : g 0 = C) (hR : g 1 = R) : BT v q g C R 0 0 := fun i' j' h1 h2 h3 => by
  have h := hg.2.2 (C - i') (R - j') (by omega) (by omega)
  by_cases c : i' = 0
  · subst c; exact h
  · obtain ⟨k, rfl⟩ : ∃ k, i' = k + 1 := ⟨i' - 1, by omega⟩
    obtain rfl : j' = 0 := by omega
    exact h
theorem s_goBackInto {w : Wd} {g : Gd} {C R : Nat} {q : Int} (hW : Wi w.2) (hq : 0 ≤ q ∧ q ≤ 3) (hv : GV g) (hC : g 0 = C) (hR : g 1 = R) (hf : RimF g C R q) (hg : GrC w g) (h30 : w.1 3 0 = I C) (h31 : w.1 3 1 = I R) (h32 : w.1 3 2 = I q) (h4 : ∀ p, p < 25 → w.1 4 p = I (g (3 + p))) :
    ∃ (gm : Int) (w' : Wd), f_X1_goBackInto 7 3 w = some (I gm, w') ∧ w'.2 = w.2 ∧ GMx q g C R C 0 gm ∧ (∀ p, p < 25 → w'.1 4 p = I (SN q g C R (fun p => g (3 + p)) C 0 p)) ∧ ∀ a b, (a < 9 ∨ 81 ≤ a) → a ≠ 4 → w'.1 a b = w.1 a b := by
  have v1 := hv.1; have v2 := hv.2.1
  have kk : ∀ x y : Nat, x ≤ 5 → y ≤ 5 → kd (9 + 2 * (6 * x + y)) = 5 := fun x y _ _ => kd_shape _ (by omega)
  have pos : ∀ {x y x' y' : Nat}, y ≤ 5 → y' ≤ 5 → ¬ (x = x' ∧ y = y') → 6 * x + y ≠ 6 * x' + y' := fun h1 h2 h3 => by omega
  unfold f_X1_goBackInto
  rw [hg.1, hC, lt_d]
  refine wl3_inv (Q := fun r => ∃ (gm : Int) (w' : Wd), r = some (I gm, w') ∧ w'.2 = w.2 ∧ GMx q g C R C 0 gm ∧ (∀ p, p < 25 → w'.1 4 p = I (SN q g C R (fun p => g (3 + p)) C 0 p)) ∧ ∀ a b, (a < 9 ∨ 81 ≤ a) → a ≠ 4 → w'.1 a b = w.1 a b) C
    (fun i x y (v : Wd) => (∃ m, GMx q g C R i 0 m ∧ x = I m) ∧ y = I ((C : Int) - i) ∧ v.2 = w.2 ∧ BT v q g C R i 0 ∧ (∀ p, p < 25 → v.1 4 p = I (SN q g C R (fun p => g (3 + p)) i 0 p)) ∧ ∀ a b, (a < 9 ∨ 81 ≤ a) → a ≠ 4 → v.1 a b = w.1 a b) (fu_lt (by omega)) ?_ ?_ ?_
  · exact ⟨⟨0, ⟨by omega, ⟨fun _ i' j' _ _ h => absurd h (by omega), fun _ => by omega⟩⟩, rfl⟩, congrArg I (by omega), rfl, BT_0 hg hC hR, fun p hp => by rw [SN_0]; exact h4 p hp, fun _ _ _ _ => rfl⟩
  · rintro i hi x y v ⟨⟨m, hm, rfl⟩, rfl, hv2, hvT, hvs, hfr⟩ k
    have ex1 : ¬ (I ((C : Int) - i) < (1 : Int32)) := by rw [i1, I_lt (by omega) (by omega) (by omega) (by omega)]; omega
    have e73 : v.1 7 3 = I R := by rw [hfr _ _ (by omega) (by omega), hg.2.1, hR]
    rw [if_neg ex1, e73, lt_d]
    left
    refine wl3_inv (Q := fun r => ∃ (t0 t1 : Int32) (t2 : Wd), ((∃ m, GMx q g C R (i + 1) 0 m ∧ t0 = I m) ∧ t1 = I ((C : Int) - ((i + 1 : Nat) : Int)) ∧ t2.2 = w.2 ∧ BT t2 q g C R (i + 1) 0 ∧ (∀ p, p < 25 → t2.1 4 p = I (SN q g C R (fun p => g (3 + p)) (i + 1) 0 p)) ∧ ∀ a b, (a < 9 ∨ 81 ≤ a) → a ≠ 4 → t2.1 a b = w.1 a b) ∧ r = k t0 t1 t2) R
      (fun j x y (v : Wd) => (∃ m, GMx q g C R i j m ∧ x = I m) ∧ y = I ((R : Int) - j) ∧ v.2 = w.2 ∧ BT v q g C R i j ∧ (∀ p, p < 25 → v.1 4 p = I (SN q g C R (fun p => g (3 + p)) i j p)) ∧ ∀ a b, (a < 9 ∨ 81 ≤ a) → a ≠ 4 → v.1 a b = w.1 a b) (fu_lt (by omega)) ?_ ?_ ?_
    · exact ⟨⟨m, hm, rfl⟩, congrArg I (by omega), hv2, hvT, hvs, hfr⟩
    · rintro j hj x y u ⟨⟨m2, hm2, rfl⟩, rfl, hu2, huT, hus, hfu⟩ k2
      have hWu : Wi u.2 := by rw [hu2]; exact hW
      obtain ⟨i1', i2', -⟩ := BK_ok hq hv hC hR hf i (by omega)
      obtain ⟨j1', j2', j3'⟩ := BK_ok hq hv hC hR hf (i + 1) (by omega)
      obtain ⟨w', z1, z2, z3, z4⟩ := s_goBackFrom (t := 9 + 2 * (6 * (C - (i + 1)) + (R - (j + 1)))) (n := 9 + 2 * (6 * (C - i) + (R - j))) (a := 9 + 2 * (6 * (C - (i + 1)) + (R - j))) (b := 9 + 2 * (6 * (C - i) + (R - (j + 1)))) hWu hq (kk _ _ (by omega) (by omega)) (kk _ _ (by omega) (by omega)) (kk _ _ (by omega) (by omega)) (kk _ _ (by omega) (by omega)) (by omega) (by omega) (by omega) (huT i j (by omega) (by omega) (by omega)) (huT (i + 1) j (by omega) (by omega) (by omega)) (huT i (j + 1) (by omega) (by omega) (by omega)) (i1' j (by omega)).1 (i1' j (by omega)).2.2 (j1' j (by omega)).1 (i1' (j + 1) (by omega)).1 (j3' (by omega) j (by omega)) (i2' j hj)
      have hWw : Wi w'.2 := by rw [z2]; exact hWu
      have bmb := BM_b hq hv hC hR hf hi hj
      have ebm : bm q (BK q g C R i j) (BK q g C R (i + 1) j) (BK q g C R i (j + 1)) = BM q g C R i j := rfl
      rw [ebm] at z1
      have sN := s_setN (w := w') (t := 3) (C := C) (R := R) (x := (C : Int) - i) (y := (R : Int) - j) (I (BM q g C R i j)) kd_3 (hWw.2.1 _ kd_3) (by rw [z4 _ _ (by omega) (by omega), hfu _ _ (by omega) (by omega), h30]) (by rw [z4 _ _ (by omega) (by omega), hfu _ _ (by omega) (by omega), h31]) (by omega) (by omega) (by omega) (by omega)
      have ep : (5 * ((C : Int) - i - 1) + ((R : Int) - j - 1)).toNat = 5 * (C - 1 - i) + (R - 1 - j) := by omega
      rw [ep] at sN
      left
      rw [if_neg (show ¬ (I ((R : Int) - j) < (1 : Int32)) by rw [i1, I_lt (by omega) (by omega) (by omega) (by omega)]; omega), show I ((C : Int) - i) - (1 : Int32) = I ((C - (i + 1) : Nat) : Int) from (I_sub _ 1).trans (congrArg I (by omega)), show I ((R : Int) - j) - (1 : Int32) = I ((R - (j + 1) : Nat) : Int) from (I_sub _ 1).trans (congrArg I (by omega))]
      have eC' : I ((C : Int) - i) = I ((C - i : Nat) : Int) := congrArg I (by omega)
      have eR' : I ((R : Int) - j) = I ((R - j : Nat) : Int) := congrArg I (by omega)
      refine ⟨I (if m2 < BM q g C R i j then BM q g C R i j else m2), I ((R : Int) - ((j + 1 : Nat) : Int)), upI w' 4 (5 * (C - 1 - i) + (R - 1 - j)) (I (BM q g C R i j)), ⟨⟨_, GMx_s hm2 hi hj (by have := hm2.1; split <;> omega) (by split <;> omega), rfl⟩, rfl, by show w'.2 = w.2; rw [z2, hu2], fun i' j' h1 h2 h3 => ?_, fun p hp => ?_, fun a b h1 h2 => by rw [upI_n (by omega), z4 _ _ (by omega) (by omega)]; exact hfu a b h1 h2⟩, ?_⟩
      · by_cases e : i' = i + 1 ∧ j' = j + 1
        · rw [e.1, e.2, BK_s]
          exact z3.of (fun b _ => upI_n (by omega)) (fun b => upI_n (by omega))
        · have hne : 6 * (C - i') + (R - j') ≠ 6 * (C - (i + 1)) + (R - (j + 1)) := by omega
          exact (huT i' j' h1 h2 (by omega)).of (fun b _ => by rw [upI_n (by omega), z4 _ _ (by omega) (by omega)]) (fun b => by rw [upI_n (by omega), z4 _ _ (by omega) (by omega)])
      · by_cases e : p = 5 * (C - 1 - i) + (R - 1 - j)
        · subst e; rw [upI_s, SN_s hi hj (by omega) (by omega)]
        · rw [upI_n (by omega), z4 _ _ (by omega) (by omega), hus p hp, SN_n hi hj (by omega) (by omega) hp e]
      · rw [c1_r (s_at hWu (show C - (i + 1) ≤ 5 by omega) (show R - (j + 1) ≤ 5 by omega)), ckc (kk _ _ (by omega) (by omega)) (by decide), eC', eR', c1_r (s_at hWu (show C - i ≤ 5 by omega) (show R - j ≤ 5 by omega)), ckc (kk _ _ (by omega) (by omega)) (by decide), c1_r (s_at hWu (show C - (i + 1) ≤ 5 by omega) (show R - j ≤ 5 by omega)), ckc (kk _ _ (by omega) (by omega)) (by decide), c1_r (s_at hWu (show C - i ≤ 5 by omega) (show R - (j + 1) ≤ 5 by omega)), ckc (kk _ _ (by omega) (by omega)) (by decide), show u.1 3 2 = I q by rw [hfu _ _ (by omega) (by omega), h32], c2_r z1, ← eC', ← eR', c1_r sN, lt_d, lt_d]
        have hmb := hm2.1
        have eg : (if I m2 < I (BM q g C R i j) then I (BM q g C R i j) else I m2) = I (if m2 < BM q g C R i j then BM q g C R i j else m2) := by
          simp (disch := omega) only [I_lt, I_ite]
        rw [eg, im1, I_add]
        exact congrArg (fun z => k2 _ z _) (congrArg I (by omega))
    · rintro x y u ⟨⟨m2, hm2, rfl⟩, rfl, hu2, huT, hus, hfu⟩ k2
      rw [if_pos (show I ((R : Int) - (R : Int)) < (1 : Int32) by rw [i1, I_lt (by omega) (by omega) (by omega) (by omega)]; omega), lt_d, im1, I_add]
      refine ⟨_, _, u, ⟨⟨m2, GMx_e hm2, rfl⟩, rfl, hu2, fun i' j' h1 h2 h3 => huT i' j' h1 h2 (by omega), fun p hp => by rw [hus p hp, SN_e (by omega)], hfu⟩, ?_⟩
      exact congrArg (fun z => k _ z _) (congrArg I (by omega))
  · rintro x y v ⟨⟨m, hm, rfl⟩, rfl, hv2, hvT, hvs, hfr⟩ k
    rw [if_pos (show I ((C : Int) - (C : Int)) < (1 : Int32) by rw [i1, I_lt (by omega) (by omega) (by omega) (by omega)]; omega)]
    exact ⟨m, v, rfl, hv2, hm, hvs, hfr⟩
end
section
/-! back, by both -/
def All3 (q : Int) (g : Gd) (C R : Nat) : Prop := ∀ i j, i < C → j < R → BM q g C R i j ≤ 3
def SNf (q : Int) (g : Gd) (C R p : Nat) : Int := SN q g C R (fun _ => 0) C 0 p
def FTq (q : Int) (g : Gd) (C R i j : Nat) (x : Int32) : Prop := (x = I 1 ∧ ∀ i' j', i' < C → j' < R → (i' < i ∨ (i' = i ∧ j' < j)) → BM q g C R i' j' ≤ 3) ∨ (x = I 0 ∧ ¬ All3 q g C R)
theorem SN_b {q : Int} {g : Gd} {C R : Nat} (hq : 0 ≤ q ∧ q ≤ 3) (hv : GV g) (hC : g 0 = C) (hR : g 1 = R) (hf : RimF g C R q) (p : Nat) : 0 ≤ SNf q g C R p ∧ SNf q g C R p ≤ 150 ∧ (All3 q g C R → SNf q g C R p ≤ 3) := by
  unfold SNf SN
  by_cases c : (p / 5 < C ∧ p % 5 < R) ∧ (C - 1 - p / 5 < C ∨ (C - 1 - p / 5 = C ∧ R - 1 - p % 5 < 0))
  · rw [if_pos c]
    have h := BM_b hq hv hC hR hf (i := C - 1 - p / 5) (j := R - 1 - p % 5) (by omega) (by omega)
    exact ⟨h.1, h.2, fun e => e _ _ (by omega) (by omega)⟩
  · rw [if_neg c]
    exact ⟨Int.le_refl 0, show (0 : Int) ≤ 150 by decide, fun _ => show (0 : Int) ≤ 3 by decide⟩
theorem SN_f {q : Int} {g : Gd} {C R p : Nat} (hv : GV g) (hC : g 0 = C) (hR : g 1 = R) (hp : p < 25) : SN q g C R (fun p => g (3 + p)) C 0 p = SNf q g C R p := by
  unfold SNf SN
  by_cases c : (p / 5 < C ∧ p % 5 < R) ∧ (C - 1 - p / 5 < C ∨ (C - 1 - p / 5 = C ∧ R - 1 - p % 5 < 0))
  · rw [if_pos c, if_pos c]
  · rw [if_neg c, if_neg c]
    exact hv.2.2.2.2 p hp (by omega)
theorem SN_V {q : Int} {g : Gd} {C R : Nat} (hq : 0 ≤ q ∧ q ≤ 3) (hv : GV g) (hC : g 0 = C) (hR : g 1 = R) (hf : RimF g C R q) (h3 : All3 q g C R) : GV (grd C R q (SNf q g C R)) := by
  have v1 := hv.1; have v2 := hv.2.1
  refine grd_V (by omega) (by omega) hq (fun p _ => ⟨(SN_b hq hv hC hR hf p).1, (SN_b hq hv hC hR hf p).2.2 h3⟩) (fun p hp h => ?_)
  unfold SNf SN
  rw [if_neg (by omega)]
theorem dif_b (g f : Gd) : ∀ n, 0 ≤ dif g f n ∧ dif g f n ≤ n
  | 0 => by show (0 : Int) ≤ 0 ∧ (0 : Int) ≤ _; omega
  | n + 1 => by
    have := dif_b g f n
    show 0 ≤ dif g f n + (if g (3 + n) = f (3 + n) then 0 else 1) ∧ dif g f n + (if g (3 + n) = f (3 + n) then 0 else 1) ≤ ((n + 1 : Nat) : Int)
    split <;> omega
end
section
/-! what holds between the law's calls; the calls -/
def Rc (w : Wd) (g : Gd) : Prop := w.1 0 5 = I 0 ∨ (w.1 0 5 = I 1 ∧ GrC w g)
def Iv (w : Wd) (g : Gd) (p u : Nat) (G : Nat → Gd) : Prop := Wi w.2 ∧ GV g ∧ CG w 1 g ∧ Rc w g ∧ DC w p u G ∧ Rs w
theorem Rc.of {w w' : Wd} {g : Gd} (hv : GV g) (h : Rc w g) (f : ∀ a b, ((a = 0 ∧ b = 5) ∨ (7 ≤ a ∧ a < 84)) → w'.1 a b = w.1 a b) : Rc w' g := by
  obtain h | ⟨h1, h2⟩ := h
  · exact Or.inl ((f _ _ (by omega)).trans h)
  · exact Or.inr ⟨(f _ _ (by omega)).trans h1, h2.of hv (fun b _ => f _ _ (by omega)) (fun a b _ _ _ => f _ _ (by omega))⟩
/-- nothing but scratch has changed -/
theorem Iv.of {w w' : Wd} {g : Gd} {p u : Nat} {G : Nat → Gd} (h : Iv w g p u G) (h2 : w'.2 = w.2) (hc : Rc w' g) (f : ∀ a b, (a = 1 ∨ a = 2 ∨ (84 ≤ a ∧ a < 112)) → w'.1 a b = w.1 a b) : Iv w' g p u G := by
  obtain ⟨a1, a2, a3, a4, a5, a6⟩ := h
  exact ⟨by rw [h2]; exact a1, a2, a3.of (fun b => f _ _ (by omega)) (fun b => f _ _ (by omega)), hc, a5.of (fun b => f _ _ (by omega)) (fun a b _ _ => f _ _ (by omega)) (fun b => by rw [h2]), a6.of (fun a b h => f _ _ (by omega))⟩
/-- only the law's own arrays have changed -/
theorem Iv.far {w w' : Wd} {g : Gd} {p u : Nat} {G : Nat → Gd} (h : Iv w g p u G) (h2 : w'.2 = w.2) (f : ∀ a b, a < 139 → w'.1 a b = w.1 a b) : Iv w' g p u G :=
  h.of h2 (h.2.2.2.1.of h.2.1 (fun a b q => f _ _ (by omega))) (fun a b q => f _ _ (by omega))
theorem Wi.fresh {w : Wd} (h : Wi w.2) {n : Nat} (hn : 139 ≤ n) : Wi (clr w n).2 := by
  obtain ⟨a1, a2, a3, a4, a5, a6, a7, a8, a9, a10⟩ := h
  have e : ∀ a b, a < 139 → (clr w n).2 a b = w.2 a b := fun a b h => if_neg (by omega)
  refine ⟨?_, fun t ht => ?_, fun t ht => ?_, ?_, fun k hk => ?_, ⟨?_, fun k hk => ?_⟩, ?_, ?_, fun h hh => ?_, trivial⟩
  · rw [e 0 0 (by decide), e 0 1 (by decide), e 0 2 (by decide), e 0 4 (by decide), e 0 6 (by decide), e 0 7 (by decide), e 0 8 (by decide), e 0 9 (by decide)]; exact a1
  · rw [e _ _ (kd_lt ht (by decide) (by decide))]; exact a2 t ht
  · rw [e _ _ (kd_lt ht (by decide) (by decide))]; exact a3 t ht
  · rw [e 7 0 (by decide), e 7 1 (by decide), e 7 4 (by decide)]; exact a4
  · rw [e 8 k (by decide)]; exact a5 k hk
  · rw [e 84 0 (by decide)]; exact a6.1
  · rw [e 85 k (by decide)]; exact a6.2 k hk
  · rw [e 92 0 (by decide)]; exact a7
  · rw [e 112 0 (by decide)]; exact a8
  · rw [e 114 h (by decide), e (115 + 4 * h) 1 (by omega), e (115 + 4 * h) 2 (by omega)]; exact a9 h hh
theorem Iv.fresh {w : Wd} {g : Gd} {p u : Nat} {G : Nat → Gd} (h : Iv w g p u G) {n : Nat} (hn : 139 ≤ n) : Iv (clr w n) g p u G := by
  obtain ⟨a1, a2, a3, a4, a5, a6⟩ := h
  have e : ∀ a b, a < 139 → (clr w n).1 a b = w.1 a b := fun a b h => if_neg (by omega)
  have e2 : ∀ a b, a < 139 → (clr w n).2 a b = w.2 a b := fun a b h => if_neg (by omega)
  exact ⟨a1.fresh hn, a2, a3.of (fun b => e _ _ (by decide)) (fun b => e _ _ (by decide)), a4.of a2 (fun a b h => e _ _ (by omega)), a5.of (fun b => e _ _ (by decide)) (fun a b _ _ => e _ _ (by omega)) (fun b => e2 _ _ (by decide)), a6.of (fun a b h => e _ _ (by omega))⟩
/-- a deed, from its beginning to its end -/
theorem Iv.deed {w : Wd} {g : Gd} {p u : Nat} {G : Nat → Gd} (H : Iv w g p u G) : ∃ w1, f_X7_beginDeed 0 w = some w1 ∧ Wi w1.2 ∧ CG w1 1 g ∧ (∀ a b, a ≠ 92 → (a < 94 ∨ 112 ≤ a) → ¬ (a = 0 ∧ b = 5) → w1.1 a b = w.1 a b) ∧
    ∀ w2 g', w2.2 = w1.2 → (∀ a b, a ≠ 1 → a ≠ 2 → w2.1 a b = w1.1 a b) → GV g' → CG w2 1 g' → Iv w2 g' (pshP p) 0 (pshG p G g) ∧ ∀ a b, 139 ≤ a → w2.1 a b = w.1 a b := by
  obtain ⟨a1, a2, a3, a4, a5, a6⟩ := id H
  obtain ⟨w1, b1, b2, b3, b4, b5, b6⟩ := s_begin a1 a5 a3
  refine ⟨w1, b1, b2, b3, b6, fun w2 g' e2 f2 hv hc => ⟨⟨by rw [e2]; exact b2, hv, hc, Or.inl ?_, b4.of (fun b => f2 _ _ (by omega) (by omega)) (fun a b _ _ => f2 _ _ (by omega) (by omega)) (fun b => by rw [e2]), a6.of (fun a b h => by rw [f2 _ _ (by omega) (by omega), b6 _ _ (by omega) (by omega) (by omega)])⟩, fun a b h => by rw [f2 _ _ (by omega) (by omega), b6 _ _ (by omega) (by omega) (by omega)]⟩⟩
  rw [f2 _ _ (by omega) (by omega), b5]; rfl
/-- an answer v, the grid and the deeds as they were, the law's own arrays too -/
def Rz (w : Wd) (g : Gd) (p u : Nat) (G : Nat → Gd) (o : Option (Int32 × Wd)) (v : Int32) : Prop := ∃ w', o = some (v, w') ∧ Iv w' g p u G ∧ ∀ a b, 139 ≤ a → w'.1 a b = w.1 a b
theorem t_count {w : Wd} {g : Gd} {p u : Nat} {G : Nat → Gd} (H : Iv w g p u G) : f_X7_count 0 (0 : Int32) w = some (I (g 0)) ∧ f_X7_count 0 (1 : Int32) w = some (I (g 1)) ∧ f_X7_count 0 (2 : Int32) w = some (I (g 2)) ∧ f_X7_count 0 (3 : Int32) w = some (I p) := by
  obtain ⟨hW, hv, hc, -, ⟨P, -, -, a3, -⟩, -⟩ := H
  have e1 := hW.1.1
  have e7 := hW.1.2.2.2.2.2.1
  refine ⟨?_, ?_, ?_, ?_⟩
  · unfold f_X7_count
    rw [if_pos (by decide), rfc e1 kd_1 (by decide), hc.1]
  · unfold f_X7_count
    rw [if_neg (by decide), if_pos (by decide), rfc e1 kd_1 (by decide), hc.2.1]
  · unfold f_X7_count
    rw [if_neg (by decide), if_neg (by decide), if_pos (by decide), rfc e1 kd_1 (by decide), hc.2.2.1]
  · unfold f_X7_count
    rw [if_neg (by decide), if_neg (by decide), if_neg (by decide), if_pos (by decide), rfc e7 kd_92 (by decide)]
    unfold f_X2_undoable
    rw [c1_d, a3]
theorem t_cell {w : Wd} {g : Gd} {p u : Nat} {G : Nat → Gd} (H : Iv w g p u G) {x y : Nat} (hx : ((x + 1 : Nat) : Int) ≤ g 0) (hy : ((y + 1 : Nat) : Int) ≤ g 1) : f_X7_cell 0 (I ((x : Int) + 1)) (I ((y : Int) + 1)) w = some (I (g (3 + (5 * x + y)))) := by
  obtain ⟨hW, hv, hc, -⟩ := H
  have v1 := hv.1; have v2 := hv.2.1
  have e1 := hW.1.1
  unfold f_X7_cell
  rw [rfc e1 kd_1 (by decide), c1_r (s_hasCell hc hv (by omega) (by omega)), if_pos (show 1 ≤ (x : Int) + 1 ∧ (x : Int) + 1 ≤ g 0 ∧ 1 ≤ (y : Int) + 1 ∧ (y : Int) + 1 ≤ g 1 by omega), if_neg (by decide), rfc e1 kd_1 (by decide), c1_r (s_numberAt kd_1 (hW.2.1 _ kd_1) hc hv (by omega) (by omega))]
  unfold num
  rw [if_pos (by omega), show (5 * ((x : Int) + 1 - 1) + ((y : Int) + 1 - 1)).toNat = 5 * x + y by omega]
/-- g by another rule -/
def grl (g : Gd) (q : Int) : Gd := fun j => if j = 2 then q else g j
theorem grl_0 (g : Gd) (q : Int) : grl g q 0 = g 0 := rfl
theorem grl_1 (g : Gd) (q : Int) : grl g q 1 = g 1 := rfl
theorem grl_2 (g : Gd) (q : Int) : grl g q 2 = q := rfl
theorem grl_n (g : Gd) (q : Int) (j : Nat) : grl g q (3 + j) = g (3 + j) := if_neg (by omega)
theorem grl_V {g : Gd} {q : Int} (hv : GV g) (hq : 0 ≤ q ∧ q ≤ 3) : GV (grl g q) :=
  ⟨hv.1, hv.2.1, hq, fun j hj => by rw [grl_n]; exact hv.2.2.2.1 j hj, fun j hj h => by rw [grl_n]; exact hv.2.2.2.2 j hj h⟩
theorem t_rule {w : Wd} {g : Gd} {p u : Nat} {G : Nat → Gd} (H : Iv w g p u G) {q : Int} (hq : 0 ≤ q ∧ q ≤ 3) : ∃ w', f_X7_rule 0 (I q) w = some (I (g 2), w') ∧ Iv w' (grl g q) (pshP p) 0 (pshG p G g) ∧ ∀ a b, 139 ≤ a → w'.1 a b = w.1 a b := by
  obtain ⟨w1, b1, b2, b3, b4, b5⟩ := H.deed
  obtain ⟨hW, hv, hc, -⟩ := H
  obtain ⟨d1, d2⟩ := b5 (upI w1 1 2 (I q)) (grl g q) rfl (fun a b h1 h2 => upI_n (by omega)) (grl_V hv hq) ⟨by rw [upI_n (by omega)]; exact b3.1, by rw [upI_n (by omega)]; exact b3.2.1, upI_s _ _ _ _, fun j hj => by rw [upI_n (by omega), grl_n]; exact b3.2.2.2 j hj⟩
  refine ⟨_, ?_, d1, d2⟩
  unfold f_X7_rule
  rw [c1_r (s_isRule (by omega)), if_pos hq, if_neg (by decide), rfc hW.1.1 kd_1 (by decide), lt_d, c1_r b1, rfc b2.1.1 kd_1 (by decide), lt_d, hc.2.2.1]
theorem t_grid {w : Wd} {g : Gd} {p u : Nat} {G : Nat → Gd} (H : Iv w g p u G) {x y : Int} (c : 1 ≤ x ∧ x ≤ 5) (d : 1 ≤ y ∧ y ≤ 5) : ∃ v w', f_X7_grid 0 (I x) (I y) w = some (v, w') ∧ Iv w' (gst x y (g 2)) (pshP p) 0 (pshG p G g) ∧ ∀ a b, 139 ≤ a → w'.1 a b = w.1 a b := by
  obtain ⟨w1, b1, b2, b3, b4, b5⟩ := H.deed
  obtain ⟨hW, hv, hc, -⟩ := H
  obtain ⟨d1, d2⟩ := b5 (clg w1 1 (I x) (I y)) (gst x y (g 2)) rfl (fun a b h1 h2 => clg_o (by omega) (by omega)) (gst_V c d hv.2.2.1) (clg_CG b3)
  have e : ∃ v, f_X7_grid 0 (I x) (I y) w = some (v, clg w1 1 (I x) (I y)) := by
    unfold f_X7_grid
    rw [c1_r (s_isSide (by omega)), if_pos c, if_neg (by decide), c1_r (s_isSide (by omega)), if_pos d, if_neg (by decide), rfc hW.1.1 kd_1 (by decide), rfc hW.1.1 kd_1 (by decide), lt_d, c1_r b1, rfc b2.1.1 kd_1 (by decide), c1_r (s_clearTo (I x) (I y) kd_1 (b2.2.1 _ kd_1))]
    exact ⟨_, rfl⟩
  obtain ⟨v, e⟩ := e
  exact ⟨v, _, e, d1, d2⟩
theorem t_put {w : Wd} {g : Gd} {p u : Nat} {G : Nat → Gd} (H : Iv w g p u G) {x y z : Int} (c : 1 ≤ x ∧ x ≤ g 0 ∧ 1 ≤ y ∧ y ≤ g 1) (d : 0 ≤ z ∧ z ≤ 3) : ∃ v w', f_X7_put 0 (I x) (I y) (I z) w = some (v, w') ∧ Iv w' (gset g (5 * (x - 1) + (y - 1)).toNat z) (pshP p) 0 (pshG p G g) ∧ ∀ a b, 139 ≤ a → w'.1 a b = w.1 a b := by
  obtain ⟨w1, b1, b2, b3, b4, b5⟩ := H.deed
  obtain ⟨hW, hv, hc, -⟩ := H
  have v1 := hv.1; have v2 := hv.2.1
  obtain ⟨d1, d2⟩ := b5 (upI w1 (1 + 1) (5 * (x - 1) + (y - 1)).toNat (I z)) (gset g (5 * (x - 1) + (y - 1)).toNat z) rfl (fun a b h1 h2 => upI_n (by omega)) (gset_V hv d ⟨c.1, c.2.1⟩ c.2.2) (gset_CG b3)
  have e : ∃ v, f_X7_put 0 (I x) (I y) (I z) w = some (v, upI w1 (1 + 1) (5 * (x - 1) + (y - 1)).toNat (I z)) := by
    unfold f_X7_put
    rw [rfc hW.1.1 kd_1 (by decide), c1_r (s_hasCell hc hv (by omega) (by omega)), if_pos c, if_neg (by decide), c1_r (s_isNumber (by omega)), if_pos d, if_neg (by decide), rfc hW.1.1 kd_1 (by decide), c1_r (s_numberAt kd_1 (hW.2.1 _ kd_1) hc hv (by omega) (by omega)), c1_r b1, rfc b2.1.1 kd_1 (by decide), c1_r (s_setNumber (I z) kd_1 (b2.2.1 _ kd_1) b3 hv ⟨c.1, c.2.1⟩ c.2.2)]
    exact ⟨_, rfl⟩
  obtain ⟨v, e⟩ := e
  exact ⟨v, _, e, d1, d2⟩
theorem t_undo {w : Wd} {g : Gd} {p u : Nat} {G : Nat → Gd} (H : Iv w g p u G) (hp : 0 < p) (hv' : GV (G (p - 1))) : ∃ w', f_X7_undo 0 w = some (I ((p - 1 : Nat) : Int), w') ∧ Iv w' (G (p - 1)) (p - 1) (u + 1) (fun k => if k = p then g else G k) ∧ ∀ a b, 139 ≤ a → w'.1 a b = w.1 a b := by
  obtain ⟨hW, hv, hc, hr, hd, hs⟩ := H
  obtain ⟨P, -, -, a3, a4, a5, -⟩ := id hd
  have e1 := hW.1.1
  have e7 := hW.1.2.2.2.2.2.1
  obtain ⟨w1, b1, b2, b3, b4, b5⟩ := s_stepBack hW hd hc hp
  obtain ⟨P', -, -, a3', -⟩ := id b4
  refine ⟨upI w1 0 5 0, ?_, ⟨?_, hv', b3.of (fun b => upI_n (by omega)) (fun b => upI_n (by omega)), Or.inl (upI_s _ _ _ _), b4.of (fun b => upI_n (by omega)) (fun a b _ _ => upI_n (by omega)) (fun b => rfl), hs.of (fun a b h => by rw [upI_n (by omega), b5 _ _ (by omega) (by omega) (by omega) (by omega)])⟩, fun a b h => by rw [upI_n (by omega), b5 _ _ (by omega) (by omega) (by omega) (by omega)]⟩
  · unfold f_X7_undo f_X2_undoable
    rw [rfc e7 kd_92 (by decide), c1_d, a3, if_neg (by rw [i0, I_eq (by omega) (by omega) (by omega) (by omega)]; omega), rfc e7 kd_92 (by decide), rfc e1 kd_1 (by decide), c1_r b1, lt_d, rfc (show (upI w1 0 5 0).2 0 7 = some 92 by rw [upI_2, b2]; exact e7) kd_92 (by decide), c1_d, upI_n (by omega), a3']
  · show Wi w1.2
    rw [b2]; exact hW
theorem t_again {w : Wd} {g : Gd} {p u : Nat} {G : Nat → Gd} (H : Iv w g p u G) (hu : 0 < u) (hv' : GV (G (p + 1))) : ∃ v w', f_X7_again 0 w = some (v, w') ∧ Iv w' (G (p + 1)) (p + 1) (u - 1) G ∧ ∀ a b, 139 ≤ a → w'.1 a b = w.1 a b := by
  obtain ⟨hW, hv, hc, hr, hd, hs⟩ := H
  obtain ⟨P, -, -, a3, a4, a5, -⟩ := id hd
  have e1 := hW.1.1
  have e7 := hW.1.2.2.2.2.2.1
  obtain ⟨w1, b1, b2, b3, b4, b5⟩ := s_stepOn hW hd hu
  have e : ∃ v, f_X7_again 0 w = some (v, upI w1 0 5 0) := by
    unfold f_X7_again f_X2_redoable
    rw [rfc e7 kd_92 (by decide), c1_d, a3, a4, I_sub, if_neg (by rw [i0, I_eq (by omega) (by omega) (by omega) (by omega)]; omega), rfc e7 kd_92 (by decide), rfc e1 kd_1 (by decide), c1_r b1, lt_d, i0, rfc (show (upI w1 0 5 (I 0)).2 0 7 = some 92 by rw [upI_2, b2]; exact e7) kd_92 (by decide), c1_d]
    exact ⟨_, rfl⟩
  obtain ⟨v, e⟩ := e
  refine ⟨v, upI w1 0 5 0, e, ⟨?_, hv', b3.of (fun b => upI_n (by omega)) (fun b => upI_n (by omega)), Or.inl (upI_s _ _ _ _), b4.of (fun b => upI_n (by omega)) (fun a b _ _ => upI_n (by omega)) (fun b => rfl), hs.of (fun a b h => by rw [upI_n (by omega), b5 _ _ (by omega) (by omega) (by omega)])⟩, fun a b h => by rw [upI_n (by omega), b5 _ _ (by omega) (by omega) (by omega)]⟩
  show Wi w1.2
  rw [b2]; exact hW
theorem t_grown {w : Wd} {g : Gd} {p u : Nat} {G : Nat → Gd} (H : Iv w g p u G) : ∃ w1, f_X7_grownCorners 0 w = some (7, w1) ∧ Iv w1 g p u G ∧ GrC w1 g ∧ ∀ a b, 84 ≤ a → w1.1 a b = w.1 a b := by
  obtain ⟨hW, hv, hc, hrc, -⟩ := id H
  have e1 := hW.1
  unfold f_X7_grownCorners
  obtain h0 | ⟨h1, h2⟩ := hrc
  · obtain ⟨w', b1, b2, b3, b4, b5⟩ := s_growOver hW hv hc
    have hg : GrC (upI w' 0 5 (I 1)) g := b3.of hv (fun b _ => upI_n (by omega)) (fun a b _ _ _ => upI_n (by omega))
    refine ⟨upI w' 0 5 (I 1), ?_, ?_, hg, fun a b h => by rw [upI_n (by omega), b5 _ _ (by omega) (by omega)]⟩
    · rw [jn_d, h0, if_pos z00, rfc e1.2.2.2.1 kd_7 (by decide), rfc e1.1 kd_1 (by decide), c1_r b1, lt_d]
      show rf 139 (w'.2 0 4) 1 _ = _
      rw [b2, rfc e1.2.2.2.1 kd_7 (by decide)]
      rfl
    · exact H.of b2 (Or.inr ⟨upI_s _ _ _ _, hg⟩) (fun a b h => by rw [upI_n (by omega), b5 _ _ (by omega) (by omega)])
  · refine ⟨w, ?_, H, h2, fun _ _ _ => rfl⟩
    rw [jn_d, h1, if_neg n10]
    show rf 139 (w.2 0 4) 1 _ = _
    rw [rfc e1.2.2.2.1 kd_7 (by decide)]
/-- the shape of a corner -/
theorem t_ask {w : Wd} {g : Gd} {p u : Nat} {G : Nat → Gd} (H : Iv w g p u G) {a b : Nat} (ha : (a : Int) ≤ g 0) (hb : (b : Int) ≤ g 1) :
    ∃ w1 t, f_X7_shapeAt 0 (I a) (I b) w = some (t, w1) ∧ kd t = 5 ∧ w1.2 t 0 = some (t + 1) ∧ ShC w1 t (Sg g a b) ∧ Gs (Sg g a b) (Wg g a b) ∧ (0 ≤ Wg g a b ∧ Wg g a b ≤ 75) ∧ Iv w1 g p u G ∧ ∀ c d, 84 ≤ c → w1.1 c d = w.1 c d := by
  obtain ⟨w1, b1, b2, b4, b7⟩ := t_grown H
  have hv := H.2.1
  have v1 := hv.1; have v2 := hv.2.1
  have kt := kd_shape (6 * a + b) (by omega)
  refine ⟨w1, 9 + 2 * (6 * a + b), ?_, kt, b2.1.2.2.1 _ kt, b4.2.2 a b ha hb, (Sg_ok hv (by omega) (by omega)).1, Wg_b hv (by omega) (by omega), b2, b7⟩
  unfold f_X7_shapeAt
  rw [c2_r b1, ckc kd_7 (by decide), c1_r (s_at b2.1 (by omega) (by omega)), ckc kt (by decide)]
theorem t_corner {w : Wd} {g : Gd} {p u : Nat} {G : Nat → Gd} (H : Iv w g p u G) {a b : Nat} (ha : (a : Int) ≤ g 0) (hb : (b : Int) ≤ g 1) : f_X0_hasCorner 1 (I a) (I b) w = some (I 1) := by
  obtain ⟨hW, hv, hc, -⟩ := H
  have v1 := hv.1; have v2 := hv.2.1
  rw [s_hasCorner hc hv (by omega) (by omega), if_pos (by omega)]
theorem t_part {w : Wd} {g : Gd} {p u : Nat} {G : Nat → Gd} (H : Iv w g p u G) {a b : Nat} (ha : (a : Int) ≤ g 0) (hb : (b : Int) ≤ g 1) {i : Nat} (hi : i ≤ 99) : Rz w g p u G (f_X7_part 0 (I a) (I b) (I i) w) (I (Sg g a b i)) := by
  obtain ⟨w1, t, q1, kt, rt, hS, hs, hwb, H1, hf⟩ := t_ask H ha hb
  refine ⟨w1, ?_, H1, fun c d h => hf c d (by omega)⟩
  unfold f_X7_part
  rw [rfc H.1.1.1 kd_1 (by decide), c1_r (t_corner H ha hb), if_neg n10, c1_r (s_isPlace (by omega)), if_pos (show 0 ≤ (i : Int) ∧ (i : Int) ≤ 99 by omega), if_neg n10, c2_r q1, ckc kt (by decide), c1_r (s_partAt kt rt hS hs (by omega))]
theorem t_turned {w : Wd} {g : Gd} {p u : Nat} {G : Nat → Gd} (H : Iv w g p u G) {a b : Nat} (ha : (a : Int) ≤ g 0) (hb : (b : Int) ≤ g 1) {i : Nat} (hi : i ≤ 99) : Rz w g p u G (f_X7_turned 0 (I a) (I b) (I i) w) (I (abv (Sg g a b) i (len (Sg g a b)))) := by
  obtain ⟨w1, t, q1, kt, rt, hS, hs, hwb, H1, hf⟩ := t_ask H ha hb
  refine ⟨w1, ?_, H1, fun c d h => hf c d (by omega)⟩
  unfold f_X7_turned
  rw [rfc H.1.1.1 kd_1 (by decide), c1_r (t_corner H ha hb), if_neg n10, c1_r (s_isPlace (by omega)), if_pos (show 0 ≤ (i : Int) ∧ (i : Int) ≤ 99 by omega), if_neg n10, c2_r q1, ckc kt (by decide), c1_r (s_partsAbove kt rt hS hs hwb.2 (by omega))]
theorem t_size {w : Wd} {g : Gd} {p u : Nat} {G : Nat → Gd} (H : Iv w g p u G) {a b : Nat} (ha : (a : Int) ≤ g 0) (hb : (b : Int) ≤ g 1) : Rz w g p u G (f_X7_shape 0 (I a) (I b) (0 : Int32) w) (I (tsum (Sg g a b) 75)) := by
  obtain ⟨w1, t, q1, kt, rt, hS, hs, hwb, H1, hf⟩ := t_ask H ha hb
  refine ⟨w1, ?_, H1, fun c d h => hf c d (by omega)⟩
  unfold f_X7_shape
  rw [rfc H.1.1.1 kd_1 (by decide), c1_r (t_corner H ha hb), if_neg n10, if_neg (by decide), if_pos (by decide), c2_r q1, ckc kt (by decide), lt_d, if_pos rfl, hS.2.1]
theorem t_length {w : Wd} {g : Gd} {p u : Nat} {G : Nat → Gd} (H : Iv w g p u G) {a b : Nat} (ha : (a : Int) ≤ g 0) (hb : (b : Int) ≤ g 1) : Rz w g p u G (f_X7_shape 0 (I a) (I b) (1 : Int32) w) (I (len (Sg g a b))) := by
  obtain ⟨w1, t, q1, kt, rt, hS, hs, hwb, H1, hf⟩ := t_ask H ha hb
  refine ⟨w1, ?_, H1, fun c d h => hf c d (by omega)⟩
  unfold f_X7_shape
  rw [rfc H.1.1.1 kd_1 (by decide), c1_r (t_corner H ha hb), if_neg n10, if_neg (by decide), if_pos (by decide), c2_r q1, ckc kt (by decide), lt_d, if_neg (by decide), hS.1]
theorem t_fits {w : Wd} {g : Gd} {p u : Nat} {G : Nat → Gd} (H : Iv w g p u G) {C R : Nat} (hC : g 0 = C) (hR : g 1 = R) {q : Int} (hq : 0 ≤ q ∧ q ≤ 3) (hf : RimF g C R q) : Rz w g p u G (f_X7_fits 0 (I q) w) (1 : Int32) := by
  obtain ⟨w1, b1, b2, b4, b7⟩ := t_grown H
  obtain ⟨z1, -⟩ | ⟨-, z2⟩ := s_rimFits b2.1 H.2.1 b4 hC hR hq
  · refine ⟨w1, ?_, b2, fun c d h => b7 c d (by omega)⟩
    unfold f_X7_fits
    rw [c1_r (s_isRule (by omega)), if_pos hq, if_neg n10, c2_r b1, ckc kd_7 (by decide), c1_r z1, lt_d, if_neg n10]
  · exact absurd hf z2
theorem t_longest {w : Wd} {g : Gd} {p u : Nat} {G : Nat → Gd} (H : Iv w g p u G) {C R : Nat} (hC : g 0 = C) (hR : g 1 = R) {z y : Int} {st fl : Bool} (hz : 0 ≤ z ∧ z ≤ 3) (hy : y = 0 ∨ y = 1) (hst : st = true ↔ (z = 1 ∨ z = 3)) (hfl : fl = true ↔ 2 ≤ z) : Rz w g p u G (f_X7_longest 0 (I z) (I y) w) (I (BR st (lV g R fl y) C R)) := by
  obtain ⟨hW, hv, hc, hrc, hd, hrs⟩ := id H
  obtain ⟨w1, b1, b2, b3, b4⟩ := s_bestRow hW hv hc hrs hC hR hz hst hfl hy
  refine ⟨w1, ?_, ⟨by rw [b2]; exact hW, hv, hc.of (fun b => b4 _ _ (by omega)) (fun b => b4 _ _ (by omega)), hrc.of hv (fun a b h => b4 _ _ (by omega)), hd.of (fun b => b4 _ _ (by omega)) (fun a b _ _ => b4 _ _ (by omega)) (fun b => by rw [b2]), b3⟩, fun a b h => b4 _ _ (by omega)⟩
  have x10 : (if I y = (1 : Int32) then (1 : Int32) else (0 : Int32)) = I y := by
    obtain rfl | rfl := hy
    · rfl
    · rfl
  unfold f_X7_longest
  rw [if_neg (show ¬ I z < 0 by rw [i0, I_lt (by omega) (by omega) (by omega) (by omega)]; omega), if_neg (show ¬ (4 : Int32) ≤ I z by rw [i4, I_le (by omega) (by omega) (by omega) (by omega)]; omega), if_neg (show ¬ I y < 0 by rw [i0, I_lt (by omega) (by omega) (by omega) (by omega)]; omega), if_pos (show I y ≤ (1 : Int32) by rw [i1, I_le (by omega) (by omega) (by omega) (by omega)]; omega), rfc hW.1.2.2.2.2.1 kd_84 (by decide), rfc hW.1.1 kd_1 (by decide), x10, lt_d, c2_r b1]
theorem t_back {w : Wd} {g : Gd} {p u : Nat} {G : Nat → Gd} (H : Iv w g p u G) {C R : Nat} (hC : g 0 = C) (hR : g 1 = R) {q : Int} (d : 0 ≤ q ∧ q ≤ 3) (z2 : RimF g C R q) (all3 : All3 q g C R) : ∃ w', f_X7_back 0 (I q) w = some (I (dif g (grd C R q (SNf q g C R)) 25), w') ∧ Iv w' (grd C R q (SNf q g C R)) (pshP p) 0 (pshG p G g) ∧ ∀ a b, 139 ≤ a → w'.1 a b = w.1 a b := by
  have hv := H.2.1
  have v1 := hv.1; have v2 := hv.2.1
  obtain ⟨w1, b1, H1, b4, b7⟩ := t_grown H
  have hW1 := H1.1
  obtain ⟨z1, -⟩ | ⟨-, zz⟩ := s_rimFits hW1 hv b4 hC hR d
  · have H0 : Iv (upI w1 0 5 (I 0)) g p u G := H1.of rfl (Or.inl (upI_s _ _ _ _)) (fun a b h => upI_n (by omega))
    have cp : f_X0_copyFrom 3 1 (upI w1 0 5 (I 0)) = some (cpg (upI w1 0 5 (I 0)) 3 1) := s_copyFrom kd_3 (hW1.2.1 _ kd_3) kd_1 (hW1.2.1 _ kd_1) (by decide)
    have c3 : CG (cpg (upI w1 0 5 (I 0)) 3 1) 3 g := cpg_CG H0.2.2.1
    have fb : ∀ a b, a ≠ 3 → a ≠ 4 → ¬ (a = 0 ∧ b = 5) → (upI (cpg (upI w1 0 5 (I 0)) 3 1) 3 2 (I q)).1 a b = w1.1 a b := fun a b h1 h2 h3 => by rw [upI_n (by omega), cpg_o (by omega) (by omega), upI_n (by omega)]
    have fz : (upI (cpg (upI w1 0 5 (I 0)) 3 1) 3 2 (I q)).1 0 5 = I 0 := by rw [upI_n (by omega), cpg_o (by omega) (by omega), upI_s]
    have h30 : (upI (cpg (upI w1 0 5 (I 0)) 3 1) 3 2 (I q)).1 3 0 = I C := by rw [upI_n (by omega), c3.1, hC]
    have h31 : (upI (cpg (upI w1 0 5 (I 0)) 3 1) 3 2 (I q)).1 3 1 = I R := by rw [upI_n (by omega), c3.2.1, hR]
    have h32 : (upI (cpg (upI w1 0 5 (I 0)) 3 1) 3 2 (I q)).1 3 2 = I q := by rw [upI_s]
    have h4 : ∀ p, p < 25 → (upI (cpg (upI w1 0 5 (I 0)) 3 1) 3 2 (I q)).1 4 p = I (g (3 + p)) := fun p hp => by rw [upI_n (by omega)]; exact c3.2.2.2 p hp
    have eb : (upI (cpg (upI w1 0 5 (I 0)) 3 1) 3 2 (I q)).2 = w1.2 := rfl
    have cls : ∀ v wl, f_X1_goBackInto 7 3 (upI (cpg (upI w1 0 5 (I 0)) 3 1) 3 2 (I q)) = some (v, wl) → f_X7_back 0 (I q) w = (if v ≤ (3 : Int32) then rf 139 (wl.2 0 0) 0 (fun t29 => rf 139 (wl.2 0 1) 0 (fun t31 => c1 (f_X0_differing t29 t31 wl) (fun v34 => c1 (f_X7_beginDeed 0 wl) (fun w36 => rf 139 (w36.2 0 0) 0 (fun t37 => rf 139 (w36.2 0 1) 0 (fun t39 => c1 (f_X0_copyFrom t37 t39 w36) (fun w42 => some (v34, w42)))))))) else some ((-5 : Int32), wl)) := fun v wl hgb => by
      unfold f_X7_back
      rw [c1_r (s_isRule (by omega)), if_pos d, if_neg n10, c2_r b1, ckc kd_7 (by decide), c1_r z1, if_neg n10, i0, lt_d, rfc (show (upI w1 0 5 (I 0)).2 0 1 = some 3 from hW1.1.2.1) kd_3 (by decide), rfc (show (upI w1 0 5 (I 0)).2 0 0 = some 1 from hW1.1.1) kd_1 (by decide), c1_r cp, rfc (show (cpg (upI w1 0 5 (I 0)) 3 1).2 0 1 = some 3 from hW1.1.2.1) kd_3 (by decide), lt_d, rfc (show (upI (cpg (upI w1 0 5 (I 0)) 3 1) 3 2 (I q)).2 0 4 = some 7 from hW1.1.2.2.2.1) kd_7 (by decide), rfc (show (upI (cpg (upI w1 0 5 (I 0)) 3 1) 3 2 (I q)).2 0 1 = some 3 from hW1.1.2.1) kd_3 (by decide), c2_r hgb]
    generalize upI (cpg (upI w1 0 5 (I 0)) 3 1) 3 2 (I q) = wb at *
    have hWb : Wi wb.2 := by rw [eb]; exact hW1
    have gb : GrC wb g := b4.of hv (fun b h => fb _ _ (by omega) (by omega) (by omega)) (fun a b h1 h2 h3 => fb _ _ (by omega) (by omega) (by omega))
    obtain ⟨gm, wc, k1, k2, k3, k4, k5⟩ := s_goBackInto hWb d hv hC hR z2 gb h30 h31 h32 h4
    have cls := cls _ _ k1
    have Hc : Iv wc g p u G := H1.of (by rw [k2, eb]) (Or.inl (by rw [k5 _ _ (by omega) (by omega), fz])) (fun a b h => by rw [k5 _ _ (by omega) (by omega), fb _ _ (by omega) (by omega) (by omega)])
    have hWc := Hc.1
    have a3 : gm ≤ 3 := k3.2.2 (fun i j h1 h2 _ => all3 i j h1 h2)
    have sb := SN_b d hv hC hR z2
    have hgv := SN_V d hv hC hR z2 all3
    have cf : CG wc 3 (grd C R q (SNf q g C R)) := grd_CG (by rw [k5 _ _ (by omega) (by omega), h30]) (by rw [k5 _ _ (by omega) (by omega), h31]) (by rw [k5 _ _ (by omega) (by omega), h32]) (fun p hp => by rw [k4 p hp, SN_f hv hC hR hp])
    have df := s_differing kd_1 (hWc.2.1 _ kd_1) kd_3 (hWc.2.1 _ kd_3) Hc.2.2.1 cf (fun j hj => ⟨by have := hv.g0 hj; omega, by rw [grd_n]; have := sb j; omega⟩)
    obtain ⟨w4, d1, d2, d3, d5, d6⟩ := Hc.deed
    have cp2 : f_X0_copyFrom 1 3 w4 = some (cpg w4 1 3) := s_copyFrom kd_1 (d2.2.1 _ kd_1) kd_3 (d2.2.1 _ kd_3) (by decide)
    have cf4 : CG w4 3 (grd C R q (SNf q g C R)) := cf.of (fun b => d5 _ _ (by omega) (by omega) (by omega)) (fun b => d5 _ _ (by omega) (by omega) (by omega))
    obtain ⟨y1, y2⟩ := d6 (cpg w4 1 3) (grd C R q (SNf q g C R)) rfl (fun a b h1 h2 => cpg_o h1 (by omega)) hgv (cpg_CG cf4)
    refine ⟨_, ?_, y1, fun a b h => by rw [y2 _ _ h, k5 _ _ (by omega) (by omega), fb _ _ (by omega) (by omega) (by omega), b7 _ _ (by omega)]⟩
    rw [cls, if_pos (show I gm ≤ (3 : Int32) by rw [i3, I_le (by have := k3.1; omega) (by have := k3.1; omega) (by omega) (by omega)]; exact a3), rfc hWc.1.1 kd_1 (by decide), rfc hWc.1.2.1 kd_3 (by decide), c1_r df, c1_r d1, rfc d2.1.1 kd_1 (by decide), rfc d2.1.2.1 kd_3 (by decide), c1_r cp2]
  · exact absurd z2 zz
end
section
/-! back by the own rule: OLD and the worth come again -/
theorem ov_1 {r o a b c : Int} (hr : 0 ≤ r ∧ r ≤ 3) (hc : 0 ≤ c) (h1 : o ≤ a) (h2 : o ≤ b) (ha : eR r = 1 → a ≤ o + 1) (hb : eC r = 1 → b ≤ o + 1) : bO r (gN r o a b c) a b (c + (a + b - o - gN r o a b c)) = o := by
  have m := mx_c a b
  have l := lo_c a b
  obtain rfl | rfl | rfl | rfl : r = 0 ∨ r = 1 ∨ r = 2 ∨ r = 3 := by omega
  · show lo a b - (c + (a + b - o - (mx a b + c))) = o
    omega
  · have hb := hb rfl
    have m2 := mx_c (a + c) b
    show lo a (b - (c + (a + b - o - mx (a + c) b))) = o
    have l2 := lo_c a (b - (c + (a + b - o - mx (a + c) b)))
    omega
  · have ha := ha rfl
    have m2 := mx_c a (b + c)
    show lo (a - (c + (a + b - o - mx a (b + c)))) b = o
    have l2 := lo_c (a - (c + (a + b - o - mx a (b + c)))) b
    omega
  · have ha := ha rfl
    have hb := hb rfl
    show lo a b - lo (tri (mx a b + lo (tri o a b) c) a b) (c + (a + b - o - (mx a b + lo (tri o a b) c))) = o
    have t : (o = a ∧ a = b ∧ tri o a b = 1) ∨ (¬ (o = a ∧ a = b) ∧ tri o a b = 0) := by unfold tri; (repeat' split) <;> omega
    have l2 := lo_c (tri o a b) c
    generalize hn : mx a b + lo (tri o a b) c = n
    have t2 : (n = a ∧ a = b ∧ tri n a b = 1) ∨ (¬ (n = a ∧ a = b) ∧ tri n a b = 0) := by unfold tri; (repeat' split) <;> omega
    have l3 := lo_c (tri n a b) (c + (a + b - o - n))
    omega
/-- the carry at i of growing is the carry ahead of i of going back -/
theorem ov_c {r w W : Int} {o a b n : Nat → Int} (hr : 0 ≤ r ∧ r ≤ 3) (hw : 0 ≤ w) (ho : ∀ k, 0 ≤ o k) (Sa : Sp (eR r) o a) (Sb : Sp (eC r) o b) (hn : n = gp r w o a b) (Gn : Gs n W) : ∀ d, d ≤ len n → bc r n a b (len n) d = gc r w o a b (len n - d) := by
  intro d
  induction d with
  | zero =>
    intro _
    have h := (gp_pt hr hw ho Sa.1 Sb.1 (len n)).2.2 (by rw [← hn]; exact len_z Gn (Nat.le_refl _))
    rw [Nat.sub_zero, h]
    rfl
  | succ d ih =>
    intro hd
    have e1 : len n - d = (len n - 1 - d) + 1 := by omega
    have e2 : len n - (d + 1) = len n - 1 - d := by omega
    have e : bc r n a b (len n) (d + 1) = bc r n a b (len n) d + (n (len n - 1 - d) + bO r (n (len n - 1 - d)) (a (len n - 1 - d)) (b (len n - 1 - d)) (bc r n a b (len n) d) - a (len n - 1 - d) - b (len n - 1 - d)) := rfl
    have ih := ih (by omega)
    rw [e1] at ih
    rw [e, ih, e2]
    generalize len n - 1 - d = i
    have s : gc r w o a b (i + 1) = gc r w o a b i + (a i + b i - o i - gN r (o i) (a i) (b i) (gc r w o a b i)) := rfl
    have ni : n i = gN r (o i) (a i) (b i) (gc r w o a b i) := by rw [hn]; rfl
    have v := ov_1 hr (gc_b hr hw ho Sa.1 Sb.1 i) (Sa.1 i) (Sb.1 i) (fun h => Sa.2.2 h i) (fun h => Sb.2.2 h i)
    rw [s, ni, v]
    omega
theorem ov_o {r w W : Int} {o a b n : Nat → Int} (hr : 0 ≤ r ∧ r ≤ 3) (hw : 0 ≤ w) (ho : ∀ k, 0 ≤ o k) (Sa : Sp (eR r) o a) (Sb : Sp (eC r) o b) (hn : n = gp r w o a b) (Gn : Gs n W) (k : Nat) : bo r n a b k = o k := by
  by_cases c : k < len n
  · unfold bo
    rw [if_pos c, ov_c hr hw ho Sa Sb hn Gn _ (by omega), show len n - (len n - 1 - k) = k + 1 by omega]
    have s : gc r w o a b (k + 1) = gc r w o a b k + (a k + b k - o k - gN r (o k) (a k) (b k) (gc r w o a b k)) := rfl
    have nk : n k = gN r (o k) (a k) (b k) (gc r w o a b k) := by rw [hn]; rfl
    rw [s, nk]
    exact ov_1 hr (gc_b hr hw ho Sa.1 Sb.1 k) (Sa.1 k) (Sb.1 k) (fun h => Sa.2.2 h k) (fun h => Sb.2.2 h k)
  · rw [bo_z (by omega)]
    have h1 := (gp_pt hr hw ho Sa.1 Sb.1 k).1
    rw [← hn, len_z Gn (by omega)] at h1
    have h2 := Sa.1 k
    have h3 := ho k
    omega
theorem ov_m {r w W : Int} {o a b n : Nat → Int} (hr : 0 ≤ r ∧ r ≤ 3) (hw : 0 ≤ w) (ho : ∀ k, 0 ≤ o k) (Sa : Sp (eR r) o a) (Sb : Sp (eC r) o b) (hn : n = gp r w o a b) (Gn : Gs n W) : bm r n a b = w := by
  unfold bm
  rw [ov_c hr hw ho Sa Sb hn Gn _ (Nat.le_refl _), Nat.sub_self]
  rfl
theorem ov_cell {g : Gd} (hv : GV g) {x y : Nat} (hx : x < 5) (hy : y < 5) : bo (g 2) (Sg g (x + 1) (y + 1)) (Sg g x (y + 1)) (Sg g (x + 1) y) = Sg g x y ∧ bm (g 2) (Sg g (x + 1) (y + 1)) (Sg g x (y + 1)) (Sg g (x + 1) y) = wts g x y := by
  have ko := (Sg_ok hv (x := x) (y := y) (by omega) (by omega)).1
  have ka := (Sg_ok hv (x := x) (y := y + 1) (by omega) (by omega)).2.1 (by omega)
  have kb := (Sg_ok hv (x := x + 1) (y := y) (by omega) (by omega)).2.2 (by omega)
  have kn := (Sg_ok hv (x := x + 1) (y := y + 1) (by omega) (by omega)).1
  have hw := (wts_b hv x hx y hy).1
  have hn : Sg g (x + 1) (y + 1) = gp (g 2) (wts g x y) (Sg g x y) (Sg g x (y + 1)) (Sg g (x + 1) y) := rfl
  exact ⟨funext fun k => ov_o hv.2.2.1 hw ko.1 ka kb hn kn k, ov_m hv.2.2.1 hw ko.1 ka kb hn kn⟩
theorem BK_own {g : Gd} {C R : Nat} (hv : GV g) (hC : g 0 = C) (hR : g 1 = R) : ∀ i, i ≤ C → ∀ j, j ≤ R → BK (g 2) g C R i j = Sg g (C - i) (R - j) := by
  have v1 := hv.1; have v2 := hv.2.1
  intro i
  induction i with
  | zero => exact fun _ j _ => rfl
  | succ i ih =>
    intro hi j
    induction j with
    | zero => exact fun _ => rfl
    | succ j ihj =>
      intro hj
      rw [BK_s, ih (by omega) j (by omega), ihj (by omega), ih (by omega) (j + 1) hj]
      have e1 : C - i = (C - (i + 1)) + 1 := by omega
      have e2 : R - j = (R - (j + 1)) + 1 := by omega
      rw [e1, e2]
      exact (ov_cell hv (by omega) (by omega)).1
theorem BM_own {g : Gd} {C R : Nat} (hv : GV g) (hC : g 0 = C) (hR : g 1 = R) {i j : Nat} (hi : i < C) (hj : j < R) : BM (g 2) g C R i j = wts g (C - 1 - i) (R - 1 - j) := by
  have v1 := hv.1; have v2 := hv.2.1
  unfold BM
  rw [BK_own hv hC hR i (by omega) j (by omega), BK_own hv hC hR (i + 1) (by omega) j (by omega), BK_own hv hC hR i (by omega) (j + 1) (by omega)]
  have e1 : C - i = (C - 1 - i) + 1 := by omega
  have e2 : R - j = (R - 1 - j) + 1 := by omega
  rw [e1, e2, show C - (i + 1) = C - 1 - i by omega, show R - (j + 1) = R - 1 - j by omega]
  exact (ov_cell hv (by omega) (by omega)).2
theorem all_own {g : Gd} {C R : Nat} (hv : GV g) (hC : g 0 = C) (hR : g 1 = R) : All3 (g 2) g C R := fun i j hi hj => by
  have v1 := hv.1; have v2 := hv.2.1
  rw [BM_own hv hC hR hi hj]
  exact (wts_b hv _ (by omega) _ (by omega)).2
theorem SN_own {g : Gd} {C R : Nat} (hv : GV g) (hC : g 0 = C) (hR : g 1 = R) {x y : Nat} (hx : x < C) (hy : y < R) : SNf (g 2) g C R (5 * x + y) = wts g x y := by
  have v1 := hv.1; have v2 := hv.2.1
  unfold SNf SN
  rw [show (5 * x + y) / 5 = x by omega, show (5 * x + y) % 5 = y by omega, if_pos (by omega), BM_own hv hC hR (by omega) (by omega), show C - 1 - (C - 1 - x) = x by omega, show R - 1 - (R - 1 - y) = y by omega]
theorem SN_out {g : Gd} {C R : Nat} {q : Int} {p : Nat} (h : ¬ (p / 5 < C ∧ p % 5 < R)) : SNf q g C R p = 0 := by
  unfold SNf SN
  rw [if_neg (fun z => h z.1)]
theorem rim_own {g : Gd} {C R : Nat} (hv : GV g) (hC : g 0 = C) (hR : g 1 = R) : RimF g C R (g 2) := by
  have v1 := hv.1; have v2 := hv.2.1
  refine ⟨fun x hx => ?_, fun y hy => ?_⟩
  · exact (Sg_ok hv (x := x + 1) (y := R) (by omega) (by omega)).2.2 (by omega)
  · exact (Sg_ok hv (x := C) (y := y + 1) (by omega) (by omega)).2.1 (by omega)
/-- the grid that comes: its worths are the old ones -/
def gown (g : Gd) (C R : Nat) : Gd := grd C R (g 2) (SNf (g 2) g C R)
theorem gown_0 (g : Gd) (C R : Nat) : gown g C R 0 = C := rfl
theorem gown_1 (g : Gd) (C R : Nat) : gown g C R 1 = R := rfl
theorem gown_2 (g : Gd) (C R : Nat) : gown g C R 2 = g 2 := rfl
theorem gown_V {g : Gd} {C R : Nat} (hv : GV g) (hC : g 0 = C) (hR : g 1 = R) : GV (gown g C R) := SN_V hv.2.2.1 hv hC hR (rim_own hv hC hR) (all_own hv hC hR)
theorem gown_n {g : Gd} {C R : Nat} (hv : GV g) (hC : g 0 = C) (hR : g 1 = R) {x y : Nat} (hx : x < C) (hy : y < R) : gown g C R (3 + (5 * x + y)) = wts g x y := by
  unfold gown
  rw [grd_n, SN_own hv hC hR hx hy]
theorem worth_2 (r v : Int) : worth r (worth r v) = worth r v := by
  unfold worth
  repeat' split
  all_goals omega
theorem gown_w {g : Gd} {C R : Nat} (hv : GV g) (hC : g 0 = C) (hR : g 1 = R) {x y : Nat} (hx : x < C) (hy : y < R) : wts (gown g C R) x y = wts g x y := by
  unfold wts
  rw [gown_n hv hC hR hx hy, gown_2]
  exact worth_2 _ _
end
section
/-! sums over cells, over parts -/
theorem csum_c {f h : Nat → Int} : ∀ y, (∀ b, b < y → f b = h b) → csum f y = csum h y
  | 0, _ => rfl
  | y + 1, e => by
    show csum f y + f y = csum h y + h y
    rw [csum_c y (fun b hb => e b (by omega)), e y (by omega)]
theorem WS_c {f h : Nat → Nat → Int} {y : Nat} : ∀ x, (∀ a b, a < x → b < y → f a b = h a b) → WS f x y = WS h x y
  | 0, _ => rfl
  | x + 1, e => by
    show WS f x y + csum (f x) y = WS h x y + csum (h x) y
    rw [WS_c x (fun a b ha hb => e a b (by omega) hb), csum_c y (fun b hb => e x b (by omega) hb)]
theorem csum_z {f : Nat → Int} {R : Nat} (h : ∀ b, R ≤ b → f b = 0) : ∀ d, csum f (R + d) = csum f R
  | 0 => rfl
  | d + 1 => by
    show csum f (R + d) + f (R + d) = csum f R
    rw [csum_z h d, h _ (by omega)]
    omega
theorem csum_0 {f : Nat → Int} (h : ∀ b, f b = 0) : ∀ y, csum f y = 0
  | 0 => rfl
  | y + 1 => by
    show csum f y + f y = 0
    rw [csum_0 h y, h y]
    rfl
theorem WS_z {f : Nat → Nat → Int} {C R : Nat} (h : ∀ a b, C ≤ a → f a b = 0) : ∀ d, WS f (C + d) R = WS f C R
  | 0 => rfl
  | d + 1 => by
    show WS f (C + d) R + csum (f (C + d)) R = WS f C R
    rw [WS_z h d, csum_0 (fun b => h _ b (by omega))]
    omega
theorem WS_r {f : Nat → Nat → Int} {R : Nat} (h : ∀ a b, R ≤ b → f a b = 0) (e : Nat) : ∀ x, WS f x (R + e) = WS f x R
  | 0 => rfl
  | x + 1 => by
    show WS f x (R + e) + csum (f x) (R + e) = WS f x R + csum (f x) R
    rw [WS_r h e x, csum_z (fun b hb => h x b hb) e]
/-- where two grids differ -/
def neq (g f : Gd) (x y : Nat) : Int := if g (3 + (5 * x + y)) = f (3 + (5 * x + y)) then 0 else 1
theorem dif_r (g f : Gd) (x : Nat) : ∀ y, dif g f (5 * x + y) = dif g f (5 * x) + csum (neq g f x) y
  | 0 => by show _ = _ + (0 : Int); rw [Nat.add_zero]; omega
  | y + 1 => by
    show dif g f (5 * x + y) + (if g (3 + (5 * x + y)) = f (3 + (5 * x + y)) then 0 else 1) = dif g f (5 * x) + (csum (neq g f x) y + neq g f x y)
    rw [dif_r g f x y]
    show dif g f (5 * x) + csum (neq g f x) y + neq g f x y = _
    omega
theorem dif_s (g f : Gd) : ∀ x, dif g f (5 * x) = WS (neq g f) x 5
  | 0 => rfl
  | x + 1 => by
    show dif g f (5 * x + 5) = WS (neq g f) x 5 + csum (neq g f x) 5
    rw [dif_r g f x 5, dif_s g f x]
/-- how many numbers are not what their cell is worth -/
def nw (g : Gd) (x y : Nat) : Int := if g (3 + (5 * x + y)) = wts g x y then 0 else 1
def nz2 (g f : Gd) (C R x y : Nat) : Int := if x < C ∧ y < R then neq g f x y else 0
theorem dif_own {g : Gd} {C R : Nat} (hv : GV g) (hC : g 0 = C) (hR : g 1 = R) : dif g (gown g C R) 25 = WS (nw g) C R := by
  have v1 := hv.1; have v2 := hv.2.1
  have e0 : dif g (gown g C R) 25 = WS (neq g (gown g C R)) 5 5 := dif_s g (gown g C R) 5
  have e1 : WS (neq g (gown g C R)) 5 5 = WS (nz2 g (gown g C R) C R) 5 5 := WS_c 5 (fun a b ha hb => by
    unfold nz2
    by_cases c : a < C ∧ b < R
    · rw [if_pos c]
    · rw [if_neg c]
      unfold neq gown
      rw [hv.2.2.2.2 (5 * a + b) (by omega) (by rw [show (5 * a + b) / 5 = a by omega, show (5 * a + b) % 5 = b by omega]; omega), grd_n, SN_out (by rw [show (5 * a + b) / 5 = a by omega, show (5 * a + b) % 5 = b by omega]; exact c), if_pos rfl])
  have e2 : WS (nz2 g (gown g C R) C R) 5 5 = WS (nz2 g (gown g C R) C R) 5 R := by
    have h := WS_r (f := nz2 g (gown g C R) C R) (R := R) (fun a b hb => if_neg (by omega)) (5 - R) 5
    rw [show R + (5 - R) = 5 by omega] at h
    exact h
  have e3 : WS (nz2 g (gown g C R) C R) 5 R = WS (nz2 g (gown g C R) C R) C R := by
    have h := WS_z (f := nz2 g (gown g C R) C R) (C := C) (R := R) (fun a b ha => if_neg (by omega)) (5 - C)
    rw [show C + (5 - C) = 5 by omega] at h
    exact h
  rw [e0, e1, e2, e3]
  refine WS_c C (fun a b ha hb => ?_)
  unfold nz2 neq nw
  rw [if_pos ⟨ha, hb⟩, gown_n hv hC hR ha hb]
theorem nw_b (g : Gd) (x y : Nat) : 0 ≤ nw g x y ∧ nw g x y ≤ 3 := by
  unfold nw
  split <;> omega
/-- sums of what is turned -/
def tsm (s : Nat → Int) (n : Nat) : Nat → Int
  | 0 => 0
  | j + 1 => tsm s n j + (abv s j n : Int)
theorem tsm_b (s : Nat → Int) (n : Nat) : ∀ j, 0 ≤ tsm s n j ∧ tsm s n j ≤ (n : Int) * j
  | 0 => by show (0 : Int) ≤ 0 ∧ (0 : Int) ≤ (n : Int) * (0 : Nat); simp
  | j + 1 => by
    have h := tsm_b s n j
    have h2 := abv_le s j n
    show 0 ≤ tsm s n j + (abv s j n : Int) ∧ tsm s n j + (abv s j n : Int) ≤ (n : Int) * ((j + 1 : Nat) : Int)
    have e : (n : Int) * ((j + 1 : Nat) : Int) = (n : Int) * (j : Int) + n := by
      rw [show ((j + 1 : Nat) : Int) = (j : Int) + 1 by omega, Int.mul_add, Int.mul_one]
    rw [e]
    omega
def blw (v : Int) : Nat → Int
  | 0 => 0
  | j + 1 => blw v j + if (j : Int) < v then 1 else 0
theorem blw_v {v : Int} (h : 0 ≤ v) : ∀ j : Nat, blw v j = if (j : Int) ≤ v then (j : Int) else v
  | 0 => by rw [if_pos (by omega)]; rfl
  | j + 1 => by
    show blw v j + (if (j : Int) < v then 1 else 0) = _
    rw [blw_v h j]
    (repeat' split) <;> omega
theorem tsm_s (s : Nat → Int) (n : Nat) : ∀ J, tsm s (n + 1) J = tsm s n J + blw (s n) J
  | 0 => rfl
  | J + 1 => by
    show tsm s (n + 1) J + ((abv s J (n + 1) : Nat) : Int) = tsm s n J + (abv s J n : Int) + (blw (s n) J + if (J : Int) < s n then 1 else 0)
    rw [tsm_s s n J, abv_s]
    omega
theorem tsm_0 (s : Nat → Int) : ∀ J, tsm s 0 J = 0
  | 0 => rfl
  | J + 1 => by
    show tsm s 0 J + ((0 : Nat) : Int) = 0
    rw [tsm_0 s J]
    rfl
theorem tsm_t {s : Nat → Int} {J : Nat} (h : ∀ k, 0 ≤ s k ∧ s k ≤ J) : ∀ n, tsm s n J = tsum s n
  | 0 => tsm_0 s J
  | n + 1 => by
    show _ = tsum s n + s n
    have h2 := h n
    rw [tsm_s, tsm_t h n, blw_v h2.1]
    (repeat' split) <;> omega
theorem tsm_W {s : Nat → Int} {W : Int} (hs : Gs s W) (hb : W ≤ 75) : tsm s (len s) 77 = W := by
  rw [tsm_t (J := 77) (fun k => ⟨hs.1 k, by have := hs.b k; omega⟩), tsum_len hs]
theorem abv_d (s : Nat → Int) (j : Int) : ∀ n, abv s (j + 1) n ≤ abv s j n
  | 0 => Nat.le_refl _
  | n + 1 => by
    have h := abv_d s j n
    show abv s (j + 1) n + (if j + 1 < s n then 1 else 0) ≤ abv s j n + (if j < s n then 1 else 0)
    (repeat' split) <;> omega
theorem abv_0 {s : Nat → Int} {W : Int} (hs : Gs s W) : abv s 0 (len s) = len s := by
  have h : ∀ n, abv s 0 n = cnt s n := fun n => by
    induction n with
    | zero => rfl
    | succ n ih =>
      show abv s 0 n + (if 0 < s n then 1 else 0) = cnt s n + (if 0 < s n then 1 else 0)
      rw [ih]
  have hl := len_b s
  have e := abv_len hs (j := 0) (Int.le_refl _) (75 - len s)
  rw [show len s + (75 - len s) = 75 by omega, h 75] at e
  exact e.symm
end
