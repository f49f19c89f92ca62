def RX0 : String := "TwoSidedTables$Acts"
def TX0 : u_T := fun k => match k with
  | 0 => ("TwoSidedTables$Acts", "kind", "I", false)
  | 1 => ("TwoSidedTables$Acts", "number", "I", false)
  | 2 => ("TwoSidedTables$Acts", "shift", "I", false)
  | 3 => ("TwoSidedTables$Acts", "count", "I", false)
  | 4 => ("TwoSidedTables$Acts", "isParted", "Z", false)
  | _ => ("TwoSidedTables$Acts", "bodies", "[I", true)
def tyX0 : Nat → FieldType := fun k => match k with
  | 0 => .int
  | 1 => .int
  | 2 => .int
  | 3 => .int
  | 4 => .boolean
  | _ => .array .int
abbrev wsX00 : List Cond := u_ws RX0 TX0 6
theorem nmX0 : ∀ a, a < 6 → ∀ b, b < 6 → a ≠ b → (TX0 a).2.1 ≠ (TX0 b).2.1 := by decide +kernel
theorem tyX0_ok : ∀ k, k < 6 → parseFieldDescriptor (TX0 k).2.2.1 = some (tyX0 k) := by decide +kernel
abbrev cX0_init : ByteArray := prog_2_method_1_code
def yX0_init : MethodName := ⟨RX0, "<init>", "()V"⟩
abbrev cX0_forget : ByteArray := prog_2_method_2_code
def yX0_forget : MethodName := ⟨RX0, "forget", "()V"⟩
abbrev cX0_run : ByteArray := prog_2_method_3_code
def yX0_run : MethodName := ⟨RX0, "run", "(II)I"⟩
abbrev cX0_begin : ByteArray := prog_2_method_4_code
def yX0_begin : MethodName := ⟨RX0, "begin", "(I)V"⟩
abbrev cX0_weighs : ByteArray := prog_2_method_5_code
def yX0_weighs : MethodName := ⟨RX0, "weighs", "(II)I"⟩
abbrev cX0_turns : ByteArray := prog_2_method_6_code
def yX0_turns : MethodName := ⟨RX0, "turns", "(II)I"⟩
abbrev cX0_parts : ByteArray := prog_2_method_7_code
def yX0_parts : MethodName := ⟨RX0, "parts", "(II)I"⟩
abbrev cX0_closes : ByteArray := prog_2_method_8_code
def yX0_closes : MethodName := ⟨RX0, "closes", "(II)I"⟩
def RX1 : String := "TwoSidedTables$Grid"
def TX1 : u_T := fun k => match k with
  | 0 => ("TwoSidedTables$Grid", "rows", "I", false)
  | 1 => ("TwoSidedTables$Grid", "columns", "I", false)
  | 2 => ("TwoSidedTables$Grid", "rank", "I", false)
  | 3 => ("TwoSidedTables$Grid", "below", "J", false)
  | 4 => ("TwoSidedTables$Grid", "isTurnedOver", "Z", false)
  | 5 => ("TwoSidedTables$Grid", "cells", "[J", true)
  | _ => ("TwoSidedTables$Grid", "pivotRows", "[I", true)
def tyX1 : Nat → FieldType := fun k => match k with
  | 0 => .int
  | 1 => .int
  | 2 => .int
  | 3 => .long
  | 4 => .boolean
  | 5 => .array .long
  | _ => .array .int
abbrev wsX10 : List Cond := u_ws RX1 TX1 7
theorem nmX1 : ∀ a, a < 7 → ∀ b, b < 7 → a ≠ b → (TX1 a).2.1 ≠ (TX1 b).2.1 := by decide +kernel
theorem tyX1_ok : ∀ k, k < 7 → parseFieldDescriptor (TX1 k).2.2.1 = some (tyX1 k) := by decide +kernel
abbrev cX1_init : ByteArray := prog_3_method_1_code
def yX1_init : MethodName := ⟨RX1, "<init>", "()V"⟩
abbrev cX1_clear : ByteArray := prog_3_method_2_code
def yX1_clear : MethodName := ⟨RX1, "clear", "(II)V"⟩
abbrev cX1_hasCell : ByteArray := prog_3_method_3_code
def yX1_hasCell : MethodName := ⟨RX1, "hasCell", "(II)Z"⟩
abbrev cX1_cell : ByteArray := prog_3_method_4_code
def yX1_cell : MethodName := ⟨RX1, "cell", "(II)J"⟩
abbrev cX1_write : ByteArray := prog_3_method_5_code
def yX1_write : MethodName := ⟨RX1, "write", "(IIJ)V"⟩
abbrev cX1_add : ByteArray := prog_3_method_6_code
def yX1_add : MethodName := ⟨RX1, "add", "(IIJ)V"⟩
abbrev cX1_fillTurned : ByteArray := prog_3_method_7_code
def yX1_fillTurned : MethodName := ⟨RX1, "fillTurned", "(LTwoSidedTables$Grid;)V"⟩
abbrev cX1_eliminate : ByteArray := prog_3_method_8_code
def yX1_eliminate : MethodName := ⟨RX1, "eliminate", "()V"⟩
abbrev cX1_firstFilled : ByteArray := prog_3_method_9_code
def yX1_firstFilled : MethodName := ⟨RX1, "firstFilled", "(I)I"⟩
abbrev cX1_swapRows : ByteArray := prog_3_method_10_code
def yX1_swapRows : MethodName := ⟨RX1, "swapRows", "(II)V"⟩
abbrev cX1_sweep : ByteArray := prog_3_method_11_code
def yX1_sweep : MethodName := ⟨RX1, "sweep", "(II)V"⟩
abbrev cX1_isSolvable : ByteArray := prog_3_method_12_code
def yX1_isSolvable : MethodName := ⟨RX1, "isSolvable", "()Z"⟩
abbrev cX1_isFree : ByteArray := prog_3_method_13_code
def yX1_isFree : MethodName := ⟨RX1, "isFree", "(I)Z"⟩
abbrev cX1_freeSet : ByteArray := prog_3_method_14_code
def yX1_freeSet : MethodName := ⟨RX1, "freeSet", "()I"⟩
abbrev cX1_isPivot : ByteArray := prog_3_method_15_code
def yX1_isPivot : MethodName := ⟨RX1, "isPivot", "(I)Z"⟩
abbrev cX1_solutionAbove : ByteArray := prog_3_method_16_code
def yX1_solutionAbove : MethodName := ⟨RX1, "solutionAbove", "(I)J"⟩
abbrev cX1_baseAbove : ByteArray := prog_3_method_17_code
def yX1_baseAbove : MethodName := ⟨RX1, "baseAbove", "(II)J"⟩
abbrev cX1_determinant : ByteArray := prog_3_method_18_code
def yX1_determinant : MethodName := ⟨RX1, "determinant", "()J"⟩
def RX2 : String := "TwoSidedTables$Sheet"
def TX2 : u_T := fun k => match k with
  | 0 => ("TwoSidedTables$Sheet", "sort", "I", false)
  | 1 => ("TwoSidedTables$Sheet", "length", "I", false)
  | _ => ("TwoSidedTables$Sheet", "items", "[J", true)
def tyX2 : Nat → FieldType := fun k => match k with
  | 0 => .int
  | 1 => .int
  | _ => .array .long
abbrev wsX20 : List Cond := u_ws RX2 TX2 3
theorem nmX2 : ∀ a, a < 3 → ∀ b, b < 3 → a ≠ b → (TX2 a).2.1 ≠ (TX2 b).2.1 := by decide +kernel
theorem tyX2_ok : ∀ k, k < 3 → parseFieldDescriptor (TX2 k).2.2.1 = some (tyX2 k) := by decide +kernel
abbrev cX2_init : ByteArray := prog_4_method_1_code
def yX2_init : MethodName := ⟨RX2, "<init>", "()V"⟩
abbrev cX2_renew : ByteArray := prog_4_method_2_code
def yX2_renew : MethodName := ⟨RX2, "renew", "(II)V"⟩
abbrev cX2_read : ByteArray := prog_4_method_3_code
def yX2_read : MethodName := ⟨RX2, "read", "(I)J"⟩
abbrev cX2_write : ByteArray := prog_4_method_4_code
def yX2_write : MethodName := ⟨RX2, "write", "(IJ)V"⟩
abbrev cX2_narrowed : ByteArray := prog_4_method_5_code
def yX2_narrowed : MethodName := ⟨RX2, "narrowed", "(J)J"⟩
abbrev cX2_hasStretch : ByteArray := prog_4_method_6_code
def yX2_hasStretch : MethodName := ⟨RX2, "hasStretch", "(II)Z"⟩
def RX3 : String := "TwoSidedTables$Shelf"
def TX3 : u_T := fun k => match k with
  | 0 => ("TwoSidedTables$Shelf", "holds", "I", false)
  | 1 => ("TwoSidedTables$Shelf", "number", "I", false)
  | _ => ("TwoSidedTables$Shelf", "sort", "I", false)
def tyX3 : Nat → FieldType := fun k => match k with
  | 0 => .int
  | 1 => .int
  | _ => .int
abbrev wsX30 : List Cond := u_ws RX3 TX3 3
theorem nmX3 : ∀ a, a < 3 → ∀ b, b < 3 → a ≠ b → (TX3 a).2.1 ≠ (TX3 b).2.1 := by decide +kernel
theorem tyX3_ok : ∀ k, k < 3 → parseFieldDescriptor (TX3 k).2.2.1 = some (tyX3 k) := by decide +kernel
abbrev cX3_init : ByteArray := prog_5_method_1_code
def yX3_init : MethodName := ⟨RX3, "<init>", "()V"⟩
abbrev cX3_hold : ByteArray := prog_5_method_2_code
def yX3_hold : MethodName := ⟨RX3, "hold", "(III)V"⟩
def RX4 : String := "TwoSidedTables$State"
def TX4 : u_T := fun k => match k with
  | 0 => ("TwoSidedTables$State", "m", "I", false)
  | 1 => ("TwoSidedTables$State", "n", "I", false)
  | 2 => ("TwoSidedTables$State", "z", "I", false)
  | 3 => ("TwoSidedTables$State", "count", "I", false)
  | 4 => ("TwoSidedTables$State", "a", "[I", true)
  | 5 => ("TwoSidedTables$State", "b", "[I", true)
  | 6 => ("TwoSidedTables$State", "c", "[I", true)
  | 7 => ("TwoSidedTables$State", "kindList", "[I", true)
  | _ => ("TwoSidedTables$State", "shiftList", "[I", true)
def tyX4 : Nat → FieldType := fun k => match k with
  | 0 => .int
  | 1 => .int
  | 2 => .int
  | 3 => .int
  | 4 => .array .int
  | 5 => .array .int
  | 6 => .array .int
  | 7 => .array .int
  | _ => .array .int
abbrev wsX40 : List Cond := u_ws RX4 TX4 9
theorem nmX4 : ∀ a, a < 9 → ∀ b, b < 9 → a ≠ b → (TX4 a).2.1 ≠ (TX4 b).2.1 := by decide +kernel
theorem tyX4_ok : ∀ k, k < 9 → parseFieldDescriptor (TX4 k).2.2.1 = some (tyX4 k) := by decide +kernel
abbrev cX4_init : ByteArray := prog_6_method_1_code
def yX4_init : MethodName := ⟨RX4, "<init>", "()V"⟩
abbrev cX4_copyFrom : ByteArray := prog_6_method_2_code
def yX4_copyFrom : MethodName := ⟨RX4, "copyFrom", "(LTwoSidedTables$State;)V"⟩
abbrev cX4_resize : ByteArray := prog_6_method_3_code
def yX4_resize : MethodName := ⟨RX4, "resize", "(II)V"⟩
abbrev cX4_rows : ByteArray := prog_6_method_4_code
def yX4_rows : MethodName := ⟨RX4, "rows", "(I)I"⟩
abbrev cX4_columns : ByteArray := prog_6_method_5_code
def yX4_columns : MethodName := ⟨RX4, "columns", "(I)I"⟩
abbrev cX4_hasEntry : ByteArray := prog_6_method_6_code
def yX4_hasEntry : MethodName := ⟨RX4, "hasEntry", "(III)Z"⟩
abbrev cX4_isRoom : ByteArray := prog_6_method_7_code
def yX4_isRoom : MethodName := ⟨RX4, "isRoom", "(II)Z"⟩
abbrev cX4_entry : ByteArray := prog_6_method_8_code
def yX4_entry : MethodName := ⟨RX4, "entry", "(III)I"⟩
abbrev cX4_store : ByteArray := prog_6_method_9_code
def yX4_store : MethodName := ⟨RX4, "store", "(IIII)V"⟩
abbrev cX4_minors : ByteArray := prog_6_method_10_code
def yX4_minors : MethodName := ⟨RX4, "minors", "(II)J"⟩
abbrev cX4_minor : ByteArray := prog_6_method_11_code
def yX4_minor : MethodName := ⟨RX4, "minor", "(III)J"⟩
abbrev cX4_largestMinor : ByteArray := prog_6_method_12_code
def yX4_largestMinor : MethodName := ⟨RX4, "largestMinor", "(I)J"⟩
abbrev cX4_draw : ByteArray := prog_6_method_13_code
def yX4_draw : MethodName := ⟨RX4, "draw", "()V"⟩
abbrev cX4_drawTable : ByteArray := prog_6_method_14_code
def yX4_drawTable : MethodName := ⟨RX4, "drawTable", "(I)V"⟩
abbrev cX4_hasEquation : ByteArray := prog_6_method_15_code
def yX4_hasEquation : MethodName := ⟨RX4, "hasEquation", "(I)Z"⟩
abbrev cX4_kindOf : ByteArray := prog_6_method_16_code
def yX4_kindOf : MethodName := ⟨RX4, "kindOf", "(I)I"⟩
abbrev cX4_shiftOf : ByteArray := prog_6_method_17_code
def yX4_shiftOf : MethodName := ⟨RX4, "shiftOf", "(I)I"⟩
abbrev cX4_become : ByteArray := prog_6_method_18_code
def yX4_become : MethodName := ⟨RX4, "become", "(III)V"⟩
abbrev cX4_hasRight : ByteArray := prog_6_method_19_code
def yX4_hasRight : MethodName := ⟨RX4, "hasRight", "(I)Z"⟩
abbrev cX4_fits : ByteArray := prog_6_method_20_code
def yX4_fits : MethodName := ⟨RX4, "fits", "(I)Z"⟩
abbrev cX4_fittingSet : ByteArray := prog_6_method_21_code
def yX4_fittingSet : MethodName := ⟨RX4, "fittingSet", "()I"⟩
abbrev cX4_splits : ByteArray := prog_6_method_22_code
def yX4_splits : MethodName := ⟨RX4, "splits", "(I)Z"⟩
abbrev cX4_splitSet : ByteArray := prog_6_method_23_code
def yX4_splitSet : MethodName := ⟨RX4, "splitSet", "()I"⟩
abbrev cX4_leftEntry : ByteArray := prog_6_method_24_code
def yX4_leftEntry : MethodName := ⟨RX4, "leftEntry", "(III)I"⟩
abbrev cX4_rightEntry : ByteArray := prog_6_method_25_code
def yX4_rightEntry : MethodName := ⟨RX4, "rightEntry", "(III)I"⟩
abbrev cX4_unknowns : ByteArray := prog_6_method_26_code
def yX4_unknowns : MethodName := ⟨RX4, "unknowns", "(I)I"⟩
abbrev cX4_signAt : ByteArray := prog_6_method_27_code
def yX4_signAt : MethodName := ⟨RX4, "signAt", "(III)I"⟩
abbrev cX4_unknownAt : ByteArray := prog_6_method_28_code
def yX4_unknownAt : MethodName := ⟨RX4, "unknownAt", "(III)I"⟩
def RX5 : String := "TwoSidedTables$Tape"
def TX5 : u_T := fun k => match k with
  | 0 => ("TwoSidedTables$Tape", "count", "I", false)
  | 1 => ("TwoSidedTables$Tape", "place", "I", false)
  | _ => ("TwoSidedTables$Tape", "bytes", "[B", true)
def tyX5 : Nat → FieldType := fun k => match k with
  | 0 => .int
  | 1 => .int
  | _ => .array .byte
abbrev wsX50 : List Cond := u_ws RX5 TX5 3
theorem nmX5 : ∀ a, a < 3 → ∀ b, b < 3 → a ≠ b → (TX5 a).2.1 ≠ (TX5 b).2.1 := by decide +kernel
theorem tyX5_ok : ∀ k, k < 3 → parseFieldDescriptor (TX5 k).2.2.1 = some (tyX5 k) := by decide +kernel
abbrev cX5_init : ByteArray := prog_7_method_1_code
def yX5_init : MethodName := ⟨RX5, "<init>", "()V"⟩
abbrev cX5_take : ByteArray := prog_7_method_2_code
def yX5_take : MethodName := ⟨RX5, "take", "(B)V"⟩
abbrev cX5_tell : ByteArray := prog_7_method_3_code
def yX5_tell : MethodName := ⟨RX5, "tell", "(LTwoSidedTables$State;)I"⟩
abbrev cX5_here : ByteArray := prog_7_method_4_code
def yX5_here : MethodName := ⟨RX5, "here", "(I)I"⟩
abbrev cX5_skipBlanks : ByteArray := prog_7_method_5_code
def yX5_skipBlanks : MethodName := ⟨RX5, "skipBlanks", "()V"⟩
abbrev cX5_stretch : ByteArray := prog_7_method_6_code
def yX5_stretch : MethodName := ⟨RX5, "stretch", "(CC)I"⟩
abbrev cX5_readName : ByteArray := prog_7_method_7_code
def yX5_readName : MethodName := ⟨RX5, "readName", "()I"⟩
abbrev cX5_readTable : ByteArray := prog_7_method_8_code
def yX5_readTable : MethodName := ⟨RX5, "readTable", "(LTwoSidedTables$State;I)Z"⟩
abbrev cX5_readMark : ByteArray := prog_7_method_9_code
def yX5_readMark : MethodName := ⟨RX5, "readMark", "(C)Z"⟩
abbrev cX5_readEntry : ByteArray := prog_7_method_10_code
def yX5_readEntry : MethodName := ⟨RX5, "readEntry", "(LTwoSidedTables$State;III)Z"⟩
def RX6 : String := "TwoSidedTables"
def TX6 : u_T := fun k => match k with
  | 0 => ("TwoSidedTables", "now", "LTwoSidedTables$State;", true)
  | 1 => ("TwoSidedTables", "kept", "LTwoSidedTables$State;", true)
  | 2 => ("TwoSidedTables", "spare", "LTwoSidedTables$State;", true)
  | 3 => ("TwoSidedTables", "isKept", "Z", false)
  | 4 => ("TwoSidedTables", "grid", "LTwoSidedTables$Grid;", true)
  | 5 => ("TwoSidedTables", "witnessGrid", "LTwoSidedTables$Grid;", true)
  | 6 => ("TwoSidedTables", "tape", "LTwoSidedTables$Tape;", true)
  | 7 => ("TwoSidedTables", "acts", "LTwoSidedTables$Acts;", true)
  | 8 => ("TwoSidedTables", "sheets", "[LTwoSidedTables$Sheet;", true)
  | _ => ("TwoSidedTables", "shelves", "[LTwoSidedTables$Shelf;", true)
def tyX6 : Nat → FieldType := fun k => match k with
  | 0 => .object "TwoSidedTables$State"
  | 1 => .object "TwoSidedTables$State"
  | 2 => .object "TwoSidedTables$State"
  | 3 => .boolean
  | 4 => .object "TwoSidedTables$Grid"
  | 5 => .object "TwoSidedTables$Grid"
  | 6 => .object "TwoSidedTables$Tape"
  | 7 => .object "TwoSidedTables$Acts"
  | 8 => .array (.object "TwoSidedTables$Sheet")
  | _ => .array (.object "TwoSidedTables$Shelf")
abbrev wsX60 : List Cond := u_ws RX6 TX6 10
theorem nmX6 : ∀ a, a < 10 → ∀ b, b < 10 → a ≠ b → (TX6 a).2.1 ≠ (TX6 b).2.1 := by decide +kernel
theorem tyX6_ok : ∀ k, k < 10 → parseFieldDescriptor (TX6 k).2.2.1 = some (tyX6 k) := by decide +kernel
abbrev cX6_init : ByteArray := prog_1_method_1_code
def yX6_init : MethodName := ⟨RX6, "<init>", "()V"⟩
abbrev cX6_size : ByteArray := prog_1_method_2_code
def yX6_size : MethodName := ⟨RX6, "size", "(II)I"⟩
abbrev cX6_set : ByteArray := prog_1_method_3_code
def yX6_set : MethodName := ⟨RX6, "set", "(IIII)I"⟩
abbrev cX6_at : ByteArray := prog_1_method_4_code
def yX6_at : MethodName := ⟨RX6, "at", "(III)I"⟩
abbrev cX6_det : ByteArray := prog_1_method_5_code
def yX6_det : MethodName := ⟨RX6, "det", "(I)J"⟩
abbrev cX6_diagonal : ByteArray := prog_1_method_6_code
def yX6_diagonal : MethodName := ⟨RX6, "diagonal", "(I)J"⟩
abbrev cX6_character : ByteArray := prog_1_method_7_code
def yX6_character : MethodName := ⟨RX6, "character", "(II)J"⟩
abbrev cX6_feed : ByteArray := prog_1_method_8_code
def yX6_feed : MethodName := ⟨RX6, "feed", "(JI)I"⟩
abbrev cX6_text : ByteArray := prog_1_method_9_code
def yX6_text : MethodName := ⟨RX6, "text", "()I"⟩
abbrev cX6_equation : ByteArray := prog_1_method_10_code
def yX6_equation : MethodName := ⟨RX6, "equation", "(II)I"⟩
abbrev cX6_of : ByteArray := prog_1_method_11_code
def yX6_of : MethodName := ⟨RX6, "of", "(II)I"⟩
abbrev cX6_change : ByteArray := prog_1_method_12_code
def yX6_change : MethodName := ⟨RX6, "change", "(III)I"⟩
abbrev cX6_right : ByteArray := prog_1_method_13_code
def yX6_right : MethodName := ⟨RX6, "right", "(III)J"⟩
abbrev cX6_solution : ByteArray := prog_1_method_14_code
def yX6_solution : MethodName := ⟨RX6, "solution", "(IIII)J"⟩
abbrev cX6_base : ByteArray := prog_1_method_15_code
def yX6_base : MethodName := ⟨RX6, "base", "(IIIII)J"⟩
abbrev cX6_witness : ByteArray := prog_1_method_16_code
def yX6_witness : MethodName := ⟨RX6, "witness", "(IIII)J"⟩
abbrev cX6_similar : ByteArray := prog_1_method_17_code
def yX6_similar : MethodName := ⟨RX6, "similar", "(I)I"⟩
abbrev cX6_whole : ByteArray := prog_1_method_18_code
def yX6_whole : MethodName := ⟨RX6, "whole", "(I)J"⟩
abbrev cX6_lower : ByteArray := prog_1_method_19_code
def yX6_lower : MethodName := ⟨RX6, "lower", "(II)I"⟩
abbrev cX6_swapped : ByteArray := prog_1_method_20_code
def yX6_swapped : MethodName := ⟨RX6, "swapped", "()I"⟩
abbrev cX6_stable : ByteArray := prog_1_method_21_code
def yX6_stable : MethodName := ⟨RX6, "stable", "()I"⟩
abbrev cX6_lay : ByteArray := prog_1_method_22_code
def yX6_lay : MethodName := ⟨RX6, "lay", "(II)I"⟩
abbrev cX6_judge : ByteArray := prog_1_method_23_code
def yX6_judge : MethodName := ⟨RX6, "judge", "(III)I"⟩
abbrev cX6_kinds : ByteArray := prog_1_method_24_code
def yX6_kinds : MethodName := ⟨RX6, "kinds", "(II)I"⟩
abbrev cX6_ratio : ByteArray := prog_1_method_25_code
def yX6_ratio : MethodName := ⟨RX6, "ratio", "(JJI)J"⟩
abbrev cX6_seed : ByteArray := prog_1_method_26_code
def yX6_seed : MethodName := ⟨RX6, "seed", "(I)I"⟩
abbrev cX6_lot : ByteArray := prog_1_method_27_code
def yX6_lot : MethodName := ⟨RX6, "lot", "()I"⟩
abbrev cX6_times : ByteArray := prog_1_method_28_code
def yX6_times : MethodName := ⟨RX6, "times", "(II)I"⟩
abbrev cX6_sheet : ByteArray := prog_1_method_29_code
def yX6_sheet : MethodName := ⟨RX6, "sheet", "(III)I"⟩
abbrev cX6_put : ByteArray := prog_1_method_30_code
def yX6_put : MethodName := ⟨RX6, "put", "(IIJ)I"⟩
abbrev cX6_item : ByteArray := prog_1_method_31_code
def yX6_item : MethodName := ⟨RX6, "item", "(III)I"⟩
abbrev cX6_move : ByteArray := prog_1_method_32_code
def yX6_move : MethodName := ⟨RX6, "move", "(IIIII)I"⟩
abbrev cX6_shelf : ByteArray := prog_1_method_33_code
def yX6_shelf : MethodName := ⟨RX6, "shelf", "(III)I"⟩
abbrev cX6_taken : ByteArray := prog_1_method_34_code
def yX6_taken : MethodName := ⟨RX6, "taken", "(II)I"⟩
abbrev cX6_act : ByteArray := prog_1_method_35_code
def yX6_act : MethodName := ⟨RX6, "act", "(III)I"⟩
abbrev cX6_trace : ByteArray := prog_1_method_36_code
def yX6_trace : MethodName := ⟨RX6, "trace", "(I)I"⟩
abbrev cX6_many : ByteArray := prog_1_method_37_code
def yX6_many : MethodName := ⟨RX6, "many", "(I)I"⟩
abbrev cX6_keep : ByteArray := prog_1_method_38_code
def yX6_keep : MethodName := ⟨RX6, "keep", "()I"⟩
abbrev cX6_again : ByteArray := prog_1_method_39_code
def yX6_again : MethodName := ⟨RX6, "again", "()I"⟩
abbrev cX6_far : ByteArray := prog_1_method_40_code
def yX6_far : MethodName := ⟨RX6, "far", "(I)J"⟩
abbrev cX6_oneIf : ByteArray := prog_1_method_41_code
def yX6_oneIf : MethodName := ⟨RX6, "oneIf", "(Z)I"⟩
abbrev cX6_isKind : ByteArray := prog_1_method_42_code
def yX6_isKind : MethodName := ⟨RX6, "isKind", "(I)Z"⟩
abbrev cX6_isShift : ByteArray := prog_1_method_43_code
def yX6_isShift : MethodName := ⟨RX6, "isShift", "(I)Z"⟩
abbrev cX6_isPart : ByteArray := prog_1_method_44_code
def yX6_isPart : MethodName := ⟨RX6, "isPart", "(I)Z"⟩
abbrev cX6_isSheet : ByteArray := prog_1_method_45_code
def yX6_isSheet : MethodName := ⟨RX6, "isSheet", "(I)Z"⟩
abbrev cX6_isShelf : ByteArray := prog_1_method_46_code
def yX6_isShelf : MethodName := ⟨RX6, "isShelf", "(I)Z"⟩
abbrev cX6_isSort : ByteArray := prog_1_method_47_code
def yX6_isSort : MethodName := ⟨RX6, "isSort", "(I)Z"⟩
abbrev cX6_reach : ByteArray := prog_1_method_48_code
def yX6_reach : MethodName := ⟨RX6, "reach", "(I)I"⟩
abbrev cX6_isUnder : ByteArray := prog_1_method_49_code
def yX6_isUnder : MethodName := ⟨RX6, "isUnder", "(II)Z"⟩
abbrev cX6_kindAbove : ByteArray := prog_1_method_50_code
def yX6_kindAbove : MethodName := ⟨RX6, "kindAbove", "(I)I"⟩
abbrev cX6_commonDivisor : ByteArray := prog_1_method_51_code
def yX6_commonDivisor : MethodName := ⟨RX6, "commonDivisor", "(JJ)J"⟩
abbrev cX6_fractionPart : ByteArray := prog_1_method_52_code
def yX6_fractionPart : MethodName := ⟨RX6, "fractionPart", "(JJI)J"⟩
abbrev cX6_heldNow : ByteArray := prog_1_method_53_code
def yX6_heldNow : MethodName := ⟨RX6, "heldNow", "(LTwoSidedTables$Shelf;)I"⟩
abbrev cX6_isSmallWhole : ByteArray := prog_1_method_54_code
def yX6_isSmallWhole : MethodName := ⟨RX6, "isSmallWhole", "(I)Z"⟩
abbrev cX6_solve : ByteArray := prog_1_method_55_code
def yX6_solve : MethodName := ⟨RX6, "solve", "(I)V"⟩
abbrev cX6_fillGrid : ByteArray := prog_1_method_56_code
def yX6_fillGrid : MethodName := ⟨RX6, "fillGrid", "(IIII)V"⟩
abbrev cX6_fillRow : ByteArray := prog_1_method_57_code
def yX6_fillRow : MethodName := ⟨RX6, "fillRow", "(IIIIII)V"⟩
abbrev cX6_solutionAbove : ByteArray := prog_1_method_58_code
def yX6_solutionAbove : MethodName := ⟨RX6, "solutionAbove", "(III)J"⟩
abbrev cX6_solutionDivisor : ByteArray := prog_1_method_59_code
def yX6_solutionDivisor : MethodName := ⟨RX6, "solutionDivisor", "(I)J"⟩
abbrev cX6_isLaidInInts : ByteArray := prog_1_method_60_code
def yX6_isLaidInInts : MethodName := ⟨RX6, "isLaidInInts", "(IJ)Z"⟩
abbrev cX6_isInt : ByteArray := prog_1_method_61_code
def yX6_isInt : MethodName := ⟨RX6, "isInt", "(J)Z"⟩
abbrev cX6_unreadable : ByteArray := prog_1_method_62_code
def yX6_unreadable : MethodName := ⟨RX6, "unreadable", "(LTwoSidedTables$Sheet;)I"⟩
abbrev cX6_firstWrong : ByteArray := prog_1_method_63_code
def yX6_firstWrong : MethodName := ⟨RX6, "firstWrong", "(IILTwoSidedTables$Sheet;I)I"⟩
abbrev cX6_sumAt : ByteArray := prog_1_method_64_code
def yX6_sumAt : MethodName := ⟨RX6, "sumAt", "(IILTwoSidedTables$Sheet;II)J"⟩
abbrev cX6_isOfShape : ByteArray := prog_1_method_65_code
def yX6_isOfShape : MethodName := ⟨RX6, "isOfShape", "(ILTwoSidedTables$Sheet;)Z"⟩
def RX7 : String := "TwoSidedTablesModel"
def TX7 : u_T := fun k => match k with
  | 0 => ("TwoSidedTablesModel", "entry", "[I", true)
  | 1 => ("TwoSidedTablesModel", "keptEntry", "[I", true)
  | 2 => ("TwoSidedTablesModel", "aside0", "[I", true)
  | 3 => ("TwoSidedTablesModel", "m", "I", false)
  | 4 => ("TwoSidedTablesModel", "n", "I", false)
  | 5 => ("TwoSidedTablesModel", "equations", "I", false)
  | 6 => ("TwoSidedTablesModel", "z", "I", false)
  | 7 => ("TwoSidedTablesModel", "keptM", "I", false)
  | 8 => ("TwoSidedTablesModel", "keptN", "I", false)
  | 9 => ("TwoSidedTablesModel", "keptEquations", "I", false)
  | 10 => ("TwoSidedTablesModel", "keptZ", "I", false)
  | 11 => ("TwoSidedTablesModel", "kinds", "[I", true)
  | 12 => ("TwoSidedTablesModel", "shifts", "[I", true)
  | 13 => ("TwoSidedTablesModel", "keptKinds", "[I", true)
  | 14 => ("TwoSidedTablesModel", "keptShifts", "[I", true)
  | 15 => ("TwoSidedTablesModel", "isKept", "Z", false)
  | 16 => ("TwoSidedTablesModel", "tape", "[B", true)
  | 17 => ("TwoSidedTablesModel", "taped", "I", false)
  | 18 => ("TwoSidedTablesModel", "from", "I", false)
  | 19 => ("TwoSidedTablesModel", "to", "I", false)
  | 20 => ("TwoSidedTablesModel", "fault", "I", false)
  | 21 => ("TwoSidedTablesModel", "tables", "I", false)
  | 22 => ("TwoSidedTablesModel", "placed", "[I", true)
  | 23 => ("TwoSidedTablesModel", "rows", "[J", true)
  | 24 => ("TwoSidedTablesModel", "leads", "[I", true)
  | 25 => ("TwoSidedTablesModel", "ledBy", "[I", true)
  | 26 => ("TwoSidedTablesModel", "height", "I", false)
  | 27 => ("TwoSidedTablesModel", "width", "I", false)
  | 28 => ("TwoSidedTablesModel", "rank", "I", false)
  | 29 => ("TwoSidedTablesModel", "changed", "I", false)
  | 30 => ("TwoSidedTablesModel", "scale", "J", false)
  | 31 => ("TwoSidedTablesModel", "rule", "[J", true)
  | 32 => ("TwoSidedTablesModel", "left", "[J", true)
  | 33 => ("TwoSidedTablesModel", "ruledBy", "[I", true)
  | 34 => ("TwoSidedTablesModel", "sorts", "[I", true)
  | 35 => ("TwoSidedTablesModel", "sizes", "[I", true)
  | 36 => ("TwoSidedTablesModel", "cells", "[J", true)
  | 37 => ("TwoSidedTablesModel", "aside", "[J", true)
  | 38 => ("TwoSidedTablesModel", "held", "[I", true)
  | 39 => ("TwoSidedTablesModel", "thing", "[I", true)
  | 40 => ("TwoSidedTablesModel", "length", "[I", true)
  | 41 => ("TwoSidedTablesModel", "trace", "[I", true)
  | 42 => ("TwoSidedTablesModel", "traced", "I", false)
  | 43 => ("TwoSidedTablesModel", "kind", "I", false)
  | 44 => ("TwoSidedTablesModel", "number", "I", false)
  | 45 => ("TwoSidedTablesModel", "shift", "I", false)
  | _ => ("TwoSidedTablesModel", "isParted", "Z", false)
def tyX7 : Nat → FieldType := fun k => match k with
  | 0 => .array .int
  | 1 => .array .int
  | 2 => .array .int
  | 3 => .int
  | 4 => .int
  | 5 => .int
  | 6 => .int
  | 7 => .int
  | 8 => .int
  | 9 => .int
  | 10 => .int
  | 11 => .array .int
  | 12 => .array .int
  | 13 => .array .int
  | 14 => .array .int
  | 15 => .boolean
  | 16 => .array .byte
  | 17 => .int
  | 18 => .int
  | 19 => .int
  | 20 => .int
  | 21 => .int
  | 22 => .array .int
  | 23 => .array .long
  | 24 => .array .int
  | 25 => .array .int
  | 26 => .int
  | 27 => .int
  | 28 => .int
  | 29 => .int
  | 30 => .long
  | 31 => .array .long
  | 32 => .array .long
  | 33 => .array .int
  | 34 => .array .int
  | 35 => .array .int
  | 36 => .array .long
  | 37 => .array .long
  | 38 => .array .int
  | 39 => .array .int
  | 40 => .array .int
  | 41 => .array .int
  | 42 => .int
  | 43 => .int
  | 44 => .int
  | 45 => .int
  | _ => .boolean
abbrev wsX70 : List Cond := u_ws RX7 TX7 47
theorem nmX7 : ∀ a, a < 47 → ∀ b, b < 47 → a ≠ b → (TX7 a).2.1 ≠ (TX7 b).2.1 := by decide +kernel
theorem tyX7_ok : ∀ k, k < 47 → parseFieldDescriptor (TX7 k).2.2.1 = some (tyX7 k) := by decide +kernel
abbrev cX7_init : ByteArray := prog_9_method_1_code
def yX7_init : MethodName := ⟨RX7, "<init>", "()V"⟩
abbrev cX7_in : ByteArray := prog_9_method_2_code
def yX7_in : MethodName := ⟨RX7, "in", "(JJJ)Z"⟩
abbrev cX7_told : ByteArray := prog_9_method_3_code
def yX7_told : MethodName := ⟨RX7, "told", "(I)J"⟩
abbrev cX7_common : ByteArray := prog_9_method_4_code
def yX7_common : MethodName := ⟨RX7, "common", "(JJ)J"⟩
abbrev cX7_partOf : ByteArray := prog_9_method_5_code
def yX7_partOf : MethodName := ⟨RX7, "partOf", "(JJI)J"⟩
abbrev cX7_rowsOf : ByteArray := prog_9_method_6_code
def yX7_rowsOf : MethodName := ⟨RX7, "rowsOf", "(I)I"⟩
abbrev cX7_columnsOf : ByteArray := prog_9_method_7_code
def yX7_columnsOf : MethodName := ⟨RX7, "columnsOf", "(I)I"⟩
abbrev cX7_its : ByteArray := prog_9_method_8_code
def yX7_its : MethodName := ⟨RX7, "its", "(III)I"⟩
abbrev cX7_isPlace : ByteArray := prog_9_method_9_code
def yX7_isPlace : MethodName := ⟨RX7, "isPlace", "(III)Z"⟩
abbrev cX7_isEntry : ByteArray := prog_9_method_10_code
def yX7_isEntry : MethodName := ⟨RX7, "isEntry", "(II)Z"⟩
abbrev cX7_size : ByteArray := prog_9_method_11_code
def yX7_size : MethodName := ⟨RX7, "size", "(II)I"⟩
abbrev cX7_set : ByteArray := prog_9_method_12_code
def yX7_set : MethodName := ⟨RX7, "set", "(IIII)I"⟩
abbrev cX7_at : ByteArray := prog_9_method_13_code
def yX7_at : MethodName := ⟨RX7, "at", "(III)I"⟩
abbrev cX7_cross : ByteArray := prog_9_method_14_code
def yX7_cross : MethodName := ⟨RX7, "cross", "(IIIII)J"⟩
abbrev cX7_detOf : ByteArray := prog_9_method_15_code
def yX7_detOf : MethodName := ⟨RX7, "detOf", "(I)J"⟩
abbrev cX7_sumDown : ByteArray := prog_9_method_16_code
def yX7_sumDown : MethodName := ⟨RX7, "sumDown", "(I)J"⟩
abbrev cX7_pairs : ByteArray := prog_9_method_17_code
def yX7_pairs : MethodName := ⟨RX7, "pairs", "(I)J"⟩
abbrev cX7_det : ByteArray := prog_9_method_18_code
def yX7_det : MethodName := ⟨RX7, "det", "(I)J"⟩
abbrev cX7_diagonal : ByteArray := prog_9_method_19_code
def yX7_diagonal : MethodName := ⟨RX7, "diagonal", "(I)J"⟩
abbrev cX7_character : ByteArray := prog_9_method_20_code
def yX7_character : MethodName := ⟨RX7, "character", "(II)J"⟩
abbrev cX7_feed : ByteArray := prog_9_method_21_code
def yX7_feed : MethodName := ⟨RX7, "feed", "(JI)I"⟩
abbrev cX7_isDigit : ByteArray := prog_9_method_22_code
def yX7_isDigit : MethodName := ⟨RX7, "isDigit", "(I)Z"⟩
abbrev cX7_isLetter : ByteArray := prog_9_method_23_code
def yX7_isLetter : MethodName := ⟨RX7, "isLetter", "(I)Z"⟩
abbrev cX7_next : ByteArray := prog_9_method_24_code
def yX7_next : MethodName := ⟨RX7, "next", "()V"⟩
abbrev cX7_is : ByteArray := prog_9_method_25_code
def yX7_is : MethodName := ⟨RX7, "is", "(I)Z"⟩
abbrev cX7_fails : ByteArray := prog_9_method_26_code
def yX7_fails : MethodName := ⟨RX7, "fails", "()V"⟩
abbrev cX7_entryOf : ByteArray := prog_9_method_27_code
def yX7_entryOf : MethodName := ⟨RX7, "entryOf", "(III)V"⟩
abbrev cX7_table : ByteArray := prog_9_method_28_code
def yX7_table : MethodName := ⟨RX7, "table", "()V"⟩
abbrev cX7_saves : ByteArray := prog_9_method_29_code
def yX7_saves : MethodName := ⟨RX7, "saves", "([I[I)V"⟩
abbrev cX7_text : ByteArray := prog_9_method_30_code
def yX7_text : MethodName := ⟨RX7, "text", "()I"⟩
abbrev cX7_isKind : ByteArray := prog_9_method_31_code
def yX7_isKind : MethodName := ⟨RX7, "isKind", "(I)Z"⟩
abbrev cX7_isUnder : ByteArray := prog_9_method_32_code
def yX7_isUnder : MethodName := ⟨RX7, "isUnder", "(II)Z"⟩
abbrev cX7_isEquation : ByteArray := prog_9_method_33_code
def yX7_isEquation : MethodName := ⟨RX7, "isEquation", "(I)Z"⟩
abbrev cX7_equation : ByteArray := prog_9_method_34_code
def yX7_equation : MethodName := ⟨RX7, "equation", "(II)I"⟩
abbrev cX7_change : ByteArray := prog_9_method_35_code
def yX7_change : MethodName := ⟨RX7, "change", "(III)I"⟩
abbrev cX7_isLike : ByteArray := prog_9_method_36_code
def yX7_isLike : MethodName := ⟨RX7, "isLike", "(I)Z"⟩
abbrev cX7_rightOf : ByteArray := prog_9_method_37_code
def yX7_rightOf : MethodName := ⟨RX7, "rightOf", "(III)I"⟩
abbrev cX7_shaped : ByteArray := prog_9_method_38_code
def yX7_shaped : MethodName := ⟨RX7, "shaped", "(IIIII)I"⟩
abbrev cX7_isUnknown : ByteArray := prog_9_method_39_code
def yX7_isUnknown : MethodName := ⟨RX7, "isUnknown", "(III)Z"⟩
abbrev cX7_unknownsOf : ByteArray := prog_9_method_40_code
def yX7_unknownsOf : MethodName := ⟨RX7, "unknownsOf", "(I)I"⟩
abbrev cX7_isFit : ByteArray := prog_9_method_41_code
def yX7_isFit : MethodName := ⟨RX7, "isFit", "(I)Z"⟩
abbrev cX7_times0 : ByteArray := prog_9_method_42_code
def yX7_times0 : MethodName := ⟨RX7, "times0", "(IIIIII)I"⟩
abbrev cX7_takenBy : ByteArray := prog_9_method_43_code
def yX7_takenBy : MethodName := ⟨RX7, "takenBy", "(IIIII)I"⟩
abbrev cX7_swaps : ByteArray := prog_9_method_44_code
def yX7_swaps : MethodName := ⟨RX7, "swaps", "(II)V"⟩
abbrev cX7_clears : ByteArray := prog_9_method_45_code
def yX7_clears : MethodName := ⟨RX7, "clears", "(II)V"⟩
abbrev cX7_works : ByteArray := prog_9_method_46_code
def yX7_works : MethodName := ⟨RX7, "works", "()V"⟩
abbrev cX7_isSolved : ByteArray := prog_9_method_47_code
def yX7_isSolved : MethodName := ⟨RX7, "isSolved", "()Z"⟩
abbrev cX7_sets : ByteArray := prog_9_method_48_code
def yX7_sets : MethodName := ⟨RX7, "sets", "(IIII)V"⟩
abbrev cX7_setsUp : ByteArray := prog_9_method_49_code
def yX7_setsUp : MethodName := ⟨RX7, "setsUp", "(I)V"⟩
abbrev cX7_freeOnes : ByteArray := prog_9_method_50_code
def yX7_freeOnes : MethodName := ⟨RX7, "freeOnes", "()I"⟩
abbrev cX7_of : ByteArray := prog_9_method_51_code
def yX7_of : MethodName := ⟨RX7, "of", "(II)I"⟩
abbrev cX7_right : ByteArray := prog_9_method_52_code
def yX7_right : MethodName := ⟨RX7, "right", "(III)J"⟩
abbrev cX7_isPart : ByteArray := prog_9_method_53_code
def yX7_isPart : MethodName := ⟨RX7, "isPart", "(IIII)Z"⟩
abbrev cX7_shapedSum : ByteArray := prog_9_method_54_code
def yX7_shapedSum : MethodName := ⟨RX7, "shapedSum", "(IIII)J"⟩
abbrev cX7_solution : ByteArray := prog_9_method_55_code
def yX7_solution : MethodName := ⟨RX7, "solution", "(IIII)J"⟩
abbrev cX7_base : ByteArray := prog_9_method_56_code
def yX7_base : MethodName := ⟨RX7, "base", "(IIIII)J"⟩
abbrev cX7_swapsRules : ByteArray := prog_9_method_57_code
def yX7_swapsRules : MethodName := ⟨RX7, "swapsRules", "(II)V"⟩
abbrev cX7_clearsRules : ByteArray := prog_9_method_58_code
def yX7_clearsRules : MethodName := ⟨RX7, "clearsRules", "(IIIJ)J"⟩
abbrev cX7_worksRules : ByteArray := prog_9_method_59_code
def yX7_worksRules : MethodName := ⟨RX7, "worksRules", "(II)J"⟩
abbrev cX7_witness : ByteArray := prog_9_method_60_code
def yX7_witness : MethodName := ⟨RX7, "witness", "(IIII)J"⟩
abbrev cX7_isSmall : ByteArray := prog_9_method_61_code
def yX7_isSmall : MethodName := ⟨RX7, "isSmall", "(I)Z"⟩
abbrev cX7_similar : ByteArray := prog_9_method_62_code
def yX7_similar : MethodName := ⟨RX7, "similar", "(I)I"⟩
abbrev cX7_whole : ByteArray := prog_9_method_63_code
def yX7_whole : MethodName := ⟨RX7, "whole", "(I)J"⟩
abbrev cX7_splits : ByteArray := prog_9_method_64_code
def yX7_splits : MethodName := ⟨RX7, "splits", "(I)Z"⟩
abbrev cX7_lower : ByteArray := prog_9_method_65_code
def yX7_lower : MethodName := ⟨RX7, "lower", "(II)I"⟩
abbrev cX7_swapped : ByteArray := prog_9_method_66_code
def yX7_swapped : MethodName := ⟨RX7, "swapped", "()I"⟩
abbrev cX7_stable : ByteArray := prog_9_method_67_code
def yX7_stable : MethodName := ⟨RX7, "stable", "()I"⟩
abbrev cX7_leastScale : ByteArray := prog_9_method_68_code
def yX7_leastScale : MethodName := ⟨RX7, "leastScale", "(I)J"⟩
abbrev cX7_lay : ByteArray := prog_9_method_69_code
def yX7_lay : MethodName := ⟨RX7, "lay", "(II)I"⟩
abbrev cX7_firstOff : ByteArray := prog_9_method_70_code
def yX7_firstOff : MethodName := ⟨RX7, "firstOff", "(IIII)I"⟩
abbrev cX7_isShaped : ByteArray := prog_9_method_71_code
def yX7_isShaped : MethodName := ⟨RX7, "isShaped", "(II)Z"⟩
abbrev cX7_against : ByteArray := prog_9_method_72_code
def yX7_against : MethodName := ⟨RX7, "against", "(I)I"⟩
abbrev cX7_judge : ByteArray := prog_9_method_73_code
def yX7_judge : MethodName := ⟨RX7, "judge", "(III)I"⟩
abbrev cX7_kinds : ByteArray := prog_9_method_74_code
def yX7_kinds : MethodName := ⟨RX7, "kinds", "(II)I"⟩
abbrev cX7_ratio : ByteArray := prog_9_method_75_code
def yX7_ratio : MethodName := ⟨RX7, "ratio", "(JJI)J"⟩
abbrev cX7_seed : ByteArray := prog_9_method_76_code
def yX7_seed : MethodName := ⟨RX7, "seed", "(I)I"⟩
abbrev cX7_lots : ByteArray := prog_9_method_77_code
def yX7_lots : MethodName := ⟨RX7, "lots", "()V"⟩
abbrev cX7_lot : ByteArray := prog_9_method_78_code
def yX7_lot : MethodName := ⟨RX7, "lot", "()I"⟩
abbrev cX7_times : ByteArray := prog_9_method_79_code
def yX7_times : MethodName := ⟨RX7, "times", "(II)I"⟩
abbrev cX7_isSheet : ByteArray := prog_9_method_80_code
def yX7_isSheet : MethodName := ⟨RX7, "isSheet", "(I)Z"⟩
abbrev cX7_sheet : ByteArray := prog_9_method_81_code
def yX7_sheet : MethodName := ⟨RX7, "sheet", "(III)I"⟩
abbrev cX7_narrowed : ByteArray := prog_9_method_82_code
def yX7_narrowed : MethodName := ⟨RX7, "narrowed", "(IJ)J"⟩
abbrev cX7_put : ByteArray := prog_9_method_83_code
def yX7_put : MethodName := ⟨RX7, "put", "(IIJ)I"⟩
abbrev cX7_item : ByteArray := prog_9_method_84_code
def yX7_item : MethodName := ⟨RX7, "item", "(III)I"⟩
abbrev cX7_move : ByteArray := prog_9_method_85_code
def yX7_move : MethodName := ⟨RX7, "move", "(IIIII)I"⟩
abbrev cX7_isShelf : ByteArray := prog_9_method_86_code
def yX7_isShelf : MethodName := ⟨RX7, "isShelf", "(I)Z"⟩
abbrev cX7_shelf : ByteArray := prog_9_method_87_code
def yX7_shelf : MethodName := ⟨RX7, "shelf", "(III)I"⟩
abbrev cX7_heldBy : ByteArray := prog_9_method_88_code
def yX7_heldBy : MethodName := ⟨RX7, "heldBy", "(I)I"⟩
abbrev cX7_taken : ByteArray := prog_9_method_89_code
def yX7_taken : MethodName := ⟨RX7, "taken", "(II)I"⟩
abbrev cX7_ran : ByteArray := prog_9_method_90_code
def yX7_ran : MethodName := ⟨RX7, "ran", "(I)V"⟩
abbrev cX7_plainWeighs : ByteArray := prog_9_method_91_code
def yX7_plainWeighs : MethodName := ⟨RX7, "plainWeighs", "(I)I"⟩
abbrev cX7_turnedWeighs : ByteArray := prog_9_method_92_code
def yX7_turnedWeighs : MethodName := ⟨RX7, "turnedWeighs", "(I)I"⟩
abbrev cX7_weighs : ByteArray := prog_9_method_93_code
def yX7_weighs : MethodName := ⟨RX7, "weighs", "(I)I"⟩
abbrev cX7_plainTurns : ByteArray := prog_9_method_94_code
def yX7_plainTurns : MethodName := ⟨RX7, "plainTurns", "(I)I"⟩
abbrev cX7_alikeTurns : ByteArray := prog_9_method_95_code
def yX7_alikeTurns : MethodName := ⟨RX7, "alikeTurns", "(I)I"⟩
abbrev cX7_turns : ByteArray := prog_9_method_96_code
def yX7_turns : MethodName := ⟨RX7, "turns", "(I)I"⟩
abbrev cX7_parts : ByteArray := prog_9_method_97_code
def yX7_parts : MethodName := ⟨RX7, "parts", "(I)I"⟩
abbrev cX7_plainCloses : ByteArray := prog_9_method_98_code
def yX7_plainCloses : MethodName := ⟨RX7, "plainCloses", "(I)I"⟩
abbrev cX7_evenCloses : ByteArray := prog_9_method_99_code
def yX7_evenCloses : MethodName := ⟨RX7, "evenCloses", "(I)I"⟩
abbrev cX7_closes : ByteArray := prog_9_method_100_code
def yX7_closes : MethodName := ⟨RX7, "closes", "(I)I"⟩
abbrev cX7_act : ByteArray := prog_9_method_101_code
def yX7_act : MethodName := ⟨RX7, "act", "(III)I"⟩
abbrev cX7_trace : ByteArray := prog_9_method_102_code
def yX7_trace : MethodName := ⟨RX7, "trace", "(I)I"⟩
abbrev cX7_fitting : ByteArray := prog_9_method_103_code
def yX7_fitting : MethodName := ⟨RX7, "fitting", "()I"⟩
abbrev cX7_splitting : ByteArray := prog_9_method_104_code
def yX7_splitting : MethodName := ⟨RX7, "splitting", "()I"⟩
abbrev cX7_many : ByteArray := prog_9_method_105_code
def yX7_many : MethodName := ⟨RX7, "many", "(I)I"⟩
abbrev cX7_keep : ByteArray := prog_9_method_106_code
def yX7_keep : MethodName := ⟨RX7, "keep", "()I"⟩
abbrev cX7_again : ByteArray := prog_9_method_107_code
def yX7_again : MethodName := ⟨RX7, "again", "()I"⟩
def RJ9 : String := "java/lang/Math"
abbrev cJ9_max_7cf53 : ByteArray := prog_10_method_65_code
def yJ9_max_7cf53 : MethodName := ⟨RJ9, "max", "(II)I"⟩
abbrev cJ9_min_7cf53 : ByteArray := prog_10_method_69_code
def yJ9_min_7cf53 : MethodName := ⟨RJ9, "min", "(II)I"⟩
def RJ10 : String := "java/lang/System"
def RJ7 : String := "java/util/Arrays"
abbrev cJ7_fill_d0a16 : ByteArray := prog_12_method_101_code
def yJ7_fill_d0a16 : MethodName := ⟨RJ7, "fill", "([JJ)V"⟩
abbrev cJ7_fill_53178 : ByteArray := prog_12_method_103_code
def yJ7_fill_53178 : MethodName := ⟨RJ7, "fill", "([II)V"⟩
def RL : String := "TwoSidedTablesLaw"
abbrev cL_law : ByteArray := code
def yL_law : MethodName := ⟨RL, "law", "([I)Z"⟩
abbrev vwCl : List vw_C := [(RX0, TX0, 6), (RX1, TX1, 7), (RX2, TX2, 3), (RX3, TX3, 3), (RX4, TX4, 9), (RX5, TX5, 3), (RX6, TX6, 10), (RX7, TX7, 47)]
def wu0 : List Cond := [.classLink RL 7 RX6, .instantiable RX6 10, .initialized RX6, .classLink RL 10 RX7, .instantiable RX7 47, .initialized RX7, .constantLong RL 42 (4294967295), .methodLink RL 9 yX6_init, .instanceMethod yX6_init, .code yX6_init cX6_init 2 none, .methodLink RX6 1 objectInit, .instanceMethod objectInit, .code objectInit ⟨#[0xb1]⟩ 1 none, .classLink RX6 7 RX4, .instantiable RX4 9, .initialized RX4, .fieldLink RX6 10 "TwoSidedTables" "now" "LTwoSidedTables$State;", .fieldLink RX6 16 "TwoSidedTables" "kept" "LTwoSidedTables$State;", .fieldLink RX6 19 "TwoSidedTables" "spare" "LTwoSidedTables$State;", .classLink RX6 22 RX1, .instantiable RX1 7, .initialized RX1, .fieldLink RX6 25 "TwoSidedTables" "grid" "LTwoSidedTables$Grid;", .fieldLink RX6 29 "TwoSidedTables" "witnessGrid" "LTwoSidedTables$Grid;", .classLink RX6 32 RX5, .instantiable RX5 3, .initialized RX5, .fieldLink RX6 35 "TwoSidedTables" "tape" "LTwoSidedTables$Tape;", .classLink RX6 39 RX0, .instantiable RX0 6, .initialized RX0, .fieldLink RX6 42 "TwoSidedTables" "acts" "LTwoSidedTables$Acts;"]
def wu1 : List Cond := [.classLink RX6 46 RX2, .fieldLink RX6 48 "TwoSidedTables" "sheets" "[LTwoSidedTables$Sheet;", .classLink RX6 52 RX3, .fieldLink RX6 54 "TwoSidedTables" "shelves" "[LTwoSidedTables$Shelf;", .instantiable RX2 3, .initialized RX2, .instantiable RX3 3, .initialized RX3, .instanceMethod yX4_init, .code yX4_init cX4_init 1 none, .methodLink RX4 3 objectInit, .fieldLink RX4 9 "TwoSidedTables$State" "m" "I", .fieldLink RX4 15 "TwoSidedTables$State" "n" "I", .fieldLink RX4 18 "TwoSidedTables$State" "z" "I", .arrayClass .int, .fieldLink RX4 21 "TwoSidedTables$State" "a" "[I", .fieldLink RX4 25 "TwoSidedTables$State" "b" "[I", .fieldLink RX4 28 "TwoSidedTables$State" "c" "[I", .fieldLink RX4 31 "TwoSidedTables$State" "kindList" "[I", .fieldLink RX4 34 "TwoSidedTables$State" "shiftList" "[I", .instanceMethod yX1_init, .code yX1_init cX1_init 1 none, .methodLink RX1 3 objectInit, .fieldLink RX1 9 "TwoSidedTables$Grid" "below" "J", .arrayClass .long, .fieldLink RX1 15 "TwoSidedTables$Grid" "cells" "[J", .fieldLink RX1 19 "TwoSidedTables$Grid" "pivotRows" "[I", .instanceMethod yX5_init, .code yX5_init cX5_init 1 none, .methodLink RX5 3 objectInit, .arrayClass .byte, .fieldLink RX5 9 "TwoSidedTables$Tape" "bytes" "[B"]
def wu2 : List Cond := [.instanceMethod yX0_init, .code yX0_init cX0_init 1 none, .methodLink RX0 3 objectInit, .fieldLink RX0 9 "TwoSidedTables$Acts" "bodies" "[I", .instanceMethod yX2_init, .code yX2_init cX2_init 1 none, .methodLink RX2 3 objectInit, .fieldLink RX2 9 "TwoSidedTables$Sheet" "sort" "I", .fieldLink RX2 15 "TwoSidedTables$Sheet" "items" "[J", .instanceMethod yX3_init, .code yX3_init cX3_init 1 none, .methodLink RX3 3 objectInit, .fieldLink RX3 9 "TwoSidedTables$Shelf" "holds" "I", .methodLink RL 12 yX7_init, .instanceMethod yX7_init, .code yX7_init cX7_init 1 none, .methodLink RX7 1 objectInit, .fieldLink RX7 7 "TwoSidedTablesModel" "entry" "[I", .fieldLink RX7 13 "TwoSidedTablesModel" "keptEntry" "[I", .fieldLink RX7 16 "TwoSidedTablesModel" "aside0" "[I", .fieldLink RX7 19 "TwoSidedTablesModel" "m" "I", .fieldLink RX7 23 "TwoSidedTablesModel" "n" "I", .fieldLink RX7 26 "TwoSidedTablesModel" "z" "I", .fieldLink RX7 29 "TwoSidedTablesModel" "kinds" "[I", .fieldLink RX7 32 "TwoSidedTablesModel" "shifts" "[I", .fieldLink RX7 35 "TwoSidedTablesModel" "keptKinds" "[I", .fieldLink RX7 38 "TwoSidedTablesModel" "keptShifts" "[I", .fieldLink RX7 41 "TwoSidedTablesModel" "tape" "[B", .fieldLink RX7 45 "TwoSidedTablesModel" "placed" "[I", .fieldLink RX7 48 "TwoSidedTablesModel" "rows" "[J", .fieldLink RX7 52 "TwoSidedTablesModel" "leads" "[I", .fieldLink RX7 55 "TwoSidedTablesModel" "ledBy" "[I"]
def wu3 : List Cond := [.fieldLink RX7 58 "TwoSidedTablesModel" "rule" "[J", .fieldLink RX7 61 "TwoSidedTablesModel" "left" "[J", .fieldLink RX7 64 "TwoSidedTablesModel" "ruledBy" "[I", .fieldLink RX7 67 "TwoSidedTablesModel" "sorts" "[I", .fieldLink RX7 70 "TwoSidedTablesModel" "sizes" "[I", .fieldLink RX7 73 "TwoSidedTablesModel" "cells" "[J", .fieldLink RX7 76 "TwoSidedTablesModel" "aside" "[J", .fieldLink RX7 79 "TwoSidedTablesModel" "held" "[I", .fieldLink RX7 82 "TwoSidedTablesModel" "thing" "[I", .fieldLink RX7 85 "TwoSidedTablesModel" "length" "[I", .fieldLink RX7 88 "TwoSidedTablesModel" "trace" "[I", .methodLink RL 13 yX6_size, .instanceMethod yX6_size, .selects RX6 yX6_size yX6_size, .code yX6_size cX6_size 4 (some .int), .fieldLink RX6 60 "TwoSidedTables$State" "m" "I", .fieldLink RX6 64 "TwoSidedTables$State" "n" "I", .methodLink RX6 67 yX4_resize, .instanceMethod yX4_resize, .selects RX4 yX4_resize yX4_resize, .code yX4_resize cX4_resize 3 none, .methodLink RX4 46 yJ7_fill_53178, .static yJ7_fill_53178, .initialized RJ7, .code yJ7_fill_53178 cJ7_fill_53178 4 none, .methodLink RL 17 yX7_size, .instanceMethod yX7_size, .selects RX7 yX7_size yX7_size, .code yX7_size cX7_size 5 (some .int), .constantLong RX7 118 (3), .methodLink RX7 99 yX7_in, .static yX7_in]
def wu4 : List Cond := [.code yX7_in cX7_in 6 (some .boolean), .methodLink RL 18 yX6_set, .instanceMethod yX6_set, .selects RX6 yX6_set yX6_set, .code yX6_set cX6_set 6 (some .int), .methodLink RX6 71 yX4_hasEntry, .instanceMethod yX4_hasEntry, .selects RX4 yX4_hasEntry yX4_hasEntry, .code yX4_hasEntry cX4_hasEntry 4 (some .boolean), .methodLink RX4 52 yX4_rows, .instanceMethod yX4_rows, .selects RX4 yX4_rows yX4_rows, .code yX4_rows cX4_rows 2 (some .int), .methodLink RX4 56 yX4_columns, .instanceMethod yX4_columns, .selects RX4 yX4_columns yX4_columns, .code yX4_columns cX4_columns 2 (some .int), .methodLink RX6 75 yX6_reach, .static yX6_reach, .code yX6_reach cX6_reach 1 (some .int), .methodLink RX6 79 yX4_entry, .instanceMethod yX4_entry, .selects RX4 yX4_entry yX4_entry, .code yX4_entry cX4_entry 5 (some .int), .methodLink RX4 59 yX4_isRoom, .static yX4_isRoom, .code yX4_isRoom cX4_isRoom 2 (some .boolean), .methodLink RX6 83 yX4_store, .instanceMethod yX4_store, .selects RX4 yX4_store yX4_store, .code yX4_store cX4_store 6 none, .methodLink RL 22 yX7_set]
def wu5 : List Cond := [.instanceMethod yX7_set, .selects RX7 yX7_set yX7_set, .code yX7_set cX7_set 6 (some .int), .methodLink RX7 120 yX7_isPlace, .instanceMethod yX7_isPlace, .selects RX7 yX7_isPlace yX7_isPlace, .code yX7_isPlace cX7_isPlace 4 (some .boolean), .constantLong RX7 97 (2), .methodLink RX7 103 yX7_rowsOf, .instanceMethod yX7_rowsOf, .selects RX7 yX7_rowsOf yX7_rowsOf, .code yX7_rowsOf cX7_rowsOf 2 (some .int), .methodLink RX7 107 yX7_columnsOf, .instanceMethod yX7_columnsOf, .selects RX7 yX7_columnsOf yX7_columnsOf, .code yX7_columnsOf cX7_columnsOf 2 (some .int), .methodLink RX7 124 yX7_isEntry, .static yX7_isEntry, .code yX7_isEntry cX7_isEntry 2 (some .boolean), .constantLong RX7 110 (-50), .constantLong RX7 112 (50), .constantLong RX7 114 (-5), .constantLong RX7 116 (5), .methodLink RX7 128 yX7_its, .instanceMethod yX7_its, .selects RX7 yX7_its yX7_its, .code yX7_its cX7_its 4 (some .int), .methodLink RL 23 yX6_at, .instanceMethod yX6_at, .selects RX6 yX6_at yX6_at, .code yX6_at cX6_at 4 (some .int), .methodLink RL 27 yX7_at]
def wu6 : List Cond := [.instanceMethod yX7_at, .selects RX7 yX7_at yX7_at, .code yX7_at cX7_at 4 (some .int), .methodLink RL 28 yX6_det, .instanceMethod yX6_det, .selects RX6 yX6_det yX6_det, .code yX6_det cX6_det 2 (some .long), .methodLink RX6 87 yX6_far, .static yX6_far, .code yX6_far cX6_far 1 (some .long), .constantLong RX6 321 (4000000000000000000), .methodLink RX6 91 yX4_rows, .methodLink RX6 94 yX4_minors, .instanceMethod yX4_minors, .selects RX4 yX4_minors yX4_minors, .code yX4_minors cX4_minors 3 (some .long), .methodLink RX4 63 yX4_entry, .methodLink RX4 67 yX4_minor, .instanceMethod yX4_minor, .selects RX4 yX4_minor yX4_minor, .code yX4_minor cX4_minor 4 (some .long), .methodLink RX4 71 yX4_largestMinor, .instanceMethod yX4_largestMinor, .selects RX4 yX4_largestMinor yX4_largestMinor, .code yX4_largestMinor cX4_largestMinor 7 (some .long), .methodLink RL 32 yX7_det, .instanceMethod yX7_det, .selects RX7 yX7_det yX7_det, .code yX7_det cX7_det 2 (some .long), .methodLink RX7 136 yX7_detOf, .instanceMethod yX7_detOf, .selects RX7 yX7_detOf yX7_detOf]
def wu7 : List Cond := [.code yX7_detOf cX7_detOf 3 (some .long), .methodLink RX7 132 yX7_cross, .instanceMethod yX7_cross, .selects RX7 yX7_cross yX7_cross, .code yX7_cross cX7_cross 6 (some .long), .methodLink RX7 140 yX7_told, .static yX7_told, .code yX7_told cX7_told 1 (some .long), .constantLong RX7 91 (4000000000000000000), .methodLink RL 33 yX6_diagonal, .instanceMethod yX6_diagonal, .selects RX6 yX6_diagonal yX6_diagonal, .code yX6_diagonal cX6_diagonal 2 (some .long), .methodLink RL 36 yX7_diagonal, .instanceMethod yX7_diagonal, .selects RX7 yX7_diagonal yX7_diagonal, .code yX7_diagonal cX7_diagonal 2 (some .long), .methodLink RX7 143 yX7_sumDown, .instanceMethod yX7_sumDown, .selects RX7 yX7_sumDown yX7_sumDown, .code yX7_sumDown cX7_sumDown 5 (some .long), .methodLink RL 37 yX6_character, .instanceMethod yX6_character, .selects RX6 yX6_character yX6_character, .code yX6_character cX6_character 6 (some .long), .methodLink RL 41 yX7_character, .instanceMethod yX7_character, .selects RX7 yX7_character yX7_character, .code yX7_character cX7_character 4 (some .long), .methodLink RX7 146 yX7_pairs, .instanceMethod yX7_pairs, .selects RX7 yX7_pairs yX7_pairs]
def wu8 : List Cond := [.code yX7_pairs cX7_pairs 6 (some .long), .methodLink RL 44 yX6_feed, .instanceMethod yX6_feed, .selects RX6 yX6_feed yX6_feed, .code yX6_feed cX6_feed 5 (some .int), .fieldLink RX6 98 "TwoSidedTables$Tape" "count" "I", .methodLink RX6 101 yX5_take, .instanceMethod yX5_take, .selects RX5 yX5_take yX5_take, .code yX5_take cX5_take 2 none, .fieldLink RX5 15 "TwoSidedTables$Tape" "count" "I", .methodLink RL 48 yX7_feed, .instanceMethod yX7_feed, .selects RX7 yX7_feed yX7_feed, .code yX7_feed cX7_feed 5 (some .int), .constantLong RX7 149 (8), .fieldLink RX7 151 "TwoSidedTablesModel" "taped" "I", .methodLink RL 49 yX6_text, .instanceMethod yX6_text, .selects RX6 yX6_text yX6_text, .code yX6_text cX6_text 2 (some .int), .methodLink RX6 105 yX4_copyFrom, .instanceMethod yX4_copyFrom, .selects RX4 yX4_copyFrom yX4_copyFrom, .code yX4_copyFrom cX4_copyFrom 2 none, .fieldLink RX4 37 "TwoSidedTables$State" "count" "I", .methodLink RX4 40 arraycopyName, .native arraycopyName, .static arraycopyName, .initialized "java/lang/System", .methodLink RX6 109 yX5_tell, .instanceMethod yX5_tell]
def wu9 : List Cond := [.selects RX5 yX5_tell yX5_tell, .code yX5_tell cX5_tell 5 (some .int), .fieldLink RX5 19 "TwoSidedTables$Tape" "place" "I", .methodLink RX5 22 yX5_skipBlanks, .instanceMethod yX5_skipBlanks, .selects RX5 yX5_skipBlanks yX5_skipBlanks, .code yX5_skipBlanks cX5_skipBlanks 2 none, .methodLink RX5 33 yX5_here, .instanceMethod yX5_here, .selects RX5 yX5_here yX5_here, .code yX5_here cX5_here 3 (some .int), .methodLink RX5 25 yX5_readName, .instanceMethod yX5_readName, .selects RX5 yX5_readName yX5_readName, .code yX5_readName cX5_readName 2 (some .int), .methodLink RX5 37 yX5_stretch, .instanceMethod yX5_stretch, .selects RX5 yX5_stretch yX5_stretch, .code yX5_stretch cX5_stretch 4 (some .int), .methodLink RX5 29 yX5_readTable, .instanceMethod yX5_readTable, .selects RX5 yX5_readTable yX5_readTable, .code yX5_readTable cX5_readTable 6 (some .boolean), .methodLink RX5 41 yX4_rows, .methodLink RX5 46 yX4_columns, .methodLink RX5 49 yX5_readEntry, .instanceMethod yX5_readEntry, .selects RX5 yX5_readEntry yX5_readEntry, .code yX5_readEntry cX5_readEntry 8 (some .boolean), .methodLink RX5 53 yX5_readMark, .instanceMethod yX5_readMark, .selects RX5 yX5_readMark yX5_readMark]
def wu10 : List Cond := [.code yX5_readMark cX5_readMark 2 (some .boolean), .methodLink RX5 60 yX4_store, .methodLink RL 53 yX7_text, .instanceMethod yX7_text, .selects RX7 yX7_text yX7_text, .code yX7_text cX7_text 1 (some .int), .fieldLink RX7 154 "TwoSidedTablesModel" "to" "I", .fieldLink RX7 167 "TwoSidedTablesModel" "fault" "I", .fieldLink RX7 183 "TwoSidedTablesModel" "tables" "I", .fieldLink RX7 157 "TwoSidedTablesModel" "from" "I", .methodLink RX7 186 yX7_saves, .instanceMethod yX7_saves, .selects RX7 yX7_saves yX7_saves, .code yX7_saves cX7_saves 4 none, .methodLink RX7 173 yX7_next, .instanceMethod yX7_next, .selects RX7 yX7_next yX7_next, .code yX7_next cX7_next 3 none, .methodLink RX7 160 yX7_isLetter, .static yX7_isLetter, .code yX7_isLetter cX7_isLetter 1 (some .boolean), .methodLink RX7 164 yX7_isDigit, .static yX7_isDigit, .code yX7_isDigit cX7_isDigit 1 (some .boolean), .methodLink RX7 190 yX7_table, .instanceMethod yX7_table, .selects RX7 yX7_table yX7_table, .code yX7_table cX7_table 4 none, .methodLink RX7 170 yX7_is, .instanceMethod yX7_is, .selects RX7 yX7_is yX7_is, .code yX7_is cX7_is 2 (some .boolean)]
def wu11 : List Cond := [.methodLink RX7 176 yX7_fails, .instanceMethod yX7_fails, .selects RX7 yX7_fails yX7_fails, .code yX7_fails cX7_fails 1 none, .methodLink RX7 179 yX7_entryOf, .instanceMethod yX7_entryOf, .selects RX7 yX7_entryOf yX7_entryOf, .code yX7_entryOf cX7_entryOf 7 none, .methodLink RL 54 yX6_equation, .instanceMethod yX6_equation, .selects RX6 yX6_equation yX6_equation, .code yX6_equation cX6_equation 3 (some .int), .fieldLink RX6 120 "TwoSidedTables$State" "count" "I", .methodLink RX6 113 yX6_isKind, .static yX6_isKind, .code yX6_isKind cX6_isKind 1 (some .boolean), .methodLink RX6 117 yX6_isShift, .static yX6_isShift, .code yX6_isShift cX6_isShift 1 (some .boolean), .methodLink RX6 121 yX4_become, .instanceMethod yX4_become, .selects RX4 yX4_become yX4_become, .code yX4_become cX4_become 4 none, .methodLink RX4 84 yX4_hasEquation, .instanceMethod yX4_hasEquation, .selects RX4 yX4_hasEquation yX4_hasEquation, .code yX4_hasEquation cX4_hasEquation 2 (some .boolean), .methodLink RL 57 yX7_equation, .instanceMethod yX7_equation, .selects RX7 yX7_equation yX7_equation, .code yX7_equation cX7_equation 3 (some .int), .constantLong RX7 201 (-2)]
def wu12 : List Cond := [.fieldLink RX7 195 "TwoSidedTablesModel" "equations" "I", .methodLink RX7 198 yX7_isKind, .static yX7_isKind, .code yX7_isKind cX7_isKind 1 (some .boolean), .constantLong RX7 193 (6), .methodLink RL 58 yX6_of, .instanceMethod yX6_of, .selects RX6 yX6_of yX6_of, .code yX6_of cX6_of 4 (some .int), .fieldLink RX6 147 "TwoSidedTables$Grid" "rank" "I", .methodLink RX6 125 yX4_hasEquation, .methodLink RX6 128 yX4_kindOf, .instanceMethod yX4_kindOf, .selects RX4 yX4_kindOf yX4_kindOf, .code yX4_kindOf cX4_kindOf 2 (some .int), .methodLink RX6 131 yX4_shiftOf, .instanceMethod yX4_shiftOf, .selects RX4 yX4_shiftOf yX4_shiftOf, .code yX4_shiftOf cX4_shiftOf 2 (some .int), .methodLink RX6 134 yX4_fits, .instanceMethod yX4_fits, .selects RX4 yX4_fits yX4_fits, .code yX4_fits cX4_fits 2 (some .boolean), .methodLink RX4 88 yX4_hasRight, .instanceMethod yX4_hasRight, .selects RX4 yX4_hasRight yX4_hasRight, .code yX4_hasRight cX4_hasRight 2 (some .boolean), .methodLink RX4 91 yX4_unknowns, .instanceMethod yX4_unknowns, .selects RX4 yX4_unknowns yX4_unknowns, .code yX4_unknowns cX4_unknowns 2 (some .int), .methodLink RX6 137 yX4_hasRight]
def wu13 : List Cond := [.methodLink RX6 140 yX4_unknowns, .methodLink RX6 143 yX6_solve, .instanceMethod yX6_solve, .selects RX6 yX6_solve yX6_solve, .code yX6_solve cX6_solve 3 none, .methodLink RX6 192 yX6_fillGrid, .instanceMethod yX6_fillGrid, .selects RX6 yX6_fillGrid yX6_fillGrid, .code yX6_fillGrid cX6_fillGrid 9 none, .methodLink RX6 337 yX1_clear, .instanceMethod yX1_clear, .selects RX1 yX1_clear yX1_clear, .code yX1_clear cX1_clear 3 none, .methodLink RX1 23 Lib.Math.min.name, .static Lib.Math.min.name, .initialized "java/lang/Math", .code Lib.Math.min.name Lib.Math.min.code 2 (some .int), .methodLink RX1 29 Lib.Math.max.name, .static Lib.Math.max.name, .code Lib.Math.max.name Lib.Math.max.code 2 (some .int), .fieldLink RX1 32 "TwoSidedTables$Grid" "rows" "I", .fieldLink RX1 36 "TwoSidedTables$Grid" "columns" "I", .methodLink RX1 39 yJ7_fill_d0a16, .static yJ7_fill_d0a16, .code yJ7_fill_d0a16 cJ7_fill_d0a16 5 none, .methodLink RX6 340 yX1_add, .instanceMethod yX1_add, .selects RX1 yX1_add yX1_add, .code yX1_add cX1_add 5 none, .methodLink RX1 49 yX1_cell, .instanceMethod yX1_cell, .selects RX1 yX1_cell yX1_cell]
def wu14 : List Cond := [.code yX1_cell cX1_cell 3 (some .long), .methodLink RX1 45 yX1_hasCell, .instanceMethod yX1_hasCell, .selects RX1 yX1_hasCell yX1_hasCell, .code yX1_hasCell cX1_hasCell 3 (some .boolean), .methodLink RX1 53 yX1_write, .instanceMethod yX1_write, .selects RX1 yX1_write yX1_write, .code yX1_write cX1_write 5 none, .methodLink RX6 344 yX6_fillRow, .instanceMethod yX6_fillRow, .selects RX6 yX6_fillRow yX6_fillRow, .code yX6_fillRow cX6_fillRow 13 none, .methodLink RX6 183 yX4_signAt, .instanceMethod yX4_signAt, .selects RX4 yX4_signAt yX4_signAt, .code yX4_signAt cX4_signAt 4 (some .int), .methodLink RX6 186 yX4_unknownAt, .instanceMethod yX4_unknownAt, .selects RX4 yX4_unknownAt yX4_unknownAt, .code yX4_unknownAt cX4_unknownAt 6 (some .int), .methodLink RX4 103 Lib.Math.min.name, .methodLink RX4 109 Lib.Math.max.name, .methodLink RX6 348 yX4_leftEntry, .instanceMethod yX4_leftEntry, .selects RX4 yX4_leftEntry yX4_leftEntry, .code yX4_leftEntry cX4_leftEntry 4 (some .int), .methodLink RX6 162 yX4_rightEntry, .instanceMethod yX4_rightEntry, .selects RX4 yX4_rightEntry yX4_rightEntry, .code yX4_rightEntry cX4_rightEntry 4 (some .int), .methodLink RX6 199 yX1_eliminate]
def wu15 : List Cond := [.instanceMethod yX1_eliminate, .selects RX1 yX1_eliminate yX1_eliminate, .code yX1_eliminate cX1_eliminate 3 none, .fieldLink RX1 61 "TwoSidedTables$Grid" "rank" "I", .fieldLink RX1 64 "TwoSidedTables$Grid" "isTurnedOver" "Z", .methodLink RX1 68 yX1_firstFilled, .instanceMethod yX1_firstFilled, .selects RX1 yX1_firstFilled yX1_firstFilled, .code yX1_firstFilled cX1_firstFilled 3 (some .int), .methodLink RX1 72 yX1_swapRows, .instanceMethod yX1_swapRows, .selects RX1 yX1_swapRows yX1_swapRows, .code yX1_swapRows cX1_swapRows 6 none, .methodLink RX1 75 yX1_sweep, .instanceMethod yX1_sweep, .selects RX1 yX1_sweep yX1_sweep, .code yX1_sweep cX1_sweep 11 none, .methodLink RX6 150 yX1_freeSet, .instanceMethod yX1_freeSet, .selects RX1 yX1_freeSet yX1_freeSet, .code yX1_freeSet cX1_freeSet 3 (some .int), .methodLink RX1 78 yX1_isFree, .instanceMethod yX1_isFree, .selects RX1 yX1_isFree yX1_isFree, .code yX1_isFree cX1_isFree 2 (some .boolean), .methodLink RX6 154 yX1_isSolvable, .instanceMethod yX1_isSolvable, .selects RX1 yX1_isSolvable yX1_isSolvable, .code yX1_isSolvable cX1_isSolvable 2 (some .boolean), .methodLink RX6 158 yX6_oneIf, .static yX6_oneIf, .code yX6_oneIf cX6_oneIf 1 (some .int)]
def wu16 : List Cond := [.methodLink RL 61 yX7_of, .instanceMethod yX7_of, .selects RX7 yX7_of yX7_of, .code yX7_of cX7_of 4 (some .int), .fieldLink RX7 239 "TwoSidedTablesModel" "rank" "I", .methodLink RX7 203 yX7_isEquation, .instanceMethod yX7_isEquation, .selects RX7 yX7_isEquation yX7_isEquation, .code yX7_isEquation cX7_isEquation 2 (some .boolean), .methodLink RX7 259 yX7_isFit, .instanceMethod yX7_isFit, .selects RX7 yX7_isFit yX7_isFit, .code yX7_isFit cX7_isFit 2 (some .boolean), .methodLink RX7 209 yX7_isLike, .instanceMethod yX7_isLike, .selects RX7 yX7_isLike yX7_isLike, .code yX7_isLike cX7_isLike 2 (some .boolean), .methodLink RX7 212 yX7_unknownsOf, .instanceMethod yX7_unknownsOf, .selects RX7 yX7_unknownsOf yX7_unknownsOf, .code yX7_unknownsOf cX7_unknownsOf 4 (some .int), .methodLink RX7 206 yX7_isUnknown, .static yX7_isUnknown, .code yX7_isUnknown cX7_isUnknown 3 (some .boolean), .methodLink RX7 262 yX7_setsUp, .instanceMethod yX7_setsUp, .selects RX7 yX7_setsUp yX7_setsUp, .code yX7_setsUp cX7_setsUp 2 none, .methodLink RX7 255 yX7_sets, .instanceMethod yX7_sets, .selects RX7 yX7_sets yX7_sets, .code yX7_sets cX7_sets 9 none]
def wu17 : List Cond := [.fieldLink RX7 229 "TwoSidedTablesModel" "width" "I", .fieldLink RX7 232 "TwoSidedTablesModel" "height" "I", .methodLink RX7 249 yX7_takenBy, .instanceMethod yX7_takenBy, .selects RX7 yX7_takenBy yX7_takenBy, .code yX7_takenBy cX7_takenBy 9 (some .int), .methodLink RX7 218 yX7_shaped, .static yX7_shaped, .code yX7_shaped cX7_shaped 6 (some .int), .methodLink RX7 222 yX7_times0, .instanceMethod yX7_times0, .selects RX7 yX7_times0 yX7_times0, .code yX7_times0 cX7_times0 7 (some .int), .methodLink RX7 215 yX7_rightOf, .instanceMethod yX7_rightOf, .selects RX7 yX7_rightOf yX7_rightOf, .code yX7_rightOf cX7_rightOf 4 (some .int), .methodLink RX7 252 yX7_works, .instanceMethod yX7_works, .selects RX7 yX7_works yX7_works, .code yX7_works cX7_works 3 none, .fieldLink RX7 226 "TwoSidedTablesModel" "changed" "I", .fieldLink RX7 235 "TwoSidedTablesModel" "scale" "J", .methodLink RX7 242 yX7_swaps, .instanceMethod yX7_swaps, .selects RX7 yX7_swaps yX7_swaps, .code yX7_swaps cX7_swaps 6 none, .methodLink RX7 246 yX7_clears, .instanceMethod yX7_clears, .selects RX7 yX7_clears yX7_clears, .code yX7_clears cX7_clears 9 none, .methodLink RX7 266 yX7_freeOnes]
def wu18 : List Cond := [.instanceMethod yX7_freeOnes, .selects RX7 yX7_freeOnes yX7_freeOnes, .code yX7_freeOnes cX7_freeOnes 3 (some .int), .methodLink RX7 270 yX7_isSolved, .instanceMethod yX7_isSolved, .selects RX7 yX7_isSolved yX7_isSolved, .code yX7_isSolved cX7_isSolved 2 (some .boolean), .methodLink RL 62 yX6_change, .instanceMethod yX6_change, .selects RX6 yX6_change yX6_change, .code yX6_change cX6_change 5 (some .int), .methodLink RL 65 yX7_change, .instanceMethod yX7_change, .selects RX7 yX7_change yX7_change, .code yX7_change cX7_change 5 (some .int), .methodLink RL 66 yX6_right, .instanceMethod yX6_right, .selects RX6 yX6_right yX6_right, .code yX6_right cX6_right 4 (some .long), .methodLink RL 70 yX7_right, .instanceMethod yX7_right, .selects RX7 yX7_right yX7_right, .code yX7_right cX7_right 4 (some .long), .methodLink RL 71 yX6_solution, .instanceMethod yX6_solution, .selects RX6 yX6_solution yX6_solution, .code yX6_solution cX6_solution 5 (some .long), .fieldLink RX6 172 "TwoSidedTables$Grid" "below" "J", .methodLink RX6 165 yX6_isPart, .static yX6_isPart, .code yX6_isPart cX6_isPart 1 (some .boolean), .methodLink RX6 168 yX6_solutionAbove]
def wu19 : List Cond := [.instanceMethod yX6_solutionAbove, .selects RX6 yX6_solutionAbove yX6_solutionAbove, .code yX6_solutionAbove cX6_solutionAbove 4 (some .long), .methodLink RX6 202 yX1_solutionAbove, .instanceMethod yX1_solutionAbove, .selects RX1 yX1_solutionAbove yX1_solutionAbove, .code yX1_solutionAbove cX1_solutionAbove 2 (some .long), .methodLink RX1 82 yX1_isPivot, .instanceMethod yX1_isPivot, .selects RX1 yX1_isPivot yX1_isPivot, .code yX1_isPivot cX1_isPivot 2 (some .boolean), .methodLink RX6 176 yX6_fractionPart, .static yX6_fractionPart, .code yX6_fractionPart cX6_fractionPart 7 (some .long), .constantLong RX6 330 (-1), .constantLong RX6 332 (-9223372036854775808), .methodLink RX6 326 yX6_commonDivisor, .static yX6_commonDivisor, .code yX6_commonDivisor cX6_commonDivisor 11 (some .long), .methodLink RL 75 yX7_solution, .instanceMethod yX7_solution, .selects RX7 yX7_solution yX7_solution, .code yX7_solution cX7_solution 5 (some .long), .methodLink RX7 274 yX7_isPart, .instanceMethod yX7_isPart, .selects RX7 yX7_isPart yX7_isPart, .code yX7_isPart cX7_isPart 5 (some .boolean), .methodLink RX7 278 yX7_shapedSum, .instanceMethod yX7_shapedSum, .selects RX7 yX7_shapedSum yX7_shapedSum, .code yX7_shapedSum cX7_shapedSum 11 (some .long), .methodLink RX7 282 yX7_partOf]
def wu20 : List Cond := [.static yX7_partOf, .code yX7_partOf cX7_partOf 7 (some .long), .methodLink RX7 93 yX7_common, .static yX7_common, .code yX7_common cX7_common 10 (some .long), .methodLink RL 76 yX6_base, .instanceMethod yX6_base, .selects RX6 yX6_base yX6_base, .code yX6_base cX6_base 9 (some .long), .methodLink RX6 180 yX1_isFree, .methodLink RX6 189 yX1_baseAbove, .instanceMethod yX1_baseAbove, .selects RX1 yX1_baseAbove yX1_baseAbove, .code yX1_baseAbove cX1_baseAbove 3 (some .long), .methodLink RL 80 yX7_base, .instanceMethod yX7_base, .selects RX7 yX7_base yX7_base, .code yX7_base cX7_base 6 (some .long), .methodLink RL 81 yX6_witness, .instanceMethod yX6_witness, .selects RX6 yX6_witness yX6_witness, .code yX6_witness cX6_witness 6 (some .long), .methodLink RX6 195 yX1_fillTurned, .instanceMethod yX1_fillTurned, .selects RX1 yX1_fillTurned yX1_fillTurned, .code yX1_fillTurned cX1_fillTurned 4 none, .methodLink RX1 57 yX1_clear, .methodLink RL 84 yX7_witness, .instanceMethod yX7_witness, .selects RX7 yX7_witness yX7_witness, .code yX7_witness cX7_witness 11 (some .long), .methodLink RX7 293 yX7_worksRules]
def wu21 : List Cond := [.instanceMethod yX7_worksRules, .selects RX7 yX7_worksRules yX7_worksRules, .code yX7_worksRules cX7_worksRules 9 (some .long), .methodLink RX7 286 yX7_swapsRules, .instanceMethod yX7_swapsRules, .selects RX7 yX7_swapsRules yX7_swapsRules, .code yX7_swapsRules cX7_swapsRules 6 none, .methodLink RX7 289 yX7_clearsRules, .instanceMethod yX7_clearsRules, .selects RX7 yX7_clearsRules yX7_clearsRules, .code yX7_clearsRules cX7_clearsRules 12 (some .long), .methodLink RL 85 yX6_similar, .instanceMethod yX6_similar, .selects RX6 yX6_similar yX6_similar, .code yX6_similar cX6_similar 2 (some .int), .methodLink RX6 204 yX6_isSmallWhole, .instanceMethod yX6_isSmallWhole, .selects RX6 yX6_isSmallWhole yX6_isSmallWhole, .code yX6_isSmallWhole cX6_isSmallWhole 2 (some .boolean), .methodLink RL 89 yX7_similar, .instanceMethod yX7_similar, .selects RX7 yX7_similar yX7_similar, .code yX7_similar cX7_similar 2 (some .int), .methodLink RX7 297 yX7_isSmall, .instanceMethod yX7_isSmall, .selects RX7 yX7_isSmall yX7_isSmall, .code yX7_isSmall cX7_isSmall 2 (some .boolean), .methodLink RL 90 yX6_whole, .instanceMethod yX6_whole, .selects RX6 yX6_whole yX6_whole, .code yX6_whole cX6_whole 2 (some .long), .methodLink RX6 207 yX1_determinant]
def wu22 : List Cond := [.instanceMethod yX1_determinant, .selects RX1 yX1_determinant yX1_determinant, .code yX1_determinant cX1_determinant 1 (some .long), .methodLink RL 93 yX7_whole, .instanceMethod yX7_whole, .selects RX7 yX7_whole yX7_whole, .code yX7_whole cX7_whole 2 (some .long), .methodLink RL 94 yX6_lower, .instanceMethod yX6_lower, .selects RX6 yX6_lower yX6_lower, .code yX6_lower cX6_lower 3 (some .int), .methodLink RX6 211 yX4_splits, .instanceMethod yX4_splits, .selects RX4 yX4_splits yX4_splits, .code yX4_splits cX4_splits 4 (some .boolean), .methodLink RL 97 yX7_lower, .instanceMethod yX7_lower, .selects RX7 yX7_lower yX7_lower, .code yX7_lower cX7_lower 3 (some .int), .methodLink RX7 300 yX7_splits, .instanceMethod yX7_splits, .selects RX7 yX7_splits yX7_splits, .code yX7_splits cX7_splits 4 (some .boolean), .methodLink RL 98 yX6_swapped, .instanceMethod yX6_swapped, .selects RX6 yX6_swapped yX6_swapped, .code yX6_swapped cX6_swapped 1 (some .int), .methodLink RL 101 yX7_swapped, .instanceMethod yX7_swapped, .selects RX7 yX7_swapped yX7_swapped, .code yX7_swapped cX7_swapped 1 (some .int), .methodLink RL 102 yX6_stable]
def wu23 : List Cond := [.instanceMethod yX6_stable, .selects RX6 yX6_stable yX6_stable, .code yX6_stable cX6_stable 7 (some .int), .methodLink RL 105 yX7_stable, .instanceMethod yX7_stable, .selects RX7 yX7_stable yX7_stable, .code yX7_stable cX7_stable 8 (some .int), .methodLink RL 106 yX6_lay, .instanceMethod yX6_lay, .selects RX6 yX6_lay yX6_lay, .code yX6_lay cX6_lay 9 (some .int), .methodLink RX6 214 yX6_isSheet, .static yX6_isSheet, .code yX6_isSheet cX6_isSheet 1 (some .boolean), .methodLink RX6 217 yX6_solutionDivisor, .instanceMethod yX6_solutionDivisor, .selects RX6 yX6_solutionDivisor yX6_solutionDivisor, .code yX6_solutionDivisor cX6_solutionDivisor 6 (some .long), .methodLink RX6 220 yX6_isLaidInInts, .instanceMethod yX6_isLaidInInts, .selects RX6 yX6_isLaidInInts yX6_isLaidInInts, .code yX6_isLaidInInts cX6_isLaidInInts 6 (some .boolean), .methodLink RX6 351 yX6_isInt, .static yX6_isInt, .code yX6_isInt cX6_isInt 2 (some .boolean), .methodLink RX6 224 yX2_renew, .instanceMethod yX2_renew, .selects RX2 yX2_renew yX2_renew, .code yX2_renew cX2_renew 3 none, .methodLink RX2 19 Lib.Math.min.name, .methodLink RX2 25 Lib.Math.max.name, .fieldLink RX2 28 "TwoSidedTables$Sheet" "length" "I"]
def wu24 : List Cond := [.methodLink RX2 31 yJ7_fill_d0a16, .methodLink RX6 227 yX2_write, .instanceMethod yX2_write, .selects RX2 yX2_write yX2_write, .code yX2_write cX2_write 4 none, .methodLink RX2 37 yX2_narrowed, .instanceMethod yX2_narrowed, .selects RX2 yX2_narrowed yX2_narrowed, .code yX2_narrowed cX2_narrowed 3 (some .long), .methodLink RL 109 yX7_lay, .instanceMethod yX7_lay, .selects RX7 yX7_lay yX7_lay, .code yX7_lay cX7_lay 10 (some .int), .methodLink RX7 303 yX7_isSheet, .static yX7_isSheet, .code yX7_isSheet cX7_isSheet 1 (some .boolean), .methodLink RX7 306 yX7_leastScale, .instanceMethod yX7_leastScale, .selects RX7 yX7_leastScale yX7_leastScale, .code yX7_leastScale cX7_leastScale 7 (some .long), .methodLink RL 110 yX6_judge, .instanceMethod yX6_judge, .selects RX6 yX6_judge yX6_judge, .code yX6_judge cX6_judge 8 (some .int), .methodLink RX6 231 yX6_unreadable, .instanceMethod yX6_unreadable, .selects RX6 yX6_unreadable yX6_unreadable, .code yX6_unreadable cX6_unreadable 2 (some .int), .fieldLink RX6 252 "TwoSidedTables$Sheet" "sort" "I", .fieldLink RX6 255 "TwoSidedTables$Sheet" "length" "I", .methodLink RX6 235 yX6_firstWrong, .instanceMethod yX6_firstWrong]
def wu25 : List Cond := [.selects RX6 yX6_firstWrong yX6_firstWrong, .code yX6_firstWrong cX6_firstWrong 7 (some .int), .methodLink RX6 355 yX6_sumAt, .instanceMethod yX6_sumAt, .selects RX6 yX6_sumAt yX6_sumAt, .code yX6_sumAt cX6_sumAt 9 (some .long), .methodLink RX6 258 yX2_read, .instanceMethod yX2_read, .selects RX2 yX2_read yX2_read, .code yX2_read cX2_read 2 (some .long), .methodLink RX6 239 yX6_isOfShape, .instanceMethod yX6_isOfShape, .selects RX6 yX6_isOfShape yX6_isOfShape, .code yX6_isOfShape cX6_isOfShape 10 (some .boolean), .methodLink RL 113 yX7_judge, .instanceMethod yX7_judge, .selects RX7 yX7_judge yX7_judge, .code yX7_judge cX7_judge 5 (some .int), .methodLink RX7 309 yX7_against, .instanceMethod yX7_against, .selects RX7 yX7_against yX7_against, .code yX7_against cX7_against 2 (some .int), .methodLink RX7 312 yX7_firstOff, .instanceMethod yX7_firstOff, .selects RX7 yX7_firstOff yX7_firstOff, .code yX7_firstOff cX7_firstOff 9 (some .int), .methodLink RX7 316 yX7_isShaped, .instanceMethod yX7_isShaped, .selects RX7 yX7_isShaped yX7_isShaped, .code yX7_isShaped cX7_isShaped 11 (some .boolean), .methodLink RL 114 yX6_kinds, .instanceMethod yX6_kinds]
def wu26 : List Cond := [.selects RX6 yX6_kinds yX6_kinds, .code yX6_kinds cX6_kinds 7 (some .int), .methodLink RL 117 yX7_kinds, .instanceMethod yX7_kinds, .selects RX7 yX7_kinds yX7_kinds, .code yX7_kinds cX7_kinds 5 (some .int), .methodLink RL 118 yX6_ratio, .instanceMethod yX6_ratio, .selects RX6 yX6_ratio yX6_ratio, .code yX6_ratio cX6_ratio 6 (some .long), .methodLink RL 122 yX7_ratio, .instanceMethod yX7_ratio, .selects RX7 yX7_ratio yX7_ratio, .code yX7_ratio cX7_ratio 17 (some .long), .constantLong RX7 321 (-9223372036854775808), .constantLong RX7 323 (-1), .methodLink RL 123 yX6_seed, .instanceMethod yX6_seed, .selects RX6 yX6_seed yX6_seed, .code yX6_seed cX6_seed 3 (some .int), .fieldLink RX6 243 "TwoSidedTables$State" "z" "I", .methodLink RL 126 yX7_seed, .instanceMethod yX7_seed, .selects RX7 yX7_seed yX7_seed, .code yX7_seed cX7_seed 3 (some .int), .methodLink RL 127 yX6_lot, .instanceMethod yX6_lot, .selects RX6 yX6_lot yX6_lot, .code yX6_lot cX6_lot 1 (some .int), .methodLink RX6 246 yX4_draw, .instanceMethod yX4_draw, .selects RX4 yX4_draw yX4_draw]
def wu27 : List Cond := [.code yX4_draw cX4_draw 1 none, .methodLink RX4 75 yX4_drawTable, .instanceMethod yX4_drawTable, .selects RX4 yX4_drawTable yX4_drawTable, .code yX4_drawTable cX4_drawTable 4 none, .constant RX4 79 (1103515245), .methodLink RX4 80 yX4_store, .methodLink RL 130 yX7_lot, .instanceMethod yX7_lot, .selects RX7 yX7_lot yX7_lot, .code yX7_lot cX7_lot 1 (some .int), .methodLink RX7 326 yX7_lots, .instanceMethod yX7_lots, .selects RX7 yX7_lots yX7_lots, .code yX7_lots cX7_lots 4 none, .constant RX7 325 (1103515245), .methodLink RL 131 yX6_times, .instanceMethod yX6_times, .selects RX6 yX6_times yX6_times, .code yX6_times cX6_times 5 (some .int), .methodLink RL 134 yX7_times, .instanceMethod yX7_times, .selects RX7 yX7_times yX7_times, .code yX7_times cX7_times 5 (some .int), .constantLong RX7 329 (30), .methodLink RL 135 yX6_sheet, .instanceMethod yX6_sheet, .selects RX6 yX6_sheet yX6_sheet, .code yX6_sheet cX6_sheet 4 (some .int), .methodLink RX6 249 yX6_isSort, .static yX6_isSort, .code yX6_isSort cX6_isSort 1 (some .boolean)]
def wu28 : List Cond := [.methodLink RL 138 yX7_sheet, .instanceMethod yX7_sheet, .selects RX7 yX7_sheet yX7_sheet, .code yX7_sheet cX7_sheet 5 (some .int), .methodLink RL 139 yX6_put, .instanceMethod yX6_put, .selects RX6 yX6_put yX6_put, .code yX6_put cX6_put 6 (some .int), .methodLink RL 143 yX7_put, .instanceMethod yX7_put, .selects RX7 yX7_put yX7_put, .code yX7_put cX7_put 5 (some .int), .methodLink RX7 331 yX7_narrowed, .static yX7_narrowed, .code yX7_narrowed cX7_narrowed 3 (some .long), .methodLink RL 144 yX6_item, .instanceMethod yX6_item, .selects RX6 yX6_item yX6_item, .code yX6_item cX6_item 5 (some .int), .methodLink RL 147 yX7_item, .instanceMethod yX7_item, .selects RX7 yX7_item yX7_item, .code yX7_item cX7_item 4 (some .int), .methodLink RL 148 yX6_move, .instanceMethod yX6_move, .selects RX6 yX6_move yX6_move, .code yX6_move cX6_move 8 (some .int), .fieldLink RX6 265 "TwoSidedTables$Sheet" "items" "[J", .methodLink RX6 269 arraycopyName, .methodLink RX6 261 yX2_hasStretch, .instanceMethod yX2_hasStretch, .selects RX2 yX2_hasStretch yX2_hasStretch]
def wu29 : List Cond := [.code yX2_hasStretch cX2_hasStretch 3 (some .boolean), .methodLink RL 152 yX7_move, .instanceMethod yX7_move, .selects RX7 yX7_move yX7_move, .code yX7_move cX7_move 7 (some .int), .methodLink RL 153 yX6_shelf, .instanceMethod yX6_shelf, .selects RX6 yX6_shelf yX6_shelf, .code yX6_shelf cX6_shelf 5 (some .int), .methodLink RX6 275 yX6_isShelf, .static yX6_isShelf, .code yX6_isShelf cX6_isShelf 1 (some .boolean), .methodLink RX6 278 yX3_hold, .instanceMethod yX3_hold, .selects RX3 yX3_hold yX3_hold, .code yX3_hold cX3_hold 4 none, .fieldLink RX3 15 "TwoSidedTables$Shelf" "number" "I", .fieldLink RX3 18 "TwoSidedTables$Shelf" "sort" "I", .methodLink RL 156 yX7_shelf, .instanceMethod yX7_shelf, .selects RX7 yX7_shelf yX7_shelf, .code yX7_shelf cX7_shelf 4 (some .int), .methodLink RX7 335 yX7_isShelf, .static yX7_isShelf, .code yX7_isShelf cX7_isShelf 1 (some .boolean), .methodLink RL 157 yX6_taken, .instanceMethod yX6_taken, .selects RX6 yX6_taken yX6_taken, .code yX6_taken cX6_taken 7 (some .int), .fieldLink RX6 285 "TwoSidedTables$Shelf" "sort" "I", .fieldLink RX6 286 "TwoSidedTables$Shelf" "number" "I", .methodLink RX6 281 yX6_heldNow]
def wu30 : List Cond := [.instanceMethod yX6_heldNow, .selects RX6 yX6_heldNow yX6_heldNow, .code yX6_heldNow cX6_heldNow 2 (some .int), .fieldLink RX6 334 "TwoSidedTables$Shelf" "holds" "I", .methodLink RX6 289 yX6_isUnder, .static yX6_isUnder, .code yX6_isUnder cX6_isUnder 4 (some .boolean), .methodLink RX6 323 yX6_kindAbove, .static yX6_kindAbove, .code yX6_kindAbove cX6_kindAbove 1 (some .int), .methodLink RL 160 yX7_taken, .instanceMethod yX7_taken, .selects RX7 yX7_taken yX7_taken, .code yX7_taken cX7_taken 4 (some .int), .constantLong RX7 338 (10), .constantLong RX7 340 (13), .methodLink RX7 342 yX7_heldBy, .instanceMethod yX7_heldBy, .selects RX7 yX7_heldBy yX7_heldBy, .code yX7_heldBy cX7_heldBy 2 (some .int), .methodLink RX7 345 yX7_isUnder, .static yX7_isUnder, .code yX7_isUnder cX7_isUnder 2 (some .boolean), .methodLink RL 161 yX6_act, .instanceMethod yX6_act, .selects RX6 yX6_act yX6_act, .code yX6_act cX6_act 5 (some .int), .fieldLink RX6 295 "TwoSidedTables$Acts" "kind" "I", .fieldLink RX6 298 "TwoSidedTables$Acts" "number" "I", .fieldLink RX6 299 "TwoSidedTables$Acts" "shift" "I", .methodLink RX6 292 yX0_forget, .instanceMethod yX0_forget]
def wu31 : List Cond := [.selects RX0 yX0_forget yX0_forget, .code yX0_forget cX0_forget 1 none, .fieldLink RX0 15 "TwoSidedTables$Acts" "count" "I", .fieldLink RX0 19 "TwoSidedTables$Acts" "isParted" "Z", .methodLink RX6 302 yX0_run, .instanceMethod yX0_run, .selects RX0 yX0_run yX0_run, .code yX0_run cX0_run 4 (some .int), .fieldLink RX0 23 "TwoSidedTables$Acts" "kind" "I", .methodLink RX0 26 yX0_weighs, .instanceMethod yX0_weighs, .selects RX0 yX0_weighs yX0_weighs, .code yX0_weighs cX0_weighs 3 (some .int), .fieldLink RX0 43 "TwoSidedTables$Acts" "shift" "I", .fieldLink RX0 46 "TwoSidedTables$Acts" "number" "I", .methodLink RX0 39 yX0_begin, .instanceMethod yX0_begin, .selects RX0 yX0_begin yX0_begin, .code yX0_begin cX0_begin 2 none, .methodLink RX0 30 yX0_turns, .instanceMethod yX0_turns, .selects RX0 yX0_turns yX0_turns, .code yX0_turns cX0_turns 3 (some .int), .methodLink RX0 33 yX0_parts, .instanceMethod yX0_parts, .selects RX0 yX0_parts yX0_parts, .code yX0_parts cX0_parts 4 (some .int), .methodLink RX0 36 yX0_closes, .instanceMethod yX0_closes, .selects RX0 yX0_closes yX0_closes, .code yX0_closes cX0_closes 3 (some .int), .methodLink RL 164 yX7_act]
def wu32 : List Cond := [.instanceMethod yX7_act, .selects RX7 yX7_act yX7_act, .code yX7_act cX7_act 5 (some .int), .fieldLink RX7 348 "TwoSidedTablesModel" "traced" "I", .fieldLink RX7 354 "TwoSidedTablesModel" "number" "I", .fieldLink RX7 360 "TwoSidedTablesModel" "kind" "I", .fieldLink RX7 366 "TwoSidedTablesModel" "shift" "I", .fieldLink RX7 378 "TwoSidedTablesModel" "isParted" "Z", .methodLink RX7 369 yX7_weighs, .instanceMethod yX7_weighs, .selects RX7 yX7_weighs yX7_weighs, .code yX7_weighs cX7_weighs 2 (some .int), .methodLink RX7 351 yX7_ran, .instanceMethod yX7_ran, .selects RX7 yX7_ran yX7_ran, .code yX7_ran cX7_ran 2 none, .methodLink RX7 357 yX7_plainWeighs, .instanceMethod yX7_plainWeighs, .selects RX7 yX7_plainWeighs yX7_plainWeighs, .code yX7_plainWeighs cX7_plainWeighs 2 (some .int), .methodLink RX7 363 yX7_turnedWeighs, .instanceMethod yX7_turnedWeighs, .selects RX7 yX7_turnedWeighs yX7_turnedWeighs, .code yX7_turnedWeighs cX7_turnedWeighs 2 (some .int), .methodLink RX7 382 yX7_turns, .instanceMethod yX7_turns, .selects RX7 yX7_turns yX7_turns, .code yX7_turns cX7_turns 2 (some .int), .methodLink RX7 375 yX7_alikeTurns, .instanceMethod yX7_alikeTurns, .selects RX7 yX7_alikeTurns yX7_alikeTurns, .code yX7_alikeTurns cX7_alikeTurns 2 (some .int)]
def wu33 : List Cond := [.methodLink RX7 372 yX7_plainTurns, .instanceMethod yX7_plainTurns, .selects RX7 yX7_plainTurns yX7_plainTurns, .code yX7_plainTurns cX7_plainTurns 2 (some .int), .methodLink RX7 385 yX7_parts, .instanceMethod yX7_parts, .selects RX7 yX7_parts yX7_parts, .code yX7_parts cX7_parts 4 (some .int), .methodLink RX7 394 yX7_closes, .instanceMethod yX7_closes, .selects RX7 yX7_closes yX7_closes, .code yX7_closes cX7_closes 2 (some .int), .methodLink RX7 391 yX7_evenCloses, .instanceMethod yX7_evenCloses, .selects RX7 yX7_evenCloses yX7_evenCloses, .code yX7_evenCloses cX7_evenCloses 3 (some .int), .methodLink RX7 388 yX7_plainCloses, .instanceMethod yX7_plainCloses, .selects RX7 yX7_plainCloses yX7_plainCloses, .code yX7_plainCloses cX7_plainCloses 3 (some .int), .methodLink RL 165 yX6_trace, .instanceMethod yX6_trace, .selects RX6 yX6_trace yX6_trace, .code yX6_trace cX6_trace 2 (some .int), .fieldLink RX6 306 "TwoSidedTables$Acts" "count" "I", .fieldLink RX6 307 "TwoSidedTables$Acts" "bodies" "[I", .methodLink RL 168 yX7_trace, .instanceMethod yX7_trace, .selects RX7 yX7_trace yX7_trace, .code yX7_trace cX7_trace 2 (some .int), .methodLink RL 169 yX6_many, .instanceMethod yX6_many]
def wu34 : List Cond := [.selects RX6 yX6_many yX6_many, .code yX6_many cX6_many 2 (some .int), .methodLink RX6 311 yX4_fittingSet, .instanceMethod yX4_fittingSet, .selects RX4 yX4_fittingSet yX4_fittingSet, .code yX4_fittingSet cX4_fittingSet 3 (some .int), .methodLink RX4 94 yX4_kindOf, .methodLink RX4 97 yX4_fits, .methodLink RX6 314 yX4_splitSet, .instanceMethod yX4_splitSet, .selects RX4 yX4_splitSet yX4_splitSet, .code yX4_splitSet cX4_splitSet 3 (some .int), .methodLink RX4 100 yX4_splits, .methodLink RL 172 yX7_many, .instanceMethod yX7_many, .selects RX7 yX7_many yX7_many, .code yX7_many cX7_many 2 (some .int), .methodLink RX7 397 yX7_fitting, .instanceMethod yX7_fitting, .selects RX7 yX7_fitting yX7_fitting, .code yX7_fitting cX7_fitting 3 (some .int), .methodLink RX7 400 yX7_splitting, .instanceMethod yX7_splitting, .selects RX7 yX7_splitting yX7_splitting, .code yX7_splitting cX7_splitting 3 (some .int), .methodLink RL 173 yX6_keep, .instanceMethod yX6_keep, .selects RX6 yX6_keep yX6_keep, .code yX6_keep cX6_keep 1 (some .int), .fieldLink RX6 317 "TwoSidedTables" "isKept" "Z", .methodLink RL 176 yX7_keep, .instanceMethod yX7_keep]
def wu35 : List Cond := [.selects RX7 yX7_keep yX7_keep, .code yX7_keep cX7_keep 2 (some .int), .fieldLink RX7 403 "TwoSidedTablesModel" "keptM" "I", .fieldLink RX7 406 "TwoSidedTablesModel" "keptN" "I", .fieldLink RX7 409 "TwoSidedTablesModel" "keptZ" "I", .fieldLink RX7 412 "TwoSidedTablesModel" "keptEquations" "I", .fieldLink RX7 415 "TwoSidedTablesModel" "isKept" "Z", .methodLink RL 177 yX6_again, .instanceMethod yX6_again, .selects RX6 yX6_again yX6_again, .code yX6_again cX6_again 1 (some .int), .methodLink RL 180 yX7_again, .instanceMethod yX7_again, .selects RX7 yX7_again yX7_again, .code yX7_again cX7_again 2 (some .int)]
def wsU : List Cond := (((((wu0 ++ wu1) ++ (wu2 ++ (wu3 ++ wu4))) ++ ((wu5 ++ (wu6 ++ wu7)) ++ (wu8 ++ (wu9 ++ wu10)))) ++ (((wu11 ++ wu12) ++ (wu13 ++ (wu14 ++ wu15))) ++ ((wu16 ++ (wu17 ++ wu18)) ++ (wu19 ++ (wu20 ++ wu21))))) ++ ((((wu22 ++ wu23) ++ (wu24 ++ (wu25 ++ wu26))) ++ ((wu27 ++ (wu28 ++ wu29)) ++ (wu30 ++ (wu31 ++ wu32)))) ++ (((wu33 ++ wu34) ++ (wu35 ++ (wsX60 ++ wsX70))) ++ ((wsX40 ++ (wsX10 ++ wsX50)) ++ (wsX00 ++ (wsX20 ++ wsX30))))))
theorem mU_0 : Cond.classLink RL 7 RX6 ∈ wsU := List.mem_append_left _ (List.mem_append_left _ (List.mem_append_left _ (List.mem_append_left _ (List.mem_append_left _ (List.mem_of_getElem? (i := 0) rfl)))))
theorem mU_1 : Cond.instantiable RX6 10 ∈ wsU := List.mem_append_left _ (List.mem_append_left _ (List.mem_append_left _ (List.mem_append_left _ (List.mem_append_left _ (List.mem_of_getElem? (i := 1) rfl)))))
theorem mU_2 : Cond.initialized RX6 ∈ wsU := List.mem_append_left _ (List.mem_append_left _ (List.mem_append_left _ (List.mem_append_left _ (List.mem_append_left _ (List.mem_of_getElem? (i := 2) rfl)))))
theorem mU_3 : Cond.classLink RL 10 RX7 ∈ wsU := List.mem_append_left _ (List.mem_append_left _ (List.mem_append_left _ (List.mem_append_left _ (List.mem_append_left _ (List.mem_of_getElem? (i := 3) rfl)))))
theorem mU_4 : Cond.instantiable RX7 47 ∈ wsU := List.mem_append_left _ (List.mem_append_left _ (List.mem_append_left _ (List.mem_append_left _ (List.mem_append_left _ (List.mem_of_getElem? (i := 4) rfl)))))
theorem mU_5 : Cond.initialized RX7 ∈ wsU := List.mem_append_left _ (List.mem_append_left _ (List.mem_append_left _ (List.mem_append_left _ (List.mem_append_left _ (List.mem_of_getElem? (i := 5) rfl)))))
theorem mU_6 : Cond.constantLong RL 42 (4294967295) ∈ wsU := List.mem_append_left _ (List.mem_append_left _ (List.mem_append_left _ (List.mem_append_left _ (List.mem_append_left _ (List.mem_of_getElem? (i := 6) rfl)))))
theorem mU_7 : Cond.methodLink RL 9 yX6_init ∈ wsU := List.mem_append_left _ (List.mem_append_left _ (List.mem_append_left _ (List.mem_append_left _ (List.mem_append_left _ (List.mem_of_getElem? (i := 7) rfl)))))
theorem mU_8 : Cond.instanceMethod yX6_init ∈ wsU := List.mem_append_left _ (List.mem_append_left _ (List.mem_append_left _ (List.mem_append_left _ (List.mem_append_left _ (List.mem_of_getElem? (i := 8) rfl)))))
theorem mU_9 : Cond.code yX6_init cX6_init 2 none ∈ wsU := List.mem_append_left _ (List.mem_append_left _ (List.mem_append_left _ (List.mem_append_left _ (List.mem_append_left _ (List.mem_of_getElem? (i := 9) rfl)))))
theorem mU_10 : Cond.methodLink RX6 1 objectInit ∈ wsU := List.mem_append_left _ (List.mem_append_left _ (List.mem_append_left _ (List.mem_append_left _ (List.mem_append_left _ (List.mem_of_getElem? (i := 10) rfl)))))
theorem mU_11 : Cond.instanceMethod objectInit ∈ wsU := List.mem_append_left _ (List.mem_append_left _ (List.mem_append_left _ (List.mem_append_left _ (List.mem_append_left _ (List.mem_of_getElem? (i := 11) rfl)))))
theorem mU_12 : Cond.code objectInit ⟨#[0xb1]⟩ 1 none ∈ wsU := List.mem_append_left _ (List.mem_append_left _ (List.mem_append_left _ (List.mem_append_left _ (List.mem_append_left _ (List.mem_of_getElem? (i := 12) rfl)))))
theorem mU_13 : Cond.classLink RX6 7 RX4 ∈ wsU := List.mem_append_left _ (List.mem_append_left _ (List.mem_append_left _ (List.mem_append_left _ (List.mem_append_left _ (List.mem_of_getElem? (i := 13) rfl)))))
theorem mU_14 : Cond.instantiable RX4 9 ∈ wsU := List.mem_append_left _ (List.mem_append_left _ (List.mem_append_left _ (List.mem_append_left _ (List.mem_append_left _ (List.mem_of_getElem? (i := 14) rfl)))))
theorem mU_15 : Cond.initialized RX4 ∈ wsU := List.mem_append_left _ (List.mem_append_left _ (List.mem_append_left _ (List.mem_append_left _ (List.mem_append_left _ (List.mem_of_getElem? (i := 15) rfl)))))
theorem mU_16 : Cond.fieldLink RX6 10 "TwoSidedTables" "now" "LTwoSidedTables$State;" ∈ wsU := List.mem_append_left _ (List.mem_append_left _ (List.mem_append_left _ (List.mem_append_left _ (List.mem_append_left _ (List.mem_of_getElem? (i := 16) rfl)))))
theorem mU_17 : Cond.fieldLink RX6 16 "TwoSidedTables" "kept" "LTwoSidedTables$State;" ∈ wsU := List.mem_append_left _ (List.mem_append_left _ (List.mem_append_left _ (List.mem_append_left _ (List.mem_append_left _ (List.mem_of_getElem? (i := 17) rfl)))))
theorem mU_18 : Cond.fieldLink RX6 19 "TwoSidedTables" "spare" "LTwoSidedTables$State;" ∈ wsU := List.mem_append_left _ (List.mem_append_left _ (List.mem_append_left _ (List.mem_append_left _ (List.mem_append_left _ (List.mem_of_getElem? (i := 18) rfl)))))
theorem mU_19 : Cond.classLink RX6 22 RX1 ∈ wsU := List.mem_append_left _ (List.mem_append_left _ (List.mem_append_left _ (List.mem_append_left _ (List.mem_append_left _ (List.mem_of_getElem? (i := 19) rfl)))))
theorem mU_20 : Cond.instantiable RX1 7 ∈ wsU := List.mem_append_left _ (List.mem_append_left _ (List.mem_append_left _ (List.mem_append_left _ (List.mem_append_left _ (List.mem_of_getElem? (i := 20) rfl)))))
theorem mU_21 : Cond.initialized RX1 ∈ wsU := List.mem_append_left _ (List.mem_append_left _ (List.mem_append_left _ (List.mem_append_left _ (List.mem_append_left _ (List.mem_of_getElem? (i := 21) rfl)))))
theorem mU_22 : Cond.fieldLink RX6 25 "TwoSidedTables" "grid" "LTwoSidedTables$Grid;" ∈ wsU := List.mem_append_left _ (List.mem_append_left _ (List.mem_append_left _ (List.mem_append_left _ (List.mem_append_left _ (List.mem_of_getElem? (i := 22) rfl)))))
theorem mU_23 : Cond.fieldLink RX6 29 "TwoSidedTables" "witnessGrid" "LTwoSidedTables$Grid;" ∈ wsU := List.mem_append_left _ (List.mem_append_left _ (List.mem_append_left _ (List.mem_append_left _ (List.mem_append_left _ (List.mem_of_getElem? (i := 23) rfl)))))
theorem mU_24 : Cond.classLink RX6 32 RX5 ∈ wsU := List.mem_append_left _ (List.mem_append_left _ (List.mem_append_left _ (List.mem_append_left _ (List.mem_append_left _ (List.mem_of_getElem? (i := 24) rfl)))))
theorem mU_25 : Cond.instantiable RX5 3 ∈ wsU := List.mem_append_left _ (List.mem_append_left _ (List.mem_append_left _ (List.mem_append_left _ (List.mem_append_left _ (List.mem_of_getElem? (i := 25) rfl)))))
theorem mU_26 : Cond.initialized RX5 ∈ wsU := List.mem_append_left _ (List.mem_append_left _ (List.mem_append_left _ (List.mem_append_left _ (List.mem_append_left _ (List.mem_of_getElem? (i := 26) rfl)))))
theorem mU_27 : Cond.fieldLink RX6 35 "TwoSidedTables" "tape" "LTwoSidedTables$Tape;" ∈ wsU := List.mem_append_left _ (List.mem_append_left _ (List.mem_append_left _ (List.mem_append_left _ (List.mem_append_left _ (List.mem_of_getElem? (i := 27) rfl)))))
theorem mU_28 : Cond.classLink RX6 39 RX0 ∈ wsU := List.mem_append_left _ (List.mem_append_left _ (List.mem_append_left _ (List.mem_append_left _ (List.mem_append_left _ (List.mem_of_getElem? (i := 28) rfl)))))
theorem mU_29 : Cond.instantiable RX0 6 ∈ wsU := List.mem_append_left _ (List.mem_append_left _ (List.mem_append_left _ (List.mem_append_left _ (List.mem_append_left _ (List.mem_of_getElem? (i := 29) rfl)))))
theorem mU_30 : Cond.initialized RX0 ∈ wsU := List.mem_append_left _ (List.mem_append_left _ (List.mem_append_left _ (List.mem_append_left _ (List.mem_append_left _ (List.mem_of_getElem? (i := 30) rfl)))))
theorem mU_31 : Cond.fieldLink RX6 42 "TwoSidedTables" "acts" "LTwoSidedTables$Acts;" ∈ wsU := List.mem_append_left _ (List.mem_append_left _ (List.mem_append_left _ (List.mem_append_left _ (List.mem_append_left _ (List.mem_of_getElem? (i := 31) rfl)))))
theorem mU_32 : Cond.classLink RX6 46 RX2 ∈ wsU := List.mem_append_left _ (List.mem_append_left _ (List.mem_append_left _ (List.mem_append_left _ (List.mem_append_right _ (List.mem_of_getElem? (i := 0) rfl)))))
theorem mU_33 : Cond.fieldLink RX6 48 "TwoSidedTables" "sheets" "[LTwoSidedTables$Sheet;" ∈ wsU := List.mem_append_left _ (List.mem_append_left _ (List.mem_append_left _ (List.mem_append_left _ (List.mem_append_right _ (List.mem_of_getElem? (i := 1) rfl)))))
theorem mU_34 : Cond.classLink RX6 52 RX3 ∈ wsU := List.mem_append_left _ (List.mem_append_left _ (List.mem_append_left _ (List.mem_append_left _ (List.mem_append_right _ (List.mem_of_getElem? (i := 2) rfl)))))
theorem mU_35 : Cond.fieldLink RX6 54 "TwoSidedTables" "shelves" "[LTwoSidedTables$Shelf;" ∈ wsU := List.mem_append_left _ (List.mem_append_left _ (List.mem_append_left _ (List.mem_append_left _ (List.mem_append_right _ (List.mem_of_getElem? (i := 3) rfl)))))
theorem mU_36 : Cond.instantiable RX2 3 ∈ wsU := List.mem_append_left _ (List.mem_append_left _ (List.mem_append_left _ (List.mem_append_left _ (List.mem_append_right _ (List.mem_of_getElem? (i := 4) rfl)))))
theorem mU_37 : Cond.initialized RX2 ∈ wsU := List.mem_append_left _ (List.mem_append_left _ (List.mem_append_left _ (List.mem_append_left _ (List.mem_append_right _ (List.mem_of_getElem? (i := 5) rfl)))))
theorem mU_38 : Cond.instantiable RX3 3 ∈ wsU := List.mem_append_left _ (List.mem_append_left _ (List.mem_append_left _ (List.mem_append_left _ (List.mem_append_right _ (List.mem_of_getElem? (i := 6) rfl)))))
theorem mU_39 : Cond.initialized RX3 ∈ wsU := List.mem_append_left _ (List.mem_append_left _ (List.mem_append_left _ (List.mem_append_left _ (List.mem_append_right _ (List.mem_of_getElem? (i := 7) rfl)))))
theorem mU_40 : Cond.instanceMethod yX4_init ∈ wsU := List.mem_append_left _ (List.mem_append_left _ (List.mem_append_left _ (List.mem_append_left _ (List.mem_append_right _ (List.mem_of_getElem? (i := 8) rfl)))))
theorem mU_41 : Cond.code yX4_init cX4_init 1 none ∈ wsU := List.mem_append_left _ (List.mem_append_left _ (List.mem_append_left _ (List.mem_append_left _ (List.mem_append_right _ (List.mem_of_getElem? (i := 9) rfl)))))
theorem mU_42 : Cond.methodLink RX4 3 objectInit ∈ wsU := List.mem_append_left _ (List.mem_append_left _ (List.mem_append_left _ (List.mem_append_left _ (List.mem_append_right _ (List.mem_of_getElem? (i := 10) rfl)))))
theorem mU_43 : Cond.fieldLink RX4 9 "TwoSidedTables$State" "m" "I" ∈ wsU := List.mem_append_left _ (List.mem_append_left _ (List.mem_append_left _ (List.mem_append_left _ (List.mem_append_right _ (List.mem_of_getElem? (i := 11) rfl)))))
theorem mU_44 : Cond.fieldLink RX4 15 "TwoSidedTables$State" "n" "I" ∈ wsU := List.mem_append_left _ (List.mem_append_left _ (List.mem_append_left _ (List.mem_append_left _ (List.mem_append_right _ (List.mem_of_getElem? (i := 12) rfl)))))
theorem mU_45 : Cond.fieldLink RX4 18 "TwoSidedTables$State" "z" "I" ∈ wsU := List.mem_append_left _ (List.mem_append_left _ (List.mem_append_left _ (List.mem_append_left _ (List.mem_append_right _ (List.mem_of_getElem? (i := 13) rfl)))))
theorem mU_46 : Cond.arrayClass .int ∈ wsU := List.mem_append_left _ (List.mem_append_left _ (List.mem_append_left _ (List.mem_append_left _ (List.mem_append_right _ (List.mem_of_getElem? (i := 14) rfl)))))
theorem mU_47 : Cond.fieldLink RX4 21 "TwoSidedTables$State" "a" "[I" ∈ wsU := List.mem_append_left _ (List.mem_append_left _ (List.mem_append_left _ (List.mem_append_left _ (List.mem_append_right _ (List.mem_of_getElem? (i := 15) rfl)))))
theorem mU_48 : Cond.fieldLink RX4 25 "TwoSidedTables$State" "b" "[I" ∈ wsU := List.mem_append_left _ (List.mem_append_left _ (List.mem_append_left _ (List.mem_append_left _ (List.mem_append_right _ (List.mem_of_getElem? (i := 16) rfl)))))
theorem mU_49 : Cond.fieldLink RX4 28 "TwoSidedTables$State" "c" "[I" ∈ wsU := List.mem_append_left _ (List.mem_append_left _ (List.mem_append_left _ (List.mem_append_left _ (List.mem_append_right _ (List.mem_of_getElem? (i := 17) rfl)))))
theorem mU_50 : Cond.fieldLink RX4 31 "TwoSidedTables$State" "kindList" "[I" ∈ wsU := List.mem_append_left _ (List.mem_append_left _ (List.mem_append_left _ (List.mem_append_left _ (List.mem_append_right _ (List.mem_of_getElem? (i := 18) rfl)))))
theorem mU_51 : Cond.fieldLink RX4 34 "TwoSidedTables$State" "shiftList" "[I" ∈ wsU := List.mem_append_left _ (List.mem_append_left _ (List.mem_append_left _ (List.mem_append_left _ (List.mem_append_right _ (List.mem_of_getElem? (i := 19) rfl)))))
theorem mU_52 : Cond.instanceMethod yX1_init ∈ wsU := List.mem_append_left _ (List.mem_append_left _ (List.mem_append_left _ (List.mem_append_left _ (List.mem_append_right _ (List.mem_of_getElem? (i := 20) rfl)))))
theorem mU_53 : Cond.code yX1_init cX1_init 1 none ∈ wsU := List.mem_append_left _ (List.mem_append_left _ (List.mem_append_left _ (List.mem_append_left _ (List.mem_append_right _ (List.mem_of_getElem? (i := 21) rfl)))))
theorem mU_54 : Cond.methodLink RX1 3 objectInit ∈ wsU := List.mem_append_left _ (List.mem_append_left _ (List.mem_append_left _ (List.mem_append_left _ (List.mem_append_right _ (List.mem_of_getElem? (i := 22) rfl)))))
theorem mU_55 : Cond.fieldLink RX1 9 "TwoSidedTables$Grid" "below" "J" ∈ wsU := List.mem_append_left _ (List.mem_append_left _ (List.mem_append_left _ (List.mem_append_left _ (List.mem_append_right _ (List.mem_of_getElem? (i := 23) rfl)))))
theorem mU_56 : Cond.arrayClass .long ∈ wsU := List.mem_append_left _ (List.mem_append_left _ (List.mem_append_left _ (List.mem_append_left _ (List.mem_append_right _ (List.mem_of_getElem? (i := 24) rfl)))))
theorem mU_57 : Cond.fieldLink RX1 15 "TwoSidedTables$Grid" "cells" "[J" ∈ wsU := List.mem_append_left _ (List.mem_append_left _ (List.mem_append_left _ (List.mem_append_left _ (List.mem_append_right _ (List.mem_of_getElem? (i := 25) rfl)))))
theorem mU_58 : Cond.fieldLink RX1 19 "TwoSidedTables$Grid" "pivotRows" "[I" ∈ wsU := List.mem_append_left _ (List.mem_append_left _ (List.mem_append_left _ (List.mem_append_left _ (List.mem_append_right _ (List.mem_of_getElem? (i := 26) rfl)))))
theorem mU_59 : Cond.instanceMethod yX5_init ∈ wsU := List.mem_append_left _ (List.mem_append_left _ (List.mem_append_left _ (List.mem_append_left _ (List.mem_append_right _ (List.mem_of_getElem? (i := 27) rfl)))))
theorem mU_60 : Cond.code yX5_init cX5_init 1 none ∈ wsU := List.mem_append_left _ (List.mem_append_left _ (List.mem_append_left _ (List.mem_append_left _ (List.mem_append_right _ (List.mem_of_getElem? (i := 28) rfl)))))
theorem mU_61 : Cond.methodLink RX5 3 objectInit ∈ wsU := List.mem_append_left _ (List.mem_append_left _ (List.mem_append_left _ (List.mem_append_left _ (List.mem_append_right _ (List.mem_of_getElem? (i := 29) rfl)))))
theorem mU_62 : Cond.arrayClass .byte ∈ wsU := List.mem_append_left _ (List.mem_append_left _ (List.mem_append_left _ (List.mem_append_left _ (List.mem_append_right _ (List.mem_of_getElem? (i := 30) rfl)))))
theorem mU_63 : Cond.fieldLink RX5 9 "TwoSidedTables$Tape" "bytes" "[B" ∈ wsU := List.mem_append_left _ (List.mem_append_left _ (List.mem_append_left _ (List.mem_append_left _ (List.mem_append_right _ (List.mem_of_getElem? (i := 31) rfl)))))
theorem mU_64 : Cond.instanceMethod yX0_init ∈ wsU := List.mem_append_left _ (List.mem_append_left _ (List.mem_append_left _ (List.mem_append_right _ (List.mem_append_left _ (List.mem_of_getElem? (i := 0) rfl)))))
theorem mU_65 : Cond.code yX0_init cX0_init 1 none ∈ wsU := List.mem_append_left _ (List.mem_append_left _ (List.mem_append_left _ (List.mem_append_right _ (List.mem_append_left _ (List.mem_of_getElem? (i := 1) rfl)))))
theorem mU_66 : Cond.methodLink RX0 3 objectInit ∈ wsU := List.mem_append_left _ (List.mem_append_left _ (List.mem_append_left _ (List.mem_append_right _ (List.mem_append_left _ (List.mem_of_getElem? (i := 2) rfl)))))
theorem mU_67 : Cond.fieldLink RX0 9 "TwoSidedTables$Acts" "bodies" "[I" ∈ wsU := List.mem_append_left _ (List.mem_append_left _ (List.mem_append_left _ (List.mem_append_right _ (List.mem_append_left _ (List.mem_of_getElem? (i := 3) rfl)))))
theorem mU_68 : Cond.instanceMethod yX2_init ∈ wsU := List.mem_append_left _ (List.mem_append_left _ (List.mem_append_left _ (List.mem_append_right _ (List.mem_append_left _ (List.mem_of_getElem? (i := 4) rfl)))))
theorem mU_69 : Cond.code yX2_init cX2_init 1 none ∈ wsU := List.mem_append_left _ (List.mem_append_left _ (List.mem_append_left _ (List.mem_append_right _ (List.mem_append_left _ (List.mem_of_getElem? (i := 5) rfl)))))
theorem mU_70 : Cond.methodLink RX2 3 objectInit ∈ wsU := List.mem_append_left _ (List.mem_append_left _ (List.mem_append_left _ (List.mem_append_right _ (List.mem_append_left _ (List.mem_of_getElem? (i := 6) rfl)))))
theorem mU_71 : Cond.fieldLink RX2 9 "TwoSidedTables$Sheet" "sort" "I" ∈ wsU := List.mem_append_left _ (List.mem_append_left _ (List.mem_append_left _ (List.mem_append_right _ (List.mem_append_left _ (List.mem_of_getElem? (i := 7) rfl)))))
theorem mU_72 : Cond.fieldLink RX2 15 "TwoSidedTables$Sheet" "items" "[J" ∈ wsU := List.mem_append_left _ (List.mem_append_left _ (List.mem_append_left _ (List.mem_append_right _ (List.mem_append_left _ (List.mem_of_getElem? (i := 8) rfl)))))
theorem mU_73 : Cond.instanceMethod yX3_init ∈ wsU := List.mem_append_left _ (List.mem_append_left _ (List.mem_append_left _ (List.mem_append_right _ (List.mem_append_left _ (List.mem_of_getElem? (i := 9) rfl)))))
theorem mU_74 : Cond.code yX3_init cX3_init 1 none ∈ wsU := List.mem_append_left _ (List.mem_append_left _ (List.mem_append_left _ (List.mem_append_right _ (List.mem_append_left _ (List.mem_of_getElem? (i := 10) rfl)))))
theorem mU_75 : Cond.methodLink RX3 3 objectInit ∈ wsU := List.mem_append_left _ (List.mem_append_left _ (List.mem_append_left _ (List.mem_append_right _ (List.mem_append_left _ (List.mem_of_getElem? (i := 11) rfl)))))
theorem mU_76 : Cond.fieldLink RX3 9 "TwoSidedTables$Shelf" "holds" "I" ∈ wsU := List.mem_append_left _ (List.mem_append_left _ (List.mem_append_left _ (List.mem_append_right _ (List.mem_append_left _ (List.mem_of_getElem? (i := 12) rfl)))))
theorem mU_77 : Cond.methodLink RL 12 yX7_init ∈ wsU := List.mem_append_left _ (List.mem_append_left _ (List.mem_append_left _ (List.mem_append_right _ (List.mem_append_left _ (List.mem_of_getElem? (i := 13) rfl)))))
theorem mU_78 : Cond.instanceMethod yX7_init ∈ wsU := List.mem_append_left _ (List.mem_append_left _ (List.mem_append_left _ (List.mem_append_right _ (List.mem_append_left _ (List.mem_of_getElem? (i := 14) rfl)))))
theorem mU_79 : Cond.code yX7_init cX7_init 1 none ∈ wsU := List.mem_append_left _ (List.mem_append_left _ (List.mem_append_left _ (List.mem_append_right _ (List.mem_append_left _ (List.mem_of_getElem? (i := 15) rfl)))))
theorem mU_80 : Cond.methodLink RX7 1 objectInit ∈ wsU := List.mem_append_left _ (List.mem_append_left _ (List.mem_append_left _ (List.mem_append_right _ (List.mem_append_left _ (List.mem_of_getElem? (i := 16) rfl)))))
theorem mU_81 : Cond.fieldLink RX7 7 "TwoSidedTablesModel" "entry" "[I" ∈ wsU := List.mem_append_left _ (List.mem_append_left _ (List.mem_append_left _ (List.mem_append_right _ (List.mem_append_left _ (List.mem_of_getElem? (i := 17) rfl)))))
theorem mU_82 : Cond.fieldLink RX7 13 "TwoSidedTablesModel" "keptEntry" "[I" ∈ wsU := List.mem_append_left _ (List.mem_append_left _ (List.mem_append_left _ (List.mem_append_right _ (List.mem_append_left _ (List.mem_of_getElem? (i := 18) rfl)))))
theorem mU_83 : Cond.fieldLink RX7 16 "TwoSidedTablesModel" "aside0" "[I" ∈ wsU := List.mem_append_left _ (List.mem_append_left _ (List.mem_append_left _ (List.mem_append_right _ (List.mem_append_left _ (List.mem_of_getElem? (i := 19) rfl)))))
theorem mU_84 : Cond.fieldLink RX7 19 "TwoSidedTablesModel" "m" "I" ∈ wsU := List.mem_append_left _ (List.mem_append_left _ (List.mem_append_left _ (List.mem_append_right _ (List.mem_append_left _ (List.mem_of_getElem? (i := 20) rfl)))))
theorem mU_85 : Cond.fieldLink RX7 23 "TwoSidedTablesModel" "n" "I" ∈ wsU := List.mem_append_left _ (List.mem_append_left _ (List.mem_append_left _ (List.mem_append_right _ (List.mem_append_left _ (List.mem_of_getElem? (i := 21) rfl)))))
theorem mU_86 : Cond.fieldLink RX7 26 "TwoSidedTablesModel" "z" "I" ∈ wsU := List.mem_append_left _ (List.mem_append_left _ (List.mem_append_left _ (List.mem_append_right _ (List.mem_append_left _ (List.mem_of_getElem? (i := 22) rfl)))))
theorem mU_87 : Cond.fieldLink RX7 29 "TwoSidedTablesModel" "kinds" "[I" ∈ wsU := List.mem_append_left _ (List.mem_append_left _ (List.mem_append_left _ (List.mem_append_right _ (List.mem_append_left _ (List.mem_of_getElem? (i := 23) rfl)))))
theorem mU_88 : Cond.fieldLink RX7 32 "TwoSidedTablesModel" "shifts" "[I" ∈ wsU := List.mem_append_left _ (List.mem_append_left _ (List.mem_append_left _ (List.mem_append_right _ (List.mem_append_left _ (List.mem_of_getElem? (i := 24) rfl)))))
theorem mU_89 : Cond.fieldLink RX7 35 "TwoSidedTablesModel" "keptKinds" "[I" ∈ wsU := List.mem_append_left _ (List.mem_append_left _ (List.mem_append_left _ (List.mem_append_right _ (List.mem_append_left _ (List.mem_of_getElem? (i := 25) rfl)))))
theorem mU_90 : Cond.fieldLink RX7 38 "TwoSidedTablesModel" "keptShifts" "[I" ∈ wsU := List.mem_append_left _ (List.mem_append_left _ (List.mem_append_left _ (List.mem_append_right _ (List.mem_append_left _ (List.mem_of_getElem? (i := 26) rfl)))))
theorem mU_91 : Cond.fieldLink RX7 41 "TwoSidedTablesModel" "tape" "[B" ∈ wsU := List.mem_append_left _ (List.mem_append_left _ (List.mem_append_left _ (List.mem_append_right _ (List.mem_append_left _ (List.mem_of_getElem? (i := 27) rfl)))))
theorem mU_92 : Cond.fieldLink RX7 45 "TwoSidedTablesModel" "placed" "[I" ∈ wsU := List.mem_append_left _ (List.mem_append_left _ (List.mem_append_left _ (List.mem_append_right _ (List.mem_append_left _ (List.mem_of_getElem? (i := 28) rfl)))))
theorem mU_93 : Cond.fieldLink RX7 48 "TwoSidedTablesModel" "rows" "[J" ∈ wsU := List.mem_append_left _ (List.mem_append_left _ (List.mem_append_left _ (List.mem_append_right _ (List.mem_append_left _ (List.mem_of_getElem? (i := 29) rfl)))))
theorem mU_94 : Cond.fieldLink RX7 52 "TwoSidedTablesModel" "leads" "[I" ∈ wsU := List.mem_append_left _ (List.mem_append_left _ (List.mem_append_left _ (List.mem_append_right _ (List.mem_append_left _ (List.mem_of_getElem? (i := 30) rfl)))))
theorem mU_95 : Cond.fieldLink RX7 55 "TwoSidedTablesModel" "ledBy" "[I" ∈ wsU := List.mem_append_left _ (List.mem_append_left _ (List.mem_append_left _ (List.mem_append_right _ (List.mem_append_left _ (List.mem_of_getElem? (i := 31) rfl)))))
theorem mU_96 : Cond.fieldLink RX7 58 "TwoSidedTablesModel" "rule" "[J" ∈ wsU := List.mem_append_left _ (List.mem_append_left _ (List.mem_append_left _ (List.mem_append_right _ (List.mem_append_right _ (List.mem_append_left _ (List.mem_of_getElem? (i := 0) rfl))))))
theorem mU_97 : Cond.fieldLink RX7 61 "TwoSidedTablesModel" "left" "[J" ∈ wsU := List.mem_append_left _ (List.mem_append_left _ (List.mem_append_left _ (List.mem_append_right _ (List.mem_append_right _ (List.mem_append_left _ (List.mem_of_getElem? (i := 1) rfl))))))
theorem mU_98 : Cond.fieldLink RX7 64 "TwoSidedTablesModel" "ruledBy" "[I" ∈ wsU := List.mem_append_left _ (List.mem_append_left _ (List.mem_append_left _ (List.mem_append_right _ (List.mem_append_right _ (List.mem_append_left _ (List.mem_of_getElem? (i := 2) rfl))))))
theorem mU_99 : Cond.fieldLink RX7 67 "TwoSidedTablesModel" "sorts" "[I" ∈ wsU := List.mem_append_left _ (List.mem_append_left _ (List.mem_append_left _ (List.mem_append_right _ (List.mem_append_right _ (List.mem_append_left _ (List.mem_of_getElem? (i := 3) rfl))))))
theorem mU_100 : Cond.fieldLink RX7 70 "TwoSidedTablesModel" "sizes" "[I" ∈ wsU := List.mem_append_left _ (List.mem_append_left _ (List.mem_append_left _ (List.mem_append_right _ (List.mem_append_right _ (List.mem_append_left _ (List.mem_of_getElem? (i := 4) rfl))))))
theorem mU_101 : Cond.fieldLink RX7 73 "TwoSidedTablesModel" "cells" "[J" ∈ wsU := List.mem_append_left _ (List.mem_append_left _ (List.mem_append_left _ (List.mem_append_right _ (List.mem_append_right _ (List.mem_append_left _ (List.mem_of_getElem? (i := 5) rfl))))))
theorem mU_102 : Cond.fieldLink RX7 76 "TwoSidedTablesModel" "aside" "[J" ∈ wsU := List.mem_append_left _ (List.mem_append_left _ (List.mem_append_left _ (List.mem_append_right _ (List.mem_append_right _ (List.mem_append_left _ (List.mem_of_getElem? (i := 6) rfl))))))
theorem mU_103 : Cond.fieldLink RX7 79 "TwoSidedTablesModel" "held" "[I" ∈ wsU := List.mem_append_left _ (List.mem_append_left _ (List.mem_append_left _ (List.mem_append_right _ (List.mem_append_right _ (List.mem_append_left _ (List.mem_of_getElem? (i := 7) rfl))))))
theorem mU_104 : Cond.fieldLink RX7 82 "TwoSidedTablesModel" "thing" "[I" ∈ wsU := List.mem_append_left _ (List.mem_append_left _ (List.mem_append_left _ (List.mem_append_right _ (List.mem_append_right _ (List.mem_append_left _ (List.mem_of_getElem? (i := 8) rfl))))))
theorem mU_105 : Cond.fieldLink RX7 85 "TwoSidedTablesModel" "length" "[I" ∈ wsU := List.mem_append_left _ (List.mem_append_left _ (List.mem_append_left _ (List.mem_append_right _ (List.mem_append_right _ (List.mem_append_left _ (List.mem_of_getElem? (i := 9) rfl))))))
theorem mU_106 : Cond.fieldLink RX7 88 "TwoSidedTablesModel" "trace" "[I" ∈ wsU := List.mem_append_left _ (List.mem_append_left _ (List.mem_append_left _ (List.mem_append_right _ (List.mem_append_right _ (List.mem_append_left _ (List.mem_of_getElem? (i := 10) rfl))))))
theorem mU_107 : Cond.methodLink RL 13 yX6_size ∈ wsU := List.mem_append_left _ (List.mem_append_left _ (List.mem_append_left _ (List.mem_append_right _ (List.mem_append_right _ (List.mem_append_left _ (List.mem_of_getElem? (i := 11) rfl))))))
theorem mU_108 : Cond.instanceMethod yX6_size ∈ wsU := List.mem_append_left _ (List.mem_append_left _ (List.mem_append_left _ (List.mem_append_right _ (List.mem_append_right _ (List.mem_append_left _ (List.mem_of_getElem? (i := 12) rfl))))))
theorem mU_109 : Cond.selects RX6 yX6_size yX6_size ∈ wsU := List.mem_append_left _ (List.mem_append_left _ (List.mem_append_left _ (List.mem_append_right _ (List.mem_append_right _ (List.mem_append_left _ (List.mem_of_getElem? (i := 13) rfl))))))
theorem mU_110 : Cond.code yX6_size cX6_size 4 (some .int) ∈ wsU := List.mem_append_left _ (List.mem_append_left _ (List.mem_append_left _ (List.mem_append_right _ (List.mem_append_right _ (List.mem_append_left _ (List.mem_of_getElem? (i := 14) rfl))))))
theorem mU_111 : Cond.fieldLink RX6 60 "TwoSidedTables$State" "m" "I" ∈ wsU := List.mem_append_left _ (List.mem_append_left _ (List.mem_append_left _ (List.mem_append_right _ (List.mem_append_right _ (List.mem_append_left _ (List.mem_of_getElem? (i := 15) rfl))))))
theorem mU_112 : Cond.fieldLink RX6 64 "TwoSidedTables$State" "n" "I" ∈ wsU := List.mem_append_left _ (List.mem_append_left _ (List.mem_append_left _ (List.mem_append_right _ (List.mem_append_right _ (List.mem_append_left _ (List.mem_of_getElem? (i := 16) rfl))))))
theorem mU_113 : Cond.methodLink RX6 67 yX4_resize ∈ wsU := List.mem_append_left _ (List.mem_append_left _ (List.mem_append_left _ (List.mem_append_right _ (List.mem_append_right _ (List.mem_append_left _ (List.mem_of_getElem? (i := 17) rfl))))))
theorem mU_114 : Cond.instanceMethod yX4_resize ∈ wsU := List.mem_append_left _ (List.mem_append_left _ (List.mem_append_left _ (List.mem_append_right _ (List.mem_append_right _ (List.mem_append_left _ (List.mem_of_getElem? (i := 18) rfl))))))
theorem mU_115 : Cond.selects RX4 yX4_resize yX4_resize ∈ wsU := List.mem_append_left _ (List.mem_append_left _ (List.mem_append_left _ (List.mem_append_right _ (List.mem_append_right _ (List.mem_append_left _ (List.mem_of_getElem? (i := 19) rfl))))))
theorem mU_116 : Cond.code yX4_resize cX4_resize 3 none ∈ wsU := List.mem_append_left _ (List.mem_append_left _ (List.mem_append_left _ (List.mem_append_right _ (List.mem_append_right _ (List.mem_append_left _ (List.mem_of_getElem? (i := 20) rfl))))))
theorem mU_117 : Cond.methodLink RX4 46 yJ7_fill_53178 ∈ wsU := List.mem_append_left _ (List.mem_append_left _ (List.mem_append_left _ (List.mem_append_right _ (List.mem_append_right _ (List.mem_append_left _ (List.mem_of_getElem? (i := 21) rfl))))))
theorem mU_118 : Cond.static yJ7_fill_53178 ∈ wsU := List.mem_append_left _ (List.mem_append_left _ (List.mem_append_left _ (List.mem_append_right _ (List.mem_append_right _ (List.mem_append_left _ (List.mem_of_getElem? (i := 22) rfl))))))
theorem mU_119 : Cond.initialized RJ7 ∈ wsU := List.mem_append_left _ (List.mem_append_left _ (List.mem_append_left _ (List.mem_append_right _ (List.mem_append_right _ (List.mem_append_left _ (List.mem_of_getElem? (i := 23) rfl))))))
theorem mU_120 : Cond.code yJ7_fill_53178 cJ7_fill_53178 4 none ∈ wsU := List.mem_append_left _ (List.mem_append_left _ (List.mem_append_left _ (List.mem_append_right _ (List.mem_append_right _ (List.mem_append_left _ (List.mem_of_getElem? (i := 24) rfl))))))
theorem mU_121 : Cond.methodLink RL 17 yX7_size ∈ wsU := List.mem_append_left _ (List.mem_append_left _ (List.mem_append_left _ (List.mem_append_right _ (List.mem_append_right _ (List.mem_append_left _ (List.mem_of_getElem? (i := 25) rfl))))))
theorem mU_122 : Cond.instanceMethod yX7_size ∈ wsU := List.mem_append_left _ (List.mem_append_left _ (List.mem_append_left _ (List.mem_append_right _ (List.mem_append_right _ (List.mem_append_left _ (List.mem_of_getElem? (i := 26) rfl))))))
theorem mU_123 : Cond.selects RX7 yX7_size yX7_size ∈ wsU := List.mem_append_left _ (List.mem_append_left _ (List.mem_append_left _ (List.mem_append_right _ (List.mem_append_right _ (List.mem_append_left _ (List.mem_of_getElem? (i := 27) rfl))))))
theorem mU_124 : Cond.code yX7_size cX7_size 5 (some .int) ∈ wsU := List.mem_append_left _ (List.mem_append_left _ (List.mem_append_left _ (List.mem_append_right _ (List.mem_append_right _ (List.mem_append_left _ (List.mem_of_getElem? (i := 28) rfl))))))
theorem mU_125 : Cond.constantLong RX7 118 (3) ∈ wsU := List.mem_append_left _ (List.mem_append_left _ (List.mem_append_left _ (List.mem_append_right _ (List.mem_append_right _ (List.mem_append_left _ (List.mem_of_getElem? (i := 29) rfl))))))
theorem mU_126 : Cond.methodLink RX7 99 yX7_in ∈ wsU := List.mem_append_left _ (List.mem_append_left _ (List.mem_append_left _ (List.mem_append_right _ (List.mem_append_right _ (List.mem_append_left _ (List.mem_of_getElem? (i := 30) rfl))))))
theorem mU_127 : Cond.static yX7_in ∈ wsU := List.mem_append_left _ (List.mem_append_left _ (List.mem_append_left _ (List.mem_append_right _ (List.mem_append_right _ (List.mem_append_left _ (List.mem_of_getElem? (i := 31) rfl))))))
theorem mU_128 : Cond.code yX7_in cX7_in 6 (some .boolean) ∈ wsU := List.mem_append_left _ (List.mem_append_left _ (List.mem_append_left _ (List.mem_append_right _ (List.mem_append_right _ (List.mem_append_right _ (List.mem_of_getElem? (i := 0) rfl))))))
theorem mU_129 : Cond.methodLink RL 18 yX6_set ∈ wsU := List.mem_append_left _ (List.mem_append_left _ (List.mem_append_left _ (List.mem_append_right _ (List.mem_append_right _ (List.mem_append_right _ (List.mem_of_getElem? (i := 1) rfl))))))
theorem mU_130 : Cond.instanceMethod yX6_set ∈ wsU := List.mem_append_left _ (List.mem_append_left _ (List.mem_append_left _ (List.mem_append_right _ (List.mem_append_right _ (List.mem_append_right _ (List.mem_of_getElem? (i := 2) rfl))))))
theorem mU_131 : Cond.selects RX6 yX6_set yX6_set ∈ wsU := List.mem_append_left _ (List.mem_append_left _ (List.mem_append_left _ (List.mem_append_right _ (List.mem_append_right _ (List.mem_append_right _ (List.mem_of_getElem? (i := 3) rfl))))))
theorem mU_132 : Cond.code yX6_set cX6_set 6 (some .int) ∈ wsU := List.mem_append_left _ (List.mem_append_left _ (List.mem_append_left _ (List.mem_append_right _ (List.mem_append_right _ (List.mem_append_right _ (List.mem_of_getElem? (i := 4) rfl))))))
theorem mU_133 : Cond.methodLink RX6 71 yX4_hasEntry ∈ wsU := List.mem_append_left _ (List.mem_append_left _ (List.mem_append_left _ (List.mem_append_right _ (List.mem_append_right _ (List.mem_append_right _ (List.mem_of_getElem? (i := 5) rfl))))))
theorem mU_134 : Cond.instanceMethod yX4_hasEntry ∈ wsU := List.mem_append_left _ (List.mem_append_left _ (List.mem_append_left _ (List.mem_append_right _ (List.mem_append_right _ (List.mem_append_right _ (List.mem_of_getElem? (i := 6) rfl))))))
theorem mU_135 : Cond.selects RX4 yX4_hasEntry yX4_hasEntry ∈ wsU := List.mem_append_left _ (List.mem_append_left _ (List.mem_append_left _ (List.mem_append_right _ (List.mem_append_right _ (List.mem_append_right _ (List.mem_of_getElem? (i := 7) rfl))))))
theorem mU_136 : Cond.code yX4_hasEntry cX4_hasEntry 4 (some .boolean) ∈ wsU := List.mem_append_left _ (List.mem_append_left _ (List.mem_append_left _ (List.mem_append_right _ (List.mem_append_right _ (List.mem_append_right _ (List.mem_of_getElem? (i := 8) rfl))))))
theorem mU_137 : Cond.methodLink RX4 52 yX4_rows ∈ wsU := List.mem_append_left _ (List.mem_append_left _ (List.mem_append_left _ (List.mem_append_right _ (List.mem_append_right _ (List.mem_append_right _ (List.mem_of_getElem? (i := 9) rfl))))))
theorem mU_138 : Cond.instanceMethod yX4_rows ∈ wsU := List.mem_append_left _ (List.mem_append_left _ (List.mem_append_left _ (List.mem_append_right _ (List.mem_append_right _ (List.mem_append_right _ (List.mem_of_getElem? (i := 10) rfl))))))
theorem mU_139 : Cond.selects RX4 yX4_rows yX4_rows ∈ wsU := List.mem_append_left _ (List.mem_append_left _ (List.mem_append_left _ (List.mem_append_right _ (List.mem_append_right _ (List.mem_append_right _ (List.mem_of_getElem? (i := 11) rfl))))))
theorem mU_140 : Cond.code yX4_rows cX4_rows 2 (some .int) ∈ wsU := List.mem_append_left _ (List.mem_append_left _ (List.mem_append_left _ (List.mem_append_right _ (List.mem_append_right _ (List.mem_append_right _ (List.mem_of_getElem? (i := 12) rfl))))))
theorem mU_141 : Cond.methodLink RX4 56 yX4_columns ∈ wsU := List.mem_append_left _ (List.mem_append_left _ (List.mem_append_left _ (List.mem_append_right _ (List.mem_append_right _ (List.mem_append_right _ (List.mem_of_getElem? (i := 13) rfl))))))
theorem mU_142 : Cond.instanceMethod yX4_columns ∈ wsU := List.mem_append_left _ (List.mem_append_left _ (List.mem_append_left _ (List.mem_append_right _ (List.mem_append_right _ (List.mem_append_right _ (List.mem_of_getElem? (i := 14) rfl))))))
theorem mU_143 : Cond.selects RX4 yX4_columns yX4_columns ∈ wsU := List.mem_append_left _ (List.mem_append_left _ (List.mem_append_left _ (List.mem_append_right _ (List.mem_append_right _ (List.mem_append_right _ (List.mem_of_getElem? (i := 15) rfl))))))
theorem mU_144 : Cond.code yX4_columns cX4_columns 2 (some .int) ∈ wsU := List.mem_append_left _ (List.mem_append_left _ (List.mem_append_left _ (List.mem_append_right _ (List.mem_append_right _ (List.mem_append_right _ (List.mem_of_getElem? (i := 16) rfl))))))
theorem mU_145 : Cond.methodLink RX6 75 yX6_reach ∈ wsU := List.mem_append_left _ (List.mem_append_left _ (List.mem_append_left _ (List.mem_append_right _ (List.mem_append_right _ (List.mem_append_right _ (List.mem_of_getElem? (i := 17) rfl))))))
theorem mU_146 : Cond.static yX6_reach ∈ wsU := List.mem_append_left _ (List.mem_append_left _ (List.mem_append_left _ (List.mem_append_right _ (List.mem_append_right _ (List.mem_append_right _ (List.mem_of_getElem? (i := 18) rfl))))))
theorem mU_147 : Cond.code yX6_reach cX6_reach 1 (some .int) ∈ wsU := List.mem_append_left _ (List.mem_append_left _ (List.mem_append_left _ (List.mem_append_right _ (List.mem_append_right _ (List.mem_append_right _ (List.mem_of_getElem? (i := 19) rfl))))))
theorem mU_148 : Cond.methodLink RX6 79 yX4_entry ∈ wsU := List.mem_append_left _ (List.mem_append_left _ (List.mem_append_left _ (List.mem_append_right _ (List.mem_append_right _ (List.mem_append_right _ (List.mem_of_getElem? (i := 20) rfl))))))
theorem mU_149 : Cond.instanceMethod yX4_entry ∈ wsU := List.mem_append_left _ (List.mem_append_left _ (List.mem_append_left _ (List.mem_append_right _ (List.mem_append_right _ (List.mem_append_right _ (List.mem_of_getElem? (i := 21) rfl))))))
theorem mU_150 : Cond.selects RX4 yX4_entry yX4_entry ∈ wsU := List.mem_append_left _ (List.mem_append_left _ (List.mem_append_left _ (List.mem_append_right _ (List.mem_append_right _ (List.mem_append_right _ (List.mem_of_getElem? (i := 22) rfl))))))
theorem mU_151 : Cond.code yX4_entry cX4_entry 5 (some .int) ∈ wsU := List.mem_append_left _ (List.mem_append_left _ (List.mem_append_left _ (List.mem_append_right _ (List.mem_append_right _ (List.mem_append_right _ (List.mem_of_getElem? (i := 23) rfl))))))
theorem mU_152 : Cond.methodLink RX4 59 yX4_isRoom ∈ wsU := List.mem_append_left _ (List.mem_append_left _ (List.mem_append_left _ (List.mem_append_right _ (List.mem_append_right _ (List.mem_append_right _ (List.mem_of_getElem? (i := 24) rfl))))))
theorem mU_153 : Cond.static yX4_isRoom ∈ wsU := List.mem_append_left _ (List.mem_append_left _ (List.mem_append_left _ (List.mem_append_right _ (List.mem_append_right _ (List.mem_append_right _ (List.mem_of_getElem? (i := 25) rfl))))))
theorem mU_154 : Cond.code yX4_isRoom cX4_isRoom 2 (some .boolean) ∈ wsU := List.mem_append_left _ (List.mem_append_left _ (List.mem_append_left _ (List.mem_append_right _ (List.mem_append_right _ (List.mem_append_right _ (List.mem_of_getElem? (i := 26) rfl))))))
theorem mU_155 : Cond.methodLink RX6 83 yX4_store ∈ wsU := List.mem_append_left _ (List.mem_append_left _ (List.mem_append_left _ (List.mem_append_right _ (List.mem_append_right _ (List.mem_append_right _ (List.mem_of_getElem? (i := 27) rfl))))))
theorem mU_156 : Cond.instanceMethod yX4_store ∈ wsU := List.mem_append_left _ (List.mem_append_left _ (List.mem_append_left _ (List.mem_append_right _ (List.mem_append_right _ (List.mem_append_right _ (List.mem_of_getElem? (i := 28) rfl))))))
theorem mU_157 : Cond.selects RX4 yX4_store yX4_store ∈ wsU := List.mem_append_left _ (List.mem_append_left _ (List.mem_append_left _ (List.mem_append_right _ (List.mem_append_right _ (List.mem_append_right _ (List.mem_of_getElem? (i := 29) rfl))))))
theorem mU_158 : Cond.code yX4_store cX4_store 6 none ∈ wsU := List.mem_append_left _ (List.mem_append_left _ (List.mem_append_left _ (List.mem_append_right _ (List.mem_append_right _ (List.mem_append_right _ (List.mem_of_getElem? (i := 30) rfl))))))
theorem mU_159 : Cond.methodLink RL 22 yX7_set ∈ wsU := List.mem_append_left _ (List.mem_append_left _ (List.mem_append_left _ (List.mem_append_right _ (List.mem_append_right _ (List.mem_append_right _ (List.mem_of_getElem? (i := 31) rfl))))))
theorem mU_160 : Cond.instanceMethod yX7_set ∈ wsU := List.mem_append_left _ (List.mem_append_left _ (List.mem_append_right _ (List.mem_append_left _ (List.mem_append_left _ (List.mem_of_getElem? (i := 0) rfl)))))
theorem mU_161 : Cond.selects RX7 yX7_set yX7_set ∈ wsU := List.mem_append_left _ (List.mem_append_left _ (List.mem_append_right _ (List.mem_append_left _ (List.mem_append_left _ (List.mem_of_getElem? (i := 1) rfl)))))
theorem mU_162 : Cond.code yX7_set cX7_set 6 (some .int) ∈ wsU := List.mem_append_left _ (List.mem_append_left _ (List.mem_append_right _ (List.mem_append_left _ (List.mem_append_left _ (List.mem_of_getElem? (i := 2) rfl)))))
theorem mU_163 : Cond.methodLink RX7 120 yX7_isPlace ∈ wsU := List.mem_append_left _ (List.mem_append_left _ (List.mem_append_right _ (List.mem_append_left _ (List.mem_append_left _ (List.mem_of_getElem? (i := 3) rfl)))))
theorem mU_164 : Cond.instanceMethod yX7_isPlace ∈ wsU := List.mem_append_left _ (List.mem_append_left _ (List.mem_append_right _ (List.mem_append_left _ (List.mem_append_left _ (List.mem_of_getElem? (i := 4) rfl)))))
theorem mU_165 : Cond.selects RX7 yX7_isPlace yX7_isPlace ∈ wsU := List.mem_append_left _ (List.mem_append_left _ (List.mem_append_right _ (List.mem_append_left _ (List.mem_append_left _ (List.mem_of_getElem? (i := 5) rfl)))))
theorem mU_166 : Cond.code yX7_isPlace cX7_isPlace 4 (some .boolean) ∈ wsU := List.mem_append_left _ (List.mem_append_left _ (List.mem_append_right _ (List.mem_append_left _ (List.mem_append_left _ (List.mem_of_getElem? (i := 6) rfl)))))
theorem mU_167 : Cond.constantLong RX7 97 (2) ∈ wsU := List.mem_append_left _ (List.mem_append_left _ (List.mem_append_right _ (List.mem_append_left _ (List.mem_append_left _ (List.mem_of_getElem? (i := 7) rfl)))))
theorem mU_168 : Cond.methodLink RX7 103 yX7_rowsOf ∈ wsU := List.mem_append_left _ (List.mem_append_left _ (List.mem_append_right _ (List.mem_append_left _ (List.mem_append_left _ (List.mem_of_getElem? (i := 8) rfl)))))
theorem mU_169 : Cond.instanceMethod yX7_rowsOf ∈ wsU := List.mem_append_left _ (List.mem_append_left _ (List.mem_append_right _ (List.mem_append_left _ (List.mem_append_left _ (List.mem_of_getElem? (i := 9) rfl)))))
theorem mU_170 : Cond.selects RX7 yX7_rowsOf yX7_rowsOf ∈ wsU := List.mem_append_left _ (List.mem_append_left _ (List.mem_append_right _ (List.mem_append_left _ (List.mem_append_left _ (List.mem_of_getElem? (i := 10) rfl)))))
theorem mU_171 : Cond.code yX7_rowsOf cX7_rowsOf 2 (some .int) ∈ wsU := List.mem_append_left _ (List.mem_append_left _ (List.mem_append_right _ (List.mem_append_left _ (List.mem_append_left _ (List.mem_of_getElem? (i := 11) rfl)))))
theorem mU_172 : Cond.methodLink RX7 107 yX7_columnsOf ∈ wsU := List.mem_append_left _ (List.mem_append_left _ (List.mem_append_right _ (List.mem_append_left _ (List.mem_append_left _ (List.mem_of_getElem? (i := 12) rfl)))))
theorem mU_173 : Cond.instanceMethod yX7_columnsOf ∈ wsU := List.mem_append_left _ (List.mem_append_left _ (List.mem_append_right _ (List.mem_append_left _ (List.mem_append_left _ (List.mem_of_getElem? (i := 13) rfl)))))
theorem mU_174 : Cond.selects RX7 yX7_columnsOf yX7_columnsOf ∈ wsU := List.mem_append_left _ (List.mem_append_left _ (List.mem_append_right _ (List.mem_append_left _ (List.mem_append_left _ (List.mem_of_getElem? (i := 14) rfl)))))
theorem mU_175 : Cond.code yX7_columnsOf cX7_columnsOf 2 (some .int) ∈ wsU := List.mem_append_left _ (List.mem_append_left _ (List.mem_append_right _ (List.mem_append_left _ (List.mem_append_left _ (List.mem_of_getElem? (i := 15) rfl)))))
theorem mU_176 : Cond.methodLink RX7 124 yX7_isEntry ∈ wsU := List.mem_append_left _ (List.mem_append_left _ (List.mem_append_right _ (List.mem_append_left _ (List.mem_append_left _ (List.mem_of_getElem? (i := 16) rfl)))))
theorem mU_177 : Cond.static yX7_isEntry ∈ wsU := List.mem_append_left _ (List.mem_append_left _ (List.mem_append_right _ (List.mem_append_left _ (List.mem_append_left _ (List.mem_of_getElem? (i := 17) rfl)))))
theorem mU_178 : Cond.code yX7_isEntry cX7_isEntry 2 (some .boolean) ∈ wsU := List.mem_append_left _ (List.mem_append_left _ (List.mem_append_right _ (List.mem_append_left _ (List.mem_append_left _ (List.mem_of_getElem? (i := 18) rfl)))))
theorem mU_179 : Cond.constantLong RX7 110 (-50) ∈ wsU := List.mem_append_left _ (List.mem_append_left _ (List.mem_append_right _ (List.mem_append_left _ (List.mem_append_left _ (List.mem_of_getElem? (i := 19) rfl)))))
theorem mU_180 : Cond.constantLong RX7 112 (50) ∈ wsU := List.mem_append_left _ (List.mem_append_left _ (List.mem_append_right _ (List.mem_append_left _ (List.mem_append_left _ (List.mem_of_getElem? (i := 20) rfl)))))
theorem mU_181 : Cond.constantLong RX7 114 (-5) ∈ wsU := List.mem_append_left _ (List.mem_append_left _ (List.mem_append_right _ (List.mem_append_left _ (List.mem_append_left _ (List.mem_of_getElem? (i := 21) rfl)))))
theorem mU_182 : Cond.constantLong RX7 116 (5) ∈ wsU := List.mem_append_left _ (List.mem_append_left _ (List.mem_append_right _ (List.mem_append_left _ (List.mem_append_left _ (List.mem_of_getElem? (i := 22) rfl)))))
theorem mU_183 : Cond.methodLink RX7 128 yX7_its ∈ wsU := List.mem_append_left _ (List.mem_append_left _ (List.mem_append_right _ (List.mem_append_left _ (List.mem_append_left _ (List.mem_of_getElem? (i := 23) rfl)))))
theorem mU_184 : Cond.instanceMethod yX7_its ∈ wsU := List.mem_append_left _ (List.mem_append_left _ (List.mem_append_right _ (List.mem_append_left _ (List.mem_append_left _ (List.mem_of_getElem? (i := 24) rfl)))))
theorem mU_185 : Cond.selects RX7 yX7_its yX7_its ∈ wsU := List.mem_append_left _ (List.mem_append_left _ (List.mem_append_right _ (List.mem_append_left _ (List.mem_append_left _ (List.mem_of_getElem? (i := 25) rfl)))))
theorem mU_186 : Cond.code yX7_its cX7_its 4 (some .int) ∈ wsU := List.mem_append_left _ (List.mem_append_left _ (List.mem_append_right _ (List.mem_append_left _ (List.mem_append_left _ (List.mem_of_getElem? (i := 26) rfl)))))
theorem mU_187 : Cond.methodLink RL 23 yX6_at ∈ wsU := List.mem_append_left _ (List.mem_append_left _ (List.mem_append_right _ (List.mem_append_left _ (List.mem_append_left _ (List.mem_of_getElem? (i := 27) rfl)))))
theorem mU_188 : Cond.instanceMethod yX6_at ∈ wsU := List.mem_append_left _ (List.mem_append_left _ (List.mem_append_right _ (List.mem_append_left _ (List.mem_append_left _ (List.mem_of_getElem? (i := 28) rfl)))))
theorem mU_189 : Cond.selects RX6 yX6_at yX6_at ∈ wsU := List.mem_append_left _ (List.mem_append_left _ (List.mem_append_right _ (List.mem_append_left _ (List.mem_append_left _ (List.mem_of_getElem? (i := 29) rfl)))))
theorem mU_190 : Cond.code yX6_at cX6_at 4 (some .int) ∈ wsU := List.mem_append_left _ (List.mem_append_left _ (List.mem_append_right _ (List.mem_append_left _ (List.mem_append_left _ (List.mem_of_getElem? (i := 30) rfl)))))
theorem mU_191 : Cond.methodLink RL 27 yX7_at ∈ wsU := List.mem_append_left _ (List.mem_append_left _ (List.mem_append_right _ (List.mem_append_left _ (List.mem_append_left _ (List.mem_of_getElem? (i := 31) rfl)))))
theorem mU_192 : Cond.instanceMethod yX7_at ∈ wsU := List.mem_append_left _ (List.mem_append_left _ (List.mem_append_right _ (List.mem_append_left _ (List.mem_append_right _ (List.mem_append_left _ (List.mem_of_getElem? (i := 0) rfl))))))
theorem mU_193 : Cond.selects RX7 yX7_at yX7_at ∈ wsU := List.mem_append_left _ (List.mem_append_left _ (List.mem_append_right _ (List.mem_append_left _ (List.mem_append_right _ (List.mem_append_left _ (List.mem_of_getElem? (i := 1) rfl))))))
theorem mU_194 : Cond.code yX7_at cX7_at 4 (some .int) ∈ wsU := List.mem_append_left _ (List.mem_append_left _ (List.mem_append_right _ (List.mem_append_left _ (List.mem_append_right _ (List.mem_append_left _ (List.mem_of_getElem? (i := 2) rfl))))))
theorem mU_195 : Cond.methodLink RL 28 yX6_det ∈ wsU := List.mem_append_left _ (List.mem_append_left _ (List.mem_append_right _ (List.mem_append_left _ (List.mem_append_right _ (List.mem_append_left _ (List.mem_of_getElem? (i := 3) rfl))))))
theorem mU_196 : Cond.instanceMethod yX6_det ∈ wsU := List.mem_append_left _ (List.mem_append_left _ (List.mem_append_right _ (List.mem_append_left _ (List.mem_append_right _ (List.mem_append_left _ (List.mem_of_getElem? (i := 4) rfl))))))
theorem mU_197 : Cond.selects RX6 yX6_det yX6_det ∈ wsU := List.mem_append_left _ (List.mem_append_left _ (List.mem_append_right _ (List.mem_append_left _ (List.mem_append_right _ (List.mem_append_left _ (List.mem_of_getElem? (i := 5) rfl))))))
theorem mU_198 : Cond.code yX6_det cX6_det 2 (some .long) ∈ wsU := List.mem_append_left _ (List.mem_append_left _ (List.mem_append_right _ (List.mem_append_left _ (List.mem_append_right _ (List.mem_append_left _ (List.mem_of_getElem? (i := 6) rfl))))))
theorem mU_199 : Cond.methodLink RX6 87 yX6_far ∈ wsU := List.mem_append_left _ (List.mem_append_left _ (List.mem_append_right _ (List.mem_append_left _ (List.mem_append_right _ (List.mem_append_left _ (List.mem_of_getElem? (i := 7) rfl))))))
theorem mU_200 : Cond.static yX6_far ∈ wsU := List.mem_append_left _ (List.mem_append_left _ (List.mem_append_right _ (List.mem_append_left _ (List.mem_append_right _ (List.mem_append_left _ (List.mem_of_getElem? (i := 8) rfl))))))
theorem mU_201 : Cond.code yX6_far cX6_far 1 (some .long) ∈ wsU := List.mem_append_left _ (List.mem_append_left _ (List.mem_append_right _ (List.mem_append_left _ (List.mem_append_right _ (List.mem_append_left _ (List.mem_of_getElem? (i := 9) rfl))))))
theorem mU_202 : Cond.constantLong RX6 321 (4000000000000000000) ∈ wsU := List.mem_append_left _ (List.mem_append_left _ (List.mem_append_right _ (List.mem_append_left _ (List.mem_append_right _ (List.mem_append_left _ (List.mem_of_getElem? (i := 10) rfl))))))
theorem mU_203 : Cond.methodLink RX6 91 yX4_rows ∈ wsU := List.mem_append_left _ (List.mem_append_left _ (List.mem_append_right _ (List.mem_append_left _ (List.mem_append_right _ (List.mem_append_left _ (List.mem_of_getElem? (i := 11) rfl))))))
theorem mU_204 : Cond.methodLink RX6 94 yX4_minors ∈ wsU := List.mem_append_left _ (List.mem_append_left _ (List.mem_append_right _ (List.mem_append_left _ (List.mem_append_right _ (List.mem_append_left _ (List.mem_of_getElem? (i := 12) rfl))))))
theorem mU_205 : Cond.instanceMethod yX4_minors ∈ wsU := List.mem_append_left _ (List.mem_append_left _ (List.mem_append_right _ (List.mem_append_left _ (List.mem_append_right _ (List.mem_append_left _ (List.mem_of_getElem? (i := 13) rfl))))))
theorem mU_206 : Cond.selects RX4 yX4_minors yX4_minors ∈ wsU := List.mem_append_left _ (List.mem_append_left _ (List.mem_append_right _ (List.mem_append_left _ (List.mem_append_right _ (List.mem_append_left _ (List.mem_of_getElem? (i := 14) rfl))))))
theorem mU_207 : Cond.code yX4_minors cX4_minors 3 (some .long) ∈ wsU := List.mem_append_left _ (List.mem_append_left _ (List.mem_append_right _ (List.mem_append_left _ (List.mem_append_right _ (List.mem_append_left _ (List.mem_of_getElem? (i := 15) rfl))))))
theorem mU_208 : Cond.methodLink RX4 63 yX4_entry ∈ wsU := List.mem_append_left _ (List.mem_append_left _ (List.mem_append_right _ (List.mem_append_left _ (List.mem_append_right _ (List.mem_append_left _ (List.mem_of_getElem? (i := 16) rfl))))))
theorem mU_209 : Cond.methodLink RX4 67 yX4_minor ∈ wsU := List.mem_append_left _ (List.mem_append_left _ (List.mem_append_right _ (List.mem_append_left _ (List.mem_append_right _ (List.mem_append_left _ (List.mem_of_getElem? (i := 17) rfl))))))
theorem mU_210 : Cond.instanceMethod yX4_minor ∈ wsU := List.mem_append_left _ (List.mem_append_left _ (List.mem_append_right _ (List.mem_append_left _ (List.mem_append_right _ (List.mem_append_left _ (List.mem_of_getElem? (i := 18) rfl))))))
theorem mU_211 : Cond.selects RX4 yX4_minor yX4_minor ∈ wsU := List.mem_append_left _ (List.mem_append_left _ (List.mem_append_right _ (List.mem_append_left _ (List.mem_append_right _ (List.mem_append_left _ (List.mem_of_getElem? (i := 19) rfl))))))
theorem mU_212 : Cond.code yX4_minor cX4_minor 4 (some .long) ∈ wsU := List.mem_append_left _ (List.mem_append_left _ (List.mem_append_right _ (List.mem_append_left _ (List.mem_append_right _ (List.mem_append_left _ (List.mem_of_getElem? (i := 20) rfl))))))
theorem mU_213 : Cond.methodLink RX4 71 yX4_largestMinor ∈ wsU := List.mem_append_left _ (List.mem_append_left _ (List.mem_append_right _ (List.mem_append_left _ (List.mem_append_right _ (List.mem_append_left _ (List.mem_of_getElem? (i := 21) rfl))))))
theorem mU_214 : Cond.instanceMethod yX4_largestMinor ∈ wsU := List.mem_append_left _ (List.mem_append_left _ (List.mem_append_right _ (List.mem_append_left _ (List.mem_append_right _ (List.mem_append_left _ (List.mem_of_getElem? (i := 22) rfl))))))
theorem mU_215 : Cond.selects RX4 yX4_largestMinor yX4_largestMinor ∈ wsU := List.mem_append_left _ (List.mem_append_left _ (List.mem_append_right _ (List.mem_append_left _ (List.mem_append_right _ (List.mem_append_left _ (List.mem_of_getElem? (i := 23) rfl))))))
theorem mU_216 : Cond.code yX4_largestMinor cX4_largestMinor 7 (some .long) ∈ wsU := List.mem_append_left _ (List.mem_append_left _ (List.mem_append_right _ (List.mem_append_left _ (List.mem_append_right _ (List.mem_append_left _ (List.mem_of_getElem? (i := 24) rfl))))))
theorem mU_217 : Cond.methodLink RL 32 yX7_det ∈ wsU := List.mem_append_left _ (List.mem_append_left _ (List.mem_append_right _ (List.mem_append_left _ (List.mem_append_right _ (List.mem_append_left _ (List.mem_of_getElem? (i := 25) rfl))))))
theorem mU_218 : Cond.instanceMethod yX7_det ∈ wsU := List.mem_append_left _ (List.mem_append_left _ (List.mem_append_right _ (List.mem_append_left _ (List.mem_append_right _ (List.mem_append_left _ (List.mem_of_getElem? (i := 26) rfl))))))
theorem mU_219 : Cond.selects RX7 yX7_det yX7_det ∈ wsU := List.mem_append_left _ (List.mem_append_left _ (List.mem_append_right _ (List.mem_append_left _ (List.mem_append_right _ (List.mem_append_left _ (List.mem_of_getElem? (i := 27) rfl))))))
theorem mU_220 : Cond.code yX7_det cX7_det 2 (some .long) ∈ wsU := List.mem_append_left _ (List.mem_append_left _ (List.mem_append_right _ (List.mem_append_left _ (List.mem_append_right _ (List.mem_append_left _ (List.mem_of_getElem? (i := 28) rfl))))))
theorem mU_221 : Cond.methodLink RX7 136 yX7_detOf ∈ wsU := List.mem_append_left _ (List.mem_append_left _ (List.mem_append_right _ (List.mem_append_left _ (List.mem_append_right _ (List.mem_append_left _ (List.mem_of_getElem? (i := 29) rfl))))))
theorem mU_222 : Cond.instanceMethod yX7_detOf ∈ wsU := List.mem_append_left _ (List.mem_append_left _ (List.mem_append_right _ (List.mem_append_left _ (List.mem_append_right _ (List.mem_append_left _ (List.mem_of_getElem? (i := 30) rfl))))))
theorem mU_223 : Cond.selects RX7 yX7_detOf yX7_detOf ∈ wsU := List.mem_append_left _ (List.mem_append_left _ (List.mem_append_right _ (List.mem_append_left _ (List.mem_append_right _ (List.mem_append_left _ (List.mem_of_getElem? (i := 31) rfl))))))
theorem mU_224 : Cond.code yX7_detOf cX7_detOf 3 (some .long) ∈ wsU := List.mem_append_left _ (List.mem_append_left _ (List.mem_append_right _ (List.mem_append_left _ (List.mem_append_right _ (List.mem_append_right _ (List.mem_of_getElem? (i := 0) rfl))))))
theorem mU_225 : Cond.methodLink RX7 132 yX7_cross ∈ wsU := List.mem_append_left _ (List.mem_append_left _ (List.mem_append_right _ (List.mem_append_left _ (List.mem_append_right _ (List.mem_append_right _ (List.mem_of_getElem? (i := 1) rfl))))))
theorem mU_226 : Cond.instanceMethod yX7_cross ∈ wsU := List.mem_append_left _ (List.mem_append_left _ (List.mem_append_right _ (List.mem_append_left _ (List.mem_append_right _ (List.mem_append_right _ (List.mem_of_getElem? (i := 2) rfl))))))
theorem mU_227 : Cond.selects RX7 yX7_cross yX7_cross ∈ wsU := List.mem_append_left _ (List.mem_append_left _ (List.mem_append_right _ (List.mem_append_left _ (List.mem_append_right _ (List.mem_append_right _ (List.mem_of_getElem? (i := 3) rfl))))))
theorem mU_228 : Cond.code yX7_cross cX7_cross 6 (some .long) ∈ wsU := List.mem_append_left _ (List.mem_append_left _ (List.mem_append_right _ (List.mem_append_left _ (List.mem_append_right _ (List.mem_append_right _ (List.mem_of_getElem? (i := 4) rfl))))))
theorem mU_229 : Cond.methodLink RX7 140 yX7_told ∈ wsU := List.mem_append_left _ (List.mem_append_left _ (List.mem_append_right _ (List.mem_append_left _ (List.mem_append_right _ (List.mem_append_right _ (List.mem_of_getElem? (i := 5) rfl))))))
theorem mU_230 : Cond.static yX7_told ∈ wsU := List.mem_append_left _ (List.mem_append_left _ (List.mem_append_right _ (List.mem_append_left _ (List.mem_append_right _ (List.mem_append_right _ (List.mem_of_getElem? (i := 6) rfl))))))
theorem mU_231 : Cond.code yX7_told cX7_told 1 (some .long) ∈ wsU := List.mem_append_left _ (List.mem_append_left _ (List.mem_append_right _ (List.mem_append_left _ (List.mem_append_right _ (List.mem_append_right _ (List.mem_of_getElem? (i := 7) rfl))))))
theorem mU_232 : Cond.constantLong RX7 91 (4000000000000000000) ∈ wsU := List.mem_append_left _ (List.mem_append_left _ (List.mem_append_right _ (List.mem_append_left _ (List.mem_append_right _ (List.mem_append_right _ (List.mem_of_getElem? (i := 8) rfl))))))
theorem mU_233 : Cond.methodLink RL 33 yX6_diagonal ∈ wsU := List.mem_append_left _ (List.mem_append_left _ (List.mem_append_right _ (List.mem_append_left _ (List.mem_append_right _ (List.mem_append_right _ (List.mem_of_getElem? (i := 9) rfl))))))
theorem mU_234 : Cond.instanceMethod yX6_diagonal ∈ wsU := List.mem_append_left _ (List.mem_append_left _ (List.mem_append_right _ (List.mem_append_left _ (List.mem_append_right _ (List.mem_append_right _ (List.mem_of_getElem? (i := 10) rfl))))))
theorem mU_235 : Cond.selects RX6 yX6_diagonal yX6_diagonal ∈ wsU := List.mem_append_left _ (List.mem_append_left _ (List.mem_append_right _ (List.mem_append_left _ (List.mem_append_right _ (List.mem_append_right _ (List.mem_of_getElem? (i := 11) rfl))))))
theorem mU_236 : Cond.code yX6_diagonal cX6_diagonal 2 (some .long) ∈ wsU := List.mem_append_left _ (List.mem_append_left _ (List.mem_append_right _ (List.mem_append_left _ (List.mem_append_right _ (List.mem_append_right _ (List.mem_of_getElem? (i := 12) rfl))))))
theorem mU_237 : Cond.methodLink RL 36 yX7_diagonal ∈ wsU := List.mem_append_left _ (List.mem_append_left _ (List.mem_append_right _ (List.mem_append_left _ (List.mem_append_right _ (List.mem_append_right _ (List.mem_of_getElem? (i := 13) rfl))))))
theorem mU_238 : Cond.instanceMethod yX7_diagonal ∈ wsU := List.mem_append_left _ (List.mem_append_left _ (List.mem_append_right _ (List.mem_append_left _ (List.mem_append_right _ (List.mem_append_right _ (List.mem_of_getElem? (i := 14) rfl))))))
theorem mU_239 : Cond.selects RX7 yX7_diagonal yX7_diagonal ∈ wsU := List.mem_append_left _ (List.mem_append_left _ (List.mem_append_right _ (List.mem_append_left _ (List.mem_append_right _ (List.mem_append_right _ (List.mem_of_getElem? (i := 15) rfl))))))
theorem mU_240 : Cond.code yX7_diagonal cX7_diagonal 2 (some .long) ∈ wsU := List.mem_append_left _ (List.mem_append_left _ (List.mem_append_right _ (List.mem_append_left _ (List.mem_append_right _ (List.mem_append_right _ (List.mem_of_getElem? (i := 16) rfl))))))
theorem mU_241 : Cond.methodLink RX7 143 yX7_sumDown ∈ wsU := List.mem_append_left _ (List.mem_append_left _ (List.mem_append_right _ (List.mem_append_left _ (List.mem_append_right _ (List.mem_append_right _ (List.mem_of_getElem? (i := 17) rfl))))))
theorem mU_242 : Cond.instanceMethod yX7_sumDown ∈ wsU := List.mem_append_left _ (List.mem_append_left _ (List.mem_append_right _ (List.mem_append_left _ (List.mem_append_right _ (List.mem_append_right _ (List.mem_of_getElem? (i := 18) rfl))))))
theorem mU_243 : Cond.selects RX7 yX7_sumDown yX7_sumDown ∈ wsU := List.mem_append_left _ (List.mem_append_left _ (List.mem_append_right _ (List.mem_append_left _ (List.mem_append_right _ (List.mem_append_right _ (List.mem_of_getElem? (i := 19) rfl))))))
theorem mU_244 : Cond.code yX7_sumDown cX7_sumDown 5 (some .long) ∈ wsU := List.mem_append_left _ (List.mem_append_left _ (List.mem_append_right _ (List.mem_append_left _ (List.mem_append_right _ (List.mem_append_right _ (List.mem_of_getElem? (i := 20) rfl))))))
theorem mU_245 : Cond.methodLink RL 37 yX6_character ∈ wsU := List.mem_append_left _ (List.mem_append_left _ (List.mem_append_right _ (List.mem_append_left _ (List.mem_append_right _ (List.mem_append_right _ (List.mem_of_getElem? (i := 21) rfl))))))
theorem mU_246 : Cond.instanceMethod yX6_character ∈ wsU := List.mem_append_left _ (List.mem_append_left _ (List.mem_append_right _ (List.mem_append_left _ (List.mem_append_right _ (List.mem_append_right _ (List.mem_of_getElem? (i := 22) rfl))))))
theorem mU_247 : Cond.selects RX6 yX6_character yX6_character ∈ wsU := List.mem_append_left _ (List.mem_append_left _ (List.mem_append_right _ (List.mem_append_left _ (List.mem_append_right _ (List.mem_append_right _ (List.mem_of_getElem? (i := 23) rfl))))))
theorem mU_248 : Cond.code yX6_character cX6_character 6 (some .long) ∈ wsU := List.mem_append_left _ (List.mem_append_left _ (List.mem_append_right _ (List.mem_append_left _ (List.mem_append_right _ (List.mem_append_right _ (List.mem_of_getElem? (i := 24) rfl))))))
theorem mU_249 : Cond.methodLink RL 41 yX7_character ∈ wsU := List.mem_append_left _ (List.mem_append_left _ (List.mem_append_right _ (List.mem_append_left _ (List.mem_append_right _ (List.mem_append_right _ (List.mem_of_getElem? (i := 25) rfl))))))
theorem mU_250 : Cond.instanceMethod yX7_character ∈ wsU := List.mem_append_left _ (List.mem_append_left _ (List.mem_append_right _ (List.mem_append_left _ (List.mem_append_right _ (List.mem_append_right _ (List.mem_of_getElem? (i := 26) rfl))))))
theorem mU_251 : Cond.selects RX7 yX7_character yX7_character ∈ wsU := List.mem_append_left _ (List.mem_append_left _ (List.mem_append_right _ (List.mem_append_left _ (List.mem_append_right _ (List.mem_append_right _ (List.mem_of_getElem? (i := 27) rfl))))))
theorem mU_252 : Cond.code yX7_character cX7_character 4 (some .long) ∈ wsU := List.mem_append_left _ (List.mem_append_left _ (List.mem_append_right _ (List.mem_append_left _ (List.mem_append_right _ (List.mem_append_right _ (List.mem_of_getElem? (i := 28) rfl))))))
theorem mU_253 : Cond.methodLink RX7 146 yX7_pairs ∈ wsU := List.mem_append_left _ (List.mem_append_left _ (List.mem_append_right _ (List.mem_append_left _ (List.mem_append_right _ (List.mem_append_right _ (List.mem_of_getElem? (i := 29) rfl))))))
theorem mU_254 : Cond.instanceMethod yX7_pairs ∈ wsU := List.mem_append_left _ (List.mem_append_left _ (List.mem_append_right _ (List.mem_append_left _ (List.mem_append_right _ (List.mem_append_right _ (List.mem_of_getElem? (i := 30) rfl))))))
theorem mU_255 : Cond.selects RX7 yX7_pairs yX7_pairs ∈ wsU := List.mem_append_left _ (List.mem_append_left _ (List.mem_append_right _ (List.mem_append_left _ (List.mem_append_right _ (List.mem_append_right _ (List.mem_of_getElem? (i := 31) rfl))))))
theorem mU_256 : Cond.code yX7_pairs cX7_pairs 6 (some .long) ∈ wsU := List.mem_append_left _ (List.mem_append_left _ (List.mem_append_right _ (List.mem_append_right _ (List.mem_append_left _ (List.mem_of_getElem? (i := 0) rfl)))))
theorem mU_257 : Cond.methodLink RL 44 yX6_feed ∈ wsU := List.mem_append_left _ (List.mem_append_left _ (List.mem_append_right _ (List.mem_append_right _ (List.mem_append_left _ (List.mem_of_getElem? (i := 1) rfl)))))
theorem mU_258 : Cond.instanceMethod yX6_feed ∈ wsU := List.mem_append_left _ (List.mem_append_left _ (List.mem_append_right _ (List.mem_append_right _ (List.mem_append_left _ (List.mem_of_getElem? (i := 2) rfl)))))
theorem mU_259 : Cond.selects RX6 yX6_feed yX6_feed ∈ wsU := List.mem_append_left _ (List.mem_append_left _ (List.mem_append_right _ (List.mem_append_right _ (List.mem_append_left _ (List.mem_of_getElem? (i := 3) rfl)))))
theorem mU_260 : Cond.code yX6_feed cX6_feed 5 (some .int) ∈ wsU := List.mem_append_left _ (List.mem_append_left _ (List.mem_append_right _ (List.mem_append_right _ (List.mem_append_left _ (List.mem_of_getElem? (i := 4) rfl)))))
theorem mU_261 : Cond.fieldLink RX6 98 "TwoSidedTables$Tape" "count" "I" ∈ wsU := List.mem_append_left _ (List.mem_append_left _ (List.mem_append_right _ (List.mem_append_right _ (List.mem_append_left _ (List.mem_of_getElem? (i := 5) rfl)))))
theorem mU_262 : Cond.methodLink RX6 101 yX5_take ∈ wsU := List.mem_append_left _ (List.mem_append_left _ (List.mem_append_right _ (List.mem_append_right _ (List.mem_append_left _ (List.mem_of_getElem? (i := 6) rfl)))))
theorem mU_263 : Cond.instanceMethod yX5_take ∈ wsU := List.mem_append_left _ (List.mem_append_left _ (List.mem_append_right _ (List.mem_append_right _ (List.mem_append_left _ (List.mem_of_getElem? (i := 7) rfl)))))
theorem mU_264 : Cond.selects RX5 yX5_take yX5_take ∈ wsU := List.mem_append_left _ (List.mem_append_left _ (List.mem_append_right _ (List.mem_append_right _ (List.mem_append_left _ (List.mem_of_getElem? (i := 8) rfl)))))
theorem mU_265 : Cond.code yX5_take cX5_take 2 none ∈ wsU := List.mem_append_left _ (List.mem_append_left _ (List.mem_append_right _ (List.mem_append_right _ (List.mem_append_left _ (List.mem_of_getElem? (i := 9) rfl)))))
theorem mU_266 : Cond.fieldLink RX5 15 "TwoSidedTables$Tape" "count" "I" ∈ wsU := List.mem_append_left _ (List.mem_append_left _ (List.mem_append_right _ (List.mem_append_right _ (List.mem_append_left _ (List.mem_of_getElem? (i := 10) rfl)))))
theorem mU_267 : Cond.methodLink RL 48 yX7_feed ∈ wsU := List.mem_append_left _ (List.mem_append_left _ (List.mem_append_right _ (List.mem_append_right _ (List.mem_append_left _ (List.mem_of_getElem? (i := 11) rfl)))))
theorem mU_268 : Cond.instanceMethod yX7_feed ∈ wsU := List.mem_append_left _ (List.mem_append_left _ (List.mem_append_right _ (List.mem_append_right _ (List.mem_append_left _ (List.mem_of_getElem? (i := 12) rfl)))))
theorem mU_269 : Cond.selects RX7 yX7_feed yX7_feed ∈ wsU := List.mem_append_left _ (List.mem_append_left _ (List.mem_append_right _ (List.mem_append_right _ (List.mem_append_left _ (List.mem_of_getElem? (i := 13) rfl)))))
theorem mU_270 : Cond.code yX7_feed cX7_feed 5 (some .int) ∈ wsU := List.mem_append_left _ (List.mem_append_left _ (List.mem_append_right _ (List.mem_append_right _ (List.mem_append_left _ (List.mem_of_getElem? (i := 14) rfl)))))
theorem mU_271 : Cond.constantLong RX7 149 (8) ∈ wsU := List.mem_append_left _ (List.mem_append_left _ (List.mem_append_right _ (List.mem_append_right _ (List.mem_append_left _ (List.mem_of_getElem? (i := 15) rfl)))))
theorem mU_272 : Cond.fieldLink RX7 151 "TwoSidedTablesModel" "taped" "I" ∈ wsU := List.mem_append_left _ (List.mem_append_left _ (List.mem_append_right _ (List.mem_append_right _ (List.mem_append_left _ (List.mem_of_getElem? (i := 16) rfl)))))
theorem mU_273 : Cond.methodLink RL 49 yX6_text ∈ wsU := List.mem_append_left _ (List.mem_append_left _ (List.mem_append_right _ (List.mem_append_right _ (List.mem_append_left _ (List.mem_of_getElem? (i := 17) rfl)))))
theorem mU_274 : Cond.instanceMethod yX6_text ∈ wsU := List.mem_append_left _ (List.mem_append_left _ (List.mem_append_right _ (List.mem_append_right _ (List.mem_append_left _ (List.mem_of_getElem? (i := 18) rfl)))))
theorem mU_275 : Cond.selects RX6 yX6_text yX6_text ∈ wsU := List.mem_append_left _ (List.mem_append_left _ (List.mem_append_right _ (List.mem_append_right _ (List.mem_append_left _ (List.mem_of_getElem? (i := 19) rfl)))))
theorem mU_276 : Cond.code yX6_text cX6_text 2 (some .int) ∈ wsU := List.mem_append_left _ (List.mem_append_left _ (List.mem_append_right _ (List.mem_append_right _ (List.mem_append_left _ (List.mem_of_getElem? (i := 20) rfl)))))
theorem mU_277 : Cond.methodLink RX6 105 yX4_copyFrom ∈ wsU := List.mem_append_left _ (List.mem_append_left _ (List.mem_append_right _ (List.mem_append_right _ (List.mem_append_left _ (List.mem_of_getElem? (i := 21) rfl)))))
theorem mU_278 : Cond.instanceMethod yX4_copyFrom ∈ wsU := List.mem_append_left _ (List.mem_append_left _ (List.mem_append_right _ (List.mem_append_right _ (List.mem_append_left _ (List.mem_of_getElem? (i := 22) rfl)))))
theorem mU_279 : Cond.selects RX4 yX4_copyFrom yX4_copyFrom ∈ wsU := List.mem_append_left _ (List.mem_append_left _ (List.mem_append_right _ (List.mem_append_right _ (List.mem_append_left _ (List.mem_of_getElem? (i := 23) rfl)))))
theorem mU_280 : Cond.code yX4_copyFrom cX4_copyFrom 2 none ∈ wsU := List.mem_append_left _ (List.mem_append_left _ (List.mem_append_right _ (List.mem_append_right _ (List.mem_append_left _ (List.mem_of_getElem? (i := 24) rfl)))))
theorem mU_281 : Cond.fieldLink RX4 37 "TwoSidedTables$State" "count" "I" ∈ wsU := List.mem_append_left _ (List.mem_append_left _ (List.mem_append_right _ (List.mem_append_right _ (List.mem_append_left _ (List.mem_of_getElem? (i := 25) rfl)))))
theorem mU_282 : Cond.methodLink RX4 40 arraycopyName ∈ wsU := List.mem_append_left _ (List.mem_append_left _ (List.mem_append_right _ (List.mem_append_right _ (List.mem_append_left _ (List.mem_of_getElem? (i := 26) rfl)))))
theorem mU_283 : Cond.native arraycopyName ∈ wsU := List.mem_append_left _ (List.mem_append_left _ (List.mem_append_right _ (List.mem_append_right _ (List.mem_append_left _ (List.mem_of_getElem? (i := 27) rfl)))))
theorem mU_284 : Cond.static arraycopyName ∈ wsU := List.mem_append_left _ (List.mem_append_left _ (List.mem_append_right _ (List.mem_append_right _ (List.mem_append_left _ (List.mem_of_getElem? (i := 28) rfl)))))
theorem mU_285 : Cond.initialized "java/lang/System" ∈ wsU := List.mem_append_left _ (List.mem_append_left _ (List.mem_append_right _ (List.mem_append_right _ (List.mem_append_left _ (List.mem_of_getElem? (i := 29) rfl)))))
theorem mU_286 : Cond.methodLink RX6 109 yX5_tell ∈ wsU := List.mem_append_left _ (List.mem_append_left _ (List.mem_append_right _ (List.mem_append_right _ (List.mem_append_left _ (List.mem_of_getElem? (i := 30) rfl)))))
theorem mU_287 : Cond.instanceMethod yX5_tell ∈ wsU := List.mem_append_left _ (List.mem_append_left _ (List.mem_append_right _ (List.mem_append_right _ (List.mem_append_left _ (List.mem_of_getElem? (i := 31) rfl)))))
theorem mU_288 : Cond.selects RX5 yX5_tell yX5_tell ∈ wsU := List.mem_append_left _ (List.mem_append_left _ (List.mem_append_right _ (List.mem_append_right _ (List.mem_append_right _ (List.mem_append_left _ (List.mem_of_getElem? (i := 0) rfl))))))
theorem mU_289 : Cond.code yX5_tell cX5_tell 5 (some .int) ∈ wsU := List.mem_append_left _ (List.mem_append_left _ (List.mem_append_right _ (List.mem_append_right _ (List.mem_append_right _ (List.mem_append_left _ (List.mem_of_getElem? (i := 1) rfl))))))
theorem mU_290 : Cond.fieldLink RX5 19 "TwoSidedTables$Tape" "place" "I" ∈ wsU := List.mem_append_left _ (List.mem_append_left _ (List.mem_append_right _ (List.mem_append_right _ (List.mem_append_right _ (List.mem_append_left _ (List.mem_of_getElem? (i := 2) rfl))))))
theorem mU_291 : Cond.methodLink RX5 22 yX5_skipBlanks ∈ wsU := List.mem_append_left _ (List.mem_append_left _ (List.mem_append_right _ (List.mem_append_right _ (List.mem_append_right _ (List.mem_append_left _ (List.mem_of_getElem? (i := 3) rfl))))))
theorem mU_292 : Cond.instanceMethod yX5_skipBlanks ∈ wsU := List.mem_append_left _ (List.mem_append_left _ (List.mem_append_right _ (List.mem_append_right _ (List.mem_append_right _ (List.mem_append_left _ (List.mem_of_getElem? (i := 4) rfl))))))
theorem mU_293 : Cond.selects RX5 yX5_skipBlanks yX5_skipBlanks ∈ wsU := List.mem_append_left _ (List.mem_append_left _ (List.mem_append_right _ (List.mem_append_right _ (List.mem_append_right _ (List.mem_append_left _ (List.mem_of_getElem? (i := 5) rfl))))))
theorem mU_294 : Cond.code yX5_skipBlanks cX5_skipBlanks 2 none ∈ wsU := List.mem_append_left _ (List.mem_append_left _ (List.mem_append_right _ (List.mem_append_right _ (List.mem_append_right _ (List.mem_append_left _ (List.mem_of_getElem? (i := 6) rfl))))))
theorem mU_295 : Cond.methodLink RX5 33 yX5_here ∈ wsU := List.mem_append_left _ (List.mem_append_left _ (List.mem_append_right _ (List.mem_append_right _ (List.mem_append_right _ (List.mem_append_left _ (List.mem_of_getElem? (i := 7) rfl))))))
theorem mU_296 : Cond.instanceMethod yX5_here ∈ wsU := List.mem_append_left _ (List.mem_append_left _ (List.mem_append_right _ (List.mem_append_right _ (List.mem_append_right _ (List.mem_append_left _ (List.mem_of_getElem? (i := 8) rfl))))))
theorem mU_297 : Cond.selects RX5 yX5_here yX5_here ∈ wsU := List.mem_append_left _ (List.mem_append_left _ (List.mem_append_right _ (List.mem_append_right _ (List.mem_append_right _ (List.mem_append_left _ (List.mem_of_getElem? (i := 9) rfl))))))
theorem mU_298 : Cond.code yX5_here cX5_here 3 (some .int) ∈ wsU := List.mem_append_left _ (List.mem_append_left _ (List.mem_append_right _ (List.mem_append_right _ (List.mem_append_right _ (List.mem_append_left _ (List.mem_of_getElem? (i := 10) rfl))))))
theorem mU_299 : Cond.methodLink RX5 25 yX5_readName ∈ wsU := List.mem_append_left _ (List.mem_append_left _ (List.mem_append_right _ (List.mem_append_right _ (List.mem_append_right _ (List.mem_append_left _ (List.mem_of_getElem? (i := 11) rfl))))))
theorem mU_300 : Cond.instanceMethod yX5_readName ∈ wsU := List.mem_append_left _ (List.mem_append_left _ (List.mem_append_right _ (List.mem_append_right _ (List.mem_append_right _ (List.mem_append_left _ (List.mem_of_getElem? (i := 12) rfl))))))
theorem mU_301 : Cond.selects RX5 yX5_readName yX5_readName ∈ wsU := List.mem_append_left _ (List.mem_append_left _ (List.mem_append_right _ (List.mem_append_right _ (List.mem_append_right _ (List.mem_append_left _ (List.mem_of_getElem? (i := 13) rfl))))))
theorem mU_302 : Cond.code yX5_readName cX5_readName 2 (some .int) ∈ wsU := List.mem_append_left _ (List.mem_append_left _ (List.mem_append_right _ (List.mem_append_right _ (List.mem_append_right _ (List.mem_append_left _ (List.mem_of_getElem? (i := 14) rfl))))))
theorem mU_303 : Cond.methodLink RX5 37 yX5_stretch ∈ wsU := List.mem_append_left _ (List.mem_append_left _ (List.mem_append_right _ (List.mem_append_right _ (List.mem_append_right _ (List.mem_append_left _ (List.mem_of_getElem? (i := 15) rfl))))))
theorem mU_304 : Cond.instanceMethod yX5_stretch ∈ wsU := List.mem_append_left _ (List.mem_append_left _ (List.mem_append_right _ (List.mem_append_right _ (List.mem_append_right _ (List.mem_append_left _ (List.mem_of_getElem? (i := 16) rfl))))))
theorem mU_305 : Cond.selects RX5 yX5_stretch yX5_stretch ∈ wsU := List.mem_append_left _ (List.mem_append_left _ (List.mem_append_right _ (List.mem_append_right _ (List.mem_append_right _ (List.mem_append_left _ (List.mem_of_getElem? (i := 17) rfl))))))
theorem mU_306 : Cond.code yX5_stretch cX5_stretch 4 (some .int) ∈ wsU := List.mem_append_left _ (List.mem_append_left _ (List.mem_append_right _ (List.mem_append_right _ (List.mem_append_right _ (List.mem_append_left _ (List.mem_of_getElem? (i := 18) rfl))))))
theorem mU_307 : Cond.methodLink RX5 29 yX5_readTable ∈ wsU := List.mem_append_left _ (List.mem_append_left _ (List.mem_append_right _ (List.mem_append_right _ (List.mem_append_right _ (List.mem_append_left _ (List.mem_of_getElem? (i := 19) rfl))))))
theorem mU_308 : Cond.instanceMethod yX5_readTable ∈ wsU := List.mem_append_left _ (List.mem_append_left _ (List.mem_append_right _ (List.mem_append_right _ (List.mem_append_right _ (List.mem_append_left _ (List.mem_of_getElem? (i := 20) rfl))))))
theorem mU_309 : Cond.selects RX5 yX5_readTable yX5_readTable ∈ wsU := List.mem_append_left _ (List.mem_append_left _ (List.mem_append_right _ (List.mem_append_right _ (List.mem_append_right _ (List.mem_append_left _ (List.mem_of_getElem? (i := 21) rfl))))))
theorem mU_310 : Cond.code yX5_readTable cX5_readTable 6 (some .boolean) ∈ wsU := List.mem_append_left _ (List.mem_append_left _ (List.mem_append_right _ (List.mem_append_right _ (List.mem_append_right _ (List.mem_append_left _ (List.mem_of_getElem? (i := 22) rfl))))))
theorem mU_311 : Cond.methodLink RX5 41 yX4_rows ∈ wsU := List.mem_append_left _ (List.mem_append_left _ (List.mem_append_right _ (List.mem_append_right _ (List.mem_append_right _ (List.mem_append_left _ (List.mem_of_getElem? (i := 23) rfl))))))
theorem mU_312 : Cond.methodLink RX5 46 yX4_columns ∈ wsU := List.mem_append_left _ (List.mem_append_left _ (List.mem_append_right _ (List.mem_append_right _ (List.mem_append_right _ (List.mem_append_left _ (List.mem_of_getElem? (i := 24) rfl))))))
theorem mU_313 : Cond.methodLink RX5 49 yX5_readEntry ∈ wsU := List.mem_append_left _ (List.mem_append_left _ (List.mem_append_right _ (List.mem_append_right _ (List.mem_append_right _ (List.mem_append_left _ (List.mem_of_getElem? (i := 25) rfl))))))
theorem mU_314 : Cond.instanceMethod yX5_readEntry ∈ wsU := List.mem_append_left _ (List.mem_append_left _ (List.mem_append_right _ (List.mem_append_right _ (List.mem_append_right _ (List.mem_append_left _ (List.mem_of_getElem? (i := 26) rfl))))))
theorem mU_315 : Cond.selects RX5 yX5_readEntry yX5_readEntry ∈ wsU := List.mem_append_left _ (List.mem_append_left _ (List.mem_append_right _ (List.mem_append_right _ (List.mem_append_right _ (List.mem_append_left _ (List.mem_of_getElem? (i := 27) rfl))))))
theorem mU_316 : Cond.code yX5_readEntry cX5_readEntry 8 (some .boolean) ∈ wsU := List.mem_append_left _ (List.mem_append_left _ (List.mem_append_right _ (List.mem_append_right _ (List.mem_append_right _ (List.mem_append_left _ (List.mem_of_getElem? (i := 28) rfl))))))
theorem mU_317 : Cond.methodLink RX5 53 yX5_readMark ∈ wsU := List.mem_append_left _ (List.mem_append_left _ (List.mem_append_right _ (List.mem_append_right _ (List.mem_append_right _ (List.mem_append_left _ (List.mem_of_getElem? (i := 29) rfl))))))
theorem mU_318 : Cond.instanceMethod yX5_readMark ∈ wsU := List.mem_append_left _ (List.mem_append_left _ (List.mem_append_right _ (List.mem_append_right _ (List.mem_append_right _ (List.mem_append_left _ (List.mem_of_getElem? (i := 30) rfl))))))
theorem mU_319 : Cond.selects RX5 yX5_readMark yX5_readMark ∈ wsU := List.mem_append_left _ (List.mem_append_left _ (List.mem_append_right _ (List.mem_append_right _ (List.mem_append_right _ (List.mem_append_left _ (List.mem_of_getElem? (i := 31) rfl))))))
theorem mU_320 : Cond.code yX5_readMark cX5_readMark 2 (some .boolean) ∈ wsU := List.mem_append_left _ (List.mem_append_left _ (List.mem_append_right _ (List.mem_append_right _ (List.mem_append_right _ (List.mem_append_right _ (List.mem_of_getElem? (i := 0) rfl))))))
theorem mU_321 : Cond.methodLink RX5 60 yX4_store ∈ wsU := List.mem_append_left _ (List.mem_append_left _ (List.mem_append_right _ (List.mem_append_right _ (List.mem_append_right _ (List.mem_append_right _ (List.mem_of_getElem? (i := 1) rfl))))))
theorem mU_322 : Cond.methodLink RL 53 yX7_text ∈ wsU := List.mem_append_left _ (List.mem_append_left _ (List.mem_append_right _ (List.mem_append_right _ (List.mem_append_right _ (List.mem_append_right _ (List.mem_of_getElem? (i := 2) rfl))))))
theorem mU_323 : Cond.instanceMethod yX7_text ∈ wsU := List.mem_append_left _ (List.mem_append_left _ (List.mem_append_right _ (List.mem_append_right _ (List.mem_append_right _ (List.mem_append_right _ (List.mem_of_getElem? (i := 3) rfl))))))
theorem mU_324 : Cond.selects RX7 yX7_text yX7_text ∈ wsU := List.mem_append_left _ (List.mem_append_left _ (List.mem_append_right _ (List.mem_append_right _ (List.mem_append_right _ (List.mem_append_right _ (List.mem_of_getElem? (i := 4) rfl))))))
theorem mU_325 : Cond.code yX7_text cX7_text 1 (some .int) ∈ wsU := List.mem_append_left _ (List.mem_append_left _ (List.mem_append_right _ (List.mem_append_right _ (List.mem_append_right _ (List.mem_append_right _ (List.mem_of_getElem? (i := 5) rfl))))))
theorem mU_326 : Cond.fieldLink RX7 154 "TwoSidedTablesModel" "to" "I" ∈ wsU := List.mem_append_left _ (List.mem_append_left _ (List.mem_append_right _ (List.mem_append_right _ (List.mem_append_right _ (List.mem_append_right _ (List.mem_of_getElem? (i := 6) rfl))))))
theorem mU_327 : Cond.fieldLink RX7 167 "TwoSidedTablesModel" "fault" "I" ∈ wsU := List.mem_append_left _ (List.mem_append_left _ (List.mem_append_right _ (List.mem_append_right _ (List.mem_append_right _ (List.mem_append_right _ (List.mem_of_getElem? (i := 7) rfl))))))
theorem mU_328 : Cond.fieldLink RX7 183 "TwoSidedTablesModel" "tables" "I" ∈ wsU := List.mem_append_left _ (List.mem_append_left _ (List.mem_append_right _ (List.mem_append_right _ (List.mem_append_right _ (List.mem_append_right _ (List.mem_of_getElem? (i := 8) rfl))))))
theorem mU_329 : Cond.fieldLink RX7 157 "TwoSidedTablesModel" "from" "I" ∈ wsU := List.mem_append_left _ (List.mem_append_left _ (List.mem_append_right _ (List.mem_append_right _ (List.mem_append_right _ (List.mem_append_right _ (List.mem_of_getElem? (i := 9) rfl))))))
theorem mU_330 : Cond.methodLink RX7 186 yX7_saves ∈ wsU := List.mem_append_left _ (List.mem_append_left _ (List.mem_append_right _ (List.mem_append_right _ (List.mem_append_right _ (List.mem_append_right _ (List.mem_of_getElem? (i := 10) rfl))))))
theorem mU_331 : Cond.instanceMethod yX7_saves ∈ wsU := List.mem_append_left _ (List.mem_append_left _ (List.mem_append_right _ (List.mem_append_right _ (List.mem_append_right _ (List.mem_append_right _ (List.mem_of_getElem? (i := 11) rfl))))))
theorem mU_332 : Cond.selects RX7 yX7_saves yX7_saves ∈ wsU := List.mem_append_left _ (List.mem_append_left _ (List.mem_append_right _ (List.mem_append_right _ (List.mem_append_right _ (List.mem_append_right _ (List.mem_of_getElem? (i := 12) rfl))))))
theorem mU_333 : Cond.code yX7_saves cX7_saves 4 none ∈ wsU := List.mem_append_left _ (List.mem_append_left _ (List.mem_append_right _ (List.mem_append_right _ (List.mem_append_right _ (List.mem_append_right _ (List.mem_of_getElem? (i := 13) rfl))))))
theorem mU_334 : Cond.methodLink RX7 173 yX7_next ∈ wsU := List.mem_append_left _ (List.mem_append_left _ (List.mem_append_right _ (List.mem_append_right _ (List.mem_append_right _ (List.mem_append_right _ (List.mem_of_getElem? (i := 14) rfl))))))
theorem mU_335 : Cond.instanceMethod yX7_next ∈ wsU := List.mem_append_left _ (List.mem_append_left _ (List.mem_append_right _ (List.mem_append_right _ (List.mem_append_right _ (List.mem_append_right _ (List.mem_of_getElem? (i := 15) rfl))))))
theorem mU_336 : Cond.selects RX7 yX7_next yX7_next ∈ wsU := List.mem_append_left _ (List.mem_append_left _ (List.mem_append_right _ (List.mem_append_right _ (List.mem_append_right _ (List.mem_append_right _ (List.mem_of_getElem? (i := 16) rfl))))))
theorem mU_337 : Cond.code yX7_next cX7_next 3 none ∈ wsU := List.mem_append_left _ (List.mem_append_left _ (List.mem_append_right _ (List.mem_append_right _ (List.mem_append_right _ (List.mem_append_right _ (List.mem_of_getElem? (i := 17) rfl))))))
theorem mU_338 : Cond.methodLink RX7 160 yX7_isLetter ∈ wsU := List.mem_append_left _ (List.mem_append_left _ (List.mem_append_right _ (List.mem_append_right _ (List.mem_append_right _ (List.mem_append_right _ (List.mem_of_getElem? (i := 18) rfl))))))
theorem mU_339 : Cond.static yX7_isLetter ∈ wsU := List.mem_append_left _ (List.mem_append_left _ (List.mem_append_right _ (List.mem_append_right _ (List.mem_append_right _ (List.mem_append_right _ (List.mem_of_getElem? (i := 19) rfl))))))
theorem mU_340 : Cond.code yX7_isLetter cX7_isLetter 1 (some .boolean) ∈ wsU := List.mem_append_left _ (List.mem_append_left _ (List.mem_append_right _ (List.mem_append_right _ (List.mem_append_right _ (List.mem_append_right _ (List.mem_of_getElem? (i := 20) rfl))))))
theorem mU_341 : Cond.methodLink RX7 164 yX7_isDigit ∈ wsU := List.mem_append_left _ (List.mem_append_left _ (List.mem_append_right _ (List.mem_append_right _ (List.mem_append_right _ (List.mem_append_right _ (List.mem_of_getElem? (i := 21) rfl))))))
theorem mU_342 : Cond.static yX7_isDigit ∈ wsU := List.mem_append_left _ (List.mem_append_left _ (List.mem_append_right _ (List.mem_append_right _ (List.mem_append_right _ (List.mem_append_right _ (List.mem_of_getElem? (i := 22) rfl))))))
theorem mU_343 : Cond.code yX7_isDigit cX7_isDigit 1 (some .boolean) ∈ wsU := List.mem_append_left _ (List.mem_append_left _ (List.mem_append_right _ (List.mem_append_right _ (List.mem_append_right _ (List.mem_append_right _ (List.mem_of_getElem? (i := 23) rfl))))))
theorem mU_344 : Cond.methodLink RX7 190 yX7_table ∈ wsU := List.mem_append_left _ (List.mem_append_left _ (List.mem_append_right _ (List.mem_append_right _ (List.mem_append_right _ (List.mem_append_right _ (List.mem_of_getElem? (i := 24) rfl))))))
theorem mU_345 : Cond.instanceMethod yX7_table ∈ wsU := List.mem_append_left _ (List.mem_append_left _ (List.mem_append_right _ (List.mem_append_right _ (List.mem_append_right _ (List.mem_append_right _ (List.mem_of_getElem? (i := 25) rfl))))))
theorem mU_346 : Cond.selects RX7 yX7_table yX7_table ∈ wsU := List.mem_append_left _ (List.mem_append_left _ (List.mem_append_right _ (List.mem_append_right _ (List.mem_append_right _ (List.mem_append_right _ (List.mem_of_getElem? (i := 26) rfl))))))
theorem mU_347 : Cond.code yX7_table cX7_table 4 none ∈ wsU := List.mem_append_left _ (List.mem_append_left _ (List.mem_append_right _ (List.mem_append_right _ (List.mem_append_right _ (List.mem_append_right _ (List.mem_of_getElem? (i := 27) rfl))))))
theorem mU_348 : Cond.methodLink RX7 170 yX7_is ∈ wsU := List.mem_append_left _ (List.mem_append_left _ (List.mem_append_right _ (List.mem_append_right _ (List.mem_append_right _ (List.mem_append_right _ (List.mem_of_getElem? (i := 28) rfl))))))
theorem mU_349 : Cond.instanceMethod yX7_is ∈ wsU := List.mem_append_left _ (List.mem_append_left _ (List.mem_append_right _ (List.mem_append_right _ (List.mem_append_right _ (List.mem_append_right _ (List.mem_of_getElem? (i := 29) rfl))))))
theorem mU_350 : Cond.selects RX7 yX7_is yX7_is ∈ wsU := List.mem_append_left _ (List.mem_append_left _ (List.mem_append_right _ (List.mem_append_right _ (List.mem_append_right _ (List.mem_append_right _ (List.mem_of_getElem? (i := 30) rfl))))))
theorem mU_351 : Cond.code yX7_is cX7_is 2 (some .boolean) ∈ wsU := List.mem_append_left _ (List.mem_append_left _ (List.mem_append_right _ (List.mem_append_right _ (List.mem_append_right _ (List.mem_append_right _ (List.mem_of_getElem? (i := 31) rfl))))))
theorem mU_352 : Cond.methodLink RX7 176 yX7_fails ∈ wsU := List.mem_append_left _ (List.mem_append_right _ (List.mem_append_left _ (List.mem_append_left _ (List.mem_append_left _ (List.mem_of_getElem? (i := 0) rfl)))))
theorem mU_353 : Cond.instanceMethod yX7_fails ∈ wsU := List.mem_append_left _ (List.mem_append_right _ (List.mem_append_left _ (List.mem_append_left _ (List.mem_append_left _ (List.mem_of_getElem? (i := 1) rfl)))))
theorem mU_354 : Cond.selects RX7 yX7_fails yX7_fails ∈ wsU := List.mem_append_left _ (List.mem_append_right _ (List.mem_append_left _ (List.mem_append_left _ (List.mem_append_left _ (List.mem_of_getElem? (i := 2) rfl)))))
theorem mU_355 : Cond.code yX7_fails cX7_fails 1 none ∈ wsU := List.mem_append_left _ (List.mem_append_right _ (List.mem_append_left _ (List.mem_append_left _ (List.mem_append_left _ (List.mem_of_getElem? (i := 3) rfl)))))
theorem mU_356 : Cond.methodLink RX7 179 yX7_entryOf ∈ wsU := List.mem_append_left _ (List.mem_append_right _ (List.mem_append_left _ (List.mem_append_left _ (List.mem_append_left _ (List.mem_of_getElem? (i := 4) rfl)))))
theorem mU_357 : Cond.instanceMethod yX7_entryOf ∈ wsU := List.mem_append_left _ (List.mem_append_right _ (List.mem_append_left _ (List.mem_append_left _ (List.mem_append_left _ (List.mem_of_getElem? (i := 5) rfl)))))
theorem mU_358 : Cond.selects RX7 yX7_entryOf yX7_entryOf ∈ wsU := List.mem_append_left _ (List.mem_append_right _ (List.mem_append_left _ (List.mem_append_left _ (List.mem_append_left _ (List.mem_of_getElem? (i := 6) rfl)))))
theorem mU_359 : Cond.code yX7_entryOf cX7_entryOf 7 none ∈ wsU := List.mem_append_left _ (List.mem_append_right _ (List.mem_append_left _ (List.mem_append_left _ (List.mem_append_left _ (List.mem_of_getElem? (i := 7) rfl)))))
theorem mU_360 : Cond.methodLink RL 54 yX6_equation ∈ wsU := List.mem_append_left _ (List.mem_append_right _ (List.mem_append_left _ (List.mem_append_left _ (List.mem_append_left _ (List.mem_of_getElem? (i := 8) rfl)))))
theorem mU_361 : Cond.instanceMethod yX6_equation ∈ wsU := List.mem_append_left _ (List.mem_append_right _ (List.mem_append_left _ (List.mem_append_left _ (List.mem_append_left _ (List.mem_of_getElem? (i := 9) rfl)))))
theorem mU_362 : Cond.selects RX6 yX6_equation yX6_equation ∈ wsU := List.mem_append_left _ (List.mem_append_right _ (List.mem_append_left _ (List.mem_append_left _ (List.mem_append_left _ (List.mem_of_getElem? (i := 10) rfl)))))
theorem mU_363 : Cond.code yX6_equation cX6_equation 3 (some .int) ∈ wsU := List.mem_append_left _ (List.mem_append_right _ (List.mem_append_left _ (List.mem_append_left _ (List.mem_append_left _ (List.mem_of_getElem? (i := 11) rfl)))))
theorem mU_364 : Cond.fieldLink RX6 120 "TwoSidedTables$State" "count" "I" ∈ wsU := List.mem_append_left _ (List.mem_append_right _ (List.mem_append_left _ (List.mem_append_left _ (List.mem_append_left _ (List.mem_of_getElem? (i := 12) rfl)))))
theorem mU_365 : Cond.methodLink RX6 113 yX6_isKind ∈ wsU := List.mem_append_left _ (List.mem_append_right _ (List.mem_append_left _ (List.mem_append_left _ (List.mem_append_left _ (List.mem_of_getElem? (i := 13) rfl)))))
theorem mU_366 : Cond.static yX6_isKind ∈ wsU := List.mem_append_left _ (List.mem_append_right _ (List.mem_append_left _ (List.mem_append_left _ (List.mem_append_left _ (List.mem_of_getElem? (i := 14) rfl)))))
theorem mU_367 : Cond.code yX6_isKind cX6_isKind 1 (some .boolean) ∈ wsU := List.mem_append_left _ (List.mem_append_right _ (List.mem_append_left _ (List.mem_append_left _ (List.mem_append_left _ (List.mem_of_getElem? (i := 15) rfl)))))
theorem mU_368 : Cond.methodLink RX6 117 yX6_isShift ∈ wsU := List.mem_append_left _ (List.mem_append_right _ (List.mem_append_left _ (List.mem_append_left _ (List.mem_append_left _ (List.mem_of_getElem? (i := 16) rfl)))))
theorem mU_369 : Cond.static yX6_isShift ∈ wsU := List.mem_append_left _ (List.mem_append_right _ (List.mem_append_left _ (List.mem_append_left _ (List.mem_append_left _ (List.mem_of_getElem? (i := 17) rfl)))))
theorem mU_370 : Cond.code yX6_isShift cX6_isShift 1 (some .boolean) ∈ wsU := List.mem_append_left _ (List.mem_append_right _ (List.mem_append_left _ (List.mem_append_left _ (List.mem_append_left _ (List.mem_of_getElem? (i := 18) rfl)))))
theorem mU_371 : Cond.methodLink RX6 121 yX4_become ∈ wsU := List.mem_append_left _ (List.mem_append_right _ (List.mem_append_left _ (List.mem_append_left _ (List.mem_append_left _ (List.mem_of_getElem? (i := 19) rfl)))))
theorem mU_372 : Cond.instanceMethod yX4_become ∈ wsU := List.mem_append_left _ (List.mem_append_right _ (List.mem_append_left _ (List.mem_append_left _ (List.mem_append_left _ (List.mem_of_getElem? (i := 20) rfl)))))
theorem mU_373 : Cond.selects RX4 yX4_become yX4_become ∈ wsU := List.mem_append_left _ (List.mem_append_right _ (List.mem_append_left _ (List.mem_append_left _ (List.mem_append_left _ (List.mem_of_getElem? (i := 21) rfl)))))
theorem mU_374 : Cond.code yX4_become cX4_become 4 none ∈ wsU := List.mem_append_left _ (List.mem_append_right _ (List.mem_append_left _ (List.mem_append_left _ (List.mem_append_left _ (List.mem_of_getElem? (i := 22) rfl)))))
theorem mU_375 : Cond.methodLink RX4 84 yX4_hasEquation ∈ wsU := List.mem_append_left _ (List.mem_append_right _ (List.mem_append_left _ (List.mem_append_left _ (List.mem_append_left _ (List.mem_of_getElem? (i := 23) rfl)))))
theorem mU_376 : Cond.instanceMethod yX4_hasEquation ∈ wsU := List.mem_append_left _ (List.mem_append_right _ (List.mem_append_left _ (List.mem_append_left _ (List.mem_append_left _ (List.mem_of_getElem? (i := 24) rfl)))))
theorem mU_377 : Cond.selects RX4 yX4_hasEquation yX4_hasEquation ∈ wsU := List.mem_append_left _ (List.mem_append_right _ (List.mem_append_left _ (List.mem_append_left _ (List.mem_append_left _ (List.mem_of_getElem? (i := 25) rfl)))))
theorem mU_378 : Cond.code yX4_hasEquation cX4_hasEquation 2 (some .boolean) ∈ wsU := List.mem_append_left _ (List.mem_append_right _ (List.mem_append_left _ (List.mem_append_left _ (List.mem_append_left _ (List.mem_of_getElem? (i := 26) rfl)))))
theorem mU_379 : Cond.methodLink RL 57 yX7_equation ∈ wsU := List.mem_append_left _ (List.mem_append_right _ (List.mem_append_left _ (List.mem_append_left _ (List.mem_append_left _ (List.mem_of_getElem? (i := 27) rfl)))))
theorem mU_380 : Cond.instanceMethod yX7_equation ∈ wsU := List.mem_append_left _ (List.mem_append_right _ (List.mem_append_left _ (List.mem_append_left _ (List.mem_append_left _ (List.mem_of_getElem? (i := 28) rfl)))))
theorem mU_381 : Cond.selects RX7 yX7_equation yX7_equation ∈ wsU := List.mem_append_left _ (List.mem_append_right _ (List.mem_append_left _ (List.mem_append_left _ (List.mem_append_left _ (List.mem_of_getElem? (i := 29) rfl)))))
theorem mU_382 : Cond.code yX7_equation cX7_equation 3 (some .int) ∈ wsU := List.mem_append_left _ (List.mem_append_right _ (List.mem_append_left _ (List.mem_append_left _ (List.mem_append_left _ (List.mem_of_getElem? (i := 30) rfl)))))
theorem mU_383 : Cond.constantLong RX7 201 (-2) ∈ wsU := List.mem_append_left _ (List.mem_append_right _ (List.mem_append_left _ (List.mem_append_left _ (List.mem_append_left _ (List.mem_of_getElem? (i := 31) rfl)))))
theorem mU_384 : Cond.fieldLink RX7 195 "TwoSidedTablesModel" "equations" "I" ∈ wsU := List.mem_append_left _ (List.mem_append_right _ (List.mem_append_left _ (List.mem_append_left _ (List.mem_append_right _ (List.mem_of_getElem? (i := 0) rfl)))))
theorem mU_385 : Cond.methodLink RX7 198 yX7_isKind ∈ wsU := List.mem_append_left _ (List.mem_append_right _ (List.mem_append_left _ (List.mem_append_left _ (List.mem_append_right _ (List.mem_of_getElem? (i := 1) rfl)))))
theorem mU_386 : Cond.static yX7_isKind ∈ wsU := List.mem_append_left _ (List.mem_append_right _ (List.mem_append_left _ (List.mem_append_left _ (List.mem_append_right _ (List.mem_of_getElem? (i := 2) rfl)))))
theorem mU_387 : Cond.code yX7_isKind cX7_isKind 1 (some .boolean) ∈ wsU := List.mem_append_left _ (List.mem_append_right _ (List.mem_append_left _ (List.mem_append_left _ (List.mem_append_right _ (List.mem_of_getElem? (i := 3) rfl)))))
theorem mU_388 : Cond.constantLong RX7 193 (6) ∈ wsU := List.mem_append_left _ (List.mem_append_right _ (List.mem_append_left _ (List.mem_append_left _ (List.mem_append_right _ (List.mem_of_getElem? (i := 4) rfl)))))
theorem mU_389 : Cond.methodLink RL 58 yX6_of ∈ wsU := List.mem_append_left _ (List.mem_append_right _ (List.mem_append_left _ (List.mem_append_left _ (List.mem_append_right _ (List.mem_of_getElem? (i := 5) rfl)))))
theorem mU_390 : Cond.instanceMethod yX6_of ∈ wsU := List.mem_append_left _ (List.mem_append_right _ (List.mem_append_left _ (List.mem_append_left _ (List.mem_append_right _ (List.mem_of_getElem? (i := 6) rfl)))))
theorem mU_391 : Cond.selects RX6 yX6_of yX6_of ∈ wsU := List.mem_append_left _ (List.mem_append_right _ (List.mem_append_left _ (List.mem_append_left _ (List.mem_append_right _ (List.mem_of_getElem? (i := 7) rfl)))))
theorem mU_392 : Cond.code yX6_of cX6_of 4 (some .int) ∈ wsU := List.mem_append_left _ (List.mem_append_right _ (List.mem_append_left _ (List.mem_append_left _ (List.mem_append_right _ (List.mem_of_getElem? (i := 8) rfl)))))
theorem mU_393 : Cond.fieldLink RX6 147 "TwoSidedTables$Grid" "rank" "I" ∈ wsU := List.mem_append_left _ (List.mem_append_right _ (List.mem_append_left _ (List.mem_append_left _ (List.mem_append_right _ (List.mem_of_getElem? (i := 9) rfl)))))
theorem mU_394 : Cond.methodLink RX6 125 yX4_hasEquation ∈ wsU := List.mem_append_left _ (List.mem_append_right _ (List.mem_append_left _ (List.mem_append_left _ (List.mem_append_right _ (List.mem_of_getElem? (i := 10) rfl)))))
theorem mU_395 : Cond.methodLink RX6 128 yX4_kindOf ∈ wsU := List.mem_append_left _ (List.mem_append_right _ (List.mem_append_left _ (List.mem_append_left _ (List.mem_append_right _ (List.mem_of_getElem? (i := 11) rfl)))))
theorem mU_396 : Cond.instanceMethod yX4_kindOf ∈ wsU := List.mem_append_left _ (List.mem_append_right _ (List.mem_append_left _ (List.mem_append_left _ (List.mem_append_right _ (List.mem_of_getElem? (i := 12) rfl)))))
theorem mU_397 : Cond.selects RX4 yX4_kindOf yX4_kindOf ∈ wsU := List.mem_append_left _ (List.mem_append_right _ (List.mem_append_left _ (List.mem_append_left _ (List.mem_append_right _ (List.mem_of_getElem? (i := 13) rfl)))))
theorem mU_398 : Cond.code yX4_kindOf cX4_kindOf 2 (some .int) ∈ wsU := List.mem_append_left _ (List.mem_append_right _ (List.mem_append_left _ (List.mem_append_left _ (List.mem_append_right _ (List.mem_of_getElem? (i := 14) rfl)))))
theorem mU_399 : Cond.methodLink RX6 131 yX4_shiftOf ∈ wsU := List.mem_append_left _ (List.mem_append_right _ (List.mem_append_left _ (List.mem_append_left _ (List.mem_append_right _ (List.mem_of_getElem? (i := 15) rfl)))))
theorem mU_400 : Cond.instanceMethod yX4_shiftOf ∈ wsU := List.mem_append_left _ (List.mem_append_right _ (List.mem_append_left _ (List.mem_append_left _ (List.mem_append_right _ (List.mem_of_getElem? (i := 16) rfl)))))
theorem mU_401 : Cond.selects RX4 yX4_shiftOf yX4_shiftOf ∈ wsU := List.mem_append_left _ (List.mem_append_right _ (List.mem_append_left _ (List.mem_append_left _ (List.mem_append_right _ (List.mem_of_getElem? (i := 17) rfl)))))
theorem mU_402 : Cond.code yX4_shiftOf cX4_shiftOf 2 (some .int) ∈ wsU := List.mem_append_left _ (List.mem_append_right _ (List.mem_append_left _ (List.mem_append_left _ (List.mem_append_right _ (List.mem_of_getElem? (i := 18) rfl)))))
theorem mU_403 : Cond.methodLink RX6 134 yX4_fits ∈ wsU := List.mem_append_left _ (List.mem_append_right _ (List.mem_append_left _ (List.mem_append_left _ (List.mem_append_right _ (List.mem_of_getElem? (i := 19) rfl)))))
theorem mU_404 : Cond.instanceMethod yX4_fits ∈ wsU := List.mem_append_left _ (List.mem_append_right _ (List.mem_append_left _ (List.mem_append_left _ (List.mem_append_right _ (List.mem_of_getElem? (i := 20) rfl)))))
theorem mU_405 : Cond.selects RX4 yX4_fits yX4_fits ∈ wsU := List.mem_append_left _ (List.mem_append_right _ (List.mem_append_left _ (List.mem_append_left _ (List.mem_append_right _ (List.mem_of_getElem? (i := 21) rfl)))))
theorem mU_406 : Cond.code yX4_fits cX4_fits 2 (some .boolean) ∈ wsU := List.mem_append_left _ (List.mem_append_right _ (List.mem_append_left _ (List.mem_append_left _ (List.mem_append_right _ (List.mem_of_getElem? (i := 22) rfl)))))
theorem mU_407 : Cond.methodLink RX4 88 yX4_hasRight ∈ wsU := List.mem_append_left _ (List.mem_append_right _ (List.mem_append_left _ (List.mem_append_left _ (List.mem_append_right _ (List.mem_of_getElem? (i := 23) rfl)))))
theorem mU_408 : Cond.instanceMethod yX4_hasRight ∈ wsU := List.mem_append_left _ (List.mem_append_right _ (List.mem_append_left _ (List.mem_append_left _ (List.mem_append_right _ (List.mem_of_getElem? (i := 24) rfl)))))
theorem mU_409 : Cond.selects RX4 yX4_hasRight yX4_hasRight ∈ wsU := List.mem_append_left _ (List.mem_append_right _ (List.mem_append_left _ (List.mem_append_left _ (List.mem_append_right _ (List.mem_of_getElem? (i := 25) rfl)))))
theorem mU_410 : Cond.code yX4_hasRight cX4_hasRight 2 (some .boolean) ∈ wsU := List.mem_append_left _ (List.mem_append_right _ (List.mem_append_left _ (List.mem_append_left _ (List.mem_append_right _ (List.mem_of_getElem? (i := 26) rfl)))))
theorem mU_411 : Cond.methodLink RX4 91 yX4_unknowns ∈ wsU := List.mem_append_left _ (List.mem_append_right _ (List.mem_append_left _ (List.mem_append_left _ (List.mem_append_right _ (List.mem_of_getElem? (i := 27) rfl)))))
theorem mU_412 : Cond.instanceMethod yX4_unknowns ∈ wsU := List.mem_append_left _ (List.mem_append_right _ (List.mem_append_left _ (List.mem_append_left _ (List.mem_append_right _ (List.mem_of_getElem? (i := 28) rfl)))))
theorem mU_413 : Cond.selects RX4 yX4_unknowns yX4_unknowns ∈ wsU := List.mem_append_left _ (List.mem_append_right _ (List.mem_append_left _ (List.mem_append_left _ (List.mem_append_right _ (List.mem_of_getElem? (i := 29) rfl)))))
theorem mU_414 : Cond.code yX4_unknowns cX4_unknowns 2 (some .int) ∈ wsU := List.mem_append_left _ (List.mem_append_right _ (List.mem_append_left _ (List.mem_append_left _ (List.mem_append_right _ (List.mem_of_getElem? (i := 30) rfl)))))
theorem mU_415 : Cond.methodLink RX6 137 yX4_hasRight ∈ wsU := List.mem_append_left _ (List.mem_append_right _ (List.mem_append_left _ (List.mem_append_left _ (List.mem_append_right _ (List.mem_of_getElem? (i := 31) rfl)))))
theorem mU_416 : Cond.methodLink RX6 140 yX4_unknowns ∈ wsU := List.mem_append_left _ (List.mem_append_right _ (List.mem_append_left _ (List.mem_append_right _ (List.mem_append_left _ (List.mem_of_getElem? (i := 0) rfl)))))
theorem mU_417 : Cond.methodLink RX6 143 yX6_solve ∈ wsU := List.mem_append_left _ (List.mem_append_right _ (List.mem_append_left _ (List.mem_append_right _ (List.mem_append_left _ (List.mem_of_getElem? (i := 1) rfl)))))
theorem mU_418 : Cond.instanceMethod yX6_solve ∈ wsU := List.mem_append_left _ (List.mem_append_right _ (List.mem_append_left _ (List.mem_append_right _ (List.mem_append_left _ (List.mem_of_getElem? (i := 2) rfl)))))
theorem mU_419 : Cond.selects RX6 yX6_solve yX6_solve ∈ wsU := List.mem_append_left _ (List.mem_append_right _ (List.mem_append_left _ (List.mem_append_right _ (List.mem_append_left _ (List.mem_of_getElem? (i := 3) rfl)))))
theorem mU_420 : Cond.code yX6_solve cX6_solve 3 none ∈ wsU := List.mem_append_left _ (List.mem_append_right _ (List.mem_append_left _ (List.mem_append_right _ (List.mem_append_left _ (List.mem_of_getElem? (i := 4) rfl)))))
theorem mU_421 : Cond.methodLink RX6 192 yX6_fillGrid ∈ wsU := List.mem_append_left _ (List.mem_append_right _ (List.mem_append_left _ (List.mem_append_right _ (List.mem_append_left _ (List.mem_of_getElem? (i := 5) rfl)))))
theorem mU_422 : Cond.instanceMethod yX6_fillGrid ∈ wsU := List.mem_append_left _ (List.mem_append_right _ (List.mem_append_left _ (List.mem_append_right _ (List.mem_append_left _ (List.mem_of_getElem? (i := 6) rfl)))))
theorem mU_423 : Cond.selects RX6 yX6_fillGrid yX6_fillGrid ∈ wsU := List.mem_append_left _ (List.mem_append_right _ (List.mem_append_left _ (List.mem_append_right _ (List.mem_append_left _ (List.mem_of_getElem? (i := 7) rfl)))))
theorem mU_424 : Cond.code yX6_fillGrid cX6_fillGrid 9 none ∈ wsU := List.mem_append_left _ (List.mem_append_right _ (List.mem_append_left _ (List.mem_append_right _ (List.mem_append_left _ (List.mem_of_getElem? (i := 8) rfl)))))
theorem mU_425 : Cond.methodLink RX6 337 yX1_clear ∈ wsU := List.mem_append_left _ (List.mem_append_right _ (List.mem_append_left _ (List.mem_append_right _ (List.mem_append_left _ (List.mem_of_getElem? (i := 9) rfl)))))
theorem mU_426 : Cond.instanceMethod yX1_clear ∈ wsU := List.mem_append_left _ (List.mem_append_right _ (List.mem_append_left _ (List.mem_append_right _ (List.mem_append_left _ (List.mem_of_getElem? (i := 10) rfl)))))
theorem mU_427 : Cond.selects RX1 yX1_clear yX1_clear ∈ wsU := List.mem_append_left _ (List.mem_append_right _ (List.mem_append_left _ (List.mem_append_right _ (List.mem_append_left _ (List.mem_of_getElem? (i := 11) rfl)))))
theorem mU_428 : Cond.code yX1_clear cX1_clear 3 none ∈ wsU := List.mem_append_left _ (List.mem_append_right _ (List.mem_append_left _ (List.mem_append_right _ (List.mem_append_left _ (List.mem_of_getElem? (i := 12) rfl)))))
theorem mU_429 : Cond.methodLink RX1 23 Lib.Math.min.name ∈ wsU := List.mem_append_left _ (List.mem_append_right _ (List.mem_append_left _ (List.mem_append_right _ (List.mem_append_left _ (List.mem_of_getElem? (i := 13) rfl)))))
theorem mU_430 : Cond.static Lib.Math.min.name ∈ wsU := List.mem_append_left _ (List.mem_append_right _ (List.mem_append_left _ (List.mem_append_right _ (List.mem_append_left _ (List.mem_of_getElem? (i := 14) rfl)))))
theorem mU_431 : Cond.initialized "java/lang/Math" ∈ wsU := List.mem_append_left _ (List.mem_append_right _ (List.mem_append_left _ (List.mem_append_right _ (List.mem_append_left _ (List.mem_of_getElem? (i := 15) rfl)))))
theorem mU_432 : Cond.code Lib.Math.min.name Lib.Math.min.code 2 (some .int) ∈ wsU := List.mem_append_left _ (List.mem_append_right _ (List.mem_append_left _ (List.mem_append_right _ (List.mem_append_left _ (List.mem_of_getElem? (i := 16) rfl)))))
theorem mU_433 : Cond.methodLink RX1 29 Lib.Math.max.name ∈ wsU := List.mem_append_left _ (List.mem_append_right _ (List.mem_append_left _ (List.mem_append_right _ (List.mem_append_left _ (List.mem_of_getElem? (i := 17) rfl)))))
theorem mU_434 : Cond.static Lib.Math.max.name ∈ wsU := List.mem_append_left _ (List.mem_append_right _ (List.mem_append_left _ (List.mem_append_right _ (List.mem_append_left _ (List.mem_of_getElem? (i := 18) rfl)))))
theorem mU_435 : Cond.code Lib.Math.max.name Lib.Math.max.code 2 (some .int) ∈ wsU := List.mem_append_left _ (List.mem_append_right _ (List.mem_append_left _ (List.mem_append_right _ (List.mem_append_left _ (List.mem_of_getElem? (i := 19) rfl)))))
theorem mU_436 : Cond.fieldLink RX1 32 "TwoSidedTables$Grid" "rows" "I" ∈ wsU := List.mem_append_left _ (List.mem_append_right _ (List.mem_append_left _ (List.mem_append_right _ (List.mem_append_left _ (List.mem_of_getElem? (i := 20) rfl)))))
theorem mU_437 : Cond.fieldLink RX1 36 "TwoSidedTables$Grid" "columns" "I" ∈ wsU := List.mem_append_left _ (List.mem_append_right _ (List.mem_append_left _ (List.mem_append_right _ (List.mem_append_left _ (List.mem_of_getElem? (i := 21) rfl)))))
theorem mU_438 : Cond.methodLink RX1 39 yJ7_fill_d0a16 ∈ wsU := List.mem_append_left _ (List.mem_append_right _ (List.mem_append_left _ (List.mem_append_right _ (List.mem_append_left _ (List.mem_of_getElem? (i := 22) rfl)))))
theorem mU_439 : Cond.static yJ7_fill_d0a16 ∈ wsU := List.mem_append_left _ (List.mem_append_right _ (List.mem_append_left _ (List.mem_append_right _ (List.mem_append_left _ (List.mem_of_getElem? (i := 23) rfl)))))
theorem mU_440 : Cond.code yJ7_fill_d0a16 cJ7_fill_d0a16 5 none ∈ wsU := List.mem_append_left _ (List.mem_append_right _ (List.mem_append_left _ (List.mem_append_right _ (List.mem_append_left _ (List.mem_of_getElem? (i := 24) rfl)))))
theorem mU_441 : Cond.methodLink RX6 340 yX1_add ∈ wsU := List.mem_append_left _ (List.mem_append_right _ (List.mem_append_left _ (List.mem_append_right _ (List.mem_append_left _ (List.mem_of_getElem? (i := 25) rfl)))))
theorem mU_442 : Cond.instanceMethod yX1_add ∈ wsU := List.mem_append_left _ (List.mem_append_right _ (List.mem_append_left _ (List.mem_append_right _ (List.mem_append_left _ (List.mem_of_getElem? (i := 26) rfl)))))
theorem mU_443 : Cond.selects RX1 yX1_add yX1_add ∈ wsU := List.mem_append_left _ (List.mem_append_right _ (List.mem_append_left _ (List.mem_append_right _ (List.mem_append_left _ (List.mem_of_getElem? (i := 27) rfl)))))
theorem mU_444 : Cond.code yX1_add cX1_add 5 none ∈ wsU := List.mem_append_left _ (List.mem_append_right _ (List.mem_append_left _ (List.mem_append_right _ (List.mem_append_left _ (List.mem_of_getElem? (i := 28) rfl)))))
theorem mU_445 : Cond.methodLink RX1 49 yX1_cell ∈ wsU := List.mem_append_left _ (List.mem_append_right _ (List.mem_append_left _ (List.mem_append_right _ (List.mem_append_left _ (List.mem_of_getElem? (i := 29) rfl)))))
theorem mU_446 : Cond.instanceMethod yX1_cell ∈ wsU := List.mem_append_left _ (List.mem_append_right _ (List.mem_append_left _ (List.mem_append_right _ (List.mem_append_left _ (List.mem_of_getElem? (i := 30) rfl)))))
theorem mU_447 : Cond.selects RX1 yX1_cell yX1_cell ∈ wsU := List.mem_append_left _ (List.mem_append_right _ (List.mem_append_left _ (List.mem_append_right _ (List.mem_append_left _ (List.mem_of_getElem? (i := 31) rfl)))))
theorem mU_448 : Cond.code yX1_cell cX1_cell 3 (some .long) ∈ wsU := List.mem_append_left _ (List.mem_append_right _ (List.mem_append_left _ (List.mem_append_right _ (List.mem_append_right _ (List.mem_append_left _ (List.mem_of_getElem? (i := 0) rfl))))))
theorem mU_449 : Cond.methodLink RX1 45 yX1_hasCell ∈ wsU := List.mem_append_left _ (List.mem_append_right _ (List.mem_append_left _ (List.mem_append_right _ (List.mem_append_right _ (List.mem_append_left _ (List.mem_of_getElem? (i := 1) rfl))))))
theorem mU_450 : Cond.instanceMethod yX1_hasCell ∈ wsU := List.mem_append_left _ (List.mem_append_right _ (List.mem_append_left _ (List.mem_append_right _ (List.mem_append_right _ (List.mem_append_left _ (List.mem_of_getElem? (i := 2) rfl))))))
theorem mU_451 : Cond.selects RX1 yX1_hasCell yX1_hasCell ∈ wsU := List.mem_append_left _ (List.mem_append_right _ (List.mem_append_left _ (List.mem_append_right _ (List.mem_append_right _ (List.mem_append_left _ (List.mem_of_getElem? (i := 3) rfl))))))
theorem mU_452 : Cond.code yX1_hasCell cX1_hasCell 3 (some .boolean) ∈ wsU := List.mem_append_left _ (List.mem_append_right _ (List.mem_append_left _ (List.mem_append_right _ (List.mem_append_right _ (List.mem_append_left _ (List.mem_of_getElem? (i := 4) rfl))))))
theorem mU_453 : Cond.methodLink RX1 53 yX1_write ∈ wsU := List.mem_append_left _ (List.mem_append_right _ (List.mem_append_left _ (List.mem_append_right _ (List.mem_append_right _ (List.mem_append_left _ (List.mem_of_getElem? (i := 5) rfl))))))
theorem mU_454 : Cond.instanceMethod yX1_write ∈ wsU := List.mem_append_left _ (List.mem_append_right _ (List.mem_append_left _ (List.mem_append_right _ (List.mem_append_right _ (List.mem_append_left _ (List.mem_of_getElem? (i := 6) rfl))))))
theorem mU_455 : Cond.selects RX1 yX1_write yX1_write ∈ wsU := List.mem_append_left _ (List.mem_append_right _ (List.mem_append_left _ (List.mem_append_right _ (List.mem_append_right _ (List.mem_append_left _ (List.mem_of_getElem? (i := 7) rfl))))))
theorem mU_456 : Cond.code yX1_write cX1_write 5 none ∈ wsU := List.mem_append_left _ (List.mem_append_right _ (List.mem_append_left _ (List.mem_append_right _ (List.mem_append_right _ (List.mem_append_left _ (List.mem_of_getElem? (i := 8) rfl))))))
theorem mU_457 : Cond.methodLink RX6 344 yX6_fillRow ∈ wsU := List.mem_append_left _ (List.mem_append_right _ (List.mem_append_left _ (List.mem_append_right _ (List.mem_append_right _ (List.mem_append_left _ (List.mem_of_getElem? (i := 9) rfl))))))
theorem mU_458 : Cond.instanceMethod yX6_fillRow ∈ wsU := List.mem_append_left _ (List.mem_append_right _ (List.mem_append_left _ (List.mem_append_right _ (List.mem_append_right _ (List.mem_append_left _ (List.mem_of_getElem? (i := 10) rfl))))))
theorem mU_459 : Cond.selects RX6 yX6_fillRow yX6_fillRow ∈ wsU := List.mem_append_left _ (List.mem_append_right _ (List.mem_append_left _ (List.mem_append_right _ (List.mem_append_right _ (List.mem_append_left _ (List.mem_of_getElem? (i := 11) rfl))))))
theorem mU_460 : Cond.code yX6_fillRow cX6_fillRow 13 none ∈ wsU := List.mem_append_left _ (List.mem_append_right _ (List.mem_append_left _ (List.mem_append_right _ (List.mem_append_right _ (List.mem_append_left _ (List.mem_of_getElem? (i := 12) rfl))))))
theorem mU_461 : Cond.methodLink RX6 183 yX4_signAt ∈ wsU := List.mem_append_left _ (List.mem_append_right _ (List.mem_append_left _ (List.mem_append_right _ (List.mem_append_right _ (List.mem_append_left _ (List.mem_of_getElem? (i := 13) rfl))))))
theorem mU_462 : Cond.instanceMethod yX4_signAt ∈ wsU := List.mem_append_left _ (List.mem_append_right _ (List.mem_append_left _ (List.mem_append_right _ (List.mem_append_right _ (List.mem_append_left _ (List.mem_of_getElem? (i := 14) rfl))))))
theorem mU_463 : Cond.selects RX4 yX4_signAt yX4_signAt ∈ wsU := List.mem_append_left _ (List.mem_append_right _ (List.mem_append_left _ (List.mem_append_right _ (List.mem_append_right _ (List.mem_append_left _ (List.mem_of_getElem? (i := 15) rfl))))))
theorem mU_464 : Cond.code yX4_signAt cX4_signAt 4 (some .int) ∈ wsU := List.mem_append_left _ (List.mem_append_right _ (List.mem_append_left _ (List.mem_append_right _ (List.mem_append_right _ (List.mem_append_left _ (List.mem_of_getElem? (i := 16) rfl))))))
theorem mU_465 : Cond.methodLink RX6 186 yX4_unknownAt ∈ wsU := List.mem_append_left _ (List.mem_append_right _ (List.mem_append_left _ (List.mem_append_right _ (List.mem_append_right _ (List.mem_append_left _ (List.mem_of_getElem? (i := 17) rfl))))))
theorem mU_466 : Cond.instanceMethod yX4_unknownAt ∈ wsU := List.mem_append_left _ (List.mem_append_right _ (List.mem_append_left _ (List.mem_append_right _ (List.mem_append_right _ (List.mem_append_left _ (List.mem_of_getElem? (i := 18) rfl))))))
theorem mU_467 : Cond.selects RX4 yX4_unknownAt yX4_unknownAt ∈ wsU := List.mem_append_left _ (List.mem_append_right _ (List.mem_append_left _ (List.mem_append_right _ (List.mem_append_right _ (List.mem_append_left _ (List.mem_of_getElem? (i := 19) rfl))))))
theorem mU_468 : Cond.code yX4_unknownAt cX4_unknownAt 6 (some .int) ∈ wsU := List.mem_append_left _ (List.mem_append_right _ (List.mem_append_left _ (List.mem_append_right _ (List.mem_append_right _ (List.mem_append_left _ (List.mem_of_getElem? (i := 20) rfl))))))
theorem mU_469 : Cond.methodLink RX4 103 Lib.Math.min.name ∈ wsU := List.mem_append_left _ (List.mem_append_right _ (List.mem_append_left _ (List.mem_append_right _ (List.mem_append_right _ (List.mem_append_left _ (List.mem_of_getElem? (i := 21) rfl))))))
theorem mU_470 : Cond.methodLink RX4 109 Lib.Math.max.name ∈ wsU := List.mem_append_left _ (List.mem_append_right _ (List.mem_append_left _ (List.mem_append_right _ (List.mem_append_right _ (List.mem_append_left _ (List.mem_of_getElem? (i := 22) rfl))))))
theorem mU_471 : Cond.methodLink RX6 348 yX4_leftEntry ∈ wsU := List.mem_append_left _ (List.mem_append_right _ (List.mem_append_left _ (List.mem_append_right _ (List.mem_append_right _ (List.mem_append_left _ (List.mem_of_getElem? (i := 23) rfl))))))
theorem mU_472 : Cond.instanceMethod yX4_leftEntry ∈ wsU := List.mem_append_left _ (List.mem_append_right _ (List.mem_append_left _ (List.mem_append_right _ (List.mem_append_right _ (List.mem_append_left _ (List.mem_of_getElem? (i := 24) rfl))))))
theorem mU_473 : Cond.selects RX4 yX4_leftEntry yX4_leftEntry ∈ wsU := List.mem_append_left _ (List.mem_append_right _ (List.mem_append_left _ (List.mem_append_right _ (List.mem_append_right _ (List.mem_append_left _ (List.mem_of_getElem? (i := 25) rfl))))))
theorem mU_474 : Cond.code yX4_leftEntry cX4_leftEntry 4 (some .int) ∈ wsU := List.mem_append_left _ (List.mem_append_right _ (List.mem_append_left _ (List.mem_append_right _ (List.mem_append_right _ (List.mem_append_left _ (List.mem_of_getElem? (i := 26) rfl))))))
theorem mU_475 : Cond.methodLink RX6 162 yX4_rightEntry ∈ wsU := List.mem_append_left _ (List.mem_append_right _ (List.mem_append_left _ (List.mem_append_right _ (List.mem_append_right _ (List.mem_append_left _ (List.mem_of_getElem? (i := 27) rfl))))))
theorem mU_476 : Cond.instanceMethod yX4_rightEntry ∈ wsU := List.mem_append_left _ (List.mem_append_right _ (List.mem_append_left _ (List.mem_append_right _ (List.mem_append_right _ (List.mem_append_left _ (List.mem_of_getElem? (i := 28) rfl))))))
theorem mU_477 : Cond.selects RX4 yX4_rightEntry yX4_rightEntry ∈ wsU := List.mem_append_left _ (List.mem_append_right _ (List.mem_append_left _ (List.mem_append_right _ (List.mem_append_right _ (List.mem_append_left _ (List.mem_of_getElem? (i := 29) rfl))))))
theorem mU_478 : Cond.code yX4_rightEntry cX4_rightEntry 4 (some .int) ∈ wsU := List.mem_append_left _ (List.mem_append_right _ (List.mem_append_left _ (List.mem_append_right _ (List.mem_append_right _ (List.mem_append_left _ (List.mem_of_getElem? (i := 30) rfl))))))
theorem mU_479 : Cond.methodLink RX6 199 yX1_eliminate ∈ wsU := List.mem_append_left _ (List.mem_append_right _ (List.mem_append_left _ (List.mem_append_right _ (List.mem_append_right _ (List.mem_append_left _ (List.mem_of_getElem? (i := 31) rfl))))))
theorem mU_480 : Cond.instanceMethod yX1_eliminate ∈ wsU := List.mem_append_left _ (List.mem_append_right _ (List.mem_append_left _ (List.mem_append_right _ (List.mem_append_right _ (List.mem_append_right _ (List.mem_of_getElem? (i := 0) rfl))))))
theorem mU_481 : Cond.selects RX1 yX1_eliminate yX1_eliminate ∈ wsU := List.mem_append_left _ (List.mem_append_right _ (List.mem_append_left _ (List.mem_append_right _ (List.mem_append_right _ (List.mem_append_right _ (List.mem_of_getElem? (i := 1) rfl))))))
theorem mU_482 : Cond.code yX1_eliminate cX1_eliminate 3 none ∈ wsU := List.mem_append_left _ (List.mem_append_right _ (List.mem_append_left _ (List.mem_append_right _ (List.mem_append_right _ (List.mem_append_right _ (List.mem_of_getElem? (i := 2) rfl))))))
theorem mU_483 : Cond.fieldLink RX1 61 "TwoSidedTables$Grid" "rank" "I" ∈ wsU := List.mem_append_left _ (List.mem_append_right _ (List.mem_append_left _ (List.mem_append_right _ (List.mem_append_right _ (List.mem_append_right _ (List.mem_of_getElem? (i := 3) rfl))))))
theorem mU_484 : Cond.fieldLink RX1 64 "TwoSidedTables$Grid" "isTurnedOver" "Z" ∈ wsU := List.mem_append_left _ (List.mem_append_right _ (List.mem_append_left _ (List.mem_append_right _ (List.mem_append_right _ (List.mem_append_right _ (List.mem_of_getElem? (i := 4) rfl))))))
theorem mU_485 : Cond.methodLink RX1 68 yX1_firstFilled ∈ wsU := List.mem_append_left _ (List.mem_append_right _ (List.mem_append_left _ (List.mem_append_right _ (List.mem_append_right _ (List.mem_append_right _ (List.mem_of_getElem? (i := 5) rfl))))))
theorem mU_486 : Cond.instanceMethod yX1_firstFilled ∈ wsU := List.mem_append_left _ (List.mem_append_right _ (List.mem_append_left _ (List.mem_append_right _ (List.mem_append_right _ (List.mem_append_right _ (List.mem_of_getElem? (i := 6) rfl))))))
theorem mU_487 : Cond.selects RX1 yX1_firstFilled yX1_firstFilled ∈ wsU := List.mem_append_left _ (List.mem_append_right _ (List.mem_append_left _ (List.mem_append_right _ (List.mem_append_right _ (List.mem_append_right _ (List.mem_of_getElem? (i := 7) rfl))))))
theorem mU_488 : Cond.code yX1_firstFilled cX1_firstFilled 3 (some .int) ∈ wsU := List.mem_append_left _ (List.mem_append_right _ (List.mem_append_left _ (List.mem_append_right _ (List.mem_append_right _ (List.mem_append_right _ (List.mem_of_getElem? (i := 8) rfl))))))
theorem mU_489 : Cond.methodLink RX1 72 yX1_swapRows ∈ wsU := List.mem_append_left _ (List.mem_append_right _ (List.mem_append_left _ (List.mem_append_right _ (List.mem_append_right _ (List.mem_append_right _ (List.mem_of_getElem? (i := 9) rfl))))))
theorem mU_490 : Cond.instanceMethod yX1_swapRows ∈ wsU := List.mem_append_left _ (List.mem_append_right _ (List.mem_append_left _ (List.mem_append_right _ (List.mem_append_right _ (List.mem_append_right _ (List.mem_of_getElem? (i := 10) rfl))))))
theorem mU_491 : Cond.selects RX1 yX1_swapRows yX1_swapRows ∈ wsU := List.mem_append_left _ (List.mem_append_right _ (List.mem_append_left _ (List.mem_append_right _ (List.mem_append_right _ (List.mem_append_right _ (List.mem_of_getElem? (i := 11) rfl))))))
theorem mU_492 : Cond.code yX1_swapRows cX1_swapRows 6 none ∈ wsU := List.mem_append_left _ (List.mem_append_right _ (List.mem_append_left _ (List.mem_append_right _ (List.mem_append_right _ (List.mem_append_right _ (List.mem_of_getElem? (i := 12) rfl))))))
theorem mU_493 : Cond.methodLink RX1 75 yX1_sweep ∈ wsU := List.mem_append_left _ (List.mem_append_right _ (List.mem_append_left _ (List.mem_append_right _ (List.mem_append_right _ (List.mem_append_right _ (List.mem_of_getElem? (i := 13) rfl))))))
theorem mU_494 : Cond.instanceMethod yX1_sweep ∈ wsU := List.mem_append_left _ (List.mem_append_right _ (List.mem_append_left _ (List.mem_append_right _ (List.mem_append_right _ (List.mem_append_right _ (List.mem_of_getElem? (i := 14) rfl))))))
theorem mU_495 : Cond.selects RX1 yX1_sweep yX1_sweep ∈ wsU := List.mem_append_left _ (List.mem_append_right _ (List.mem_append_left _ (List.mem_append_right _ (List.mem_append_right _ (List.mem_append_right _ (List.mem_of_getElem? (i := 15) rfl))))))
theorem mU_496 : Cond.code yX1_sweep cX1_sweep 11 none ∈ wsU := List.mem_append_left _ (List.mem_append_right _ (List.mem_append_left _ (List.mem_append_right _ (List.mem_append_right _ (List.mem_append_right _ (List.mem_of_getElem? (i := 16) rfl))))))
theorem mU_497 : Cond.methodLink RX6 150 yX1_freeSet ∈ wsU := List.mem_append_left _ (List.mem_append_right _ (List.mem_append_left _ (List.mem_append_right _ (List.mem_append_right _ (List.mem_append_right _ (List.mem_of_getElem? (i := 17) rfl))))))
theorem mU_498 : Cond.instanceMethod yX1_freeSet ∈ wsU := List.mem_append_left _ (List.mem_append_right _ (List.mem_append_left _ (List.mem_append_right _ (List.mem_append_right _ (List.mem_append_right _ (List.mem_of_getElem? (i := 18) rfl))))))
theorem mU_499 : Cond.selects RX1 yX1_freeSet yX1_freeSet ∈ wsU := List.mem_append_left _ (List.mem_append_right _ (List.mem_append_left _ (List.mem_append_right _ (List.mem_append_right _ (List.mem_append_right _ (List.mem_of_getElem? (i := 19) rfl))))))
theorem mU_500 : Cond.code yX1_freeSet cX1_freeSet 3 (some .int) ∈ wsU := List.mem_append_left _ (List.mem_append_right _ (List.mem_append_left _ (List.mem_append_right _ (List.mem_append_right _ (List.mem_append_right _ (List.mem_of_getElem? (i := 20) rfl))))))
theorem mU_501 : Cond.methodLink RX1 78 yX1_isFree ∈ wsU := List.mem_append_left _ (List.mem_append_right _ (List.mem_append_left _ (List.mem_append_right _ (List.mem_append_right _ (List.mem_append_right _ (List.mem_of_getElem? (i := 21) rfl))))))
theorem mU_502 : Cond.instanceMethod yX1_isFree ∈ wsU := List.mem_append_left _ (List.mem_append_right _ (List.mem_append_left _ (List.mem_append_right _ (List.mem_append_right _ (List.mem_append_right _ (List.mem_of_getElem? (i := 22) rfl))))))
theorem mU_503 : Cond.selects RX1 yX1_isFree yX1_isFree ∈ wsU := List.mem_append_left _ (List.mem_append_right _ (List.mem_append_left _ (List.mem_append_right _ (List.mem_append_right _ (List.mem_append_right _ (List.mem_of_getElem? (i := 23) rfl))))))
theorem mU_504 : Cond.code yX1_isFree cX1_isFree 2 (some .boolean) ∈ wsU := List.mem_append_left _ (List.mem_append_right _ (List.mem_append_left _ (List.mem_append_right _ (List.mem_append_right _ (List.mem_append_right _ (List.mem_of_getElem? (i := 24) rfl))))))
theorem mU_505 : Cond.methodLink RX6 154 yX1_isSolvable ∈ wsU := List.mem_append_left _ (List.mem_append_right _ (List.mem_append_left _ (List.mem_append_right _ (List.mem_append_right _ (List.mem_append_right _ (List.mem_of_getElem? (i := 25) rfl))))))
theorem mU_506 : Cond.instanceMethod yX1_isSolvable ∈ wsU := List.mem_append_left _ (List.mem_append_right _ (List.mem_append_left _ (List.mem_append_right _ (List.mem_append_right _ (List.mem_append_right _ (List.mem_of_getElem? (i := 26) rfl))))))
theorem mU_507 : Cond.selects RX1 yX1_isSolvable yX1_isSolvable ∈ wsU := List.mem_append_left _ (List.mem_append_right _ (List.mem_append_left _ (List.mem_append_right _ (List.mem_append_right _ (List.mem_append_right _ (List.mem_of_getElem? (i := 27) rfl))))))
theorem mU_508 : Cond.code yX1_isSolvable cX1_isSolvable 2 (some .boolean) ∈ wsU := List.mem_append_left _ (List.mem_append_right _ (List.mem_append_left _ (List.mem_append_right _ (List.mem_append_right _ (List.mem_append_right _ (List.mem_of_getElem? (i := 28) rfl))))))
theorem mU_509 : Cond.methodLink RX6 158 yX6_oneIf ∈ wsU := List.mem_append_left _ (List.mem_append_right _ (List.mem_append_left _ (List.mem_append_right _ (List.mem_append_right _ (List.mem_append_right _ (List.mem_of_getElem? (i := 29) rfl))))))
theorem mU_510 : Cond.static yX6_oneIf ∈ wsU := List.mem_append_left _ (List.mem_append_right _ (List.mem_append_left _ (List.mem_append_right _ (List.mem_append_right _ (List.mem_append_right _ (List.mem_of_getElem? (i := 30) rfl))))))
theorem mU_511 : Cond.code yX6_oneIf cX6_oneIf 1 (some .int) ∈ wsU := List.mem_append_left _ (List.mem_append_right _ (List.mem_append_left _ (List.mem_append_right _ (List.mem_append_right _ (List.mem_append_right _ (List.mem_of_getElem? (i := 31) rfl))))))
theorem mU_512 : Cond.methodLink RL 61 yX7_of ∈ wsU := List.mem_append_left _ (List.mem_append_right _ (List.mem_append_right _ (List.mem_append_left _ (List.mem_append_left _ (List.mem_of_getElem? (i := 0) rfl)))))
theorem mU_513 : Cond.instanceMethod yX7_of ∈ wsU := List.mem_append_left _ (List.mem_append_right _ (List.mem_append_right _ (List.mem_append_left _ (List.mem_append_left _ (List.mem_of_getElem? (i := 1) rfl)))))
theorem mU_514 : Cond.selects RX7 yX7_of yX7_of ∈ wsU := List.mem_append_left _ (List.mem_append_right _ (List.mem_append_right _ (List.mem_append_left _ (List.mem_append_left _ (List.mem_of_getElem? (i := 2) rfl)))))
theorem mU_515 : Cond.code yX7_of cX7_of 4 (some .int) ∈ wsU := List.mem_append_left _ (List.mem_append_right _ (List.mem_append_right _ (List.mem_append_left _ (List.mem_append_left _ (List.mem_of_getElem? (i := 3) rfl)))))
theorem mU_516 : Cond.fieldLink RX7 239 "TwoSidedTablesModel" "rank" "I" ∈ wsU := List.mem_append_left _ (List.mem_append_right _ (List.mem_append_right _ (List.mem_append_left _ (List.mem_append_left _ (List.mem_of_getElem? (i := 4) rfl)))))
theorem mU_517 : Cond.methodLink RX7 203 yX7_isEquation ∈ wsU := List.mem_append_left _ (List.mem_append_right _ (List.mem_append_right _ (List.mem_append_left _ (List.mem_append_left _ (List.mem_of_getElem? (i := 5) rfl)))))
theorem mU_518 : Cond.instanceMethod yX7_isEquation ∈ wsU := List.mem_append_left _ (List.mem_append_right _ (List.mem_append_right _ (List.mem_append_left _ (List.mem_append_left _ (List.mem_of_getElem? (i := 6) rfl)))))
theorem mU_519 : Cond.selects RX7 yX7_isEquation yX7_isEquation ∈ wsU := List.mem_append_left _ (List.mem_append_right _ (List.mem_append_right _ (List.mem_append_left _ (List.mem_append_left _ (List.mem_of_getElem? (i := 7) rfl)))))
theorem mU_520 : Cond.code yX7_isEquation cX7_isEquation 2 (some .boolean) ∈ wsU := List.mem_append_left _ (List.mem_append_right _ (List.mem_append_right _ (List.mem_append_left _ (List.mem_append_left _ (List.mem_of_getElem? (i := 8) rfl)))))
theorem mU_521 : Cond.methodLink RX7 259 yX7_isFit ∈ wsU := List.mem_append_left _ (List.mem_append_right _ (List.mem_append_right _ (List.mem_append_left _ (List.mem_append_left _ (List.mem_of_getElem? (i := 9) rfl)))))
theorem mU_522 : Cond.instanceMethod yX7_isFit ∈ wsU := List.mem_append_left _ (List.mem_append_right _ (List.mem_append_right _ (List.mem_append_left _ (List.mem_append_left _ (List.mem_of_getElem? (i := 10) rfl)))))
theorem mU_523 : Cond.selects RX7 yX7_isFit yX7_isFit ∈ wsU := List.mem_append_left _ (List.mem_append_right _ (List.mem_append_right _ (List.mem_append_left _ (List.mem_append_left _ (List.mem_of_getElem? (i := 11) rfl)))))
theorem mU_524 : Cond.code yX7_isFit cX7_isFit 2 (some .boolean) ∈ wsU := List.mem_append_left _ (List.mem_append_right _ (List.mem_append_right _ (List.mem_append_left _ (List.mem_append_left _ (List.mem_of_getElem? (i := 12) rfl)))))
theorem mU_525 : Cond.methodLink RX7 209 yX7_isLike ∈ wsU := List.mem_append_left _ (List.mem_append_right _ (List.mem_append_right _ (List.mem_append_left _ (List.mem_append_left _ (List.mem_of_getElem? (i := 13) rfl)))))
theorem mU_526 : Cond.instanceMethod yX7_isLike ∈ wsU := List.mem_append_left _ (List.mem_append_right _ (List.mem_append_right _ (List.mem_append_left _ (List.mem_append_left _ (List.mem_of_getElem? (i := 14) rfl)))))
theorem mU_527 : Cond.selects RX7 yX7_isLike yX7_isLike ∈ wsU := List.mem_append_left _ (List.mem_append_right _ (List.mem_append_right _ (List.mem_append_left _ (List.mem_append_left _ (List.mem_of_getElem? (i := 15) rfl)))))
theorem mU_528 : Cond.code yX7_isLike cX7_isLike 2 (some .boolean) ∈ wsU := List.mem_append_left _ (List.mem_append_right _ (List.mem_append_right _ (List.mem_append_left _ (List.mem_append_left _ (List.mem_of_getElem? (i := 16) rfl)))))
theorem mU_529 : Cond.methodLink RX7 212 yX7_unknownsOf ∈ wsU := List.mem_append_left _ (List.mem_append_right _ (List.mem_append_right _ (List.mem_append_left _ (List.mem_append_left _ (List.mem_of_getElem? (i := 17) rfl)))))
theorem mU_530 : Cond.instanceMethod yX7_unknownsOf ∈ wsU := List.mem_append_left _ (List.mem_append_right _ (List.mem_append_right _ (List.mem_append_left _ (List.mem_append_left _ (List.mem_of_getElem? (i := 18) rfl)))))
theorem mU_531 : Cond.selects RX7 yX7_unknownsOf yX7_unknownsOf ∈ wsU := List.mem_append_left _ (List.mem_append_right _ (List.mem_append_right _ (List.mem_append_left _ (List.mem_append_left _ (List.mem_of_getElem? (i := 19) rfl)))))
theorem mU_532 : Cond.code yX7_unknownsOf cX7_unknownsOf 4 (some .int) ∈ wsU := List.mem_append_left _ (List.mem_append_right _ (List.mem_append_right _ (List.mem_append_left _ (List.mem_append_left _ (List.mem_of_getElem? (i := 20) rfl)))))
theorem mU_533 : Cond.methodLink RX7 206 yX7_isUnknown ∈ wsU := List.mem_append_left _ (List.mem_append_right _ (List.mem_append_right _ (List.mem_append_left _ (List.mem_append_left _ (List.mem_of_getElem? (i := 21) rfl)))))
theorem mU_534 : Cond.static yX7_isUnknown ∈ wsU := List.mem_append_left _ (List.mem_append_right _ (List.mem_append_right _ (List.mem_append_left _ (List.mem_append_left _ (List.mem_of_getElem? (i := 22) rfl)))))
theorem mU_535 : Cond.code yX7_isUnknown cX7_isUnknown 3 (some .boolean) ∈ wsU := List.mem_append_left _ (List.mem_append_right _ (List.mem_append_right _ (List.mem_append_left _ (List.mem_append_left _ (List.mem_of_getElem? (i := 23) rfl)))))
theorem mU_536 : Cond.methodLink RX7 262 yX7_setsUp ∈ wsU := List.mem_append_left _ (List.mem_append_right _ (List.mem_append_right _ (List.mem_append_left _ (List.mem_append_left _ (List.mem_of_getElem? (i := 24) rfl)))))
theorem mU_537 : Cond.instanceMethod yX7_setsUp ∈ wsU := List.mem_append_left _ (List.mem_append_right _ (List.mem_append_right _ (List.mem_append_left _ (List.mem_append_left _ (List.mem_of_getElem? (i := 25) rfl)))))
theorem mU_538 : Cond.selects RX7 yX7_setsUp yX7_setsUp ∈ wsU := List.mem_append_left _ (List.mem_append_right _ (List.mem_append_right _ (List.mem_append_left _ (List.mem_append_left _ (List.mem_of_getElem? (i := 26) rfl)))))
theorem mU_539 : Cond.code yX7_setsUp cX7_setsUp 2 none ∈ wsU := List.mem_append_left _ (List.mem_append_right _ (List.mem_append_right _ (List.mem_append_left _ (List.mem_append_left _ (List.mem_of_getElem? (i := 27) rfl)))))
theorem mU_540 : Cond.methodLink RX7 255 yX7_sets ∈ wsU := List.mem_append_left _ (List.mem_append_right _ (List.mem_append_right _ (List.mem_append_left _ (List.mem_append_left _ (List.mem_of_getElem? (i := 28) rfl)))))
theorem mU_541 : Cond.instanceMethod yX7_sets ∈ wsU := List.mem_append_left _ (List.mem_append_right _ (List.mem_append_right _ (List.mem_append_left _ (List.mem_append_left _ (List.mem_of_getElem? (i := 29) rfl)))))
theorem mU_542 : Cond.selects RX7 yX7_sets yX7_sets ∈ wsU := List.mem_append_left _ (List.mem_append_right _ (List.mem_append_right _ (List.mem_append_left _ (List.mem_append_left _ (List.mem_of_getElem? (i := 30) rfl)))))
theorem mU_543 : Cond.code yX7_sets cX7_sets 9 none ∈ wsU := List.mem_append_left _ (List.mem_append_right _ (List.mem_append_right _ (List.mem_append_left _ (List.mem_append_left _ (List.mem_of_getElem? (i := 31) rfl)))))
theorem mU_544 : Cond.fieldLink RX7 229 "TwoSidedTablesModel" "width" "I" ∈ wsU := List.mem_append_left _ (List.mem_append_right _ (List.mem_append_right _ (List.mem_append_left _ (List.mem_append_right _ (List.mem_append_left _ (List.mem_of_getElem? (i := 0) rfl))))))
theorem mU_545 : Cond.fieldLink RX7 232 "TwoSidedTablesModel" "height" "I" ∈ wsU := List.mem_append_left _ (List.mem_append_right _ (List.mem_append_right _ (List.mem_append_left _ (List.mem_append_right _ (List.mem_append_left _ (List.mem_of_getElem? (i := 1) rfl))))))
theorem mU_546 : Cond.methodLink RX7 249 yX7_takenBy ∈ wsU := List.mem_append_left _ (List.mem_append_right _ (List.mem_append_right _ (List.mem_append_left _ (List.mem_append_right _ (List.mem_append_left _ (List.mem_of_getElem? (i := 2) rfl))))))
theorem mU_547 : Cond.instanceMethod yX7_takenBy ∈ wsU := List.mem_append_left _ (List.mem_append_right _ (List.mem_append_right _ (List.mem_append_left _ (List.mem_append_right _ (List.mem_append_left _ (List.mem_of_getElem? (i := 3) rfl))))))
theorem mU_548 : Cond.selects RX7 yX7_takenBy yX7_takenBy ∈ wsU := List.mem_append_left _ (List.mem_append_right _ (List.mem_append_right _ (List.mem_append_left _ (List.mem_append_right _ (List.mem_append_left _ (List.mem_of_getElem? (i := 4) rfl))))))
theorem mU_549 : Cond.code yX7_takenBy cX7_takenBy 9 (some .int) ∈ wsU := List.mem_append_left _ (List.mem_append_right _ (List.mem_append_right _ (List.mem_append_left _ (List.mem_append_right _ (List.mem_append_left _ (List.mem_of_getElem? (i := 5) rfl))))))
theorem mU_550 : Cond.methodLink RX7 218 yX7_shaped ∈ wsU := List.mem_append_left _ (List.mem_append_right _ (List.mem_append_right _ (List.mem_append_left _ (List.mem_append_right _ (List.mem_append_left _ (List.mem_of_getElem? (i := 6) rfl))))))
theorem mU_551 : Cond.static yX7_shaped ∈ wsU := List.mem_append_left _ (List.mem_append_right _ (List.mem_append_right _ (List.mem_append_left _ (List.mem_append_right _ (List.mem_append_left _ (List.mem_of_getElem? (i := 7) rfl))))))
theorem mU_552 : Cond.code yX7_shaped cX7_shaped 6 (some .int) ∈ wsU := List.mem_append_left _ (List.mem_append_right _ (List.mem_append_right _ (List.mem_append_left _ (List.mem_append_right _ (List.mem_append_left _ (List.mem_of_getElem? (i := 8) rfl))))))
theorem mU_553 : Cond.methodLink RX7 222 yX7_times0 ∈ wsU := List.mem_append_left _ (List.mem_append_right _ (List.mem_append_right _ (List.mem_append_left _ (List.mem_append_right _ (List.mem_append_left _ (List.mem_of_getElem? (i := 9) rfl))))))
theorem mU_554 : Cond.instanceMethod yX7_times0 ∈ wsU := List.mem_append_left _ (List.mem_append_right _ (List.mem_append_right _ (List.mem_append_left _ (List.mem_append_right _ (List.mem_append_left _ (List.mem_of_getElem? (i := 10) rfl))))))
theorem mU_555 : Cond.selects RX7 yX7_times0 yX7_times0 ∈ wsU := List.mem_append_left _ (List.mem_append_right _ (List.mem_append_right _ (List.mem_append_left _ (List.mem_append_right _ (List.mem_append_left _ (List.mem_of_getElem? (i := 11) rfl))))))
theorem mU_556 : Cond.code yX7_times0 cX7_times0 7 (some .int) ∈ wsU := List.mem_append_left _ (List.mem_append_right _ (List.mem_append_right _ (List.mem_append_left _ (List.mem_append_right _ (List.mem_append_left _ (List.mem_of_getElem? (i := 12) rfl))))))
theorem mU_557 : Cond.methodLink RX7 215 yX7_rightOf ∈ wsU := List.mem_append_left _ (List.mem_append_right _ (List.mem_append_right _ (List.mem_append_left _ (List.mem_append_right _ (List.mem_append_left _ (List.mem_of_getElem? (i := 13) rfl))))))
theorem mU_558 : Cond.instanceMethod yX7_rightOf ∈ wsU := List.mem_append_left _ (List.mem_append_right _ (List.mem_append_right _ (List.mem_append_left _ (List.mem_append_right _ (List.mem_append_left _ (List.mem_of_getElem? (i := 14) rfl))))))
theorem mU_559 : Cond.selects RX7 yX7_rightOf yX7_rightOf ∈ wsU := List.mem_append_left _ (List.mem_append_right _ (List.mem_append_right _ (List.mem_append_left _ (List.mem_append_right _ (List.mem_append_left _ (List.mem_of_getElem? (i := 15) rfl))))))
theorem mU_560 : Cond.code yX7_rightOf cX7_rightOf 4 (some .int) ∈ wsU := List.mem_append_left _ (List.mem_append_right _ (List.mem_append_right _ (List.mem_append_left _ (List.mem_append_right _ (List.mem_append_left _ (List.mem_of_getElem? (i := 16) rfl))))))
theorem mU_561 : Cond.methodLink RX7 252 yX7_works ∈ wsU := List.mem_append_left _ (List.mem_append_right _ (List.mem_append_right _ (List.mem_append_left _ (List.mem_append_right _ (List.mem_append_left _ (List.mem_of_getElem? (i := 17) rfl))))))
theorem mU_562 : Cond.instanceMethod yX7_works ∈ wsU := List.mem_append_left _ (List.mem_append_right _ (List.mem_append_right _ (List.mem_append_left _ (List.mem_append_right _ (List.mem_append_left _ (List.mem_of_getElem? (i := 18) rfl))))))
theorem mU_563 : Cond.selects RX7 yX7_works yX7_works ∈ wsU := List.mem_append_left _ (List.mem_append_right _ (List.mem_append_right _ (List.mem_append_left _ (List.mem_append_right _ (List.mem_append_left _ (List.mem_of_getElem? (i := 19) rfl))))))
theorem mU_564 : Cond.code yX7_works cX7_works 3 none ∈ wsU := List.mem_append_left _ (List.mem_append_right _ (List.mem_append_right _ (List.mem_append_left _ (List.mem_append_right _ (List.mem_append_left _ (List.mem_of_getElem? (i := 20) rfl))))))
theorem mU_565 : Cond.fieldLink RX7 226 "TwoSidedTablesModel" "changed" "I" ∈ wsU := List.mem_append_left _ (List.mem_append_right _ (List.mem_append_right _ (List.mem_append_left _ (List.mem_append_right _ (List.mem_append_left _ (List.mem_of_getElem? (i := 21) rfl))))))
theorem mU_566 : Cond.fieldLink RX7 235 "TwoSidedTablesModel" "scale" "J" ∈ wsU := List.mem_append_left _ (List.mem_append_right _ (List.mem_append_right _ (List.mem_append_left _ (List.mem_append_right _ (List.mem_append_left _ (List.mem_of_getElem? (i := 22) rfl))))))
theorem mU_567 : Cond.methodLink RX7 242 yX7_swaps ∈ wsU := List.mem_append_left _ (List.mem_append_right _ (List.mem_append_right _ (List.mem_append_left _ (List.mem_append_right _ (List.mem_append_left _ (List.mem_of_getElem? (i := 23) rfl))))))
theorem mU_568 : Cond.instanceMethod yX7_swaps ∈ wsU := List.mem_append_left _ (List.mem_append_right _ (List.mem_append_right _ (List.mem_append_left _ (List.mem_append_right _ (List.mem_append_left _ (List.mem_of_getElem? (i := 24) rfl))))))
theorem mU_569 : Cond.selects RX7 yX7_swaps yX7_swaps ∈ wsU := List.mem_append_left _ (List.mem_append_right _ (List.mem_append_right _ (List.mem_append_left _ (List.mem_append_right _ (List.mem_append_left _ (List.mem_of_getElem? (i := 25) rfl))))))
theorem mU_570 : Cond.code yX7_swaps cX7_swaps 6 none ∈ wsU := List.mem_append_left _ (List.mem_append_right _ (List.mem_append_right _ (List.mem_append_left _ (List.mem_append_right _ (List.mem_append_left _ (List.mem_of_getElem? (i := 26) rfl))))))
theorem mU_571 : Cond.methodLink RX7 246 yX7_clears ∈ wsU := List.mem_append_left _ (List.mem_append_right _ (List.mem_append_right _ (List.mem_append_left _ (List.mem_append_right _ (List.mem_append_left _ (List.mem_of_getElem? (i := 27) rfl))))))
theorem mU_572 : Cond.instanceMethod yX7_clears ∈ wsU := List.mem_append_left _ (List.mem_append_right _ (List.mem_append_right _ (List.mem_append_left _ (List.mem_append_right _ (List.mem_append_left _ (List.mem_of_getElem? (i := 28) rfl))))))
theorem mU_573 : Cond.selects RX7 yX7_clears yX7_clears ∈ wsU := List.mem_append_left _ (List.mem_append_right _ (List.mem_append_right _ (List.mem_append_left _ (List.mem_append_right _ (List.mem_append_left _ (List.mem_of_getElem? (i := 29) rfl))))))
theorem mU_574 : Cond.code yX7_clears cX7_clears 9 none ∈ wsU := List.mem_append_left _ (List.mem_append_right _ (List.mem_append_right _ (List.mem_append_left _ (List.mem_append_right _ (List.mem_append_left _ (List.mem_of_getElem? (i := 30) rfl))))))
theorem mU_575 : Cond.methodLink RX7 266 yX7_freeOnes ∈ wsU := List.mem_append_left _ (List.mem_append_right _ (List.mem_append_right _ (List.mem_append_left _ (List.mem_append_right _ (List.mem_append_left _ (List.mem_of_getElem? (i := 31) rfl))))))
theorem mU_576 : Cond.instanceMethod yX7_freeOnes ∈ wsU := List.mem_append_left _ (List.mem_append_right _ (List.mem_append_right _ (List.mem_append_left _ (List.mem_append_right _ (List.mem_append_right _ (List.mem_of_getElem? (i := 0) rfl))))))
theorem mU_577 : Cond.selects RX7 yX7_freeOnes yX7_freeOnes ∈ wsU := List.mem_append_left _ (List.mem_append_right _ (List.mem_append_right _ (List.mem_append_left _ (List.mem_append_right _ (List.mem_append_right _ (List.mem_of_getElem? (i := 1) rfl))))))
theorem mU_578 : Cond.code yX7_freeOnes cX7_freeOnes 3 (some .int) ∈ wsU := List.mem_append_left _ (List.mem_append_right _ (List.mem_append_right _ (List.mem_append_left _ (List.mem_append_right _ (List.mem_append_right _ (List.mem_of_getElem? (i := 2) rfl))))))
theorem mU_579 : Cond.methodLink RX7 270 yX7_isSolved ∈ wsU := List.mem_append_left _ (List.mem_append_right _ (List.mem_append_right _ (List.mem_append_left _ (List.mem_append_right _ (List.mem_append_right _ (List.mem_of_getElem? (i := 3) rfl))))))
theorem mU_580 : Cond.instanceMethod yX7_isSolved ∈ wsU := List.mem_append_left _ (List.mem_append_right _ (List.mem_append_right _ (List.mem_append_left _ (List.mem_append_right _ (List.mem_append_right _ (List.mem_of_getElem? (i := 4) rfl))))))
theorem mU_581 : Cond.selects RX7 yX7_isSolved yX7_isSolved ∈ wsU := List.mem_append_left _ (List.mem_append_right _ (List.mem_append_right _ (List.mem_append_left _ (List.mem_append_right _ (List.mem_append_right _ (List.mem_of_getElem? (i := 5) rfl))))))
theorem mU_582 : Cond.code yX7_isSolved cX7_isSolved 2 (some .boolean) ∈ wsU := List.mem_append_left _ (List.mem_append_right _ (List.mem_append_right _ (List.mem_append_left _ (List.mem_append_right _ (List.mem_append_right _ (List.mem_of_getElem? (i := 6) rfl))))))
theorem mU_583 : Cond.methodLink RL 62 yX6_change ∈ wsU := List.mem_append_left _ (List.mem_append_right _ (List.mem_append_right _ (List.mem_append_left _ (List.mem_append_right _ (List.mem_append_right _ (List.mem_of_getElem? (i := 7) rfl))))))
theorem mU_584 : Cond.instanceMethod yX6_change ∈ wsU := List.mem_append_left _ (List.mem_append_right _ (List.mem_append_right _ (List.mem_append_left _ (List.mem_append_right _ (List.mem_append_right _ (List.mem_of_getElem? (i := 8) rfl))))))
theorem mU_585 : Cond.selects RX6 yX6_change yX6_change ∈ wsU := List.mem_append_left _ (List.mem_append_right _ (List.mem_append_right _ (List.mem_append_left _ (List.mem_append_right _ (List.mem_append_right _ (List.mem_of_getElem? (i := 9) rfl))))))
theorem mU_586 : Cond.code yX6_change cX6_change 5 (some .int) ∈ wsU := List.mem_append_left _ (List.mem_append_right _ (List.mem_append_right _ (List.mem_append_left _ (List.mem_append_right _ (List.mem_append_right _ (List.mem_of_getElem? (i := 10) rfl))))))
theorem mU_587 : Cond.methodLink RL 65 yX7_change ∈ wsU := List.mem_append_left _ (List.mem_append_right _ (List.mem_append_right _ (List.mem_append_left _ (List.mem_append_right _ (List.mem_append_right _ (List.mem_of_getElem? (i := 11) rfl))))))
theorem mU_588 : Cond.instanceMethod yX7_change ∈ wsU := List.mem_append_left _ (List.mem_append_right _ (List.mem_append_right _ (List.mem_append_left _ (List.mem_append_right _ (List.mem_append_right _ (List.mem_of_getElem? (i := 12) rfl))))))
theorem mU_589 : Cond.selects RX7 yX7_change yX7_change ∈ wsU := List.mem_append_left _ (List.mem_append_right _ (List.mem_append_right _ (List.mem_append_left _ (List.mem_append_right _ (List.mem_append_right _ (List.mem_of_getElem? (i := 13) rfl))))))
theorem mU_590 : Cond.code yX7_change cX7_change 5 (some .int) ∈ wsU := List.mem_append_left _ (List.mem_append_right _ (List.mem_append_right _ (List.mem_append_left _ (List.mem_append_right _ (List.mem_append_right _ (List.mem_of_getElem? (i := 14) rfl))))))
theorem mU_591 : Cond.methodLink RL 66 yX6_right ∈ wsU := List.mem_append_left _ (List.mem_append_right _ (List.mem_append_right _ (List.mem_append_left _ (List.mem_append_right _ (List.mem_append_right _ (List.mem_of_getElem? (i := 15) rfl))))))
theorem mU_592 : Cond.instanceMethod yX6_right ∈ wsU := List.mem_append_left _ (List.mem_append_right _ (List.mem_append_right _ (List.mem_append_left _ (List.mem_append_right _ (List.mem_append_right _ (List.mem_of_getElem? (i := 16) rfl))))))
theorem mU_593 : Cond.selects RX6 yX6_right yX6_right ∈ wsU := List.mem_append_left _ (List.mem_append_right _ (List.mem_append_right _ (List.mem_append_left _ (List.mem_append_right _ (List.mem_append_right _ (List.mem_of_getElem? (i := 17) rfl))))))
theorem mU_594 : Cond.code yX6_right cX6_right 4 (some .long) ∈ wsU := List.mem_append_left _ (List.mem_append_right _ (List.mem_append_right _ (List.mem_append_left _ (List.mem_append_right _ (List.mem_append_right _ (List.mem_of_getElem? (i := 18) rfl))))))
theorem mU_595 : Cond.methodLink RL 70 yX7_right ∈ wsU := List.mem_append_left _ (List.mem_append_right _ (List.mem_append_right _ (List.mem_append_left _ (List.mem_append_right _ (List.mem_append_right _ (List.mem_of_getElem? (i := 19) rfl))))))
theorem mU_596 : Cond.instanceMethod yX7_right ∈ wsU := List.mem_append_left _ (List.mem_append_right _ (List.mem_append_right _ (List.mem_append_left _ (List.mem_append_right _ (List.mem_append_right _ (List.mem_of_getElem? (i := 20) rfl))))))
theorem mU_597 : Cond.selects RX7 yX7_right yX7_right ∈ wsU := List.mem_append_left _ (List.mem_append_right _ (List.mem_append_right _ (List.mem_append_left _ (List.mem_append_right _ (List.mem_append_right _ (List.mem_of_getElem? (i := 21) rfl))))))
theorem mU_598 : Cond.code yX7_right cX7_right 4 (some .long) ∈ wsU := List.mem_append_left _ (List.mem_append_right _ (List.mem_append_right _ (List.mem_append_left _ (List.mem_append_right _ (List.mem_append_right _ (List.mem_of_getElem? (i := 22) rfl))))))
theorem mU_599 : Cond.methodLink RL 71 yX6_solution ∈ wsU := List.mem_append_left _ (List.mem_append_right _ (List.mem_append_right _ (List.mem_append_left _ (List.mem_append_right _ (List.mem_append_right _ (List.mem_of_getElem? (i := 23) rfl))))))
theorem mU_600 : Cond.instanceMethod yX6_solution ∈ wsU := List.mem_append_left _ (List.mem_append_right _ (List.mem_append_right _ (List.mem_append_left _ (List.mem_append_right _ (List.mem_append_right _ (List.mem_of_getElem? (i := 24) rfl))))))
theorem mU_601 : Cond.selects RX6 yX6_solution yX6_solution ∈ wsU := List.mem_append_left _ (List.mem_append_right _ (List.mem_append_right _ (List.mem_append_left _ (List.mem_append_right _ (List.mem_append_right _ (List.mem_of_getElem? (i := 25) rfl))))))
theorem mU_602 : Cond.code yX6_solution cX6_solution 5 (some .long) ∈ wsU := List.mem_append_left _ (List.mem_append_right _ (List.mem_append_right _ (List.mem_append_left _ (List.mem_append_right _ (List.mem_append_right _ (List.mem_of_getElem? (i := 26) rfl))))))
theorem mU_603 : Cond.fieldLink RX6 172 "TwoSidedTables$Grid" "below" "J" ∈ wsU := List.mem_append_left _ (List.mem_append_right _ (List.mem_append_right _ (List.mem_append_left _ (List.mem_append_right _ (List.mem_append_right _ (List.mem_of_getElem? (i := 27) rfl))))))
theorem mU_604 : Cond.methodLink RX6 165 yX6_isPart ∈ wsU := List.mem_append_left _ (List.mem_append_right _ (List.mem_append_right _ (List.mem_append_left _ (List.mem_append_right _ (List.mem_append_right _ (List.mem_of_getElem? (i := 28) rfl))))))
theorem mU_605 : Cond.static yX6_isPart ∈ wsU := List.mem_append_left _ (List.mem_append_right _ (List.mem_append_right _ (List.mem_append_left _ (List.mem_append_right _ (List.mem_append_right _ (List.mem_of_getElem? (i := 29) rfl))))))
theorem mU_606 : Cond.code yX6_isPart cX6_isPart 1 (some .boolean) ∈ wsU := List.mem_append_left _ (List.mem_append_right _ (List.mem_append_right _ (List.mem_append_left _ (List.mem_append_right _ (List.mem_append_right _ (List.mem_of_getElem? (i := 30) rfl))))))
theorem mU_607 : Cond.methodLink RX6 168 yX6_solutionAbove ∈ wsU := List.mem_append_left _ (List.mem_append_right _ (List.mem_append_right _ (List.mem_append_left _ (List.mem_append_right _ (List.mem_append_right _ (List.mem_of_getElem? (i := 31) rfl))))))
theorem mU_608 : Cond.instanceMethod yX6_solutionAbove ∈ wsU := List.mem_append_left _ (List.mem_append_right _ (List.mem_append_right _ (List.mem_append_right _ (List.mem_append_left _ (List.mem_of_getElem? (i := 0) rfl)))))
theorem mU_609 : Cond.selects RX6 yX6_solutionAbove yX6_solutionAbove ∈ wsU := List.mem_append_left _ (List.mem_append_right _ (List.mem_append_right _ (List.mem_append_right _ (List.mem_append_left _ (List.mem_of_getElem? (i := 1) rfl)))))
theorem mU_610 : Cond.code yX6_solutionAbove cX6_solutionAbove 4 (some .long) ∈ wsU := List.mem_append_left _ (List.mem_append_right _ (List.mem_append_right _ (List.mem_append_right _ (List.mem_append_left _ (List.mem_of_getElem? (i := 2) rfl)))))
theorem mU_611 : Cond.methodLink RX6 202 yX1_solutionAbove ∈ wsU := List.mem_append_left _ (List.mem_append_right _ (List.mem_append_right _ (List.mem_append_right _ (List.mem_append_left _ (List.mem_of_getElem? (i := 3) rfl)))))
theorem mU_612 : Cond.instanceMethod yX1_solutionAbove ∈ wsU := List.mem_append_left _ (List.mem_append_right _ (List.mem_append_right _ (List.mem_append_right _ (List.mem_append_left _ (List.mem_of_getElem? (i := 4) rfl)))))
theorem mU_613 : Cond.selects RX1 yX1_solutionAbove yX1_solutionAbove ∈ wsU := List.mem_append_left _ (List.mem_append_right _ (List.mem_append_right _ (List.mem_append_right _ (List.mem_append_left _ (List.mem_of_getElem? (i := 5) rfl)))))
theorem mU_614 : Cond.code yX1_solutionAbove cX1_solutionAbove 2 (some .long) ∈ wsU := List.mem_append_left _ (List.mem_append_right _ (List.mem_append_right _ (List.mem_append_right _ (List.mem_append_left _ (List.mem_of_getElem? (i := 6) rfl)))))
theorem mU_615 : Cond.methodLink RX1 82 yX1_isPivot ∈ wsU := List.mem_append_left _ (List.mem_append_right _ (List.mem_append_right _ (List.mem_append_right _ (List.mem_append_left _ (List.mem_of_getElem? (i := 7) rfl)))))
theorem mU_616 : Cond.instanceMethod yX1_isPivot ∈ wsU := List.mem_append_left _ (List.mem_append_right _ (List.mem_append_right _ (List.mem_append_right _ (List.mem_append_left _ (List.mem_of_getElem? (i := 8) rfl)))))
theorem mU_617 : Cond.selects RX1 yX1_isPivot yX1_isPivot ∈ wsU := List.mem_append_left _ (List.mem_append_right _ (List.mem_append_right _ (List.mem_append_right _ (List.mem_append_left _ (List.mem_of_getElem? (i := 9) rfl)))))
theorem mU_618 : Cond.code yX1_isPivot cX1_isPivot 2 (some .boolean) ∈ wsU := List.mem_append_left _ (List.mem_append_right _ (List.mem_append_right _ (List.mem_append_right _ (List.mem_append_left _ (List.mem_of_getElem? (i := 10) rfl)))))
theorem mU_619 : Cond.methodLink RX6 176 yX6_fractionPart ∈ wsU := List.mem_append_left _ (List.mem_append_right _ (List.mem_append_right _ (List.mem_append_right _ (List.mem_append_left _ (List.mem_of_getElem? (i := 11) rfl)))))
theorem mU_620 : Cond.static yX6_fractionPart ∈ wsU := List.mem_append_left _ (List.mem_append_right _ (List.mem_append_right _ (List.mem_append_right _ (List.mem_append_left _ (List.mem_of_getElem? (i := 12) rfl)))))
theorem mU_621 : Cond.code yX6_fractionPart cX6_fractionPart 7 (some .long) ∈ wsU := List.mem_append_left _ (List.mem_append_right _ (List.mem_append_right _ (List.mem_append_right _ (List.mem_append_left _ (List.mem_of_getElem? (i := 13) rfl)))))
theorem mU_622 : Cond.constantLong RX6 330 (-1) ∈ wsU := List.mem_append_left _ (List.mem_append_right _ (List.mem_append_right _ (List.mem_append_right _ (List.mem_append_left _ (List.mem_of_getElem? (i := 14) rfl)))))
theorem mU_623 : Cond.constantLong RX6 332 (-9223372036854775808) ∈ wsU := List.mem_append_left _ (List.mem_append_right _ (List.mem_append_right _ (List.mem_append_right _ (List.mem_append_left _ (List.mem_of_getElem? (i := 15) rfl)))))
theorem mU_624 : Cond.methodLink RX6 326 yX6_commonDivisor ∈ wsU := List.mem_append_left _ (List.mem_append_right _ (List.mem_append_right _ (List.mem_append_right _ (List.mem_append_left _ (List.mem_of_getElem? (i := 16) rfl)))))
theorem mU_625 : Cond.static yX6_commonDivisor ∈ wsU := List.mem_append_left _ (List.mem_append_right _ (List.mem_append_right _ (List.mem_append_right _ (List.mem_append_left _ (List.mem_of_getElem? (i := 17) rfl)))))
theorem mU_626 : Cond.code yX6_commonDivisor cX6_commonDivisor 11 (some .long) ∈ wsU := List.mem_append_left _ (List.mem_append_right _ (List.mem_append_right _ (List.mem_append_right _ (List.mem_append_left _ (List.mem_of_getElem? (i := 18) rfl)))))
theorem mU_627 : Cond.methodLink RL 75 yX7_solution ∈ wsU := List.mem_append_left _ (List.mem_append_right _ (List.mem_append_right _ (List.mem_append_right _ (List.mem_append_left _ (List.mem_of_getElem? (i := 19) rfl)))))
theorem mU_628 : Cond.instanceMethod yX7_solution ∈ wsU := List.mem_append_left _ (List.mem_append_right _ (List.mem_append_right _ (List.mem_append_right _ (List.mem_append_left _ (List.mem_of_getElem? (i := 20) rfl)))))
theorem mU_629 : Cond.selects RX7 yX7_solution yX7_solution ∈ wsU := List.mem_append_left _ (List.mem_append_right _ (List.mem_append_right _ (List.mem_append_right _ (List.mem_append_left _ (List.mem_of_getElem? (i := 21) rfl)))))
theorem mU_630 : Cond.code yX7_solution cX7_solution 5 (some .long) ∈ wsU := List.mem_append_left _ (List.mem_append_right _ (List.mem_append_right _ (List.mem_append_right _ (List.mem_append_left _ (List.mem_of_getElem? (i := 22) rfl)))))
theorem mU_631 : Cond.methodLink RX7 274 yX7_isPart ∈ wsU := List.mem_append_left _ (List.mem_append_right _ (List.mem_append_right _ (List.mem_append_right _ (List.mem_append_left _ (List.mem_of_getElem? (i := 23) rfl)))))
theorem mU_632 : Cond.instanceMethod yX7_isPart ∈ wsU := List.mem_append_left _ (List.mem_append_right _ (List.mem_append_right _ (List.mem_append_right _ (List.mem_append_left _ (List.mem_of_getElem? (i := 24) rfl)))))
theorem mU_633 : Cond.selects RX7 yX7_isPart yX7_isPart ∈ wsU := List.mem_append_left _ (List.mem_append_right _ (List.mem_append_right _ (List.mem_append_right _ (List.mem_append_left _ (List.mem_of_getElem? (i := 25) rfl)))))
theorem mU_634 : Cond.code yX7_isPart cX7_isPart 5 (some .boolean) ∈ wsU := List.mem_append_left _ (List.mem_append_right _ (List.mem_append_right _ (List.mem_append_right _ (List.mem_append_left _ (List.mem_of_getElem? (i := 26) rfl)))))
theorem mU_635 : Cond.methodLink RX7 278 yX7_shapedSum ∈ wsU := List.mem_append_left _ (List.mem_append_right _ (List.mem_append_right _ (List.mem_append_right _ (List.mem_append_left _ (List.mem_of_getElem? (i := 27) rfl)))))
theorem mU_636 : Cond.instanceMethod yX7_shapedSum ∈ wsU := List.mem_append_left _ (List.mem_append_right _ (List.mem_append_right _ (List.mem_append_right _ (List.mem_append_left _ (List.mem_of_getElem? (i := 28) rfl)))))
theorem mU_637 : Cond.selects RX7 yX7_shapedSum yX7_shapedSum ∈ wsU := List.mem_append_left _ (List.mem_append_right _ (List.mem_append_right _ (List.mem_append_right _ (List.mem_append_left _ (List.mem_of_getElem? (i := 29) rfl)))))
theorem mU_638 : Cond.code yX7_shapedSum cX7_shapedSum 11 (some .long) ∈ wsU := List.mem_append_left _ (List.mem_append_right _ (List.mem_append_right _ (List.mem_append_right _ (List.mem_append_left _ (List.mem_of_getElem? (i := 30) rfl)))))
theorem mU_639 : Cond.methodLink RX7 282 yX7_partOf ∈ wsU := List.mem_append_left _ (List.mem_append_right _ (List.mem_append_right _ (List.mem_append_right _ (List.mem_append_left _ (List.mem_of_getElem? (i := 31) rfl)))))
theorem mU_640 : Cond.static yX7_partOf ∈ wsU := List.mem_append_left _ (List.mem_append_right _ (List.mem_append_right _ (List.mem_append_right _ (List.mem_append_right _ (List.mem_append_left _ (List.mem_of_getElem? (i := 0) rfl))))))
theorem mU_641 : Cond.code yX7_partOf cX7_partOf 7 (some .long) ∈ wsU := List.mem_append_left _ (List.mem_append_right _ (List.mem_append_right _ (List.mem_append_right _ (List.mem_append_right _ (List.mem_append_left _ (List.mem_of_getElem? (i := 1) rfl))))))
theorem mU_642 : Cond.methodLink RX7 93 yX7_common ∈ wsU := List.mem_append_left _ (List.mem_append_right _ (List.mem_append_right _ (List.mem_append_right _ (List.mem_append_right _ (List.mem_append_left _ (List.mem_of_getElem? (i := 2) rfl))))))
theorem mU_643 : Cond.static yX7_common ∈ wsU := List.mem_append_left _ (List.mem_append_right _ (List.mem_append_right _ (List.mem_append_right _ (List.mem_append_right _ (List.mem_append_left _ (List.mem_of_getElem? (i := 3) rfl))))))
theorem mU_644 : Cond.code yX7_common cX7_common 10 (some .long) ∈ wsU := List.mem_append_left _ (List.mem_append_right _ (List.mem_append_right _ (List.mem_append_right _ (List.mem_append_right _ (List.mem_append_left _ (List.mem_of_getElem? (i := 4) rfl))))))
theorem mU_645 : Cond.methodLink RL 76 yX6_base ∈ wsU := List.mem_append_left _ (List.mem_append_right _ (List.mem_append_right _ (List.mem_append_right _ (List.mem_append_right _ (List.mem_append_left _ (List.mem_of_getElem? (i := 5) rfl))))))
theorem mU_646 : Cond.instanceMethod yX6_base ∈ wsU := List.mem_append_left _ (List.mem_append_right _ (List.mem_append_right _ (List.mem_append_right _ (List.mem_append_right _ (List.mem_append_left _ (List.mem_of_getElem? (i := 6) rfl))))))
theorem mU_647 : Cond.selects RX6 yX6_base yX6_base ∈ wsU := List.mem_append_left _ (List.mem_append_right _ (List.mem_append_right _ (List.mem_append_right _ (List.mem_append_right _ (List.mem_append_left _ (List.mem_of_getElem? (i := 7) rfl))))))
theorem mU_648 : Cond.code yX6_base cX6_base 9 (some .long) ∈ wsU := List.mem_append_left _ (List.mem_append_right _ (List.mem_append_right _ (List.mem_append_right _ (List.mem_append_right _ (List.mem_append_left _ (List.mem_of_getElem? (i := 8) rfl))))))
theorem mU_649 : Cond.methodLink RX6 180 yX1_isFree ∈ wsU := List.mem_append_left _ (List.mem_append_right _ (List.mem_append_right _ (List.mem_append_right _ (List.mem_append_right _ (List.mem_append_left _ (List.mem_of_getElem? (i := 9) rfl))))))
theorem mU_650 : Cond.methodLink RX6 189 yX1_baseAbove ∈ wsU := List.mem_append_left _ (List.mem_append_right _ (List.mem_append_right _ (List.mem_append_right _ (List.mem_append_right _ (List.mem_append_left _ (List.mem_of_getElem? (i := 10) rfl))))))
theorem mU_651 : Cond.instanceMethod yX1_baseAbove ∈ wsU := List.mem_append_left _ (List.mem_append_right _ (List.mem_append_right _ (List.mem_append_right _ (List.mem_append_right _ (List.mem_append_left _ (List.mem_of_getElem? (i := 11) rfl))))))
theorem mU_652 : Cond.selects RX1 yX1_baseAbove yX1_baseAbove ∈ wsU := List.mem_append_left _ (List.mem_append_right _ (List.mem_append_right _ (List.mem_append_right _ (List.mem_append_right _ (List.mem_append_left _ (List.mem_of_getElem? (i := 12) rfl))))))
theorem mU_653 : Cond.code yX1_baseAbove cX1_baseAbove 3 (some .long) ∈ wsU := List.mem_append_left _ (List.mem_append_right _ (List.mem_append_right _ (List.mem_append_right _ (List.mem_append_right _ (List.mem_append_left _ (List.mem_of_getElem? (i := 13) rfl))))))
theorem mU_654 : Cond.methodLink RL 80 yX7_base ∈ wsU := List.mem_append_left _ (List.mem_append_right _ (List.mem_append_right _ (List.mem_append_right _ (List.mem_append_right _ (List.mem_append_left _ (List.mem_of_getElem? (i := 14) rfl))))))
theorem mU_655 : Cond.instanceMethod yX7_base ∈ wsU := List.mem_append_left _ (List.mem_append_right _ (List.mem_append_right _ (List.mem_append_right _ (List.mem_append_right _ (List.mem_append_left _ (List.mem_of_getElem? (i := 15) rfl))))))
theorem mU_656 : Cond.selects RX7 yX7_base yX7_base ∈ wsU := List.mem_append_left _ (List.mem_append_right _ (List.mem_append_right _ (List.mem_append_right _ (List.mem_append_right _ (List.mem_append_left _ (List.mem_of_getElem? (i := 16) rfl))))))
theorem mU_657 : Cond.code yX7_base cX7_base 6 (some .long) ∈ wsU := List.mem_append_left _ (List.mem_append_right _ (List.mem_append_right _ (List.mem_append_right _ (List.mem_append_right _ (List.mem_append_left _ (List.mem_of_getElem? (i := 17) rfl))))))
theorem mU_658 : Cond.methodLink RL 81 yX6_witness ∈ wsU := List.mem_append_left _ (List.mem_append_right _ (List.mem_append_right _ (List.mem_append_right _ (List.mem_append_right _ (List.mem_append_left _ (List.mem_of_getElem? (i := 18) rfl))))))
theorem mU_659 : Cond.instanceMethod yX6_witness ∈ wsU := List.mem_append_left _ (List.mem_append_right _ (List.mem_append_right _ (List.mem_append_right _ (List.mem_append_right _ (List.mem_append_left _ (List.mem_of_getElem? (i := 19) rfl))))))
theorem mU_660 : Cond.selects RX6 yX6_witness yX6_witness ∈ wsU := List.mem_append_left _ (List.mem_append_right _ (List.mem_append_right _ (List.mem_append_right _ (List.mem_append_right _ (List.mem_append_left _ (List.mem_of_getElem? (i := 20) rfl))))))
theorem mU_661 : Cond.code yX6_witness cX6_witness 6 (some .long) ∈ wsU := List.mem_append_left _ (List.mem_append_right _ (List.mem_append_right _ (List.mem_append_right _ (List.mem_append_right _ (List.mem_append_left _ (List.mem_of_getElem? (i := 21) rfl))))))
theorem mU_662 : Cond.methodLink RX6 195 yX1_fillTurned ∈ wsU := List.mem_append_left _ (List.mem_append_right _ (List.mem_append_right _ (List.mem_append_right _ (List.mem_append_right _ (List.mem_append_left _ (List.mem_of_getElem? (i := 22) rfl))))))
theorem mU_663 : Cond.instanceMethod yX1_fillTurned ∈ wsU := List.mem_append_left _ (List.mem_append_right _ (List.mem_append_right _ (List.mem_append_right _ (List.mem_append_right _ (List.mem_append_left _ (List.mem_of_getElem? (i := 23) rfl))))))
theorem mU_664 : Cond.selects RX1 yX1_fillTurned yX1_fillTurned ∈ wsU := List.mem_append_left _ (List.mem_append_right _ (List.mem_append_right _ (List.mem_append_right _ (List.mem_append_right _ (List.mem_append_left _ (List.mem_of_getElem? (i := 24) rfl))))))
theorem mU_665 : Cond.code yX1_fillTurned cX1_fillTurned 4 none ∈ wsU := List.mem_append_left _ (List.mem_append_right _ (List.mem_append_right _ (List.mem_append_right _ (List.mem_append_right _ (List.mem_append_left _ (List.mem_of_getElem? (i := 25) rfl))))))
theorem mU_666 : Cond.methodLink RX1 57 yX1_clear ∈ wsU := List.mem_append_left _ (List.mem_append_right _ (List.mem_append_right _ (List.mem_append_right _ (List.mem_append_right _ (List.mem_append_left _ (List.mem_of_getElem? (i := 26) rfl))))))
theorem mU_667 : Cond.methodLink RL 84 yX7_witness ∈ wsU := List.mem_append_left _ (List.mem_append_right _ (List.mem_append_right _ (List.mem_append_right _ (List.mem_append_right _ (List.mem_append_left _ (List.mem_of_getElem? (i := 27) rfl))))))
theorem mU_668 : Cond.instanceMethod yX7_witness ∈ wsU := List.mem_append_left _ (List.mem_append_right _ (List.mem_append_right _ (List.mem_append_right _ (List.mem_append_right _ (List.mem_append_left _ (List.mem_of_getElem? (i := 28) rfl))))))
theorem mU_669 : Cond.selects RX7 yX7_witness yX7_witness ∈ wsU := List.mem_append_left _ (List.mem_append_right _ (List.mem_append_right _ (List.mem_append_right _ (List.mem_append_right _ (List.mem_append_left _ (List.mem_of_getElem? (i := 29) rfl))))))
theorem mU_670 : Cond.code yX7_witness cX7_witness 11 (some .long) ∈ wsU := List.mem_append_left _ (List.mem_append_right _ (List.mem_append_right _ (List.mem_append_right _ (List.mem_append_right _ (List.mem_append_left _ (List.mem_of_getElem? (i := 30) rfl))))))
theorem mU_671 : Cond.methodLink RX7 293 yX7_worksRules ∈ wsU := List.mem_append_left _ (List.mem_append_right _ (List.mem_append_right _ (List.mem_append_right _ (List.mem_append_right _ (List.mem_append_left _ (List.mem_of_getElem? (i := 31) rfl))))))
theorem mU_672 : Cond.instanceMethod yX7_worksRules ∈ wsU := List.mem_append_left _ (List.mem_append_right _ (List.mem_append_right _ (List.mem_append_right _ (List.mem_append_right _ (List.mem_append_right _ (List.mem_of_getElem? (i := 0) rfl))))))
theorem mU_673 : Cond.selects RX7 yX7_worksRules yX7_worksRules ∈ wsU := List.mem_append_left _ (List.mem_append_right _ (List.mem_append_right _ (List.mem_append_right _ (List.mem_append_right _ (List.mem_append_right _ (List.mem_of_getElem? (i := 1) rfl))))))
theorem mU_674 : Cond.code yX7_worksRules cX7_worksRules 9 (some .long) ∈ wsU := List.mem_append_left _ (List.mem_append_right _ (List.mem_append_right _ (List.mem_append_right _ (List.mem_append_right _ (List.mem_append_right _ (List.mem_of_getElem? (i := 2) rfl))))))
theorem mU_675 : Cond.methodLink RX7 286 yX7_swapsRules ∈ wsU := List.mem_append_left _ (List.mem_append_right _ (List.mem_append_right _ (List.mem_append_right _ (List.mem_append_right _ (List.mem_append_right _ (List.mem_of_getElem? (i := 3) rfl))))))
theorem mU_676 : Cond.instanceMethod yX7_swapsRules ∈ wsU := List.mem_append_left _ (List.mem_append_right _ (List.mem_append_right _ (List.mem_append_right _ (List.mem_append_right _ (List.mem_append_right _ (List.mem_of_getElem? (i := 4) rfl))))))
theorem mU_677 : Cond.selects RX7 yX7_swapsRules yX7_swapsRules ∈ wsU := List.mem_append_left _ (List.mem_append_right _ (List.mem_append_right _ (List.mem_append_right _ (List.mem_append_right _ (List.mem_append_right _ (List.mem_of_getElem? (i := 5) rfl))))))
theorem mU_678 : Cond.code yX7_swapsRules cX7_swapsRules 6 none ∈ wsU := List.mem_append_left _ (List.mem_append_right _ (List.mem_append_right _ (List.mem_append_right _ (List.mem_append_right _ (List.mem_append_right _ (List.mem_of_getElem? (i := 6) rfl))))))
theorem mU_679 : Cond.methodLink RX7 289 yX7_clearsRules ∈ wsU := List.mem_append_left _ (List.mem_append_right _ (List.mem_append_right _ (List.mem_append_right _ (List.mem_append_right _ (List.mem_append_right _ (List.mem_of_getElem? (i := 7) rfl))))))
theorem mU_680 : Cond.instanceMethod yX7_clearsRules ∈ wsU := List.mem_append_left _ (List.mem_append_right _ (List.mem_append_right _ (List.mem_append_right _ (List.mem_append_right _ (List.mem_append_right _ (List.mem_of_getElem? (i := 8) rfl))))))
theorem mU_681 : Cond.selects RX7 yX7_clearsRules yX7_clearsRules ∈ wsU := List.mem_append_left _ (List.mem_append_right _ (List.mem_append_right _ (List.mem_append_right _ (List.mem_append_right _ (List.mem_append_right _ (List.mem_of_getElem? (i := 9) rfl))))))
theorem mU_682 : Cond.code yX7_clearsRules cX7_clearsRules 12 (some .long) ∈ wsU := List.mem_append_left _ (List.mem_append_right _ (List.mem_append_right _ (List.mem_append_right _ (List.mem_append_right _ (List.mem_append_right _ (List.mem_of_getElem? (i := 10) rfl))))))
theorem mU_683 : Cond.methodLink RL 85 yX6_similar ∈ wsU := List.mem_append_left _ (List.mem_append_right _ (List.mem_append_right _ (List.mem_append_right _ (List.mem_append_right _ (List.mem_append_right _ (List.mem_of_getElem? (i := 11) rfl))))))
theorem mU_684 : Cond.instanceMethod yX6_similar ∈ wsU := List.mem_append_left _ (List.mem_append_right _ (List.mem_append_right _ (List.mem_append_right _ (List.mem_append_right _ (List.mem_append_right _ (List.mem_of_getElem? (i := 12) rfl))))))
theorem mU_685 : Cond.selects RX6 yX6_similar yX6_similar ∈ wsU := List.mem_append_left _ (List.mem_append_right _ (List.mem_append_right _ (List.mem_append_right _ (List.mem_append_right _ (List.mem_append_right _ (List.mem_of_getElem? (i := 13) rfl))))))
theorem mU_686 : Cond.code yX6_similar cX6_similar 2 (some .int) ∈ wsU := List.mem_append_left _ (List.mem_append_right _ (List.mem_append_right _ (List.mem_append_right _ (List.mem_append_right _ (List.mem_append_right _ (List.mem_of_getElem? (i := 14) rfl))))))
theorem mU_687 : Cond.methodLink RX6 204 yX6_isSmallWhole ∈ wsU := List.mem_append_left _ (List.mem_append_right _ (List.mem_append_right _ (List.mem_append_right _ (List.mem_append_right _ (List.mem_append_right _ (List.mem_of_getElem? (i := 15) rfl))))))
theorem mU_688 : Cond.instanceMethod yX6_isSmallWhole ∈ wsU := List.mem_append_left _ (List.mem_append_right _ (List.mem_append_right _ (List.mem_append_right _ (List.mem_append_right _ (List.mem_append_right _ (List.mem_of_getElem? (i := 16) rfl))))))
theorem mU_689 : Cond.selects RX6 yX6_isSmallWhole yX6_isSmallWhole ∈ wsU := List.mem_append_left _ (List.mem_append_right _ (List.mem_append_right _ (List.mem_append_right _ (List.mem_append_right _ (List.mem_append_right _ (List.mem_of_getElem? (i := 17) rfl))))))
theorem mU_690 : Cond.code yX6_isSmallWhole cX6_isSmallWhole 2 (some .boolean) ∈ wsU := List.mem_append_left _ (List.mem_append_right _ (List.mem_append_right _ (List.mem_append_right _ (List.mem_append_right _ (List.mem_append_right _ (List.mem_of_getElem? (i := 18) rfl))))))
theorem mU_691 : Cond.methodLink RL 89 yX7_similar ∈ wsU := List.mem_append_left _ (List.mem_append_right _ (List.mem_append_right _ (List.mem_append_right _ (List.mem_append_right _ (List.mem_append_right _ (List.mem_of_getElem? (i := 19) rfl))))))
theorem mU_692 : Cond.instanceMethod yX7_similar ∈ wsU := List.mem_append_left _ (List.mem_append_right _ (List.mem_append_right _ (List.mem_append_right _ (List.mem_append_right _ (List.mem_append_right _ (List.mem_of_getElem? (i := 20) rfl))))))
theorem mU_693 : Cond.selects RX7 yX7_similar yX7_similar ∈ wsU := List.mem_append_left _ (List.mem_append_right _ (List.mem_append_right _ (List.mem_append_right _ (List.mem_append_right _ (List.mem_append_right _ (List.mem_of_getElem? (i := 21) rfl))))))
theorem mU_694 : Cond.code yX7_similar cX7_similar 2 (some .int) ∈ wsU := List.mem_append_left _ (List.mem_append_right _ (List.mem_append_right _ (List.mem_append_right _ (List.mem_append_right _ (List.mem_append_right _ (List.mem_of_getElem? (i := 22) rfl))))))
theorem mU_695 : Cond.methodLink RX7 297 yX7_isSmall ∈ wsU := List.mem_append_left _ (List.mem_append_right _ (List.mem_append_right _ (List.mem_append_right _ (List.mem_append_right _ (List.mem_append_right _ (List.mem_of_getElem? (i := 23) rfl))))))
theorem mU_696 : Cond.instanceMethod yX7_isSmall ∈ wsU := List.mem_append_left _ (List.mem_append_right _ (List.mem_append_right _ (List.mem_append_right _ (List.mem_append_right _ (List.mem_append_right _ (List.mem_of_getElem? (i := 24) rfl))))))
theorem mU_697 : Cond.selects RX7 yX7_isSmall yX7_isSmall ∈ wsU := List.mem_append_left _ (List.mem_append_right _ (List.mem_append_right _ (List.mem_append_right _ (List.mem_append_right _ (List.mem_append_right _ (List.mem_of_getElem? (i := 25) rfl))))))
theorem mU_698 : Cond.code yX7_isSmall cX7_isSmall 2 (some .boolean) ∈ wsU := List.mem_append_left _ (List.mem_append_right _ (List.mem_append_right _ (List.mem_append_right _ (List.mem_append_right _ (List.mem_append_right _ (List.mem_of_getElem? (i := 26) rfl))))))
theorem mU_699 : Cond.methodLink RL 90 yX6_whole ∈ wsU := List.mem_append_left _ (List.mem_append_right _ (List.mem_append_right _ (List.mem_append_right _ (List.mem_append_right _ (List.mem_append_right _ (List.mem_of_getElem? (i := 27) rfl))))))
theorem mU_700 : Cond.instanceMethod yX6_whole ∈ wsU := List.mem_append_left _ (List.mem_append_right _ (List.mem_append_right _ (List.mem_append_right _ (List.mem_append_right _ (List.mem_append_right _ (List.mem_of_getElem? (i := 28) rfl))))))
theorem mU_701 : Cond.selects RX6 yX6_whole yX6_whole ∈ wsU := List.mem_append_left _ (List.mem_append_right _ (List.mem_append_right _ (List.mem_append_right _ (List.mem_append_right _ (List.mem_append_right _ (List.mem_of_getElem? (i := 29) rfl))))))
theorem mU_702 : Cond.code yX6_whole cX6_whole 2 (some .long) ∈ wsU := List.mem_append_left _ (List.mem_append_right _ (List.mem_append_right _ (List.mem_append_right _ (List.mem_append_right _ (List.mem_append_right _ (List.mem_of_getElem? (i := 30) rfl))))))
theorem mU_703 : Cond.methodLink RX6 207 yX1_determinant ∈ wsU := List.mem_append_left _ (List.mem_append_right _ (List.mem_append_right _ (List.mem_append_right _ (List.mem_append_right _ (List.mem_append_right _ (List.mem_of_getElem? (i := 31) rfl))))))
theorem mU_704 : Cond.instanceMethod yX1_determinant ∈ wsU := List.mem_append_right _ (List.mem_append_left _ (List.mem_append_left _ (List.mem_append_left _ (List.mem_append_left _ (List.mem_of_getElem? (i := 0) rfl)))))
theorem mU_705 : Cond.selects RX1 yX1_determinant yX1_determinant ∈ wsU := List.mem_append_right _ (List.mem_append_left _ (List.mem_append_left _ (List.mem_append_left _ (List.mem_append_left _ (List.mem_of_getElem? (i := 1) rfl)))))
theorem mU_706 : Cond.code yX1_determinant cX1_determinant 1 (some .long) ∈ wsU := List.mem_append_right _ (List.mem_append_left _ (List.mem_append_left _ (List.mem_append_left _ (List.mem_append_left _ (List.mem_of_getElem? (i := 2) rfl)))))
theorem mU_707 : Cond.methodLink RL 93 yX7_whole ∈ wsU := List.mem_append_right _ (List.mem_append_left _ (List.mem_append_left _ (List.mem_append_left _ (List.mem_append_left _ (List.mem_of_getElem? (i := 3) rfl)))))
theorem mU_708 : Cond.instanceMethod yX7_whole ∈ wsU := List.mem_append_right _ (List.mem_append_left _ (List.mem_append_left _ (List.mem_append_left _ (List.mem_append_left _ (List.mem_of_getElem? (i := 4) rfl)))))
theorem mU_709 : Cond.selects RX7 yX7_whole yX7_whole ∈ wsU := List.mem_append_right _ (List.mem_append_left _ (List.mem_append_left _ (List.mem_append_left _ (List.mem_append_left _ (List.mem_of_getElem? (i := 5) rfl)))))
theorem mU_710 : Cond.code yX7_whole cX7_whole 2 (some .long) ∈ wsU := List.mem_append_right _ (List.mem_append_left _ (List.mem_append_left _ (List.mem_append_left _ (List.mem_append_left _ (List.mem_of_getElem? (i := 6) rfl)))))
theorem mU_711 : Cond.methodLink RL 94 yX6_lower ∈ wsU := List.mem_append_right _ (List.mem_append_left _ (List.mem_append_left _ (List.mem_append_left _ (List.mem_append_left _ (List.mem_of_getElem? (i := 7) rfl)))))
theorem mU_712 : Cond.instanceMethod yX6_lower ∈ wsU := List.mem_append_right _ (List.mem_append_left _ (List.mem_append_left _ (List.mem_append_left _ (List.mem_append_left _ (List.mem_of_getElem? (i := 8) rfl)))))
theorem mU_713 : Cond.selects RX6 yX6_lower yX6_lower ∈ wsU := List.mem_append_right _ (List.mem_append_left _ (List.mem_append_left _ (List.mem_append_left _ (List.mem_append_left _ (List.mem_of_getElem? (i := 9) rfl)))))
theorem mU_714 : Cond.code yX6_lower cX6_lower 3 (some .int) ∈ wsU := List.mem_append_right _ (List.mem_append_left _ (List.mem_append_left _ (List.mem_append_left _ (List.mem_append_left _ (List.mem_of_getElem? (i := 10) rfl)))))
theorem mU_715 : Cond.methodLink RX6 211 yX4_splits ∈ wsU := List.mem_append_right _ (List.mem_append_left _ (List.mem_append_left _ (List.mem_append_left _ (List.mem_append_left _ (List.mem_of_getElem? (i := 11) rfl)))))
theorem mU_716 : Cond.instanceMethod yX4_splits ∈ wsU := List.mem_append_right _ (List.mem_append_left _ (List.mem_append_left _ (List.mem_append_left _ (List.mem_append_left _ (List.mem_of_getElem? (i := 12) rfl)))))
theorem mU_717 : Cond.selects RX4 yX4_splits yX4_splits ∈ wsU := List.mem_append_right _ (List.mem_append_left _ (List.mem_append_left _ (List.mem_append_left _ (List.mem_append_left _ (List.mem_of_getElem? (i := 13) rfl)))))
theorem mU_718 : Cond.code yX4_splits cX4_splits 4 (some .boolean) ∈ wsU := List.mem_append_right _ (List.mem_append_left _ (List.mem_append_left _ (List.mem_append_left _ (List.mem_append_left _ (List.mem_of_getElem? (i := 14) rfl)))))
theorem mU_719 : Cond.methodLink RL 97 yX7_lower ∈ wsU := List.mem_append_right _ (List.mem_append_left _ (List.mem_append_left _ (List.mem_append_left _ (List.mem_append_left _ (List.mem_of_getElem? (i := 15) rfl)))))
theorem mU_720 : Cond.instanceMethod yX7_lower ∈ wsU := List.mem_append_right _ (List.mem_append_left _ (List.mem_append_left _ (List.mem_append_left _ (List.mem_append_left _ (List.mem_of_getElem? (i := 16) rfl)))))
theorem mU_721 : Cond.selects RX7 yX7_lower yX7_lower ∈ wsU := List.mem_append_right _ (List.mem_append_left _ (List.mem_append_left _ (List.mem_append_left _ (List.mem_append_left _ (List.mem_of_getElem? (i := 17) rfl)))))
theorem mU_722 : Cond.code yX7_lower cX7_lower 3 (some .int) ∈ wsU := List.mem_append_right _ (List.mem_append_left _ (List.mem_append_left _ (List.mem_append_left _ (List.mem_append_left _ (List.mem_of_getElem? (i := 18) rfl)))))
theorem mU_723 : Cond.methodLink RX7 300 yX7_splits ∈ wsU := List.mem_append_right _ (List.mem_append_left _ (List.mem_append_left _ (List.mem_append_left _ (List.mem_append_left _ (List.mem_of_getElem? (i := 19) rfl)))))
theorem mU_724 : Cond.instanceMethod yX7_splits ∈ wsU := List.mem_append_right _ (List.mem_append_left _ (List.mem_append_left _ (List.mem_append_left _ (List.mem_append_left _ (List.mem_of_getElem? (i := 20) rfl)))))
theorem mU_725 : Cond.selects RX7 yX7_splits yX7_splits ∈ wsU := List.mem_append_right _ (List.mem_append_left _ (List.mem_append_left _ (List.mem_append_left _ (List.mem_append_left _ (List.mem_of_getElem? (i := 21) rfl)))))
theorem mU_726 : Cond.code yX7_splits cX7_splits 4 (some .boolean) ∈ wsU := List.mem_append_right _ (List.mem_append_left _ (List.mem_append_left _ (List.mem_append_left _ (List.mem_append_left _ (List.mem_of_getElem? (i := 22) rfl)))))
theorem mU_727 : Cond.methodLink RL 98 yX6_swapped ∈ wsU := List.mem_append_right _ (List.mem_append_left _ (List.mem_append_left _ (List.mem_append_left _ (List.mem_append_left _ (List.mem_of_getElem? (i := 23) rfl)))))
theorem mU_728 : Cond.instanceMethod yX6_swapped ∈ wsU := List.mem_append_right _ (List.mem_append_left _ (List.mem_append_left _ (List.mem_append_left _ (List.mem_append_left _ (List.mem_of_getElem? (i := 24) rfl)))))
theorem mU_729 : Cond.selects RX6 yX6_swapped yX6_swapped ∈ wsU := List.mem_append_right _ (List.mem_append_left _ (List.mem_append_left _ (List.mem_append_left _ (List.mem_append_left _ (List.mem_of_getElem? (i := 25) rfl)))))
theorem mU_730 : Cond.code yX6_swapped cX6_swapped 1 (some .int) ∈ wsU := List.mem_append_right _ (List.mem_append_left _ (List.mem_append_left _ (List.mem_append_left _ (List.mem_append_left _ (List.mem_of_getElem? (i := 26) rfl)))))
theorem mU_731 : Cond.methodLink RL 101 yX7_swapped ∈ wsU := List.mem_append_right _ (List.mem_append_left _ (List.mem_append_left _ (List.mem_append_left _ (List.mem_append_left _ (List.mem_of_getElem? (i := 27) rfl)))))
theorem mU_732 : Cond.instanceMethod yX7_swapped ∈ wsU := List.mem_append_right _ (List.mem_append_left _ (List.mem_append_left _ (List.mem_append_left _ (List.mem_append_left _ (List.mem_of_getElem? (i := 28) rfl)))))
theorem mU_733 : Cond.selects RX7 yX7_swapped yX7_swapped ∈ wsU := List.mem_append_right _ (List.mem_append_left _ (List.mem_append_left _ (List.mem_append_left _ (List.mem_append_left _ (List.mem_of_getElem? (i := 29) rfl)))))
theorem mU_734 : Cond.code yX7_swapped cX7_swapped 1 (some .int) ∈ wsU := List.mem_append_right _ (List.mem_append_left _ (List.mem_append_left _ (List.mem_append_left _ (List.mem_append_left _ (List.mem_of_getElem? (i := 30) rfl)))))
theorem mU_735 : Cond.methodLink RL 102 yX6_stable ∈ wsU := List.mem_append_right _ (List.mem_append_left _ (List.mem_append_left _ (List.mem_append_left _ (List.mem_append_left _ (List.mem_of_getElem? (i := 31) rfl)))))
theorem mU_736 : Cond.instanceMethod yX6_stable ∈ wsU := List.mem_append_right _ (List.mem_append_left _ (List.mem_append_left _ (List.mem_append_left _ (List.mem_append_right _ (List.mem_of_getElem? (i := 0) rfl)))))
theorem mU_737 : Cond.selects RX6 yX6_stable yX6_stable ∈ wsU := List.mem_append_right _ (List.mem_append_left _ (List.mem_append_left _ (List.mem_append_left _ (List.mem_append_right _ (List.mem_of_getElem? (i := 1) rfl)))))
theorem mU_738 : Cond.code yX6_stable cX6_stable 7 (some .int) ∈ wsU := List.mem_append_right _ (List.mem_append_left _ (List.mem_append_left _ (List.mem_append_left _ (List.mem_append_right _ (List.mem_of_getElem? (i := 2) rfl)))))
theorem mU_739 : Cond.methodLink RL 105 yX7_stable ∈ wsU := List.mem_append_right _ (List.mem_append_left _ (List.mem_append_left _ (List.mem_append_left _ (List.mem_append_right _ (List.mem_of_getElem? (i := 3) rfl)))))
theorem mU_740 : Cond.instanceMethod yX7_stable ∈ wsU := List.mem_append_right _ (List.mem_append_left _ (List.mem_append_left _ (List.mem_append_left _ (List.mem_append_right _ (List.mem_of_getElem? (i := 4) rfl)))))
theorem mU_741 : Cond.selects RX7 yX7_stable yX7_stable ∈ wsU := List.mem_append_right _ (List.mem_append_left _ (List.mem_append_left _ (List.mem_append_left _ (List.mem_append_right _ (List.mem_of_getElem? (i := 5) rfl)))))
theorem mU_742 : Cond.code yX7_stable cX7_stable 8 (some .int) ∈ wsU := List.mem_append_right _ (List.mem_append_left _ (List.mem_append_left _ (List.mem_append_left _ (List.mem_append_right _ (List.mem_of_getElem? (i := 6) rfl)))))
theorem mU_743 : Cond.methodLink RL 106 yX6_lay ∈ wsU := List.mem_append_right _ (List.mem_append_left _ (List.mem_append_left _ (List.mem_append_left _ (List.mem_append_right _ (List.mem_of_getElem? (i := 7) rfl)))))
theorem mU_744 : Cond.instanceMethod yX6_lay ∈ wsU := List.mem_append_right _ (List.mem_append_left _ (List.mem_append_left _ (List.mem_append_left _ (List.mem_append_right _ (List.mem_of_getElem? (i := 8) rfl)))))
theorem mU_745 : Cond.selects RX6 yX6_lay yX6_lay ∈ wsU := List.mem_append_right _ (List.mem_append_left _ (List.mem_append_left _ (List.mem_append_left _ (List.mem_append_right _ (List.mem_of_getElem? (i := 9) rfl)))))
theorem mU_746 : Cond.code yX6_lay cX6_lay 9 (some .int) ∈ wsU := List.mem_append_right _ (List.mem_append_left _ (List.mem_append_left _ (List.mem_append_left _ (List.mem_append_right _ (List.mem_of_getElem? (i := 10) rfl)))))
theorem mU_747 : Cond.methodLink RX6 214 yX6_isSheet ∈ wsU := List.mem_append_right _ (List.mem_append_left _ (List.mem_append_left _ (List.mem_append_left _ (List.mem_append_right _ (List.mem_of_getElem? (i := 11) rfl)))))
theorem mU_748 : Cond.static yX6_isSheet ∈ wsU := List.mem_append_right _ (List.mem_append_left _ (List.mem_append_left _ (List.mem_append_left _ (List.mem_append_right _ (List.mem_of_getElem? (i := 12) rfl)))))
theorem mU_749 : Cond.code yX6_isSheet cX6_isSheet 1 (some .boolean) ∈ wsU := List.mem_append_right _ (List.mem_append_left _ (List.mem_append_left _ (List.mem_append_left _ (List.mem_append_right _ (List.mem_of_getElem? (i := 13) rfl)))))
theorem mU_750 : Cond.methodLink RX6 217 yX6_solutionDivisor ∈ wsU := List.mem_append_right _ (List.mem_append_left _ (List.mem_append_left _ (List.mem_append_left _ (List.mem_append_right _ (List.mem_of_getElem? (i := 14) rfl)))))
theorem mU_751 : Cond.instanceMethod yX6_solutionDivisor ∈ wsU := List.mem_append_right _ (List.mem_append_left _ (List.mem_append_left _ (List.mem_append_left _ (List.mem_append_right _ (List.mem_of_getElem? (i := 15) rfl)))))
theorem mU_752 : Cond.selects RX6 yX6_solutionDivisor yX6_solutionDivisor ∈ wsU := List.mem_append_right _ (List.mem_append_left _ (List.mem_append_left _ (List.mem_append_left _ (List.mem_append_right _ (List.mem_of_getElem? (i := 16) rfl)))))
theorem mU_753 : Cond.code yX6_solutionDivisor cX6_solutionDivisor 6 (some .long) ∈ wsU := List.mem_append_right _ (List.mem_append_left _ (List.mem_append_left _ (List.mem_append_left _ (List.mem_append_right _ (List.mem_of_getElem? (i := 17) rfl)))))
theorem mU_754 : Cond.methodLink RX6 220 yX6_isLaidInInts ∈ wsU := List.mem_append_right _ (List.mem_append_left _ (List.mem_append_left _ (List.mem_append_left _ (List.mem_append_right _ (List.mem_of_getElem? (i := 18) rfl)))))
theorem mU_755 : Cond.instanceMethod yX6_isLaidInInts ∈ wsU := List.mem_append_right _ (List.mem_append_left _ (List.mem_append_left _ (List.mem_append_left _ (List.mem_append_right _ (List.mem_of_getElem? (i := 19) rfl)))))
theorem mU_756 : Cond.selects RX6 yX6_isLaidInInts yX6_isLaidInInts ∈ wsU := List.mem_append_right _ (List.mem_append_left _ (List.mem_append_left _ (List.mem_append_left _ (List.mem_append_right _ (List.mem_of_getElem? (i := 20) rfl)))))
theorem mU_757 : Cond.code yX6_isLaidInInts cX6_isLaidInInts 6 (some .boolean) ∈ wsU := List.mem_append_right _ (List.mem_append_left _ (List.mem_append_left _ (List.mem_append_left _ (List.mem_append_right _ (List.mem_of_getElem? (i := 21) rfl)))))
theorem mU_758 : Cond.methodLink RX6 351 yX6_isInt ∈ wsU := List.mem_append_right _ (List.mem_append_left _ (List.mem_append_left _ (List.mem_append_left _ (List.mem_append_right _ (List.mem_of_getElem? (i := 22) rfl)))))
theorem mU_759 : Cond.static yX6_isInt ∈ wsU := List.mem_append_right _ (List.mem_append_left _ (List.mem_append_left _ (List.mem_append_left _ (List.mem_append_right _ (List.mem_of_getElem? (i := 23) rfl)))))
theorem mU_760 : Cond.code yX6_isInt cX6_isInt 2 (some .boolean) ∈ wsU := List.mem_append_right _ (List.mem_append_left _ (List.mem_append_left _ (List.mem_append_left _ (List.mem_append_right _ (List.mem_of_getElem? (i := 24) rfl)))))
theorem mU_761 : Cond.methodLink RX6 224 yX2_renew ∈ wsU := List.mem_append_right _ (List.mem_append_left _ (List.mem_append_left _ (List.mem_append_left _ (List.mem_append_right _ (List.mem_of_getElem? (i := 25) rfl)))))
theorem mU_762 : Cond.instanceMethod yX2_renew ∈ wsU := List.mem_append_right _ (List.mem_append_left _ (List.mem_append_left _ (List.mem_append_left _ (List.mem_append_right _ (List.mem_of_getElem? (i := 26) rfl)))))
theorem mU_763 : Cond.selects RX2 yX2_renew yX2_renew ∈ wsU := List.mem_append_right _ (List.mem_append_left _ (List.mem_append_left _ (List.mem_append_left _ (List.mem_append_right _ (List.mem_of_getElem? (i := 27) rfl)))))
theorem mU_764 : Cond.code yX2_renew cX2_renew 3 none ∈ wsU := List.mem_append_right _ (List.mem_append_left _ (List.mem_append_left _ (List.mem_append_left _ (List.mem_append_right _ (List.mem_of_getElem? (i := 28) rfl)))))
theorem mU_765 : Cond.methodLink RX2 19 Lib.Math.min.name ∈ wsU := List.mem_append_right _ (List.mem_append_left _ (List.mem_append_left _ (List.mem_append_left _ (List.mem_append_right _ (List.mem_of_getElem? (i := 29) rfl)))))
theorem mU_766 : Cond.methodLink RX2 25 Lib.Math.max.name ∈ wsU := List.mem_append_right _ (List.mem_append_left _ (List.mem_append_left _ (List.mem_append_left _ (List.mem_append_right _ (List.mem_of_getElem? (i := 30) rfl)))))
theorem mU_767 : Cond.fieldLink RX2 28 "TwoSidedTables$Sheet" "length" "I" ∈ wsU := List.mem_append_right _ (List.mem_append_left _ (List.mem_append_left _ (List.mem_append_left _ (List.mem_append_right _ (List.mem_of_getElem? (i := 31) rfl)))))
theorem mU_768 : Cond.methodLink RX2 31 yJ7_fill_d0a16 ∈ wsU := List.mem_append_right _ (List.mem_append_left _ (List.mem_append_left _ (List.mem_append_right _ (List.mem_append_left _ (List.mem_of_getElem? (i := 0) rfl)))))
theorem mU_769 : Cond.methodLink RX6 227 yX2_write ∈ wsU := List.mem_append_right _ (List.mem_append_left _ (List.mem_append_left _ (List.mem_append_right _ (List.mem_append_left _ (List.mem_of_getElem? (i := 1) rfl)))))
theorem mU_770 : Cond.instanceMethod yX2_write ∈ wsU := List.mem_append_right _ (List.mem_append_left _ (List.mem_append_left _ (List.mem_append_right _ (List.mem_append_left _ (List.mem_of_getElem? (i := 2) rfl)))))
theorem mU_771 : Cond.selects RX2 yX2_write yX2_write ∈ wsU := List.mem_append_right _ (List.mem_append_left _ (List.mem_append_left _ (List.mem_append_right _ (List.mem_append_left _ (List.mem_of_getElem? (i := 3) rfl)))))
theorem mU_772 : Cond.code yX2_write cX2_write 4 none ∈ wsU := List.mem_append_right _ (List.mem_append_left _ (List.mem_append_left _ (List.mem_append_right _ (List.mem_append_left _ (List.mem_of_getElem? (i := 4) rfl)))))
theorem mU_773 : Cond.methodLink RX2 37 yX2_narrowed ∈ wsU := List.mem_append_right _ (List.mem_append_left _ (List.mem_append_left _ (List.mem_append_right _ (List.mem_append_left _ (List.mem_of_getElem? (i := 5) rfl)))))
theorem mU_774 : Cond.instanceMethod yX2_narrowed ∈ wsU := List.mem_append_right _ (List.mem_append_left _ (List.mem_append_left _ (List.mem_append_right _ (List.mem_append_left _ (List.mem_of_getElem? (i := 6) rfl)))))
theorem mU_775 : Cond.selects RX2 yX2_narrowed yX2_narrowed ∈ wsU := List.mem_append_right _ (List.mem_append_left _ (List.mem_append_left _ (List.mem_append_right _ (List.mem_append_left _ (List.mem_of_getElem? (i := 7) rfl)))))
theorem mU_776 : Cond.code yX2_narrowed cX2_narrowed 3 (some .long) ∈ wsU := List.mem_append_right _ (List.mem_append_left _ (List.mem_append_left _ (List.mem_append_right _ (List.mem_append_left _ (List.mem_of_getElem? (i := 8) rfl)))))
theorem mU_777 : Cond.methodLink RL 109 yX7_lay ∈ wsU := List.mem_append_right _ (List.mem_append_left _ (List.mem_append_left _ (List.mem_append_right _ (List.mem_append_left _ (List.mem_of_getElem? (i := 9) rfl)))))
theorem mU_778 : Cond.instanceMethod yX7_lay ∈ wsU := List.mem_append_right _ (List.mem_append_left _ (List.mem_append_left _ (List.mem_append_right _ (List.mem_append_left _ (List.mem_of_getElem? (i := 10) rfl)))))
theorem mU_779 : Cond.selects RX7 yX7_lay yX7_lay ∈ wsU := List.mem_append_right _ (List.mem_append_left _ (List.mem_append_left _ (List.mem_append_right _ (List.mem_append_left _ (List.mem_of_getElem? (i := 11) rfl)))))
theorem mU_780 : Cond.code yX7_lay cX7_lay 10 (some .int) ∈ wsU := List.mem_append_right _ (List.mem_append_left _ (List.mem_append_left _ (List.mem_append_right _ (List.mem_append_left _ (List.mem_of_getElem? (i := 12) rfl)))))
theorem mU_781 : Cond.methodLink RX7 303 yX7_isSheet ∈ wsU := List.mem_append_right _ (List.mem_append_left _ (List.mem_append_left _ (List.mem_append_right _ (List.mem_append_left _ (List.mem_of_getElem? (i := 13) rfl)))))
theorem mU_782 : Cond.static yX7_isSheet ∈ wsU := List.mem_append_right _ (List.mem_append_left _ (List.mem_append_left _ (List.mem_append_right _ (List.mem_append_left _ (List.mem_of_getElem? (i := 14) rfl)))))
theorem mU_783 : Cond.code yX7_isSheet cX7_isSheet 1 (some .boolean) ∈ wsU := List.mem_append_right _ (List.mem_append_left _ (List.mem_append_left _ (List.mem_append_right _ (List.mem_append_left _ (List.mem_of_getElem? (i := 15) rfl)))))
theorem mU_784 : Cond.methodLink RX7 306 yX7_leastScale ∈ wsU := List.mem_append_right _ (List.mem_append_left _ (List.mem_append_left _ (List.mem_append_right _ (List.mem_append_left _ (List.mem_of_getElem? (i := 16) rfl)))))
theorem mU_785 : Cond.instanceMethod yX7_leastScale ∈ wsU := List.mem_append_right _ (List.mem_append_left _ (List.mem_append_left _ (List.mem_append_right _ (List.mem_append_left _ (List.mem_of_getElem? (i := 17) rfl)))))
theorem mU_786 : Cond.selects RX7 yX7_leastScale yX7_leastScale ∈ wsU := List.mem_append_right _ (List.mem_append_left _ (List.mem_append_left _ (List.mem_append_right _ (List.mem_append_left _ (List.mem_of_getElem? (i := 18) rfl)))))
theorem mU_787 : Cond.code yX7_leastScale cX7_leastScale 7 (some .long) ∈ wsU := List.mem_append_right _ (List.mem_append_left _ (List.mem_append_left _ (List.mem_append_right _ (List.mem_append_left _ (List.mem_of_getElem? (i := 19) rfl)))))
theorem mU_788 : Cond.methodLink RL 110 yX6_judge ∈ wsU := List.mem_append_right _ (List.mem_append_left _ (List.mem_append_left _ (List.mem_append_right _ (List.mem_append_left _ (List.mem_of_getElem? (i := 20) rfl)))))
theorem mU_789 : Cond.instanceMethod yX6_judge ∈ wsU := List.mem_append_right _ (List.mem_append_left _ (List.mem_append_left _ (List.mem_append_right _ (List.mem_append_left _ (List.mem_of_getElem? (i := 21) rfl)))))
theorem mU_790 : Cond.selects RX6 yX6_judge yX6_judge ∈ wsU := List.mem_append_right _ (List.mem_append_left _ (List.mem_append_left _ (List.mem_append_right _ (List.mem_append_left _ (List.mem_of_getElem? (i := 22) rfl)))))
theorem mU_791 : Cond.code yX6_judge cX6_judge 8 (some .int) ∈ wsU := List.mem_append_right _ (List.mem_append_left _ (List.mem_append_left _ (List.mem_append_right _ (List.mem_append_left _ (List.mem_of_getElem? (i := 23) rfl)))))
theorem mU_792 : Cond.methodLink RX6 231 yX6_unreadable ∈ wsU := List.mem_append_right _ (List.mem_append_left _ (List.mem_append_left _ (List.mem_append_right _ (List.mem_append_left _ (List.mem_of_getElem? (i := 24) rfl)))))
theorem mU_793 : Cond.instanceMethod yX6_unreadable ∈ wsU := List.mem_append_right _ (List.mem_append_left _ (List.mem_append_left _ (List.mem_append_right _ (List.mem_append_left _ (List.mem_of_getElem? (i := 25) rfl)))))
theorem mU_794 : Cond.selects RX6 yX6_unreadable yX6_unreadable ∈ wsU := List.mem_append_right _ (List.mem_append_left _ (List.mem_append_left _ (List.mem_append_right _ (List.mem_append_left _ (List.mem_of_getElem? (i := 26) rfl)))))
theorem mU_795 : Cond.code yX6_unreadable cX6_unreadable 2 (some .int) ∈ wsU := List.mem_append_right _ (List.mem_append_left _ (List.mem_append_left _ (List.mem_append_right _ (List.mem_append_left _ (List.mem_of_getElem? (i := 27) rfl)))))
theorem mU_796 : Cond.fieldLink RX6 252 "TwoSidedTables$Sheet" "sort" "I" ∈ wsU := List.mem_append_right _ (List.mem_append_left _ (List.mem_append_left _ (List.mem_append_right _ (List.mem_append_left _ (List.mem_of_getElem? (i := 28) rfl)))))
theorem mU_797 : Cond.fieldLink RX6 255 "TwoSidedTables$Sheet" "length" "I" ∈ wsU := List.mem_append_right _ (List.mem_append_left _ (List.mem_append_left _ (List.mem_append_right _ (List.mem_append_left _ (List.mem_of_getElem? (i := 29) rfl)))))
theorem mU_798 : Cond.methodLink RX6 235 yX6_firstWrong ∈ wsU := List.mem_append_right _ (List.mem_append_left _ (List.mem_append_left _ (List.mem_append_right _ (List.mem_append_left _ (List.mem_of_getElem? (i := 30) rfl)))))
theorem mU_799 : Cond.instanceMethod yX6_firstWrong ∈ wsU := List.mem_append_right _ (List.mem_append_left _ (List.mem_append_left _ (List.mem_append_right _ (List.mem_append_left _ (List.mem_of_getElem? (i := 31) rfl)))))
theorem mU_800 : Cond.selects RX6 yX6_firstWrong yX6_firstWrong ∈ wsU := List.mem_append_right _ (List.mem_append_left _ (List.mem_append_left _ (List.mem_append_right _ (List.mem_append_right _ (List.mem_append_left _ (List.mem_of_getElem? (i := 0) rfl))))))
theorem mU_801 : Cond.code yX6_firstWrong cX6_firstWrong 7 (some .int) ∈ wsU := List.mem_append_right _ (List.mem_append_left _ (List.mem_append_left _ (List.mem_append_right _ (List.mem_append_right _ (List.mem_append_left _ (List.mem_of_getElem? (i := 1) rfl))))))
theorem mU_802 : Cond.methodLink RX6 355 yX6_sumAt ∈ wsU := List.mem_append_right _ (List.mem_append_left _ (List.mem_append_left _ (List.mem_append_right _ (List.mem_append_right _ (List.mem_append_left _ (List.mem_of_getElem? (i := 2) rfl))))))
theorem mU_803 : Cond.instanceMethod yX6_sumAt ∈ wsU := List.mem_append_right _ (List.mem_append_left _ (List.mem_append_left _ (List.mem_append_right _ (List.mem_append_right _ (List.mem_append_left _ (List.mem_of_getElem? (i := 3) rfl))))))
theorem mU_804 : Cond.selects RX6 yX6_sumAt yX6_sumAt ∈ wsU := List.mem_append_right _ (List.mem_append_left _ (List.mem_append_left _ (List.mem_append_right _ (List.mem_append_right _ (List.mem_append_left _ (List.mem_of_getElem? (i := 4) rfl))))))
theorem mU_805 : Cond.code yX6_sumAt cX6_sumAt 9 (some .long) ∈ wsU := List.mem_append_right _ (List.mem_append_left _ (List.mem_append_left _ (List.mem_append_right _ (List.mem_append_right _ (List.mem_append_left _ (List.mem_of_getElem? (i := 5) rfl))))))
theorem mU_806 : Cond.methodLink RX6 258 yX2_read ∈ wsU := List.mem_append_right _ (List.mem_append_left _ (List.mem_append_left _ (List.mem_append_right _ (List.mem_append_right _ (List.mem_append_left _ (List.mem_of_getElem? (i := 6) rfl))))))
theorem mU_807 : Cond.instanceMethod yX2_read ∈ wsU := List.mem_append_right _ (List.mem_append_left _ (List.mem_append_left _ (List.mem_append_right _ (List.mem_append_right _ (List.mem_append_left _ (List.mem_of_getElem? (i := 7) rfl))))))
theorem mU_808 : Cond.selects RX2 yX2_read yX2_read ∈ wsU := List.mem_append_right _ (List.mem_append_left _ (List.mem_append_left _ (List.mem_append_right _ (List.mem_append_right _ (List.mem_append_left _ (List.mem_of_getElem? (i := 8) rfl))))))
theorem mU_809 : Cond.code yX2_read cX2_read 2 (some .long) ∈ wsU := List.mem_append_right _ (List.mem_append_left _ (List.mem_append_left _ (List.mem_append_right _ (List.mem_append_right _ (List.mem_append_left _ (List.mem_of_getElem? (i := 9) rfl))))))
theorem mU_810 : Cond.methodLink RX6 239 yX6_isOfShape ∈ wsU := List.mem_append_right _ (List.mem_append_left _ (List.mem_append_left _ (List.mem_append_right _ (List.mem_append_right _ (List.mem_append_left _ (List.mem_of_getElem? (i := 10) rfl))))))
theorem mU_811 : Cond.instanceMethod yX6_isOfShape ∈ wsU := List.mem_append_right _ (List.mem_append_left _ (List.mem_append_left _ (List.mem_append_right _ (List.mem_append_right _ (List.mem_append_left _ (List.mem_of_getElem? (i := 11) rfl))))))
theorem mU_812 : Cond.selects RX6 yX6_isOfShape yX6_isOfShape ∈ wsU := List.mem_append_right _ (List.mem_append_left _ (List.mem_append_left _ (List.mem_append_right _ (List.mem_append_right _ (List.mem_append_left _ (List.mem_of_getElem? (i := 12) rfl))))))
theorem mU_813 : Cond.code yX6_isOfShape cX6_isOfShape 10 (some .boolean) ∈ wsU := List.mem_append_right _ (List.mem_append_left _ (List.mem_append_left _ (List.mem_append_right _ (List.mem_append_right _ (List.mem_append_left _ (List.mem_of_getElem? (i := 13) rfl))))))
theorem mU_814 : Cond.methodLink RL 113 yX7_judge ∈ wsU := List.mem_append_right _ (List.mem_append_left _ (List.mem_append_left _ (List.mem_append_right _ (List.mem_append_right _ (List.mem_append_left _ (List.mem_of_getElem? (i := 14) rfl))))))
theorem mU_815 : Cond.instanceMethod yX7_judge ∈ wsU := List.mem_append_right _ (List.mem_append_left _ (List.mem_append_left _ (List.mem_append_right _ (List.mem_append_right _ (List.mem_append_left _ (List.mem_of_getElem? (i := 15) rfl))))))
theorem mU_816 : Cond.selects RX7 yX7_judge yX7_judge ∈ wsU := List.mem_append_right _ (List.mem_append_left _ (List.mem_append_left _ (List.mem_append_right _ (List.mem_append_right _ (List.mem_append_left _ (List.mem_of_getElem? (i := 16) rfl))))))
theorem mU_817 : Cond.code yX7_judge cX7_judge 5 (some .int) ∈ wsU := List.mem_append_right _ (List.mem_append_left _ (List.mem_append_left _ (List.mem_append_right _ (List.mem_append_right _ (List.mem_append_left _ (List.mem_of_getElem? (i := 17) rfl))))))
theorem mU_818 : Cond.methodLink RX7 309 yX7_against ∈ wsU := List.mem_append_right _ (List.mem_append_left _ (List.mem_append_left _ (List.mem_append_right _ (List.mem_append_right _ (List.mem_append_left _ (List.mem_of_getElem? (i := 18) rfl))))))
theorem mU_819 : Cond.instanceMethod yX7_against ∈ wsU := List.mem_append_right _ (List.mem_append_left _ (List.mem_append_left _ (List.mem_append_right _ (List.mem_append_right _ (List.mem_append_left _ (List.mem_of_getElem? (i := 19) rfl))))))
theorem mU_820 : Cond.selects RX7 yX7_against yX7_against ∈ wsU := List.mem_append_right _ (List.mem_append_left _ (List.mem_append_left _ (List.mem_append_right _ (List.mem_append_right _ (List.mem_append_left _ (List.mem_of_getElem? (i := 20) rfl))))))
theorem mU_821 : Cond.code yX7_against cX7_against 2 (some .int) ∈ wsU := List.mem_append_right _ (List.mem_append_left _ (List.mem_append_left _ (List.mem_append_right _ (List.mem_append_right _ (List.mem_append_left _ (List.mem_of_getElem? (i := 21) rfl))))))
theorem mU_822 : Cond.methodLink RX7 312 yX7_firstOff ∈ wsU := List.mem_append_right _ (List.mem_append_left _ (List.mem_append_left _ (List.mem_append_right _ (List.mem_append_right _ (List.mem_append_left _ (List.mem_of_getElem? (i := 22) rfl))))))
theorem mU_823 : Cond.instanceMethod yX7_firstOff ∈ wsU := List.mem_append_right _ (List.mem_append_left _ (List.mem_append_left _ (List.mem_append_right _ (List.mem_append_right _ (List.mem_append_left _ (List.mem_of_getElem? (i := 23) rfl))))))
theorem mU_824 : Cond.selects RX7 yX7_firstOff yX7_firstOff ∈ wsU := List.mem_append_right _ (List.mem_append_left _ (List.mem_append_left _ (List.mem_append_right _ (List.mem_append_right _ (List.mem_append_left _ (List.mem_of_getElem? (i := 24) rfl))))))
theorem mU_825 : Cond.code yX7_firstOff cX7_firstOff 9 (some .int) ∈ wsU := List.mem_append_right _ (List.mem_append_left _ (List.mem_append_left _ (List.mem_append_right _ (List.mem_append_right _ (List.mem_append_left _ (List.mem_of_getElem? (i := 25) rfl))))))
theorem mU_826 : Cond.methodLink RX7 316 yX7_isShaped ∈ wsU := List.mem_append_right _ (List.mem_append_left _ (List.mem_append_left _ (List.mem_append_right _ (List.mem_append_right _ (List.mem_append_left _ (List.mem_of_getElem? (i := 26) rfl))))))
theorem mU_827 : Cond.instanceMethod yX7_isShaped ∈ wsU := List.mem_append_right _ (List.mem_append_left _ (List.mem_append_left _ (List.mem_append_right _ (List.mem_append_right _ (List.mem_append_left _ (List.mem_of_getElem? (i := 27) rfl))))))
theorem mU_828 : Cond.selects RX7 yX7_isShaped yX7_isShaped ∈ wsU := List.mem_append_right _ (List.mem_append_left _ (List.mem_append_left _ (List.mem_append_right _ (List.mem_append_right _ (List.mem_append_left _ (List.mem_of_getElem? (i := 28) rfl))))))
theorem mU_829 : Cond.code yX7_isShaped cX7_isShaped 11 (some .boolean) ∈ wsU := List.mem_append_right _ (List.mem_append_left _ (List.mem_append_left _ (List.mem_append_right _ (List.mem_append_right _ (List.mem_append_left _ (List.mem_of_getElem? (i := 29) rfl))))))
theorem mU_830 : Cond.methodLink RL 114 yX6_kinds ∈ wsU := List.mem_append_right _ (List.mem_append_left _ (List.mem_append_left _ (List.mem_append_right _ (List.mem_append_right _ (List.mem_append_left _ (List.mem_of_getElem? (i := 30) rfl))))))
theorem mU_831 : Cond.instanceMethod yX6_kinds ∈ wsU := List.mem_append_right _ (List.mem_append_left _ (List.mem_append_left _ (List.mem_append_right _ (List.mem_append_right _ (List.mem_append_left _ (List.mem_of_getElem? (i := 31) rfl))))))
theorem mU_832 : Cond.selects RX6 yX6_kinds yX6_kinds ∈ wsU := List.mem_append_right _ (List.mem_append_left _ (List.mem_append_left _ (List.mem_append_right _ (List.mem_append_right _ (List.mem_append_right _ (List.mem_of_getElem? (i := 0) rfl))))))
theorem mU_833 : Cond.code yX6_kinds cX6_kinds 7 (some .int) ∈ wsU := List.mem_append_right _ (List.mem_append_left _ (List.mem_append_left _ (List.mem_append_right _ (List.mem_append_right _ (List.mem_append_right _ (List.mem_of_getElem? (i := 1) rfl))))))
theorem mU_834 : Cond.methodLink RL 117 yX7_kinds ∈ wsU := List.mem_append_right _ (List.mem_append_left _ (List.mem_append_left _ (List.mem_append_right _ (List.mem_append_right _ (List.mem_append_right _ (List.mem_of_getElem? (i := 2) rfl))))))
theorem mU_835 : Cond.instanceMethod yX7_kinds ∈ wsU := List.mem_append_right _ (List.mem_append_left _ (List.mem_append_left _ (List.mem_append_right _ (List.mem_append_right _ (List.mem_append_right _ (List.mem_of_getElem? (i := 3) rfl))))))
theorem mU_836 : Cond.selects RX7 yX7_kinds yX7_kinds ∈ wsU := List.mem_append_right _ (List.mem_append_left _ (List.mem_append_left _ (List.mem_append_right _ (List.mem_append_right _ (List.mem_append_right _ (List.mem_of_getElem? (i := 4) rfl))))))
theorem mU_837 : Cond.code yX7_kinds cX7_kinds 5 (some .int) ∈ wsU := List.mem_append_right _ (List.mem_append_left _ (List.mem_append_left _ (List.mem_append_right _ (List.mem_append_right _ (List.mem_append_right _ (List.mem_of_getElem? (i := 5) rfl))))))
theorem mU_838 : Cond.methodLink RL 118 yX6_ratio ∈ wsU := List.mem_append_right _ (List.mem_append_left _ (List.mem_append_left _ (List.mem_append_right _ (List.mem_append_right _ (List.mem_append_right _ (List.mem_of_getElem? (i := 6) rfl))))))
theorem mU_839 : Cond.instanceMethod yX6_ratio ∈ wsU := List.mem_append_right _ (List.mem_append_left _ (List.mem_append_left _ (List.mem_append_right _ (List.mem_append_right _ (List.mem_append_right _ (List.mem_of_getElem? (i := 7) rfl))))))
theorem mU_840 : Cond.selects RX6 yX6_ratio yX6_ratio ∈ wsU := List.mem_append_right _ (List.mem_append_left _ (List.mem_append_left _ (List.mem_append_right _ (List.mem_append_right _ (List.mem_append_right _ (List.mem_of_getElem? (i := 8) rfl))))))
theorem mU_841 : Cond.code yX6_ratio cX6_ratio 6 (some .long) ∈ wsU := List.mem_append_right _ (List.mem_append_left _ (List.mem_append_left _ (List.mem_append_right _ (List.mem_append_right _ (List.mem_append_right _ (List.mem_of_getElem? (i := 9) rfl))))))
theorem mU_842 : Cond.methodLink RL 122 yX7_ratio ∈ wsU := List.mem_append_right _ (List.mem_append_left _ (List.mem_append_left _ (List.mem_append_right _ (List.mem_append_right _ (List.mem_append_right _ (List.mem_of_getElem? (i := 10) rfl))))))
theorem mU_843 : Cond.instanceMethod yX7_ratio ∈ wsU := List.mem_append_right _ (List.mem_append_left _ (List.mem_append_left _ (List.mem_append_right _ (List.mem_append_right _ (List.mem_append_right _ (List.mem_of_getElem? (i := 11) rfl))))))
theorem mU_844 : Cond.selects RX7 yX7_ratio yX7_ratio ∈ wsU := List.mem_append_right _ (List.mem_append_left _ (List.mem_append_left _ (List.mem_append_right _ (List.mem_append_right _ (List.mem_append_right _ (List.mem_of_getElem? (i := 12) rfl))))))
theorem mU_845 : Cond.code yX7_ratio cX7_ratio 17 (some .long) ∈ wsU := List.mem_append_right _ (List.mem_append_left _ (List.mem_append_left _ (List.mem_append_right _ (List.mem_append_right _ (List.mem_append_right _ (List.mem_of_getElem? (i := 13) rfl))))))
theorem mU_846 : Cond.constantLong RX7 321 (-9223372036854775808) ∈ wsU := List.mem_append_right _ (List.mem_append_left _ (List.mem_append_left _ (List.mem_append_right _ (List.mem_append_right _ (List.mem_append_right _ (List.mem_of_getElem? (i := 14) rfl))))))
theorem mU_847 : Cond.constantLong RX7 323 (-1) ∈ wsU := List.mem_append_right _ (List.mem_append_left _ (List.mem_append_left _ (List.mem_append_right _ (List.mem_append_right _ (List.mem_append_right _ (List.mem_of_getElem? (i := 15) rfl))))))
theorem mU_848 : Cond.methodLink RL 123 yX6_seed ∈ wsU := List.mem_append_right _ (List.mem_append_left _ (List.mem_append_left _ (List.mem_append_right _ (List.mem_append_right _ (List.mem_append_right _ (List.mem_of_getElem? (i := 16) rfl))))))
theorem mU_849 : Cond.instanceMethod yX6_seed ∈ wsU := List.mem_append_right _ (List.mem_append_left _ (List.mem_append_left _ (List.mem_append_right _ (List.mem_append_right _ (List.mem_append_right _ (List.mem_of_getElem? (i := 17) rfl))))))
theorem mU_850 : Cond.selects RX6 yX6_seed yX6_seed ∈ wsU := List.mem_append_right _ (List.mem_append_left _ (List.mem_append_left _ (List.mem_append_right _ (List.mem_append_right _ (List.mem_append_right _ (List.mem_of_getElem? (i := 18) rfl))))))
theorem mU_851 : Cond.code yX6_seed cX6_seed 3 (some .int) ∈ wsU := List.mem_append_right _ (List.mem_append_left _ (List.mem_append_left _ (List.mem_append_right _ (List.mem_append_right _ (List.mem_append_right _ (List.mem_of_getElem? (i := 19) rfl))))))
theorem mU_852 : Cond.fieldLink RX6 243 "TwoSidedTables$State" "z" "I" ∈ wsU := List.mem_append_right _ (List.mem_append_left _ (List.mem_append_left _ (List.mem_append_right _ (List.mem_append_right _ (List.mem_append_right _ (List.mem_of_getElem? (i := 20) rfl))))))
theorem mU_853 : Cond.methodLink RL 126 yX7_seed ∈ wsU := List.mem_append_right _ (List.mem_append_left _ (List.mem_append_left _ (List.mem_append_right _ (List.mem_append_right _ (List.mem_append_right _ (List.mem_of_getElem? (i := 21) rfl))))))
theorem mU_854 : Cond.instanceMethod yX7_seed ∈ wsU := List.mem_append_right _ (List.mem_append_left _ (List.mem_append_left _ (List.mem_append_right _ (List.mem_append_right _ (List.mem_append_right _ (List.mem_of_getElem? (i := 22) rfl))))))
theorem mU_855 : Cond.selects RX7 yX7_seed yX7_seed ∈ wsU := List.mem_append_right _ (List.mem_append_left _ (List.mem_append_left _ (List.mem_append_right _ (List.mem_append_right _ (List.mem_append_right _ (List.mem_of_getElem? (i := 23) rfl))))))
theorem mU_856 : Cond.code yX7_seed cX7_seed 3 (some .int) ∈ wsU := List.mem_append_right _ (List.mem_append_left _ (List.mem_append_left _ (List.mem_append_right _ (List.mem_append_right _ (List.mem_append_right _ (List.mem_of_getElem? (i := 24) rfl))))))
theorem mU_857 : Cond.methodLink RL 127 yX6_lot ∈ wsU := List.mem_append_right _ (List.mem_append_left _ (List.mem_append_left _ (List.mem_append_right _ (List.mem_append_right _ (List.mem_append_right _ (List.mem_of_getElem? (i := 25) rfl))))))
theorem mU_858 : Cond.instanceMethod yX6_lot ∈ wsU := List.mem_append_right _ (List.mem_append_left _ (List.mem_append_left _ (List.mem_append_right _ (List.mem_append_right _ (List.mem_append_right _ (List.mem_of_getElem? (i := 26) rfl))))))
theorem mU_859 : Cond.selects RX6 yX6_lot yX6_lot ∈ wsU := List.mem_append_right _ (List.mem_append_left _ (List.mem_append_left _ (List.mem_append_right _ (List.mem_append_right _ (List.mem_append_right _ (List.mem_of_getElem? (i := 27) rfl))))))
theorem mU_860 : Cond.code yX6_lot cX6_lot 1 (some .int) ∈ wsU := List.mem_append_right _ (List.mem_append_left _ (List.mem_append_left _ (List.mem_append_right _ (List.mem_append_right _ (List.mem_append_right _ (List.mem_of_getElem? (i := 28) rfl))))))
theorem mU_861 : Cond.methodLink RX6 246 yX4_draw ∈ wsU := List.mem_append_right _ (List.mem_append_left _ (List.mem_append_left _ (List.mem_append_right _ (List.mem_append_right _ (List.mem_append_right _ (List.mem_of_getElem? (i := 29) rfl))))))
theorem mU_862 : Cond.instanceMethod yX4_draw ∈ wsU := List.mem_append_right _ (List.mem_append_left _ (List.mem_append_left _ (List.mem_append_right _ (List.mem_append_right _ (List.mem_append_right _ (List.mem_of_getElem? (i := 30) rfl))))))
theorem mU_863 : Cond.selects RX4 yX4_draw yX4_draw ∈ wsU := List.mem_append_right _ (List.mem_append_left _ (List.mem_append_left _ (List.mem_append_right _ (List.mem_append_right _ (List.mem_append_right _ (List.mem_of_getElem? (i := 31) rfl))))))
theorem mU_864 : Cond.code yX4_draw cX4_draw 1 none ∈ wsU := List.mem_append_right _ (List.mem_append_left _ (List.mem_append_right _ (List.mem_append_left _ (List.mem_append_left _ (List.mem_of_getElem? (i := 0) rfl)))))
theorem mU_865 : Cond.methodLink RX4 75 yX4_drawTable ∈ wsU := List.mem_append_right _ (List.mem_append_left _ (List.mem_append_right _ (List.mem_append_left _ (List.mem_append_left _ (List.mem_of_getElem? (i := 1) rfl)))))
theorem mU_866 : Cond.instanceMethod yX4_drawTable ∈ wsU := List.mem_append_right _ (List.mem_append_left _ (List.mem_append_right _ (List.mem_append_left _ (List.mem_append_left _ (List.mem_of_getElem? (i := 2) rfl)))))
theorem mU_867 : Cond.selects RX4 yX4_drawTable yX4_drawTable ∈ wsU := List.mem_append_right _ (List.mem_append_left _ (List.mem_append_right _ (List.mem_append_left _ (List.mem_append_left _ (List.mem_of_getElem? (i := 3) rfl)))))
theorem mU_868 : Cond.code yX4_drawTable cX4_drawTable 4 none ∈ wsU := List.mem_append_right _ (List.mem_append_left _ (List.mem_append_right _ (List.mem_append_left _ (List.mem_append_left _ (List.mem_of_getElem? (i := 4) rfl)))))
theorem mU_869 : Cond.constant RX4 79 (1103515245) ∈ wsU := List.mem_append_right _ (List.mem_append_left _ (List.mem_append_right _ (List.mem_append_left _ (List.mem_append_left _ (List.mem_of_getElem? (i := 5) rfl)))))
theorem mU_870 : Cond.methodLink RX4 80 yX4_store ∈ wsU := List.mem_append_right _ (List.mem_append_left _ (List.mem_append_right _ (List.mem_append_left _ (List.mem_append_left _ (List.mem_of_getElem? (i := 6) rfl)))))
theorem mU_871 : Cond.methodLink RL 130 yX7_lot ∈ wsU := List.mem_append_right _ (List.mem_append_left _ (List.mem_append_right _ (List.mem_append_left _ (List.mem_append_left _ (List.mem_of_getElem? (i := 7) rfl)))))
theorem mU_872 : Cond.instanceMethod yX7_lot ∈ wsU := List.mem_append_right _ (List.mem_append_left _ (List.mem_append_right _ (List.mem_append_left _ (List.mem_append_left _ (List.mem_of_getElem? (i := 8) rfl)))))
theorem mU_873 : Cond.selects RX7 yX7_lot yX7_lot ∈ wsU := List.mem_append_right _ (List.mem_append_left _ (List.mem_append_right _ (List.mem_append_left _ (List.mem_append_left _ (List.mem_of_getElem? (i := 9) rfl)))))
theorem mU_874 : Cond.code yX7_lot cX7_lot 1 (some .int) ∈ wsU := List.mem_append_right _ (List.mem_append_left _ (List.mem_append_right _ (List.mem_append_left _ (List.mem_append_left _ (List.mem_of_getElem? (i := 10) rfl)))))
theorem mU_875 : Cond.methodLink RX7 326 yX7_lots ∈ wsU := List.mem_append_right _ (List.mem_append_left _ (List.mem_append_right _ (List.mem_append_left _ (List.mem_append_left _ (List.mem_of_getElem? (i := 11) rfl)))))
theorem mU_876 : Cond.instanceMethod yX7_lots ∈ wsU := List.mem_append_right _ (List.mem_append_left _ (List.mem_append_right _ (List.mem_append_left _ (List.mem_append_left _ (List.mem_of_getElem? (i := 12) rfl)))))
theorem mU_877 : Cond.selects RX7 yX7_lots yX7_lots ∈ wsU := List.mem_append_right _ (List.mem_append_left _ (List.mem_append_right _ (List.mem_append_left _ (List.mem_append_left _ (List.mem_of_getElem? (i := 13) rfl)))))
theorem mU_878 : Cond.code yX7_lots cX7_lots 4 none ∈ wsU := List.mem_append_right _ (List.mem_append_left _ (List.mem_append_right _ (List.mem_append_left _ (List.mem_append_left _ (List.mem_of_getElem? (i := 14) rfl)))))
theorem mU_879 : Cond.constant RX7 325 (1103515245) ∈ wsU := List.mem_append_right _ (List.mem_append_left _ (List.mem_append_right _ (List.mem_append_left _ (List.mem_append_left _ (List.mem_of_getElem? (i := 15) rfl)))))
theorem mU_880 : Cond.methodLink RL 131 yX6_times ∈ wsU := List.mem_append_right _ (List.mem_append_left _ (List.mem_append_right _ (List.mem_append_left _ (List.mem_append_left _ (List.mem_of_getElem? (i := 16) rfl)))))
theorem mU_881 : Cond.instanceMethod yX6_times ∈ wsU := List.mem_append_right _ (List.mem_append_left _ (List.mem_append_right _ (List.mem_append_left _ (List.mem_append_left _ (List.mem_of_getElem? (i := 17) rfl)))))
theorem mU_882 : Cond.selects RX6 yX6_times yX6_times ∈ wsU := List.mem_append_right _ (List.mem_append_left _ (List.mem_append_right _ (List.mem_append_left _ (List.mem_append_left _ (List.mem_of_getElem? (i := 18) rfl)))))
theorem mU_883 : Cond.code yX6_times cX6_times 5 (some .int) ∈ wsU := List.mem_append_right _ (List.mem_append_left _ (List.mem_append_right _ (List.mem_append_left _ (List.mem_append_left _ (List.mem_of_getElem? (i := 19) rfl)))))
theorem mU_884 : Cond.methodLink RL 134 yX7_times ∈ wsU := List.mem_append_right _ (List.mem_append_left _ (List.mem_append_right _ (List.mem_append_left _ (List.mem_append_left _ (List.mem_of_getElem? (i := 20) rfl)))))
theorem mU_885 : Cond.instanceMethod yX7_times ∈ wsU := List.mem_append_right _ (List.mem_append_left _ (List.mem_append_right _ (List.mem_append_left _ (List.mem_append_left _ (List.mem_of_getElem? (i := 21) rfl)))))
theorem mU_886 : Cond.selects RX7 yX7_times yX7_times ∈ wsU := List.mem_append_right _ (List.mem_append_left _ (List.mem_append_right _ (List.mem_append_left _ (List.mem_append_left _ (List.mem_of_getElem? (i := 22) rfl)))))
theorem mU_887 : Cond.code yX7_times cX7_times 5 (some .int) ∈ wsU := List.mem_append_right _ (List.mem_append_left _ (List.mem_append_right _ (List.mem_append_left _ (List.mem_append_left _ (List.mem_of_getElem? (i := 23) rfl)))))
theorem mU_888 : Cond.constantLong RX7 329 (30) ∈ wsU := List.mem_append_right _ (List.mem_append_left _ (List.mem_append_right _ (List.mem_append_left _ (List.mem_append_left _ (List.mem_of_getElem? (i := 24) rfl)))))
theorem mU_889 : Cond.methodLink RL 135 yX6_sheet ∈ wsU := List.mem_append_right _ (List.mem_append_left _ (List.mem_append_right _ (List.mem_append_left _ (List.mem_append_left _ (List.mem_of_getElem? (i := 25) rfl)))))
theorem mU_890 : Cond.instanceMethod yX6_sheet ∈ wsU := List.mem_append_right _ (List.mem_append_left _ (List.mem_append_right _ (List.mem_append_left _ (List.mem_append_left _ (List.mem_of_getElem? (i := 26) rfl)))))
theorem mU_891 : Cond.selects RX6 yX6_sheet yX6_sheet ∈ wsU := List.mem_append_right _ (List.mem_append_left _ (List.mem_append_right _ (List.mem_append_left _ (List.mem_append_left _ (List.mem_of_getElem? (i := 27) rfl)))))
theorem mU_892 : Cond.code yX6_sheet cX6_sheet 4 (some .int) ∈ wsU := List.mem_append_right _ (List.mem_append_left _ (List.mem_append_right _ (List.mem_append_left _ (List.mem_append_left _ (List.mem_of_getElem? (i := 28) rfl)))))
theorem mU_893 : Cond.methodLink RX6 249 yX6_isSort ∈ wsU := List.mem_append_right _ (List.mem_append_left _ (List.mem_append_right _ (List.mem_append_left _ (List.mem_append_left _ (List.mem_of_getElem? (i := 29) rfl)))))
theorem mU_894 : Cond.static yX6_isSort ∈ wsU := List.mem_append_right _ (List.mem_append_left _ (List.mem_append_right _ (List.mem_append_left _ (List.mem_append_left _ (List.mem_of_getElem? (i := 30) rfl)))))
theorem mU_895 : Cond.code yX6_isSort cX6_isSort 1 (some .boolean) ∈ wsU := List.mem_append_right _ (List.mem_append_left _ (List.mem_append_right _ (List.mem_append_left _ (List.mem_append_left _ (List.mem_of_getElem? (i := 31) rfl)))))
theorem mU_896 : Cond.methodLink RL 138 yX7_sheet ∈ wsU := List.mem_append_right _ (List.mem_append_left _ (List.mem_append_right _ (List.mem_append_left _ (List.mem_append_right _ (List.mem_append_left _ (List.mem_of_getElem? (i := 0) rfl))))))
theorem mU_897 : Cond.instanceMethod yX7_sheet ∈ wsU := List.mem_append_right _ (List.mem_append_left _ (List.mem_append_right _ (List.mem_append_left _ (List.mem_append_right _ (List.mem_append_left _ (List.mem_of_getElem? (i := 1) rfl))))))
theorem mU_898 : Cond.selects RX7 yX7_sheet yX7_sheet ∈ wsU := List.mem_append_right _ (List.mem_append_left _ (List.mem_append_right _ (List.mem_append_left _ (List.mem_append_right _ (List.mem_append_left _ (List.mem_of_getElem? (i := 2) rfl))))))
theorem mU_899 : Cond.code yX7_sheet cX7_sheet 5 (some .int) ∈ wsU := List.mem_append_right _ (List.mem_append_left _ (List.mem_append_right _ (List.mem_append_left _ (List.mem_append_right _ (List.mem_append_left _ (List.mem_of_getElem? (i := 3) rfl))))))
theorem mU_900 : Cond.methodLink RL 139 yX6_put ∈ wsU := List.mem_append_right _ (List.mem_append_left _ (List.mem_append_right _ (List.mem_append_left _ (List.mem_append_right _ (List.mem_append_left _ (List.mem_of_getElem? (i := 4) rfl))))))
theorem mU_901 : Cond.instanceMethod yX6_put ∈ wsU := List.mem_append_right _ (List.mem_append_left _ (List.mem_append_right _ (List.mem_append_left _ (List.mem_append_right _ (List.mem_append_left _ (List.mem_of_getElem? (i := 5) rfl))))))
theorem mU_902 : Cond.selects RX6 yX6_put yX6_put ∈ wsU := List.mem_append_right _ (List.mem_append_left _ (List.mem_append_right _ (List.mem_append_left _ (List.mem_append_right _ (List.mem_append_left _ (List.mem_of_getElem? (i := 6) rfl))))))
theorem mU_903 : Cond.code yX6_put cX6_put 6 (some .int) ∈ wsU := List.mem_append_right _ (List.mem_append_left _ (List.mem_append_right _ (List.mem_append_left _ (List.mem_append_right _ (List.mem_append_left _ (List.mem_of_getElem? (i := 7) rfl))))))
theorem mU_904 : Cond.methodLink RL 143 yX7_put ∈ wsU := List.mem_append_right _ (List.mem_append_left _ (List.mem_append_right _ (List.mem_append_left _ (List.mem_append_right _ (List.mem_append_left _ (List.mem_of_getElem? (i := 8) rfl))))))
theorem mU_905 : Cond.instanceMethod yX7_put ∈ wsU := List.mem_append_right _ (List.mem_append_left _ (List.mem_append_right _ (List.mem_append_left _ (List.mem_append_right _ (List.mem_append_left _ (List.mem_of_getElem? (i := 9) rfl))))))
theorem mU_906 : Cond.selects RX7 yX7_put yX7_put ∈ wsU := List.mem_append_right _ (List.mem_append_left _ (List.mem_append_right _ (List.mem_append_left _ (List.mem_append_right _ (List.mem_append_left _ (List.mem_of_getElem? (i := 10) rfl))))))
theorem mU_907 : Cond.code yX7_put cX7_put 5 (some .int) ∈ wsU := List.mem_append_right _ (List.mem_append_left _ (List.mem_append_right _ (List.mem_append_left _ (List.mem_append_right _ (List.mem_append_left _ (List.mem_of_getElem? (i := 11) rfl))))))
theorem mU_908 : Cond.methodLink RX7 331 yX7_narrowed ∈ wsU := List.mem_append_right _ (List.mem_append_left _ (List.mem_append_right _ (List.mem_append_left _ (List.mem_append_right _ (List.mem_append_left _ (List.mem_of_getElem? (i := 12) rfl))))))
theorem mU_909 : Cond.static yX7_narrowed ∈ wsU := List.mem_append_right _ (List.mem_append_left _ (List.mem_append_right _ (List.mem_append_left _ (List.mem_append_right _ (List.mem_append_left _ (List.mem_of_getElem? (i := 13) rfl))))))
theorem mU_910 : Cond.code yX7_narrowed cX7_narrowed 3 (some .long) ∈ wsU := List.mem_append_right _ (List.mem_append_left _ (List.mem_append_right _ (List.mem_append_left _ (List.mem_append_right _ (List.mem_append_left _ (List.mem_of_getElem? (i := 14) rfl))))))
theorem mU_911 : Cond.methodLink RL 144 yX6_item ∈ wsU := List.mem_append_right _ (List.mem_append_left _ (List.mem_append_right _ (List.mem_append_left _ (List.mem_append_right _ (List.mem_append_left _ (List.mem_of_getElem? (i := 15) rfl))))))
theorem mU_912 : Cond.instanceMethod yX6_item ∈ wsU := List.mem_append_right _ (List.mem_append_left _ (List.mem_append_right _ (List.mem_append_left _ (List.mem_append_right _ (List.mem_append_left _ (List.mem_of_getElem? (i := 16) rfl))))))
theorem mU_913 : Cond.selects RX6 yX6_item yX6_item ∈ wsU := List.mem_append_right _ (List.mem_append_left _ (List.mem_append_right _ (List.mem_append_left _ (List.mem_append_right _ (List.mem_append_left _ (List.mem_of_getElem? (i := 17) rfl))))))
theorem mU_914 : Cond.code yX6_item cX6_item 5 (some .int) ∈ wsU := List.mem_append_right _ (List.mem_append_left _ (List.mem_append_right _ (List.mem_append_left _ (List.mem_append_right _ (List.mem_append_left _ (List.mem_of_getElem? (i := 18) rfl))))))
theorem mU_915 : Cond.methodLink RL 147 yX7_item ∈ wsU := List.mem_append_right _ (List.mem_append_left _ (List.mem_append_right _ (List.mem_append_left _ (List.mem_append_right _ (List.mem_append_left _ (List.mem_of_getElem? (i := 19) rfl))))))
theorem mU_916 : Cond.instanceMethod yX7_item ∈ wsU := List.mem_append_right _ (List.mem_append_left _ (List.mem_append_right _ (List.mem_append_left _ (List.mem_append_right _ (List.mem_append_left _ (List.mem_of_getElem? (i := 20) rfl))))))
theorem mU_917 : Cond.selects RX7 yX7_item yX7_item ∈ wsU := List.mem_append_right _ (List.mem_append_left _ (List.mem_append_right _ (List.mem_append_left _ (List.mem_append_right _ (List.mem_append_left _ (List.mem_of_getElem? (i := 21) rfl))))))
theorem mU_918 : Cond.code yX7_item cX7_item 4 (some .int) ∈ wsU := List.mem_append_right _ (List.mem_append_left _ (List.mem_append_right _ (List.mem_append_left _ (List.mem_append_right _ (List.mem_append_left _ (List.mem_of_getElem? (i := 22) rfl))))))
theorem mU_919 : Cond.methodLink RL 148 yX6_move ∈ wsU := List.mem_append_right _ (List.mem_append_left _ (List.mem_append_right _ (List.mem_append_left _ (List.mem_append_right _ (List.mem_append_left _ (List.mem_of_getElem? (i := 23) rfl))))))
theorem mU_920 : Cond.instanceMethod yX6_move ∈ wsU := List.mem_append_right _ (List.mem_append_left _ (List.mem_append_right _ (List.mem_append_left _ (List.mem_append_right _ (List.mem_append_left _ (List.mem_of_getElem? (i := 24) rfl))))))
theorem mU_921 : Cond.selects RX6 yX6_move yX6_move ∈ wsU := List.mem_append_right _ (List.mem_append_left _ (List.mem_append_right _ (List.mem_append_left _ (List.mem_append_right _ (List.mem_append_left _ (List.mem_of_getElem? (i := 25) rfl))))))
theorem mU_922 : Cond.code yX6_move cX6_move 8 (some .int) ∈ wsU := List.mem_append_right _ (List.mem_append_left _ (List.mem_append_right _ (List.mem_append_left _ (List.mem_append_right _ (List.mem_append_left _ (List.mem_of_getElem? (i := 26) rfl))))))
theorem mU_923 : Cond.fieldLink RX6 265 "TwoSidedTables$Sheet" "items" "[J" ∈ wsU := List.mem_append_right _ (List.mem_append_left _ (List.mem_append_right _ (List.mem_append_left _ (List.mem_append_right _ (List.mem_append_left _ (List.mem_of_getElem? (i := 27) rfl))))))
theorem mU_924 : Cond.methodLink RX6 269 arraycopyName ∈ wsU := List.mem_append_right _ (List.mem_append_left _ (List.mem_append_right _ (List.mem_append_left _ (List.mem_append_right _ (List.mem_append_left _ (List.mem_of_getElem? (i := 28) rfl))))))
theorem mU_925 : Cond.methodLink RX6 261 yX2_hasStretch ∈ wsU := List.mem_append_right _ (List.mem_append_left _ (List.mem_append_right _ (List.mem_append_left _ (List.mem_append_right _ (List.mem_append_left _ (List.mem_of_getElem? (i := 29) rfl))))))
theorem mU_926 : Cond.instanceMethod yX2_hasStretch ∈ wsU := List.mem_append_right _ (List.mem_append_left _ (List.mem_append_right _ (List.mem_append_left _ (List.mem_append_right _ (List.mem_append_left _ (List.mem_of_getElem? (i := 30) rfl))))))
theorem mU_927 : Cond.selects RX2 yX2_hasStretch yX2_hasStretch ∈ wsU := List.mem_append_right _ (List.mem_append_left _ (List.mem_append_right _ (List.mem_append_left _ (List.mem_append_right _ (List.mem_append_left _ (List.mem_of_getElem? (i := 31) rfl))))))
theorem mU_928 : Cond.code yX2_hasStretch cX2_hasStretch 3 (some .boolean) ∈ wsU := List.mem_append_right _ (List.mem_append_left _ (List.mem_append_right _ (List.mem_append_left _ (List.mem_append_right _ (List.mem_append_right _ (List.mem_of_getElem? (i := 0) rfl))))))
theorem mU_929 : Cond.methodLink RL 152 yX7_move ∈ wsU := List.mem_append_right _ (List.mem_append_left _ (List.mem_append_right _ (List.mem_append_left _ (List.mem_append_right _ (List.mem_append_right _ (List.mem_of_getElem? (i := 1) rfl))))))
theorem mU_930 : Cond.instanceMethod yX7_move ∈ wsU := List.mem_append_right _ (List.mem_append_left _ (List.mem_append_right _ (List.mem_append_left _ (List.mem_append_right _ (List.mem_append_right _ (List.mem_of_getElem? (i := 2) rfl))))))
theorem mU_931 : Cond.selects RX7 yX7_move yX7_move ∈ wsU := List.mem_append_right _ (List.mem_append_left _ (List.mem_append_right _ (List.mem_append_left _ (List.mem_append_right _ (List.mem_append_right _ (List.mem_of_getElem? (i := 3) rfl))))))
theorem mU_932 : Cond.code yX7_move cX7_move 7 (some .int) ∈ wsU := List.mem_append_right _ (List.mem_append_left _ (List.mem_append_right _ (List.mem_append_left _ (List.mem_append_right _ (List.mem_append_right _ (List.mem_of_getElem? (i := 4) rfl))))))
theorem mU_933 : Cond.methodLink RL 153 yX6_shelf ∈ wsU := List.mem_append_right _ (List.mem_append_left _ (List.mem_append_right _ (List.mem_append_left _ (List.mem_append_right _ (List.mem_append_right _ (List.mem_of_getElem? (i := 5) rfl))))))
theorem mU_934 : Cond.instanceMethod yX6_shelf ∈ wsU := List.mem_append_right _ (List.mem_append_left _ (List.mem_append_right _ (List.mem_append_left _ (List.mem_append_right _ (List.mem_append_right _ (List.mem_of_getElem? (i := 6) rfl))))))
theorem mU_935 : Cond.selects RX6 yX6_shelf yX6_shelf ∈ wsU := List.mem_append_right _ (List.mem_append_left _ (List.mem_append_right _ (List.mem_append_left _ (List.mem_append_right _ (List.mem_append_right _ (List.mem_of_getElem? (i := 7) rfl))))))
theorem mU_936 : Cond.code yX6_shelf cX6_shelf 5 (some .int) ∈ wsU := List.mem_append_right _ (List.mem_append_left _ (List.mem_append_right _ (List.mem_append_left _ (List.mem_append_right _ (List.mem_append_right _ (List.mem_of_getElem? (i := 8) rfl))))))
theorem mU_937 : Cond.methodLink RX6 275 yX6_isShelf ∈ wsU := List.mem_append_right _ (List.mem_append_left _ (List.mem_append_right _ (List.mem_append_left _ (List.mem_append_right _ (List.mem_append_right _ (List.mem_of_getElem? (i := 9) rfl))))))
theorem mU_938 : Cond.static yX6_isShelf ∈ wsU := List.mem_append_right _ (List.mem_append_left _ (List.mem_append_right _ (List.mem_append_left _ (List.mem_append_right _ (List.mem_append_right _ (List.mem_of_getElem? (i := 10) rfl))))))
theorem mU_939 : Cond.code yX6_isShelf cX6_isShelf 1 (some .boolean) ∈ wsU := List.mem_append_right _ (List.mem_append_left _ (List.mem_append_right _ (List.mem_append_left _ (List.mem_append_right _ (List.mem_append_right _ (List.mem_of_getElem? (i := 11) rfl))))))
theorem mU_940 : Cond.methodLink RX6 278 yX3_hold ∈ wsU := List.mem_append_right _ (List.mem_append_left _ (List.mem_append_right _ (List.mem_append_left _ (List.mem_append_right _ (List.mem_append_right _ (List.mem_of_getElem? (i := 12) rfl))))))
theorem mU_941 : Cond.instanceMethod yX3_hold ∈ wsU := List.mem_append_right _ (List.mem_append_left _ (List.mem_append_right _ (List.mem_append_left _ (List.mem_append_right _ (List.mem_append_right _ (List.mem_of_getElem? (i := 13) rfl))))))
theorem mU_942 : Cond.selects RX3 yX3_hold yX3_hold ∈ wsU := List.mem_append_right _ (List.mem_append_left _ (List.mem_append_right _ (List.mem_append_left _ (List.mem_append_right _ (List.mem_append_right _ (List.mem_of_getElem? (i := 14) rfl))))))
theorem mU_943 : Cond.code yX3_hold cX3_hold 4 none ∈ wsU := List.mem_append_right _ (List.mem_append_left _ (List.mem_append_right _ (List.mem_append_left _ (List.mem_append_right _ (List.mem_append_right _ (List.mem_of_getElem? (i := 15) rfl))))))
theorem mU_944 : Cond.fieldLink RX3 15 "TwoSidedTables$Shelf" "number" "I" ∈ wsU := List.mem_append_right _ (List.mem_append_left _ (List.mem_append_right _ (List.mem_append_left _ (List.mem_append_right _ (List.mem_append_right _ (List.mem_of_getElem? (i := 16) rfl))))))
theorem mU_945 : Cond.fieldLink RX3 18 "TwoSidedTables$Shelf" "sort" "I" ∈ wsU := List.mem_append_right _ (List.mem_append_left _ (List.mem_append_right _ (List.mem_append_left _ (List.mem_append_right _ (List.mem_append_right _ (List.mem_of_getElem? (i := 17) rfl))))))
theorem mU_946 : Cond.methodLink RL 156 yX7_shelf ∈ wsU := List.mem_append_right _ (List.mem_append_left _ (List.mem_append_right _ (List.mem_append_left _ (List.mem_append_right _ (List.mem_append_right _ (List.mem_of_getElem? (i := 18) rfl))))))
theorem mU_947 : Cond.instanceMethod yX7_shelf ∈ wsU := List.mem_append_right _ (List.mem_append_left _ (List.mem_append_right _ (List.mem_append_left _ (List.mem_append_right _ (List.mem_append_right _ (List.mem_of_getElem? (i := 19) rfl))))))
theorem mU_948 : Cond.selects RX7 yX7_shelf yX7_shelf ∈ wsU := List.mem_append_right _ (List.mem_append_left _ (List.mem_append_right _ (List.mem_append_left _ (List.mem_append_right _ (List.mem_append_right _ (List.mem_of_getElem? (i := 20) rfl))))))
theorem mU_949 : Cond.code yX7_shelf cX7_shelf 4 (some .int) ∈ wsU := List.mem_append_right _ (List.mem_append_left _ (List.mem_append_right _ (List.mem_append_left _ (List.mem_append_right _ (List.mem_append_right _ (List.mem_of_getElem? (i := 21) rfl))))))
theorem mU_950 : Cond.methodLink RX7 335 yX7_isShelf ∈ wsU := List.mem_append_right _ (List.mem_append_left _ (List.mem_append_right _ (List.mem_append_left _ (List.mem_append_right _ (List.mem_append_right _ (List.mem_of_getElem? (i := 22) rfl))))))
theorem mU_951 : Cond.static yX7_isShelf ∈ wsU := List.mem_append_right _ (List.mem_append_left _ (List.mem_append_right _ (List.mem_append_left _ (List.mem_append_right _ (List.mem_append_right _ (List.mem_of_getElem? (i := 23) rfl))))))
theorem mU_952 : Cond.code yX7_isShelf cX7_isShelf 1 (some .boolean) ∈ wsU := List.mem_append_right _ (List.mem_append_left _ (List.mem_append_right _ (List.mem_append_left _ (List.mem_append_right _ (List.mem_append_right _ (List.mem_of_getElem? (i := 24) rfl))))))
theorem mU_953 : Cond.methodLink RL 157 yX6_taken ∈ wsU := List.mem_append_right _ (List.mem_append_left _ (List.mem_append_right _ (List.mem_append_left _ (List.mem_append_right _ (List.mem_append_right _ (List.mem_of_getElem? (i := 25) rfl))))))
theorem mU_954 : Cond.instanceMethod yX6_taken ∈ wsU := List.mem_append_right _ (List.mem_append_left _ (List.mem_append_right _ (List.mem_append_left _ (List.mem_append_right _ (List.mem_append_right _ (List.mem_of_getElem? (i := 26) rfl))))))
theorem mU_955 : Cond.selects RX6 yX6_taken yX6_taken ∈ wsU := List.mem_append_right _ (List.mem_append_left _ (List.mem_append_right _ (List.mem_append_left _ (List.mem_append_right _ (List.mem_append_right _ (List.mem_of_getElem? (i := 27) rfl))))))
theorem mU_956 : Cond.code yX6_taken cX6_taken 7 (some .int) ∈ wsU := List.mem_append_right _ (List.mem_append_left _ (List.mem_append_right _ (List.mem_append_left _ (List.mem_append_right _ (List.mem_append_right _ (List.mem_of_getElem? (i := 28) rfl))))))
theorem mU_957 : Cond.fieldLink RX6 285 "TwoSidedTables$Shelf" "sort" "I" ∈ wsU := List.mem_append_right _ (List.mem_append_left _ (List.mem_append_right _ (List.mem_append_left _ (List.mem_append_right _ (List.mem_append_right _ (List.mem_of_getElem? (i := 29) rfl))))))
theorem mU_958 : Cond.fieldLink RX6 286 "TwoSidedTables$Shelf" "number" "I" ∈ wsU := List.mem_append_right _ (List.mem_append_left _ (List.mem_append_right _ (List.mem_append_left _ (List.mem_append_right _ (List.mem_append_right _ (List.mem_of_getElem? (i := 30) rfl))))))
theorem mU_959 : Cond.methodLink RX6 281 yX6_heldNow ∈ wsU := List.mem_append_right _ (List.mem_append_left _ (List.mem_append_right _ (List.mem_append_left _ (List.mem_append_right _ (List.mem_append_right _ (List.mem_of_getElem? (i := 31) rfl))))))
theorem mU_960 : Cond.instanceMethod yX6_heldNow ∈ wsU := List.mem_append_right _ (List.mem_append_left _ (List.mem_append_right _ (List.mem_append_right _ (List.mem_append_left _ (List.mem_of_getElem? (i := 0) rfl)))))
theorem mU_961 : Cond.selects RX6 yX6_heldNow yX6_heldNow ∈ wsU := List.mem_append_right _ (List.mem_append_left _ (List.mem_append_right _ (List.mem_append_right _ (List.mem_append_left _ (List.mem_of_getElem? (i := 1) rfl)))))
theorem mU_962 : Cond.code yX6_heldNow cX6_heldNow 2 (some .int) ∈ wsU := List.mem_append_right _ (List.mem_append_left _ (List.mem_append_right _ (List.mem_append_right _ (List.mem_append_left _ (List.mem_of_getElem? (i := 2) rfl)))))
theorem mU_963 : Cond.fieldLink RX6 334 "TwoSidedTables$Shelf" "holds" "I" ∈ wsU := List.mem_append_right _ (List.mem_append_left _ (List.mem_append_right _ (List.mem_append_right _ (List.mem_append_left _ (List.mem_of_getElem? (i := 3) rfl)))))
theorem mU_964 : Cond.methodLink RX6 289 yX6_isUnder ∈ wsU := List.mem_append_right _ (List.mem_append_left _ (List.mem_append_right _ (List.mem_append_right _ (List.mem_append_left _ (List.mem_of_getElem? (i := 4) rfl)))))
theorem mU_965 : Cond.static yX6_isUnder ∈ wsU := List.mem_append_right _ (List.mem_append_left _ (List.mem_append_right _ (List.mem_append_right _ (List.mem_append_left _ (List.mem_of_getElem? (i := 5) rfl)))))
theorem mU_966 : Cond.code yX6_isUnder cX6_isUnder 4 (some .boolean) ∈ wsU := List.mem_append_right _ (List.mem_append_left _ (List.mem_append_right _ (List.mem_append_right _ (List.mem_append_left _ (List.mem_of_getElem? (i := 6) rfl)))))
theorem mU_967 : Cond.methodLink RX6 323 yX6_kindAbove ∈ wsU := List.mem_append_right _ (List.mem_append_left _ (List.mem_append_right _ (List.mem_append_right _ (List.mem_append_left _ (List.mem_of_getElem? (i := 7) rfl)))))
theorem mU_968 : Cond.static yX6_kindAbove ∈ wsU := List.mem_append_right _ (List.mem_append_left _ (List.mem_append_right _ (List.mem_append_right _ (List.mem_append_left _ (List.mem_of_getElem? (i := 8) rfl)))))
theorem mU_969 : Cond.code yX6_kindAbove cX6_kindAbove 1 (some .int) ∈ wsU := List.mem_append_right _ (List.mem_append_left _ (List.mem_append_right _ (List.mem_append_right _ (List.mem_append_left _ (List.mem_of_getElem? (i := 9) rfl)))))
theorem mU_970 : Cond.methodLink RL 160 yX7_taken ∈ wsU := List.mem_append_right _ (List.mem_append_left _ (List.mem_append_right _ (List.mem_append_right _ (List.mem_append_left _ (List.mem_of_getElem? (i := 10) rfl)))))
theorem mU_971 : Cond.instanceMethod yX7_taken ∈ wsU := List.mem_append_right _ (List.mem_append_left _ (List.mem_append_right _ (List.mem_append_right _ (List.mem_append_left _ (List.mem_of_getElem? (i := 11) rfl)))))
theorem mU_972 : Cond.selects RX7 yX7_taken yX7_taken ∈ wsU := List.mem_append_right _ (List.mem_append_left _ (List.mem_append_right _ (List.mem_append_right _ (List.mem_append_left _ (List.mem_of_getElem? (i := 12) rfl)))))
theorem mU_973 : Cond.code yX7_taken cX7_taken 4 (some .int) ∈ wsU := List.mem_append_right _ (List.mem_append_left _ (List.mem_append_right _ (List.mem_append_right _ (List.mem_append_left _ (List.mem_of_getElem? (i := 13) rfl)))))
theorem mU_974 : Cond.constantLong RX7 338 (10) ∈ wsU := List.mem_append_right _ (List.mem_append_left _ (List.mem_append_right _ (List.mem_append_right _ (List.mem_append_left _ (List.mem_of_getElem? (i := 14) rfl)))))
theorem mU_975 : Cond.constantLong RX7 340 (13) ∈ wsU := List.mem_append_right _ (List.mem_append_left _ (List.mem_append_right _ (List.mem_append_right _ (List.mem_append_left _ (List.mem_of_getElem? (i := 15) rfl)))))
theorem mU_976 : Cond.methodLink RX7 342 yX7_heldBy ∈ wsU := List.mem_append_right _ (List.mem_append_left _ (List.mem_append_right _ (List.mem_append_right _ (List.mem_append_left _ (List.mem_of_getElem? (i := 16) rfl)))))
theorem mU_977 : Cond.instanceMethod yX7_heldBy ∈ wsU := List.mem_append_right _ (List.mem_append_left _ (List.mem_append_right _ (List.mem_append_right _ (List.mem_append_left _ (List.mem_of_getElem? (i := 17) rfl)))))
theorem mU_978 : Cond.selects RX7 yX7_heldBy yX7_heldBy ∈ wsU := List.mem_append_right _ (List.mem_append_left _ (List.mem_append_right _ (List.mem_append_right _ (List.mem_append_left _ (List.mem_of_getElem? (i := 18) rfl)))))
theorem mU_979 : Cond.code yX7_heldBy cX7_heldBy 2 (some .int) ∈ wsU := List.mem_append_right _ (List.mem_append_left _ (List.mem_append_right _ (List.mem_append_right _ (List.mem_append_left _ (List.mem_of_getElem? (i := 19) rfl)))))
theorem mU_980 : Cond.methodLink RX7 345 yX7_isUnder ∈ wsU := List.mem_append_right _ (List.mem_append_left _ (List.mem_append_right _ (List.mem_append_right _ (List.mem_append_left _ (List.mem_of_getElem? (i := 20) rfl)))))
theorem mU_981 : Cond.static yX7_isUnder ∈ wsU := List.mem_append_right _ (List.mem_append_left _ (List.mem_append_right _ (List.mem_append_right _ (List.mem_append_left _ (List.mem_of_getElem? (i := 21) rfl)))))
theorem mU_982 : Cond.code yX7_isUnder cX7_isUnder 2 (some .boolean) ∈ wsU := List.mem_append_right _ (List.mem_append_left _ (List.mem_append_right _ (List.mem_append_right _ (List.mem_append_left _ (List.mem_of_getElem? (i := 22) rfl)))))
theorem mU_983 : Cond.methodLink RL 161 yX6_act ∈ wsU := List.mem_append_right _ (List.mem_append_left _ (List.mem_append_right _ (List.mem_append_right _ (List.mem_append_left _ (List.mem_of_getElem? (i := 23) rfl)))))
theorem mU_984 : Cond.instanceMethod yX6_act ∈ wsU := List.mem_append_right _ (List.mem_append_left _ (List.mem_append_right _ (List.mem_append_right _ (List.mem_append_left _ (List.mem_of_getElem? (i := 24) rfl)))))
theorem mU_985 : Cond.selects RX6 yX6_act yX6_act ∈ wsU := List.mem_append_right _ (List.mem_append_left _ (List.mem_append_right _ (List.mem_append_right _ (List.mem_append_left _ (List.mem_of_getElem? (i := 25) rfl)))))
theorem mU_986 : Cond.code yX6_act cX6_act 5 (some .int) ∈ wsU := List.mem_append_right _ (List.mem_append_left _ (List.mem_append_right _ (List.mem_append_right _ (List.mem_append_left _ (List.mem_of_getElem? (i := 26) rfl)))))
theorem mU_987 : Cond.fieldLink RX6 295 "TwoSidedTables$Acts" "kind" "I" ∈ wsU := List.mem_append_right _ (List.mem_append_left _ (List.mem_append_right _ (List.mem_append_right _ (List.mem_append_left _ (List.mem_of_getElem? (i := 27) rfl)))))
theorem mU_988 : Cond.fieldLink RX6 298 "TwoSidedTables$Acts" "number" "I" ∈ wsU := List.mem_append_right _ (List.mem_append_left _ (List.mem_append_right _ (List.mem_append_right _ (List.mem_append_left _ (List.mem_of_getElem? (i := 28) rfl)))))
theorem mU_989 : Cond.fieldLink RX6 299 "TwoSidedTables$Acts" "shift" "I" ∈ wsU := List.mem_append_right _ (List.mem_append_left _ (List.mem_append_right _ (List.mem_append_right _ (List.mem_append_left _ (List.mem_of_getElem? (i := 29) rfl)))))
theorem mU_990 : Cond.methodLink RX6 292 yX0_forget ∈ wsU := List.mem_append_right _ (List.mem_append_left _ (List.mem_append_right _ (List.mem_append_right _ (List.mem_append_left _ (List.mem_of_getElem? (i := 30) rfl)))))
theorem mU_991 : Cond.instanceMethod yX0_forget ∈ wsU := List.mem_append_right _ (List.mem_append_left _ (List.mem_append_right _ (List.mem_append_right _ (List.mem_append_left _ (List.mem_of_getElem? (i := 31) rfl)))))
theorem mU_992 : Cond.selects RX0 yX0_forget yX0_forget ∈ wsU := List.mem_append_right _ (List.mem_append_left _ (List.mem_append_right _ (List.mem_append_right _ (List.mem_append_right _ (List.mem_append_left _ (List.mem_of_getElem? (i := 0) rfl))))))
theorem mU_993 : Cond.code yX0_forget cX0_forget 1 none ∈ wsU := List.mem_append_right _ (List.mem_append_left _ (List.mem_append_right _ (List.mem_append_right _ (List.mem_append_right _ (List.mem_append_left _ (List.mem_of_getElem? (i := 1) rfl))))))
theorem mU_994 : Cond.fieldLink RX0 15 "TwoSidedTables$Acts" "count" "I" ∈ wsU := List.mem_append_right _ (List.mem_append_left _ (List.mem_append_right _ (List.mem_append_right _ (List.mem_append_right _ (List.mem_append_left _ (List.mem_of_getElem? (i := 2) rfl))))))
theorem mU_995 : Cond.fieldLink RX0 19 "TwoSidedTables$Acts" "isParted" "Z" ∈ wsU := List.mem_append_right _ (List.mem_append_left _ (List.mem_append_right _ (List.mem_append_right _ (List.mem_append_right _ (List.mem_append_left _ (List.mem_of_getElem? (i := 3) rfl))))))
theorem mU_996 : Cond.methodLink RX6 302 yX0_run ∈ wsU := List.mem_append_right _ (List.mem_append_left _ (List.mem_append_right _ (List.mem_append_right _ (List.mem_append_right _ (List.mem_append_left _ (List.mem_of_getElem? (i := 4) rfl))))))
theorem mU_997 : Cond.instanceMethod yX0_run ∈ wsU := List.mem_append_right _ (List.mem_append_left _ (List.mem_append_right _ (List.mem_append_right _ (List.mem_append_right _ (List.mem_append_left _ (List.mem_of_getElem? (i := 5) rfl))))))
theorem mU_998 : Cond.selects RX0 yX0_run yX0_run ∈ wsU := List.mem_append_right _ (List.mem_append_left _ (List.mem_append_right _ (List.mem_append_right _ (List.mem_append_right _ (List.mem_append_left _ (List.mem_of_getElem? (i := 6) rfl))))))
theorem mU_999 : Cond.code yX0_run cX0_run 4 (some .int) ∈ wsU := List.mem_append_right _ (List.mem_append_left _ (List.mem_append_right _ (List.mem_append_right _ (List.mem_append_right _ (List.mem_append_left _ (List.mem_of_getElem? (i := 7) rfl))))))
theorem mU_1000 : Cond.fieldLink RX0 23 "TwoSidedTables$Acts" "kind" "I" ∈ wsU := List.mem_append_right _ (List.mem_append_left _ (List.mem_append_right _ (List.mem_append_right _ (List.mem_append_right _ (List.mem_append_left _ (List.mem_of_getElem? (i := 8) rfl))))))
theorem mU_1001 : Cond.methodLink RX0 26 yX0_weighs ∈ wsU := List.mem_append_right _ (List.mem_append_left _ (List.mem_append_right _ (List.mem_append_right _ (List.mem_append_right _ (List.mem_append_left _ (List.mem_of_getElem? (i := 9) rfl))))))
theorem mU_1002 : Cond.instanceMethod yX0_weighs ∈ wsU := List.mem_append_right _ (List.mem_append_left _ (List.mem_append_right _ (List.mem_append_right _ (List.mem_append_right _ (List.mem_append_left _ (List.mem_of_getElem? (i := 10) rfl))))))
theorem mU_1003 : Cond.selects RX0 yX0_weighs yX0_weighs ∈ wsU := List.mem_append_right _ (List.mem_append_left _ (List.mem_append_right _ (List.mem_append_right _ (List.mem_append_right _ (List.mem_append_left _ (List.mem_of_getElem? (i := 11) rfl))))))
theorem mU_1004 : Cond.code yX0_weighs cX0_weighs 3 (some .int) ∈ wsU := List.mem_append_right _ (List.mem_append_left _ (List.mem_append_right _ (List.mem_append_right _ (List.mem_append_right _ (List.mem_append_left _ (List.mem_of_getElem? (i := 12) rfl))))))
theorem mU_1005 : Cond.fieldLink RX0 43 "TwoSidedTables$Acts" "shift" "I" ∈ wsU := List.mem_append_right _ (List.mem_append_left _ (List.mem_append_right _ (List.mem_append_right _ (List.mem_append_right _ (List.mem_append_left _ (List.mem_of_getElem? (i := 13) rfl))))))
theorem mU_1006 : Cond.fieldLink RX0 46 "TwoSidedTables$Acts" "number" "I" ∈ wsU := List.mem_append_right _ (List.mem_append_left _ (List.mem_append_right _ (List.mem_append_right _ (List.mem_append_right _ (List.mem_append_left _ (List.mem_of_getElem? (i := 14) rfl))))))
theorem mU_1007 : Cond.methodLink RX0 39 yX0_begin ∈ wsU := List.mem_append_right _ (List.mem_append_left _ (List.mem_append_right _ (List.mem_append_right _ (List.mem_append_right _ (List.mem_append_left _ (List.mem_of_getElem? (i := 15) rfl))))))
theorem mU_1008 : Cond.instanceMethod yX0_begin ∈ wsU := List.mem_append_right _ (List.mem_append_left _ (List.mem_append_right _ (List.mem_append_right _ (List.mem_append_right _ (List.mem_append_left _ (List.mem_of_getElem? (i := 16) rfl))))))
theorem mU_1009 : Cond.selects RX0 yX0_begin yX0_begin ∈ wsU := List.mem_append_right _ (List.mem_append_left _ (List.mem_append_right _ (List.mem_append_right _ (List.mem_append_right _ (List.mem_append_left _ (List.mem_of_getElem? (i := 17) rfl))))))
theorem mU_1010 : Cond.code yX0_begin cX0_begin 2 none ∈ wsU := List.mem_append_right _ (List.mem_append_left _ (List.mem_append_right _ (List.mem_append_right _ (List.mem_append_right _ (List.mem_append_left _ (List.mem_of_getElem? (i := 18) rfl))))))
theorem mU_1011 : Cond.methodLink RX0 30 yX0_turns ∈ wsU := List.mem_append_right _ (List.mem_append_left _ (List.mem_append_right _ (List.mem_append_right _ (List.mem_append_right _ (List.mem_append_left _ (List.mem_of_getElem? (i := 19) rfl))))))
theorem mU_1012 : Cond.instanceMethod yX0_turns ∈ wsU := List.mem_append_right _ (List.mem_append_left _ (List.mem_append_right _ (List.mem_append_right _ (List.mem_append_right _ (List.mem_append_left _ (List.mem_of_getElem? (i := 20) rfl))))))
theorem mU_1013 : Cond.selects RX0 yX0_turns yX0_turns ∈ wsU := List.mem_append_right _ (List.mem_append_left _ (List.mem_append_right _ (List.mem_append_right _ (List.mem_append_right _ (List.mem_append_left _ (List.mem_of_getElem? (i := 21) rfl))))))
theorem mU_1014 : Cond.code yX0_turns cX0_turns 3 (some .int) ∈ wsU := List.mem_append_right _ (List.mem_append_left _ (List.mem_append_right _ (List.mem_append_right _ (List.mem_append_right _ (List.mem_append_left _ (List.mem_of_getElem? (i := 22) rfl))))))
theorem mU_1015 : Cond.methodLink RX0 33 yX0_parts ∈ wsU := List.mem_append_right _ (List.mem_append_left _ (List.mem_append_right _ (List.mem_append_right _ (List.mem_append_right _ (List.mem_append_left _ (List.mem_of_getElem? (i := 23) rfl))))))
theorem mU_1016 : Cond.instanceMethod yX0_parts ∈ wsU := List.mem_append_right _ (List.mem_append_left _ (List.mem_append_right _ (List.mem_append_right _ (List.mem_append_right _ (List.mem_append_left _ (List.mem_of_getElem? (i := 24) rfl))))))
theorem mU_1017 : Cond.selects RX0 yX0_parts yX0_parts ∈ wsU := List.mem_append_right _ (List.mem_append_left _ (List.mem_append_right _ (List.mem_append_right _ (List.mem_append_right _ (List.mem_append_left _ (List.mem_of_getElem? (i := 25) rfl))))))
theorem mU_1018 : Cond.code yX0_parts cX0_parts 4 (some .int) ∈ wsU := List.mem_append_right _ (List.mem_append_left _ (List.mem_append_right _ (List.mem_append_right _ (List.mem_append_right _ (List.mem_append_left _ (List.mem_of_getElem? (i := 26) rfl))))))
theorem mU_1019 : Cond.methodLink RX0 36 yX0_closes ∈ wsU := List.mem_append_right _ (List.mem_append_left _ (List.mem_append_right _ (List.mem_append_right _ (List.mem_append_right _ (List.mem_append_left _ (List.mem_of_getElem? (i := 27) rfl))))))
theorem mU_1020 : Cond.instanceMethod yX0_closes ∈ wsU := List.mem_append_right _ (List.mem_append_left _ (List.mem_append_right _ (List.mem_append_right _ (List.mem_append_right _ (List.mem_append_left _ (List.mem_of_getElem? (i := 28) rfl))))))
theorem mU_1021 : Cond.selects RX0 yX0_closes yX0_closes ∈ wsU := List.mem_append_right _ (List.mem_append_left _ (List.mem_append_right _ (List.mem_append_right _ (List.mem_append_right _ (List.mem_append_left _ (List.mem_of_getElem? (i := 29) rfl))))))
theorem mU_1022 : Cond.code yX0_closes cX0_closes 3 (some .int) ∈ wsU := List.mem_append_right _ (List.mem_append_left _ (List.mem_append_right _ (List.mem_append_right _ (List.mem_append_right _ (List.mem_append_left _ (List.mem_of_getElem? (i := 30) rfl))))))
theorem mU_1023 : Cond.methodLink RL 164 yX7_act ∈ wsU := List.mem_append_right _ (List.mem_append_left _ (List.mem_append_right _ (List.mem_append_right _ (List.mem_append_right _ (List.mem_append_left _ (List.mem_of_getElem? (i := 31) rfl))))))
theorem mU_1024 : Cond.instanceMethod yX7_act ∈ wsU := List.mem_append_right _ (List.mem_append_left _ (List.mem_append_right _ (List.mem_append_right _ (List.mem_append_right _ (List.mem_append_right _ (List.mem_of_getElem? (i := 0) rfl))))))
theorem mU_1025 : Cond.selects RX7 yX7_act yX7_act ∈ wsU := List.mem_append_right _ (List.mem_append_left _ (List.mem_append_right _ (List.mem_append_right _ (List.mem_append_right _ (List.mem_append_right _ (List.mem_of_getElem? (i := 1) rfl))))))
theorem mU_1026 : Cond.code yX7_act cX7_act 5 (some .int) ∈ wsU := List.mem_append_right _ (List.mem_append_left _ (List.mem_append_right _ (List.mem_append_right _ (List.mem_append_right _ (List.mem_append_right _ (List.mem_of_getElem? (i := 2) rfl))))))
theorem mU_1027 : Cond.fieldLink RX7 348 "TwoSidedTablesModel" "traced" "I" ∈ wsU := List.mem_append_right _ (List.mem_append_left _ (List.mem_append_right _ (List.mem_append_right _ (List.mem_append_right _ (List.mem_append_right _ (List.mem_of_getElem? (i := 3) rfl))))))
theorem mU_1028 : Cond.fieldLink RX7 354 "TwoSidedTablesModel" "number" "I" ∈ wsU := List.mem_append_right _ (List.mem_append_left _ (List.mem_append_right _ (List.mem_append_right _ (List.mem_append_right _ (List.mem_append_right _ (List.mem_of_getElem? (i := 4) rfl))))))
theorem mU_1029 : Cond.fieldLink RX7 360 "TwoSidedTablesModel" "kind" "I" ∈ wsU := List.mem_append_right _ (List.mem_append_left _ (List.mem_append_right _ (List.mem_append_right _ (List.mem_append_right _ (List.mem_append_right _ (List.mem_of_getElem? (i := 5) rfl))))))
theorem mU_1030 : Cond.fieldLink RX7 366 "TwoSidedTablesModel" "shift" "I" ∈ wsU := List.mem_append_right _ (List.mem_append_left _ (List.mem_append_right _ (List.mem_append_right _ (List.mem_append_right _ (List.mem_append_right _ (List.mem_of_getElem? (i := 6) rfl))))))
theorem mU_1031 : Cond.fieldLink RX7 378 "TwoSidedTablesModel" "isParted" "Z" ∈ wsU := List.mem_append_right _ (List.mem_append_left _ (List.mem_append_right _ (List.mem_append_right _ (List.mem_append_right _ (List.mem_append_right _ (List.mem_of_getElem? (i := 7) rfl))))))
theorem mU_1032 : Cond.methodLink RX7 369 yX7_weighs ∈ wsU := List.mem_append_right _ (List.mem_append_left _ (List.mem_append_right _ (List.mem_append_right _ (List.mem_append_right _ (List.mem_append_right _ (List.mem_of_getElem? (i := 8) rfl))))))
theorem mU_1033 : Cond.instanceMethod yX7_weighs ∈ wsU := List.mem_append_right _ (List.mem_append_left _ (List.mem_append_right _ (List.mem_append_right _ (List.mem_append_right _ (List.mem_append_right _ (List.mem_of_getElem? (i := 9) rfl))))))
theorem mU_1034 : Cond.selects RX7 yX7_weighs yX7_weighs ∈ wsU := List.mem_append_right _ (List.mem_append_left _ (List.mem_append_right _ (List.mem_append_right _ (List.mem_append_right _ (List.mem_append_right _ (List.mem_of_getElem? (i := 10) rfl))))))
theorem mU_1035 : Cond.code yX7_weighs cX7_weighs 2 (some .int) ∈ wsU := List.mem_append_right _ (List.mem_append_left _ (List.mem_append_right _ (List.mem_append_right _ (List.mem_append_right _ (List.mem_append_right _ (List.mem_of_getElem? (i := 11) rfl))))))
theorem mU_1036 : Cond.methodLink RX7 351 yX7_ran ∈ wsU := List.mem_append_right _ (List.mem_append_left _ (List.mem_append_right _ (List.mem_append_right _ (List.mem_append_right _ (List.mem_append_right _ (List.mem_of_getElem? (i := 12) rfl))))))
theorem mU_1037 : Cond.instanceMethod yX7_ran ∈ wsU := List.mem_append_right _ (List.mem_append_left _ (List.mem_append_right _ (List.mem_append_right _ (List.mem_append_right _ (List.mem_append_right _ (List.mem_of_getElem? (i := 13) rfl))))))
theorem mU_1038 : Cond.selects RX7 yX7_ran yX7_ran ∈ wsU := List.mem_append_right _ (List.mem_append_left _ (List.mem_append_right _ (List.mem_append_right _ (List.mem_append_right _ (List.mem_append_right _ (List.mem_of_getElem? (i := 14) rfl))))))
theorem mU_1039 : Cond.code yX7_ran cX7_ran 2 none ∈ wsU := List.mem_append_right _ (List.mem_append_left _ (List.mem_append_right _ (List.mem_append_right _ (List.mem_append_right _ (List.mem_append_right _ (List.mem_of_getElem? (i := 15) rfl))))))
theorem mU_1040 : Cond.methodLink RX7 357 yX7_plainWeighs ∈ wsU := List.mem_append_right _ (List.mem_append_left _ (List.mem_append_right _ (List.mem_append_right _ (List.mem_append_right _ (List.mem_append_right _ (List.mem_of_getElem? (i := 16) rfl))))))
theorem mU_1041 : Cond.instanceMethod yX7_plainWeighs ∈ wsU := List.mem_append_right _ (List.mem_append_left _ (List.mem_append_right _ (List.mem_append_right _ (List.mem_append_right _ (List.mem_append_right _ (List.mem_of_getElem? (i := 17) rfl))))))
theorem mU_1042 : Cond.selects RX7 yX7_plainWeighs yX7_plainWeighs ∈ wsU := List.mem_append_right _ (List.mem_append_left _ (List.mem_append_right _ (List.mem_append_right _ (List.mem_append_right _ (List.mem_append_right _ (List.mem_of_getElem? (i := 18) rfl))))))
theorem mU_1043 : Cond.code yX7_plainWeighs cX7_plainWeighs 2 (some .int) ∈ wsU := List.mem_append_right _ (List.mem_append_left _ (List.mem_append_right _ (List.mem_append_right _ (List.mem_append_right _ (List.mem_append_right _ (List.mem_of_getElem? (i := 19) rfl))))))
theorem mU_1044 : Cond.methodLink RX7 363 yX7_turnedWeighs ∈ wsU := List.mem_append_right _ (List.mem_append_left _ (List.mem_append_right _ (List.mem_append_right _ (List.mem_append_right _ (List.mem_append_right _ (List.mem_of_getElem? (i := 20) rfl))))))
theorem mU_1045 : Cond.instanceMethod yX7_turnedWeighs ∈ wsU := List.mem_append_right _ (List.mem_append_left _ (List.mem_append_right _ (List.mem_append_right _ (List.mem_append_right _ (List.mem_append_right _ (List.mem_of_getElem? (i := 21) rfl))))))
theorem mU_1046 : Cond.selects RX7 yX7_turnedWeighs yX7_turnedWeighs ∈ wsU := List.mem_append_right _ (List.mem_append_left _ (List.mem_append_right _ (List.mem_append_right _ (List.mem_append_right _ (List.mem_append_right _ (List.mem_of_getElem? (i := 22) rfl))))))
theorem mU_1047 : Cond.code yX7_turnedWeighs cX7_turnedWeighs 2 (some .int) ∈ wsU := List.mem_append_right _ (List.mem_append_left _ (List.mem_append_right _ (List.mem_append_right _ (List.mem_append_right _ (List.mem_append_right _ (List.mem_of_getElem? (i := 23) rfl))))))
theorem mU_1048 : Cond.methodLink RX7 382 yX7_turns ∈ wsU := List.mem_append_right _ (List.mem_append_left _ (List.mem_append_right _ (List.mem_append_right _ (List.mem_append_right _ (List.mem_append_right _ (List.mem_of_getElem? (i := 24) rfl))))))
theorem mU_1049 : Cond.instanceMethod yX7_turns ∈ wsU := List.mem_append_right _ (List.mem_append_left _ (List.mem_append_right _ (List.mem_append_right _ (List.mem_append_right _ (List.mem_append_right _ (List.mem_of_getElem? (i := 25) rfl))))))
theorem mU_1050 : Cond.selects RX7 yX7_turns yX7_turns ∈ wsU := List.mem_append_right _ (List.mem_append_left _ (List.mem_append_right _ (List.mem_append_right _ (List.mem_append_right _ (List.mem_append_right _ (List.mem_of_getElem? (i := 26) rfl))))))
theorem mU_1051 : Cond.code yX7_turns cX7_turns 2 (some .int) ∈ wsU := List.mem_append_right _ (List.mem_append_left _ (List.mem_append_right _ (List.mem_append_right _ (List.mem_append_right _ (List.mem_append_right _ (List.mem_of_getElem? (i := 27) rfl))))))
theorem mU_1052 : Cond.methodLink RX7 375 yX7_alikeTurns ∈ wsU := List.mem_append_right _ (List.mem_append_left _ (List.mem_append_right _ (List.mem_append_right _ (List.mem_append_right _ (List.mem_append_right _ (List.mem_of_getElem? (i := 28) rfl))))))
theorem mU_1053 : Cond.instanceMethod yX7_alikeTurns ∈ wsU := List.mem_append_right _ (List.mem_append_left _ (List.mem_append_right _ (List.mem_append_right _ (List.mem_append_right _ (List.mem_append_right _ (List.mem_of_getElem? (i := 29) rfl))))))
theorem mU_1054 : Cond.selects RX7 yX7_alikeTurns yX7_alikeTurns ∈ wsU := List.mem_append_right _ (List.mem_append_left _ (List.mem_append_right _ (List.mem_append_right _ (List.mem_append_right _ (List.mem_append_right _ (List.mem_of_getElem? (i := 30) rfl))))))
theorem mU_1055 : Cond.code yX7_alikeTurns cX7_alikeTurns 2 (some .int) ∈ wsU := List.mem_append_right _ (List.mem_append_left _ (List.mem_append_right _ (List.mem_append_right _ (List.mem_append_right _ (List.mem_append_right _ (List.mem_of_getElem? (i := 31) rfl))))))
theorem mU_1056 : Cond.methodLink RX7 372 yX7_plainTurns ∈ wsU := List.mem_append_right _ (List.mem_append_right _ (List.mem_append_left _ (List.mem_append_left _ (List.mem_append_left _ (List.mem_of_getElem? (i := 0) rfl)))))
theorem mU_1057 : Cond.instanceMethod yX7_plainTurns ∈ wsU := List.mem_append_right _ (List.mem_append_right _ (List.mem_append_left _ (List.mem_append_left _ (List.mem_append_left _ (List.mem_of_getElem? (i := 1) rfl)))))
theorem mU_1058 : Cond.selects RX7 yX7_plainTurns yX7_plainTurns ∈ wsU := List.mem_append_right _ (List.mem_append_right _ (List.mem_append_left _ (List.mem_append_left _ (List.mem_append_left _ (List.mem_of_getElem? (i := 2) rfl)))))
theorem mU_1059 : Cond.code yX7_plainTurns cX7_plainTurns 2 (some .int) ∈ wsU := List.mem_append_right _ (List.mem_append_right _ (List.mem_append_left _ (List.mem_append_left _ (List.mem_append_left _ (List.mem_of_getElem? (i := 3) rfl)))))
theorem mU_1060 : Cond.methodLink RX7 385 yX7_parts ∈ wsU := List.mem_append_right _ (List.mem_append_right _ (List.mem_append_left _ (List.mem_append_left _ (List.mem_append_left _ (List.mem_of_getElem? (i := 4) rfl)))))
theorem mU_1061 : Cond.instanceMethod yX7_parts ∈ wsU := List.mem_append_right _ (List.mem_append_right _ (List.mem_append_left _ (List.mem_append_left _ (List.mem_append_left _ (List.mem_of_getElem? (i := 5) rfl)))))
theorem mU_1062 : Cond.selects RX7 yX7_parts yX7_parts ∈ wsU := List.mem_append_right _ (List.mem_append_right _ (List.mem_append_left _ (List.mem_append_left _ (List.mem_append_left _ (List.mem_of_getElem? (i := 6) rfl)))))
theorem mU_1063 : Cond.code yX7_parts cX7_parts 4 (some .int) ∈ wsU := List.mem_append_right _ (List.mem_append_right _ (List.mem_append_left _ (List.mem_append_left _ (List.mem_append_left _ (List.mem_of_getElem? (i := 7) rfl)))))
theorem mU_1064 : Cond.methodLink RX7 394 yX7_closes ∈ wsU := List.mem_append_right _ (List.mem_append_right _ (List.mem_append_left _ (List.mem_append_left _ (List.mem_append_left _ (List.mem_of_getElem? (i := 8) rfl)))))
theorem mU_1065 : Cond.instanceMethod yX7_closes ∈ wsU := List.mem_append_right _ (List.mem_append_right _ (List.mem_append_left _ (List.mem_append_left _ (List.mem_append_left _ (List.mem_of_getElem? (i := 9) rfl)))))
theorem mU_1066 : Cond.selects RX7 yX7_closes yX7_closes ∈ wsU := List.mem_append_right _ (List.mem_append_right _ (List.mem_append_left _ (List.mem_append_left _ (List.mem_append_left _ (List.mem_of_getElem? (i := 10) rfl)))))
theorem mU_1067 : Cond.code yX7_closes cX7_closes 2 (some .int) ∈ wsU := List.mem_append_right _ (List.mem_append_right _ (List.mem_append_left _ (List.mem_append_left _ (List.mem_append_left _ (List.mem_of_getElem? (i := 11) rfl)))))
theorem mU_1068 : Cond.methodLink RX7 391 yX7_evenCloses ∈ wsU := List.mem_append_right _ (List.mem_append_right _ (List.mem_append_left _ (List.mem_append_left _ (List.mem_append_left _ (List.mem_of_getElem? (i := 12) rfl)))))
theorem mU_1069 : Cond.instanceMethod yX7_evenCloses ∈ wsU := List.mem_append_right _ (List.mem_append_right _ (List.mem_append_left _ (List.mem_append_left _ (List.mem_append_left _ (List.mem_of_getElem? (i := 13) rfl)))))
theorem mU_1070 : Cond.selects RX7 yX7_evenCloses yX7_evenCloses ∈ wsU := List.mem_append_right _ (List.mem_append_right _ (List.mem_append_left _ (List.mem_append_left _ (List.mem_append_left _ (List.mem_of_getElem? (i := 14) rfl)))))
theorem mU_1071 : Cond.code yX7_evenCloses cX7_evenCloses 3 (some .int) ∈ wsU := List.mem_append_right _ (List.mem_append_right _ (List.mem_append_left _ (List.mem_append_left _ (List.mem_append_left _ (List.mem_of_getElem? (i := 15) rfl)))))
theorem mU_1072 : Cond.methodLink RX7 388 yX7_plainCloses ∈ wsU := List.mem_append_right _ (List.mem_append_right _ (List.mem_append_left _ (List.mem_append_left _ (List.mem_append_left _ (List.mem_of_getElem? (i := 16) rfl)))))
theorem mU_1073 : Cond.instanceMethod yX7_plainCloses ∈ wsU := List.mem_append_right _ (List.mem_append_right _ (List.mem_append_left _ (List.mem_append_left _ (List.mem_append_left _ (List.mem_of_getElem? (i := 17) rfl)))))
theorem mU_1074 : Cond.selects RX7 yX7_plainCloses yX7_plainCloses ∈ wsU := List.mem_append_right _ (List.mem_append_right _ (List.mem_append_left _ (List.mem_append_left _ (List.mem_append_left _ (List.mem_of_getElem? (i := 18) rfl)))))
theorem mU_1075 : Cond.code yX7_plainCloses cX7_plainCloses 3 (some .int) ∈ wsU := List.mem_append_right _ (List.mem_append_right _ (List.mem_append_left _ (List.mem_append_left _ (List.mem_append_left _ (List.mem_of_getElem? (i := 19) rfl)))))
theorem mU_1076 : Cond.methodLink RL 165 yX6_trace ∈ wsU := List.mem_append_right _ (List.mem_append_right _ (List.mem_append_left _ (List.mem_append_left _ (List.mem_append_left _ (List.mem_of_getElem? (i := 20) rfl)))))
theorem mU_1077 : Cond.instanceMethod yX6_trace ∈ wsU := List.mem_append_right _ (List.mem_append_right _ (List.mem_append_left _ (List.mem_append_left _ (List.mem_append_left _ (List.mem_of_getElem? (i := 21) rfl)))))
theorem mU_1078 : Cond.selects RX6 yX6_trace yX6_trace ∈ wsU := List.mem_append_right _ (List.mem_append_right _ (List.mem_append_left _ (List.mem_append_left _ (List.mem_append_left _ (List.mem_of_getElem? (i := 22) rfl)))))
theorem mU_1079 : Cond.code yX6_trace cX6_trace 2 (some .int) ∈ wsU := List.mem_append_right _ (List.mem_append_right _ (List.mem_append_left _ (List.mem_append_left _ (List.mem_append_left _ (List.mem_of_getElem? (i := 23) rfl)))))
theorem mU_1080 : Cond.fieldLink RX6 306 "TwoSidedTables$Acts" "count" "I" ∈ wsU := List.mem_append_right _ (List.mem_append_right _ (List.mem_append_left _ (List.mem_append_left _ (List.mem_append_left _ (List.mem_of_getElem? (i := 24) rfl)))))
theorem mU_1081 : Cond.fieldLink RX6 307 "TwoSidedTables$Acts" "bodies" "[I" ∈ wsU := List.mem_append_right _ (List.mem_append_right _ (List.mem_append_left _ (List.mem_append_left _ (List.mem_append_left _ (List.mem_of_getElem? (i := 25) rfl)))))
theorem mU_1082 : Cond.methodLink RL 168 yX7_trace ∈ wsU := List.mem_append_right _ (List.mem_append_right _ (List.mem_append_left _ (List.mem_append_left _ (List.mem_append_left _ (List.mem_of_getElem? (i := 26) rfl)))))
theorem mU_1083 : Cond.instanceMethod yX7_trace ∈ wsU := List.mem_append_right _ (List.mem_append_right _ (List.mem_append_left _ (List.mem_append_left _ (List.mem_append_left _ (List.mem_of_getElem? (i := 27) rfl)))))
theorem mU_1084 : Cond.selects RX7 yX7_trace yX7_trace ∈ wsU := List.mem_append_right _ (List.mem_append_right _ (List.mem_append_left _ (List.mem_append_left _ (List.mem_append_left _ (List.mem_of_getElem? (i := 28) rfl)))))
theorem mU_1085 : Cond.code yX7_trace cX7_trace 2 (some .int) ∈ wsU := List.mem_append_right _ (List.mem_append_right _ (List.mem_append_left _ (List.mem_append_left _ (List.mem_append_left _ (List.mem_of_getElem? (i := 29) rfl)))))
theorem mU_1086 : Cond.methodLink RL 169 yX6_many ∈ wsU := List.mem_append_right _ (List.mem_append_right _ (List.mem_append_left _ (List.mem_append_left _ (List.mem_append_left _ (List.mem_of_getElem? (i := 30) rfl)))))
theorem mU_1087 : Cond.instanceMethod yX6_many ∈ wsU := List.mem_append_right _ (List.mem_append_right _ (List.mem_append_left _ (List.mem_append_left _ (List.mem_append_left _ (List.mem_of_getElem? (i := 31) rfl)))))
theorem mU_1088 : Cond.selects RX6 yX6_many yX6_many ∈ wsU := List.mem_append_right _ (List.mem_append_right _ (List.mem_append_left _ (List.mem_append_left _ (List.mem_append_right _ (List.mem_of_getElem? (i := 0) rfl)))))
theorem mU_1089 : Cond.code yX6_many cX6_many 2 (some .int) ∈ wsU := List.mem_append_right _ (List.mem_append_right _ (List.mem_append_left _ (List.mem_append_left _ (List.mem_append_right _ (List.mem_of_getElem? (i := 1) rfl)))))
theorem mU_1090 : Cond.methodLink RX6 311 yX4_fittingSet ∈ wsU := List.mem_append_right _ (List.mem_append_right _ (List.mem_append_left _ (List.mem_append_left _ (List.mem_append_right _ (List.mem_of_getElem? (i := 2) rfl)))))
theorem mU_1091 : Cond.instanceMethod yX4_fittingSet ∈ wsU := List.mem_append_right _ (List.mem_append_right _ (List.mem_append_left _ (List.mem_append_left _ (List.mem_append_right _ (List.mem_of_getElem? (i := 3) rfl)))))
theorem mU_1092 : Cond.selects RX4 yX4_fittingSet yX4_fittingSet ∈ wsU := List.mem_append_right _ (List.mem_append_right _ (List.mem_append_left _ (List.mem_append_left _ (List.mem_append_right _ (List.mem_of_getElem? (i := 4) rfl)))))
theorem mU_1093 : Cond.code yX4_fittingSet cX4_fittingSet 3 (some .int) ∈ wsU := List.mem_append_right _ (List.mem_append_right _ (List.mem_append_left _ (List.mem_append_left _ (List.mem_append_right _ (List.mem_of_getElem? (i := 5) rfl)))))
theorem mU_1094 : Cond.methodLink RX4 94 yX4_kindOf ∈ wsU := List.mem_append_right _ (List.mem_append_right _ (List.mem_append_left _ (List.mem_append_left _ (List.mem_append_right _ (List.mem_of_getElem? (i := 6) rfl)))))
theorem mU_1095 : Cond.methodLink RX4 97 yX4_fits ∈ wsU := List.mem_append_right _ (List.mem_append_right _ (List.mem_append_left _ (List.mem_append_left _ (List.mem_append_right _ (List.mem_of_getElem? (i := 7) rfl)))))
theorem mU_1096 : Cond.methodLink RX6 314 yX4_splitSet ∈ wsU := List.mem_append_right _ (List.mem_append_right _ (List.mem_append_left _ (List.mem_append_left _ (List.mem_append_right _ (List.mem_of_getElem? (i := 8) rfl)))))
theorem mU_1097 : Cond.instanceMethod yX4_splitSet ∈ wsU := List.mem_append_right _ (List.mem_append_right _ (List.mem_append_left _ (List.mem_append_left _ (List.mem_append_right _ (List.mem_of_getElem? (i := 9) rfl)))))
theorem mU_1098 : Cond.selects RX4 yX4_splitSet yX4_splitSet ∈ wsU := List.mem_append_right _ (List.mem_append_right _ (List.mem_append_left _ (List.mem_append_left _ (List.mem_append_right _ (List.mem_of_getElem? (i := 10) rfl)))))
theorem mU_1099 : Cond.code yX4_splitSet cX4_splitSet 3 (some .int) ∈ wsU := List.mem_append_right _ (List.mem_append_right _ (List.mem_append_left _ (List.mem_append_left _ (List.mem_append_right _ (List.mem_of_getElem? (i := 11) rfl)))))
theorem mU_1100 : Cond.methodLink RX4 100 yX4_splits ∈ wsU := List.mem_append_right _ (List.mem_append_right _ (List.mem_append_left _ (List.mem_append_left _ (List.mem_append_right _ (List.mem_of_getElem? (i := 12) rfl)))))
theorem mU_1101 : Cond.methodLink RL 172 yX7_many ∈ wsU := List.mem_append_right _ (List.mem_append_right _ (List.mem_append_left _ (List.mem_append_left _ (List.mem_append_right _ (List.mem_of_getElem? (i := 13) rfl)))))
theorem mU_1102 : Cond.instanceMethod yX7_many ∈ wsU := List.mem_append_right _ (List.mem_append_right _ (List.mem_append_left _ (List.mem_append_left _ (List.mem_append_right _ (List.mem_of_getElem? (i := 14) rfl)))))
theorem mU_1103 : Cond.selects RX7 yX7_many yX7_many ∈ wsU := List.mem_append_right _ (List.mem_append_right _ (List.mem_append_left _ (List.mem_append_left _ (List.mem_append_right _ (List.mem_of_getElem? (i := 15) rfl)))))
theorem mU_1104 : Cond.code yX7_many cX7_many 2 (some .int) ∈ wsU := List.mem_append_right _ (List.mem_append_right _ (List.mem_append_left _ (List.mem_append_left _ (List.mem_append_right _ (List.mem_of_getElem? (i := 16) rfl)))))
theorem mU_1105 : Cond.methodLink RX7 397 yX7_fitting ∈ wsU := List.mem_append_right _ (List.mem_append_right _ (List.mem_append_left _ (List.mem_append_left _ (List.mem_append_right _ (List.mem_of_getElem? (i := 17) rfl)))))
theorem mU_1106 : Cond.instanceMethod yX7_fitting ∈ wsU := List.mem_append_right _ (List.mem_append_right _ (List.mem_append_left _ (List.mem_append_left _ (List.mem_append_right _ (List.mem_of_getElem? (i := 18) rfl)))))
theorem mU_1107 : Cond.selects RX7 yX7_fitting yX7_fitting ∈ wsU := List.mem_append_right _ (List.mem_append_right _ (List.mem_append_left _ (List.mem_append_left _ (List.mem_append_right _ (List.mem_of_getElem? (i := 19) rfl)))))
theorem mU_1108 : Cond.code yX7_fitting cX7_fitting 3 (some .int) ∈ wsU := List.mem_append_right _ (List.mem_append_right _ (List.mem_append_left _ (List.mem_append_left _ (List.mem_append_right _ (List.mem_of_getElem? (i := 20) rfl)))))
theorem mU_1109 : Cond.methodLink RX7 400 yX7_splitting ∈ wsU := List.mem_append_right _ (List.mem_append_right _ (List.mem_append_left _ (List.mem_append_left _ (List.mem_append_right _ (List.mem_of_getElem? (i := 21) rfl)))))
theorem mU_1110 : Cond.instanceMethod yX7_splitting ∈ wsU := List.mem_append_right _ (List.mem_append_right _ (List.mem_append_left _ (List.mem_append_left _ (List.mem_append_right _ (List.mem_of_getElem? (i := 22) rfl)))))
theorem mU_1111 : Cond.selects RX7 yX7_splitting yX7_splitting ∈ wsU := List.mem_append_right _ (List.mem_append_right _ (List.mem_append_left _ (List.mem_append_left _ (List.mem_append_right _ (List.mem_of_getElem? (i := 23) rfl)))))
theorem mU_1112 : Cond.code yX7_splitting cX7_splitting 3 (some .int) ∈ wsU := List.mem_append_right _ (List.mem_append_right _ (List.mem_append_left _ (List.mem_append_left _ (List.mem_append_right _ (List.mem_of_getElem? (i := 24) rfl)))))
theorem mU_1113 : Cond.methodLink RL 173 yX6_keep ∈ wsU := List.mem_append_right _ (List.mem_append_right _ (List.mem_append_left _ (List.mem_append_left _ (List.mem_append_right _ (List.mem_of_getElem? (i := 25) rfl)))))
theorem mU_1114 : Cond.instanceMethod yX6_keep ∈ wsU := List.mem_append_right _ (List.mem_append_right _ (List.mem_append_left _ (List.mem_append_left _ (List.mem_append_right _ (List.mem_of_getElem? (i := 26) rfl)))))
theorem mU_1115 : Cond.selects RX6 yX6_keep yX6_keep ∈ wsU := List.mem_append_right _ (List.mem_append_right _ (List.mem_append_left _ (List.mem_append_left _ (List.mem_append_right _ (List.mem_of_getElem? (i := 27) rfl)))))
theorem mU_1116 : Cond.code yX6_keep cX6_keep 1 (some .int) ∈ wsU := List.mem_append_right _ (List.mem_append_right _ (List.mem_append_left _ (List.mem_append_left _ (List.mem_append_right _ (List.mem_of_getElem? (i := 28) rfl)))))
theorem mU_1117 : Cond.fieldLink RX6 317 "TwoSidedTables" "isKept" "Z" ∈ wsU := List.mem_append_right _ (List.mem_append_right _ (List.mem_append_left _ (List.mem_append_left _ (List.mem_append_right _ (List.mem_of_getElem? (i := 29) rfl)))))
theorem mU_1118 : Cond.methodLink RL 176 yX7_keep ∈ wsU := List.mem_append_right _ (List.mem_append_right _ (List.mem_append_left _ (List.mem_append_left _ (List.mem_append_right _ (List.mem_of_getElem? (i := 30) rfl)))))
theorem mU_1119 : Cond.instanceMethod yX7_keep ∈ wsU := List.mem_append_right _ (List.mem_append_right _ (List.mem_append_left _ (List.mem_append_left _ (List.mem_append_right _ (List.mem_of_getElem? (i := 31) rfl)))))
theorem mU_1120 : Cond.selects RX7 yX7_keep yX7_keep ∈ wsU := List.mem_append_right _ (List.mem_append_right _ (List.mem_append_left _ (List.mem_append_right _ (List.mem_append_left _ (List.mem_of_getElem? (i := 0) rfl)))))
theorem mU_1121 : Cond.code yX7_keep cX7_keep 2 (some .int) ∈ wsU := List.mem_append_right _ (List.mem_append_right _ (List.mem_append_left _ (List.mem_append_right _ (List.mem_append_left _ (List.mem_of_getElem? (i := 1) rfl)))))
theorem mU_1122 : Cond.fieldLink RX7 403 "TwoSidedTablesModel" "keptM" "I" ∈ wsU := List.mem_append_right _ (List.mem_append_right _ (List.mem_append_left _ (List.mem_append_right _ (List.mem_append_left _ (List.mem_of_getElem? (i := 2) rfl)))))
theorem mU_1123 : Cond.fieldLink RX7 406 "TwoSidedTablesModel" "keptN" "I" ∈ wsU := List.mem_append_right _ (List.mem_append_right _ (List.mem_append_left _ (List.mem_append_right _ (List.mem_append_left _ (List.mem_of_getElem? (i := 3) rfl)))))
theorem mU_1124 : Cond.fieldLink RX7 409 "TwoSidedTablesModel" "keptZ" "I" ∈ wsU := List.mem_append_right _ (List.mem_append_right _ (List.mem_append_left _ (List.mem_append_right _ (List.mem_append_left _ (List.mem_of_getElem? (i := 4) rfl)))))
theorem mU_1125 : Cond.fieldLink RX7 412 "TwoSidedTablesModel" "keptEquations" "I" ∈ wsU := List.mem_append_right _ (List.mem_append_right _ (List.mem_append_left _ (List.mem_append_right _ (List.mem_append_left _ (List.mem_of_getElem? (i := 5) rfl)))))
theorem mU_1126 : Cond.fieldLink RX7 415 "TwoSidedTablesModel" "isKept" "Z" ∈ wsU := List.mem_append_right _ (List.mem_append_right _ (List.mem_append_left _ (List.mem_append_right _ (List.mem_append_left _ (List.mem_of_getElem? (i := 6) rfl)))))
theorem mU_1127 : Cond.methodLink RL 177 yX6_again ∈ wsU := List.mem_append_right _ (List.mem_append_right _ (List.mem_append_left _ (List.mem_append_right _ (List.mem_append_left _ (List.mem_of_getElem? (i := 7) rfl)))))
theorem mU_1128 : Cond.instanceMethod yX6_again ∈ wsU := List.mem_append_right _ (List.mem_append_right _ (List.mem_append_left _ (List.mem_append_right _ (List.mem_append_left _ (List.mem_of_getElem? (i := 8) rfl)))))
theorem mU_1129 : Cond.selects RX6 yX6_again yX6_again ∈ wsU := List.mem_append_right _ (List.mem_append_right _ (List.mem_append_left _ (List.mem_append_right _ (List.mem_append_left _ (List.mem_of_getElem? (i := 9) rfl)))))
theorem mU_1130 : Cond.code yX6_again cX6_again 1 (some .int) ∈ wsU := List.mem_append_right _ (List.mem_append_right _ (List.mem_append_left _ (List.mem_append_right _ (List.mem_append_left _ (List.mem_of_getElem? (i := 10) rfl)))))
theorem mU_1131 : Cond.methodLink RL 180 yX7_again ∈ wsU := List.mem_append_right _ (List.mem_append_right _ (List.mem_append_left _ (List.mem_append_right _ (List.mem_append_left _ (List.mem_of_getElem? (i := 11) rfl)))))
theorem mU_1132 : Cond.instanceMethod yX7_again ∈ wsU := List.mem_append_right _ (List.mem_append_right _ (List.mem_append_left _ (List.mem_append_right _ (List.mem_append_left _ (List.mem_of_getElem? (i := 12) rfl)))))
theorem mU_1133 : Cond.selects RX7 yX7_again yX7_again ∈ wsU := List.mem_append_right _ (List.mem_append_right _ (List.mem_append_left _ (List.mem_append_right _ (List.mem_append_left _ (List.mem_of_getElem? (i := 13) rfl)))))
theorem mU_1134 : Cond.code yX7_again cX7_again 2 (some .int) ∈ wsU := List.mem_append_right _ (List.mem_append_right _ (List.mem_append_left _ (List.mem_append_right _ (List.mem_append_left _ (List.mem_of_getElem? (i := 14) rfl)))))
theorem inU6 : ∀ w ∈ wsX60, w ∈ wsU := fun _ h => List.mem_append_right _ (List.mem_append_right _ (List.mem_append_left _ (List.mem_append_right _ (List.mem_append_right _ (List.mem_append_left _ (h))))))
theorem inU7 : ∀ w ∈ wsX70, w ∈ wsU := fun _ h => List.mem_append_right _ (List.mem_append_right _ (List.mem_append_left _ (List.mem_append_right _ (List.mem_append_right _ (List.mem_append_right _ (h))))))
theorem inU4 : ∀ w ∈ wsX40, w ∈ wsU := fun _ h => List.mem_append_right _ (List.mem_append_right _ (List.mem_append_right _ (List.mem_append_left _ (List.mem_append_left _ (h)))))
theorem inU1 : ∀ w ∈ wsX10, w ∈ wsU := fun _ h => List.mem_append_right _ (List.mem_append_right _ (List.mem_append_right _ (List.mem_append_left _ (List.mem_append_right _ (List.mem_append_left _ (h))))))
theorem inU5 : ∀ w ∈ wsX50, w ∈ wsU := fun _ h => List.mem_append_right _ (List.mem_append_right _ (List.mem_append_right _ (List.mem_append_left _ (List.mem_append_right _ (List.mem_append_right _ (h))))))
theorem inU0 : ∀ w ∈ wsX00, w ∈ wsU := fun _ h => List.mem_append_right _ (List.mem_append_right _ (List.mem_append_right _ (List.mem_append_right _ (List.mem_append_left _ (h)))))
theorem inU2 : ∀ w ∈ wsX20, w ∈ wsU := fun _ h => List.mem_append_right _ (List.mem_append_right _ (List.mem_append_right _ (List.mem_append_right _ (List.mem_append_right _ (List.mem_append_left _ (h))))))
theorem inU3 : ∀ w ∈ wsX30, w ∈ wsU := fun _ h => List.mem_append_right _ (List.mem_append_right _ (List.mem_append_right _ (List.mem_append_right _ (List.mem_append_right _ (List.mem_append_right _ (h))))))
theorem gu0 : wu0.all goodWord = true := by decide +kernel
theorem gu1 : wu1.all goodWord = true := by decide +kernel
theorem gu2 : wu2.all goodWord = true := by decide +kernel
theorem gu3 : wu3.all goodWord = true := by decide +kernel
theorem gu4 : wu4.all goodWord = true := by decide +kernel
theorem gu5 : wu5.all goodWord = true := by decide +kernel
theorem gu6 : wu6.all goodWord = true := by decide +kernel
theorem gu7 : wu7.all goodWord = true := by decide +kernel
theorem gu8 : wu8.all goodWord = true := by decide +kernel
theorem gu9 : wu9.all goodWord = true := by decide +kernel
theorem gu10 : wu10.all goodWord = true := by decide +kernel
theorem gu11 : wu11.all goodWord = true := by decide +kernel
theorem gu12 : wu12.all goodWord = true := by decide +kernel
theorem gu13 : wu13.all goodWord = true := by decide +kernel
theorem gu14 : wu14.all goodWord = true := by decide +kernel
theorem gu15 : wu15.all goodWord = true := by decide +kernel
theorem gu16 : wu16.all goodWord = true := by decide +kernel
theorem gu17 : wu17.all goodWord = true := by decide +kernel
theorem gu18 : wu18.all goodWord = true := by decide +kernel
theorem gu19 : wu19.all goodWord = true := by decide +kernel
theorem gu20 : wu20.all goodWord = true := by decide +kernel
theorem gu21 : wu21.all goodWord = true := by decide +kernel
theorem gu22 : wu22.all goodWord = true := by decide +kernel
theorem gu23 : wu23.all goodWord = true := by decide +kernel
theorem gu24 : wu24.all goodWord = true := by decide +kernel
theorem gu25 : wu25.all goodWord = true := by decide +kernel
theorem gu26 : wu26.all goodWord = true := by decide +kernel
theorem gu27 : wu27.all goodWord = true := by decide +kernel
theorem gu28 : wu28.all goodWord = true := by decide +kernel
theorem gu29 : wu29.all goodWord = true := by decide +kernel
theorem gu30 : wu30.all goodWord = true := by decide +kernel
theorem gu31 : wu31.all goodWord = true := by decide +kernel
theorem gu32 : wu32.all goodWord = true := by decide +kernel
theorem gu33 : wu33.all goodWord = true := by decide +kernel
theorem gu34 : wu34.all goodWord = true := by decide +kernel
theorem gu35 : wu35.all goodWord = true := by decide +kernel
theorem guX6 : wsX60.all goodWord = true := by decide +kernel
theorem guX7 : wsX70.all goodWord = true := by decide +kernel
theorem guX4 : wsX40.all goodWord = true := by decide +kernel
theorem guX1 : wsX10.all goodWord = true := by decide +kernel
theorem guX5 : wsX50.all goodWord = true := by decide +kernel
theorem guX0 : wsX00.all goodWord = true := by decide +kernel
theorem guX2 : wsX20.all goodWord = true := by decide +kernel
theorem guX3 : wsX30.all goodWord = true := by decide +kernel
theorem all_app {a b : List Cond} (h1 : a.all goodWord = true) (h2 : b.all goodWord = true) : (a ++ b).all goodWord = true := by rw [List.all_append, h1, h2]; rfl
theorem goodU : ∀ w ∈ wsU, goodWord w = true := List.all_eq_true.mp (show wsU.all goodWord = true from (all_app (all_app (all_app (all_app (all_app gu0 gu1) (all_app gu2 (all_app gu3 gu4))) (all_app (all_app gu5 (all_app gu6 gu7)) (all_app gu8 (all_app gu9 gu10)))) (all_app (all_app (all_app gu11 gu12) (all_app gu13 (all_app gu14 gu15))) (all_app (all_app gu16 (all_app gu17 gu18)) (all_app gu19 (all_app gu20 gu21))))) (all_app (all_app (all_app (all_app gu22 gu23) (all_app gu24 (all_app gu25 gu26))) (all_app (all_app gu27 (all_app gu28 gu29)) (all_app gu30 (all_app gu31 gu32)))) (all_app (all_app (all_app gu33 gu34) (all_app gu35 (all_app guX6 guX7))) (all_app (all_app guX4 (all_app guX1 guX5)) (all_app guX0 (all_app guX2 guX3)))))))
def wsO (y : MethodName) (c : ByteArray) (mL : Nat) (r : Option FieldType) : List Cond := Cond.code y c mL r :: wsU
theorem goO {y y2 : MethodName} {c c2 : ByteArray} {mL mL2 : Nat} {r r2 : Option FieldType} {vs : List Cond} (hv : ∀ w ∈ vs, w ∈ wsU) (hc : Cond.code y2 c2 mL2 r2 ∈ wsU) : GoodIn (wsO y c mL r) (vs ++ wsO y2 c2 mL2 r2) := by
  have h : ∀ w ∈ vs ++ wsO y2 c2 mL2 r2, w ∈ wsU := by
    intro w hw
    rcases List.mem_append.mp hw with h | h
    · exact hv w h
    · rcases List.mem_cons.mp h with h | h
      · rw [h]; exact hc
      · exact h
  exact fun w hw => ⟨List.mem_cons_of_mem _ (h w hw), good_of_word (goodU w (h w hw))⟩
theorem goL {y2 : MethodName} {c2 : ByteArray} {mL2 : Nat} {r2 : Option FieldType} {vs : List Cond} (hv : ∀ w ∈ vs, w ∈ wsU) (hc : Cond.code y2 c2 mL2 r2 ∈ wsU) : GoodIn wsU (vs ++ wsO y2 c2 mL2 r2) := by
  have h : ∀ w ∈ vs ++ wsO y2 c2 mL2 r2, w ∈ wsU := by
    intro w hw
    rcases List.mem_append.mp hw with h | h
    · exact hv w h
    · rcases List.mem_cons.mp h with h | h
      · rw [h]; exact hc
      · exact h
  exact fun w hw => ⟨h w hw, good_of_word (goodU w (h w hw))⟩
theorem m4 {a b c d : Cond} (ha : a ∈ wsU) (hb : b ∈ wsU) (hc : c ∈ wsU) (hd : d ∈ wsU) : ∀ w ∈ ([a, b, c, d] : List Cond), w ∈ wsU := by
  intro w h
  simp only [List.mem_cons, List.not_mem_nil, or_false] at h
  rcases h with rfl | rfl | rfl | rfl <;> assumption
theorem m3 {a b c : Cond} (ha : a ∈ wsU) (hb : b ∈ wsU) (hc : c ∈ wsU) : ∀ w ∈ ([a, b, c] : List Cond), w ∈ wsU := by
  intro w h
  simp only [List.mem_cons, List.not_mem_nil, or_false] at h
  rcases h with rfl | rfl | rfl <;> assumption
theorem m0 : ∀ w ∈ ([] : List Cond), w ∈ wsU := fun w h => absurd h List.not_mem_nil
