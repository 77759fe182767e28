def RX0 : String := "GapBuffer$Bytes"
def TX0 : u_T := fun k => match k with
  | 0 => ("GapBuffer$Bytes", "codes", "[I", true)
  | _ => ("GapBuffer$Bytes", "size", "I", false)
def tyX0 : Nat → FieldType := fun k => match k with
  | 0 => .array .int
  | _ => .int
abbrev wsX00 : List Cond := u_ws RX0 TX0 2
theorem nmX0 : ∀ a, a < 2 → ∀ b, b < 2 → a ≠ b → (TX0 a).2.1 ≠ (TX0 b).2.1 := by decide +kernel
theorem tyX0_ok : ∀ k, k < 2 → parseFieldDescriptor (TX0 k).2.2.1 = some (tyX0 k) := by decide +kernel
abbrev cX0_init : ByteArray := prog_2_method_1_code
def yX0_init : MethodName := ⟨RX0, "<init>", "(I)V"⟩
abbrev cX0_size : ByteArray := prog_2_method_2_code
def yX0_size : MethodName := ⟨RX0, "size", "()I"⟩
abbrev cX0_at : ByteArray := prog_2_method_3_code
def yX0_at : MethodName := ⟨RX0, "at", "(I)I"⟩
abbrev cX0_put : ByteArray := prog_2_method_4_code
def yX0_put : MethodName := ⟨RX0, "put", "(II)V"⟩
abbrev cX0_open : ByteArray := prog_2_method_7_code
def yX0_open : MethodName := ⟨RX0, "open", "(II)V"⟩
abbrev cX0_close : ByteArray := prog_2_method_8_code
def yX0_close : MethodName := ⟨RX0, "close", "(II)V"⟩
abbrev cX0_assign : ByteArray := prog_2_method_9_code
def yX0_assign : MethodName := ⟨RX0, "assign", "(LGapBuffer$Bytes;II)V"⟩
abbrev cX0_lineCount : ByteArray := prog_2_method_12_code
def yX0_lineCount : MethodName := ⟨RX0, "lineCount", "()I"⟩
abbrev cX0_breaksBefore : ByteArray := prog_2_method_13_code
def yX0_breaksBefore : MethodName := ⟨RX0, "breaksBefore", "(I)I"⟩
abbrev cX0_lineBegin : ByteArray := prog_2_method_14_code
def yX0_lineBegin : MethodName := ⟨RX0, "lineBegin", "(I)I"⟩
abbrev cX0_lineEnd : ByteArray := prog_2_method_15_code
def yX0_lineEnd : MethodName := ⟨RX0, "lineEnd", "(I)I"⟩
def RX1 : String := "GapBuffer$Commands"
def TX1 : u_T := fun k => match k with
  | 0 => ("GapBuffer$Commands", "buffer", "LGapBuffer$Bytes;", true)
  | _ => ("GapBuffer$Commands", "reader", "LGapBuffer$Reader;", true)
def tyX1 : Nat → FieldType := fun k => match k with
  | 0 => .object "GapBuffer$Bytes"
  | _ => .object "GapBuffer$Reader"
abbrev wsX10 : List Cond := u_ws RX1 TX1 2
theorem nmX1 : ∀ a, a < 2 → ∀ b, b < 2 → a ≠ b → (TX1 a).2.1 ≠ (TX1 b).2.1 := by decide +kernel
theorem tyX1_ok : ∀ k, k < 2 → parseFieldDescriptor (TX1 k).2.2.1 = some (tyX1 k) := by decide +kernel
abbrev cX1_init : ByteArray := prog_3_method_1_code
def yX1_init : MethodName := ⟨RX1, "<init>", "()V"⟩
def RX2 : String := "GapBuffer$History"
def TX2 : u_T := fun k => match k with
  | 0 => ("GapBuffer$History", "rows", "[LGapBuffer$State;", true)
  | 1 => ("GapBuffer$History", "next", "I", false)
  | _ => ("GapBuffer$History", "count", "I", false)
def tyX2 : Nat → FieldType := fun k => match k with
  | 0 => .array (.object "GapBuffer$State")
  | 1 => .int
  | _ => .int
abbrev wsX20 : List Cond := u_ws RX2 TX2 3
theorem nmX2 : ∀ a, a < 3 → ∀ b, b < 3 → a ≠ b → (TX2 a).2.1 ≠ (TX2 b).2.1 := by decide +kernel
theorem tyX2_ok : ∀ k, k < 3 → parseFieldDescriptor (TX2 k).2.2.1 = some (tyX2 k) := by decide +kernel
abbrev cX2_init : ByteArray := prog_4_method_1_code
def yX2_init : MethodName := ⟨RX2, "<init>", "()V"⟩
abbrev cX2_count : ByteArray := prog_4_method_2_code
def yX2_count : MethodName := ⟨RX2, "count", "()I"⟩
abbrev cX2_save : ByteArray := prog_4_method_3_code
def yX2_save : MethodName := ⟨RX2, "save", "(LGapBuffer$State;)V"⟩
abbrev cX2_restore : ByteArray := prog_4_method_4_code
def yX2_restore : MethodName := ⟨RX2, "restore", "(LGapBuffer$State;)V"⟩
def RX3 : String := "GapBuffer$Layout"
def TX3 : u_T := fun k => match k with
  | 0 => ("GapBuffer$Layout", "capacity", "I", false)
  | 1 => ("GapBuffer$Layout", "gapStart", "I", false)
  | 2 => ("GapBuffer$Layout", "carried", "I", false)
  | 3 => ("GapBuffer$Layout", "copied", "I", false)
  | 4 => ("GapBuffer$Layout", "growths", "I", false)
  | _ => ("GapBuffer$Layout", "shrinks", "I", false)
def tyX3 : Nat → FieldType := fun k => match k with
  | 0 => .int
  | 1 => .int
  | 2 => .int
  | 3 => .int
  | 4 => .int
  | _ => .int
abbrev wsX30 : List Cond := u_ws RX3 TX3 6
theorem nmX3 : ∀ a, a < 6 → ∀ b, b < 6 → a ≠ b → (TX3 a).2.1 ≠ (TX3 b).2.1 := by decide +kernel
theorem tyX3_ok : ∀ k, k < 6 → parseFieldDescriptor (TX3 k).2.2.1 = some (tyX3 k) := by decide +kernel
abbrev cX3_init : ByteArray := prog_5_method_1_code
def yX3_init : MethodName := ⟨RX3, "<init>", "()V"⟩
abbrev cX3_moveGap : ByteArray := prog_5_method_3_code
def yX3_moveGap : MethodName := ⟨RX3, "moveGap", "(I)I"⟩
abbrev cX3_insertAt : ByteArray := prog_5_method_4_code
def yX3_insertAt : MethodName := ⟨RX3, "insertAt", "(III)V"⟩
abbrev cX3_deleteAt : ByteArray := prog_5_method_5_code
def yX3_deleteAt : MethodName := ⟨RX3, "deleteAt", "(III)V"⟩
abbrev cX3_isTooLarge : ByteArray := prog_5_method_6_code
def yX3_isTooLarge : MethodName := ⟨RX3, "isTooLarge", "(I)Z"⟩
abbrev cX3_assign : ByteArray := prog_5_method_7_code
def yX3_assign : MethodName := ⟨RX3, "assign", "(LGapBuffer$Layout;)V"⟩
def RX4 : String := "GapBuffer$Marks"
def TX4 : u_T := fun k => match k with
  | 0 => ("GapBuffer$Marks", "positions", "[I", true)
  | _ => ("GapBuffer$Marks", "sides", "[I", true)
def tyX4 : Nat → FieldType := fun k => match k with
  | 0 => .array .int
  | _ => .array .int
abbrev wsX40 : List Cond := u_ws RX4 TX4 2
theorem nmX4 : ∀ a, a < 2 → ∀ b, b < 2 → a ≠ b → (TX4 a).2.1 ≠ (TX4 b).2.1 := by decide +kernel
theorem tyX4_ok : ∀ k, k < 2 → parseFieldDescriptor (TX4 k).2.2.1 = some (tyX4 k) := by decide +kernel
abbrev cX4_init : ByteArray := prog_6_method_1_code
def yX4_init : MethodName := ⟨RX4, "<init>", "()V"⟩
abbrev cX4_positionOf : ByteArray := prog_6_method_2_code
def yX4_positionOf : MethodName := ⟨RX4, "positionOf", "(I)I"⟩
abbrev cX4_place : ByteArray := prog_6_method_3_code
def yX4_place : MethodName := ⟨RX4, "place", "(III)V"⟩
abbrev cX4_shiftForInsertion : ByteArray := prog_6_method_4_code
def yX4_shiftForInsertion : MethodName := ⟨RX4, "shiftForInsertion", "(II)V"⟩
abbrev cX4_shiftForDeletion : ByteArray := prog_6_method_5_code
def yX4_shiftForDeletion : MethodName := ⟨RX4, "shiftForDeletion", "(II)V"⟩
abbrev cX4_assign : ByteArray := prog_6_method_6_code
def yX4_assign : MethodName := ⟨RX4, "assign", "(LGapBuffer$Marks;)V"⟩
def RX5 : String := "GapBuffer$Reader"
def TX5 : u_T := fun k => match k with
  | 0 => ("GapBuffer$Reader", "command", "I", false)
  | 1 => ("GapBuffer$Reader", "letters", "I", false)
  | _ => ("GapBuffer$Reader", "number", "I", false)
def tyX5 : Nat → FieldType := fun k => match k with
  | 0 => .int
  | 1 => .int
  | _ => .int
abbrev wsX50 : List Cond := u_ws RX5 TX5 3
theorem nmX5 : ∀ a, a < 3 → ∀ b, b < 3 → a ≠ b → (TX5 a).2.1 ≠ (TX5 b).2.1 := by decide +kernel
theorem tyX5_ok : ∀ k, k < 3 → parseFieldDescriptor (TX5 k).2.2.1 = some (tyX5 k) := by decide +kernel
abbrev cX5_init : ByteArray := prog_7_method_1_code
def yX5_init : MethodName := ⟨RX5, "<init>", "()V"⟩
def RX6 : String := "GapBuffer$State"
def TX6 : u_T := fun k => match k with
  | 0 => ("GapBuffer$State", "text", "LGapBuffer$Bytes;", true)
  | 1 => ("GapBuffer$State", "clipboard", "LGapBuffer$Bytes;", true)
  | 2 => ("GapBuffer$State", "marks", "LGapBuffer$Marks;", true)
  | 3 => ("GapBuffer$State", "layout", "LGapBuffer$Layout;", true)
  | 4 => ("GapBuffer$State", "caret", "I", false)
  | 5 => ("GapBuffer$State", "goalColumn", "I", false)
  | _ => ("GapBuffer$State", "isEager", "Z", false)
def tyX6 : Nat → FieldType := fun k => match k with
  | 0 => .object "GapBuffer$Bytes"
  | 1 => .object "GapBuffer$Bytes"
  | 2 => .object "GapBuffer$Marks"
  | 3 => .object "GapBuffer$Layout"
  | 4 => .int
  | 5 => .int
  | _ => .boolean
abbrev wsX60 : List Cond := u_ws RX6 TX6 7
theorem nmX6 : ∀ a, a < 7 → ∀ b, b < 7 → a ≠ b → (TX6 a).2.1 ≠ (TX6 b).2.1 := by decide +kernel
theorem tyX6_ok : ∀ k, k < 7 → parseFieldDescriptor (TX6 k).2.2.1 = some (tyX6 k) := by decide +kernel
abbrev cX6_init : ByteArray := prog_8_method_1_code
def yX6_init : MethodName := ⟨RX6, "<init>", "()V"⟩
abbrev cX6_insertFault : ByteArray := prog_8_method_2_code
def yX6_insertFault : MethodName := ⟨RX6, "insertFault", "(I)I"⟩
abbrev cX6_pasteFault : ByteArray := prog_8_method_3_code
def yX6_pasteFault : MethodName := ⟨RX6, "pasteFault", "()I"⟩
abbrev cX6_regionFault : ByteArray := prog_8_method_4_code
def yX6_regionFault : MethodName := ⟨RX6, "regionFault", "(I)I"⟩
abbrev cX6_insertRepeated : ByteArray := prog_8_method_6_code
def yX6_insertRepeated : MethodName := ⟨RX6, "insertRepeated", "(II)V"⟩
abbrev cX6_insertPart : ByteArray := prog_8_method_7_code
def yX6_insertPart : MethodName := ⟨RX6, "insertPart", "(LGapBuffer$Bytes;II)V"⟩
abbrev cX6_openSpace : ByteArray := prog_8_method_8_code
def yX6_openSpace : MethodName := ⟨RX6, "openSpace", "(I)I"⟩
abbrev cX6_deleteBehind : ByteArray := prog_8_method_9_code
def yX6_deleteBehind : MethodName := ⟨RX6, "deleteBehind", "(I)I"⟩
abbrev cX6_deleteBefore : ByteArray := prog_8_method_10_code
def yX6_deleteBefore : MethodName := ⟨RX6, "deleteBefore", "(I)I"⟩
abbrev cX6_deletePart : ByteArray := prog_8_method_11_code
def yX6_deletePart : MethodName := ⟨RX6, "deletePart", "(II)V"⟩
abbrev cX6_copyRegion : ByteArray := prog_8_method_12_code
def yX6_copyRegion : MethodName := ⟨RX6, "copyRegion", "(I)V"⟩
abbrev cX6_cutRegion : ByteArray := prog_8_method_13_code
def yX6_cutRegion : MethodName := ⟨RX6, "cutRegion", "(I)V"⟩
abbrev cX6_moveCaret : ByteArray := prog_8_method_14_code
def yX6_moveCaret : MethodName := ⟨RX6, "moveCaret", "(I)I"⟩
abbrev cX6_letGapFollow : ByteArray := prog_8_method_15_code
def yX6_letGapFollow : MethodName := ⟨RX6, "letGapFollow", "()I"⟩
abbrev cX6_moveUp : ByteArray := prog_8_method_16_code
def yX6_moveUp : MethodName := ⟨RX6, "moveUp", "()V"⟩
abbrev cX6_moveDown : ByteArray := prog_8_method_17_code
def yX6_moveDown : MethodName := ⟨RX6, "moveDown", "()V"⟩
abbrev cX6_moveToGoal : ByteArray := prog_8_method_18_code
def yX6_moveToGoal : MethodName := ⟨RX6, "moveToGoal", "(I)V"⟩
abbrev cX6_caretColumn : ByteArray := prog_8_method_19_code
def yX6_caretColumn : MethodName := ⟨RX6, "caretColumn", "()I"⟩
abbrev cX6_cellAt : ByteArray := prog_8_method_20_code
def yX6_cellAt : MethodName := ⟨RX6, "cellAt", "(I)I"⟩
abbrev cX6_hash : ByteArray := prog_8_method_21_code
def yX6_hash : MethodName := ⟨RX6, "hash", "()J"⟩
abbrev cX6_hashOn : ByteArray := prog_8_method_22_code
def yX6_hashOn : MethodName := ⟨RX6, "hashOn", "(JLGapBuffer$Bytes;)J"⟩
abbrev cX6_assign : ByteArray := prog_8_method_23_code
def yX6_assign : MethodName := ⟨RX6, "assign", "(LGapBuffer$State;)V"⟩
def RX7 : String := "GapBuffer"
def TX7 : u_T := fun k => match k with
  | 0 => ("GapBuffer", "state", "LGapBuffer$State;", true)
  | 1 => ("GapBuffer", "history", "LGapBuffer$History;", true)
  | 2 => ("GapBuffer", "commands", "LGapBuffer$Commands;", true)
  | _ => ("GapBuffer", "forecast", "LGapBuffer$Layout;", true)
def tyX7 : Nat → FieldType := fun k => match k with
  | 0 => .object "GapBuffer$State"
  | 1 => .object "GapBuffer$History"
  | 2 => .object "GapBuffer$Commands"
  | _ => .object "GapBuffer$Layout"
abbrev wsX70 : List Cond := u_ws RX7 TX7 4
theorem nmX7 : ∀ a, a < 4 → ∀ b, b < 4 → a ≠ b → (TX7 a).2.1 ≠ (TX7 b).2.1 := by decide +kernel
theorem tyX7_ok : ∀ k, k < 4 → parseFieldDescriptor (TX7 k).2.2.1 = some (tyX7 k) := by decide +kernel
abbrev cX7_init : ByteArray := prog_1_method_1_code
def yX7_init : MethodName := ⟨RX7, "<init>", "()V"⟩
abbrev cX7_type : ByteArray := prog_1_method_2_code
def yX7_type : MethodName := ⟨RX7, "type", "(I)I"⟩
abbrev cX7_fill : ByteArray := prog_1_method_3_code
def yX7_fill : MethodName := ⟨RX7, "fill", "(II)I"⟩
abbrev cX7_erase : ByteArray := prog_1_method_4_code
def yX7_erase : MethodName := ⟨RX7, "erase", "(I)I"⟩
abbrev cX7_backspace : ByteArray := prog_1_method_5_code
def yX7_backspace : MethodName := ⟨RX7, "backspace", "(I)I"⟩
abbrev cX7_moveTo : ByteArray := prog_1_method_6_code
def yX7_moveTo : MethodName := ⟨RX7, "moveTo", "(I)I"⟩
abbrev cX7_moveBy : ByteArray := prog_1_method_7_code
def yX7_moveBy : MethodName := ⟨RX7, "moveBy", "(I)I"⟩
abbrev cX7_up : ByteArray := prog_1_method_8_code
def yX7_up : MethodName := ⟨RX7, "up", "()I"⟩
abbrev cX7_down : ByteArray := prog_1_method_9_code
def yX7_down : MethodName := ⟨RX7, "down", "()I"⟩
abbrev cX7_moveInLine : ByteArray := prog_1_method_10_code
def yX7_moveInLine : MethodName := ⟨RX7, "moveInLine", "(Z)I"⟩
abbrev cX7_setEager : ByteArray := prog_1_method_11_code
def yX7_setEager : MethodName := ⟨RX7, "setEager", "(Z)I"⟩
abbrev cX7_setMark : ByteArray := prog_1_method_12_code
def yX7_setMark : MethodName := ⟨RX7, "setMark", "(II)I"⟩
abbrev cX7_copy : ByteArray := prog_1_method_13_code
def yX7_copy : MethodName := ⟨RX7, "copy", "(I)I"⟩
abbrev cX7_cut : ByteArray := prog_1_method_14_code
def yX7_cut : MethodName := ⟨RX7, "cut", "(I)I"⟩
abbrev cX7_paste : ByteArray := prog_1_method_15_code
def yX7_paste : MethodName := ⟨RX7, "paste", "()I"⟩
abbrev cX7_mark : ByteArray := prog_1_method_16_code
def yX7_mark : MethodName := ⟨RX7, "mark", "(I)I"⟩
abbrev cX7_clip : ByteArray := prog_1_method_17_code
def yX7_clip : MethodName := ⟨RX7, "clip", "(I)I"⟩
abbrev cX7_length : ByteArray := prog_1_method_19_code
def yX7_length : MethodName := ⟨RX7, "length", "()I"⟩
abbrev cX7_caret : ByteArray := prog_1_method_20_code
def yX7_caret : MethodName := ⟨RX7, "caret", "()I"⟩
abbrev cX7_byteAt : ByteArray := prog_1_method_21_code
def yX7_byteAt : MethodName := ⟨RX7, "byteAt", "(I)I"⟩
abbrev cX7_lines : ByteArray := prog_1_method_22_code
def yX7_lines : MethodName := ⟨RX7, "lines", "()I"⟩
abbrev cX7_lineOf : ByteArray := prog_1_method_23_code
def yX7_lineOf : MethodName := ⟨RX7, "lineOf", "(I)I"⟩
abbrev cX7_capacity : ByteArray := prog_1_method_27_code
def yX7_capacity : MethodName := ⟨RX7, "capacity", "()I"⟩
abbrev cX7_gapStart : ByteArray := prog_1_method_28_code
def yX7_gapStart : MethodName := ⟨RX7, "gapStart", "()I"⟩
abbrev cX7_cell : ByteArray := prog_1_method_29_code
def yX7_cell : MethodName := ⟨RX7, "cell", "(I)I"⟩
abbrev cX7_copied : ByteArray := prog_1_method_31_code
def yX7_copied : MethodName := ⟨RX7, "copied", "()I"⟩
abbrev cX7_growths : ByteArray := prog_1_method_32_code
def yX7_growths : MethodName := ⟨RX7, "growths", "()I"⟩
abbrev cX7_shrinks : ByteArray := prog_1_method_33_code
def yX7_shrinks : MethodName := ⟨RX7, "shrinks", "()I"⟩
abbrev cX7_room : ByteArray := prog_1_method_36_code
def yX7_room : MethodName := ⟨RX7, "room", "()I"⟩
abbrev cX7_undo : ByteArray := prog_1_method_41_code
def yX7_undo : MethodName := ⟨RX7, "undo", "()I"⟩
abbrev cX7_savedStates : ByteArray := prog_1_method_42_code
def yX7_savedStates : MethodName := ⟨RX7, "savedStates", "()I"⟩
abbrev cX7_digest : ByteArray := prog_1_method_43_code
def yX7_digest : MethodName := ⟨RX7, "digest", "()J"⟩
abbrev cX7_requireArgument : ByteArray := prog_1_method_44_code
def yX7_requireArgument : MethodName := ⟨RX7, "requireArgument", "(Z)V"⟩
abbrev cX7_requireIndex : ByteArray := prog_1_method_45_code
def yX7_requireIndex : MethodName := ⟨RX7, "requireIndex", "(Z)V"⟩
abbrev cX7_requireState : ByteArray := prog_1_method_46_code
def yX7_requireState : MethodName := ⟨RX7, "requireState", "(Z)V"⟩
abbrev cX7_isByte : ByteArray := prog_1_method_47_code
def yX7_isByte : MethodName := ⟨RX7, "isByte", "(I)Z"⟩
abbrev cX7_isCount : ByteArray := prog_1_method_48_code
def yX7_isCount : MethodName := ⟨RX7, "isCount", "(I)Z"⟩
abbrev cX7_isMark : ByteArray := prog_1_method_49_code
def yX7_isMark : MethodName := ⟨RX7, "isMark", "(I)Z"⟩
abbrev cX7_isPosition : ByteArray := prog_1_method_50_code
def yX7_isPosition : MethodName := ⟨RX7, "isPosition", "(I)Z"⟩
def RX8 : String := "GapBufferModel"
def TX8 : u_T := fun k => match k with
  | _ => ("", "", "", false)
def tyX8 : Nat → FieldType := fun k => match k with
  | _ => .int
abbrev wsX80 : List Cond := u_ws RX8 TX8 0
theorem nmX8 : ∀ a, a < 0 → ∀ b, b < 0 → a ≠ b → (TX8 a).2.1 ≠ (TX8 b).2.1 := by decide +kernel
theorem tyX8_ok : ∀ k, k < 0 → parseFieldDescriptor (TX8 k).2.2.1 = some (tyX8 k) := by decide +kernel
def RJ9 : String := "java/lang/Math"
def TJ9 : u_T := fun k => match k with
  | _ => ("", "", "", false)
def tyJ9 : Nat → FieldType := fun k => match k with
  | _ => .int
theorem nmJ9 : ∀ a, a < 0 → ∀ b, b < 0 → a ≠ b → (TJ9 a).2.1 ≠ (TJ9 b).2.1 := by decide +kernel
theorem tyJ9_ok : ∀ k, k < 0 → parseFieldDescriptor (TJ9 k).2.2.1 = some (tyJ9 k) := by decide +kernel
abbrev cJ9_abs_0f7a4 : ByteArray := prog_15_method_59_code
def yJ9_abs_0f7a4 : MethodName := ⟨RJ9, "abs", "(I)I"⟩
abbrev cJ9_max_7cf53 : ByteArray := prog_15_method_65_code
def yJ9_max_7cf53 : MethodName := ⟨RJ9, "max", "(II)I"⟩
abbrev cJ9_min_7cf53 : ByteArray := prog_15_method_69_code
def yJ9_min_7cf53 : MethodName := ⟨RJ9, "min", "(II)I"⟩
def RJ10 : String := "java/lang/System"
def TJ10 : u_T := fun k => match k with
  | _ => ("", "", "", false)
def tyJ10 : Nat → FieldType := fun k => match k with
  | _ => .int
theorem nmJ10 : ∀ a, a < 0 → ∀ b, b < 0 → a ≠ b → (TJ10 a).2.1 ≠ (TJ10 b).2.1 := by decide +kernel
theorem tyJ10_ok : ∀ k, k < 0 → parseFieldDescriptor (TJ10 k).2.2.1 = some (tyJ10 k) := by decide +kernel
def RL : String := "GapBufferLaw"
abbrev cL_cell : ByteArray := method_2_code
def yL_cell : MethodName := ⟨RL, "cell", "([II)I"⟩
abbrev cL_low : ByteArray := method_3_code
def yL_low : MethodName := ⟨RL, "low", "(II)I"⟩
abbrev cL_act : ByteArray := method_4_code
def yL_act : MethodName := ⟨RL, "act", "(LGapBuffer;II)I"⟩
abbrev cL_holds : ByteArray := method_5_code
def yL_holds : MethodName := ⟨RL, "holds", "(LGapBuffer;)Z"⟩
abbrev cL_isPasted : ByteArray := method_6_code
def yL_isPasted : MethodName := ⟨RL, "isPasted", "(LGapBuffer;[II)Z"⟩
abbrev cL_law : ByteArray := code
def yL_law : MethodName := ⟨RL, "law", "([I)Z"⟩
abbrev vwCl : List vw_C := [(RX0, TX0, 2), (RX1, TX1, 2), (RX2, TX2, 3), (RX3, TX3, 6), (RX4, TX4, 2), (RX5, TX5, 3), (RX6, TX6, 7), (RX7, TX7, 4)]
