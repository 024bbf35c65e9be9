abbrev RR_B : String := "RuledBoard"
abbrev RR_P : String := "RuledBoard$Position"
abbrev RR_W : String := "RuledBoard$MoveRow"
abbrev RR_H : String := "RuledBoard$History"
abbrev RR_S : String := "RuledBoard$MateSearch"
abbrev RR_G : String := "RuledBoard$Beginning"
abbrev RR_M : String := "RuledBoardModel"
abbrev RR_L : String := "RuledBoardLaw"
abbrev RR_JL : String := "java/lang/Long"
abbrev RR_JA : String := "java/util/Arrays"
def FF_B : u_T := fun k => match k with
  | 0 => ("RuledBoard", "position", "LRuledBoard$Position;", true)
  | 1 => ("RuledBoard", "history", "LRuledBoard$History;", true)
  | 2 => ("RuledBoard", "row", "LRuledBoard$MoveRow;", true)
  | 3 => ("RuledBoard", "search", "LRuledBoard$MateSearch;", true)
  | _ => ("RuledBoard", "playing", "Z", false)
def tt_B : Nat → FieldType := fun k => match k with
  | 0 => .object "RuledBoard$Position"
  | 1 => .object "RuledBoard$History"
  | 2 => .object "RuledBoard$MoveRow"
  | 3 => .object "RuledBoard$MateSearch"
  | _ => .boolean
theorem nn_B : ∀ a, a < 5 → ∀ b, b < 5 → a ≠ b → (FF_B a).2.1 ≠ (FF_B b).2.1 := by decide +kernel
theorem tt_B_ok : ∀ k, k < 5 → parseFieldDescriptor (FF_B k).2.2.1 = some (tt_B k) := by decide +kernel
def FF_P : u_T := fun k => match k with
  | 0 => ("RuledBoard$Position", "squares", "[I", true)
  | 1 => ("RuledBoard$Position", "kings", "[I", true)
  | 2 => ("RuledBoard$Position", "side", "I", false)
  | 3 => ("RuledBoard$Position", "rights", "I", false)
  | _ => ("RuledBoard$Position", "passed", "I", false)
def tt_P : Nat → FieldType := fun k => match k with
  | 0 => .array .int
  | 1 => .array .int
  | 2 => .int
  | 3 => .int
  | _ => .int
theorem nn_P : ∀ a, a < 5 → ∀ b, b < 5 → a ≠ b → (FF_P a).2.1 ≠ (FF_P b).2.1 := by decide +kernel
theorem tt_P_ok : ∀ k, k < 5 → parseFieldDescriptor (FF_P k).2.2.1 = some (tt_P k) := by decide +kernel
def FF_W : u_T := fun k => match k with
  | 0 => ("RuledBoard$MoveRow", "codes", "[I", true)
  | _ => ("RuledBoard$MoveRow", "count", "I", false)
def tt_W : Nat → FieldType := fun k => match k with
  | 0 => .array .int
  | _ => .int
theorem nn_W : ∀ a, a < 2 → ∀ b, b < 2 → a ≠ b → (FF_W a).2.1 ≠ (FF_W b).2.1 := by decide +kernel
theorem tt_W_ok : ∀ k, k < 2 → parseFieldDescriptor (FF_W k).2.2.1 = some (tt_W k) := by decide +kernel
def FF_H : u_T := fun k => match k with
  | 0 => ("RuledBoard$History", "boards", "[J", true)
  | 1 => ("RuledBoard$History", "marks", "[I", true)
  | 2 => ("RuledBoard$History", "quiets", "[I", true)
  | 3 => ("RuledBoard$History", "codes", "[I", true)
  | 4 => ("RuledBoard$History", "befores", "[I", true)
  | _ => ("RuledBoard$History", "made", "I", false)
def tt_H : Nat → FieldType := fun k => match k with
  | 0 => .array .long
  | 1 => .array .int
  | 2 => .array .int
  | 3 => .array .int
  | 4 => .array .int
  | _ => .int
theorem nn_H : ∀ a, a < 6 → ∀ b, b < 6 → a ≠ b → (FF_H a).2.1 ≠ (FF_H b).2.1 := by decide +kernel
theorem tt_H_ok : ∀ k, k < 6 → parseFieldDescriptor (FF_H k).2.2.1 = some (tt_H k) := by decide +kernel
def FF_S : u_T := fun k => match k with
  | _ => ("RuledBoard$MateSearch", "rows", "[LRuledBoard$MoveRow;", true)
def tt_S : Nat → FieldType := fun k => match k with
  | _ => .array (.object "RuledBoard$MoveRow")
theorem nn_S : ∀ a, a < 1 → ∀ b, b < 1 → a ≠ b → (FF_S a).2.1 ≠ (FF_S b).2.1 := by decide +kernel
theorem tt_S_ok : ∀ k, k < 1 → parseFieldDescriptor (FF_S k).2.2.1 = some (tt_S k) := by decide +kernel
def FF_M : u_T := fun k => match k with
  | 0 => ("RuledBoardModel", "thrown", "I", false)
  | 1 => ("RuledBoardModel", "plays", "Z", false)
  | 2 => ("RuledBoardModel", "board", "[I", true)
  | 3 => ("RuledBoardModel", "side", "I", false)
  | 4 => ("RuledBoardModel", "rights", "I", false)
  | 5 => ("RuledBoardModel", "passed", "I", false)
  | 6 => ("RuledBoardModel", "quiet", "I", false)
  | 7 => ("RuledBoardModel", "made", "I", false)
  | 8 => ("RuledBoardModel", "past", "[I", true)
  | 9 => ("RuledBoardModel", "pastSide", "[I", true)
  | 10 => ("RuledBoardModel", "pastRights", "[I", true)
  | 11 => ("RuledBoardModel", "pastPassing", "[I", true)
  | 12 => ("RuledBoardModel", "pastPassed", "[I", true)
  | 13 => ("RuledBoardModel", "pastQuiet", "[I", true)
  | 14 => ("RuledBoardModel", "kept", "[I", true)
  | 15 => ("RuledBoardModel", "keptSide", "[I", true)
  | 16 => ("RuledBoardModel", "keptRights", "[I", true)
  | 17 => ("RuledBoardModel", "keptPassed", "[I", true)
  | 18 => ("RuledBoardModel", "keptQuiet", "[I", true)
  | _ => ("RuledBoardModel", "list", "[I", true)
def tt_M : Nat → FieldType := fun k => match k with
  | 0 => .int
  | 1 => .boolean
  | 2 => .array .int
  | 3 => .int
  | 4 => .int
  | 5 => .int
  | 6 => .int
  | 7 => .int
  | 8 => .array .int
  | 9 => .array .int
  | 10 => .array .int
  | 11 => .array .int
  | 12 => .array .int
  | 13 => .array .int
  | 14 => .array .int
  | 15 => .array .int
  | 16 => .array .int
  | 17 => .array .int
  | 18 => .array .int
  | _ => .array .int
theorem nn_M : ∀ a, a < 20 → ∀ b, b < 20 → a ≠ b → (FF_M a).2.1 ≠ (FF_M b).2.1 := by decide +kernel
theorem tt_M_ok : ∀ k, k < 20 → parseFieldDescriptor (FF_M k).2.2.1 = some (tt_M k) := by decide +kernel
abbrev classes : List vw_C := [(RR_B, FF_B, 5), (RR_P, FF_P, 5), (RR_W, FF_W, 2), (RR_H, FF_H, 6), (RR_S, FF_S, 1), (RR_M, FF_M, 20)]
abbrev yy_B_init : MethodName := ⟨"RuledBoard", "<init>", "()V"⟩
abbrev bb_B_init : ByteArray := prog_1_method_1_code
theorem hd_B_init : yy_B_init.cls ≠ "java/lang/invoke/MethodHandle" ∧ yy_B_init.cls ≠ "java/lang/invoke/VarHandle" ∧ (parseMethodDescriptor yy_B_init.desc).map (fun d => d.parameters.length) = some 0 := by decide +kernel
abbrev yy_P_init : MethodName := ⟨"RuledBoard$Position", "<init>", "()V"⟩
abbrev bb_P_init : ByteArray := prog_6_method_1_code
theorem hd_P_init : yy_P_init.cls ≠ "java/lang/invoke/MethodHandle" ∧ yy_P_init.cls ≠ "java/lang/invoke/VarHandle" ∧ (parseMethodDescriptor yy_P_init.desc).map (fun d => d.parameters.length) = some 0 := by decide +kernel
abbrev yy_H_init : MethodName := ⟨"RuledBoard$History", "<init>", "()V"⟩
abbrev bb_H_init : ByteArray := prog_3_method_1_code
theorem hd_H_init : yy_H_init.cls ≠ "java/lang/invoke/MethodHandle" ∧ yy_H_init.cls ≠ "java/lang/invoke/VarHandle" ∧ (parseMethodDescriptor yy_H_init.desc).map (fun d => d.parameters.length) = some 0 := by decide +kernel
abbrev yy_W_init : MethodName := ⟨"RuledBoard$MoveRow", "<init>", "()V"⟩
abbrev bb_W_init : ByteArray := prog_5_method_1_code
theorem hd_W_init : yy_W_init.cls ≠ "java/lang/invoke/MethodHandle" ∧ yy_W_init.cls ≠ "java/lang/invoke/VarHandle" ∧ (parseMethodDescriptor yy_W_init.desc).map (fun d => d.parameters.length) = some 0 := by decide +kernel
abbrev yy_S_init : MethodName := ⟨"RuledBoard$MateSearch", "<init>", "()V"⟩
abbrev bb_S_init : ByteArray := prog_4_method_1_code
theorem hd_S_init : yy_S_init.cls ≠ "java/lang/invoke/MethodHandle" ∧ yy_S_init.cls ≠ "java/lang/invoke/VarHandle" ∧ (parseMethodDescriptor yy_S_init.desc).map (fun d => d.parameters.length) = some 0 := by decide +kernel
abbrev yy_P_putHomePieces : MethodName := ⟨"RuledBoard$Position", "putHomePieces", "()V"⟩
abbrev bb_P_putHomePieces : ByteArray := prog_6_method_2_code
theorem hd_P_putHomePieces : yy_P_putHomePieces.cls ≠ "java/lang/invoke/MethodHandle" ∧ yy_P_putHomePieces.cls ≠ "java/lang/invoke/VarHandle" ∧ (parseMethodDescriptor yy_P_putHomePieces.desc).map (fun d => d.parameters.length) = some 0 := by decide +kernel
abbrev yy_B_startPlay : MethodName := ⟨"RuledBoard", "startPlay", "(III)V"⟩
abbrev bb_B_startPlay : ByteArray := prog_1_method_20_code
theorem hd_B_startPlay : yy_B_startPlay.cls ≠ "java/lang/invoke/MethodHandle" ∧ yy_B_startPlay.cls ≠ "java/lang/invoke/VarHandle" ∧ (parseMethodDescriptor yy_B_startPlay.desc).map (fun d => d.parameters.length) = some 3 := by decide +kernel
abbrev yy_P_squareOf : MethodName := ⟨"RuledBoard$Position", "squareOf", "(I)I"⟩
abbrev bb_P_squareOf : ByteArray := prog_6_method_3_code
theorem hd_P_squareOf : yy_P_squareOf.cls ≠ "java/lang/invoke/MethodHandle" ∧ yy_P_squareOf.cls ≠ "java/lang/invoke/VarHandle" ∧ (parseMethodDescriptor yy_P_squareOf.desc).map (fun d => d.parameters.length) = some 1 := by decide +kernel
abbrev yy_H_start : MethodName := ⟨"RuledBoard$History", "start", "()V"⟩
abbrev bb_H_start : ByteArray := prog_3_method_2_code
theorem hd_H_start : yy_H_start.cls ≠ "java/lang/invoke/MethodHandle" ∧ yy_H_start.cls ≠ "java/lang/invoke/VarHandle" ∧ (parseMethodDescriptor yy_H_start.desc).map (fun d => d.parameters.length) = some 0 := by decide +kernel
abbrev yy_P_passingMoves : MethodName := ⟨"RuledBoard$Position", "passingMoves", "()I"⟩
abbrev bb_P_passingMoves : ByteArray := prog_6_method_32_code
theorem hd_P_passingMoves : yy_P_passingMoves.cls ≠ "java/lang/invoke/MethodHandle" ∧ yy_P_passingMoves.cls ≠ "java/lang/invoke/VarHandle" ∧ (parseMethodDescriptor yy_P_passingMoves.desc).map (fun d => d.parameters.length) = some 0 := by decide +kernel
abbrev yy_P_passingTarget : MethodName := ⟨"RuledBoard$Position", "passingTarget", "()I"⟩
abbrev bb_P_passingTarget : ByteArray := prog_6_method_20_code
theorem hd_P_passingTarget : yy_P_passingTarget.cls ≠ "java/lang/invoke/MethodHandle" ∧ yy_P_passingTarget.cls ≠ "java/lang/invoke/VarHandle" ∧ (parseMethodDescriptor yy_P_passingTarget.desc).map (fun d => d.parameters.length) = some 0 := by decide +kernel
abbrev yy_B_codeOf : MethodName := ⟨"RuledBoard", "codeOf", "(III)I"⟩
abbrev bb_B_codeOf : ByteArray := prog_1_method_26_code
theorem hd_B_codeOf : yy_B_codeOf.cls ≠ "java/lang/invoke/MethodHandle" ∧ yy_B_codeOf.cls ≠ "java/lang/invoke/VarHandle" ∧ (parseMethodDescriptor yy_B_codeOf.desc).map (fun d => d.parameters.length) = some 3 := by decide +kernel
abbrev yy_P_keepsKingSafe : MethodName := ⟨"RuledBoard$Position", "keepsKingSafe", "(I)Z"⟩
abbrev bb_P_keepsKingSafe : ByteArray := prog_6_method_11_code
theorem hd_P_keepsKingSafe : yy_P_keepsKingSafe.cls ≠ "java/lang/invoke/MethodHandle" ∧ yy_P_keepsKingSafe.cls ≠ "java/lang/invoke/VarHandle" ∧ (parseMethodDescriptor yy_P_keepsKingSafe.desc).map (fun d => d.parameters.length) = some 1 := by decide +kernel
abbrev yy_P_play : MethodName := ⟨"RuledBoard$Position", "play", "(I)I"⟩
abbrev bb_P_play : ByteArray := prog_6_method_25_code
theorem hd_P_play : yy_P_play.cls ≠ "java/lang/invoke/MethodHandle" ∧ yy_P_play.cls ≠ "java/lang/invoke/VarHandle" ∧ (parseMethodDescriptor yy_P_play.desc).map (fun d => d.parameters.length) = some 1 := by decide +kernel
abbrev yy_P_besideOf : MethodName := ⟨"RuledBoard$Position", "besideOf", "(II)I"⟩
abbrev bb_P_besideOf : ByteArray := prog_6_method_27_code
theorem hd_P_besideOf : yy_P_besideOf.cls ≠ "java/lang/invoke/MethodHandle" ∧ yy_P_besideOf.cls ≠ "java/lang/invoke/VarHandle" ∧ (parseMethodDescriptor yy_P_besideOf.desc).map (fun d => d.parameters.length) = some 2 := by decide +kernel
abbrev yy_P_isCastling : MethodName := ⟨"RuledBoard$Position", "isCastling", "(II)Z"⟩
abbrev bb_P_isCastling : ByteArray := prog_6_method_28_code
theorem hd_P_isCastling : yy_P_isCastling.cls ≠ "java/lang/invoke/MethodHandle" ∧ yy_P_isCastling.cls ≠ "java/lang/invoke/VarHandle" ∧ (parseMethodDescriptor yy_P_isCastling.desc).map (fun d => d.parameters.length) = some 2 := by decide +kernel
abbrev yy_P_castlingCorner : MethodName := ⟨"RuledBoard$Position", "castlingCorner", "(II)I"⟩
abbrev bb_P_castlingCorner : ByteArray := prog_6_method_29_code
theorem hd_P_castlingCorner : yy_P_castlingCorner.cls ≠ "java/lang/invoke/MethodHandle" ∧ yy_P_castlingCorner.cls ≠ "java/lang/invoke/VarHandle" ∧ (parseMethodDescriptor yy_P_castlingCorner.desc).map (fun d => d.parameters.length) = some 2 := by decide +kernel
abbrev yy_P_shift : MethodName := ⟨"RuledBoard$Position", "shift", "(II)V"⟩
abbrev bb_P_shift : ByteArray := prog_6_method_30_code
theorem hd_P_shift : yy_P_shift.cls ≠ "java/lang/invoke/MethodHandle" ∧ yy_P_shift.cls ≠ "java/lang/invoke/VarHandle" ∧ (parseMethodDescriptor yy_P_shift.desc).map (fun d => d.parameters.length) = some 2 := by decide +kernel
abbrev yy_P_rightsTiedTo : MethodName := ⟨"RuledBoard$Position", "rightsTiedTo", "(I)I"⟩
abbrev bb_P_rightsTiedTo : ByteArray := prog_6_method_31_code
theorem hd_P_rightsTiedTo : yy_P_rightsTiedTo.cls ≠ "java/lang/invoke/MethodHandle" ∧ yy_P_rightsTiedTo.cls ≠ "java/lang/invoke/VarHandle" ∧ (parseMethodDescriptor yy_P_rightsTiedTo.desc).map (fun d => d.parameters.length) = some 1 := by decide +kernel
abbrev yy_P_isHitBy : MethodName := ⟨"RuledBoard$Position", "isHitBy", "(II)Z"⟩
abbrev bb_P_isHitBy : ByteArray := prog_6_method_5_code
theorem hd_P_isHitBy : yy_P_isHitBy.cls ≠ "java/lang/invoke/MethodHandle" ∧ yy_P_isHitBy.cls ≠ "java/lang/invoke/VarHandle" ∧ (parseMethodDescriptor yy_P_isHitBy.desc).map (fun d => d.parameters.length) = some 2 := by decide +kernel
abbrev yy_P_stepsToBorder : MethodName := ⟨"RuledBoard$Position", "stepsToBorder", "(II)I"⟩
abbrev bb_P_stepsToBorder : ByteArray := prog_6_method_7_code
theorem hd_P_stepsToBorder : yy_P_stepsToBorder.cls ≠ "java/lang/invoke/MethodHandle" ∧ yy_P_stepsToBorder.cls ≠ "java/lang/invoke/VarHandle" ∧ (parseMethodDescriptor yy_P_stepsToBorder.desc).map (fun d => d.parameters.length) = some 2 := by decide +kernel
abbrev yy_P_comesAlong : MethodName := ⟨"RuledBoard$Position", "comesAlong", "(IIII)Z"⟩
abbrev bb_P_comesAlong : ByteArray := prog_6_method_6_code
theorem hd_P_comesAlong : yy_P_comesAlong.cls ≠ "java/lang/invoke/MethodHandle" ∧ yy_P_comesAlong.cls ≠ "java/lang/invoke/VarHandle" ∧ (parseMethodDescriptor yy_P_comesAlong.desc).map (fun d => d.parameters.length) = some 4 := by decide +kernel
abbrev yy_P_squareByJump : MethodName := ⟨"RuledBoard$Position", "squareByJump", "(II)I"⟩
abbrev bb_P_squareByJump : ByteArray := prog_6_method_8_code
theorem hd_P_squareByJump : yy_P_squareByJump.cls ≠ "java/lang/invoke/MethodHandle" ∧ yy_P_squareByJump.cls ≠ "java/lang/invoke/VarHandle" ∧ (parseMethodDescriptor yy_P_squareByJump.desc).map (fun d => d.parameters.length) = some 2 := by decide +kernel
abbrev yy_P_takeBack : MethodName := ⟨"RuledBoard$Position", "takeBack", "(II)V"⟩
abbrev bb_P_takeBack : ByteArray := prog_6_method_26_code
theorem hd_P_takeBack : yy_P_takeBack.cls ≠ "java/lang/invoke/MethodHandle" ∧ yy_P_takeBack.cls ≠ "java/lang/invoke/VarHandle" ∧ (parseMethodDescriptor yy_P_takeBack.desc).map (fun d => d.parameters.length) = some 2 := by decide +kernel
abbrev yy_H_notePosition : MethodName := ⟨"RuledBoard$History", "notePosition", "(LRuledBoard$Position;I)V"⟩
abbrev bb_H_notePosition : ByteArray := prog_3_method_8_code
theorem hd_H_notePosition : yy_H_notePosition.cls ≠ "java/lang/invoke/MethodHandle" ∧ yy_H_notePosition.cls ≠ "java/lang/invoke/VarHandle" ∧ (parseMethodDescriptor yy_H_notePosition.desc).map (fun d => d.parameters.length) = some 2 := by decide +kernel
abbrev yy_H_wordOf : MethodName := ⟨"RuledBoard$History", "wordOf", "([II)J"⟩
abbrev bb_H_wordOf : ByteArray := prog_3_method_9_code
theorem hd_H_wordOf : yy_H_wordOf.cls ≠ "java/lang/invoke/MethodHandle" ∧ yy_H_wordOf.cls ≠ "java/lang/invoke/VarHandle" ∧ (parseMethodDescriptor yy_H_wordOf.desc).map (fun d => d.parameters.length) = some 2 := by decide +kernel
abbrev yy_B_clear : MethodName := ⟨"RuledBoard", "clear", "()V"⟩
abbrev bb_B_clear : ByteArray := prog_1_method_2_code
theorem hd_B_clear : yy_B_clear.cls ≠ "java/lang/invoke/MethodHandle" ∧ yy_B_clear.cls ≠ "java/lang/invoke/VarHandle" ∧ (parseMethodDescriptor yy_B_clear.desc).map (fun d => d.parameters.length) = some 0 := by decide +kernel
abbrev yy_JA_fill : MethodName := ⟨"java/util/Arrays", "fill", "([II)V"⟩
abbrev bb_JA_fill : ByteArray := prog_17_method_103_code
theorem hd_JA_fill : yy_JA_fill.cls ≠ "java/lang/invoke/MethodHandle" ∧ yy_JA_fill.cls ≠ "java/lang/invoke/VarHandle" ∧ (parseMethodDescriptor yy_JA_fill.desc).map (fun d => d.parameters.length) = some 2 := by decide +kernel
abbrev yy_B_made : MethodName := ⟨"RuledBoard", "made", "()I"⟩
abbrev bb_B_made : ByteArray := prog_1_method_7_code
theorem hd_B_made : yy_B_made.cls ≠ "java/lang/invoke/MethodHandle" ∧ yy_B_made.cls ≠ "java/lang/invoke/VarHandle" ∧ (parseMethodDescriptor yy_B_made.desc).map (fun d => d.parameters.length) = some 0 := by decide +kernel
abbrev yy_B_at : MethodName := ⟨"RuledBoard", "at", "(I)I"⟩
abbrev bb_B_at : ByteArray := prog_1_method_8_code
theorem hd_B_at : yy_B_at.cls ≠ "java/lang/invoke/MethodHandle" ∧ yy_B_at.cls ≠ "java/lang/invoke/VarHandle" ∧ (parseMethodDescriptor yy_B_at.desc).map (fun d => d.parameters.length) = some 1 := by decide +kernel
abbrev yy_B_isSquare : MethodName := ⟨"RuledBoard", "isSquare", "(I)Z"⟩
abbrev bb_B_isSquare : ByteArray := prog_1_method_25_code
theorem hd_B_isSquare : yy_B_isSquare.cls ≠ "java/lang/invoke/MethodHandle" ∧ yy_B_isSquare.cls ≠ "java/lang/invoke/VarHandle" ∧ (parseMethodDescriptor yy_B_isSquare.desc).map (fun d => d.parameters.length) = some 1 := by decide +kernel
abbrev yy_B_side : MethodName := ⟨"RuledBoard", "side", "()I"⟩
abbrev bb_B_side : ByteArray := prog_1_method_9_code
theorem hd_B_side : yy_B_side.cls ≠ "java/lang/invoke/MethodHandle" ∧ yy_B_side.cls ≠ "java/lang/invoke/VarHandle" ∧ (parseMethodDescriptor yy_B_side.desc).map (fun d => d.parameters.length) = some 0 := by decide +kernel
abbrev yy_B_rights : MethodName := ⟨"RuledBoard", "rights", "()I"⟩
abbrev bb_B_rights : ByteArray := prog_1_method_10_code
theorem hd_B_rights : yy_B_rights.cls ≠ "java/lang/invoke/MethodHandle" ∧ yy_B_rights.cls ≠ "java/lang/invoke/VarHandle" ∧ (parseMethodDescriptor yy_B_rights.desc).map (fun d => d.parameters.length) = some 0 := by decide +kernel
abbrev yy_B_passed : MethodName := ⟨"RuledBoard", "passed", "()I"⟩
abbrev bb_B_passed : ByteArray := prog_1_method_11_code
theorem hd_B_passed : yy_B_passed.cls ≠ "java/lang/invoke/MethodHandle" ∧ yy_B_passed.cls ≠ "java/lang/invoke/VarHandle" ∧ (parseMethodDescriptor yy_B_passed.desc).map (fun d => d.parameters.length) = some 0 := by decide +kernel
abbrev yy_L_put : MethodName := ⟨"RuledBoardLaw", "put", "(LRuledBoard;II[J)I"⟩
abbrev bb_L_put : ByteArray := method_3_code
theorem hd_L_put : yy_L_put.cls ≠ "java/lang/invoke/MethodHandle" ∧ yy_L_put.cls ≠ "java/lang/invoke/VarHandle" ∧ (parseMethodDescriptor yy_L_put.desc).map (fun d => d.parameters.length) = some 4 := by decide +kernel
abbrev yy_B_put : MethodName := ⟨"RuledBoard", "put", "(II)I"⟩
abbrev bb_B_put : ByteArray := prog_1_method_3_code
theorem hd_B_put : yy_B_put.cls ≠ "java/lang/invoke/MethodHandle" ∧ yy_B_put.cls ≠ "java/lang/invoke/VarHandle" ∧ (parseMethodDescriptor yy_B_put.desc).map (fun d => d.parameters.length) = some 2 := by decide +kernel
abbrev yy_B_refuseInPlay : MethodName := ⟨"RuledBoard", "refuseInPlay", "()V"⟩
abbrev bb_B_refuseInPlay : ByteArray := prog_1_method_21_code
theorem hd_B_refuseInPlay : yy_B_refuseInPlay.cls ≠ "java/lang/invoke/MethodHandle" ∧ yy_B_refuseInPlay.cls ≠ "java/lang/invoke/VarHandle" ∧ (parseMethodDescriptor yy_B_refuseInPlay.desc).map (fun d => d.parameters.length) = some 0 := by decide +kernel
abbrev yy_L_begin : MethodName := ⟨"RuledBoardLaw", "begin", "(LRuledBoard;III[J)I"⟩
abbrev bb_L_begin : ByteArray := method_4_code
theorem hd_L_begin : yy_L_begin.cls ≠ "java/lang/invoke/MethodHandle" ∧ yy_L_begin.cls ≠ "java/lang/invoke/VarHandle" ∧ (parseMethodDescriptor yy_L_begin.desc).map (fun d => d.parameters.length) = some 5 := by decide +kernel
abbrev yy_B_begin : MethodName := ⟨"RuledBoard", "begin", "(III)I"⟩
abbrev bb_B_begin : ByteArray := prog_1_method_4_code
theorem hd_B_begin : yy_B_begin.cls ≠ "java/lang/invoke/MethodHandle" ∧ yy_B_begin.cls ≠ "java/lang/invoke/VarHandle" ∧ (parseMethodDescriptor yy_B_begin.desc).map (fun d => d.parameters.length) = some 3 := by decide +kernel
abbrev yy_G_isAllowed : MethodName := ⟨"RuledBoard$Beginning", "isAllowed", "(LRuledBoard$Position;III)Z"⟩
abbrev bb_G_isAllowed : ByteArray := prog_2_method_2_code
theorem hd_G_isAllowed : yy_G_isAllowed.cls ≠ "java/lang/invoke/MethodHandle" ∧ yy_G_isAllowed.cls ≠ "java/lang/invoke/VarHandle" ∧ (parseMethodDescriptor yy_G_isAllowed.desc).map (fun d => d.parameters.length) = some 4 := by decide +kernel
abbrev yy_B_isSide : MethodName := ⟨"RuledBoard", "isSide", "(I)Z"⟩
abbrev bb_B_isSide : ByteArray := prog_1_method_24_code
theorem hd_B_isSide : yy_B_isSide.cls ≠ "java/lang/invoke/MethodHandle" ∧ yy_B_isSide.cls ≠ "java/lang/invoke/VarHandle" ∧ (parseMethodDescriptor yy_B_isSide.desc).map (fun d => d.parameters.length) = some 1 := by decide +kernel
abbrev yy_G_hasFairPieces : MethodName := ⟨"RuledBoard$Beginning", "hasFairPieces", "([II)Z"⟩
abbrev bb_G_hasFairPieces : ByteArray := prog_2_method_3_code
theorem hd_G_hasFairPieces : yy_G_hasFairPieces.cls ≠ "java/lang/invoke/MethodHandle" ∧ yy_G_hasFairPieces.cls ≠ "java/lang/invoke/VarHandle" ∧ (parseMethodDescriptor yy_G_hasFairPieces.desc).map (fun d => d.parameters.length) = some 2 := by decide +kernel
abbrev yy_G_areRightsFair : MethodName := ⟨"RuledBoard$Beginning", "areRightsFair", "([II)Z"⟩
abbrev bb_G_areRightsFair : ByteArray := prog_2_method_4_code
theorem hd_G_areRightsFair : yy_G_areRightsFair.cls ≠ "java/lang/invoke/MethodHandle" ∧ yy_G_areRightsFair.cls ≠ "java/lang/invoke/VarHandle" ∧ (parseMethodDescriptor yy_G_areRightsFair.desc).map (fun d => d.parameters.length) = some 2 := by decide +kernel
abbrev yy_G_isPassedFair : MethodName := ⟨"RuledBoard$Beginning", "isPassedFair", "([III)Z"⟩
abbrev bb_G_isPassedFair : ByteArray := prog_2_method_5_code
theorem hd_G_isPassedFair : yy_G_isPassedFair.cls ≠ "java/lang/invoke/MethodHandle" ∧ yy_G_isPassedFair.cls ≠ "java/lang/invoke/VarHandle" ∧ (parseMethodDescriptor yy_G_isPassedFair.desc).map (fun d => d.parameters.length) = some 3 := by decide +kernel
abbrev yy_P_listMoves : MethodName := ⟨"RuledBoard$Position", "listMoves", "(LRuledBoard$MoveRow;)I"⟩
abbrev bb_P_listMoves : ByteArray := prog_6_method_9_code
theorem hd_P_listMoves : yy_P_listMoves.cls ≠ "java/lang/invoke/MethodHandle" ∧ yy_P_listMoves.cls ≠ "java/lang/invoke/VarHandle" ∧ (parseMethodDescriptor yy_P_listMoves.desc).map (fun d => d.parameters.length) = some 1 := by decide +kernel
abbrev yy_P_listCandidates : MethodName := ⟨"RuledBoard$Position", "listCandidates", "(LRuledBoard$MoveRow;)V"⟩
abbrev bb_P_listCandidates : ByteArray := prog_6_method_10_code
theorem hd_P_listCandidates : yy_P_listCandidates.cls ≠ "java/lang/invoke/MethodHandle" ∧ yy_P_listCandidates.cls ≠ "java/lang/invoke/VarHandle" ∧ (parseMethodDescriptor yy_P_listCandidates.desc).map (fun d => d.parameters.length) = some 1 := by decide +kernel
abbrev yy_P_addPawnMoves : MethodName := ⟨"RuledBoard$Position", "addPawnMoves", "(ILRuledBoard$MoveRow;)V"⟩
abbrev bb_P_addPawnMoves : ByteArray := prog_6_method_13_code
theorem hd_P_addPawnMoves : yy_P_addPawnMoves.cls ≠ "java/lang/invoke/MethodHandle" ∧ yy_P_addPawnMoves.cls ≠ "java/lang/invoke/VarHandle" ∧ (parseMethodDescriptor yy_P_addPawnMoves.desc).map (fun d => d.parameters.length) = some 2 := by decide +kernel
abbrev yy_P_targetsOfPawn : MethodName := ⟨"RuledBoard$Position", "targetsOfPawn", "(I)J"⟩
abbrev bb_P_targetsOfPawn : ByteArray := prog_6_method_18_code
theorem hd_P_targetsOfPawn : yy_P_targetsOfPawn.cls ≠ "java/lang/invoke/MethodHandle" ∧ yy_P_targetsOfPawn.cls ≠ "java/lang/invoke/VarHandle" ∧ (parseMethodDescriptor yy_P_targetsOfPawn.desc).map (fun d => d.parameters.length) = some 1 := by decide +kernel
abbrev yy_P_canPawnTake : MethodName := ⟨"RuledBoard$Position", "canPawnTake", "(I)Z"⟩
abbrev bb_P_canPawnTake : ByteArray := prog_6_method_19_code
theorem hd_P_canPawnTake : yy_P_canPawnTake.cls ≠ "java/lang/invoke/MethodHandle" ∧ yy_P_canPawnTake.cls ≠ "java/lang/invoke/VarHandle" ∧ (parseMethodDescriptor yy_P_canPawnTake.desc).map (fun d => d.parameters.length) = some 1 := by decide +kernel
abbrev yy_P_isOther : MethodName := ⟨"RuledBoard$Position", "isOther", "(I)Z"⟩
abbrev bb_P_isOther : ByteArray := prog_6_method_21_code
theorem hd_P_isOther : yy_P_isOther.cls ≠ "java/lang/invoke/MethodHandle" ∧ yy_P_isOther.cls ≠ "java/lang/invoke/VarHandle" ∧ (parseMethodDescriptor yy_P_isOther.desc).map (fun d => d.parameters.length) = some 1 := by decide +kernel
abbrev yy_P_addMoves : MethodName := ⟨"RuledBoard$Position", "addMoves", "(IJLRuledBoard$MoveRow;)V"⟩
abbrev bb_P_addMoves : ByteArray := prog_6_method_12_code
theorem hd_P_addMoves : yy_P_addMoves.cls ≠ "java/lang/invoke/MethodHandle" ∧ yy_P_addMoves.cls ≠ "java/lang/invoke/VarHandle" ∧ (parseMethodDescriptor yy_P_addMoves.desc).map (fun d => d.parameters.length) = some 3 := by decide +kernel
abbrev yy_JL_bitCount : MethodName := ⟨"java/lang/Long", "bitCount", "(J)I"⟩
abbrev bb_JL_bitCount : ByteArray := prog_12_method_50_code
theorem hd_JL_bitCount : yy_JL_bitCount.cls ≠ "java/lang/invoke/MethodHandle" ∧ yy_JL_bitCount.cls ≠ "java/lang/invoke/VarHandle" ∧ (parseMethodDescriptor yy_JL_bitCount.desc).map (fun d => d.parameters.length) = some 1 := by decide +kernel
abbrev yy_P_lowestOf : MethodName := ⟨"RuledBoard$Position", "lowestOf", "(J)I"⟩
abbrev bb_P_lowestOf : ByteArray := prog_6_method_14_code
theorem hd_P_lowestOf : yy_P_lowestOf.cls ≠ "java/lang/invoke/MethodHandle" ∧ yy_P_lowestOf.cls ≠ "java/lang/invoke/VarHandle" ∧ (parseMethodDescriptor yy_P_lowestOf.desc).map (fun d => d.parameters.length) = some 1 := by decide +kernel
abbrev yy_W_add : MethodName := ⟨"RuledBoard$MoveRow", "add", "(I)V"⟩
abbrev bb_W_add : ByteArray := prog_5_method_2_code
theorem hd_W_add : yy_W_add.cls ≠ "java/lang/invoke/MethodHandle" ∧ yy_W_add.cls ≠ "java/lang/invoke/VarHandle" ∧ (parseMethodDescriptor yy_W_add.desc).map (fun d => d.parameters.length) = some 1 := by decide +kernel
abbrev yy_P_targetsOfPiece : MethodName := ⟨"RuledBoard$Position", "targetsOfPiece", "(II)J"⟩
abbrev bb_P_targetsOfPiece : ByteArray := prog_6_method_15_code
theorem hd_P_targetsOfPiece : yy_P_targetsOfPiece.cls ≠ "java/lang/invoke/MethodHandle" ∧ yy_P_targetsOfPiece.cls ≠ "java/lang/invoke/VarHandle" ∧ (parseMethodDescriptor yy_P_targetsOfPiece.desc).map (fun d => d.parameters.length) = some 2 := by decide +kernel
abbrev yy_P_targetsOfKnight : MethodName := ⟨"RuledBoard$Position", "targetsOfKnight", "(I)J"⟩
abbrev bb_P_targetsOfKnight : ByteArray := prog_6_method_17_code
theorem hd_P_targetsOfKnight : yy_P_targetsOfKnight.cls ≠ "java/lang/invoke/MethodHandle" ∧ yy_P_targetsOfKnight.cls ≠ "java/lang/invoke/VarHandle" ∧ (parseMethodDescriptor yy_P_targetsOfKnight.desc).map (fun d => d.parameters.length) = some 1 := by decide +kernel
abbrev yy_P_targetsOnWays : MethodName := ⟨"RuledBoard$Position", "targetsOnWays", "(IIII)J"⟩
abbrev bb_P_targetsOnWays : ByteArray := prog_6_method_16_code
theorem hd_P_targetsOnWays : yy_P_targetsOnWays.cls ≠ "java/lang/invoke/MethodHandle" ∧ yy_P_targetsOnWays.cls ≠ "java/lang/invoke/VarHandle" ∧ (parseMethodDescriptor yy_P_targetsOnWays.desc).map (fun d => d.parameters.length) = some 4 := by decide +kernel
abbrev yy_P_castlingTargets : MethodName := ⟨"RuledBoard$Position", "castlingTargets", "()J"⟩
abbrev bb_P_castlingTargets : ByteArray := prog_6_method_22_code
theorem hd_P_castlingTargets : yy_P_castlingTargets.cls ≠ "java/lang/invoke/MethodHandle" ∧ yy_P_castlingTargets.cls ≠ "java/lang/invoke/VarHandle" ∧ (parseMethodDescriptor yy_P_castlingTargets.desc).map (fun d => d.parameters.length) = some 0 := by decide +kernel
abbrev yy_P_hasRight : MethodName := ⟨"RuledBoard$Position", "hasRight", "(I)Z"⟩
abbrev bb_P_hasRight : ByteArray := prog_6_method_23_code
theorem hd_P_hasRight : yy_P_hasRight.cls ≠ "java/lang/invoke/MethodHandle" ∧ yy_P_hasRight.cls ≠ "java/lang/invoke/VarHandle" ∧ (parseMethodDescriptor yy_P_hasRight.desc).map (fun d => d.parameters.length) = some 1 := by decide +kernel
abbrev yy_P_isEmpty : MethodName := ⟨"RuledBoard$Position", "isEmpty", "(II)Z"⟩
abbrev bb_P_isEmpty : ByteArray := prog_6_method_24_code
theorem hd_P_isEmpty : yy_P_isEmpty.cls ≠ "java/lang/invoke/MethodHandle" ∧ yy_P_isEmpty.cls ≠ "java/lang/invoke/VarHandle" ∧ (parseMethodDescriptor yy_P_isEmpty.desc).map (fun d => d.parameters.length) = some 2 := by decide +kernel
abbrev yy_L_move : MethodName := ⟨"RuledBoardLaw", "move", "(LRuledBoard;III[J)I"⟩
abbrev bb_L_move : ByteArray := method_5_code
theorem hd_L_move : yy_L_move.cls ≠ "java/lang/invoke/MethodHandle" ∧ yy_L_move.cls ≠ "java/lang/invoke/VarHandle" ∧ (parseMethodDescriptor yy_L_move.desc).map (fun d => d.parameters.length) = some 5 := by decide +kernel
abbrev yy_B_move : MethodName := ⟨"RuledBoard", "move", "(III)I"⟩
abbrev bb_B_move : ByteArray := prog_1_method_5_code
theorem hd_B_move : yy_B_move.cls ≠ "java/lang/invoke/MethodHandle" ∧ yy_B_move.cls ≠ "java/lang/invoke/VarHandle" ∧ (parseMethodDescriptor yy_B_move.desc).map (fun d => d.parameters.length) = some 3 := by decide +kernel
abbrev yy_B_refuseWhileSet : MethodName := ⟨"RuledBoard", "refuseWhileSet", "()V"⟩
abbrev bb_B_refuseWhileSet : ByteArray := prog_1_method_22_code
theorem hd_B_refuseWhileSet : yy_B_refuseWhileSet.cls ≠ "java/lang/invoke/MethodHandle" ∧ yy_B_refuseWhileSet.cls ≠ "java/lang/invoke/VarHandle" ∧ (parseMethodDescriptor yy_B_refuseWhileSet.desc).map (fun d => d.parameters.length) = some 0 := by decide +kernel
abbrev yy_B_isThere : MethodName := ⟨"RuledBoard", "isThere", "(III)Z"⟩
abbrev bb_B_isThere : ByteArray := prog_1_method_23_code
theorem hd_B_isThere : yy_B_isThere.cls ≠ "java/lang/invoke/MethodHandle" ∧ yy_B_isThere.cls ≠ "java/lang/invoke/VarHandle" ∧ (parseMethodDescriptor yy_B_isThere.desc).map (fun d => d.parameters.length) = some 3 := by decide +kernel
abbrev yy_W_holds : MethodName := ⟨"RuledBoard$MoveRow", "holds", "(I)Z"⟩
abbrev bb_W_holds : ByteArray := prog_5_method_3_code
theorem hd_W_holds : yy_W_holds.cls ≠ "java/lang/invoke/MethodHandle" ∧ yy_W_holds.cls ≠ "java/lang/invoke/VarHandle" ∧ (parseMethodDescriptor yy_W_holds.desc).map (fun d => d.parameters.length) = some 1 := by decide +kernel
abbrev yy_H_makeMove : MethodName := ⟨"RuledBoard$History", "makeMove", "(LRuledBoard$Position;I)V"⟩
abbrev bb_H_makeMove : ByteArray := prog_3_method_3_code
theorem hd_H_makeMove : yy_H_makeMove.cls ≠ "java/lang/invoke/MethodHandle" ∧ yy_H_makeMove.cls ≠ "java/lang/invoke/VarHandle" ∧ (parseMethodDescriptor yy_H_makeMove.desc).map (fun d => d.parameters.length) = some 2 := by decide +kernel
abbrev yy_L_undo : MethodName := ⟨"RuledBoardLaw", "undo", "(LRuledBoard;[J)I"⟩
abbrev bb_L_undo : ByteArray := method_6_code
theorem hd_L_undo : yy_L_undo.cls ≠ "java/lang/invoke/MethodHandle" ∧ yy_L_undo.cls ≠ "java/lang/invoke/VarHandle" ∧ (parseMethodDescriptor yy_L_undo.desc).map (fun d => d.parameters.length) = some 2 := by decide +kernel
abbrev yy_B_undo : MethodName := ⟨"RuledBoard", "undo", "()I"⟩
abbrev bb_B_undo : ByteArray := prog_1_method_6_code
theorem hd_B_undo : yy_B_undo.cls ≠ "java/lang/invoke/MethodHandle" ∧ yy_B_undo.cls ≠ "java/lang/invoke/VarHandle" ∧ (parseMethodDescriptor yy_B_undo.desc).map (fun d => d.parameters.length) = some 0 := by decide +kernel
abbrev yy_H_takeMoveBack : MethodName := ⟨"RuledBoard$History", "takeMoveBack", "(LRuledBoard$Position;)V"⟩
abbrev bb_H_takeMoveBack : ByteArray := prog_3_method_4_code
theorem hd_H_takeMoveBack : yy_H_takeMoveBack.cls ≠ "java/lang/invoke/MethodHandle" ∧ yy_H_takeMoveBack.cls ≠ "java/lang/invoke/VarHandle" ∧ (parseMethodDescriptor yy_H_takeMoveBack.desc).map (fun d => d.parameters.length) = some 1 := by decide +kernel
abbrev yy_L_moves : MethodName := ⟨"RuledBoardLaw", "moves", "(LRuledBoard;[J)I"⟩
abbrev bb_L_moves : ByteArray := method_7_code
theorem hd_L_moves : yy_L_moves.cls ≠ "java/lang/invoke/MethodHandle" ∧ yy_L_moves.cls ≠ "java/lang/invoke/VarHandle" ∧ (parseMethodDescriptor yy_L_moves.desc).map (fun d => d.parameters.length) = some 2 := by decide +kernel
abbrev yy_B_moves : MethodName := ⟨"RuledBoard", "moves", "()I"⟩
abbrev bb_B_moves : ByteArray := prog_1_method_12_code
theorem hd_B_moves : yy_B_moves.cls ≠ "java/lang/invoke/MethodHandle" ∧ yy_B_moves.cls ≠ "java/lang/invoke/VarHandle" ∧ (parseMethodDescriptor yy_B_moves.desc).map (fun d => d.parameters.length) = some 0 := by decide +kernel
abbrev yy_L_nth : MethodName := ⟨"RuledBoardLaw", "nth", "(LRuledBoard;I[J)I"⟩
abbrev bb_L_nth : ByteArray := method_8_code
theorem hd_L_nth : yy_L_nth.cls ≠ "java/lang/invoke/MethodHandle" ∧ yy_L_nth.cls ≠ "java/lang/invoke/VarHandle" ∧ (parseMethodDescriptor yy_L_nth.desc).map (fun d => d.parameters.length) = some 3 := by decide +kernel
abbrev yy_B_nth : MethodName := ⟨"RuledBoard", "nth", "(I)I"⟩
abbrev bb_B_nth : ByteArray := prog_1_method_13_code
theorem hd_B_nth : yy_B_nth.cls ≠ "java/lang/invoke/MethodHandle" ∧ yy_B_nth.cls ≠ "java/lang/invoke/VarHandle" ∧ (parseMethodDescriptor yy_B_nth.desc).map (fun d => d.parameters.length) = some 1 := by decide +kernel
abbrev yy_L_check : MethodName := ⟨"RuledBoardLaw", "check", "(LRuledBoard;[J)I"⟩
abbrev bb_L_check : ByteArray := method_9_code
theorem hd_L_check : yy_L_check.cls ≠ "java/lang/invoke/MethodHandle" ∧ yy_L_check.cls ≠ "java/lang/invoke/VarHandle" ∧ (parseMethodDescriptor yy_L_check.desc).map (fun d => d.parameters.length) = some 2 := by decide +kernel
abbrev yy_B_check : MethodName := ⟨"RuledBoard", "check", "()Z"⟩
abbrev bb_B_check : ByteArray := prog_1_method_14_code
theorem hd_B_check : yy_B_check.cls ≠ "java/lang/invoke/MethodHandle" ∧ yy_B_check.cls ≠ "java/lang/invoke/VarHandle" ∧ (parseMethodDescriptor yy_B_check.desc).map (fun d => d.parameters.length) = some 0 := by decide +kernel
abbrev yy_P_isInCheck : MethodName := ⟨"RuledBoard$Position", "isInCheck", "(I)Z"⟩
abbrev bb_P_isInCheck : ByteArray := prog_6_method_4_code
theorem hd_P_isInCheck : yy_P_isInCheck.cls ≠ "java/lang/invoke/MethodHandle" ∧ yy_P_isInCheck.cls ≠ "java/lang/invoke/VarHandle" ∧ (parseMethodDescriptor yy_P_isInCheck.desc).map (fun d => d.parameters.length) = some 1 := by decide +kernel
abbrev yy_L_ending : MethodName := ⟨"RuledBoardLaw", "ending", "(LRuledBoard;[J)I"⟩
abbrev bb_L_ending : ByteArray := method_10_code
theorem hd_L_ending : yy_L_ending.cls ≠ "java/lang/invoke/MethodHandle" ∧ yy_L_ending.cls ≠ "java/lang/invoke/VarHandle" ∧ (parseMethodDescriptor yy_L_ending.desc).map (fun d => d.parameters.length) = some 2 := by decide +kernel
abbrev yy_B_ending : MethodName := ⟨"RuledBoard", "ending", "()I"⟩
abbrev bb_B_ending : ByteArray := prog_1_method_15_code
theorem hd_B_ending : yy_B_ending.cls ≠ "java/lang/invoke/MethodHandle" ∧ yy_B_ending.cls ≠ "java/lang/invoke/VarHandle" ∧ (parseMethodDescriptor yy_B_ending.desc).map (fun d => d.parameters.length) = some 0 := by decide +kernel
abbrev yy_L_quiet : MethodName := ⟨"RuledBoardLaw", "quiet", "(LRuledBoard;[J)I"⟩
abbrev bb_L_quiet : ByteArray := method_11_code
theorem hd_L_quiet : yy_L_quiet.cls ≠ "java/lang/invoke/MethodHandle" ∧ yy_L_quiet.cls ≠ "java/lang/invoke/VarHandle" ∧ (parseMethodDescriptor yy_L_quiet.desc).map (fun d => d.parameters.length) = some 2 := by decide +kernel
abbrev yy_B_quiet : MethodName := ⟨"RuledBoard", "quiet", "()I"⟩
abbrev bb_B_quiet : ByteArray := prog_1_method_16_code
theorem hd_B_quiet : yy_B_quiet.cls ≠ "java/lang/invoke/MethodHandle" ∧ yy_B_quiet.cls ≠ "java/lang/invoke/VarHandle" ∧ (parseMethodDescriptor yy_B_quiet.desc).map (fun d => d.parameters.length) = some 0 := by decide +kernel
abbrev yy_H_quietNow : MethodName := ⟨"RuledBoard$History", "quietNow", "()I"⟩
abbrev bb_H_quietNow : ByteArray := prog_3_method_5_code
theorem hd_H_quietNow : yy_H_quietNow.cls ≠ "java/lang/invoke/MethodHandle" ∧ yy_H_quietNow.cls ≠ "java/lang/invoke/VarHandle" ∧ (parseMethodDescriptor yy_H_quietNow.desc).map (fun d => d.parameters.length) = some 0 := by decide +kernel
abbrev yy_L_seen : MethodName := ⟨"RuledBoardLaw", "seen", "(LRuledBoard;[J)I"⟩
abbrev bb_L_seen : ByteArray := method_12_code
theorem hd_L_seen : yy_L_seen.cls ≠ "java/lang/invoke/MethodHandle" ∧ yy_L_seen.cls ≠ "java/lang/invoke/VarHandle" ∧ (parseMethodDescriptor yy_L_seen.desc).map (fun d => d.parameters.length) = some 2 := by decide +kernel
abbrev yy_B_seen : MethodName := ⟨"RuledBoard", "seen", "()I"⟩
abbrev bb_B_seen : ByteArray := prog_1_method_17_code
theorem hd_B_seen : yy_B_seen.cls ≠ "java/lang/invoke/MethodHandle" ∧ yy_B_seen.cls ≠ "java/lang/invoke/VarHandle" ∧ (parseMethodDescriptor yy_B_seen.desc).map (fun d => d.parameters.length) = some 0 := by decide +kernel
abbrev yy_H_countSame : MethodName := ⟨"RuledBoard$History", "countSame", "()I"⟩
abbrev bb_H_countSame : ByteArray := prog_3_method_6_code
theorem hd_H_countSame : yy_H_countSame.cls ≠ "java/lang/invoke/MethodHandle" ∧ yy_H_countSame.cls ≠ "java/lang/invoke/VarHandle" ∧ (parseMethodDescriptor yy_H_countSame.desc).map (fun d => d.parameters.length) = some 0 := by decide +kernel
abbrev yy_H_isSameAsNow : MethodName := ⟨"RuledBoard$History", "isSameAsNow", "(I)Z"⟩
abbrev bb_H_isSameAsNow : ByteArray := prog_3_method_7_code
theorem hd_H_isSameAsNow : yy_H_isSameAsNow.cls ≠ "java/lang/invoke/MethodHandle" ∧ yy_H_isSameAsNow.cls ≠ "java/lang/invoke/VarHandle" ∧ (parseMethodDescriptor yy_H_isSameAsNow.desc).map (fun d => d.parameters.length) = some 1 := by decide +kernel
abbrev yy_L_hits : MethodName := ⟨"RuledBoardLaw", "hits", "(LRuledBoard;II[J)I"⟩
abbrev bb_L_hits : ByteArray := method_13_code
theorem hd_L_hits : yy_L_hits.cls ≠ "java/lang/invoke/MethodHandle" ∧ yy_L_hits.cls ≠ "java/lang/invoke/VarHandle" ∧ (parseMethodDescriptor yy_L_hits.desc).map (fun d => d.parameters.length) = some 4 := by decide +kernel
abbrev yy_B_hits : MethodName := ⟨"RuledBoard", "hits", "(II)Z"⟩
abbrev bb_B_hits : ByteArray := prog_1_method_18_code
theorem hd_B_hits : yy_B_hits.cls ≠ "java/lang/invoke/MethodHandle" ∧ yy_B_hits.cls ≠ "java/lang/invoke/VarHandle" ∧ (parseMethodDescriptor yy_B_hits.desc).map (fun d => d.parameters.length) = some 2 := by decide +kernel
abbrev yy_L_mate : MethodName := ⟨"RuledBoardLaw", "mate", "(LRuledBoard;I[J)I"⟩
abbrev bb_L_mate : ByteArray := method_14_code
theorem hd_L_mate : yy_L_mate.cls ≠ "java/lang/invoke/MethodHandle" ∧ yy_L_mate.cls ≠ "java/lang/invoke/VarHandle" ∧ (parseMethodDescriptor yy_L_mate.desc).map (fun d => d.parameters.length) = some 3 := by decide +kernel
abbrev yy_B_mate : MethodName := ⟨"RuledBoard", "mate", "(I)I"⟩
abbrev bb_B_mate : ByteArray := prog_1_method_19_code
theorem hd_B_mate : yy_B_mate.cls ≠ "java/lang/invoke/MethodHandle" ∧ yy_B_mate.cls ≠ "java/lang/invoke/VarHandle" ∧ (parseMethodDescriptor yy_B_mate.desc).map (fun d => d.parameters.length) = some 1 := by decide +kernel
abbrev yy_S_forcesMate : MethodName := ⟨"RuledBoard$MateSearch", "forcesMate", "(LRuledBoard$Position;II)Z"⟩
abbrev bb_S_forcesMate : ByteArray := prog_4_method_2_code
theorem hd_S_forcesMate : yy_S_forcesMate.cls ≠ "java/lang/invoke/MethodHandle" ∧ yy_S_forcesMate.cls ≠ "java/lang/invoke/VarHandle" ∧ (parseMethodDescriptor yy_S_forcesMate.desc).map (fun d => d.parameters.length) = some 3 := by decide +kernel
abbrev yy_S_isLost : MethodName := ⟨"RuledBoard$MateSearch", "isLost", "(LRuledBoard$Position;II)Z"⟩
abbrev bb_S_isLost : ByteArray := prog_4_method_3_code
theorem hd_S_isLost : yy_S_isLost.cls ≠ "java/lang/invoke/MethodHandle" ∧ yy_S_isLost.cls ≠ "java/lang/invoke/VarHandle" ∧ (parseMethodDescriptor yy_S_isLost.desc).map (fun d => d.parameters.length) = some 3 := by decide +kernel
abbrev yy_M_init : MethodName := ⟨"RuledBoardModel", "<init>", "()V"⟩
abbrev bb_M_init : ByteArray := prog_8_method_1_code
theorem hd_M_init : yy_M_init.cls ≠ "java/lang/invoke/MethodHandle" ∧ yy_M_init.cls ≠ "java/lang/invoke/VarHandle" ∧ (parseMethodDescriptor yy_M_init.desc).map (fun d => d.parameters.length) = some 0 := by decide +kernel
abbrev yy_M_note : MethodName := ⟨"RuledBoardModel", "note", "()V"⟩
abbrev bb_M_note : ByteArray := prog_8_method_32_code
theorem hd_M_note : yy_M_note.cls ≠ "java/lang/invoke/MethodHandle" ∧ yy_M_note.cls ≠ "java/lang/invoke/VarHandle" ∧ (parseMethodDescriptor yy_M_note.desc).map (fun d => d.parameters.length) = some 0 := by decide +kernel
abbrev yy_M_passing : MethodName := ⟨"RuledBoardModel", "passing", "()I"⟩
abbrev bb_M_passing : ByteArray := prog_8_method_31_code
theorem hd_M_passing : yy_M_passing.cls ≠ "java/lang/invoke/MethodHandle" ∧ yy_M_passing.cls ≠ "java/lang/invoke/VarHandle" ∧ (parseMethodDescriptor yy_M_passing.desc).map (fun d => d.parameters.length) = some 0 := by decide +kernel
abbrev yy_M_ahead : MethodName := ⟨"RuledBoardModel", "ahead", "(I)I"⟩
abbrev bb_M_ahead : ByteArray := prog_8_method_9_code
theorem hd_M_ahead : yy_M_ahead.cls ≠ "java/lang/invoke/MethodHandle" ∧ yy_M_ahead.cls ≠ "java/lang/invoke/VarHandle" ∧ (parseMethodDescriptor yy_M_ahead.desc).map (fun d => d.parameters.length) = some 1 := by decide +kernel
abbrev yy_M_outside : MethodName := ⟨"RuledBoardModel", "outside", "(III)Z"⟩
abbrev bb_M_outside : ByteArray := prog_8_method_4_code
theorem hd_M_outside : yy_M_outside.cls ≠ "java/lang/invoke/MethodHandle" ∧ yy_M_outside.cls ≠ "java/lang/invoke/VarHandle" ∧ (parseMethodDescriptor yy_M_outside.desc).map (fun d => d.parameters.length) = some 3 := by decide +kernel
abbrev yy_M_isMove : MethodName := ⟨"RuledBoardModel", "isMove", "(III)Z"⟩
abbrev bb_M_isMove : ByteArray := prog_8_method_23_code
theorem hd_M_isMove : yy_M_isMove.cls ≠ "java/lang/invoke/MethodHandle" ∧ yy_M_isMove.cls ≠ "java/lang/invoke/VarHandle" ∧ (parseMethodDescriptor yy_M_isMove.desc).map (fun d => d.parameters.length) = some 3 := by decide +kernel
abbrev yy_M_goes : MethodName := ⟨"RuledBoardModel", "goes", "(III)Z"⟩
abbrev bb_M_goes : ByteArray := prog_8_method_18_code
theorem hd_M_goes : yy_M_goes.cls ≠ "java/lang/invoke/MethodHandle" ∧ yy_M_goes.cls ≠ "java/lang/invoke/VarHandle" ∧ (parseMethodDescriptor yy_M_goes.desc).map (fun d => d.parameters.length) = some 3 := by decide +kernel
abbrev yy_M_isOf : MethodName := ⟨"RuledBoardModel", "isOf", "(II)Z"⟩
abbrev bb_M_isOf : ByteArray := prog_8_method_8_code
theorem hd_M_isOf : yy_M_isOf.cls ≠ "java/lang/invoke/MethodHandle" ∧ yy_M_isOf.cls ≠ "java/lang/invoke/VarHandle" ∧ (parseMethodDescriptor yy_M_isOf.desc).map (fun d => d.parameters.length) = some 2 := by decide +kernel
abbrev yy_M_kindOf : MethodName := ⟨"RuledBoardModel", "kindOf", "(I)I"⟩
abbrev bb_M_kindOf : ByteArray := prog_8_method_7_code
theorem hd_M_kindOf : yy_M_kindOf.cls ≠ "java/lang/invoke/MethodHandle" ∧ yy_M_kindOf.cls ≠ "java/lang/invoke/VarHandle" ∧ (parseMethodDescriptor yy_M_kindOf.desc).map (fun d => d.parameters.length) = some 1 := by decide +kernel
abbrev yy_M_pawnGoes : MethodName := ⟨"RuledBoardModel", "pawnGoes", "(III)Z"⟩
abbrev bb_M_pawnGoes : ByteArray := prog_8_method_16_code
theorem hd_M_pawnGoes : yy_M_pawnGoes.cls ≠ "java/lang/invoke/MethodHandle" ∧ yy_M_pawnGoes.cls ≠ "java/lang/invoke/VarHandle" ∧ (parseMethodDescriptor yy_M_pawnGoes.desc).map (fun d => d.parameters.length) = some 3 := by decide +kernel
abbrev yy_M_reaches : MethodName := ⟨"RuledBoardModel", "reaches", "(II)Z"⟩
abbrev bb_M_reaches : ByteArray := prog_8_method_11_code
theorem hd_M_reaches : yy_M_reaches.cls ≠ "java/lang/invoke/MethodHandle" ∧ yy_M_reaches.cls ≠ "java/lang/invoke/VarHandle" ∧ (parseMethodDescriptor yy_M_reaches.desc).map (fun d => d.parameters.length) = some 2 := by decide +kernel
abbrev yy_M_size : MethodName := ⟨"RuledBoardModel", "size", "(I)I"⟩
abbrev bb_M_size : ByteArray := prog_8_method_5_code
theorem hd_M_size : yy_M_size.cls ≠ "java/lang/invoke/MethodHandle" ∧ yy_M_size.cls ≠ "java/lang/invoke/VarHandle" ∧ (parseMethodDescriptor yy_M_size.desc).map (fun d => d.parameters.length) = some 1 := by decide +kernel
abbrev yy_M_free : MethodName := ⟨"RuledBoardModel", "free", "(II)Z"⟩
abbrev bb_M_free : ByteArray := prog_8_method_10_code
theorem hd_M_free : yy_M_free.cls ≠ "java/lang/invoke/MethodHandle" ∧ yy_M_free.cls ≠ "java/lang/invoke/VarHandle" ∧ (parseMethodDescriptor yy_M_free.desc).map (fun d => d.parameters.length) = some 2 := by decide +kernel
abbrev yy_M_sign : MethodName := ⟨"RuledBoardModel", "sign", "(I)I"⟩
abbrev bb_M_sign : ByteArray := prog_8_method_6_code
theorem hd_M_sign : yy_M_sign.cls ≠ "java/lang/invoke/MethodHandle" ∧ yy_M_sign.cls ≠ "java/lang/invoke/VarHandle" ∧ (parseMethodDescriptor yy_M_sign.desc).map (fun d => d.parameters.length) = some 1 := by decide +kernel
abbrev yy_M_passes : MethodName := ⟨"RuledBoardModel", "passes", "(II)Z"⟩
abbrev bb_M_passes : ByteArray := prog_8_method_15_code
theorem hd_M_passes : yy_M_passes.cls ≠ "java/lang/invoke/MethodHandle" ∧ yy_M_passes.cls ≠ "java/lang/invoke/VarHandle" ∧ (parseMethodDescriptor yy_M_passes.desc).map (fun d => d.parameters.length) = some 2 := by decide +kernel
abbrev yy_M_castles : MethodName := ⟨"RuledBoardModel", "castles", "(II)Z"⟩
abbrev bb_M_castles : ByteArray := prog_8_method_17_code
theorem hd_M_castles : yy_M_castles.cls ≠ "java/lang/invoke/MethodHandle" ∧ yy_M_castles.cls ≠ "java/lang/invoke/VarHandle" ∧ (parseMethodDescriptor yy_M_castles.desc).map (fun d => d.parameters.length) = some 2 := by decide +kernel
abbrev yy_M_isChecked : MethodName := ⟨"RuledBoardModel", "isChecked", "(I)Z"⟩
abbrev bb_M_isChecked : ByteArray := prog_8_method_14_code
theorem hd_M_isChecked : yy_M_isChecked.cls ≠ "java/lang/invoke/MethodHandle" ∧ yy_M_isChecked.cls ≠ "java/lang/invoke/VarHandle" ∧ (parseMethodDescriptor yy_M_isChecked.desc).map (fun d => d.parameters.length) = some 1 := by decide +kernel
abbrev yy_M_kingOf : MethodName := ⟨"RuledBoardModel", "kingOf", "(I)I"⟩
abbrev bb_M_kingOf : ByteArray := prog_8_method_13_code
theorem hd_M_kingOf : yy_M_kingOf.cls ≠ "java/lang/invoke/MethodHandle" ∧ yy_M_kingOf.cls ≠ "java/lang/invoke/VarHandle" ∧ (parseMethodDescriptor yy_M_kingOf.desc).map (fun d => d.parameters.length) = some 1 := by decide +kernel
abbrev yy_M_isHit : MethodName := ⟨"RuledBoardModel", "isHit", "(II)Z"⟩
abbrev bb_M_isHit : ByteArray := prog_8_method_12_code
theorem hd_M_isHit : yy_M_isHit.cls ≠ "java/lang/invoke/MethodHandle" ∧ yy_M_isHit.cls ≠ "java/lang/invoke/VarHandle" ∧ (parseMethodDescriptor yy_M_isHit.desc).map (fun d => d.parameters.length) = some 2 := by decide +kernel
abbrev yy_M_keep : MethodName := ⟨"RuledBoardModel", "keep", "(I)V"⟩
abbrev bb_M_keep : ByteArray := prog_8_method_19_code
theorem hd_M_keep : yy_M_keep.cls ≠ "java/lang/invoke/MethodHandle" ∧ yy_M_keep.cls ≠ "java/lang/invoke/VarHandle" ∧ (parseMethodDescriptor yy_M_keep.desc).map (fun d => d.parameters.length) = some 1 := by decide +kernel
abbrev yy_M_go : MethodName := ⟨"RuledBoardModel", "go", "(III)V"⟩
abbrev bb_M_go : ByteArray := prog_8_method_22_code
theorem hd_M_go : yy_M_go.cls ≠ "java/lang/invoke/MethodHandle" ∧ yy_M_go.cls ≠ "java/lang/invoke/VarHandle" ∧ (parseMethodDescriptor yy_M_go.desc).map (fun d => d.parameters.length) = some 3 := by decide +kernel
abbrev yy_M_rightsOf : MethodName := ⟨"RuledBoardModel", "rightsOf", "(I)I"⟩
abbrev bb_M_rightsOf : ByteArray := prog_8_method_21_code
theorem hd_M_rightsOf : yy_M_rightsOf.cls ≠ "java/lang/invoke/MethodHandle" ∧ yy_M_rightsOf.cls ≠ "java/lang/invoke/VarHandle" ∧ (parseMethodDescriptor yy_M_rightsOf.desc).map (fun d => d.parameters.length) = some 1 := by decide +kernel
abbrev yy_M_back : MethodName := ⟨"RuledBoardModel", "back", "(I)V"⟩
abbrev bb_M_back : ByteArray := prog_8_method_20_code
theorem hd_M_back : yy_M_back.cls ≠ "java/lang/invoke/MethodHandle" ∧ yy_M_back.cls ≠ "java/lang/invoke/VarHandle" ∧ (parseMethodDescriptor yy_M_back.desc).map (fun d => d.parameters.length) = some 1 := by decide +kernel
abbrev yy_M_thrown : MethodName := ⟨"RuledBoardModel", "thrown", "()I"⟩
abbrev bb_M_thrown : ByteArray := prog_8_method_2_code
theorem hd_M_thrown : yy_M_thrown.cls ≠ "java/lang/invoke/MethodHandle" ∧ yy_M_thrown.cls ≠ "java/lang/invoke/VarHandle" ∧ (parseMethodDescriptor yy_M_thrown.desc).map (fun d => d.parameters.length) = some 0 := by decide +kernel
abbrev yy_M_mate : MethodName := ⟨"RuledBoardModel", "mate", "(I)I"⟩
abbrev bb_M_mate : ByteArray := prog_8_method_30_code
theorem hd_M_mate : yy_M_mate.cls ≠ "java/lang/invoke/MethodHandle" ∧ yy_M_mate.cls ≠ "java/lang/invoke/VarHandle" ∧ (parseMethodDescriptor yy_M_mate.desc).map (fun d => d.parameters.length) = some 1 := by decide +kernel
abbrev yy_M_refused : MethodName := ⟨"RuledBoardModel", "refused", "(I)Z"⟩
abbrev bb_M_refused : ByteArray := prog_8_method_3_code
theorem hd_M_refused : yy_M_refused.cls ≠ "java/lang/invoke/MethodHandle" ∧ yy_M_refused.cls ≠ "java/lang/invoke/VarHandle" ∧ (parseMethodDescriptor yy_M_refused.desc).map (fun d => d.parameters.length) = some 1 := by decide +kernel
abbrev yy_M_matesAtOnce : MethodName := ⟨"RuledBoardModel", "matesAtOnce", "(I)Z"⟩
abbrev bb_M_matesAtOnce : ByteArray := prog_8_method_27_code
theorem hd_M_matesAtOnce : yy_M_matesAtOnce.cls ≠ "java/lang/invoke/MethodHandle" ∧ yy_M_matesAtOnce.cls ≠ "java/lang/invoke/VarHandle" ∧ (parseMethodDescriptor yy_M_matesAtOnce.desc).map (fun d => d.parameters.length) = some 1 := by decide +kernel
abbrev yy_M_collect : MethodName := ⟨"RuledBoardModel", "collect", "(I)I"⟩
abbrev bb_M_collect : ByteArray := prog_8_method_24_code
theorem hd_M_collect : yy_M_collect.cls ≠ "java/lang/invoke/MethodHandle" ∧ yy_M_collect.cls ≠ "java/lang/invoke/VarHandle" ∧ (parseMethodDescriptor yy_M_collect.desc).map (fun d => d.parameters.length) = some 1 := by decide +kernel
abbrev yy_M_make : MethodName := ⟨"RuledBoardModel", "make", "(II)V"⟩
abbrev bb_M_make : ByteArray := prog_8_method_26_code
theorem hd_M_make : yy_M_make.cls ≠ "java/lang/invoke/MethodHandle" ∧ yy_M_make.cls ≠ "java/lang/invoke/VarHandle" ∧ (parseMethodDescriptor yy_M_make.desc).map (fun d => d.parameters.length) = some 2 := by decide +kernel
abbrev yy_M_anyMove : MethodName := ⟨"RuledBoardModel", "anyMove", "()Z"⟩
abbrev bb_M_anyMove : ByteArray := prog_8_method_25_code
theorem hd_M_anyMove : yy_M_anyMove.cls ≠ "java/lang/invoke/MethodHandle" ∧ yy_M_anyMove.cls ≠ "java/lang/invoke/VarHandle" ∧ (parseMethodDescriptor yy_M_anyMove.desc).map (fun d => d.parameters.length) = some 0 := by decide +kernel
abbrev yy_M_matesInTwo : MethodName := ⟨"RuledBoardModel", "matesInTwo", "()Z"⟩
abbrev bb_M_matesInTwo : ByteArray := prog_8_method_29_code
theorem hd_M_matesInTwo : yy_M_matesInTwo.cls ≠ "java/lang/invoke/MethodHandle" ∧ yy_M_matesInTwo.cls ≠ "java/lang/invoke/VarHandle" ∧ (parseMethodDescriptor yy_M_matesInTwo.desc).map (fun d => d.parameters.length) = some 0 := by decide +kernel
abbrev yy_M_allMated : MethodName := ⟨"RuledBoardModel", "allMated", "()Z"⟩
abbrev bb_M_allMated : ByteArray := prog_8_method_28_code
theorem hd_M_allMated : yy_M_allMated.cls ≠ "java/lang/invoke/MethodHandle" ∧ yy_M_allMated.cls ≠ "java/lang/invoke/VarHandle" ∧ (parseMethodDescriptor yy_M_allMated.desc).map (fun d => d.parameters.length) = some 0 := by decide +kernel
abbrev yy_M_clear : MethodName := ⟨"RuledBoardModel", "clear", "()V"⟩
abbrev bb_M_clear : ByteArray := prog_8_method_34_code
theorem hd_M_clear : yy_M_clear.cls ≠ "java/lang/invoke/MethodHandle" ∧ yy_M_clear.cls ≠ "java/lang/invoke/VarHandle" ∧ (parseMethodDescriptor yy_M_clear.desc).map (fun d => d.parameters.length) = some 0 := by decide +kernel
abbrev yy_M_put : MethodName := ⟨"RuledBoardModel", "put", "(II)I"⟩
abbrev bb_M_put : ByteArray := prog_8_method_35_code
theorem hd_M_put : yy_M_put.cls ≠ "java/lang/invoke/MethodHandle" ∧ yy_M_put.cls ≠ "java/lang/invoke/VarHandle" ∧ (parseMethodDescriptor yy_M_put.desc).map (fun d => d.parameters.length) = some 2 := by decide +kernel
abbrev yy_M_begin : MethodName := ⟨"RuledBoardModel", "begin", "(III)I"⟩
abbrev bb_M_begin : ByteArray := prog_8_method_40_code
theorem hd_M_begin : yy_M_begin.cls ≠ "java/lang/invoke/MethodHandle" ∧ yy_M_begin.cls ≠ "java/lang/invoke/VarHandle" ∧ (parseMethodDescriptor yy_M_begin.desc).map (fun d => d.parameters.length) = some 3 := by decide +kernel
abbrev yy_M_isCrowd : MethodName := ⟨"RuledBoardModel", "isCrowd", "()Z"⟩
abbrev bb_M_isCrowd : ByteArray := prog_8_method_37_code
theorem hd_M_isCrowd : yy_M_isCrowd.cls ≠ "java/lang/invoke/MethodHandle" ∧ yy_M_isCrowd.cls ≠ "java/lang/invoke/VarHandle" ∧ (parseMethodDescriptor yy_M_isCrowd.desc).map (fun d => d.parameters.length) = some 0 := by decide +kernel
abbrev yy_M_many : MethodName := ⟨"RuledBoardModel", "many", "(II)I"⟩
abbrev bb_M_many : ByteArray := prog_8_method_36_code
theorem hd_M_many : yy_M_many.cls ≠ "java/lang/invoke/MethodHandle" ∧ yy_M_many.cls ≠ "java/lang/invoke/VarHandle" ∧ (parseMethodDescriptor yy_M_many.desc).map (fun d => d.parameters.length) = some 2 := by decide +kernel
abbrev yy_M_areRights : MethodName := ⟨"RuledBoardModel", "areRights", "(I)Z"⟩
abbrev bb_M_areRights : ByteArray := prog_8_method_38_code
theorem hd_M_areRights : yy_M_areRights.cls ≠ "java/lang/invoke/MethodHandle" ∧ yy_M_areRights.cls ≠ "java/lang/invoke/VarHandle" ∧ (parseMethodDescriptor yy_M_areRights.desc).map (fun d => d.parameters.length) = some 1 := by decide +kernel
abbrev yy_M_isPassed : MethodName := ⟨"RuledBoardModel", "isPassed", "(II)Z"⟩
abbrev bb_M_isPassed : ByteArray := prog_8_method_39_code
theorem hd_M_isPassed : yy_M_isPassed.cls ≠ "java/lang/invoke/MethodHandle" ∧ yy_M_isPassed.cls ≠ "java/lang/invoke/VarHandle" ∧ (parseMethodDescriptor yy_M_isPassed.desc).map (fun d => d.parameters.length) = some 2 := by decide +kernel
abbrev yy_M_move : MethodName := ⟨"RuledBoardModel", "move", "(III)I"⟩
abbrev bb_M_move : ByteArray := prog_8_method_41_code
theorem hd_M_move : yy_M_move.cls ≠ "java/lang/invoke/MethodHandle" ∧ yy_M_move.cls ≠ "java/lang/invoke/VarHandle" ∧ (parseMethodDescriptor yy_M_move.desc).map (fun d => d.parameters.length) = some 3 := by decide +kernel
abbrev yy_M_undo : MethodName := ⟨"RuledBoardModel", "undo", "()I"⟩
abbrev bb_M_undo : ByteArray := prog_8_method_42_code
theorem hd_M_undo : yy_M_undo.cls ≠ "java/lang/invoke/MethodHandle" ∧ yy_M_undo.cls ≠ "java/lang/invoke/VarHandle" ∧ (parseMethodDescriptor yy_M_undo.desc).map (fun d => d.parameters.length) = some 0 := by decide +kernel
abbrev yy_M_made : MethodName := ⟨"RuledBoardModel", "made", "()I"⟩
abbrev bb_M_made : ByteArray := prog_8_method_43_code
theorem hd_M_made : yy_M_made.cls ≠ "java/lang/invoke/MethodHandle" ∧ yy_M_made.cls ≠ "java/lang/invoke/VarHandle" ∧ (parseMethodDescriptor yy_M_made.desc).map (fun d => d.parameters.length) = some 0 := by decide +kernel
abbrev yy_M_at : MethodName := ⟨"RuledBoardModel", "at", "(I)I"⟩
abbrev bb_M_at : ByteArray := prog_8_method_44_code
theorem hd_M_at : yy_M_at.cls ≠ "java/lang/invoke/MethodHandle" ∧ yy_M_at.cls ≠ "java/lang/invoke/VarHandle" ∧ (parseMethodDescriptor yy_M_at.desc).map (fun d => d.parameters.length) = some 1 := by decide +kernel
abbrev yy_M_side : MethodName := ⟨"RuledBoardModel", "side", "()I"⟩
abbrev bb_M_side : ByteArray := prog_8_method_45_code
theorem hd_M_side : yy_M_side.cls ≠ "java/lang/invoke/MethodHandle" ∧ yy_M_side.cls ≠ "java/lang/invoke/VarHandle" ∧ (parseMethodDescriptor yy_M_side.desc).map (fun d => d.parameters.length) = some 0 := by decide +kernel
abbrev yy_M_rights : MethodName := ⟨"RuledBoardModel", "rights", "()I"⟩
abbrev bb_M_rights : ByteArray := prog_8_method_46_code
theorem hd_M_rights : yy_M_rights.cls ≠ "java/lang/invoke/MethodHandle" ∧ yy_M_rights.cls ≠ "java/lang/invoke/VarHandle" ∧ (parseMethodDescriptor yy_M_rights.desc).map (fun d => d.parameters.length) = some 0 := by decide +kernel
abbrev yy_M_passed : MethodName := ⟨"RuledBoardModel", "passed", "()I"⟩
abbrev bb_M_passed : ByteArray := prog_8_method_47_code
theorem hd_M_passed : yy_M_passed.cls ≠ "java/lang/invoke/MethodHandle" ∧ yy_M_passed.cls ≠ "java/lang/invoke/VarHandle" ∧ (parseMethodDescriptor yy_M_passed.desc).map (fun d => d.parameters.length) = some 0 := by decide +kernel
abbrev yy_M_moves : MethodName := ⟨"RuledBoardModel", "moves", "()I"⟩
abbrev bb_M_moves : ByteArray := prog_8_method_48_code
theorem hd_M_moves : yy_M_moves.cls ≠ "java/lang/invoke/MethodHandle" ∧ yy_M_moves.cls ≠ "java/lang/invoke/VarHandle" ∧ (parseMethodDescriptor yy_M_moves.desc).map (fun d => d.parameters.length) = some 0 := by decide +kernel
abbrev yy_M_nth : MethodName := ⟨"RuledBoardModel", "nth", "(I)I"⟩
abbrev bb_M_nth : ByteArray := prog_8_method_49_code
theorem hd_M_nth : yy_M_nth.cls ≠ "java/lang/invoke/MethodHandle" ∧ yy_M_nth.cls ≠ "java/lang/invoke/VarHandle" ∧ (parseMethodDescriptor yy_M_nth.desc).map (fun d => d.parameters.length) = some 1 := by decide +kernel
abbrev yy_M_check : MethodName := ⟨"RuledBoardModel", "check", "()Z"⟩
abbrev bb_M_check : ByteArray := prog_8_method_50_code
theorem hd_M_check : yy_M_check.cls ≠ "java/lang/invoke/MethodHandle" ∧ yy_M_check.cls ≠ "java/lang/invoke/VarHandle" ∧ (parseMethodDescriptor yy_M_check.desc).map (fun d => d.parameters.length) = some 0 := by decide +kernel
abbrev yy_M_ending : MethodName := ⟨"RuledBoardModel", "ending", "()I"⟩
abbrev bb_M_ending : ByteArray := prog_8_method_51_code
theorem hd_M_ending : yy_M_ending.cls ≠ "java/lang/invoke/MethodHandle" ∧ yy_M_ending.cls ≠ "java/lang/invoke/VarHandle" ∧ (parseMethodDescriptor yy_M_ending.desc).map (fun d => d.parameters.length) = some 0 := by decide +kernel
abbrev yy_M_quiet : MethodName := ⟨"RuledBoardModel", "quiet", "()I"⟩
abbrev bb_M_quiet : ByteArray := prog_8_method_52_code
theorem hd_M_quiet : yy_M_quiet.cls ≠ "java/lang/invoke/MethodHandle" ∧ yy_M_quiet.cls ≠ "java/lang/invoke/VarHandle" ∧ (parseMethodDescriptor yy_M_quiet.desc).map (fun d => d.parameters.length) = some 0 := by decide +kernel
abbrev yy_M_seen : MethodName := ⟨"RuledBoardModel", "seen", "()I"⟩
abbrev bb_M_seen : ByteArray := prog_8_method_53_code
theorem hd_M_seen : yy_M_seen.cls ≠ "java/lang/invoke/MethodHandle" ∧ yy_M_seen.cls ≠ "java/lang/invoke/VarHandle" ∧ (parseMethodDescriptor yy_M_seen.desc).map (fun d => d.parameters.length) = some 0 := by decide +kernel
abbrev yy_M_same : MethodName := ⟨"RuledBoardModel", "same", "(II)Z"⟩
abbrev bb_M_same : ByteArray := prog_8_method_33_code
theorem hd_M_same : yy_M_same.cls ≠ "java/lang/invoke/MethodHandle" ∧ yy_M_same.cls ≠ "java/lang/invoke/VarHandle" ∧ (parseMethodDescriptor yy_M_same.desc).map (fun d => d.parameters.length) = some 2 := by decide +kernel
abbrev yy_M_hits : MethodName := ⟨"RuledBoardModel", "hits", "(II)Z"⟩
abbrev bb_M_hits : ByteArray := prog_8_method_54_code
theorem hd_M_hits : yy_M_hits.cls ≠ "java/lang/invoke/MethodHandle" ∧ yy_M_hits.cls ≠ "java/lang/invoke/VarHandle" ∧ (parseMethodDescriptor yy_M_hits.desc).map (fun d => d.parameters.length) = some 2 := by decide +kernel
