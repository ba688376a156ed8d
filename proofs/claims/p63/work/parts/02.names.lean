/-! ===== BEGIN printed: names, fields, word lists, decode rows ===== -/
def RX0 : String := "StrikeWheels$1"
def TX0 : u_T := fun k => match k with
  | _ => ("", "", "", false)
def tyX0 : Nat → FieldType := fun k => match k with
  | _ => .int
abbrev wsX00 : List Cond := u_ws RX0 TX0 0
theorem nmX0 : ∀ a, a < 0 → ∀ b, b < 0 → a ≠ b → (TX0 a).2.1 ≠ (TX0 b).2.1 := by decide +kernel
theorem tyX0_ok : ∀ k, k < 0 → parseFieldDescriptor (TX0 k).2.2.1 = some (tyX0 k) := by decide +kernel
def RX1 : String := "StrikeWheels$History"
def TX1 : u_T := fun k => match k with
  | 0 => ("StrikeWheels$History", "plans", "[LStrikeWheels$Plan;", true)
  | 1 => ("StrikeWheels$History", "oldest", "I", false)
  | _ => ("StrikeWheels$History", "count", "I", false)
def tyX1 : Nat → FieldType := fun k => match k with
  | 0 => .array (.object "StrikeWheels$Plan")
  | 1 => .int
  | _ => .int
abbrev wsX10 : List Cond := u_ws RX1 TX1 3
theorem nmX1 : ∀ a, a < 3 → ∀ b, b < 3 → a ≠ b → (TX1 a).2.1 ≠ (TX1 b).2.1 := by decide +kernel
theorem tyX1_ok : ∀ k, k < 3 → parseFieldDescriptor (TX1 k).2.2.1 = some (tyX1 k) := by decide +kernel
abbrev cX1_init : ByteArray := prog_3_method_1_code
def yX1_init : MethodName := ⟨RX1, "<init>", "()V"⟩
abbrev cX1_count : ByteArray := prog_3_method_2_code
def yX1_count : MethodName := ⟨RX1, "count", "()I"⟩
abbrev cX1_forget : ByteArray := prog_3_method_3_code
def yX1_forget : MethodName := ⟨RX1, "forget", "()V"⟩
abbrev cX1_push : ByteArray := prog_3_method_4_code
def yX1_push : MethodName := ⟨RX1, "push", "(LStrikeWheels$Plan;)V"⟩
abbrev cX1_pop : ByteArray := prog_3_method_5_code
def yX1_pop : MethodName := ⟨RX1, "pop", "(LStrikeWheels$Plan;)V"⟩
def RX2 : String := "StrikeWheels$Order"
def TX2 : u_T := fun k => match k with
  | _ => ("", "", "", false)
def tyX2 : Nat → FieldType := fun k => match k with
  | _ => .int
abbrev wsX20 : List Cond := u_ws RX2 TX2 0
theorem nmX2 : ∀ a, a < 0 → ∀ b, b < 0 → a ≠ b → (TX2 a).2.1 ≠ (TX2 b).2.1 := by decide +kernel
theorem tyX2_ok : ∀ k, k < 0 → parseFieldDescriptor (TX2 k).2.2.1 = some (tyX2 k) := by decide +kernel
abbrev cX2_isInRange : ByteArray := prog_4_method_4_code
def yX2_isInRange : MethodName := ⟨RX2, "isInRange", "(II)Z"⟩
def RX3 : String := "StrikeWheels$Plan"
def TX3 : u_T := fun k => match k with
  | 0 => ("StrikeWheels$Plan", "wheel", "I", false)
  | 1 => ("StrikeWheels$Plan", "stretches", "I", false)
  | 2 => ("StrikeWheels$Plan", "rooms", "[I", true)
  | 3 => ("StrikeWheels$Plan", "last", "I", false)
  | 4 => ("StrikeWheels$Plan", "strikers", "I", false)
  | 5 => ("StrikeWheels$Plan", "ds", "[I", true)
  | _ => ("StrikeWheels$Plan", "version", "I", false)
def tyX3 : Nat → FieldType := fun k => match k with
  | 0 => .int
  | 1 => .int
  | 2 => .array .int
  | 3 => .int
  | 4 => .int
  | 5 => .array .int
  | _ => .int
abbrev wsX30 : List Cond := u_ws RX3 TX3 7
theorem nmX3 : ∀ a, a < 7 → ∀ b, b < 7 → a ≠ b → (TX3 a).2.1 ≠ (TX3 b).2.1 := by decide +kernel
theorem tyX3_ok : ∀ k, k < 7 → parseFieldDescriptor (TX3 k).2.2.1 = some (tyX3 k) := by decide +kernel
abbrev cX3_init : ByteArray := prog_5_method_1_code
def yX3_init : MethodName := ⟨RX3, "<init>", "()V"⟩
abbrev cX3_beginWith : ByteArray := prog_5_method_2_code
def yX3_beginWith : MethodName := ⟨RX3, "beginWith", "(I)V"⟩
abbrev cX3_takeOver : ByteArray := prog_5_method_3_code
def yX3_takeOver : MethodName := ⟨RX3, "takeOver", "(LStrikeWheels$Plan;)V"⟩
abbrev cX3_version : ByteArray := prog_5_method_4_code
def yX3_version : MethodName := ⟨RX3, "version", "()I"⟩
abbrev cX3_wheelNow : ByteArray := prog_5_method_5_code
def yX3_wheelNow : MethodName := ⟨RX3, "wheelNow", "()I"⟩
abbrev cX3_setWheel : ByteArray := prog_5_method_6_code
def yX3_setWheel : MethodName := ⟨RX3, "setWheel", "(I)V"⟩
abbrev cX3_stretchCount : ByteArray := prog_5_method_7_code
def yX3_stretchCount : MethodName := ⟨RX3, "stretchCount", "()I"⟩
abbrev cX3_firstNumberOf : ByteArray := prog_5_method_8_code
def yX3_firstNumberOf : MethodName := ⟨RX3, "firstNumberOf", "(I)I"⟩
abbrev cX3_lastNumberOf : ByteArray := prog_5_method_9_code
def yX3_lastNumberOf : MethodName := ⟨RX3, "lastNumberOf", "(I)I"⟩
abbrev cX3_lastNumber : ByteArray := prog_5_method_10_code
def yX3_lastNumber : MethodName := ⟨RX3, "lastNumber", "()I"⟩
abbrev cX3_roomAhead : ByteArray := prog_5_method_11_code
def yX3_roomAhead : MethodName := ⟨RX3, "roomAhead", "(I)I"⟩
abbrev cX3_lastRoom : ByteArray := prog_5_method_12_code
def yX3_lastRoom : MethodName := ⟨RX3, "lastRoom", "()I"⟩
abbrev cX3_appendStretch : ByteArray := prog_5_method_13_code
def yX3_appendStretch : MethodName := ⟨RX3, "appendStretch", "(I)V"⟩
abbrev cX3_removeStretch : ByteArray := prog_5_method_14_code
def yX3_removeStretch : MethodName := ⟨RX3, "removeStretch", "()V"⟩
abbrev cX3_strikerCount : ByteArray := prog_5_method_15_code
def yX3_strikerCount : MethodName := ⟨RX3, "strikerCount", "()I"⟩
abbrev cX3_dOf : ByteArray := prog_5_method_16_code
def yX3_dOf : MethodName := ⟨RX3, "dOf", "(I)I"⟩
abbrev cX3_placeOf : ByteArray := prog_5_method_17_code
def yX3_placeOf : MethodName := ⟨RX3, "placeOf", "(I)I"⟩
abbrev cX3_appendStriker : ByteArray := prog_5_method_18_code
def yX3_appendStriker : MethodName := ⟨RX3, "appendStriker", "(I)V"⟩
abbrev cX3_removeStriker : ByteArray := prog_5_method_19_code
def yX3_removeStriker : MethodName := ⟨RX3, "removeStriker", "(I)V"⟩
abbrev cX3_exchange : ByteArray := prog_5_method_20_code
def yX3_exchange : MethodName := ⟨RX3, "exchange", "(II)V"⟩
abbrev cX3_moveToFront : ByteArray := prog_5_method_21_code
def yX3_moveToFront : MethodName := ⟨RX3, "moveToFront", "(I)V"⟩
abbrev cX3_countHits : ByteArray := prog_5_method_22_code
def yX3_countHits : MethodName := ⟨RX3, "countHits", "(III)I"⟩
abbrev cX3_firstHit : ByteArray := prog_5_method_23_code
def yX3_firstHit : MethodName := ⟨RX3, "firstHit", "(I)I"⟩
abbrev cX3_isMissing : ByteArray := prog_5_method_24_code
def yX3_isMissing : MethodName := ⟨RX3, "isMissing", "(II)Z"⟩
abbrev cX3_smallestMissing : ByteArray := prog_5_method_25_code
def yX3_smallestMissing : MethodName := ⟨RX3, "smallestMissing", "(I)I"⟩
abbrev cX3_countMissing : ByteArray := prog_5_method_26_code
def yX3_countMissing : MethodName := ⟨RX3, "countMissing", "(I)I"⟩
def RX4 : String := "StrikeWheels$Reader"
def TX4 : u_T := fun k => match k with
  | 0 => ("StrikeWheels$Reader", "source", "LStrikeWheels$Source;", true)
  | 1 => ("StrikeWheels$Reader", "error", "I", false)
  | 2 => ("StrikeWheels$Reader", "position", "I", false)
  | _ => ("StrikeWheels$Reader", "number", "I", false)
def tyX4 : Nat → FieldType := fun k => match k with
  | 0 => .object "StrikeWheels$Source"
  | 1 => .int
  | 2 => .int
  | _ => .int
abbrev wsX40 : List Cond := u_ws RX4 TX4 4
theorem nmX4 : ∀ a, a < 4 → ∀ b, b < 4 → a ≠ b → (TX4 a).2.1 ≠ (TX4 b).2.1 := by decide +kernel
theorem tyX4_ok : ∀ k, k < 4 → parseFieldDescriptor (TX4 k).2.2.1 = some (tyX4 k) := by decide +kernel
abbrev cX4_init : ByteArray := prog_6_method_1_code
def yX4_init : MethodName := ⟨RX4, "<init>", "(LStrikeWheels$Source;)V"⟩
abbrev cX4_errorAt : ByteArray := prog_6_method_2_code
def yX4_errorAt : MethodName := ⟨RX4, "errorAt", "()I"⟩
abbrev cX4_readText : ByteArray := prog_6_method_3_code
def yX4_readText : MethodName := ⟨RX4, "readText", "(ILStrikeWheels$Plan;)I"⟩
abbrev cX4_begin : ByteArray := prog_6_method_5_code
def yX4_begin : MethodName := ⟨RX4, "begin", "(I)V"⟩
abbrev cX4_fail : ByteArray := prog_6_method_6_code
def yX4_fail : MethodName := ⟨RX4, "fail", "(I)Z"⟩
abbrev cX4_readStretches : ByteArray := prog_6_method_7_code
def yX4_readStretches : MethodName := ⟨RX4, "readStretches", "(LStrikeWheels$Plan;)Z"⟩
abbrev cX4_readStrikers : ByteArray := prog_6_method_8_code
def yX4_readStrikers : MethodName := ⟨RX4, "readStrikers", "(LStrikeWheels$Plan;)Z"⟩
abbrev cX4_takeWord : ByteArray := prog_6_method_11_code
def yX4_takeWord : MethodName := ⟨RX4, "takeWord", "(Ljava/lang/String;)Z"⟩
abbrev cX4_takeNumber : ByteArray := prog_6_method_12_code
def yX4_takeNumber : MethodName := ⟨RX4, "takeNumber", "(II)Z"⟩
abbrev cX4_takeSemicolon : ByteArray := prog_6_method_13_code
def yX4_takeSemicolon : MethodName := ⟨RX4, "takeSemicolon", "()Z"⟩
def RX5 : String := "StrikeWheels$Script"
def TX5 : u_T := fun k => match k with
  | 0 => ("StrikeWheels$Script", "orders", "[LStrikeWheels$Order;", true)
  | 1 => ("StrikeWheels$Script", "numbers", "[I", true)
  | 2 => ("StrikeWheels$Script", "others", "[I", true)
  | _ => ("StrikeWheels$Script", "count", "I", false)
def tyX5 : Nat → FieldType := fun k => match k with
  | 0 => .array (.object "StrikeWheels$Order")
  | 1 => .array .int
  | 2 => .array .int
  | _ => .int
abbrev wsX50 : List Cond := u_ws RX5 TX5 4
theorem nmX5 : ∀ a, a < 4 → ∀ b, b < 4 → a ≠ b → (TX5 a).2.1 ≠ (TX5 b).2.1 := by decide +kernel
theorem tyX5_ok : ∀ k, k < 4 → parseFieldDescriptor (TX5 k).2.2.1 = some (tyX5 k) := by decide +kernel
abbrev cX5_init : ByteArray := prog_7_method_1_code
def yX5_init : MethodName := ⟨RX5, "<init>", "()V"⟩
def RX6 : String := "StrikeWheels$Sheet"
def TX6 : u_T := fun k => match k with
  | 0 => ("StrikeWheels$Sheet", "bytes", "[B", true)
  | _ => ("StrikeWheels$Sheet", "length", "I", false)
def tyX6 : Nat → FieldType := fun k => match k with
  | 0 => .array .byte
  | _ => .int
abbrev wsX60 : List Cond := u_ws RX6 TX6 2
theorem nmX6 : ∀ a, a < 2 → ∀ b, b < 2 → a ≠ b → (TX6 a).2.1 ≠ (TX6 b).2.1 := by decide +kernel
theorem tyX6_ok : ∀ k, k < 2 → parseFieldDescriptor (TX6 k).2.2.1 = some (tyX6 k) := by decide +kernel
abbrev cX6_init : ByteArray := prog_8_method_1_code
def yX6_init : MethodName := ⟨RX6, "<init>", "()V"⟩
def RX7 : String := "StrikeWheels$Sieve"
def TX7 : u_T := fun k => match k with
  | 0 => ("StrikeWheels$Sieve", "owners", "[I", true)
  | 1 => ("StrikeWheels$Sieve", "counts", "[I", true)
  | 2 => ("StrikeWheels$Sieve", "last", "I", false)
  | 3 => ("StrikeWheels$Sieve", "markCount", "I", false)
  | 4 => ("StrikeWheels$Sieve", "spokeCount", "I", false)
  | _ => ("StrikeWheels$Sieve", "builtVersion", "I", false)
def tyX7 : Nat → FieldType := fun k => match k with
  | 0 => .array .int
  | 1 => .array .int
  | 2 => .int
  | 3 => .int
  | 4 => .int
  | _ => .int
abbrev wsX70 : List Cond := u_ws RX7 TX7 6
theorem nmX7 : ∀ a, a < 6 → ∀ b, b < 6 → a ≠ b → (TX7 a).2.1 ≠ (TX7 b).2.1 := by decide +kernel
theorem tyX7_ok : ∀ k, k < 6 → parseFieldDescriptor (TX7 k).2.2.1 = some (tyX7 k) := by decide +kernel
abbrev cX7_init : ByteArray := prog_9_method_1_code
def yX7_init : MethodName := ⟨RX7, "<init>", "()V"⟩
abbrev cX7_isBuiltFor : ByteArray := prog_9_method_2_code
def yX7_isBuiltFor : MethodName := ⟨RX7, "isBuiltFor", "(LStrikeWheels$Plan;)Z"⟩
abbrev cX7_build : ByteArray := prog_9_method_3_code
def yX7_build : MethodName := ⟨RX7, "build", "(LStrikeWheels$Plan;)V"⟩
abbrev cX7_strikeOut : ByteArray := prog_9_method_4_code
def yX7_strikeOut : MethodName := ⟨RX7, "strikeOut", "(III)V"⟩
abbrev cX7_countAll : ByteArray := prog_9_method_5_code
def yX7_countAll : MethodName := ⟨RX7, "countAll", "()V"⟩
abbrev cX7_lastNumber : ByteArray := prog_9_method_6_code
def yX7_lastNumber : MethodName := ⟨RX7, "lastNumber", "()I"⟩
abbrev cX7_markCount : ByteArray := prog_9_method_7_code
def yX7_markCount : MethodName := ⟨RX7, "markCount", "()I"⟩
abbrev cX7_spokeCount : ByteArray := prog_9_method_8_code
def yX7_spokeCount : MethodName := ⟨RX7, "spokeCount", "()I"⟩
abbrev cX7_ownerOf : ByteArray := prog_9_method_9_code
def yX7_ownerOf : MethodName := ⟨RX7, "ownerOf", "(I)I"⟩
abbrev cX7_isMark : ByteArray := prog_9_method_10_code
def yX7_isMark : MethodName := ⟨RX7, "isMark", "(I)Z"⟩
abbrev cX7_markAt : ByteArray := prog_9_method_11_code
def yX7_markAt : MethodName := ⟨RX7, "markAt", "(I)I"⟩
abbrev cX7_marksUpTo : ByteArray := prog_9_method_12_code
def yX7_marksUpTo : MethodName := ⟨RX7, "marksUpTo", "(I)I"⟩
abbrev cX7_marksBetween : ByteArray := prog_9_method_13_code
def yX7_marksBetween : MethodName := ⟨RX7, "marksBetween", "(II)I"⟩
abbrev cX7_markAbove : ByteArray := prog_9_method_14_code
def yX7_markAbove : MethodName := ⟨RX7, "markAbove", "(I)I"⟩
abbrev cX7_markBelow : ByteArray := prog_9_method_15_code
def yX7_markBelow : MethodName := ⟨RX7, "markBelow", "(I)I"⟩
abbrev cX7_spokesBetween : ByteArray := prog_9_method_16_code
def yX7_spokesBetween : MethodName := ⟨RX7, "spokesBetween", "(II)I"⟩
abbrev cX7_countStrikes : ByteArray := prog_9_method_17_code
def yX7_countStrikes : MethodName := ⟨RX7, "countStrikes", "(I)I"⟩
abbrev cX7_countOwned : ByteArray := prog_9_method_18_code
def yX7_countOwned : MethodName := ⟨RX7, "countOwned", "(I)I"⟩
abbrev cX7_countTaken : ByteArray := prog_9_method_19_code
def yX7_countTaken : MethodName := ⟨RX7, "countTaken", "(I)I"⟩
abbrev cX7_countWithOwner : ByteArray := prog_9_method_20_code
def yX7_countWithOwner : MethodName := ⟨RX7, "countWithOwner", "(II)I"⟩
abbrev cX7_smallestOwned : ByteArray := prog_9_method_21_code
def yX7_smallestOwned : MethodName := ⟨RX7, "smallestOwned", "(I)I"⟩
def RX8 : String := "StrikeWheels$Source"
def TX8 : u_T := fun k => match k with
  | 0 => ("StrikeWheels$Source", "bytes", "[B", true)
  | 1 => ("StrikeWheels$Source", "filled", "I", false)
  | 2 => ("StrikeWheels$Source", "end", "I", false)
  | 3 => ("StrikeWheels$Source", "position", "I", false)
  | 4 => ("StrikeWheels$Source", "kind", "I", false)
  | 5 => ("StrikeWheels$Source", "start", "I", false)
  | _ => ("StrikeWheels$Source", "value", "I", false)
def tyX8 : Nat → FieldType := fun k => match k with
  | 0 => .array .byte
  | 1 => .int
  | 2 => .int
  | 3 => .int
  | 4 => .int
  | 5 => .int
  | _ => .int
abbrev wsX80 : List Cond := u_ws RX8 TX8 7
theorem nmX8 : ∀ a, a < 7 → ∀ b, b < 7 → a ≠ b → (TX8 a).2.1 ≠ (TX8 b).2.1 := by decide +kernel
theorem tyX8_ok : ∀ k, k < 7 → parseFieldDescriptor (TX8 k).2.2.1 = some (tyX8 k) := by decide +kernel
abbrev cX8_init : ByteArray := prog_10_method_1_code
def yX8_init : MethodName := ⟨RX8, "<init>", "()V"⟩
abbrev cX8_filled : ByteArray := prog_10_method_2_code
def yX8_filled : MethodName := ⟨RX8, "filled", "()I"⟩
abbrev cX8_empty : ByteArray := prog_10_method_3_code
def yX8_empty : MethodName := ⟨RX8, "empty", "()V"⟩
abbrev cX8_appendFour : ByteArray := prog_10_method_4_code
def yX8_appendFour : MethodName := ⟨RX8, "appendFour", "(I)V"⟩
abbrev cX8_open : ByteArray := prog_10_method_5_code
def yX8_open : MethodName := ⟨RX8, "open", "(I)V"⟩
abbrev cX8_advance : ByteArray := prog_10_method_6_code
def yX8_advance : MethodName := ⟨RX8, "advance", "()V"⟩
abbrev cX8_skipLetters : ByteArray := prog_10_method_7_code
def yX8_skipLetters : MethodName := ⟨RX8, "skipLetters", "()V"⟩
abbrev cX8_readDigits : ByteArray := prog_10_method_8_code
def yX8_readDigits : MethodName := ⟨RX8, "readDigits", "()V"⟩
abbrev cX8_byteAt : ByteArray := prog_10_method_9_code
def yX8_byteAt : MethodName := ⟨RX8, "byteAt", "(I)I"⟩
abbrev cX8_isBlank : ByteArray := prog_10_method_10_code
def yX8_isBlank : MethodName := ⟨RX8, "isBlank", "(I)Z"⟩
abbrev cX8_isLetter : ByteArray := prog_10_method_11_code
def yX8_isLetter : MethodName := ⟨RX8, "isLetter", "(I)Z"⟩
abbrev cX8_isDigit : ByteArray := prog_10_method_12_code
def yX8_isDigit : MethodName := ⟨RX8, "isDigit", "(I)Z"⟩
abbrev cX8_tokenStart : ByteArray := prog_10_method_13_code
def yX8_tokenStart : MethodName := ⟨RX8, "tokenStart", "()I"⟩
abbrev cX8_tokenValue : ByteArray := prog_10_method_14_code
def yX8_tokenValue : MethodName := ⟨RX8, "tokenValue", "()I"⟩
abbrev cX8_isEnd : ByteArray := prog_10_method_15_code
def yX8_isEnd : MethodName := ⟨RX8, "isEnd", "()Z"⟩
abbrev cX8_isNumber : ByteArray := prog_10_method_16_code
def yX8_isNumber : MethodName := ⟨RX8, "isNumber", "()Z"⟩
abbrev cX8_isSemicolon : ByteArray := prog_10_method_17_code
def yX8_isSemicolon : MethodName := ⟨RX8, "isSemicolon", "()Z"⟩
abbrev cX8_isWord : ByteArray := prog_10_method_18_code
def yX8_isWord : MethodName := ⟨RX8, "isWord", "(Ljava/lang/String;)Z"⟩
def RX9 : String := "StrikeWheels$Wheels"
def TX9 : u_T := fun k => match k with
  | _ => ("", "", "", false)
def tyX9 : Nat → FieldType := fun k => match k with
  | _ => .int
abbrev wsX90 : List Cond := u_ws RX9 TX9 0
theorem nmX9 : ∀ a, a < 0 → ∀ b, b < 0 → a ≠ b → (TX9 a).2.1 ≠ (TX9 b).2.1 := by decide +kernel
theorem tyX9_ok : ∀ k, k < 0 → parseFieldDescriptor (TX9 k).2.2.1 = some (tyX9 k) := by decide +kernel
abbrev cX9_primeAt : ByteArray := prog_11_method_2_code
def yX9_primeAt : MethodName := ⟨RX9, "primeAt", "(I)I"⟩
abbrev cX9_product : ByteArray := prog_11_method_3_code
def yX9_product : MethodName := ⟨RX9, "product", "(I)I"⟩
abbrev cX9_smallestPrimeOf : ByteArray := prog_11_method_4_code
def yX9_smallestPrimeOf : MethodName := ⟨RX9, "smallestPrimeOf", "(II)I"⟩
abbrev cX9_isFree : ByteArray := prog_11_method_5_code
def yX9_isFree : MethodName := ⟨RX9, "isFree", "(II)Z"⟩
abbrev cX9_isOnSpoke : ByteArray := prog_11_method_6_code
def yX9_isOnSpoke : MethodName := ⟨RX9, "isOnSpoke", "(II)Z"⟩
abbrev cX9_spokesUpTo : ByteArray := prog_11_method_7_code
def yX9_spokesUpTo : MethodName := ⟨RX9, "spokesUpTo", "(II)I"⟩
abbrev cX9_strikeAbove : ByteArray := prog_11_method_8_code
def yX9_strikeAbove : MethodName := ⟨RX9, "strikeAbove", "(III)I"⟩
abbrev cX9_isPrime : ByteArray := prog_11_method_9_code
def yX9_isPrime : MethodName := ⟨RX9, "isPrime", "(I)Z"⟩
def RX10 : String := "StrikeWheels"
def TX10 : u_T := fun k => match k with
  | 0 => ("StrikeWheels", "plan", "LStrikeWheels$Plan;", true)
  | 1 => ("StrikeWheels", "before", "LStrikeWheels$Plan;", true)
  | 2 => ("StrikeWheels", "draft", "LStrikeWheels$Plan;", true)
  | 3 => ("StrikeWheels", "snapshot", "LStrikeWheels$Plan;", true)
  | 4 => ("StrikeWheels", "hasSnapshot", "Z", false)
  | 5 => ("StrikeWheels", "history", "LStrikeWheels$History;", true)
  | 6 => ("StrikeWheels", "sieve", "LStrikeWheels$Sieve;", true)
  | 7 => ("StrikeWheels", "source", "LStrikeWheels$Source;", true)
  | 8 => ("StrikeWheels", "reader", "LStrikeWheels$Reader;", true)
  | 9 => ("StrikeWheels", "script", "LStrikeWheels$Script;", true)
  | 10 => ("StrikeWheels", "sheet", "LStrikeWheels$Sheet;", true)
  | 11 => ("StrikeWheels", "accounts", "[I", true)
  | _ => ("StrikeWheels", "positionOfError", "I", false)
def tyX10 : Nat → FieldType := fun k => match k with
  | 0 => .object "StrikeWheels$Plan"
  | 1 => .object "StrikeWheels$Plan"
  | 2 => .object "StrikeWheels$Plan"
  | 3 => .object "StrikeWheels$Plan"
  | 4 => .boolean
  | 5 => .object "StrikeWheels$History"
  | 6 => .object "StrikeWheels$Sieve"
  | 7 => .object "StrikeWheels$Source"
  | 8 => .object "StrikeWheels$Reader"
  | 9 => .object "StrikeWheels$Script"
  | 10 => .object "StrikeWheels$Sheet"
  | 11 => .array .int
  | _ => .int
abbrev wsX100 : List Cond := u_ws RX10 TX10 13
theorem nmX10 : ∀ a, a < 13 → ∀ b, b < 13 → a ≠ b → (TX10 a).2.1 ≠ (TX10 b).2.1 := by decide +kernel
theorem tyX10_ok : ∀ k, k < 13 → parseFieldDescriptor (TX10 k).2.2.1 = some (tyX10 k) := by decide +kernel
abbrev cX10_init : ByteArray := prog_1_method_1_code
def yX10_init : MethodName := ⟨RX10, "<init>", "()V"⟩
abbrev cX10_feed : ByteArray := prog_1_method_2_code
def yX10_feed : MethodName := ⟨RX10, "feed", "(IIIII)I"⟩
abbrev cX10_load : ByteArray := prog_1_method_3_code
def yX10_load : MethodName := ⟨RX10, "load", "(I)I"⟩
abbrev cX10_size : ByteArray := prog_1_method_5_code
def yX10_size : MethodName := ⟨RX10, "size", "(I)I"⟩
abbrev cX10_stretch : ByteArray := prog_1_method_7_code
def yX10_stretch : MethodName := ⟨RX10, "stretch", "(II)I"⟩
abbrev cX10_striker : ByteArray := prog_1_method_8_code
def yX10_striker : MethodName := ⟨RX10, "striker", "(II)I"⟩
abbrev cX10_find : ByteArray := prog_1_method_9_code
def yX10_find : MethodName := ⟨RX10, "find", "(I)I"⟩
abbrev cX10_at : ByteArray := prog_1_method_10_code
def yX10_at : MethodName := ⟨RX10, "at", "(I)I"⟩
abbrev cX10_cause : ByteArray := prog_1_method_11_code
def yX10_cause : MethodName := ⟨RX10, "cause", "(I)I"⟩
abbrev cX10_struck : ByteArray := prog_1_method_12_code
def yX10_struck : MethodName := ⟨RX10, "struck", "(I)I"⟩
abbrev cX10_both : ByteArray := prog_1_method_15_code
def yX10_both : MethodName := ⟨RX10, "both", "(II)I"⟩
abbrev cX10_upTo : ByteArray := prog_1_method_17_code
def yX10_upTo : MethodName := ⟨RX10, "upTo", "(I)I"⟩
abbrev cX10_mark : ByteArray := prog_1_method_18_code
def yX10_mark : MethodName := ⟨RX10, "mark", "(I)I"⟩
abbrev cX10_between : ByteArray := prog_1_method_19_code
def yX10_between : MethodName := ⟨RX10, "between", "(II)I"⟩
abbrev cX10_longest : ByteArray := prog_1_method_22_code
def yX10_longest : MethodName := ⟨RX10, "longest", "()I"⟩
abbrev cX10_next : ByteArray := prog_1_method_25_code
def yX10_next : MethodName := ⟨RX10, "next", "(IZ)I"⟩
abbrev cX10_gaps : ByteArray := prog_1_method_26_code
def yX10_gaps : MethodName := ⟨RX10, "gaps", "(I)I"⟩
abbrev cX10_widest : ByteArray := prog_1_method_27_code
def yX10_widest : MethodName := ⟨RX10, "widest", "()I"⟩
abbrev cX10_widestAt : ByteArray := prog_1_method_28_code
def yX10_widestAt : MethodName := ⟨RX10, "widestAt", "()I"⟩
abbrev cX10_thickest : ByteArray := prog_1_method_32_code
def yX10_thickest : MethodName := ⟨RX10, "thickest", "(I)I"⟩
abbrev cX10_wrong : ByteArray := prog_1_method_33_code
def yX10_wrong : MethodName := ⟨RX10, "wrong", "()I"⟩
abbrev cX10_firstWrong : ByteArray := prog_1_method_34_code
def yX10_firstWrong : MethodName := ⟨RX10, "firstWrong", "()I"⟩
abbrev cX10_gap : ByteArray := prog_1_method_35_code
def yX10_gap : MethodName := ⟨RX10, "gap", "()I"⟩
abbrev cX10_missing : ByteArray := prog_1_method_36_code
def yX10_missing : MethodName := ⟨RX10, "missing", "()I"⟩
abbrev cX10_takes : ByteArray := prog_1_method_37_code
def yX10_takes : MethodName := ⟨RX10, "takes", "(I)I"⟩
abbrev cX10_gives : ByteArray := prog_1_method_38_code
def yX10_gives : MethodName := ⟨RX10, "gives", "(I)I"⟩
abbrev cX10_best : ByteArray := prog_1_method_39_code
def yX10_best : MethodName := ⟨RX10, "best", "()I"⟩
abbrev cX10_marksNext : ByteArray := prog_1_method_40_code
def yX10_marksNext : MethodName := ⟨RX10, "marksNext", "(I)I"⟩
abbrev cX10_lay : ByteArray := prog_1_method_45_code
def yX10_lay : MethodName := ⟨RX10, "lay", "(I)I"⟩
abbrev cX10_drop : ByteArray := prog_1_method_46_code
def yX10_drop : MethodName := ⟨RX10, "drop", "()I"⟩
abbrev cX10_swap : ByteArray := prog_1_method_48_code
def yX10_swap : MethodName := ⟨RX10, "swap", "(II)I"⟩
abbrev cX10_add : ByteArray := prog_1_method_49_code
def yX10_add : MethodName := ⟨RX10, "add", "(I)I"⟩
abbrev cX10_lift : ByteArray := prog_1_method_50_code
def yX10_lift : MethodName := ⟨RX10, "lift", "(I)I"⟩
abbrev cX10_first : ByteArray := prog_1_method_51_code
def yX10_first : MethodName := ⟨RX10, "first", "(I)I"⟩
abbrev cX10_wheel : ByteArray := prog_1_method_52_code
def yX10_wheel : MethodName := ⟨RX10, "wheel", "(I)I"⟩
abbrev cX10_fill : ByteArray := prog_1_method_53_code
def yX10_fill : MethodName := ⟨RX10, "fill", "(I)I"⟩
abbrev cX10_tidy : ByteArray := prog_1_method_54_code
def yX10_tidy : MethodName := ⟨RX10, "tidy", "()I"⟩
abbrev cX10_undoCount : ByteArray := prog_1_method_58_code
def yX10_undoCount : MethodName := ⟨RX10, "undoCount", "()I"⟩
abbrev cX10_undo : ByteArray := prog_1_method_59_code
def yX10_undo : MethodName := ⟨RX10, "undo", "()I"⟩
abbrev cX10_saveSnapshot : ByteArray := prog_1_method_60_code
def yX10_saveSnapshot : MethodName := ⟨RX10, "saveSnapshot", "()V"⟩
abbrev cX10_restoreSnapshot : ByteArray := prog_1_method_61_code
def yX10_restoreSnapshot : MethodName := ⟨RX10, "restoreSnapshot", "()Z"⟩
abbrev cX10_needInRange : ByteArray := prog_1_method_62_code
def yX10_needInRange : MethodName := ⟨RX10, "needInRange", "(III)V"⟩
abbrev cX10_needStretch : ByteArray := prog_1_method_63_code
def yX10_needStretch : MethodName := ⟨RX10, "needStretch", "(I)V"⟩
abbrev cX10_needStriker : ByteArray := prog_1_method_64_code
def yX10_needStriker : MethodName := ⟨RX10, "needStriker", "(I)V"⟩
abbrev cX10_current : ByteArray := prog_1_method_65_code
def yX10_current : MethodName := ⟨RX10, "current", "()LStrikeWheels$Sieve;"⟩
abbrev cX10_orNone : ByteArray := prog_1_method_66_code
def yX10_orNone : MethodName := ⟨RX10, "orNone", "(III)I"⟩
abbrev cX10_countIdle : ByteArray := prog_1_method_67_code
def yX10_countIdle : MethodName := ⟨RX10, "countIdle", "()I"⟩
abbrev cX10_nextCommon : ByteArray := prog_1_method_68_code
def yX10_nextCommon : MethodName := ⟨RX10, "nextCommon", "(III)I"⟩
abbrev cX10_countGiven : ByteArray := prog_1_method_70_code
def yX10_countGiven : MethodName := ⟨RX10, "countGiven", "(LStrikeWheels$Sieve;I)I"⟩
abbrev cX10_operate : ByteArray := prog_1_method_72_code
def yX10_operate : MethodName := ⟨RX10, "operate", "(LStrikeWheels$Order;II)I"⟩
abbrev cX10_counted : ByteArray := prog_1_method_73_code
def yX10_counted : MethodName := ⟨RX10, "counted", "(I)I"⟩
abbrev cX10_carryOut : ByteArray := prog_1_method_74_code
def yX10_carryOut : MethodName := ⟨RX10, "carryOut", "(LStrikeWheels$Order;II)I"⟩
abbrev cX10_layStretch : ByteArray := prog_1_method_75_code
def yX10_layStretch : MethodName := ⟨RX10, "layStretch", "(I)I"⟩
abbrev cX10_dropStretch : ByteArray := prog_1_method_76_code
def yX10_dropStretch : MethodName := ⟨RX10, "dropStretch", "()I"⟩
abbrev cX10_trimStretch : ByteArray := prog_1_method_77_code
def yX10_trimStretch : MethodName := ⟨RX10, "trimStretch", "(I)I"⟩
abbrev cX10_swapStrikers : ByteArray := prog_1_method_78_code
def yX10_swapStrikers : MethodName := ⟨RX10, "swapStrikers", "(II)I"⟩
abbrev cX10_addStriker : ByteArray := prog_1_method_79_code
def yX10_addStriker : MethodName := ⟨RX10, "addStriker", "(I)I"⟩
abbrev cX10_liftStriker : ByteArray := prog_1_method_80_code
def yX10_liftStriker : MethodName := ⟨RX10, "liftStriker", "(I)I"⟩
abbrev cX10_putFirst : ByteArray := prog_1_method_81_code
def yX10_putFirst : MethodName := ⟨RX10, "putFirst", "(I)I"⟩
abbrev cX10_changeWheel : ByteArray := prog_1_method_82_code
def yX10_changeWheel : MethodName := ⟨RX10, "changeWheel", "(I)I"⟩
abbrev cX10_fillUp : ByteArray := prog_1_method_83_code
def yX10_fillUp : MethodName := ⟨RX10, "fillUp", "(I)I"⟩
abbrev cX10_takeIdleAway : ByteArray := prog_1_method_84_code
def yX10_takeIdleAway : MethodName := ⟨RX10, "takeIdleAway", "()I"⟩
abbrev cX10_closeReading : ByteArray := prog_1_method_85_code
def yX10_closeReading : MethodName := ⟨RX10, "closeReading", "()V"⟩
def RX11 : String := "StrikeWheelsModel"
def TX11 : u_T := fun k => match k with
  | _ => ("", "", "", false)
def tyX11 : Nat → FieldType := fun k => match k with
  | _ => .int
abbrev wsX110 : List Cond := u_ws RX11 TX11 0
theorem nmX11 : ∀ a, a < 0 → ∀ b, b < 0 → a ≠ b → (TX11 a).2.1 ≠ (TX11 b).2.1 := by decide +kernel
theorem tyX11_ok : ∀ k, k < 0 → parseFieldDescriptor (TX11 k).2.2.1 = some (tyX11 k) := by decide +kernel
def RJx145de : String := "java/io/Serializable"
def TJx145de : u_T := fun k => match k with
  | _ => ("", "", "", false)
def tyJx145de : Nat → FieldType := fun k => match k with
  | _ => .int
abbrev wsJx145de0 : List Cond := u_ws RJx145de TJx145de 0
theorem nmJx145de : ∀ a, a < 0 → ∀ b, b < 0 → a ≠ b → (TJx145de a).2.1 ≠ (TJx145de b).2.1 := by decide +kernel
theorem tyJx145de_ok : ∀ k, k < 0 → parseFieldDescriptor (TJx145de k).2.2.1 = some (tyJx145de k) := by decide +kernel
def RJ5 : String := "java/lang/AbstractStringBuilder"
def TJ5 : u_T := fun k => match k with
  | _ => ("", "", "", false)
def tyJ5 : Nat → FieldType := fun k => match k with
  | _ => .int
abbrev wsJ50 : List Cond := u_ws RJ5 TJ5 0
theorem nmJ5 : ∀ a, a < 0 → ∀ b, b < 0 → a ≠ b → (TJ5 a).2.1 ≠ (TJ5 b).2.1 := by decide +kernel
theorem tyJ5_ok : ∀ k, k < 0 → parseFieldDescriptor (TJ5 k).2.2.1 = some (tyJ5 k) := by decide +kernel
abbrev cJ5_init_a7421 : ByteArray := prog_15_method_3_code
def yJ5_init_a7421 : MethodName := ⟨RJ5, "<init>", "(Ljava/lang/String;)V"⟩
abbrev cJ5_length_8abf5 : ByteArray := prog_15_method_6_code
def yJ5_length_8abf5 : MethodName := ⟨RJ5, "length", "()I"⟩
abbrev cJ5_ensureCapacityInternal_d00df : ByteArray := prog_15_method_9_code
def yJ5_ensureCapacityInternal_d00df : MethodName := ⟨RJ5, "ensureCapacityInternal", "(I)V"⟩
abbrev cJ5_newCapacity_0f7a4 : ByteArray := prog_15_method_10_code
def yJ5_newCapacity_0f7a4 : MethodName := ⟨RJ5, "newCapacity", "(I)I"⟩
abbrev cJ5_inflate_da8c8 : ByteArray := prog_15_method_11_code
def yJ5_inflate_da8c8 : MethodName := ⟨RJ5, "inflate", "()V"⟩
abbrev cJ5_append_cf1ce : ByteArray := prog_15_method_22_code
def yJ5_append_cf1ce : MethodName := ⟨RJ5, "append", "(Ljava/lang/String;)Ljava/lang/AbstractStringBuilder;"⟩
abbrev cJ5_appendNull_278bc : ByteArray := prog_15_method_26_code
def yJ5_appendNull_278bc : MethodName := ⟨RJ5, "appendNull", "()Ljava/lang/AbstractStringBuilder;"⟩
abbrev cJ5_append_3fe6f : ByteArray := prog_15_method_31_code
def yJ5_append_3fe6f : MethodName := ⟨RJ5, "append", "(C)Ljava/lang/AbstractStringBuilder;"⟩
abbrev cJ5_append_c97b9 : ByteArray := prog_15_method_32_code
def yJ5_append_c97b9 : MethodName := ⟨RJ5, "append", "(I)Ljava/lang/AbstractStringBuilder;"⟩
abbrev cJ5_getValue_6d5f1 : ByteArray := prog_15_method_64_code
def yJ5_getValue_6d5f1 : MethodName := ⟨RJ5, "getValue", "()[B"⟩
abbrev cJ5_isLatin1_aae02 : ByteArray := prog_15_method_68_code
def yJ5_isLatin1_aae02 : MethodName := ⟨RJ5, "isLatin1", "()Z"⟩
abbrev cJ5_inflateIfNeededFor_a7421 : ByteArray := prog_15_method_71_code
def yJ5_inflateIfNeededFor_a7421 : MethodName := ⟨RJ5, "inflateIfNeededFor", "(Ljava/lang/String;)V"⟩
abbrev cJ5_putStringAt_47b60 : ByteArray := prog_15_method_73_code
def yJ5_putStringAt_47b60 : MethodName := ⟨RJ5, "putStringAt", "(ILjava/lang/String;)V"⟩
def RJx2cfe8 : String := "java/lang/Appendable"
def TJx2cfe8 : u_T := fun k => match k with
  | _ => ("", "", "", false)
def tyJx2cfe8 : Nat → FieldType := fun k => match k with
  | _ => .int
abbrev wsJx2cfe80 : List Cond := u_ws RJx2cfe8 TJx2cfe8 0
theorem nmJx2cfe8 : ∀ a, a < 0 → ∀ b, b < 0 → a ≠ b → (TJx2cfe8 a).2.1 ≠ (TJx2cfe8 b).2.1 := by decide +kernel
theorem tyJx2cfe8_ok : ∀ k, k < 0 → parseFieldDescriptor (TJx2cfe8 k).2.2.1 = some (tyJx2cfe8 k) := by decide +kernel
def RJx9f9b0 : String := "java/lang/CharSequence"
def TJx9f9b0 : u_T := fun k => match k with
  | _ => ("", "", "", false)
def tyJx9f9b0 : Nat → FieldType := fun k => match k with
  | _ => .int
abbrev wsJx9f9b00 : List Cond := u_ws RJx9f9b0 TJx9f9b0 0
theorem nmJx9f9b0 : ∀ a, a < 0 → ∀ b, b < 0 → a ≠ b → (TJx9f9b0 a).2.1 ≠ (TJx9f9b0 b).2.1 := by decide +kernel
theorem tyJx9f9b0_ok : ∀ k, k < 0 → parseFieldDescriptor (TJx9f9b0 k).2.2.1 = some (tyJx9f9b0 k) := by decide +kernel
def RJx8e188 : String := "java/lang/Cloneable"
def TJx8e188 : u_T := fun k => match k with
  | _ => ("", "", "", false)
def tyJx8e188 : Nat → FieldType := fun k => match k with
  | _ => .int
abbrev wsJx8e1880 : List Cond := u_ws RJx8e188 TJx8e188 0
theorem nmJx8e188 : ∀ a, a < 0 → ∀ b, b < 0 → a ≠ b → (TJx8e188 a).2.1 ≠ (TJx8e188 b).2.1 := by decide +kernel
theorem tyJx8e188_ok : ∀ k, k < 0 → parseFieldDescriptor (TJx8e188 k).2.2.1 = some (tyJx8e188 k) := by decide +kernel
def RJxb160c : String := "java/lang/Comparable"
def TJxb160c : u_T := fun k => match k with
  | _ => ("", "", "", false)
def tyJxb160c : Nat → FieldType := fun k => match k with
  | _ => .int
abbrev wsJxb160c0 : List Cond := u_ws RJxb160c TJxb160c 0
theorem nmJxb160c : ∀ a, a < 0 → ∀ b, b < 0 → a ≠ b → (TJxb160c a).2.1 ≠ (TJxb160c b).2.1 := by decide +kernel
theorem tyJxb160c_ok : ∀ k, k < 0 → parseFieldDescriptor (TJxb160c k).2.2.1 = some (tyJxb160c k) := by decide +kernel
def RJx29ce0 : String := "java/lang/Enum"
def TJx29ce0 : u_T := fun k => match k with
  | _ => ("", "", "", false)
def tyJx29ce0 : Nat → FieldType := fun k => match k with
  | _ => .int
abbrev wsJx29ce00 : List Cond := u_ws RJx29ce0 TJx29ce0 0
theorem nmJx29ce0 : ∀ a, a < 0 → ∀ b, b < 0 → a ≠ b → (TJx29ce0 a).2.1 ≠ (TJx29ce0 b).2.1 := by decide +kernel
theorem tyJx29ce0_ok : ∀ k, k < 0 → parseFieldDescriptor (TJx29ce0 k).2.2.1 = some (tyJx29ce0 k) := by decide +kernel
abbrev cJx29ce0_ordinal_8abf5 : ByteArray := prog_20_method_2_code
def yJx29ce0_ordinal_8abf5 : MethodName := ⟨RJx29ce0, "ordinal", "()I"⟩
def RJ6 : String := "java/lang/Integer"
def TJ6 : u_T := fun k => match k with
  | _ => ("", "", "", false)
def tyJ6 : Nat → FieldType := fun k => match k with
  | _ => .int
abbrev wsJ60 : List Cond := u_ws RJ6 TJ6 0
theorem nmJ6 : ∀ a, a < 0 → ∀ b, b < 0 → a ≠ b → (TJ6 a).2.1 ≠ (TJ6 b).2.1 := by decide +kernel
theorem tyJ6_ok : ∀ k, k < 0 → parseFieldDescriptor (TJ6 k).2.2.1 = some (tyJ6 k) := by decide +kernel
abbrev cJ6_getChars_ba4f3 : ByteArray := prog_23_method_12_code
def yJ6_getChars_ba4f3 : MethodName := ⟨RJ6, "getChars", "(II[B)I"⟩
abbrev cJ6_stringSize_0f7a4 : ByteArray := prog_23_method_13_code
def yJ6_stringSize_0f7a4 : MethodName := ⟨RJ6, "stringSize", "(I)I"⟩
def RJ9 : String := "java/lang/Math"
def TJ9 : u_T := fun k => match k with
  | _ => ("", "", "", false)
def tyJ9 : Nat → FieldType := fun k => match k with
  | _ => .int
abbrev wsJ90 : List Cond := u_ws RJ9 TJ9 0
theorem nmJ9 : ∀ a, a < 0 → ∀ b, b < 0 → a ≠ b → (TJ9 a).2.1 ≠ (TJ9 b).2.1 := by decide +kernel
theorem tyJ9_ok : ∀ k, k < 0 → parseFieldDescriptor (TJ9 k).2.2.1 = some (tyJ9 k) := by decide +kernel
abbrev cJ9_max_7cf53 : ByteArray := prog_24_method_65_code
def yJ9_max_7cf53 : MethodName := ⟨RJ9, "max", "(II)I"⟩
abbrev cJ9_min_7cf53 : ByteArray := prog_24_method_69_code
def yJ9_min_7cf53 : MethodName := ⟨RJ9, "min", "(II)I"⟩
def RJxd2413 : String := "java/lang/Number"
def TJxd2413 : u_T := fun k => match k with
  | _ => ("", "", "", false)
def tyJxd2413 : Nat → FieldType := fun k => match k with
  | _ => .int
abbrev wsJxd24130 : List Cond := u_ws RJxd2413 TJxd2413 0
theorem nmJxd2413 : ∀ a, a < 0 → ∀ b, b < 0 → a ≠ b → (TJxd2413 a).2.1 ≠ (TJxd2413 b).2.1 := by decide +kernel
theorem tyJxd2413_ok : ∀ k, k < 0 → parseFieldDescriptor (TJxd2413 k).2.2.1 = some (tyJxd2413 k) := by decide +kernel
def RJ0 : String := "java/lang/String"
def TJ0 : u_T := fun k => match k with
  | 0 => ("java/lang/String", "value", "[B", true)
  | 1 => ("java/lang/String", "coder", "B", true)
  | 2 => ("java/lang/String", "hash", "I", false)
  | _ => ("java/lang/String", "hashIsZero", "Z", false)
def tyJ0 : Nat → FieldType := fun k => match k with
  | 0 => .array .byte
  | 1 => .byte
  | 2 => .int
  | _ => .boolean
abbrev wsJ00 : List Cond := u_ws RJ0 TJ0 4
theorem nmJ0 : ∀ a, a < 4 → ∀ b, b < 4 → a ≠ b → (TJ0 a).2.1 ≠ (TJ0 b).2.1 := by decide +kernel
theorem tyJ0_ok : ∀ k, k < 4 → parseFieldDescriptor (TJ0 k).2.2.1 = some (tyJ0 k) := by decide +kernel
abbrev cJ0_init_81219 : ByteArray := prog_27_method_53_code
def yJ0_init_81219 : MethodName := ⟨RJ0, "<init>", "(Ljava/lang/StringBuilder;)V"⟩
abbrev cJ0_length_8abf5 : ByteArray := prog_27_method_54_code
def yJ0_length_8abf5 : MethodName := ⟨RJ0, "length", "()I"⟩
abbrev cJ0_charAt_5068e : ByteArray := prog_27_method_56_code
def yJ0_charAt_5068e : MethodName := ⟨RJ0, "charAt", "(I)C"⟩
abbrev cJ0_getBytes_840e7 : ByteArray := prog_27_method_147_code
def yJ0_getBytes_840e7 : MethodName := ⟨RJ0, "getBytes", "([BIB)V"⟩
abbrev cJ0_init_db425 : ByteArray := prog_27_method_150_code
def yJ0_init_db425 : MethodName := ⟨RJ0, "<init>", "(Ljava/lang/AbstractStringBuilder;Ljava/lang/Void;)V"⟩
abbrev cJ0_coder_7d493 : ByteArray := prog_27_method_152_code
def yJ0_coder_7d493 : MethodName := ⟨RJ0, "coder", "()B"⟩
abbrev cJ0_isLatin1_aae02 : ByteArray := prog_27_method_154_code
def yJ0_isLatin1_aae02 : MethodName := ⟨RJ0, "isLatin1", "()Z"⟩
abbrev cJ0_checkIndex_df160 : ByteArray := prog_27_method_155_code
def yJ0_checkIndex_df160 : MethodName := ⟨RJ0, "checkIndex", "(II)V"⟩
abbrev cJ0_checkBoundsOffCount_cabcc : ByteArray := prog_27_method_157_code
def yJ0_checkBoundsOffCount_cabcc : MethodName := ⟨RJ0, "checkBoundsOffCount", "(III)I"⟩
abbrev cJ0_checkBoundsBeginEnd_23922 : ByteArray := prog_27_method_158_code
def yJ0_checkBoundsBeginEnd_23922 : MethodName := ⟨RJ0, "checkBoundsBeginEnd", "(III)V"⟩
def RJ4 : String := "java/lang/StringBuilder"
def TJ4 : u_T := fun k => match k with
  | 0 => ("java/lang/AbstractStringBuilder", "value", "[B", false)
  | 1 => ("java/lang/AbstractStringBuilder", "coder", "B", false)
  | 2 => ("java/lang/AbstractStringBuilder", "maybeLatin1", "Z", false)
  | _ => ("java/lang/AbstractStringBuilder", "count", "I", false)
def tyJ4 : Nat → FieldType := fun k => match k with
  | 0 => .array .byte
  | 1 => .byte
  | 2 => .boolean
  | _ => .int
abbrev wsJ40 : List Cond := u_ws RJ4 TJ4 4
theorem nmJ4 : ∀ a, a < 4 → ∀ b, b < 4 → a ≠ b → (TJ4 a).2.1 ≠ (TJ4 b).2.1 := by decide +kernel
theorem tyJ4_ok : ∀ k, k < 4 → parseFieldDescriptor (TJ4 k).2.2.1 = some (tyJ4 k) := by decide +kernel
abbrev cJ4_init_a7421 : ByteArray := prog_28_method_3_code
def yJ4_init_a7421 : MethodName := ⟨RJ4, "<init>", "(Ljava/lang/String;)V"⟩
abbrev cJ4_append_15ec4 : ByteArray := prog_28_method_7_code
def yJ4_append_15ec4 : MethodName := ⟨RJ4, "append", "(Ljava/lang/String;)Ljava/lang/StringBuilder;"⟩
abbrev cJ4_append_cf468 : ByteArray := prog_28_method_14_code
def yJ4_append_cf468 : MethodName := ⟨RJ4, "append", "(C)Ljava/lang/StringBuilder;"⟩
abbrev cJ4_append_bf812 : ByteArray := prog_28_method_15_code
def yJ4_append_bf812 : MethodName := ⟨RJ4, "append", "(I)Ljava/lang/StringBuilder;"⟩
abbrev cJ4_toString_0e30d : ByteArray := prog_28_method_42_code
def yJ4_toString_0e30d : MethodName := ⟨RJ4, "toString", "()Ljava/lang/String;"⟩
abbrev cJ4_append_cf1ce : ByteArray := prog_28_method_80_code
def yJ4_append_cf1ce : MethodName := ⟨RJ4, "append", "(Ljava/lang/String;)Ljava/lang/AbstractStringBuilder;"⟩
abbrev cJ4_length_8abf5 : ByteArray := prog_28_method_93_code
def yJ4_length_8abf5 : MethodName := ⟨RJ4, "length", "()I"⟩
def RJ1 : String := "java/lang/StringLatin1"
def TJ1 : u_T := fun k => match k with
  | _ => ("", "", "", false)
def tyJ1 : Nat → FieldType := fun k => match k with
  | _ => .int
abbrev wsJ10 : List Cond := u_ws RJ1 TJ1 0
theorem nmJ1 : ∀ a, a < 0 → ∀ b, b < 0 → a ≠ b → (TJ1 a).2.1 ≠ (TJ1 b).2.1 := by decide +kernel
theorem tyJ1_ok : ∀ k, k < 0 → parseFieldDescriptor (TJ1 k).2.2.1 = some (tyJ1 k) := by decide +kernel
abbrev cJ1_charAt_3b067 : ByteArray := prog_29_method_2_code
def yJ1_charAt_3b067 : MethodName := ⟨RJ1, "charAt", "([BI)C"⟩
abbrev cJ1_canEncode_fc78d : ByteArray := prog_29_method_3_code
def yJ1_canEncode_fc78d : MethodName := ⟨RJ1, "canEncode", "(C)Z"⟩
abbrev cJ1_inflate_0e8fd : ByteArray := prog_29_method_50_code
def yJ1_inflate_0e8fd : MethodName := ⟨RJ1, "inflate", "([BI[BII)V"⟩
def RJ2 : String := "java/lang/StringUTF16"
def TJ2 : u_T := fun k => match k with
  | _ => ("", "", "", false)
def tyJ2 : Nat → FieldType := fun k => match k with
  | _ => .int
abbrev wsJ20 : List Cond := u_ws RJ2 TJ2 0
theorem nmJ2 : ∀ a, a < 0 → ∀ b, b < 0 → a ≠ b → (TJ2 a).2.1 ≠ (TJ2 b).2.1 := by decide +kernel
theorem tyJ2_ok : ∀ k, k < 0 → parseFieldDescriptor (TJ2 k).2.2.1 = some (tyJ2 k) := by decide +kernel
abbrev cJ2_newBytesFor_77867 : ByteArray := prog_30_method_2_code
def yJ2_newBytesFor_77867 : MethodName := ⟨RJ2, "newBytesFor", "(I)[B"⟩
abbrev cJ2_newBytesLength_0f7a4 : ByteArray := prog_30_method_3_code
def yJ2_newBytesLength_0f7a4 : MethodName := ⟨RJ2, "newBytesLength", "(I)I"⟩
abbrev cJ2_putChar_b72d1 : ByteArray := prog_30_method_4_code
def yJ2_putChar_b72d1 : MethodName := ⟨RJ2, "putChar", "([BII)V"⟩
abbrev cJ2_getChar_3b067 : ByteArray := prog_30_method_5_code
def yJ2_getChar_3b067 : MethodName := ⟨RJ2, "getChar", "([BI)C"⟩
abbrev cJ2_length_9d52b : ByteArray := prog_30_method_6_code
def yJ2_length_9d52b : MethodName := ⟨RJ2, "length", "([B)I"⟩
abbrev cJ2_coderFromArrayLen_85cad : ByteArray := prog_30_method_15_code
def yJ2_coderFromArrayLen_85cad : MethodName := ⟨RJ2, "coderFromArrayLen", "([BI)B"⟩
abbrev cJ2_compress_39247 : ByteArray := prog_30_method_17_code
def yJ2_compress_39247 : MethodName := ⟨RJ2, "compress", "([BII)[B"⟩
abbrev cJ2_compress_5af95 : ByteArray := prog_30_method_22_code
def yJ2_compress_5af95 : MethodName := ⟨RJ2, "compress", "([BI[BII)I"⟩
abbrev cJ2_putCharSB_b72d1 : ByteArray := prog_30_method_71_code
def yJ2_putCharSB_b72d1 : MethodName := ⟨RJ2, "putCharSB", "([BII)V"⟩
abbrev cJ2_getChars_46870 : ByteArray := prog_30_method_77_code
def yJ2_getChars_46870 : MethodName := ⟨RJ2, "getChars", "(III[B)I"⟩
abbrev cJ2_putCharsAt_cd4e5 : ByteArray := prog_30_method_81_code
def yJ2_putCharsAt_cd4e5 : MethodName := ⟨RJ2, "putCharsAt", "([BICCCC)I"⟩
abbrev cJ2_charAt_3b067 : ByteArray := prog_30_method_83_code
def yJ2_charAt_3b067 : MethodName := ⟨RJ2, "charAt", "([BI)C"⟩
abbrev cJ2_inflate_0e8fd : ByteArray := prog_30_method_86_code
def yJ2_inflate_0e8fd : MethodName := ⟨RJ2, "inflate", "([BI[BII)V"⟩
abbrev cJ2_getChars_ba4f3 : ByteArray := prog_30_method_89_code
def yJ2_getChars_ba4f3 : MethodName := ⟨RJ2, "getChars", "(II[B)I"⟩
abbrev cJ2_checkIndex_2214a : ByteArray := prog_30_method_91_code
def yJ2_checkIndex_2214a : MethodName := ⟨RJ2, "checkIndex", "(I[B)V"⟩
abbrev cJ2_checkBoundsBeginEnd_d044e : ByteArray := prog_30_method_93_code
def yJ2_checkBoundsBeginEnd_d044e : MethodName := ⟨RJ2, "checkBoundsBeginEnd", "(II[B)V"⟩
abbrev cJ2_checkBoundsOffCount_d044e : ByteArray := prog_30_method_94_code
def yJ2_checkBoundsOffCount_d044e : MethodName := ⟨RJ2, "checkBoundsOffCount", "(II[B)V"⟩
def RJ10 : String := "java/lang/System"
def TJ10 : u_T := fun k => match k with
  | _ => ("", "", "", false)
def tyJ10 : Nat → FieldType := fun k => match k with
  | _ => .int
abbrev wsJ100 : List Cond := u_ws RJ10 TJ10 0
theorem nmJ10 : ∀ a, a < 0 → ∀ b, b < 0 → a ≠ b → (TJ10 a).2.1 ≠ (TJ10 b).2.1 := by decide +kernel
theorem tyJ10_ok : ∀ k, k < 0 → parseFieldDescriptor (TJ10 k).2.2.1 = some (tyJ10 k) := by decide +kernel
def RJxfd54e : String := "java/lang/constant/Constable"
def TJxfd54e : u_T := fun k => match k with
  | _ => ("", "", "", false)
def tyJxfd54e : Nat → FieldType := fun k => match k with
  | _ => .int
abbrev wsJxfd54e0 : List Cond := u_ws RJxfd54e TJxfd54e 0
theorem nmJxfd54e : ∀ a, a < 0 → ∀ b, b < 0 → a ≠ b → (TJxfd54e a).2.1 ≠ (TJxfd54e b).2.1 := by decide +kernel
theorem tyJxfd54e_ok : ∀ k, k < 0 → parseFieldDescriptor (TJxfd54e k).2.2.1 = some (tyJxfd54e k) := by decide +kernel
def RJx3cf43 : String := "java/lang/constant/ConstantDesc"
def TJx3cf43 : u_T := fun k => match k with
  | _ => ("", "", "", false)
def tyJx3cf43 : Nat → FieldType := fun k => match k with
  | _ => .int
abbrev wsJx3cf430 : List Cond := u_ws RJx3cf43 TJx3cf43 0
theorem nmJx3cf43 : ∀ a, a < 0 → ∀ b, b < 0 → a ≠ b → (TJx3cf43 a).2.1 ≠ (TJx3cf43 b).2.1 := by decide +kernel
theorem tyJx3cf43_ok : ∀ k, k < 0 → parseFieldDescriptor (TJx3cf43 k).2.2.1 = some (tyJx3cf43 k) := by decide +kernel
def RJ7 : String := "java/util/Arrays"
def TJ7 : u_T := fun k => match k with
  | _ => ("", "", "", false)
def tyJ7 : Nat → FieldType := fun k => match k with
  | _ => .int
abbrev wsJ70 : List Cond := u_ws RJ7 TJ7 0
theorem nmJ7 : ∀ a, a < 0 → ∀ b, b < 0 → a ≠ b → (TJ7 a).2.1 ≠ (TJ7 b).2.1 := by decide +kernel
theorem tyJ7_ok : ∀ k, k < 0 → parseFieldDescriptor (TJ7 k).2.2.1 = some (tyJ7 k) := by decide +kernel
abbrev cJ7_copyOf_9075b : ByteArray := prog_35_method_121_code
def yJ7_copyOf_9075b : MethodName := ⟨RJ7, "copyOf", "([BI)[B"⟩
abbrev cJ7_checkLength_df160 : ByteArray := prog_35_method_131_code
def yJ7_checkLength_df160 : MethodName := ⟨RJ7, "checkLength", "(II)V"⟩
abbrev cJ7_copyOfRange_39247 : ByteArray := prog_35_method_132_code
def yJ7_copyOfRange_39247 : MethodName := ⟨RJ7, "copyOfRange", "([BII)[B"⟩
abbrev cJ7_copyOfRangeByte_39247 : ByteArray := prog_35_method_133_code
def yJ7_copyOfRangeByte_39247 : MethodName := ⟨RJ7, "copyOfRangeByte", "([BII)[B"⟩
def RJ8 : String := "jdk/internal/util/ArraysSupport"
def TJ8 : u_T := fun k => match k with
  | _ => ("", "", "", false)
def tyJ8 : Nat → FieldType := fun k => match k with
  | _ => .int
abbrev wsJ80 : List Cond := u_ws RJ8 TJ8 0
theorem nmJ8 : ∀ a, a < 0 → ∀ b, b < 0 → a ≠ b → (TJ8 a).2.1 ≠ (TJ8 b).2.1 := by decide +kernel
theorem tyJ8_ok : ∀ k, k < 0 → parseFieldDescriptor (TJ8 k).2.2.1 = some (tyJ8 k) := by decide +kernel
abbrev cJ8_newLength_cabcc : ByteArray := prog_37_method_27_code
def yJ8_newLength_cabcc : MethodName := ⟨RJ8, "newLength", "(III)I"⟩
abbrev cJ8_hugeLength_7cf53 : ByteArray := prog_37_method_28_code
def yJ8_hugeLength_7cf53 : MethodName := ⟨RJ8, "hugeLength", "(II)I"⟩
def RJ3 : String := "jdk/internal/util/Preconditions"
def TJ3 : u_T := fun k => match k with
  | _ => ("", "", "", false)
def tyJ3 : Nat → FieldType := fun k => match k with
  | _ => .int
abbrev wsJ30 : List Cond := u_ws RJ3 TJ3 0
theorem nmJ3 : ∀ a, a < 0 → ∀ b, b < 0 → a ≠ b → (TJ3 a).2.1 ≠ (TJ3 b).2.1 := by decide +kernel
theorem tyJ3_ok : ∀ k, k < 0 → parseFieldDescriptor (TJ3 k).2.2.1 = some (tyJ3 k) := by decide +kernel
abbrev cJ3_checkIndex_8e157 : ByteArray := prog_38_method_11_code
def yJ3_checkIndex_8e157 : MethodName := ⟨RJ3, "checkIndex", "(IILjava/util/function/BiFunction;)I"⟩
abbrev cJ3_checkFromToIndex_8c36e : ByteArray := prog_38_method_12_code
def yJ3_checkFromToIndex_8c36e : MethodName := ⟨RJ3, "checkFromToIndex", "(IIILjava/util/function/BiFunction;)I"⟩
abbrev cJ3_checkFromIndexSize_8c36e : ByteArray := prog_38_method_13_code
def yJ3_checkFromIndexSize_8c36e : MethodName := ⟨RJ3, "checkFromIndexSize", "(IIILjava/util/function/BiFunction;)I"⟩
def RL : String := "StrikeWheelsLaw"
abbrev cL_most : ByteArray := method_2_code
def yL_most : MethodName := ⟨RL, "most", "(II)I"⟩
abbrev cL_cell : ByteArray := method_3_code
def yL_cell : MethodName := ⟨RL, "cell", "([II)I"⟩
abbrev cL_add : ByteArray := method_4_code
def yL_add : MethodName := ⟨RL, "add", "(LStrikeWheels;[II)V"⟩
abbrev cL_say : ByteArray := method_5_code
def yL_say : MethodName := ⟨RL, "say", "(LStrikeWheels;[ILjava/lang/String;)V"⟩
abbrev cL_end : ByteArray := method_6_code
def yL_end : MethodName := ⟨RL, "end", "(LStrikeWheels;[I)I"⟩
abbrev cL_all : ByteArray := method_7_code
def yL_all : MethodName := ⟨RL, "all", "(LStrikeWheels;)[I"⟩
abbrev cL_alike : ByteArray := method_8_code
def yL_alike : MethodName := ⟨RL, "alike", "([I[I)Z"⟩
abbrev cL_isPrime : ByteArray := method_9_code
def yL_isPrime : MethodName := ⟨RL, "isPrime", "(I)Z"⟩
abbrev cL_areNumbers : ByteArray := method_10_code
def yL_areNumbers : MethodName := ⟨RL, "areNumbers", "(LStrikeWheels;)Z"⟩
abbrev cL_areStretches : ByteArray := method_11_code
def yL_areStretches : MethodName := ⟨RL, "areStretches", "(LStrikeWheels;)Z"⟩
abbrev cL_act : ByteArray := method_12_code
def yL_act : MethodName := ⟨RL, "act", "(LStrikeWheels;I)Z"⟩
abbrev cL_law : ByteArray := code
def yL_law : MethodName := ⟨RL, "law", "([I)Z"⟩
