def RX0 : String := "StrengthRows$Board"
def TX0 : u_T := fun k => match k with
  | 0 => ("StrengthRows$Board", "rowCount", "I", false)
  | 1 => ("StrengthRows$Board", "stiffSum", "D", false)
  | 2 => ("StrengthRows$Board", "echoValue", "D", false)
  | 3 => ("StrengthRows$Board", "knotShare", "D", false)
  | 4 => ("StrengthRows$Board", "strength", "D", false)
  | 5 => ("StrengthRows$Board", "wasBroken", "Z", false)
  | 6 => ("StrengthRows$Board", "isOut", "Z", false)
  | _ => ("StrengthRows$Board", "keptForetold", "D", false)
def tyX0 : Nat → FieldType := fun k => match k with
  | 0 => .int
  | 1 => .double
  | 2 => .double
  | 3 => .double
  | 4 => .double
  | 5 => .boolean
  | 6 => .boolean
  | _ => .double
abbrev wsX00 : List Cond := u_ws RX0 TX0 8
theorem nmX0 : ∀ a, a < 8 → ∀ b, b < 8 → a ≠ b → (TX0 a).2.1 ≠ (TX0 b).2.1 := by decide +kernel
theorem tyX0_ok : ∀ k, k < 8 → parseFieldDescriptor (TX0 k).2.2.1 = some (tyX0 k) := by decide +kernel
abbrev cX0_init : ByteArray := prog_2_method_1_code
def yX0_init : MethodName := ⟨RX0, "<init>", "()V"⟩
abbrev cX0_isComplete : ByteArray := prog_2_method_2_code
def yX0_isComplete : MethodName := ⟨RX0, "isComplete", "()Z"⟩
abbrev cX0_isFitted : ByteArray := prog_2_method_3_code
def yX0_isFitted : MethodName := ⟨RX0, "isFitted", "()Z"⟩
abbrev cX0_mean : ByteArray := prog_2_method_4_code
def yX0_mean : MethodName := ⟨RX0, "mean", "()D"⟩
abbrev cX0_term : ByteArray := prog_2_method_5_code
def yX0_term : MethodName := ⟨RX0, "term", "(I)D"⟩
def RX1 : String := "StrengthRows$Chart"
def TX1 : u_T := fun k => match k with
  | 0 => ("StrengthRows$Chart", "span", "I", false)
  | 1 => ("StrengthRows$Chart", "allowed", "I", false)
  | 2 => ("StrengthRows$Chart", "badBits", "I", false)
  | _ => ("StrengthRows$Chart", "holdsFor", "I", false)
def tyX1 : Nat → FieldType := fun k => match k with
  | 0 => .int
  | 1 => .int
  | 2 => .int
  | _ => .int
abbrev wsX10 : List Cond := u_ws RX1 TX1 4
theorem nmX1 : ∀ a, a < 4 → ∀ b, b < 4 → a ≠ b → (TX1 a).2.1 ≠ (TX1 b).2.1 := by decide +kernel
theorem tyX1_ok : ∀ k, k < 4 → parseFieldDescriptor (TX1 k).2.2.1 = some (tyX1 k) := by decide +kernel
abbrev cX1_init : ByteArray := prog_3_method_1_code
def yX1_init : MethodName := ⟨RX1, "<init>", "()V"⟩
abbrev cX1_begin : ByteArray := prog_3_method_2_code
def yX1_begin : MethodName := ⟨RX1, "begin", "(II)V"⟩
abbrev cX1_actsAt : ByteArray := prog_3_method_3_code
def yX1_actsAt : MethodName := ⟨RX1, "actsAt", "(Z)Z"⟩
def RX2 : String := "StrengthRows$Fit"
def TX2 : u_T := fun k => match k with
  | 0 => ("StrengthRows$Fit", "products", "[[D", true)
  | 1 => ("StrengthRows$Fit", "targets", "[D", true)
  | _ => ("StrengthRows$Fit", "numbers", "[D", true)
def tyX2 : Nat → FieldType := fun k => match k with
  | 0 => .array (.array .double)
  | 1 => .array .double
  | _ => .array .double
abbrev wsX20 : List Cond := u_ws RX2 TX2 3
theorem nmX2 : ∀ a, a < 3 → ∀ b, b < 3 → a ≠ b → (TX2 a).2.1 ≠ (TX2 b).2.1 := by decide +kernel
theorem tyX2_ok : ∀ k, k < 3 → parseFieldDescriptor (TX2 k).2.2.1 = some (tyX2 k) := by decide +kernel
abbrev cX2_init : ByteArray := prog_4_method_1_code
def yX2_init : MethodName := ⟨RX2, "<init>", "()V"⟩
abbrev cX2_reckon : ByteArray := prog_4_method_2_code
def yX2_reckon : MethodName := ⟨RX2, "reckon", "([LStrengthRows$Board;LStrengthRows$Board;)I"⟩
abbrev cX2_foretell : ByteArray := prog_4_method_3_code
def yX2_foretell : MethodName := ⟨RX2, "foretell", "(LStrengthRows$Board;)D"⟩
abbrev cX2_clear : ByteArray := prog_4_method_4_code
def yX2_clear : MethodName := ⟨RX2, "clear", "()V"⟩
abbrev cX2_add : ByteArray := prog_4_method_5_code
def yX2_add : MethodName := ⟨RX2, "add", "(LStrengthRows$Board;)V"⟩
abbrev cX2_eliminate : ByteArray := prog_4_method_6_code
def yX2_eliminate : MethodName := ⟨RX2, "eliminate", "()I"⟩
abbrev cX2_lessen : ByteArray := prog_4_method_7_code
def yX2_lessen : MethodName := ⟨RX2, "lessen", "(IID)V"⟩
abbrev cX2_substitute : ByteArray := prog_4_method_8_code
def yX2_substitute : MethodName := ⟨RX2, "substitute", "()V"⟩
abbrev cX2_isPassedOver : ByteArray := prog_4_method_9_code
def yX2_isPassedOver : MethodName := ⟨RX2, "isPassedOver", "(I)Z"⟩
def RX3 : String := "StrengthRows$References"
def TX3 : u_T := fun k => match k with
  | 0 => ("StrengthRows$References", "days", "[I", true)
  | 1 => ("StrengthRows$References", "values", "[D", true)
  | 2 => ("StrengthRows$References", "count", "I", false)
  | _ => ("StrengthRows$References", "lastDay", "I", false)
def tyX3 : Nat → FieldType := fun k => match k with
  | 0 => .array .int
  | 1 => .array .double
  | 2 => .int
  | _ => .int
abbrev wsX30 : List Cond := u_ws RX3 TX3 4
theorem nmX3 : ∀ a, a < 4 → ∀ b, b < 4 → a ≠ b → (TX3 a).2.1 ≠ (TX3 b).2.1 := by decide +kernel
theorem tyX3_ok : ∀ k, k < 4 → parseFieldDescriptor (TX3 k).2.2.1 = some (tyX3 k) := by decide +kernel
abbrev cX3_init : ByteArray := prog_5_method_1_code
def yX3_init : MethodName := ⟨RX3, "<init>", "()V"⟩
abbrev cX3_isBehindLast : ByteArray := prog_5_method_2_code
def yX3_isBehindLast : MethodName := ⟨RX3, "isBehindLast", "(I)Z"⟩
abbrev cX3_isFull : ByteArray := prog_5_method_3_code
def yX3_isFull : MethodName := ⟨RX3, "isFull", "()Z"⟩
abbrev cX3_append : ByteArray := prog_5_method_4_code
def yX3_append : MethodName := ⟨RX3, "append", "(ID)I"⟩
abbrev cX3_valueAt : ByteArray := prog_5_method_5_code
def yX3_valueAt : MethodName := ⟨RX3, "valueAt", "(I)D"⟩
abbrev cX3_between : ByteArray := prog_5_method_6_code
def yX3_between : MethodName := ⟨RX3, "between", "(III)D"⟩
def RX4 : String := "StrengthRows"
def TX4 : u_T := fun k => match k with
  | 0 => ("StrengthRows", "seed", "I", true)
  | 1 => ("StrengthRows", "boards", "[LStrengthRows$Board;", true)
  | 2 => ("StrengthRows", "boardCount", "I", false)
  | 3 => ("StrengthRows", "latestFit", "LStrengthRows$Fit;", true)
  | 4 => ("StrengthRows", "fitWithout", "LStrengthRows$Fit;", true)
  | 5 => ("StrengthRows", "limits", "[D", true)
  | 6 => ("StrengthRows", "chartNow", "LStrengthRows$Chart;", true)
  | _ => ("StrengthRows", "references", "LStrengthRows$References;", true)
def tyX4 : Nat → FieldType := fun k => match k with
  | 0 => .int
  | 1 => .array (.object "StrengthRows$Board")
  | 2 => .int
  | 3 => .object "StrengthRows$Fit"
  | 4 => .object "StrengthRows$Fit"
  | 5 => .array .double
  | 6 => .object "StrengthRows$Chart"
  | _ => .object "StrengthRows$References"
abbrev wsX40 : List Cond := u_ws RX4 TX4 8
theorem nmX4 : ∀ a, a < 8 → ∀ b, b < 8 → a ≠ b → (TX4 a).2.1 ≠ (TX4 b).2.1 := by decide +kernel
theorem tyX4_ok : ∀ k, k < 8 → parseFieldDescriptor (TX4 k).2.2.1 = some (tyX4 k) := by decide +kernel
abbrev cX4_init : ByteArray := prog_1_method_1_code
def yX4_init : MethodName := ⟨RX4, "<init>", "(I)V"⟩
abbrev cX4_board : ByteArray := prog_1_method_2_code
def yX4_board : MethodName := ⟨RX4, "board", "()I"⟩
abbrev cX4_row : ByteArray := prog_1_method_3_code
def yX4_row : MethodName := ⟨RX4, "row", "(ID)I"⟩
abbrev cX4_echo : ByteArray := prog_1_method_4_code
def yX4_echo : MethodName := ⟨RX4, "echo", "(IDD)V"⟩
abbrev cX4_knots : ByteArray := prog_1_method_5_code
def yX4_knots : MethodName := ⟨RX4, "knots", "(ID)V"⟩
abbrev cX4_broken : ByteArray := prog_1_method_6_code
def yX4_broken : MethodName := ⟨RX4, "broken", "(ID)V"⟩
abbrev cX4_fit : ByteArray := prog_1_method_7_code
def yX4_fit : MethodName := ⟨RX4, "fit", "()I"⟩
abbrev cX4_number : ByteArray := prog_1_method_8_code
def yX4_number : MethodName := ⟨RX4, "number", "(I)D"⟩
abbrev cX4_foretold : ByteArray := prog_1_method_9_code
def yX4_foretold : MethodName := ⟨RX4, "foretold", "(I)D"⟩
abbrev cX4_leftOut : ByteArray := prog_1_method_10_code
def yX4_leftOut : MethodName := ⟨RX4, "leftOut", "(I)D"⟩
abbrev cX4_limit : ByteArray := prog_1_method_11_code
def yX4_limit : MethodName := ⟨RX4, "limit", "(ID)V"⟩
abbrev cX4_setting : ByteArray := prog_1_method_12_code
def yX4_setting : MethodName := ⟨RX4, "setting", "(III)I"⟩
abbrev cX4_odds : ByteArray := prog_1_method_13_code
def yX4_odds : MethodName := ⟨RX4, "odds", "(IIIII)J"⟩
abbrev cX4_chart : ByteArray := prog_1_method_14_code
def yX4_chart : MethodName := ⟨RX4, "chart", "(II)V"⟩
abbrev cX4_test : ByteArray := prog_1_method_15_code
def yX4_test : MethodName := ⟨RX4, "test", "(Z)Z"⟩
abbrev cX4_proof : ByteArray := prog_1_method_16_code
def yX4_proof : MethodName := ⟨RX4, "proof", "(D)I"⟩
abbrev cX4_about : ByteArray := prog_1_method_17_code
def yX4_about : MethodName := ⟨RX4, "about", "(II)I"⟩
abbrev cX4_reference : ByteArray := prog_1_method_18_code
def yX4_reference : MethodName := ⟨RX4, "reference", "(ID)I"⟩
abbrev cX4_drift : ByteArray := prog_1_method_19_code
def yX4_drift : MethodName := ⟨RX4, "drift", "(I)D"⟩
abbrev cX4_drawn : ByteArray := prog_1_method_20_code
def yX4_drawn : MethodName := ⟨RX4, "drawn", "(I)D"⟩
abbrev cX4_boardAt : ByteArray := prog_1_method_21_code
def yX4_boardAt : MethodName := ⟨RX4, "boardAt", "(I)LStrengthRows$Board;"⟩
abbrev cX4_completeBoardAt : ByteArray := prog_1_method_22_code
def yX4_completeBoardAt : MethodName := ⟨RX4, "completeBoardAt", "(I)LStrengthRows$Board;"⟩
abbrev cX4_checkClass : ByteArray := prog_1_method_23_code
def yX4_checkClass : MethodName := ⟨RX4, "checkClass", "(I)V"⟩
abbrev cX4_need : ByteArray := prog_1_method_24_code
def yX4_need : MethodName := ⟨RX4, "need", "(Z)V"⟩
abbrev cX4_isWithin : ByteArray := prog_1_method_25_code
def yX4_isWithin : MethodName := ⟨RX4, "isWithin", "(DII)Z"⟩
abbrev cX4_isDay : ByteArray := prog_1_method_26_code
def yX4_isDay : MethodName := ⟨RX4, "isDay", "(I)Z"⟩
abbrev cX4_isShare : ByteArray := prog_1_method_27_code
def yX4_isShare : MethodName := ⟨RX4, "isShare", "(III)Z"⟩
abbrev cX4_keepForetold : ByteArray := prog_1_method_28_code
def yX4_keepForetold : MethodName := ⟨RX4, "keepForetold", "()V"⟩
abbrev cX4_isEnough : ByteArray := prog_1_method_29_code
def yX4_isEnough : MethodName := ⟨RX4, "isEnough", "(DDII)Z"⟩
abbrev cX4_waysOfFew : ByteArray := prog_1_method_30_code
def yX4_waysOfFew : MethodName := ⟨RX4, "waysOfFew", "(IIII)J"⟩
abbrev cX4_power : ByteArray := prog_1_method_31_code
def yX4_power : MethodName := ⟨RX4, "power", "(II)J"⟩
abbrev cX4_commonDivisor : ByteArray := prog_1_method_32_code
def yX4_commonDivisor : MethodName := ⟨RX4, "commonDivisor", "(JJ)J"⟩
def RX5 : String := "StrengthRowsModel"
def TX5 : u_T := fun k => match k with
  | 0 => ("StrengthRowsModel", "thrown", "I", false)
  | 1 => ("StrengthRowsModel", "seed", "J", false)
  | 2 => ("StrengthRowsModel", "boards", "I", false)
  | 3 => ("StrengthRowsModel", "rows", "[D", true)
  | 4 => ("StrengthRowsModel", "many", "[I", true)
  | 5 => ("StrengthRowsModel", "echoes", "[D", true)
  | 6 => ("StrengthRowsModel", "knots", "[D", true)
  | 7 => ("StrengthRowsModel", "strengths", "[D", true)
  | 8 => ("StrengthRowsModel", "isBroken", "[Z", true)
  | 9 => ("StrengthRowsModel", "isOut", "[Z", true)
  | 10 => ("StrengthRowsModel", "sums", "[D", true)
  | 11 => ("StrengthRowsModel", "rights", "[D", true)
  | 12 => ("StrengthRowsModel", "passed", "[Z", true)
  | 13 => ("StrengthRowsModel", "numbers", "[D", true)
  | 14 => ("StrengthRowsModel", "trial", "[D", true)
  | 15 => ("StrengthRowsModel", "limits", "[D", true)
  | 16 => ("StrengthRowsModel", "chartSize", "I", false)
  | 17 => ("StrengthRowsModel", "chartMost", "I", false)
  | 18 => ("StrengthRowsModel", "holds", "I", false)
  | 19 => ("StrengthRowsModel", "tests", "I", false)
  | 20 => ("StrengthRowsModel", "bads", "[Z", true)
  | 21 => ("StrengthRowsModel", "references", "I", false)
  | 22 => ("StrengthRowsModel", "days", "[I", true)
  | _ => ("StrengthRowsModel", "values", "[D", true)
def tyX5 : Nat → FieldType := fun k => match k with
  | 0 => .int
  | 1 => .long
  | 2 => .int
  | 3 => .array .double
  | 4 => .array .int
  | 5 => .array .double
  | 6 => .array .double
  | 7 => .array .double
  | 8 => .array .boolean
  | 9 => .array .boolean
  | 10 => .array .double
  | 11 => .array .double
  | 12 => .array .boolean
  | 13 => .array .double
  | 14 => .array .double
  | 15 => .array .double
  | 16 => .int
  | 17 => .int
  | 18 => .int
  | 19 => .int
  | 20 => .array .boolean
  | 21 => .int
  | 22 => .array .int
  | _ => .array .double
abbrev wsX50 : List Cond := u_ws RX5 TX5 24
theorem nmX5 : ∀ a, a < 24 → ∀ b, b < 24 → a ≠ b → (TX5 a).2.1 ≠ (TX5 b).2.1 := by decide +kernel
theorem tyX5_ok : ∀ k, k < 24 → parseFieldDescriptor (TX5 k).2.2.1 = some (tyX5 k) := by decide +kernel
abbrev cX5_init : ByteArray := prog_7_method_1_code
def yX5_init : MethodName := ⟨RX5, "<init>", "(I)V"⟩
abbrev cX5_thrown : ByteArray := prog_7_method_2_code
def yX5_thrown : MethodName := ⟨RX5, "thrown", "()I"⟩
abbrev cX5_between : ByteArray := prog_7_method_3_code
def yX5_between : MethodName := ⟨RX5, "between", "(DDD)Z"⟩
abbrev cX5_noBoard : ByteArray := prog_7_method_4_code
def yX5_noBoard : MethodName := ⟨RX5, "noBoard", "(I)Z"⟩
abbrev cX5_board : ByteArray := prog_7_method_5_code
def yX5_board : MethodName := ⟨RX5, "board", "()I"⟩
abbrev cX5_row : ByteArray := prog_7_method_6_code
def yX5_row : MethodName := ⟨RX5, "row", "(ID)I"⟩
abbrev cX5_echo : ByteArray := prog_7_method_7_code
def yX5_echo : MethodName := ⟨RX5, "echo", "(IDD)V"⟩
abbrev cX5_knots : ByteArray := prog_7_method_8_code
def yX5_knots : MethodName := ⟨RX5, "knots", "(ID)V"⟩
abbrev cX5_broken : ByteArray := prog_7_method_9_code
def yX5_broken : MethodName := ⟨RX5, "broken", "(ID)V"⟩
abbrev cX5_isComplete : ByteArray := prog_7_method_10_code
def yX5_isComplete : MethodName := ⟨RX5, "isComplete", "(I)Z"⟩
abbrev cX5_x : ByteArray := prog_7_method_11_code
def yX5_x : MethodName := ⟨RX5, "x", "(II)D"⟩
abbrev cX5_add : ByteArray := prog_7_method_12_code
def yX5_add : MethodName := ⟨RX5, "add", "(I)V"⟩
abbrev cX5_solve : ByteArray := prog_7_method_13_code
def yX5_solve : MethodName := ⟨RX5, "solve", "(I)I"⟩
abbrev cX5_fit : ByteArray := prog_7_method_14_code
def yX5_fit : MethodName := ⟨RX5, "fit", "()I"⟩
abbrev cX5_number : ByteArray := prog_7_method_15_code
def yX5_number : MethodName := ⟨RX5, "number", "(I)D"⟩
abbrev cX5_told : ByteArray := prog_7_method_16_code
def yX5_told : MethodName := ⟨RX5, "told", "(IDDD)D"⟩
abbrev cX5_foretold : ByteArray := prog_7_method_17_code
def yX5_foretold : MethodName := ⟨RX5, "foretold", "(I)D"⟩
abbrev cX5_leftOut : ByteArray := prog_7_method_18_code
def yX5_leftOut : MethodName := ⟨RX5, "leftOut", "(I)D"⟩
abbrev cX5_limit : ByteArray := prog_7_method_19_code
def yX5_limit : MethodName := ⟨RX5, "limit", "(ID)V"⟩
abbrev cX5_setting : ByteArray := prog_7_method_20_code
def yX5_setting : MethodName := ⟨RX5, "setting", "(III)I"⟩
abbrev cX5_power : ByteArray := prog_7_method_21_code
def yX5_power : MethodName := ⟨RX5, "power", "(JI)J"⟩
abbrev cX5_odds : ByteArray := prog_7_method_22_code
def yX5_odds : MethodName := ⟨RX5, "odds", "(IIIII)J"⟩
abbrev cX5_chart : ByteArray := prog_7_method_23_code
def yX5_chart : MethodName := ⟨RX5, "chart", "(II)V"⟩
abbrev cX5_test : ByteArray := prog_7_method_24_code
def yX5_test : MethodName := ⟨RX5, "test", "(Z)Z"⟩
abbrev cX5_proof : ByteArray := prog_7_method_25_code
def yX5_proof : MethodName := ⟨RX5, "proof", "(D)I"⟩
abbrev cX5_about : ByteArray := prog_7_method_26_code
def yX5_about : MethodName := ⟨RX5, "about", "(II)I"⟩
abbrev cX5_reference : ByteArray := prog_7_method_27_code
def yX5_reference : MethodName := ⟨RX5, "reference", "(ID)I"⟩
abbrev cX5_drift : ByteArray := prog_7_method_28_code
def yX5_drift : MethodName := ⟨RX5, "drift", "(I)D"⟩
abbrev cX5_drawn : ByteArray := prog_7_method_29_code
def yX5_drawn : MethodName := ⟨RX5, "drawn", "(I)D"⟩
def RJ6 : String := "java/lang/Integer"
def TJ6 : u_T := fun k => match k with
  | _ => ("", "", "", false)
def tyJ6 : Nat → FieldType := fun k => match k with
  | _ => .int
theorem nmJ6 : ∀ a, a < 0 → ∀ b, b < 0 → a ≠ b → (TJ6 a).2.1 ≠ (TJ6 b).2.1 := by decide +kernel
theorem tyJ6_ok : ∀ k, k < 0 → parseFieldDescriptor (TJ6 k).2.2.1 = some (tyJ6 k) := by decide +kernel
abbrev cJ6_bitCount_0f7a4 : ByteArray := prog_12_method_49_code
def yJ6_bitCount_0f7a4 : MethodName := ⟨RJ6, "bitCount", "(I)I"⟩
def RJ0 : String := "java/lang/String"
def TJ0 : u_T := fun k => match k with
  | _ => ("", "", "", false)
def tyJ0 : Nat → FieldType := fun k => match k with
  | _ => .int
theorem nmJ0 : ∀ a, a < 0 → ∀ b, b < 0 → a ≠ b → (TJ0 a).2.1 ≠ (TJ0 b).2.1 := by decide +kernel
theorem tyJ0_ok : ∀ k, k < 0 → parseFieldDescriptor (TJ0 k).2.2.1 = some (tyJ0 k) := by decide +kernel
def RL : String := "StrengthRowsLaw"
abbrev cL_cell : ByteArray := method_2_code
def yL_cell : MethodName := ⟨RL, "cell", "([II)I"⟩
abbrev cL_board : ByteArray := method_3_code
def yL_board : MethodName := ⟨RL, "board", "(LStrengthRows;[J)I"⟩
abbrev cL_row : ByteArray := method_4_code
def yL_row : MethodName := ⟨RL, "row", "(LStrengthRows;ID[J)I"⟩
abbrev cL_echo : ByteArray := method_5_code
def yL_echo : MethodName := ⟨RL, "echo", "(LStrengthRows;IDD)I"⟩
abbrev cL_knots : ByteArray := method_6_code
def yL_knots : MethodName := ⟨RL, "knots", "(LStrengthRows;ID)I"⟩
abbrev cL_broken : ByteArray := method_7_code
def yL_broken : MethodName := ⟨RL, "broken", "(LStrengthRows;ID)I"⟩
abbrev cL_number : ByteArray := method_8_code
def yL_number : MethodName := ⟨RL, "number", "(LStrengthRows;I[D)I"⟩
abbrev cL_foretold : ByteArray := method_9_code
def yL_foretold : MethodName := ⟨RL, "foretold", "(LStrengthRows;I[D)I"⟩
abbrev cL_leftOut : ByteArray := method_10_code
def yL_leftOut : MethodName := ⟨RL, "leftOut", "(LStrengthRows;I[D)I"⟩
abbrev cL_limit : ByteArray := method_11_code
def yL_limit : MethodName := ⟨RL, "limit", "(LStrengthRows;ID)I"⟩
abbrev cL_setting : ByteArray := method_12_code
def yL_setting : MethodName := ⟨RL, "setting", "(LStrengthRows;III[J)I"⟩
abbrev cL_odds : ByteArray := method_13_code
def yL_odds : MethodName := ⟨RL, "odds", "(LStrengthRows;IIIII[J)I"⟩
abbrev cL_chart : ByteArray := method_14_code
def yL_chart : MethodName := ⟨RL, "chart", "(LStrengthRows;II)I"⟩
abbrev cL_proof : ByteArray := method_15_code
def yL_proof : MethodName := ⟨RL, "proof", "(LStrengthRows;D[J)I"⟩
abbrev cL_about : ByteArray := method_16_code
def yL_about : MethodName := ⟨RL, "about", "(LStrengthRows;II[J)I"⟩
abbrev cL_reference : ByteArray := method_17_code
def yL_reference : MethodName := ⟨RL, "reference", "(LStrengthRows;ID[J)I"⟩
abbrev cL_drift : ByteArray := method_18_code
def yL_drift : MethodName := ⟨RL, "drift", "(LStrengthRows;I[D)I"⟩
abbrev cL_drawn : ByteArray := method_19_code
def yL_drawn : MethodName := ⟨RL, "drawn", "(LStrengthRows;I[D)I"⟩
abbrev cL_law : ByteArray := code
def yL_law : MethodName := ⟨RL, "law", "([I)Z"⟩
theorem dX0_init_0 : decode cX0_init 0 = .ok (.aload_n 0, 1) := by decide +kernel
theorem dX0_init_1 : decode cX0_init 1 = .ok (.invokespecial 1, 3) := by decide +kernel
theorem dX0_init_4 : decode cX0_init 4 = .ok (.return_, 1) := by decide +kernel
theorem dX0_isComplete_0 : decode cX0_isComplete 0 = .ok (.aload_n 0, 1) := by decide +kernel
theorem dX0_isComplete_1 : decode cX0_isComplete 1 = .ok (.getfield 7, 3) := by decide +kernel
theorem dX0_isComplete_4 : decode cX0_isComplete 4 = .ok (.iconst 1, 1) := by decide +kernel
theorem dX0_isComplete_5 : decode cX0_isComplete 5 = .ok (.if_icmp .lt 16, 3) := by decide +kernel
theorem dX0_isComplete_8 : decode cX0_isComplete 8 = .ok (.aload_n 0, 1) := by decide +kernel
theorem dX0_isComplete_9 : decode cX0_isComplete 9 = .ok (.getfield 13, 3) := by decide +kernel
theorem dX0_isComplete_12 : decode cX0_isComplete 12 = .ok (.dconst 0, 1) := by decide +kernel
theorem dX0_isComplete_13 : decode cX0_isComplete 13 = .ok (.dcmp .l, 1) := by decide +kernel
theorem dX0_isComplete_14 : decode cX0_isComplete 14 = .ok (.ifCond .le 7, 3) := by decide +kernel
theorem dX0_isComplete_17 : decode cX0_isComplete 17 = .ok (.iconst 1, 1) := by decide +kernel
theorem dX0_isComplete_18 : decode cX0_isComplete 18 = .ok (.goto 4, 3) := by decide +kernel
theorem dX0_isComplete_21 : decode cX0_isComplete 21 = .ok (.iconst 0, 1) := by decide +kernel
theorem dX0_isComplete_22 : decode cX0_isComplete 22 = .ok (.ireturn, 1) := by decide +kernel
theorem dX0_isFitted_0 : decode cX0_isFitted 0 = .ok (.aload_n 0, 1) := by decide +kernel
theorem dX0_isFitted_1 : decode cX0_isFitted 1 = .ok (.invokevirtual 17, 3) := by decide +kernel
theorem dX0_isFitted_4 : decode cX0_isFitted 4 = .ok (.ifCond .eq 14, 3) := by decide +kernel
theorem dX0_isFitted_7 : decode cX0_isFitted 7 = .ok (.aload_n 0, 1) := by decide +kernel
theorem dX0_isFitted_8 : decode cX0_isFitted 8 = .ok (.getfield 21, 3) := by decide +kernel
theorem dX0_isFitted_11 : decode cX0_isFitted 11 = .ok (.ifCond .eq 7, 3) := by decide +kernel
theorem dX0_isFitted_14 : decode cX0_isFitted 14 = .ok (.iconst 1, 1) := by decide +kernel
theorem dX0_isFitted_15 : decode cX0_isFitted 15 = .ok (.goto 4, 3) := by decide +kernel
theorem dX0_isFitted_18 : decode cX0_isFitted 18 = .ok (.iconst 0, 1) := by decide +kernel
theorem dX0_isFitted_19 : decode cX0_isFitted 19 = .ok (.ireturn, 1) := by decide +kernel
theorem dX0_mean_0 : decode cX0_mean 0 = .ok (.aload_n 0, 1) := by decide +kernel
theorem dX0_mean_1 : decode cX0_mean 1 = .ok (.getfield 7, 3) := by decide +kernel
theorem dX0_mean_4 : decode cX0_mean 4 = .ok (.ifCond .le 16, 3) := by decide +kernel
theorem dX0_mean_7 : decode cX0_mean 7 = .ok (.aload_n 0, 1) := by decide +kernel
theorem dX0_mean_8 : decode cX0_mean 8 = .ok (.getfield 25, 3) := by decide +kernel
theorem dX0_mean_11 : decode cX0_mean 11 = .ok (.aload_n 0, 1) := by decide +kernel
theorem dX0_mean_12 : decode cX0_mean 12 = .ok (.getfield 7, 3) := by decide +kernel
theorem dX0_mean_15 : decode cX0_mean 15 = .ok (.i2d, 1) := by decide +kernel
theorem dX0_mean_16 : decode cX0_mean 16 = .ok (.ddiv, 1) := by decide +kernel
theorem dX0_mean_17 : decode cX0_mean 17 = .ok (.goto 4, 3) := by decide +kernel
theorem dX0_mean_20 : decode cX0_mean 20 = .ok (.dconst 0, 1) := by decide +kernel
theorem dX0_mean_21 : decode cX0_mean 21 = .ok (.dreturn, 1) := by decide +kernel
theorem dX0_term_0 : decode cX0_term 0 = .ok (.iload_n 1, 1) := by decide +kernel
theorem dX0_term_1 : decode cX0_term 1 = .ok (.ifCond .ne 5, 3) := by decide +kernel
theorem dX0_term_4 : decode cX0_term 4 = .ok (.dconst 1, 1) := by decide +kernel
theorem dX0_term_5 : decode cX0_term 5 = .ok (.dreturn, 1) := by decide +kernel
theorem dX0_term_6 : decode cX0_term 6 = .ok (.iload_n 1, 1) := by decide +kernel
theorem dX0_term_7 : decode cX0_term 7 = .ok (.iconst 1, 1) := by decide +kernel
theorem dX0_term_8 : decode cX0_term 8 = .ok (.if_icmp .ne 19, 3) := by decide +kernel
theorem dX0_term_11 : decode cX0_term 11 = .ok (.aload_n 0, 1) := by decide +kernel
theorem dX0_term_12 : decode cX0_term 12 = .ok (.invokevirtual 28, 3) := by decide +kernel
theorem dX0_term_15 : decode cX0_term 15 = .ok (.aload_n 0, 1) := by decide +kernel
theorem dX0_term_16 : decode cX0_term 16 = .ok (.getfield 13, 3) := by decide +kernel
theorem dX0_term_19 : decode cX0_term 19 = .ok (.dadd, 1) := by decide +kernel
theorem dX0_term_20 : decode cX0_term 20 = .ok (.ldc2_w 32, 3) := by decide +kernel
theorem dX0_term_23 : decode cX0_term 23 = .ok (.ddiv, 1) := by decide +kernel
theorem dX0_term_24 : decode cX0_term 24 = .ok (.goto 9, 3) := by decide +kernel
theorem dX0_term_27 : decode cX0_term 27 = .ok (.dconst 1, 1) := by decide +kernel
theorem dX0_term_28 : decode cX0_term 28 = .ok (.aload_n 0, 1) := by decide +kernel
theorem dX0_term_29 : decode cX0_term 29 = .ok (.getfield 34, 3) := by decide +kernel
theorem dX0_term_32 : decode cX0_term 32 = .ok (.dsub, 1) := by decide +kernel
theorem dX0_term_33 : decode cX0_term 33 = .ok (.dreturn, 1) := by decide +kernel
theorem dX1_init_0 : decode cX1_init 0 = .ok (.aload_n 0, 1) := by decide +kernel
theorem dX1_init_1 : decode cX1_init 1 = .ok (.invokespecial 3, 3) := by decide +kernel
theorem dX1_init_4 : decode cX1_init 4 = .ok (.aload_n 0, 1) := by decide +kernel
theorem dX1_init_5 : decode cX1_init 5 = .ok (.bipush 10, 2) := by decide +kernel
theorem dX1_init_7 : decode cX1_init 7 = .ok (.putfield 9, 3) := by decide +kernel
theorem dX1_init_10 : decode cX1_init 10 = .ok (.aload_n 0, 1) := by decide +kernel
theorem dX1_init_11 : decode cX1_init 11 = .ok (.iconst 1, 1) := by decide +kernel
theorem dX1_init_12 : decode cX1_init 12 = .ok (.putfield 15, 3) := by decide +kernel
theorem dX1_init_15 : decode cX1_init 15 = .ok (.return_, 1) := by decide +kernel
theorem dX1_begin_0 : decode cX1_begin 0 = .ok (.aload_n 0, 1) := by decide +kernel
theorem dX1_begin_1 : decode cX1_begin 1 = .ok (.iload_n 1, 1) := by decide +kernel
theorem dX1_begin_2 : decode cX1_begin 2 = .ok (.putfield 9, 3) := by decide +kernel
theorem dX1_begin_5 : decode cX1_begin 5 = .ok (.aload_n 0, 1) := by decide +kernel
theorem dX1_begin_6 : decode cX1_begin 6 = .ok (.iload_n 2, 1) := by decide +kernel
theorem dX1_begin_7 : decode cX1_begin 7 = .ok (.putfield 15, 3) := by decide +kernel
theorem dX1_begin_10 : decode cX1_begin 10 = .ok (.aload_n 0, 1) := by decide +kernel
theorem dX1_begin_11 : decode cX1_begin 11 = .ok (.iconst 0, 1) := by decide +kernel
theorem dX1_begin_12 : decode cX1_begin 12 = .ok (.putfield 18, 3) := by decide +kernel
theorem dX1_begin_15 : decode cX1_begin 15 = .ok (.aload_n 0, 1) := by decide +kernel
theorem dX1_begin_16 : decode cX1_begin 16 = .ok (.iconst 0, 1) := by decide +kernel
theorem dX1_begin_17 : decode cX1_begin 17 = .ok (.putfield 21, 3) := by decide +kernel
theorem dX1_begin_20 : decode cX1_begin 20 = .ok (.return_, 1) := by decide +kernel
theorem dX1_actsAt_0 : decode cX1_actsAt 0 = .ok (.aload_n 0, 1) := by decide +kernel
theorem dX1_actsAt_1 : decode cX1_actsAt 1 = .ok (.aload_n 0, 1) := by decide +kernel
theorem dX1_actsAt_2 : decode cX1_actsAt 2 = .ok (.getfield 18, 3) := by decide +kernel
theorem dX1_actsAt_5 : decode cX1_actsAt 5 = .ok (.iconst 1, 1) := by decide +kernel
theorem dX1_actsAt_6 : decode cX1_actsAt 6 = .ok (.ishl, 1) := by decide +kernel
theorem dX1_actsAt_7 : decode cX1_actsAt 7 = .ok (.iload_n 1, 1) := by decide +kernel
theorem dX1_actsAt_8 : decode cX1_actsAt 8 = .ok (.ifCond .eq 7, 3) := by decide +kernel
theorem dX1_actsAt_11 : decode cX1_actsAt 11 = .ok (.iconst 1, 1) := by decide +kernel
theorem dX1_actsAt_12 : decode cX1_actsAt 12 = .ok (.goto 4, 3) := by decide +kernel
theorem dX1_actsAt_15 : decode cX1_actsAt 15 = .ok (.iconst 0, 1) := by decide +kernel
theorem dX1_actsAt_16 : decode cX1_actsAt 16 = .ok (.ior, 1) := by decide +kernel
theorem dX1_actsAt_17 : decode cX1_actsAt 17 = .ok (.iconst 1, 1) := by decide +kernel
theorem dX1_actsAt_18 : decode cX1_actsAt 18 = .ok (.aload_n 0, 1) := by decide +kernel
theorem dX1_actsAt_19 : decode cX1_actsAt 19 = .ok (.getfield 9, 3) := by decide +kernel
theorem dX1_actsAt_22 : decode cX1_actsAt 22 = .ok (.ishl, 1) := by decide +kernel
theorem dX1_actsAt_23 : decode cX1_actsAt 23 = .ok (.iconst 1, 1) := by decide +kernel
theorem dX1_actsAt_24 : decode cX1_actsAt 24 = .ok (.isub, 1) := by decide +kernel
theorem dX1_actsAt_25 : decode cX1_actsAt 25 = .ok (.iand, 1) := by decide +kernel
theorem dX1_actsAt_26 : decode cX1_actsAt 26 = .ok (.putfield 18, 3) := by decide +kernel
theorem dX1_actsAt_29 : decode cX1_actsAt 29 = .ok (.aload_n 0, 1) := by decide +kernel
theorem dX1_actsAt_30 : decode cX1_actsAt 30 = .ok (.getfield 21, 3) := by decide +kernel
theorem dX1_actsAt_33 : decode cX1_actsAt 33 = .ok (.ifCond .le 15, 3) := by decide +kernel
theorem dX1_actsAt_36 : decode cX1_actsAt 36 = .ok (.aload_n 0, 1) := by decide +kernel
theorem dX1_actsAt_37 : decode cX1_actsAt 37 = .ok (.dup, 1) := by decide +kernel
theorem dX1_actsAt_38 : decode cX1_actsAt 38 = .ok (.getfield 21, 3) := by decide +kernel
theorem dX1_actsAt_41 : decode cX1_actsAt 41 = .ok (.iconst 1, 1) := by decide +kernel
theorem dX1_actsAt_42 : decode cX1_actsAt 42 = .ok (.isub, 1) := by decide +kernel
theorem dX1_actsAt_43 : decode cX1_actsAt 43 = .ok (.putfield 21, 3) := by decide +kernel
theorem dX1_actsAt_46 : decode cX1_actsAt 46 = .ok (.iconst 0, 1) := by decide +kernel
theorem dX1_actsAt_47 : decode cX1_actsAt 47 = .ok (.ireturn, 1) := by decide +kernel
theorem dX1_actsAt_48 : decode cX1_actsAt 48 = .ok (.aload_n 0, 1) := by decide +kernel
theorem dX1_actsAt_49 : decode cX1_actsAt 49 = .ok (.getfield 18, 3) := by decide +kernel
theorem dX1_actsAt_52 : decode cX1_actsAt 52 = .ok (.invokestatic 24, 3) := by decide +kernel
theorem dX1_actsAt_55 : decode cX1_actsAt 55 = .ok (.aload_n 0, 1) := by decide +kernel
theorem dX1_actsAt_56 : decode cX1_actsAt 56 = .ok (.getfield 15, 3) := by decide +kernel
theorem dX1_actsAt_59 : decode cX1_actsAt 59 = .ok (.if_icmp .gt 5, 3) := by decide +kernel
theorem dX1_actsAt_62 : decode cX1_actsAt 62 = .ok (.iconst 0, 1) := by decide +kernel
theorem dX1_actsAt_63 : decode cX1_actsAt 63 = .ok (.ireturn, 1) := by decide +kernel
theorem dX1_actsAt_64 : decode cX1_actsAt 64 = .ok (.aload_n 0, 1) := by decide +kernel
theorem dX1_actsAt_65 : decode cX1_actsAt 65 = .ok (.aload_n 0, 1) := by decide +kernel
theorem dX1_actsAt_66 : decode cX1_actsAt 66 = .ok (.getfield 9, 3) := by decide +kernel
theorem dX1_actsAt_69 : decode cX1_actsAt 69 = .ok (.putfield 21, 3) := by decide +kernel
theorem dX1_actsAt_72 : decode cX1_actsAt 72 = .ok (.iconst 1, 1) := by decide +kernel
theorem dX1_actsAt_73 : decode cX1_actsAt 73 = .ok (.ireturn, 1) := by decide +kernel
theorem dX2_init_0 : decode cX2_init 0 = .ok (.aload_n 0, 1) := by decide +kernel
theorem dX2_init_1 : decode cX2_init 1 = .ok (.invokespecial 3, 3) := by decide +kernel
theorem dX2_init_4 : decode cX2_init 4 = .ok (.aload_n 0, 1) := by decide +kernel
theorem dX2_init_5 : decode cX2_init 5 = .ok (.iconst 3, 1) := by decide +kernel
theorem dX2_init_6 : decode cX2_init 6 = .ok (.iconst 3, 1) := by decide +kernel
theorem dX2_init_7 : decode cX2_init 7 = .ok (.multianewarray 9 2, 4) := by decide +kernel
theorem dX2_init_11 : decode cX2_init 11 = .ok (.putfield 11, 3) := by decide +kernel
theorem dX2_init_14 : decode cX2_init 14 = .ok (.aload_n 0, 1) := by decide +kernel
theorem dX2_init_15 : decode cX2_init 15 = .ok (.iconst 3, 1) := by decide +kernel
theorem dX2_init_16 : decode cX2_init 16 = .ok (.newarray .double, 2) := by decide +kernel
theorem dX2_init_18 : decode cX2_init 18 = .ok (.putfield 16, 3) := by decide +kernel
theorem dX2_init_21 : decode cX2_init 21 = .ok (.aload_n 0, 1) := by decide +kernel
theorem dX2_init_22 : decode cX2_init 22 = .ok (.iconst 3, 1) := by decide +kernel
theorem dX2_init_23 : decode cX2_init 23 = .ok (.newarray .double, 2) := by decide +kernel
theorem dX2_init_25 : decode cX2_init 25 = .ok (.putfield 20, 3) := by decide +kernel
theorem dX2_init_28 : decode cX2_init 28 = .ok (.return_, 1) := by decide +kernel
theorem dX2_reckon_0 : decode cX2_reckon 0 = .ok (.aload_n 0, 1) := by decide +kernel
theorem dX2_reckon_1 : decode cX2_reckon 1 = .ok (.invokevirtual 23, 3) := by decide +kernel
theorem dX2_reckon_4 : decode cX2_reckon 4 = .ok (.aload_n 1, 1) := by decide +kernel
theorem dX2_reckon_5 : decode cX2_reckon 5 = .ok (.astore_n 3, 1) := by decide +kernel
theorem dX2_reckon_6 : decode cX2_reckon 6 = .ok (.aload_n 3, 1) := by decide +kernel
theorem dX2_reckon_7 : decode cX2_reckon 7 = .ok (.arraylength, 1) := by decide +kernel
theorem dX2_reckon_8 : decode cX2_reckon 8 = .ok (.istore 4, 2) := by decide +kernel
theorem dX2_reckon_10 : decode cX2_reckon 10 = .ok (.iconst 0, 1) := by decide +kernel
theorem dX2_reckon_11 : decode cX2_reckon 11 = .ok (.istore 5, 2) := by decide +kernel
theorem dX2_reckon_13 : decode cX2_reckon 13 = .ok (.iload 5, 2) := by decide +kernel
theorem dX2_reckon_15 : decode cX2_reckon 15 = .ok (.iload 4, 2) := by decide +kernel
theorem dX2_reckon_17 : decode cX2_reckon 17 = .ok (.if_icmp .ge 35, 3) := by decide +kernel
theorem dX2_reckon_20 : decode cX2_reckon 20 = .ok (.aload_n 3, 1) := by decide +kernel
theorem dX2_reckon_21 : decode cX2_reckon 21 = .ok (.iload 5, 2) := by decide +kernel
theorem dX2_reckon_23 : decode cX2_reckon 23 = .ok (.aaload, 1) := by decide +kernel
theorem dX2_reckon_24 : decode cX2_reckon 24 = .ok (.astore 6, 2) := by decide +kernel
theorem dX2_reckon_26 : decode cX2_reckon 26 = .ok (.aload 6, 2) := by decide +kernel
theorem dX2_reckon_28 : decode cX2_reckon 28 = .ok (.invokevirtual 26, 3) := by decide +kernel
theorem dX2_reckon_31 : decode cX2_reckon 31 = .ok (.ifCond .eq 15, 3) := by decide +kernel
theorem dX2_reckon_34 : decode cX2_reckon 34 = .ok (.aload 6, 2) := by decide +kernel
theorem dX2_reckon_36 : decode cX2_reckon 36 = .ok (.aload_n 2, 1) := by decide +kernel
theorem dX2_reckon_37 : decode cX2_reckon 37 = .ok (.if_acmp .eq 9, 3) := by decide +kernel
theorem dX2_reckon_40 : decode cX2_reckon 40 = .ok (.aload_n 0, 1) := by decide +kernel
theorem dX2_reckon_41 : decode cX2_reckon 41 = .ok (.aload 6, 2) := by decide +kernel
theorem dX2_reckon_43 : decode cX2_reckon 43 = .ok (.invokevirtual 32, 3) := by decide +kernel
theorem dX2_reckon_46 : decode cX2_reckon 46 = .ok (.iinc 5 1, 3) := by decide +kernel
theorem dX2_reckon_49 : decode cX2_reckon 49 = .ok (.goto (-36), 3) := by decide +kernel
theorem dX2_reckon_52 : decode cX2_reckon 52 = .ok (.aload_n 0, 1) := by decide +kernel
theorem dX2_reckon_53 : decode cX2_reckon 53 = .ok (.invokevirtual 36, 3) := by decide +kernel
theorem dX2_reckon_56 : decode cX2_reckon 56 = .ok (.istore_n 3, 1) := by decide +kernel
theorem dX2_reckon_57 : decode cX2_reckon 57 = .ok (.aload_n 0, 1) := by decide +kernel
theorem dX2_reckon_58 : decode cX2_reckon 58 = .ok (.invokevirtual 40, 3) := by decide +kernel
theorem dX2_reckon_61 : decode cX2_reckon 61 = .ok (.iload_n 3, 1) := by decide +kernel
theorem dX2_reckon_62 : decode cX2_reckon 62 = .ok (.ireturn, 1) := by decide +kernel
theorem dX2_foretell_0 : decode cX2_foretell 0 = .ok (.aload_n 0, 1) := by decide +kernel
theorem dX2_foretell_1 : decode cX2_foretell 1 = .ok (.getfield 20, 3) := by decide +kernel
theorem dX2_foretell_4 : decode cX2_foretell 4 = .ok (.iconst 0, 1) := by decide +kernel
theorem dX2_foretell_5 : decode cX2_foretell 5 = .ok (.daload, 1) := by decide +kernel
theorem dX2_foretell_6 : decode cX2_foretell 6 = .ok (.aload_n 1, 1) := by decide +kernel
theorem dX2_foretell_7 : decode cX2_foretell 7 = .ok (.iconst 0, 1) := by decide +kernel
theorem dX2_foretell_8 : decode cX2_foretell 8 = .ok (.invokevirtual 43, 3) := by decide +kernel
theorem dX2_foretell_11 : decode cX2_foretell 11 = .ok (.dmul, 1) := by decide +kernel
theorem dX2_foretell_12 : decode cX2_foretell 12 = .ok (.aload_n 0, 1) := by decide +kernel
theorem dX2_foretell_13 : decode cX2_foretell 13 = .ok (.getfield 20, 3) := by decide +kernel
theorem dX2_foretell_16 : decode cX2_foretell 16 = .ok (.iconst 1, 1) := by decide +kernel
theorem dX2_foretell_17 : decode cX2_foretell 17 = .ok (.daload, 1) := by decide +kernel
theorem dX2_foretell_18 : decode cX2_foretell 18 = .ok (.aload_n 1, 1) := by decide +kernel
theorem dX2_foretell_19 : decode cX2_foretell 19 = .ok (.iconst 1, 1) := by decide +kernel
theorem dX2_foretell_20 : decode cX2_foretell 20 = .ok (.invokevirtual 43, 3) := by decide +kernel
theorem dX2_foretell_23 : decode cX2_foretell 23 = .ok (.dmul, 1) := by decide +kernel
theorem dX2_foretell_24 : decode cX2_foretell 24 = .ok (.dadd, 1) := by decide +kernel
theorem dX2_foretell_25 : decode cX2_foretell 25 = .ok (.aload_n 0, 1) := by decide +kernel
theorem dX2_foretell_26 : decode cX2_foretell 26 = .ok (.getfield 20, 3) := by decide +kernel
theorem dX2_foretell_29 : decode cX2_foretell 29 = .ok (.iconst 2, 1) := by decide +kernel
theorem dX2_foretell_30 : decode cX2_foretell 30 = .ok (.daload, 1) := by decide +kernel
theorem dX2_foretell_31 : decode cX2_foretell 31 = .ok (.aload_n 1, 1) := by decide +kernel
theorem dX2_foretell_32 : decode cX2_foretell 32 = .ok (.iconst 2, 1) := by decide +kernel
theorem dX2_foretell_33 : decode cX2_foretell 33 = .ok (.invokevirtual 43, 3) := by decide +kernel
theorem dX2_foretell_36 : decode cX2_foretell 36 = .ok (.dmul, 1) := by decide +kernel
theorem dX2_foretell_37 : decode cX2_foretell 37 = .ok (.dadd, 1) := by decide +kernel
theorem dX2_foretell_38 : decode cX2_foretell 38 = .ok (.dreturn, 1) := by decide +kernel
theorem dX2_clear_0 : decode cX2_clear 0 = .ok (.iconst 0, 1) := by decide +kernel
theorem dX2_clear_1 : decode cX2_clear 1 = .ok (.istore_n 1, 1) := by decide +kernel
theorem dX2_clear_2 : decode cX2_clear 2 = .ok (.iload_n 1, 1) := by decide +kernel
theorem dX2_clear_3 : decode cX2_clear 3 = .ok (.iconst 3, 1) := by decide +kernel
theorem dX2_clear_4 : decode cX2_clear 4 = .ok (.if_icmp .ge 38, 3) := by decide +kernel
theorem dX2_clear_7 : decode cX2_clear 7 = .ok (.aload_n 0, 1) := by decide +kernel
theorem dX2_clear_8 : decode cX2_clear 8 = .ok (.getfield 16, 3) := by decide +kernel
theorem dX2_clear_11 : decode cX2_clear 11 = .ok (.iload_n 1, 1) := by decide +kernel
theorem dX2_clear_12 : decode cX2_clear 12 = .ok (.dconst 0, 1) := by decide +kernel
theorem dX2_clear_13 : decode cX2_clear 13 = .ok (.dastore, 1) := by decide +kernel
theorem dX2_clear_14 : decode cX2_clear 14 = .ok (.iconst 0, 1) := by decide +kernel
theorem dX2_clear_15 : decode cX2_clear 15 = .ok (.istore_n 2, 1) := by decide +kernel
theorem dX2_clear_16 : decode cX2_clear 16 = .ok (.iload_n 2, 1) := by decide +kernel
theorem dX2_clear_17 : decode cX2_clear 17 = .ok (.iconst 3, 1) := by decide +kernel
theorem dX2_clear_18 : decode cX2_clear 18 = .ok (.if_icmp .ge 18, 3) := by decide +kernel
theorem dX2_clear_21 : decode cX2_clear 21 = .ok (.aload_n 0, 1) := by decide +kernel
theorem dX2_clear_22 : decode cX2_clear 22 = .ok (.getfield 11, 3) := by decide +kernel
theorem dX2_clear_25 : decode cX2_clear 25 = .ok (.iload_n 1, 1) := by decide +kernel
theorem dX2_clear_26 : decode cX2_clear 26 = .ok (.aaload, 1) := by decide +kernel
theorem dX2_clear_27 : decode cX2_clear 27 = .ok (.iload_n 2, 1) := by decide +kernel
theorem dX2_clear_28 : decode cX2_clear 28 = .ok (.dconst 0, 1) := by decide +kernel
theorem dX2_clear_29 : decode cX2_clear 29 = .ok (.dastore, 1) := by decide +kernel
theorem dX2_clear_30 : decode cX2_clear 30 = .ok (.iinc 2 1, 3) := by decide +kernel
theorem dX2_clear_33 : decode cX2_clear 33 = .ok (.goto (-17), 3) := by decide +kernel
theorem dX2_clear_36 : decode cX2_clear 36 = .ok (.iinc 1 1, 3) := by decide +kernel
theorem dX2_clear_39 : decode cX2_clear 39 = .ok (.goto (-37), 3) := by decide +kernel
theorem dX2_clear_42 : decode cX2_clear 42 = .ok (.return_, 1) := by decide +kernel
theorem dX2_add_0 : decode cX2_add 0 = .ok (.iconst 0, 1) := by decide +kernel
theorem dX2_add_1 : decode cX2_add 1 = .ok (.istore_n 2, 1) := by decide +kernel
theorem dX2_add_2 : decode cX2_add 2 = .ok (.iload_n 2, 1) := by decide +kernel
theorem dX2_add_3 : decode cX2_add 3 = .ok (.iconst 3, 1) := by decide +kernel
theorem dX2_add_4 : decode cX2_add 4 = .ok (.if_icmp .ge 73, 3) := by decide +kernel
theorem dX2_add_7 : decode cX2_add 7 = .ok (.aload_n 0, 1) := by decide +kernel
theorem dX2_add_8 : decode cX2_add 8 = .ok (.getfield 16, 3) := by decide +kernel
theorem dX2_add_11 : decode cX2_add 11 = .ok (.iload_n 2, 1) := by decide +kernel
theorem dX2_add_12 : decode cX2_add 12 = .ok (.aload_n 0, 1) := by decide +kernel
theorem dX2_add_13 : decode cX2_add 13 = .ok (.getfield 16, 3) := by decide +kernel
theorem dX2_add_16 : decode cX2_add 16 = .ok (.iload_n 2, 1) := by decide +kernel
theorem dX2_add_17 : decode cX2_add 17 = .ok (.daload, 1) := by decide +kernel
theorem dX2_add_18 : decode cX2_add 18 = .ok (.aload_n 1, 1) := by decide +kernel
theorem dX2_add_19 : decode cX2_add 19 = .ok (.iload_n 2, 1) := by decide +kernel
theorem dX2_add_20 : decode cX2_add 20 = .ok (.invokevirtual 43, 3) := by decide +kernel
theorem dX2_add_23 : decode cX2_add 23 = .ok (.aload_n 1, 1) := by decide +kernel
theorem dX2_add_24 : decode cX2_add 24 = .ok (.getfield 47, 3) := by decide +kernel
theorem dX2_add_27 : decode cX2_add 27 = .ok (.dmul, 1) := by decide +kernel
theorem dX2_add_28 : decode cX2_add 28 = .ok (.dadd, 1) := by decide +kernel
theorem dX2_add_29 : decode cX2_add 29 = .ok (.dastore, 1) := by decide +kernel
theorem dX2_add_30 : decode cX2_add 30 = .ok (.iconst 0, 1) := by decide +kernel
theorem dX2_add_31 : decode cX2_add 31 = .ok (.istore_n 3, 1) := by decide +kernel
theorem dX2_add_32 : decode cX2_add 32 = .ok (.iload_n 3, 1) := by decide +kernel
theorem dX2_add_33 : decode cX2_add 33 = .ok (.iconst 3, 1) := by decide +kernel
theorem dX2_add_34 : decode cX2_add 34 = .ok (.if_icmp .ge 37, 3) := by decide +kernel
theorem dX2_add_37 : decode cX2_add 37 = .ok (.aload_n 0, 1) := by decide +kernel
theorem dX2_add_38 : decode cX2_add 38 = .ok (.getfield 11, 3) := by decide +kernel
theorem dX2_add_41 : decode cX2_add 41 = .ok (.iload_n 2, 1) := by decide +kernel
theorem dX2_add_42 : decode cX2_add 42 = .ok (.aaload, 1) := by decide +kernel
theorem dX2_add_43 : decode cX2_add 43 = .ok (.iload_n 3, 1) := by decide +kernel
theorem dX2_add_44 : decode cX2_add 44 = .ok (.aload_n 0, 1) := by decide +kernel
theorem dX2_add_45 : decode cX2_add 45 = .ok (.getfield 11, 3) := by decide +kernel
theorem dX2_add_48 : decode cX2_add 48 = .ok (.iload_n 2, 1) := by decide +kernel
theorem dX2_add_49 : decode cX2_add 49 = .ok (.aaload, 1) := by decide +kernel
theorem dX2_add_50 : decode cX2_add 50 = .ok (.iload_n 3, 1) := by decide +kernel
theorem dX2_add_51 : decode cX2_add 51 = .ok (.daload, 1) := by decide +kernel
theorem dX2_add_52 : decode cX2_add 52 = .ok (.aload_n 1, 1) := by decide +kernel
theorem dX2_add_53 : decode cX2_add 53 = .ok (.iload_n 2, 1) := by decide +kernel
theorem dX2_add_54 : decode cX2_add 54 = .ok (.invokevirtual 43, 3) := by decide +kernel
theorem dX2_add_57 : decode cX2_add 57 = .ok (.aload_n 1, 1) := by decide +kernel
theorem dX2_add_58 : decode cX2_add 58 = .ok (.iload_n 3, 1) := by decide +kernel
theorem dX2_add_59 : decode cX2_add 59 = .ok (.invokevirtual 43, 3) := by decide +kernel
theorem dX2_add_62 : decode cX2_add 62 = .ok (.dmul, 1) := by decide +kernel
theorem dX2_add_63 : decode cX2_add 63 = .ok (.dadd, 1) := by decide +kernel
theorem dX2_add_64 : decode cX2_add 64 = .ok (.dastore, 1) := by decide +kernel
theorem dX2_add_65 : decode cX2_add 65 = .ok (.iinc 3 1, 3) := by decide +kernel
theorem dX2_add_68 : decode cX2_add 68 = .ok (.goto (-36), 3) := by decide +kernel
theorem dX2_add_71 : decode cX2_add 71 = .ok (.iinc 2 1, 3) := by decide +kernel
theorem dX2_add_74 : decode cX2_add 74 = .ok (.goto (-72), 3) := by decide +kernel
theorem dX2_add_77 : decode cX2_add 77 = .ok (.return_, 1) := by decide +kernel
theorem dX2_eliminate_0 : decode cX2_eliminate 0 = .ok (.iconst 0, 1) := by decide +kernel
theorem dX2_eliminate_1 : decode cX2_eliminate 1 = .ok (.istore_n 1, 1) := by decide +kernel
theorem dX2_eliminate_2 : decode cX2_eliminate 2 = .ok (.iconst 0, 1) := by decide +kernel
theorem dX2_eliminate_3 : decode cX2_eliminate 3 = .ok (.istore_n 2, 1) := by decide +kernel
theorem dX2_eliminate_4 : decode cX2_eliminate 4 = .ok (.iload_n 2, 1) := by decide +kernel
theorem dX2_eliminate_5 : decode cX2_eliminate 5 = .ok (.iconst 3, 1) := by decide +kernel
theorem dX2_eliminate_6 : decode cX2_eliminate 6 = .ok (.if_icmp .ge 58, 3) := by decide +kernel
theorem dX2_eliminate_9 : decode cX2_eliminate 9 = .ok (.aload_n 0, 1) := by decide +kernel
theorem dX2_eliminate_10 : decode cX2_eliminate 10 = .ok (.iload_n 2, 1) := by decide +kernel
theorem dX2_eliminate_11 : decode cX2_eliminate 11 = .ok (.invokevirtual 51, 3) := by decide +kernel
theorem dX2_eliminate_14 : decode cX2_eliminate 14 = .ok (.ifCond .ne 44, 3) := by decide +kernel
theorem dX2_eliminate_17 : decode cX2_eliminate 17 = .ok (.iinc 1 1, 3) := by decide +kernel
theorem dX2_eliminate_20 : decode cX2_eliminate 20 = .ok (.iload_n 2, 1) := by decide +kernel
theorem dX2_eliminate_21 : decode cX2_eliminate 21 = .ok (.iconst 1, 1) := by decide +kernel
theorem dX2_eliminate_22 : decode cX2_eliminate 22 = .ok (.iadd, 1) := by decide +kernel
theorem dX2_eliminate_23 : decode cX2_eliminate 23 = .ok (.istore_n 3, 1) := by decide +kernel
theorem dX2_eliminate_24 : decode cX2_eliminate 24 = .ok (.iload_n 3, 1) := by decide +kernel
theorem dX2_eliminate_25 : decode cX2_eliminate 25 = .ok (.iconst 3, 1) := by decide +kernel
theorem dX2_eliminate_26 : decode cX2_eliminate 26 = .ok (.if_icmp .ge 32, 3) := by decide +kernel
theorem dX2_eliminate_29 : decode cX2_eliminate 29 = .ok (.aload_n 0, 1) := by decide +kernel
theorem dX2_eliminate_30 : decode cX2_eliminate 30 = .ok (.iload_n 3, 1) := by decide +kernel
theorem dX2_eliminate_31 : decode cX2_eliminate 31 = .ok (.iload_n 2, 1) := by decide +kernel
theorem dX2_eliminate_32 : decode cX2_eliminate 32 = .ok (.aload_n 0, 1) := by decide +kernel
theorem dX2_eliminate_33 : decode cX2_eliminate 33 = .ok (.getfield 11, 3) := by decide +kernel
theorem dX2_eliminate_36 : decode cX2_eliminate 36 = .ok (.iload_n 3, 1) := by decide +kernel
theorem dX2_eliminate_37 : decode cX2_eliminate 37 = .ok (.aaload, 1) := by decide +kernel
theorem dX2_eliminate_38 : decode cX2_eliminate 38 = .ok (.iload_n 2, 1) := by decide +kernel
theorem dX2_eliminate_39 : decode cX2_eliminate 39 = .ok (.daload, 1) := by decide +kernel
theorem dX2_eliminate_40 : decode cX2_eliminate 40 = .ok (.aload_n 0, 1) := by decide +kernel
theorem dX2_eliminate_41 : decode cX2_eliminate 41 = .ok (.getfield 11, 3) := by decide +kernel
theorem dX2_eliminate_44 : decode cX2_eliminate 44 = .ok (.iload_n 2, 1) := by decide +kernel
theorem dX2_eliminate_45 : decode cX2_eliminate 45 = .ok (.aaload, 1) := by decide +kernel
theorem dX2_eliminate_46 : decode cX2_eliminate 46 = .ok (.iload_n 2, 1) := by decide +kernel
theorem dX2_eliminate_47 : decode cX2_eliminate 47 = .ok (.daload, 1) := by decide +kernel
theorem dX2_eliminate_48 : decode cX2_eliminate 48 = .ok (.ddiv, 1) := by decide +kernel
theorem dX2_eliminate_49 : decode cX2_eliminate 49 = .ok (.invokevirtual 55, 3) := by decide +kernel
theorem dX2_eliminate_52 : decode cX2_eliminate 52 = .ok (.iinc 3 1, 3) := by decide +kernel
theorem dX2_eliminate_55 : decode cX2_eliminate 55 = .ok (.goto (-31), 3) := by decide +kernel
theorem dX2_eliminate_58 : decode cX2_eliminate 58 = .ok (.iinc 2 1, 3) := by decide +kernel
theorem dX2_eliminate_61 : decode cX2_eliminate 61 = .ok (.goto (-57), 3) := by decide +kernel
theorem dX2_eliminate_64 : decode cX2_eliminate 64 = .ok (.iload_n 1, 1) := by decide +kernel
theorem dX2_eliminate_65 : decode cX2_eliminate 65 = .ok (.ireturn, 1) := by decide +kernel
theorem dX2_lessen_0 : decode cX2_lessen 0 = .ok (.iload_n 2, 1) := by decide +kernel
theorem dX2_lessen_1 : decode cX2_lessen 1 = .ok (.istore 5, 2) := by decide +kernel
theorem dX2_lessen_3 : decode cX2_lessen 3 = .ok (.iload 5, 2) := by decide +kernel
theorem dX2_lessen_5 : decode cX2_lessen 5 = .ok (.iconst 3, 1) := by decide +kernel
theorem dX2_lessen_6 : decode cX2_lessen 6 = .ok (.if_icmp .ge 39, 3) := by decide +kernel
theorem dX2_lessen_9 : decode cX2_lessen 9 = .ok (.aload_n 0, 1) := by decide +kernel
theorem dX2_lessen_10 : decode cX2_lessen 10 = .ok (.getfield 11, 3) := by decide +kernel
theorem dX2_lessen_13 : decode cX2_lessen 13 = .ok (.iload_n 1, 1) := by decide +kernel
theorem dX2_lessen_14 : decode cX2_lessen 14 = .ok (.aaload, 1) := by decide +kernel
theorem dX2_lessen_15 : decode cX2_lessen 15 = .ok (.iload 5, 2) := by decide +kernel
theorem dX2_lessen_17 : decode cX2_lessen 17 = .ok (.aload_n 0, 1) := by decide +kernel
theorem dX2_lessen_18 : decode cX2_lessen 18 = .ok (.getfield 11, 3) := by decide +kernel
theorem dX2_lessen_21 : decode cX2_lessen 21 = .ok (.iload_n 1, 1) := by decide +kernel
theorem dX2_lessen_22 : decode cX2_lessen 22 = .ok (.aaload, 1) := by decide +kernel
theorem dX2_lessen_23 : decode cX2_lessen 23 = .ok (.iload 5, 2) := by decide +kernel
theorem dX2_lessen_25 : decode cX2_lessen 25 = .ok (.daload, 1) := by decide +kernel
theorem dX2_lessen_26 : decode cX2_lessen 26 = .ok (.dload_n 3, 1) := by decide +kernel
theorem dX2_lessen_27 : decode cX2_lessen 27 = .ok (.aload_n 0, 1) := by decide +kernel
theorem dX2_lessen_28 : decode cX2_lessen 28 = .ok (.getfield 11, 3) := by decide +kernel
theorem dX2_lessen_31 : decode cX2_lessen 31 = .ok (.iload_n 2, 1) := by decide +kernel
theorem dX2_lessen_32 : decode cX2_lessen 32 = .ok (.aaload, 1) := by decide +kernel
theorem dX2_lessen_33 : decode cX2_lessen 33 = .ok (.iload 5, 2) := by decide +kernel
theorem dX2_lessen_35 : decode cX2_lessen 35 = .ok (.daload, 1) := by decide +kernel
theorem dX2_lessen_36 : decode cX2_lessen 36 = .ok (.dmul, 1) := by decide +kernel
theorem dX2_lessen_37 : decode cX2_lessen 37 = .ok (.dsub, 1) := by decide +kernel
theorem dX2_lessen_38 : decode cX2_lessen 38 = .ok (.dastore, 1) := by decide +kernel
theorem dX2_lessen_39 : decode cX2_lessen 39 = .ok (.iinc 5 1, 3) := by decide +kernel
theorem dX2_lessen_42 : decode cX2_lessen 42 = .ok (.goto (-39), 3) := by decide +kernel
theorem dX2_lessen_45 : decode cX2_lessen 45 = .ok (.aload_n 0, 1) := by decide +kernel
theorem dX2_lessen_46 : decode cX2_lessen 46 = .ok (.getfield 16, 3) := by decide +kernel
theorem dX2_lessen_49 : decode cX2_lessen 49 = .ok (.iload_n 1, 1) := by decide +kernel
theorem dX2_lessen_50 : decode cX2_lessen 50 = .ok (.aload_n 0, 1) := by decide +kernel
theorem dX2_lessen_51 : decode cX2_lessen 51 = .ok (.getfield 16, 3) := by decide +kernel
theorem dX2_lessen_54 : decode cX2_lessen 54 = .ok (.iload_n 1, 1) := by decide +kernel
theorem dX2_lessen_55 : decode cX2_lessen 55 = .ok (.daload, 1) := by decide +kernel
theorem dX2_lessen_56 : decode cX2_lessen 56 = .ok (.dload_n 3, 1) := by decide +kernel
theorem dX2_lessen_57 : decode cX2_lessen 57 = .ok (.aload_n 0, 1) := by decide +kernel
theorem dX2_lessen_58 : decode cX2_lessen 58 = .ok (.getfield 16, 3) := by decide +kernel
theorem dX2_lessen_61 : decode cX2_lessen 61 = .ok (.iload_n 2, 1) := by decide +kernel
theorem dX2_lessen_62 : decode cX2_lessen 62 = .ok (.daload, 1) := by decide +kernel
theorem dX2_lessen_63 : decode cX2_lessen 63 = .ok (.dmul, 1) := by decide +kernel
theorem dX2_lessen_64 : decode cX2_lessen 64 = .ok (.dsub, 1) := by decide +kernel
theorem dX2_lessen_65 : decode cX2_lessen 65 = .ok (.dastore, 1) := by decide +kernel
theorem dX2_lessen_66 : decode cX2_lessen 66 = .ok (.return_, 1) := by decide +kernel
theorem dX2_substitute_0 : decode cX2_substitute 0 = .ok (.iconst 2, 1) := by decide +kernel
theorem dX2_substitute_1 : decode cX2_substitute 1 = .ok (.istore_n 1, 1) := by decide +kernel
theorem dX2_substitute_2 : decode cX2_substitute 2 = .ok (.iload_n 1, 1) := by decide +kernel
theorem dX2_substitute_3 : decode cX2_substitute 3 = .ok (.ifCond .lt 87, 3) := by decide +kernel
theorem dX2_substitute_6 : decode cX2_substitute 6 = .ok (.aload_n 0, 1) := by decide +kernel
theorem dX2_substitute_7 : decode cX2_substitute 7 = .ok (.iload_n 1, 1) := by decide +kernel
theorem dX2_substitute_8 : decode cX2_substitute 8 = .ok (.invokevirtual 51, 3) := by decide +kernel
theorem dX2_substitute_11 : decode cX2_substitute 11 = .ok (.ifCond .eq 13, 3) := by decide +kernel
theorem dX2_substitute_14 : decode cX2_substitute 14 = .ok (.aload_n 0, 1) := by decide +kernel
theorem dX2_substitute_15 : decode cX2_substitute 15 = .ok (.getfield 20, 3) := by decide +kernel
theorem dX2_substitute_18 : decode cX2_substitute 18 = .ok (.iload_n 1, 1) := by decide +kernel
theorem dX2_substitute_19 : decode cX2_substitute 19 = .ok (.dconst 0, 1) := by decide +kernel
theorem dX2_substitute_20 : decode cX2_substitute 20 = .ok (.dastore, 1) := by decide +kernel
theorem dX2_substitute_21 : decode cX2_substitute 21 = .ok (.goto 63, 3) := by decide +kernel
theorem dX2_substitute_24 : decode cX2_substitute 24 = .ok (.aload_n 0, 1) := by decide +kernel
theorem dX2_substitute_25 : decode cX2_substitute 25 = .ok (.getfield 16, 3) := by decide +kernel
theorem dX2_substitute_28 : decode cX2_substitute 28 = .ok (.iload_n 1, 1) := by decide +kernel
theorem dX2_substitute_29 : decode cX2_substitute 29 = .ok (.daload, 1) := by decide +kernel
theorem dX2_substitute_30 : decode cX2_substitute 30 = .ok (.dstore_n 2, 1) := by decide +kernel
theorem dX2_substitute_31 : decode cX2_substitute 31 = .ok (.iload_n 1, 1) := by decide +kernel
theorem dX2_substitute_32 : decode cX2_substitute 32 = .ok (.iconst 1, 1) := by decide +kernel
theorem dX2_substitute_33 : decode cX2_substitute 33 = .ok (.iadd, 1) := by decide +kernel
theorem dX2_substitute_34 : decode cX2_substitute 34 = .ok (.istore 4, 2) := by decide +kernel
theorem dX2_substitute_36 : decode cX2_substitute 36 = .ok (.iload 4, 2) := by decide +kernel
theorem dX2_substitute_38 : decode cX2_substitute 38 = .ok (.iconst 3, 1) := by decide +kernel
theorem dX2_substitute_39 : decode cX2_substitute 39 = .ok (.if_icmp .ge 29, 3) := by decide +kernel
theorem dX2_substitute_42 : decode cX2_substitute 42 = .ok (.dload_n 2, 1) := by decide +kernel
theorem dX2_substitute_43 : decode cX2_substitute 43 = .ok (.aload_n 0, 1) := by decide +kernel
theorem dX2_substitute_44 : decode cX2_substitute 44 = .ok (.getfield 11, 3) := by decide +kernel
theorem dX2_substitute_47 : decode cX2_substitute 47 = .ok (.iload_n 1, 1) := by decide +kernel
theorem dX2_substitute_48 : decode cX2_substitute 48 = .ok (.aaload, 1) := by decide +kernel
theorem dX2_substitute_49 : decode cX2_substitute 49 = .ok (.iload 4, 2) := by decide +kernel
theorem dX2_substitute_51 : decode cX2_substitute 51 = .ok (.daload, 1) := by decide +kernel
theorem dX2_substitute_52 : decode cX2_substitute 52 = .ok (.aload_n 0, 1) := by decide +kernel
theorem dX2_substitute_53 : decode cX2_substitute 53 = .ok (.getfield 20, 3) := by decide +kernel
theorem dX2_substitute_56 : decode cX2_substitute 56 = .ok (.iload 4, 2) := by decide +kernel
theorem dX2_substitute_58 : decode cX2_substitute 58 = .ok (.daload, 1) := by decide +kernel
theorem dX2_substitute_59 : decode cX2_substitute 59 = .ok (.dmul, 1) := by decide +kernel
theorem dX2_substitute_60 : decode cX2_substitute 60 = .ok (.dsub, 1) := by decide +kernel
theorem dX2_substitute_61 : decode cX2_substitute 61 = .ok (.dstore_n 2, 1) := by decide +kernel
theorem dX2_substitute_62 : decode cX2_substitute 62 = .ok (.iinc 4 1, 3) := by decide +kernel
theorem dX2_substitute_65 : decode cX2_substitute 65 = .ok (.goto (-29), 3) := by decide +kernel
theorem dX2_substitute_68 : decode cX2_substitute 68 = .ok (.aload_n 0, 1) := by decide +kernel
theorem dX2_substitute_69 : decode cX2_substitute 69 = .ok (.getfield 20, 3) := by decide +kernel
theorem dX2_substitute_72 : decode cX2_substitute 72 = .ok (.iload_n 1, 1) := by decide +kernel
theorem dX2_substitute_73 : decode cX2_substitute 73 = .ok (.dload_n 2, 1) := by decide +kernel
theorem dX2_substitute_74 : decode cX2_substitute 74 = .ok (.aload_n 0, 1) := by decide +kernel
theorem dX2_substitute_75 : decode cX2_substitute 75 = .ok (.getfield 11, 3) := by decide +kernel
theorem dX2_substitute_78 : decode cX2_substitute 78 = .ok (.iload_n 1, 1) := by decide +kernel
theorem dX2_substitute_79 : decode cX2_substitute 79 = .ok (.aaload, 1) := by decide +kernel
theorem dX2_substitute_80 : decode cX2_substitute 80 = .ok (.iload_n 1, 1) := by decide +kernel
theorem dX2_substitute_81 : decode cX2_substitute 81 = .ok (.daload, 1) := by decide +kernel
theorem dX2_substitute_82 : decode cX2_substitute 82 = .ok (.ddiv, 1) := by decide +kernel
theorem dX2_substitute_83 : decode cX2_substitute 83 = .ok (.dastore, 1) := by decide +kernel
theorem dX2_substitute_84 : decode cX2_substitute 84 = .ok (.iinc 1 (-1), 3) := by decide +kernel
theorem dX2_substitute_87 : decode cX2_substitute 87 = .ok (.goto (-85), 3) := by decide +kernel
theorem dX2_substitute_90 : decode cX2_substitute 90 = .ok (.return_, 1) := by decide +kernel
theorem dX2_isPassedOver_0 : decode cX2_isPassedOver 0 = .ok (.aload_n 0, 1) := by decide +kernel
theorem dX2_isPassedOver_1 : decode cX2_isPassedOver 1 = .ok (.getfield 11, 3) := by decide +kernel
theorem dX2_isPassedOver_4 : decode cX2_isPassedOver 4 = .ok (.iload_n 1, 1) := by decide +kernel
theorem dX2_isPassedOver_5 : decode cX2_isPassedOver 5 = .ok (.aaload, 1) := by decide +kernel
theorem dX2_isPassedOver_6 : decode cX2_isPassedOver 6 = .ok (.iload_n 1, 1) := by decide +kernel
theorem dX2_isPassedOver_7 : decode cX2_isPassedOver 7 = .ok (.daload, 1) := by decide +kernel
theorem dX2_isPassedOver_8 : decode cX2_isPassedOver 8 = .ok (.dstore_n 2, 1) := by decide +kernel
theorem dX2_isPassedOver_9 : decode cX2_isPassedOver 9 = .ok (.dload_n 2, 1) := by decide +kernel
theorem dX2_isPassedOver_10 : decode cX2_isPassedOver 10 = .ok (.dconst 0, 1) := by decide +kernel
theorem dX2_isPassedOver_11 : decode cX2_isPassedOver 11 = .ok (.dcmp .g, 1) := by decide +kernel
theorem dX2_isPassedOver_12 : decode cX2_isPassedOver 12 = .ok (.ifCond .ge 8, 3) := by decide +kernel
theorem dX2_isPassedOver_15 : decode cX2_isPassedOver 15 = .ok (.dload_n 2, 1) := by decide +kernel
theorem dX2_isPassedOver_16 : decode cX2_isPassedOver 16 = .ok (.dneg, 1) := by decide +kernel
theorem dX2_isPassedOver_17 : decode cX2_isPassedOver 17 = .ok (.goto 4, 3) := by decide +kernel
theorem dX2_isPassedOver_20 : decode cX2_isPassedOver 20 = .ok (.dload_n 2, 1) := by decide +kernel
theorem dX2_isPassedOver_21 : decode cX2_isPassedOver 21 = .ok (.dstore 4, 2) := by decide +kernel
theorem dX2_isPassedOver_23 : decode cX2_isPassedOver 23 = .ok (.dload 4, 2) := by decide +kernel
theorem dX2_isPassedOver_25 : decode cX2_isPassedOver 25 = .ok (.ldc2_w 59, 3) := by decide +kernel
theorem dX2_isPassedOver_28 : decode cX2_isPassedOver 28 = .ok (.dcmp .g, 1) := by decide +kernel
theorem dX2_isPassedOver_29 : decode cX2_isPassedOver 29 = .ok (.ifCond .ge 7, 3) := by decide +kernel
theorem dX2_isPassedOver_32 : decode cX2_isPassedOver 32 = .ok (.iconst 1, 1) := by decide +kernel
theorem dX2_isPassedOver_33 : decode cX2_isPassedOver 33 = .ok (.goto 4, 3) := by decide +kernel
theorem dX2_isPassedOver_36 : decode cX2_isPassedOver 36 = .ok (.iconst 0, 1) := by decide +kernel
theorem dX2_isPassedOver_37 : decode cX2_isPassedOver 37 = .ok (.ireturn, 1) := by decide +kernel
theorem dX3_init_0 : decode cX3_init 0 = .ok (.aload_n 0, 1) := by decide +kernel
theorem dX3_init_1 : decode cX3_init 1 = .ok (.invokespecial 3, 3) := by decide +kernel
theorem dX3_init_4 : decode cX3_init 4 = .ok (.aload_n 0, 1) := by decide +kernel
theorem dX3_init_5 : decode cX3_init 5 = .ok (.bipush 16, 2) := by decide +kernel
theorem dX3_init_7 : decode cX3_init 7 = .ok (.newarray .int, 2) := by decide +kernel
theorem dX3_init_9 : decode cX3_init 9 = .ok (.putfield 9, 3) := by decide +kernel
theorem dX3_init_12 : decode cX3_init 12 = .ok (.aload_n 0, 1) := by decide +kernel
theorem dX3_init_13 : decode cX3_init 13 = .ok (.bipush 16, 2) := by decide +kernel
theorem dX3_init_15 : decode cX3_init 15 = .ok (.newarray .double, 2) := by decide +kernel
theorem dX3_init_17 : decode cX3_init 17 = .ok (.putfield 15, 3) := by decide +kernel
theorem dX3_init_20 : decode cX3_init 20 = .ok (.aload_n 0, 1) := by decide +kernel
theorem dX3_init_21 : decode cX3_init 21 = .ok (.iconst (-1), 1) := by decide +kernel
theorem dX3_init_22 : decode cX3_init 22 = .ok (.putfield 19, 3) := by decide +kernel
theorem dX3_init_25 : decode cX3_init 25 = .ok (.return_, 1) := by decide +kernel
theorem dX3_isBehindLast_0 : decode cX3_isBehindLast 0 = .ok (.iload_n 1, 1) := by decide +kernel
theorem dX3_isBehindLast_1 : decode cX3_isBehindLast 1 = .ok (.aload_n 0, 1) := by decide +kernel
theorem dX3_isBehindLast_2 : decode cX3_isBehindLast 2 = .ok (.getfield 19, 3) := by decide +kernel
theorem dX3_isBehindLast_5 : decode cX3_isBehindLast 5 = .ok (.if_icmp .le 7, 3) := by decide +kernel
theorem dX3_isBehindLast_8 : decode cX3_isBehindLast 8 = .ok (.iconst 1, 1) := by decide +kernel
theorem dX3_isBehindLast_9 : decode cX3_isBehindLast 9 = .ok (.goto 4, 3) := by decide +kernel
theorem dX3_isBehindLast_12 : decode cX3_isBehindLast 12 = .ok (.iconst 0, 1) := by decide +kernel
theorem dX3_isBehindLast_13 : decode cX3_isBehindLast 13 = .ok (.ireturn, 1) := by decide +kernel
theorem dX3_isFull_0 : decode cX3_isFull 0 = .ok (.aload_n 0, 1) := by decide +kernel
theorem dX3_isFull_1 : decode cX3_isFull 1 = .ok (.getfield 23, 3) := by decide +kernel
theorem dX3_isFull_4 : decode cX3_isFull 4 = .ok (.bipush 16, 2) := by decide +kernel
theorem dX3_isFull_6 : decode cX3_isFull 6 = .ok (.if_icmp .lt 7, 3) := by decide +kernel
theorem dX3_isFull_9 : decode cX3_isFull 9 = .ok (.iconst 1, 1) := by decide +kernel
theorem dX3_isFull_10 : decode cX3_isFull 10 = .ok (.goto 4, 3) := by decide +kernel
theorem dX3_isFull_13 : decode cX3_isFull 13 = .ok (.iconst 0, 1) := by decide +kernel
theorem dX3_isFull_14 : decode cX3_isFull 14 = .ok (.ireturn, 1) := by decide +kernel
theorem dX3_append_0 : decode cX3_append 0 = .ok (.aload_n 0, 1) := by decide +kernel
theorem dX3_append_1 : decode cX3_append 1 = .ok (.getfield 9, 3) := by decide +kernel
theorem dX3_append_4 : decode cX3_append 4 = .ok (.aload_n 0, 1) := by decide +kernel
theorem dX3_append_5 : decode cX3_append 5 = .ok (.getfield 23, 3) := by decide +kernel
theorem dX3_append_8 : decode cX3_append 8 = .ok (.iload_n 1, 1) := by decide +kernel
theorem dX3_append_9 : decode cX3_append 9 = .ok (.iastore, 1) := by decide +kernel
theorem dX3_append_10 : decode cX3_append 10 = .ok (.aload_n 0, 1) := by decide +kernel
theorem dX3_append_11 : decode cX3_append 11 = .ok (.getfield 15, 3) := by decide +kernel
theorem dX3_append_14 : decode cX3_append 14 = .ok (.aload_n 0, 1) := by decide +kernel
theorem dX3_append_15 : decode cX3_append 15 = .ok (.getfield 23, 3) := by decide +kernel
theorem dX3_append_18 : decode cX3_append 18 = .ok (.dload_n 2, 1) := by decide +kernel
theorem dX3_append_19 : decode cX3_append 19 = .ok (.dastore, 1) := by decide +kernel
theorem dX3_append_20 : decode cX3_append 20 = .ok (.aload_n 0, 1) := by decide +kernel
theorem dX3_append_21 : decode cX3_append 21 = .ok (.iload_n 1, 1) := by decide +kernel
theorem dX3_append_22 : decode cX3_append 22 = .ok (.putfield 19, 3) := by decide +kernel
theorem dX3_append_25 : decode cX3_append 25 = .ok (.aload_n 0, 1) := by decide +kernel
theorem dX3_append_26 : decode cX3_append 26 = .ok (.dup, 1) := by decide +kernel
theorem dX3_append_27 : decode cX3_append 27 = .ok (.getfield 23, 3) := by decide +kernel
theorem dX3_append_30 : decode cX3_append 30 = .ok (.iconst 1, 1) := by decide +kernel
theorem dX3_append_31 : decode cX3_append 31 = .ok (.iadd, 1) := by decide +kernel
theorem dX3_append_32 : decode cX3_append 32 = .ok (.putfield 23, 3) := by decide +kernel
theorem dX3_append_35 : decode cX3_append 35 = .ok (.aload_n 0, 1) := by decide +kernel
theorem dX3_append_36 : decode cX3_append 36 = .ok (.getfield 23, 3) := by decide +kernel
theorem dX3_append_39 : decode cX3_append 39 = .ok (.ireturn, 1) := by decide +kernel
theorem dX3_valueAt_0 : decode cX3_valueAt 0 = .ok (.dconst 0, 1) := by decide +kernel
theorem dX3_valueAt_1 : decode cX3_valueAt 1 = .ok (.dstore_n 2, 1) := by decide +kernel
theorem dX3_valueAt_2 : decode cX3_valueAt 2 = .ok (.iconst 0, 1) := by decide +kernel
theorem dX3_valueAt_3 : decode cX3_valueAt 3 = .ok (.istore 4, 2) := by decide +kernel
theorem dX3_valueAt_5 : decode cX3_valueAt 5 = .ok (.iload 4, 2) := by decide +kernel
theorem dX3_valueAt_7 : decode cX3_valueAt 7 = .ok (.aload_n 0, 1) := by decide +kernel
theorem dX3_valueAt_8 : decode cX3_valueAt 8 = .ok (.getfield 23, 3) := by decide +kernel
theorem dX3_valueAt_11 : decode cX3_valueAt 11 = .ok (.if_icmp .ge 93, 3) := by decide +kernel
theorem dX3_valueAt_14 : decode cX3_valueAt 14 = .ok (.iload_n 1, 1) := by decide +kernel
theorem dX3_valueAt_15 : decode cX3_valueAt 15 = .ok (.aload_n 0, 1) := by decide +kernel
theorem dX3_valueAt_16 : decode cX3_valueAt 16 = .ok (.getfield 9, 3) := by decide +kernel
theorem dX3_valueAt_19 : decode cX3_valueAt 19 = .ok (.iload 4, 2) := by decide +kernel
theorem dX3_valueAt_21 : decode cX3_valueAt 21 = .ok (.iaload, 1) := by decide +kernel
theorem dX3_valueAt_22 : decode cX3_valueAt 22 = .ok (.if_icmp .eq 19, 3) := by decide +kernel
theorem dX3_valueAt_25 : decode cX3_valueAt 25 = .ok (.iload 4, 2) := by decide +kernel
theorem dX3_valueAt_27 : decode cX3_valueAt 27 = .ok (.ifCond .ne 22, 3) := by decide +kernel
theorem dX3_valueAt_30 : decode cX3_valueAt 30 = .ok (.iload_n 1, 1) := by decide +kernel
theorem dX3_valueAt_31 : decode cX3_valueAt 31 = .ok (.aload_n 0, 1) := by decide +kernel
theorem dX3_valueAt_32 : decode cX3_valueAt 32 = .ok (.getfield 9, 3) := by decide +kernel
theorem dX3_valueAt_35 : decode cX3_valueAt 35 = .ok (.iload 4, 2) := by decide +kernel
theorem dX3_valueAt_37 : decode cX3_valueAt 37 = .ok (.iaload, 1) := by decide +kernel
theorem dX3_valueAt_38 : decode cX3_valueAt 38 = .ok (.if_icmp .ge 11, 3) := by decide +kernel
theorem dX3_valueAt_41 : decode cX3_valueAt 41 = .ok (.aload_n 0, 1) := by decide +kernel
theorem dX3_valueAt_42 : decode cX3_valueAt 42 = .ok (.getfield 15, 3) := by decide +kernel
theorem dX3_valueAt_45 : decode cX3_valueAt 45 = .ok (.iload 4, 2) := by decide +kernel
theorem dX3_valueAt_47 : decode cX3_valueAt 47 = .ok (.daload, 1) := by decide +kernel
theorem dX3_valueAt_48 : decode cX3_valueAt 48 = .ok (.dreturn, 1) := by decide +kernel
theorem dX3_valueAt_49 : decode cX3_valueAt 49 = .ok (.iload 4, 2) := by decide +kernel
theorem dX3_valueAt_51 : decode cX3_valueAt 51 = .ok (.ifCond .le 39, 3) := by decide +kernel
theorem dX3_valueAt_54 : decode cX3_valueAt 54 = .ok (.aload_n 0, 1) := by decide +kernel
theorem dX3_valueAt_55 : decode cX3_valueAt 55 = .ok (.getfield 9, 3) := by decide +kernel
theorem dX3_valueAt_58 : decode cX3_valueAt 58 = .ok (.iload 4, 2) := by decide +kernel
theorem dX3_valueAt_60 : decode cX3_valueAt 60 = .ok (.iconst 1, 1) := by decide +kernel
theorem dX3_valueAt_61 : decode cX3_valueAt 61 = .ok (.isub, 1) := by decide +kernel
theorem dX3_valueAt_62 : decode cX3_valueAt 62 = .ok (.iaload, 1) := by decide +kernel
theorem dX3_valueAt_63 : decode cX3_valueAt 63 = .ok (.iload_n 1, 1) := by decide +kernel
theorem dX3_valueAt_64 : decode cX3_valueAt 64 = .ok (.if_icmp .ge 26, 3) := by decide +kernel
theorem dX3_valueAt_67 : decode cX3_valueAt 67 = .ok (.iload_n 1, 1) := by decide +kernel
theorem dX3_valueAt_68 : decode cX3_valueAt 68 = .ok (.aload_n 0, 1) := by decide +kernel
theorem dX3_valueAt_69 : decode cX3_valueAt 69 = .ok (.getfield 9, 3) := by decide +kernel
theorem dX3_valueAt_72 : decode cX3_valueAt 72 = .ok (.iload 4, 2) := by decide +kernel
theorem dX3_valueAt_74 : decode cX3_valueAt 74 = .ok (.iaload, 1) := by decide +kernel
theorem dX3_valueAt_75 : decode cX3_valueAt 75 = .ok (.if_icmp .ge 15, 3) := by decide +kernel
theorem dX3_valueAt_78 : decode cX3_valueAt 78 = .ok (.aload_n 0, 1) := by decide +kernel
theorem dX3_valueAt_79 : decode cX3_valueAt 79 = .ok (.iload 4, 2) := by decide +kernel
theorem dX3_valueAt_81 : decode cX3_valueAt 81 = .ok (.iconst 1, 1) := by decide +kernel
theorem dX3_valueAt_82 : decode cX3_valueAt 82 = .ok (.isub, 1) := by decide +kernel
theorem dX3_valueAt_83 : decode cX3_valueAt 83 = .ok (.iload 4, 2) := by decide +kernel
theorem dX3_valueAt_85 : decode cX3_valueAt 85 = .ok (.iload_n 1, 1) := by decide +kernel
theorem dX3_valueAt_86 : decode cX3_valueAt 86 = .ok (.invokevirtual 26, 3) := by decide +kernel
theorem dX3_valueAt_89 : decode cX3_valueAt 89 = .ok (.dreturn, 1) := by decide +kernel
theorem dX3_valueAt_90 : decode cX3_valueAt 90 = .ok (.aload_n 0, 1) := by decide +kernel
theorem dX3_valueAt_91 : decode cX3_valueAt 91 = .ok (.getfield 15, 3) := by decide +kernel
theorem dX3_valueAt_94 : decode cX3_valueAt 94 = .ok (.iload 4, 2) := by decide +kernel
theorem dX3_valueAt_96 : decode cX3_valueAt 96 = .ok (.daload, 1) := by decide +kernel
theorem dX3_valueAt_97 : decode cX3_valueAt 97 = .ok (.dstore_n 2, 1) := by decide +kernel
theorem dX3_valueAt_98 : decode cX3_valueAt 98 = .ok (.iinc 4 1, 3) := by decide +kernel
theorem dX3_valueAt_101 : decode cX3_valueAt 101 = .ok (.goto (-96), 3) := by decide +kernel
theorem dX3_valueAt_104 : decode cX3_valueAt 104 = .ok (.dload_n 2, 1) := by decide +kernel
theorem dX3_valueAt_105 : decode cX3_valueAt 105 = .ok (.dreturn, 1) := by decide +kernel
theorem dX3_between_0 : decode cX3_between 0 = .ok (.iload_n 3, 1) := by decide +kernel
theorem dX3_between_1 : decode cX3_between 1 = .ok (.aload_n 0, 1) := by decide +kernel
theorem dX3_between_2 : decode cX3_between 2 = .ok (.getfield 9, 3) := by decide +kernel
theorem dX3_between_5 : decode cX3_between 5 = .ok (.iload_n 1, 1) := by decide +kernel
theorem dX3_between_6 : decode cX3_between 6 = .ok (.iaload, 1) := by decide +kernel
theorem dX3_between_7 : decode cX3_between 7 = .ok (.isub, 1) := by decide +kernel
theorem dX3_between_8 : decode cX3_between 8 = .ok (.i2d, 1) := by decide +kernel
theorem dX3_between_9 : decode cX3_between 9 = .ok (.dstore 4, 2) := by decide +kernel
theorem dX3_between_11 : decode cX3_between 11 = .ok (.aload_n 0, 1) := by decide +kernel
theorem dX3_between_12 : decode cX3_between 12 = .ok (.getfield 9, 3) := by decide +kernel
theorem dX3_between_15 : decode cX3_between 15 = .ok (.iload_n 2, 1) := by decide +kernel
theorem dX3_between_16 : decode cX3_between 16 = .ok (.iaload, 1) := by decide +kernel
theorem dX3_between_17 : decode cX3_between 17 = .ok (.aload_n 0, 1) := by decide +kernel
theorem dX3_between_18 : decode cX3_between 18 = .ok (.getfield 9, 3) := by decide +kernel
theorem dX3_between_21 : decode cX3_between 21 = .ok (.iload_n 1, 1) := by decide +kernel
theorem dX3_between_22 : decode cX3_between 22 = .ok (.iaload, 1) := by decide +kernel
theorem dX3_between_23 : decode cX3_between 23 = .ok (.isub, 1) := by decide +kernel
theorem dX3_between_24 : decode cX3_between 24 = .ok (.i2d, 1) := by decide +kernel
theorem dX3_between_25 : decode cX3_between 25 = .ok (.dstore 6, 2) := by decide +kernel
theorem dX3_between_27 : decode cX3_between 27 = .ok (.aload_n 0, 1) := by decide +kernel
theorem dX3_between_28 : decode cX3_between 28 = .ok (.getfield 15, 3) := by decide +kernel
theorem dX3_between_31 : decode cX3_between 31 = .ok (.iload_n 1, 1) := by decide +kernel
theorem dX3_between_32 : decode cX3_between 32 = .ok (.daload, 1) := by decide +kernel
theorem dX3_between_33 : decode cX3_between 33 = .ok (.dload 4, 2) := by decide +kernel
theorem dX3_between_35 : decode cX3_between 35 = .ok (.aload_n 0, 1) := by decide +kernel
theorem dX3_between_36 : decode cX3_between 36 = .ok (.getfield 15, 3) := by decide +kernel
theorem dX3_between_39 : decode cX3_between 39 = .ok (.iload_n 2, 1) := by decide +kernel
theorem dX3_between_40 : decode cX3_between 40 = .ok (.daload, 1) := by decide +kernel
theorem dX3_between_41 : decode cX3_between 41 = .ok (.aload_n 0, 1) := by decide +kernel
theorem dX3_between_42 : decode cX3_between 42 = .ok (.getfield 15, 3) := by decide +kernel
theorem dX3_between_45 : decode cX3_between 45 = .ok (.iload_n 1, 1) := by decide +kernel
theorem dX3_between_46 : decode cX3_between 46 = .ok (.daload, 1) := by decide +kernel
theorem dX3_between_47 : decode cX3_between 47 = .ok (.dsub, 1) := by decide +kernel
theorem dX3_between_48 : decode cX3_between 48 = .ok (.dmul, 1) := by decide +kernel
theorem dX3_between_49 : decode cX3_between 49 = .ok (.dload 6, 2) := by decide +kernel
theorem dX3_between_51 : decode cX3_between 51 = .ok (.ddiv, 1) := by decide +kernel
theorem dX3_between_52 : decode cX3_between 52 = .ok (.dadd, 1) := by decide +kernel
theorem dX3_between_53 : decode cX3_between 53 = .ok (.dreturn, 1) := by decide +kernel
theorem dX4_init_0 : decode cX4_init 0 = .ok (.aload_n 0, 1) := by decide +kernel
theorem dX4_init_1 : decode cX4_init 1 = .ok (.invokespecial 1, 3) := by decide +kernel
theorem dX4_init_4 : decode cX4_init 4 = .ok (.aload_n 0, 1) := by decide +kernel
theorem dX4_init_5 : decode cX4_init 5 = .ok (.iload_n 1, 1) := by decide +kernel
theorem dX4_init_6 : decode cX4_init 6 = .ok (.putfield 7, 3) := by decide +kernel
theorem dX4_init_9 : decode cX4_init 9 = .ok (.aload_n 0, 1) := by decide +kernel
theorem dX4_init_10 : decode cX4_init 10 = .ok (.bipush 32, 2) := by decide +kernel
theorem dX4_init_12 : decode cX4_init 12 = .ok (.anewarray 13, 3) := by decide +kernel
theorem dX4_init_15 : decode cX4_init 15 = .ok (.putfield 15, 3) := by decide +kernel
theorem dX4_init_18 : decode cX4_init 18 = .ok (.iconst 0, 1) := by decide +kernel
theorem dX4_init_19 : decode cX4_init 19 = .ok (.istore_n 2, 1) := by decide +kernel
theorem dX4_init_20 : decode cX4_init 20 = .ok (.iload_n 2, 1) := by decide +kernel
theorem dX4_init_21 : decode cX4_init 21 = .ok (.bipush 32, 2) := by decide +kernel
theorem dX4_init_23 : decode cX4_init 23 = .ok (.if_icmp .ge 22, 3) := by decide +kernel
theorem dX4_init_26 : decode cX4_init 26 = .ok (.aload_n 0, 1) := by decide +kernel
theorem dX4_init_27 : decode cX4_init 27 = .ok (.getfield 15, 3) := by decide +kernel
theorem dX4_init_30 : decode cX4_init 30 = .ok (.iload_n 2, 1) := by decide +kernel
theorem dX4_init_31 : decode cX4_init 31 = .ok (.new 13, 3) := by decide +kernel
theorem dX4_init_34 : decode cX4_init 34 = .ok (.dup, 1) := by decide +kernel
theorem dX4_init_35 : decode cX4_init 35 = .ok (.invokespecial 19, 3) := by decide +kernel
theorem dX4_init_38 : decode cX4_init 38 = .ok (.aastore, 1) := by decide +kernel
theorem dX4_init_39 : decode cX4_init 39 = .ok (.iinc 2 1, 3) := by decide +kernel
theorem dX4_init_42 : decode cX4_init 42 = .ok (.goto (-22), 3) := by decide +kernel
theorem dX4_init_45 : decode cX4_init 45 = .ok (.aload_n 0, 1) := by decide +kernel
theorem dX4_init_46 : decode cX4_init 46 = .ok (.new 20, 3) := by decide +kernel
theorem dX4_init_49 : decode cX4_init 49 = .ok (.dup, 1) := by decide +kernel
theorem dX4_init_50 : decode cX4_init 50 = .ok (.invokespecial 22, 3) := by decide +kernel
theorem dX4_init_53 : decode cX4_init 53 = .ok (.putfield 23, 3) := by decide +kernel
theorem dX4_init_56 : decode cX4_init 56 = .ok (.aload_n 0, 1) := by decide +kernel
theorem dX4_init_57 : decode cX4_init 57 = .ok (.new 20, 3) := by decide +kernel
theorem dX4_init_60 : decode cX4_init 60 = .ok (.dup, 1) := by decide +kernel
theorem dX4_init_61 : decode cX4_init 61 = .ok (.invokespecial 22, 3) := by decide +kernel
theorem dX4_init_64 : decode cX4_init 64 = .ok (.putfield 27, 3) := by decide +kernel
theorem dX4_init_67 : decode cX4_init 67 = .ok (.aload_n 0, 1) := by decide +kernel
theorem dX4_init_68 : decode cX4_init 68 = .ok (.iconst 4, 1) := by decide +kernel
theorem dX4_init_69 : decode cX4_init 69 = .ok (.newarray .double, 2) := by decide +kernel
theorem dX4_init_71 : decode cX4_init 71 = .ok (.putfield 30, 3) := by decide +kernel
theorem dX4_init_74 : decode cX4_init 74 = .ok (.iconst 0, 1) := by decide +kernel
theorem dX4_init_75 : decode cX4_init 75 = .ok (.istore_n 2, 1) := by decide +kernel
theorem dX4_init_76 : decode cX4_init 76 = .ok (.iload_n 2, 1) := by decide +kernel
theorem dX4_init_77 : decode cX4_init 77 = .ok (.iconst 4, 1) := by decide +kernel
theorem dX4_init_78 : decode cX4_init 78 = .ok (.if_icmp .ge 18, 3) := by decide +kernel
theorem dX4_init_81 : decode cX4_init 81 = .ok (.aload_n 0, 1) := by decide +kernel
theorem dX4_init_82 : decode cX4_init 82 = .ok (.getfield 30, 3) := by decide +kernel
theorem dX4_init_85 : decode cX4_init 85 = .ok (.iload_n 2, 1) := by decide +kernel
theorem dX4_init_86 : decode cX4_init 86 = .ok (.ldc2_w 34, 3) := by decide +kernel
theorem dX4_init_89 : decode cX4_init 89 = .ok (.dastore, 1) := by decide +kernel
theorem dX4_init_90 : decode cX4_init 90 = .ok (.iinc 2 1, 3) := by decide +kernel
theorem dX4_init_93 : decode cX4_init 93 = .ok (.goto (-17), 3) := by decide +kernel
theorem dX4_init_96 : decode cX4_init 96 = .ok (.aload_n 0, 1) := by decide +kernel
theorem dX4_init_97 : decode cX4_init 97 = .ok (.new 36, 3) := by decide +kernel
theorem dX4_init_100 : decode cX4_init 100 = .ok (.dup, 1) := by decide +kernel
theorem dX4_init_101 : decode cX4_init 101 = .ok (.invokespecial 38, 3) := by decide +kernel
theorem dX4_init_104 : decode cX4_init 104 = .ok (.putfield 39, 3) := by decide +kernel
theorem dX4_init_107 : decode cX4_init 107 = .ok (.aload_n 0, 1) := by decide +kernel
theorem dX4_init_108 : decode cX4_init 108 = .ok (.new 43, 3) := by decide +kernel
theorem dX4_init_111 : decode cX4_init 111 = .ok (.dup, 1) := by decide +kernel
theorem dX4_init_112 : decode cX4_init 112 = .ok (.invokespecial 45, 3) := by decide +kernel
theorem dX4_init_115 : decode cX4_init 115 = .ok (.putfield 46, 3) := by decide +kernel
theorem dX4_init_118 : decode cX4_init 118 = .ok (.return_, 1) := by decide +kernel
theorem dX4_board_0 : decode cX4_board 0 = .ok (.aload_n 0, 1) := by decide +kernel
theorem dX4_board_1 : decode cX4_board 1 = .ok (.getfield 50, 3) := by decide +kernel
theorem dX4_board_4 : decode cX4_board 4 = .ok (.bipush 32, 2) := by decide +kernel
theorem dX4_board_6 : decode cX4_board 6 = .ok (.if_icmp .lt 13, 3) := by decide +kernel
theorem dX4_board_9 : decode cX4_board 9 = .ok (.new 53, 3) := by decide +kernel
theorem dX4_board_12 : decode cX4_board 12 = .ok (.dup, 1) := by decide +kernel
theorem dX4_board_13 : decode cX4_board 13 = .ok (.ldc 55, 2) := by decide +kernel
theorem dX4_board_15 : decode cX4_board 15 = .ok (.invokespecial 57, 3) := by decide +kernel
theorem dX4_board_18 : decode cX4_board 18 = .ok (.athrow, 1) := by decide +kernel
theorem dX4_board_19 : decode cX4_board 19 = .ok (.aload_n 0, 1) := by decide +kernel
theorem dX4_board_20 : decode cX4_board 20 = .ok (.dup, 1) := by decide +kernel
theorem dX4_board_21 : decode cX4_board 21 = .ok (.getfield 50, 3) := by decide +kernel
theorem dX4_board_24 : decode cX4_board 24 = .ok (.iconst 1, 1) := by decide +kernel
theorem dX4_board_25 : decode cX4_board 25 = .ok (.iadd, 1) := by decide +kernel
theorem dX4_board_26 : decode cX4_board 26 = .ok (.putfield 50, 3) := by decide +kernel
theorem dX4_board_29 : decode cX4_board 29 = .ok (.aload_n 0, 1) := by decide +kernel
theorem dX4_board_30 : decode cX4_board 30 = .ok (.getfield 50, 3) := by decide +kernel
theorem dX4_board_33 : decode cX4_board 33 = .ok (.iconst 1, 1) := by decide +kernel
theorem dX4_board_34 : decode cX4_board 34 = .ok (.isub, 1) := by decide +kernel
theorem dX4_board_35 : decode cX4_board 35 = .ok (.ireturn, 1) := by decide +kernel
theorem dX4_row_0 : decode cX4_row 0 = .ok (.aload_n 0, 1) := by decide +kernel
theorem dX4_row_1 : decode cX4_row 1 = .ok (.iload_n 1, 1) := by decide +kernel
theorem dX4_row_2 : decode cX4_row 2 = .ok (.invokevirtual 60, 3) := by decide +kernel
theorem dX4_row_5 : decode cX4_row 5 = .ok (.astore 4, 2) := by decide +kernel
theorem dX4_row_7 : decode cX4_row 7 = .ok (.dload_n 2, 1) := by decide +kernel
theorem dX4_row_8 : decode cX4_row 8 = .ok (.iconst 0, 1) := by decide +kernel
theorem dX4_row_9 : decode cX4_row 9 = .ok (.sipush 1000, 3) := by decide +kernel
theorem dX4_row_12 : decode cX4_row 12 = .ok (.invokestatic 64, 3) := by decide +kernel
theorem dX4_row_15 : decode cX4_row 15 = .ok (.invokestatic 68, 3) := by decide +kernel
theorem dX4_row_18 : decode cX4_row 18 = .ok (.aload 4, 2) := by decide +kernel
theorem dX4_row_20 : decode cX4_row 20 = .ok (.getfield 72, 3) := by decide +kernel
theorem dX4_row_23 : decode cX4_row 23 = .ok (.bipush 8, 2) := by decide +kernel
theorem dX4_row_25 : decode cX4_row 25 = .ok (.if_icmp .lt 13, 3) := by decide +kernel
theorem dX4_row_28 : decode cX4_row 28 = .ok (.new 53, 3) := by decide +kernel
theorem dX4_row_31 : decode cX4_row 31 = .ok (.dup, 1) := by decide +kernel
theorem dX4_row_32 : decode cX4_row 32 = .ok (.ldc 75, 2) := by decide +kernel
theorem dX4_row_34 : decode cX4_row 34 = .ok (.invokespecial 57, 3) := by decide +kernel
theorem dX4_row_37 : decode cX4_row 37 = .ok (.athrow, 1) := by decide +kernel
theorem dX4_row_38 : decode cX4_row 38 = .ok (.aload 4, 2) := by decide +kernel
theorem dX4_row_40 : decode cX4_row 40 = .ok (.aload 4, 2) := by decide +kernel
theorem dX4_row_42 : decode cX4_row 42 = .ok (.getfield 77, 3) := by decide +kernel
theorem dX4_row_45 : decode cX4_row 45 = .ok (.dload_n 2, 1) := by decide +kernel
theorem dX4_row_46 : decode cX4_row 46 = .ok (.dadd, 1) := by decide +kernel
theorem dX4_row_47 : decode cX4_row 47 = .ok (.putfield 77, 3) := by decide +kernel
theorem dX4_row_50 : decode cX4_row 50 = .ok (.aload 4, 2) := by decide +kernel
theorem dX4_row_52 : decode cX4_row 52 = .ok (.dup, 1) := by decide +kernel
theorem dX4_row_53 : decode cX4_row 53 = .ok (.getfield 72, 3) := by decide +kernel
theorem dX4_row_56 : decode cX4_row 56 = .ok (.iconst 1, 1) := by decide +kernel
theorem dX4_row_57 : decode cX4_row 57 = .ok (.iadd, 1) := by decide +kernel
theorem dX4_row_58 : decode cX4_row 58 = .ok (.putfield 72, 3) := by decide +kernel
theorem dX4_row_61 : decode cX4_row 61 = .ok (.aload 4, 2) := by decide +kernel
theorem dX4_row_63 : decode cX4_row 63 = .ok (.getfield 72, 3) := by decide +kernel
theorem dX4_row_66 : decode cX4_row 66 = .ok (.ireturn, 1) := by decide +kernel
theorem dX4_echo_0 : decode cX4_echo 0 = .ok (.aload_n 0, 1) := by decide +kernel
theorem dX4_echo_1 : decode cX4_echo 1 = .ok (.iload_n 1, 1) := by decide +kernel
theorem dX4_echo_2 : decode cX4_echo 2 = .ok (.invokevirtual 60, 3) := by decide +kernel
theorem dX4_echo_5 : decode cX4_echo 5 = .ok (.astore 6, 2) := by decide +kernel
theorem dX4_echo_7 : decode cX4_echo 7 = .ok (.dload_n 2, 1) := by decide +kernel
theorem dX4_echo_8 : decode cX4_echo 8 = .ok (.iconst 0, 1) := by decide +kernel
theorem dX4_echo_9 : decode cX4_echo 9 = .ok (.bipush 100, 2) := by decide +kernel
theorem dX4_echo_11 : decode cX4_echo 11 = .ok (.invokestatic 64, 3) := by decide +kernel
theorem dX4_echo_14 : decode cX4_echo 14 = .ok (.ifCond .eq 18, 3) := by decide +kernel
theorem dX4_echo_17 : decode cX4_echo 17 = .ok (.dload 4, 2) := by decide +kernel
theorem dX4_echo_19 : decode cX4_echo 19 = .ok (.iconst 0, 1) := by decide +kernel
theorem dX4_echo_20 : decode cX4_echo 20 = .ok (.bipush 10, 2) := by decide +kernel
theorem dX4_echo_22 : decode cX4_echo 22 = .ok (.invokestatic 64, 3) := by decide +kernel
theorem dX4_echo_25 : decode cX4_echo 25 = .ok (.ifCond .eq 7, 3) := by decide +kernel
theorem dX4_echo_28 : decode cX4_echo 28 = .ok (.iconst 1, 1) := by decide +kernel
theorem dX4_echo_29 : decode cX4_echo 29 = .ok (.goto 4, 3) := by decide +kernel
theorem dX4_echo_32 : decode cX4_echo 32 = .ok (.iconst 0, 1) := by decide +kernel
theorem dX4_echo_33 : decode cX4_echo 33 = .ok (.invokestatic 68, 3) := by decide +kernel
theorem dX4_echo_36 : decode cX4_echo 36 = .ok (.aload 6, 2) := by decide +kernel
theorem dX4_echo_38 : decode cX4_echo 38 = .ok (.dload 4, 2) := by decide +kernel
theorem dX4_echo_40 : decode cX4_echo 40 = .ok (.dload_n 2, 1) := by decide +kernel
theorem dX4_echo_41 : decode cX4_echo 41 = .ok (.dmul, 1) := by decide +kernel
theorem dX4_echo_42 : decode cX4_echo 42 = .ok (.dload_n 2, 1) := by decide +kernel
theorem dX4_echo_43 : decode cX4_echo 43 = .ok (.dmul, 1) := by decide +kernel
theorem dX4_echo_44 : decode cX4_echo 44 = .ok (.putfield 81, 3) := by decide +kernel
theorem dX4_echo_47 : decode cX4_echo 47 = .ok (.return_, 1) := by decide +kernel
theorem dX4_knots_0 : decode cX4_knots 0 = .ok (.aload_n 0, 1) := by decide +kernel
theorem dX4_knots_1 : decode cX4_knots 1 = .ok (.iload_n 1, 1) := by decide +kernel
theorem dX4_knots_2 : decode cX4_knots 2 = .ok (.invokevirtual 60, 3) := by decide +kernel
theorem dX4_knots_5 : decode cX4_knots 5 = .ok (.astore 4, 2) := by decide +kernel
theorem dX4_knots_7 : decode cX4_knots 7 = .ok (.dload_n 2, 1) := by decide +kernel
theorem dX4_knots_8 : decode cX4_knots 8 = .ok (.iconst 0, 1) := by decide +kernel
theorem dX4_knots_9 : decode cX4_knots 9 = .ok (.iconst 1, 1) := by decide +kernel
theorem dX4_knots_10 : decode cX4_knots 10 = .ok (.invokestatic 64, 3) := by decide +kernel
theorem dX4_knots_13 : decode cX4_knots 13 = .ok (.invokestatic 68, 3) := by decide +kernel
theorem dX4_knots_16 : decode cX4_knots 16 = .ok (.aload 4, 2) := by decide +kernel
theorem dX4_knots_18 : decode cX4_knots 18 = .ok (.dload_n 2, 1) := by decide +kernel
theorem dX4_knots_19 : decode cX4_knots 19 = .ok (.putfield 84, 3) := by decide +kernel
theorem dX4_knots_22 : decode cX4_knots 22 = .ok (.return_, 1) := by decide +kernel
theorem dX4_broken_0 : decode cX4_broken 0 = .ok (.aload_n 0, 1) := by decide +kernel
theorem dX4_broken_1 : decode cX4_broken 1 = .ok (.iload_n 1, 1) := by decide +kernel
theorem dX4_broken_2 : decode cX4_broken 2 = .ok (.invokevirtual 60, 3) := by decide +kernel
theorem dX4_broken_5 : decode cX4_broken 5 = .ok (.astore 4, 2) := by decide +kernel
theorem dX4_broken_7 : decode cX4_broken 7 = .ok (.dload_n 2, 1) := by decide +kernel
theorem dX4_broken_8 : decode cX4_broken 8 = .ok (.iconst 0, 1) := by decide +kernel
theorem dX4_broken_9 : decode cX4_broken 9 = .ok (.sipush 1000, 3) := by decide +kernel
theorem dX4_broken_12 : decode cX4_broken 12 = .ok (.invokestatic 64, 3) := by decide +kernel
theorem dX4_broken_15 : decode cX4_broken 15 = .ok (.invokestatic 68, 3) := by decide +kernel
theorem dX4_broken_18 : decode cX4_broken 18 = .ok (.aload 4, 2) := by decide +kernel
theorem dX4_broken_20 : decode cX4_broken 20 = .ok (.getfield 87, 3) := by decide +kernel
theorem dX4_broken_23 : decode cX4_broken 23 = .ok (.ifCond .ne 11, 3) := by decide +kernel
theorem dX4_broken_26 : decode cX4_broken 26 = .ok (.aload 4, 2) := by decide +kernel
theorem dX4_broken_28 : decode cX4_broken 28 = .ok (.getfield 91, 3) := by decide +kernel
theorem dX4_broken_31 : decode cX4_broken 31 = .ok (.ifCond .eq 13, 3) := by decide +kernel
theorem dX4_broken_34 : decode cX4_broken 34 = .ok (.new 53, 3) := by decide +kernel
theorem dX4_broken_37 : decode cX4_broken 37 = .ok (.dup, 1) := by decide +kernel
theorem dX4_broken_38 : decode cX4_broken 38 = .ok (.ldc 94, 2) := by decide +kernel
theorem dX4_broken_40 : decode cX4_broken 40 = .ok (.invokespecial 57, 3) := by decide +kernel
theorem dX4_broken_43 : decode cX4_broken 43 = .ok (.athrow, 1) := by decide +kernel
theorem dX4_broken_44 : decode cX4_broken 44 = .ok (.aload 4, 2) := by decide +kernel
theorem dX4_broken_46 : decode cX4_broken 46 = .ok (.dload_n 2, 1) := by decide +kernel
theorem dX4_broken_47 : decode cX4_broken 47 = .ok (.putfield 96, 3) := by decide +kernel
theorem dX4_broken_50 : decode cX4_broken 50 = .ok (.aload 4, 2) := by decide +kernel
theorem dX4_broken_52 : decode cX4_broken 52 = .ok (.iconst 1, 1) := by decide +kernel
theorem dX4_broken_53 : decode cX4_broken 53 = .ok (.putfield 87, 3) := by decide +kernel
theorem dX4_broken_56 : decode cX4_broken 56 = .ok (.return_, 1) := by decide +kernel
theorem dX4_fit_0 : decode cX4_fit 0 = .ok (.aload_n 0, 1) := by decide +kernel
theorem dX4_fit_1 : decode cX4_fit 1 = .ok (.getfield 23, 3) := by decide +kernel
theorem dX4_fit_4 : decode cX4_fit 4 = .ok (.aload_n 0, 1) := by decide +kernel
theorem dX4_fit_5 : decode cX4_fit 5 = .ok (.getfield 15, 3) := by decide +kernel
theorem dX4_fit_8 : decode cX4_fit 8 = .ok (.aconst_null, 1) := by decide +kernel
theorem dX4_fit_9 : decode cX4_fit 9 = .ok (.invokevirtual 99, 3) := by decide +kernel
theorem dX4_fit_12 : decode cX4_fit 12 = .ok (.ireturn, 1) := by decide +kernel
theorem dX4_number_0 : decode cX4_number 0 = .ok (.iload_n 1, 1) := by decide +kernel
theorem dX4_number_1 : decode cX4_number 1 = .ok (.ifCond .lt 8, 3) := by decide +kernel
theorem dX4_number_4 : decode cX4_number 4 = .ok (.iload_n 1, 1) := by decide +kernel
theorem dX4_number_5 : decode cX4_number 5 = .ok (.iconst 3, 1) := by decide +kernel
theorem dX4_number_6 : decode cX4_number 6 = .ok (.if_icmp .lt 13, 3) := by decide +kernel
theorem dX4_number_9 : decode cX4_number 9 = .ok (.new 103, 3) := by decide +kernel
theorem dX4_number_12 : decode cX4_number 12 = .ok (.dup, 1) := by decide +kernel
theorem dX4_number_13 : decode cX4_number 13 = .ok (.ldc 105, 2) := by decide +kernel
theorem dX4_number_15 : decode cX4_number 15 = .ok (.invokespecial 107, 3) := by decide +kernel
theorem dX4_number_18 : decode cX4_number 18 = .ok (.athrow, 1) := by decide +kernel
theorem dX4_number_19 : decode cX4_number 19 = .ok (.aload_n 0, 1) := by decide +kernel
theorem dX4_number_20 : decode cX4_number 20 = .ok (.getfield 23, 3) := by decide +kernel
theorem dX4_number_23 : decode cX4_number 23 = .ok (.getfield 108, 3) := by decide +kernel
theorem dX4_number_26 : decode cX4_number 26 = .ok (.iload_n 1, 1) := by decide +kernel
theorem dX4_number_27 : decode cX4_number 27 = .ok (.daload, 1) := by decide +kernel
theorem dX4_number_28 : decode cX4_number 28 = .ok (.dreturn, 1) := by decide +kernel
theorem dX4_foretold_0 : decode cX4_foretold 0 = .ok (.aload_n 0, 1) := by decide +kernel
theorem dX4_foretold_1 : decode cX4_foretold 1 = .ok (.getfield 23, 3) := by decide +kernel
theorem dX4_foretold_4 : decode cX4_foretold 4 = .ok (.aload_n 0, 1) := by decide +kernel
theorem dX4_foretold_5 : decode cX4_foretold 5 = .ok (.iload_n 1, 1) := by decide +kernel
theorem dX4_foretold_6 : decode cX4_foretold 6 = .ok (.invokevirtual 111, 3) := by decide +kernel
theorem dX4_foretold_9 : decode cX4_foretold 9 = .ok (.invokevirtual 114, 3) := by decide +kernel
theorem dX4_foretold_12 : decode cX4_foretold 12 = .ok (.dreturn, 1) := by decide +kernel
theorem dX4_leftOut_0 : decode cX4_leftOut 0 = .ok (.aload_n 0, 1) := by decide +kernel
theorem dX4_leftOut_1 : decode cX4_leftOut 1 = .ok (.iload_n 1, 1) := by decide +kernel
theorem dX4_leftOut_2 : decode cX4_leftOut 2 = .ok (.invokevirtual 111, 3) := by decide +kernel
theorem dX4_leftOut_5 : decode cX4_leftOut 5 = .ok (.astore_n 2, 1) := by decide +kernel
theorem dX4_leftOut_6 : decode cX4_leftOut 6 = .ok (.aload_n 0, 1) := by decide +kernel
theorem dX4_leftOut_7 : decode cX4_leftOut 7 = .ok (.getfield 27, 3) := by decide +kernel
theorem dX4_leftOut_10 : decode cX4_leftOut 10 = .ok (.aload_n 0, 1) := by decide +kernel
theorem dX4_leftOut_11 : decode cX4_leftOut 11 = .ok (.getfield 15, 3) := by decide +kernel
theorem dX4_leftOut_14 : decode cX4_leftOut 14 = .ok (.aload_n 2, 1) := by decide +kernel
theorem dX4_leftOut_15 : decode cX4_leftOut 15 = .ok (.invokevirtual 99, 3) := by decide +kernel
theorem dX4_leftOut_18 : decode cX4_leftOut 18 = .ok (.pop, 1) := by decide +kernel
theorem dX4_leftOut_19 : decode cX4_leftOut 19 = .ok (.aload_n 0, 1) := by decide +kernel
theorem dX4_leftOut_20 : decode cX4_leftOut 20 = .ok (.getfield 27, 3) := by decide +kernel
theorem dX4_leftOut_23 : decode cX4_leftOut 23 = .ok (.aload_n 2, 1) := by decide +kernel
theorem dX4_leftOut_24 : decode cX4_leftOut 24 = .ok (.invokevirtual 114, 3) := by decide +kernel
theorem dX4_leftOut_27 : decode cX4_leftOut 27 = .ok (.dreturn, 1) := by decide +kernel
theorem dX4_limit_0 : decode cX4_limit 0 = .ok (.iload_n 1, 1) := by decide +kernel
theorem dX4_limit_1 : decode cX4_limit 1 = .ok (.invokestatic 118, 3) := by decide +kernel
theorem dX4_limit_4 : decode cX4_limit 4 = .ok (.dload_n 2, 1) := by decide +kernel
theorem dX4_limit_5 : decode cX4_limit 5 = .ok (.iconst 0, 1) := by decide +kernel
theorem dX4_limit_6 : decode cX4_limit 6 = .ok (.sipush 1000, 3) := by decide +kernel
theorem dX4_limit_9 : decode cX4_limit 9 = .ok (.invokestatic 64, 3) := by decide +kernel
theorem dX4_limit_12 : decode cX4_limit 12 = .ok (.invokestatic 68, 3) := by decide +kernel
theorem dX4_limit_15 : decode cX4_limit 15 = .ok (.aload_n 0, 1) := by decide +kernel
theorem dX4_limit_16 : decode cX4_limit 16 = .ok (.getfield 30, 3) := by decide +kernel
theorem dX4_limit_19 : decode cX4_limit 19 = .ok (.iload_n 1, 1) := by decide +kernel
theorem dX4_limit_20 : decode cX4_limit 20 = .ok (.dload_n 2, 1) := by decide +kernel
theorem dX4_limit_21 : decode cX4_limit 21 = .ok (.dastore, 1) := by decide +kernel
theorem dX4_limit_22 : decode cX4_limit 22 = .ok (.return_, 1) := by decide +kernel
theorem dX4_setting_0 : decode cX4_setting 0 = .ok (.iload_n 1, 1) := by decide +kernel
theorem dX4_setting_1 : decode cX4_setting 1 = .ok (.invokestatic 118, 3) := by decide +kernel
theorem dX4_setting_4 : decode cX4_setting 4 = .ok (.iload_n 2, 1) := by decide +kernel
theorem dX4_setting_5 : decode cX4_setting 5 = .ok (.iload_n 3, 1) := by decide +kernel
theorem dX4_setting_6 : decode cX4_setting 6 = .ok (.sipush 1000, 3) := by decide +kernel
theorem dX4_setting_9 : decode cX4_setting 9 = .ok (.invokestatic 122, 3) := by decide +kernel
theorem dX4_setting_12 : decode cX4_setting 12 = .ok (.invokestatic 68, 3) := by decide +kernel
theorem dX4_setting_15 : decode cX4_setting 15 = .ok (.aload_n 0, 1) := by decide +kernel
theorem dX4_setting_16 : decode cX4_setting 16 = .ok (.invokevirtual 126, 3) := by decide +kernel
theorem dX4_setting_19 : decode cX4_setting 19 = .ok (.iconst 0, 1) := by decide +kernel
theorem dX4_setting_20 : decode cX4_setting 20 = .ok (.istore 4, 2) := by decide +kernel
theorem dX4_setting_22 : decode cX4_setting 22 = .ok (.iload 4, 2) := by decide +kernel
theorem dX4_setting_24 : decode cX4_setting 24 = .ok (.sipush 200, 3) := by decide +kernel
theorem dX4_setting_27 : decode cX4_setting 27 = .ok (.if_icmp .gt 34, 3) := by decide +kernel
theorem dX4_setting_30 : decode cX4_setting 30 = .ok (.aload_n 0, 1) := by decide +kernel
theorem dX4_setting_31 : decode cX4_setting 31 = .ok (.iload 4, 2) := by decide +kernel
theorem dX4_setting_33 : decode cX4_setting 33 = .ok (.i2d, 1) := by decide +kernel
theorem dX4_setting_34 : decode cX4_setting 34 = .ok (.ldc2_w 129, 3) := by decide +kernel
theorem dX4_setting_37 : decode cX4_setting 37 = .ok (.ddiv, 1) := by decide +kernel
theorem dX4_setting_38 : decode cX4_setting 38 = .ok (.aload_n 0, 1) := by decide +kernel
theorem dX4_setting_39 : decode cX4_setting 39 = .ok (.getfield 30, 3) := by decide +kernel
theorem dX4_setting_42 : decode cX4_setting 42 = .ok (.iload_n 1, 1) := by decide +kernel
theorem dX4_setting_43 : decode cX4_setting 43 = .ok (.daload, 1) := by decide +kernel
theorem dX4_setting_44 : decode cX4_setting 44 = .ok (.iload_n 2, 1) := by decide +kernel
theorem dX4_setting_45 : decode cX4_setting 45 = .ok (.iload_n 3, 1) := by decide +kernel
theorem dX4_setting_46 : decode cX4_setting 46 = .ok (.invokevirtual 131, 3) := by decide +kernel
theorem dX4_setting_49 : decode cX4_setting 49 = .ok (.ifCond .eq 6, 3) := by decide +kernel
theorem dX4_setting_52 : decode cX4_setting 52 = .ok (.iload 4, 2) := by decide +kernel
theorem dX4_setting_54 : decode cX4_setting 54 = .ok (.ireturn, 1) := by decide +kernel
theorem dX4_setting_55 : decode cX4_setting 55 = .ok (.iinc 4 1, 3) := by decide +kernel
theorem dX4_setting_58 : decode cX4_setting 58 = .ok (.goto (-36), 3) := by decide +kernel
theorem dX4_setting_61 : decode cX4_setting 61 = .ok (.iconst (-1), 1) := by decide +kernel
theorem dX4_setting_62 : decode cX4_setting 62 = .ok (.ireturn, 1) := by decide +kernel
theorem dX4_odds_0 : decode cX4_odds 0 = .ok (.iload 5, 2) := by decide +kernel
theorem dX4_odds_2 : decode cX4_odds 2 = .ok (.ifCond .lt 9, 3) := by decide +kernel
theorem dX4_odds_5 : decode cX4_odds 5 = .ok (.iload 5, 2) := by decide +kernel
theorem dX4_odds_7 : decode cX4_odds 7 = .ok (.iconst 1, 1) := by decide +kernel
theorem dX4_odds_8 : decode cX4_odds 8 = .ok (.if_icmp .le 13, 3) := by decide +kernel
theorem dX4_odds_11 : decode cX4_odds 11 = .ok (.new 103, 3) := by decide +kernel
theorem dX4_odds_14 : decode cX4_odds 14 = .ok (.dup, 1) := by decide +kernel
theorem dX4_odds_15 : decode cX4_odds 15 = .ok (.ldc 135, 2) := by decide +kernel
theorem dX4_odds_17 : decode cX4_odds 17 = .ok (.invokespecial 107, 3) := by decide +kernel
theorem dX4_odds_20 : decode cX4_odds 20 = .ok (.athrow, 1) := by decide +kernel
theorem dX4_odds_21 : decode cX4_odds 21 = .ok (.iload_n 1, 1) := by decide +kernel
theorem dX4_odds_22 : decode cX4_odds 22 = .ok (.ifCond .lt 28, 3) := by decide +kernel
theorem dX4_odds_25 : decode cX4_odds 25 = .ok (.iload_n 1, 1) := by decide +kernel
theorem dX4_odds_26 : decode cX4_odds 26 = .ok (.bipush 12, 2) := by decide +kernel
theorem dX4_odds_28 : decode cX4_odds 28 = .ok (.if_icmp .gt 22, 3) := by decide +kernel
theorem dX4_odds_31 : decode cX4_odds 31 = .ok (.iload_n 2, 1) := by decide +kernel
theorem dX4_odds_32 : decode cX4_odds 32 = .ok (.ifCond .lt 18, 3) := by decide +kernel
theorem dX4_odds_35 : decode cX4_odds 35 = .ok (.iload_n 3, 1) := by decide +kernel
theorem dX4_odds_36 : decode cX4_odds 36 = .ok (.iload 4, 2) := by decide +kernel
theorem dX4_odds_38 : decode cX4_odds 38 = .ok (.bipush 16, 2) := by decide +kernel
theorem dX4_odds_40 : decode cX4_odds 40 = .ok (.invokestatic 122, 3) := by decide +kernel
theorem dX4_odds_43 : decode cX4_odds 43 = .ok (.ifCond .eq 7, 3) := by decide +kernel
theorem dX4_odds_46 : decode cX4_odds 46 = .ok (.iconst 1, 1) := by decide +kernel
theorem dX4_odds_47 : decode cX4_odds 47 = .ok (.goto 4, 3) := by decide +kernel
theorem dX4_odds_50 : decode cX4_odds 50 = .ok (.iconst 0, 1) := by decide +kernel
theorem dX4_odds_51 : decode cX4_odds 51 = .ok (.invokestatic 68, 3) := by decide +kernel
theorem dX4_odds_54 : decode cX4_odds 54 = .ok (.iload_n 1, 1) := by decide +kernel
theorem dX4_odds_55 : decode cX4_odds 55 = .ok (.iload_n 2, 1) := by decide +kernel
theorem dX4_odds_56 : decode cX4_odds 56 = .ok (.iload_n 3, 1) := by decide +kernel
theorem dX4_odds_57 : decode cX4_odds 57 = .ok (.iload 4, 2) := by decide +kernel
theorem dX4_odds_59 : decode cX4_odds 59 = .ok (.iload_n 3, 1) := by decide +kernel
theorem dX4_odds_60 : decode cX4_odds 60 = .ok (.isub, 1) := by decide +kernel
theorem dX4_odds_61 : decode cX4_odds 61 = .ok (.invokestatic 137, 3) := by decide +kernel
theorem dX4_odds_64 : decode cX4_odds 64 = .ok (.lstore 6, 2) := by decide +kernel
theorem dX4_odds_66 : decode cX4_odds 66 = .ok (.iload 4, 2) := by decide +kernel
theorem dX4_odds_68 : decode cX4_odds 68 = .ok (.iload_n 1, 1) := by decide +kernel
theorem dX4_odds_69 : decode cX4_odds 69 = .ok (.invokestatic 141, 3) := by decide +kernel
theorem dX4_odds_72 : decode cX4_odds 72 = .ok (.lstore 8, 2) := by decide +kernel
theorem dX4_odds_74 : decode cX4_odds 74 = .ok (.lload 8, 2) := by decide +kernel
theorem dX4_odds_76 : decode cX4_odds 76 = .ok (.lload 6, 2) := by decide +kernel
theorem dX4_odds_78 : decode cX4_odds 78 = .ok (.invokestatic 145, 3) := by decide +kernel
theorem dX4_odds_81 : decode cX4_odds 81 = .ok (.lstore 10, 2) := by decide +kernel
theorem dX4_odds_83 : decode cX4_odds 83 = .ok (.iload 5, 2) := by decide +kernel
theorem dX4_odds_85 : decode cX4_odds 85 = .ok (.ifCond .ne 8, 3) := by decide +kernel
theorem dX4_odds_88 : decode cX4_odds 88 = .ok (.lload 6, 2) := by decide +kernel
theorem dX4_odds_90 : decode cX4_odds 90 = .ok (.goto 5, 3) := by decide +kernel
theorem dX4_odds_93 : decode cX4_odds 93 = .ok (.lload 8, 2) := by decide +kernel
theorem dX4_odds_95 : decode cX4_odds 95 = .ok (.lstore 12, 2) := by decide +kernel
theorem dX4_odds_97 : decode cX4_odds 97 = .ok (.lload 10, 2) := by decide +kernel
theorem dX4_odds_99 : decode cX4_odds 99 = .ok (.lconst 1, 1) := by decide +kernel
theorem dX4_odds_100 : decode cX4_odds 100 = .ok (.lcmp, 1) := by decide +kernel
theorem dX4_odds_101 : decode cX4_odds 101 = .ok (.ifCond .le 11, 3) := by decide +kernel
theorem dX4_odds_104 : decode cX4_odds 104 = .ok (.lload 12, 2) := by decide +kernel
theorem dX4_odds_106 : decode cX4_odds 106 = .ok (.lload 10, 2) := by decide +kernel
theorem dX4_odds_108 : decode cX4_odds 108 = .ok (.ldiv, 1) := by decide +kernel
theorem dX4_odds_109 : decode cX4_odds 109 = .ok (.goto 5, 3) := by decide +kernel
theorem dX4_odds_112 : decode cX4_odds 112 = .ok (.lload 12, 2) := by decide +kernel
theorem dX4_odds_114 : decode cX4_odds 114 = .ok (.lreturn, 1) := by decide +kernel
theorem dX4_chart_0 : decode cX4_chart 0 = .ok (.iload_n 1, 1) := by decide +kernel
theorem dX4_chart_1 : decode cX4_chart 1 = .ok (.iconst 1, 1) := by decide +kernel
theorem dX4_chart_2 : decode cX4_chart 2 = .ok (.if_icmp .lt 22, 3) := by decide +kernel
theorem dX4_chart_5 : decode cX4_chart 5 = .ok (.iload_n 1, 1) := by decide +kernel
theorem dX4_chart_6 : decode cX4_chart 6 = .ok (.bipush 20, 2) := by decide +kernel
theorem dX4_chart_8 : decode cX4_chart 8 = .ok (.if_icmp .gt 16, 3) := by decide +kernel
theorem dX4_chart_11 : decode cX4_chart 11 = .ok (.iload_n 2, 1) := by decide +kernel
theorem dX4_chart_12 : decode cX4_chart 12 = .ok (.ifCond .lt 12, 3) := by decide +kernel
theorem dX4_chart_15 : decode cX4_chart 15 = .ok (.iload_n 2, 1) := by decide +kernel
theorem dX4_chart_16 : decode cX4_chart 16 = .ok (.iload_n 1, 1) := by decide +kernel
theorem dX4_chart_17 : decode cX4_chart 17 = .ok (.if_icmp .gt 7, 3) := by decide +kernel
theorem dX4_chart_20 : decode cX4_chart 20 = .ok (.iconst 1, 1) := by decide +kernel
theorem dX4_chart_21 : decode cX4_chart 21 = .ok (.goto 4, 3) := by decide +kernel
theorem dX4_chart_24 : decode cX4_chart 24 = .ok (.iconst 0, 1) := by decide +kernel
theorem dX4_chart_25 : decode cX4_chart 25 = .ok (.invokestatic 68, 3) := by decide +kernel
theorem dX4_chart_28 : decode cX4_chart 28 = .ok (.aload_n 0, 1) := by decide +kernel
theorem dX4_chart_29 : decode cX4_chart 29 = .ok (.getfield 39, 3) := by decide +kernel
theorem dX4_chart_32 : decode cX4_chart 32 = .ok (.iload_n 1, 1) := by decide +kernel
theorem dX4_chart_33 : decode cX4_chart 33 = .ok (.iload_n 2, 1) := by decide +kernel
theorem dX4_chart_34 : decode cX4_chart 34 = .ok (.invokevirtual 149, 3) := by decide +kernel
theorem dX4_chart_37 : decode cX4_chart 37 = .ok (.return_, 1) := by decide +kernel
theorem dX4_test_0 : decode cX4_test 0 = .ok (.aload_n 0, 1) := by decide +kernel
theorem dX4_test_1 : decode cX4_test 1 = .ok (.getfield 39, 3) := by decide +kernel
theorem dX4_test_4 : decode cX4_test 4 = .ok (.iload_n 1, 1) := by decide +kernel
theorem dX4_test_5 : decode cX4_test 5 = .ok (.invokevirtual 153, 3) := by decide +kernel
theorem dX4_test_8 : decode cX4_test 8 = .ok (.ireturn, 1) := by decide +kernel
theorem dX4_proof_0 : decode cX4_proof 0 = .ok (.dload_n 1, 1) := by decide +kernel
theorem dX4_proof_1 : decode cX4_proof 1 = .ok (.iconst 0, 1) := by decide +kernel
theorem dX4_proof_2 : decode cX4_proof 2 = .ok (.sipush 1000, 3) := by decide +kernel
theorem dX4_proof_5 : decode cX4_proof 5 = .ok (.invokestatic 64, 3) := by decide +kernel
theorem dX4_proof_8 : decode cX4_proof 8 = .ok (.invokestatic 68, 3) := by decide +kernel
theorem dX4_proof_11 : decode cX4_proof 11 = .ok (.iconst 0, 1) := by decide +kernel
theorem dX4_proof_12 : decode cX4_proof 12 = .ok (.istore_n 3, 1) := by decide +kernel
theorem dX4_proof_13 : decode cX4_proof 13 = .ok (.aload_n 0, 1) := by decide +kernel
theorem dX4_proof_14 : decode cX4_proof 14 = .ok (.getfield 15, 3) := by decide +kernel
theorem dX4_proof_17 : decode cX4_proof 17 = .ok (.astore 4, 2) := by decide +kernel
theorem dX4_proof_19 : decode cX4_proof 19 = .ok (.aload 4, 2) := by decide +kernel
theorem dX4_proof_21 : decode cX4_proof 21 = .ok (.arraylength, 1) := by decide +kernel
theorem dX4_proof_22 : decode cX4_proof 22 = .ok (.istore 5, 2) := by decide +kernel
theorem dX4_proof_24 : decode cX4_proof 24 = .ok (.iconst 0, 1) := by decide +kernel
theorem dX4_proof_25 : decode cX4_proof 25 = .ok (.istore 6, 2) := by decide +kernel
theorem dX4_proof_27 : decode cX4_proof 27 = .ok (.iload 6, 2) := by decide +kernel
theorem dX4_proof_29 : decode cX4_proof 29 = .ok (.iload 5, 2) := by decide +kernel
theorem dX4_proof_31 : decode cX4_proof 31 = .ok (.if_icmp .ge 51, 3) := by decide +kernel
theorem dX4_proof_34 : decode cX4_proof 34 = .ok (.aload 4, 2) := by decide +kernel
theorem dX4_proof_36 : decode cX4_proof 36 = .ok (.iload 6, 2) := by decide +kernel
theorem dX4_proof_38 : decode cX4_proof 38 = .ok (.aaload, 1) := by decide +kernel
theorem dX4_proof_39 : decode cX4_proof 39 = .ok (.astore 7, 2) := by decide +kernel
theorem dX4_proof_41 : decode cX4_proof 41 = .ok (.aload 7, 2) := by decide +kernel
theorem dX4_proof_43 : decode cX4_proof 43 = .ok (.getfield 87, 3) := by decide +kernel
theorem dX4_proof_46 : decode cX4_proof 46 = .ok (.ifCond .eq 30, 3) := by decide +kernel
theorem dX4_proof_49 : decode cX4_proof 49 = .ok (.aload 7, 2) := by decide +kernel
theorem dX4_proof_51 : decode cX4_proof 51 = .ok (.getfield 91, 3) := by decide +kernel
theorem dX4_proof_54 : decode cX4_proof 54 = .ok (.ifCond .ne 22, 3) := by decide +kernel
theorem dX4_proof_57 : decode cX4_proof 57 = .ok (.aload 7, 2) := by decide +kernel
theorem dX4_proof_59 : decode cX4_proof 59 = .ok (.getfield 96, 3) := by decide +kernel
theorem dX4_proof_62 : decode cX4_proof 62 = .ok (.dload_n 1, 1) := by decide +kernel
theorem dX4_proof_63 : decode cX4_proof 63 = .ok (.dcmp .g, 1) := by decide +kernel
theorem dX4_proof_64 : decode cX4_proof 64 = .ok (.ifCond .ge 12, 3) := by decide +kernel
theorem dX4_proof_67 : decode cX4_proof 67 = .ok (.aload 7, 2) := by decide +kernel
theorem dX4_proof_69 : decode cX4_proof 69 = .ok (.iconst 1, 1) := by decide +kernel
theorem dX4_proof_70 : decode cX4_proof 70 = .ok (.putfield 91, 3) := by decide +kernel
theorem dX4_proof_73 : decode cX4_proof 73 = .ok (.iinc 3 1, 3) := by decide +kernel
theorem dX4_proof_76 : decode cX4_proof 76 = .ok (.iinc 6 1, 3) := by decide +kernel
theorem dX4_proof_79 : decode cX4_proof 79 = .ok (.goto (-52), 3) := by decide +kernel
theorem dX4_proof_82 : decode cX4_proof 82 = .ok (.iload_n 3, 1) := by decide +kernel
theorem dX4_proof_83 : decode cX4_proof 83 = .ok (.ireturn, 1) := by decide +kernel
theorem dX4_about_0 : decode cX4_about 0 = .ok (.aload_n 0, 1) := by decide +kernel
theorem dX4_about_1 : decode cX4_about 1 = .ok (.iload_n 1, 1) := by decide +kernel
theorem dX4_about_2 : decode cX4_about 2 = .ok (.invokevirtual 60, 3) := by decide +kernel
theorem dX4_about_5 : decode cX4_about 5 = .ok (.astore_n 3, 1) := by decide +kernel
theorem dX4_about_6 : decode cX4_about 6 = .ok (.iload_n 2, 1) := by decide +kernel
theorem dX4_about_7 : decode cX4_about 7 = .ok (.tableswitch 73 0 3 #[29, 34, 47, 60], 29) := by decide +kernel
theorem dX4_about_36 : decode cX4_about 36 = .ok (.aload_n 3, 1) := by decide +kernel
theorem dX4_about_37 : decode cX4_about 37 = .ok (.getfield 72, 3) := by decide +kernel
theorem dX4_about_40 : decode cX4_about 40 = .ok (.ireturn, 1) := by decide +kernel
theorem dX4_about_41 : decode cX4_about 41 = .ok (.aload_n 3, 1) := by decide +kernel
theorem dX4_about_42 : decode cX4_about 42 = .ok (.invokevirtual 157, 3) := by decide +kernel
theorem dX4_about_45 : decode cX4_about 45 = .ok (.ifCond .eq 7, 3) := by decide +kernel
theorem dX4_about_48 : decode cX4_about 48 = .ok (.iconst 1, 1) := by decide +kernel
theorem dX4_about_49 : decode cX4_about 49 = .ok (.goto 4, 3) := by decide +kernel
theorem dX4_about_52 : decode cX4_about 52 = .ok (.iconst 0, 1) := by decide +kernel
theorem dX4_about_53 : decode cX4_about 53 = .ok (.ireturn, 1) := by decide +kernel
theorem dX4_about_54 : decode cX4_about 54 = .ok (.aload_n 3, 1) := by decide +kernel
theorem dX4_about_55 : decode cX4_about 55 = .ok (.getfield 87, 3) := by decide +kernel
theorem dX4_about_58 : decode cX4_about 58 = .ok (.ifCond .eq 7, 3) := by decide +kernel
theorem dX4_about_61 : decode cX4_about 61 = .ok (.iconst 1, 1) := by decide +kernel
theorem dX4_about_62 : decode cX4_about 62 = .ok (.goto 4, 3) := by decide +kernel
theorem dX4_about_65 : decode cX4_about 65 = .ok (.iconst 0, 1) := by decide +kernel
theorem dX4_about_66 : decode cX4_about 66 = .ok (.ireturn, 1) := by decide +kernel
theorem dX4_about_67 : decode cX4_about 67 = .ok (.aload_n 3, 1) := by decide +kernel
theorem dX4_about_68 : decode cX4_about 68 = .ok (.getfield 91, 3) := by decide +kernel
theorem dX4_about_71 : decode cX4_about 71 = .ok (.ifCond .eq 7, 3) := by decide +kernel
theorem dX4_about_74 : decode cX4_about 74 = .ok (.iconst 1, 1) := by decide +kernel
theorem dX4_about_75 : decode cX4_about 75 = .ok (.goto 4, 3) := by decide +kernel
theorem dX4_about_78 : decode cX4_about 78 = .ok (.iconst 0, 1) := by decide +kernel
theorem dX4_about_79 : decode cX4_about 79 = .ok (.ireturn, 1) := by decide +kernel
theorem dX4_about_80 : decode cX4_about 80 = .ok (.new 103, 3) := by decide +kernel
theorem dX4_about_83 : decode cX4_about 83 = .ok (.dup, 1) := by decide +kernel
theorem dX4_about_84 : decode cX4_about 84 = .ok (.ldc 161, 2) := by decide +kernel
theorem dX4_about_86 : decode cX4_about 86 = .ok (.invokespecial 107, 3) := by decide +kernel
theorem dX4_about_89 : decode cX4_about 89 = .ok (.athrow, 1) := by decide +kernel
theorem dX4_reference_0 : decode cX4_reference 0 = .ok (.iload_n 1, 1) := by decide +kernel
theorem dX4_reference_1 : decode cX4_reference 1 = .ok (.invokestatic 163, 3) := by decide +kernel
theorem dX4_reference_4 : decode cX4_reference 4 = .ok (.ifCond .eq 31, 3) := by decide +kernel
theorem dX4_reference_7 : decode cX4_reference 7 = .ok (.aload_n 0, 1) := by decide +kernel
theorem dX4_reference_8 : decode cX4_reference 8 = .ok (.getfield 46, 3) := by decide +kernel
theorem dX4_reference_11 : decode cX4_reference 11 = .ok (.iload_n 1, 1) := by decide +kernel
theorem dX4_reference_12 : decode cX4_reference 12 = .ok (.invokevirtual 167, 3) := by decide +kernel
theorem dX4_reference_15 : decode cX4_reference 15 = .ok (.ifCond .eq 20, 3) := by decide +kernel
theorem dX4_reference_18 : decode cX4_reference 18 = .ok (.dload_n 2, 1) := by decide +kernel
theorem dX4_reference_19 : decode cX4_reference 19 = .ok (.sipush (-1000), 3) := by decide +kernel
theorem dX4_reference_22 : decode cX4_reference 22 = .ok (.sipush 1000, 3) := by decide +kernel
theorem dX4_reference_25 : decode cX4_reference 25 = .ok (.invokestatic 64, 3) := by decide +kernel
theorem dX4_reference_28 : decode cX4_reference 28 = .ok (.ifCond .eq 7, 3) := by decide +kernel
theorem dX4_reference_31 : decode cX4_reference 31 = .ok (.iconst 1, 1) := by decide +kernel
theorem dX4_reference_32 : decode cX4_reference 32 = .ok (.goto 4, 3) := by decide +kernel
theorem dX4_reference_35 : decode cX4_reference 35 = .ok (.iconst 0, 1) := by decide +kernel
theorem dX4_reference_36 : decode cX4_reference 36 = .ok (.invokestatic 68, 3) := by decide +kernel
theorem dX4_reference_39 : decode cX4_reference 39 = .ok (.aload_n 0, 1) := by decide +kernel
theorem dX4_reference_40 : decode cX4_reference 40 = .ok (.getfield 46, 3) := by decide +kernel
theorem dX4_reference_43 : decode cX4_reference 43 = .ok (.invokevirtual 170, 3) := by decide +kernel
theorem dX4_reference_46 : decode cX4_reference 46 = .ok (.ifCond .eq 13, 3) := by decide +kernel
theorem dX4_reference_49 : decode cX4_reference 49 = .ok (.new 53, 3) := by decide +kernel
theorem dX4_reference_52 : decode cX4_reference 52 = .ok (.dup, 1) := by decide +kernel
theorem dX4_reference_53 : decode cX4_reference 53 = .ok (.ldc 173, 2) := by decide +kernel
theorem dX4_reference_55 : decode cX4_reference 55 = .ok (.invokespecial 57, 3) := by decide +kernel
theorem dX4_reference_58 : decode cX4_reference 58 = .ok (.athrow, 1) := by decide +kernel
theorem dX4_reference_59 : decode cX4_reference 59 = .ok (.aload_n 0, 1) := by decide +kernel
theorem dX4_reference_60 : decode cX4_reference 60 = .ok (.getfield 46, 3) := by decide +kernel
theorem dX4_reference_63 : decode cX4_reference 63 = .ok (.iload_n 1, 1) := by decide +kernel
theorem dX4_reference_64 : decode cX4_reference 64 = .ok (.dload_n 2, 1) := by decide +kernel
theorem dX4_reference_65 : decode cX4_reference 65 = .ok (.invokevirtual 175, 3) := by decide +kernel
theorem dX4_reference_68 : decode cX4_reference 68 = .ok (.ireturn, 1) := by decide +kernel
theorem dX4_drift_0 : decode cX4_drift 0 = .ok (.iload_n 1, 1) := by decide +kernel
theorem dX4_drift_1 : decode cX4_drift 1 = .ok (.invokestatic 163, 3) := by decide +kernel
theorem dX4_drift_4 : decode cX4_drift 4 = .ok (.invokestatic 68, 3) := by decide +kernel
theorem dX4_drift_7 : decode cX4_drift 7 = .ok (.aload_n 0, 1) := by decide +kernel
theorem dX4_drift_8 : decode cX4_drift 8 = .ok (.getfield 46, 3) := by decide +kernel
theorem dX4_drift_11 : decode cX4_drift 11 = .ok (.iload_n 1, 1) := by decide +kernel
theorem dX4_drift_12 : decode cX4_drift 12 = .ok (.invokevirtual 179, 3) := by decide +kernel
theorem dX4_drift_15 : decode cX4_drift 15 = .ok (.dreturn, 1) := by decide +kernel
theorem dX4_drawn_0 : decode cX4_drawn 0 = .ok (.iload_n 1, 1) := by decide +kernel
theorem dX4_drawn_1 : decode cX4_drawn 1 = .ok (.ifCond .lt 7, 3) := by decide +kernel
theorem dX4_drawn_4 : decode cX4_drawn 4 = .ok (.iconst 1, 1) := by decide +kernel
theorem dX4_drawn_5 : decode cX4_drawn 5 = .ok (.goto 4, 3) := by decide +kernel
theorem dX4_drawn_8 : decode cX4_drawn 8 = .ok (.iconst 0, 1) := by decide +kernel
theorem dX4_drawn_9 : decode cX4_drawn 9 = .ok (.invokestatic 68, 3) := by decide +kernel
theorem dX4_drawn_12 : decode cX4_drawn 12 = .ok (.aload_n 0, 1) := by decide +kernel
theorem dX4_drawn_13 : decode cX4_drawn 13 = .ok (.getfield 7, 3) := by decide +kernel
theorem dX4_drawn_16 : decode cX4_drawn 16 = .ok (.i2l, 1) := by decide +kernel
theorem dX4_drawn_17 : decode cX4_drawn 17 = .ok (.iload_n 1, 1) := by decide +kernel
theorem dX4_drawn_18 : decode cX4_drawn 18 = .ok (.i2l, 1) := by decide +kernel
theorem dX4_drawn_19 : decode cX4_drawn 19 = .ok (.lconst 1, 1) := by decide +kernel
theorem dX4_drawn_20 : decode cX4_drawn 20 = .ok (.ladd, 1) := by decide +kernel
theorem dX4_drawn_21 : decode cX4_drawn 21 = .ok (.ldc2_w 183, 3) := by decide +kernel
theorem dX4_drawn_24 : decode cX4_drawn 24 = .ok (.lmul, 1) := by decide +kernel
theorem dX4_drawn_25 : decode cX4_drawn 25 = .ok (.ladd, 1) := by decide +kernel
theorem dX4_drawn_26 : decode cX4_drawn 26 = .ok (.lstore_n 2, 1) := by decide +kernel
theorem dX4_drawn_27 : decode cX4_drawn 27 = .ok (.lload_n 2, 1) := by decide +kernel
theorem dX4_drawn_28 : decode cX4_drawn 28 = .ok (.lload_n 2, 1) := by decide +kernel
theorem dX4_drawn_29 : decode cX4_drawn 29 = .ok (.bipush 30, 2) := by decide +kernel
theorem dX4_drawn_31 : decode cX4_drawn 31 = .ok (.lushr, 1) := by decide +kernel
theorem dX4_drawn_32 : decode cX4_drawn 32 = .ok (.lxor, 1) := by decide +kernel
theorem dX4_drawn_33 : decode cX4_drawn 33 = .ok (.ldc2_w 185, 3) := by decide +kernel
theorem dX4_drawn_36 : decode cX4_drawn 36 = .ok (.lmul, 1) := by decide +kernel
theorem dX4_drawn_37 : decode cX4_drawn 37 = .ok (.lstore_n 2, 1) := by decide +kernel
theorem dX4_drawn_38 : decode cX4_drawn 38 = .ok (.lload_n 2, 1) := by decide +kernel
theorem dX4_drawn_39 : decode cX4_drawn 39 = .ok (.lload_n 2, 1) := by decide +kernel
theorem dX4_drawn_40 : decode cX4_drawn 40 = .ok (.bipush 27, 2) := by decide +kernel
theorem dX4_drawn_42 : decode cX4_drawn 42 = .ok (.lushr, 1) := by decide +kernel
theorem dX4_drawn_43 : decode cX4_drawn 43 = .ok (.lxor, 1) := by decide +kernel
theorem dX4_drawn_44 : decode cX4_drawn 44 = .ok (.ldc2_w 187, 3) := by decide +kernel
theorem dX4_drawn_47 : decode cX4_drawn 47 = .ok (.lmul, 1) := by decide +kernel
theorem dX4_drawn_48 : decode cX4_drawn 48 = .ok (.lstore_n 2, 1) := by decide +kernel
theorem dX4_drawn_49 : decode cX4_drawn 49 = .ok (.lload_n 2, 1) := by decide +kernel
theorem dX4_drawn_50 : decode cX4_drawn 50 = .ok (.lload_n 2, 1) := by decide +kernel
theorem dX4_drawn_51 : decode cX4_drawn 51 = .ok (.bipush 31, 2) := by decide +kernel
theorem dX4_drawn_53 : decode cX4_drawn 53 = .ok (.lushr, 1) := by decide +kernel
theorem dX4_drawn_54 : decode cX4_drawn 54 = .ok (.lxor, 1) := by decide +kernel
theorem dX4_drawn_55 : decode cX4_drawn 55 = .ok (.lstore_n 2, 1) := by decide +kernel
theorem dX4_drawn_56 : decode cX4_drawn 56 = .ok (.lload_n 2, 1) := by decide +kernel
theorem dX4_drawn_57 : decode cX4_drawn 57 = .ok (.bipush 44, 2) := by decide +kernel
theorem dX4_drawn_59 : decode cX4_drawn 59 = .ok (.lushr, 1) := by decide +kernel
theorem dX4_drawn_60 : decode cX4_drawn 60 = .ok (.l2d, 1) := by decide +kernel
theorem dX4_drawn_61 : decode cX4_drawn 61 = .ok (.ldc2_w 189, 3) := by decide +kernel
theorem dX4_drawn_64 : decode cX4_drawn 64 = .ok (.ddiv, 1) := by decide +kernel
theorem dX4_drawn_65 : decode cX4_drawn 65 = .ok (.dreturn, 1) := by decide +kernel
theorem dX4_boardAt_0 : decode cX4_boardAt 0 = .ok (.iload_n 1, 1) := by decide +kernel
theorem dX4_boardAt_1 : decode cX4_boardAt 1 = .ok (.ifCond .lt 11, 3) := by decide +kernel
theorem dX4_boardAt_4 : decode cX4_boardAt 4 = .ok (.iload_n 1, 1) := by decide +kernel
theorem dX4_boardAt_5 : decode cX4_boardAt 5 = .ok (.aload_n 0, 1) := by decide +kernel
theorem dX4_boardAt_6 : decode cX4_boardAt 6 = .ok (.getfield 50, 3) := by decide +kernel
theorem dX4_boardAt_9 : decode cX4_boardAt 9 = .ok (.if_icmp .lt 13, 3) := by decide +kernel
theorem dX4_boardAt_12 : decode cX4_boardAt 12 = .ok (.new 103, 3) := by decide +kernel
theorem dX4_boardAt_15 : decode cX4_boardAt 15 = .ok (.dup, 1) := by decide +kernel
theorem dX4_boardAt_16 : decode cX4_boardAt 16 = .ok (.ldc 191, 2) := by decide +kernel
theorem dX4_boardAt_18 : decode cX4_boardAt 18 = .ok (.invokespecial 107, 3) := by decide +kernel
theorem dX4_boardAt_21 : decode cX4_boardAt 21 = .ok (.athrow, 1) := by decide +kernel
theorem dX4_boardAt_22 : decode cX4_boardAt 22 = .ok (.aload_n 0, 1) := by decide +kernel
theorem dX4_boardAt_23 : decode cX4_boardAt 23 = .ok (.getfield 15, 3) := by decide +kernel
theorem dX4_boardAt_26 : decode cX4_boardAt 26 = .ok (.iload_n 1, 1) := by decide +kernel
theorem dX4_boardAt_27 : decode cX4_boardAt 27 = .ok (.aaload, 1) := by decide +kernel
theorem dX4_boardAt_28 : decode cX4_boardAt 28 = .ok (.areturn, 1) := by decide +kernel
theorem dX4_completeBoardAt_0 : decode cX4_completeBoardAt 0 = .ok (.aload_n 0, 1) := by decide +kernel
theorem dX4_completeBoardAt_1 : decode cX4_completeBoardAt 1 = .ok (.iload_n 1, 1) := by decide +kernel
theorem dX4_completeBoardAt_2 : decode cX4_completeBoardAt 2 = .ok (.invokevirtual 60, 3) := by decide +kernel
theorem dX4_completeBoardAt_5 : decode cX4_completeBoardAt 5 = .ok (.astore_n 2, 1) := by decide +kernel
theorem dX4_completeBoardAt_6 : decode cX4_completeBoardAt 6 = .ok (.aload_n 2, 1) := by decide +kernel
theorem dX4_completeBoardAt_7 : decode cX4_completeBoardAt 7 = .ok (.invokevirtual 157, 3) := by decide +kernel
theorem dX4_completeBoardAt_10 : decode cX4_completeBoardAt 10 = .ok (.ifCond .ne 13, 3) := by decide +kernel
theorem dX4_completeBoardAt_13 : decode cX4_completeBoardAt 13 = .ok (.new 53, 3) := by decide +kernel
theorem dX4_completeBoardAt_16 : decode cX4_completeBoardAt 16 = .ok (.dup, 1) := by decide +kernel
theorem dX4_completeBoardAt_17 : decode cX4_completeBoardAt 17 = .ok (.ldc 193, 2) := by decide +kernel
theorem dX4_completeBoardAt_19 : decode cX4_completeBoardAt 19 = .ok (.invokespecial 57, 3) := by decide +kernel
theorem dX4_completeBoardAt_22 : decode cX4_completeBoardAt 22 = .ok (.athrow, 1) := by decide +kernel
theorem dX4_completeBoardAt_23 : decode cX4_completeBoardAt 23 = .ok (.aload_n 2, 1) := by decide +kernel
theorem dX4_completeBoardAt_24 : decode cX4_completeBoardAt 24 = .ok (.areturn, 1) := by decide +kernel
theorem dX4_checkClass_0 : decode cX4_checkClass 0 = .ok (.iload_n 0, 1) := by decide +kernel
theorem dX4_checkClass_1 : decode cX4_checkClass 1 = .ok (.ifCond .lt 8, 3) := by decide +kernel
theorem dX4_checkClass_4 : decode cX4_checkClass 4 = .ok (.iload_n 0, 1) := by decide +kernel
theorem dX4_checkClass_5 : decode cX4_checkClass 5 = .ok (.iconst 4, 1) := by decide +kernel
theorem dX4_checkClass_6 : decode cX4_checkClass 6 = .ok (.if_icmp .lt 13, 3) := by decide +kernel
theorem dX4_checkClass_9 : decode cX4_checkClass 9 = .ok (.new 103, 3) := by decide +kernel
theorem dX4_checkClass_12 : decode cX4_checkClass 12 = .ok (.dup, 1) := by decide +kernel
theorem dX4_checkClass_13 : decode cX4_checkClass 13 = .ok (.ldc 195, 2) := by decide +kernel
theorem dX4_checkClass_15 : decode cX4_checkClass 15 = .ok (.invokespecial 107, 3) := by decide +kernel
theorem dX4_checkClass_18 : decode cX4_checkClass 18 = .ok (.athrow, 1) := by decide +kernel
theorem dX4_checkClass_19 : decode cX4_checkClass 19 = .ok (.return_, 1) := by decide +kernel
theorem dX4_need_0 : decode cX4_need 0 = .ok (.iload_n 0, 1) := by decide +kernel
theorem dX4_need_1 : decode cX4_need 1 = .ok (.ifCond .ne 13, 3) := by decide +kernel
theorem dX4_need_4 : decode cX4_need 4 = .ok (.new 197, 3) := by decide +kernel
theorem dX4_need_7 : decode cX4_need 7 = .ok (.dup, 1) := by decide +kernel
theorem dX4_need_8 : decode cX4_need 8 = .ok (.ldc 199, 2) := by decide +kernel
theorem dX4_need_10 : decode cX4_need 10 = .ok (.invokespecial 201, 3) := by decide +kernel
theorem dX4_need_13 : decode cX4_need 13 = .ok (.athrow, 1) := by decide +kernel
theorem dX4_need_14 : decode cX4_need 14 = .ok (.return_, 1) := by decide +kernel
theorem dX4_isWithin_0 : decode cX4_isWithin 0 = .ok (.dload_n 0, 1) := by decide +kernel
theorem dX4_isWithin_1 : decode cX4_isWithin 1 = .ok (.iload_n 2, 1) := by decide +kernel
theorem dX4_isWithin_2 : decode cX4_isWithin 2 = .ok (.i2d, 1) := by decide +kernel
theorem dX4_isWithin_3 : decode cX4_isWithin 3 = .ok (.dcmp .l, 1) := by decide +kernel
theorem dX4_isWithin_4 : decode cX4_isWithin 4 = .ok (.ifCond .lt 14, 3) := by decide +kernel
theorem dX4_isWithin_7 : decode cX4_isWithin 7 = .ok (.dload_n 0, 1) := by decide +kernel
theorem dX4_isWithin_8 : decode cX4_isWithin 8 = .ok (.iload_n 3, 1) := by decide +kernel
theorem dX4_isWithin_9 : decode cX4_isWithin 9 = .ok (.i2d, 1) := by decide +kernel
theorem dX4_isWithin_10 : decode cX4_isWithin 10 = .ok (.dcmp .g, 1) := by decide +kernel
theorem dX4_isWithin_11 : decode cX4_isWithin 11 = .ok (.ifCond .gt 7, 3) := by decide +kernel
theorem dX4_isWithin_14 : decode cX4_isWithin 14 = .ok (.iconst 1, 1) := by decide +kernel
theorem dX4_isWithin_15 : decode cX4_isWithin 15 = .ok (.goto 4, 3) := by decide +kernel
theorem dX4_isWithin_18 : decode cX4_isWithin 18 = .ok (.iconst 0, 1) := by decide +kernel
theorem dX4_isWithin_19 : decode cX4_isWithin 19 = .ok (.ireturn, 1) := by decide +kernel
theorem dX4_isDay_0 : decode cX4_isDay 0 = .ok (.iload_n 0, 1) := by decide +kernel
theorem dX4_isDay_1 : decode cX4_isDay 1 = .ok (.ifCond .lt 14, 3) := by decide +kernel
theorem dX4_isDay_4 : decode cX4_isDay 4 = .ok (.iload_n 0, 1) := by decide +kernel
theorem dX4_isDay_5 : decode cX4_isDay 5 = .ok (.sipush 10000, 3) := by decide +kernel
theorem dX4_isDay_8 : decode cX4_isDay 8 = .ok (.if_icmp .gt 7, 3) := by decide +kernel
theorem dX4_isDay_11 : decode cX4_isDay 11 = .ok (.iconst 1, 1) := by decide +kernel
theorem dX4_isDay_12 : decode cX4_isDay 12 = .ok (.goto 4, 3) := by decide +kernel
theorem dX4_isDay_15 : decode cX4_isDay 15 = .ok (.iconst 0, 1) := by decide +kernel
theorem dX4_isDay_16 : decode cX4_isDay 16 = .ok (.ireturn, 1) := by decide +kernel
theorem dX4_isShare_0 : decode cX4_isShare 0 = .ok (.iload_n 1, 1) := by decide +kernel
theorem dX4_isShare_1 : decode cX4_isShare 1 = .ok (.iconst 1, 1) := by decide +kernel
theorem dX4_isShare_2 : decode cX4_isShare 2 = .ok (.if_icmp .lt 21, 3) := by decide +kernel
theorem dX4_isShare_5 : decode cX4_isShare 5 = .ok (.iload_n 1, 1) := by decide +kernel
theorem dX4_isShare_6 : decode cX4_isShare 6 = .ok (.iload_n 2, 1) := by decide +kernel
theorem dX4_isShare_7 : decode cX4_isShare 7 = .ok (.if_icmp .gt 16, 3) := by decide +kernel
theorem dX4_isShare_10 : decode cX4_isShare 10 = .ok (.iload_n 0, 1) := by decide +kernel
theorem dX4_isShare_11 : decode cX4_isShare 11 = .ok (.ifCond .lt 12, 3) := by decide +kernel
theorem dX4_isShare_14 : decode cX4_isShare 14 = .ok (.iload_n 0, 1) := by decide +kernel
theorem dX4_isShare_15 : decode cX4_isShare 15 = .ok (.iload_n 1, 1) := by decide +kernel
theorem dX4_isShare_16 : decode cX4_isShare 16 = .ok (.if_icmp .gt 7, 3) := by decide +kernel
theorem dX4_isShare_19 : decode cX4_isShare 19 = .ok (.iconst 1, 1) := by decide +kernel
theorem dX4_isShare_20 : decode cX4_isShare 20 = .ok (.goto 4, 3) := by decide +kernel
theorem dX4_isShare_23 : decode cX4_isShare 23 = .ok (.iconst 0, 1) := by decide +kernel
theorem dX4_isShare_24 : decode cX4_isShare 24 = .ok (.ireturn, 1) := by decide +kernel
theorem dX4_keepForetold_0 : decode cX4_keepForetold 0 = .ok (.aload_n 0, 1) := by decide +kernel
theorem dX4_keepForetold_1 : decode cX4_keepForetold 1 = .ok (.getfield 15, 3) := by decide +kernel
theorem dX4_keepForetold_4 : decode cX4_keepForetold 4 = .ok (.astore_n 1, 1) := by decide +kernel
theorem dX4_keepForetold_5 : decode cX4_keepForetold 5 = .ok (.aload_n 1, 1) := by decide +kernel
theorem dX4_keepForetold_6 : decode cX4_keepForetold 6 = .ok (.arraylength, 1) := by decide +kernel
theorem dX4_keepForetold_7 : decode cX4_keepForetold 7 = .ok (.istore_n 2, 1) := by decide +kernel
theorem dX4_keepForetold_8 : decode cX4_keepForetold 8 = .ok (.iconst 0, 1) := by decide +kernel
theorem dX4_keepForetold_9 : decode cX4_keepForetold 9 = .ok (.istore_n 3, 1) := by decide +kernel
theorem dX4_keepForetold_10 : decode cX4_keepForetold 10 = .ok (.iload_n 3, 1) := by decide +kernel
theorem dX4_keepForetold_11 : decode cX4_keepForetold 11 = .ok (.iload_n 2, 1) := by decide +kernel
theorem dX4_keepForetold_12 : decode cX4_keepForetold 12 = .ok (.if_icmp .ge 28, 3) := by decide +kernel
theorem dX4_keepForetold_15 : decode cX4_keepForetold 15 = .ok (.aload_n 1, 1) := by decide +kernel
theorem dX4_keepForetold_16 : decode cX4_keepForetold 16 = .ok (.iload_n 3, 1) := by decide +kernel
theorem dX4_keepForetold_17 : decode cX4_keepForetold 17 = .ok (.aaload, 1) := by decide +kernel
theorem dX4_keepForetold_18 : decode cX4_keepForetold 18 = .ok (.astore 4, 2) := by decide +kernel
theorem dX4_keepForetold_20 : decode cX4_keepForetold 20 = .ok (.aload 4, 2) := by decide +kernel
theorem dX4_keepForetold_22 : decode cX4_keepForetold 22 = .ok (.aload_n 0, 1) := by decide +kernel
theorem dX4_keepForetold_23 : decode cX4_keepForetold 23 = .ok (.getfield 23, 3) := by decide +kernel
theorem dX4_keepForetold_26 : decode cX4_keepForetold 26 = .ok (.aload 4, 2) := by decide +kernel
theorem dX4_keepForetold_28 : decode cX4_keepForetold 28 = .ok (.invokevirtual 114, 3) := by decide +kernel
theorem dX4_keepForetold_31 : decode cX4_keepForetold 31 = .ok (.putfield 202, 3) := by decide +kernel
theorem dX4_keepForetold_34 : decode cX4_keepForetold 34 = .ok (.iinc 3 1, 3) := by decide +kernel
theorem dX4_keepForetold_37 : decode cX4_keepForetold 37 = .ok (.goto (-27), 3) := by decide +kernel
theorem dX4_keepForetold_40 : decode cX4_keepForetold 40 = .ok (.return_, 1) := by decide +kernel
theorem dX4_isEnough_0 : decode cX4_isEnough 0 = .ok (.iconst 0, 1) := by decide +kernel
theorem dX4_isEnough_1 : decode cX4_isEnough 1 = .ok (.istore 7, 2) := by decide +kernel
theorem dX4_isEnough_3 : decode cX4_isEnough 3 = .ok (.iconst 0, 1) := by decide +kernel
theorem dX4_isEnough_4 : decode cX4_isEnough 4 = .ok (.istore 8, 2) := by decide +kernel
theorem dX4_isEnough_6 : decode cX4_isEnough 6 = .ok (.aload_n 0, 1) := by decide +kernel
theorem dX4_isEnough_7 : decode cX4_isEnough 7 = .ok (.getfield 15, 3) := by decide +kernel
theorem dX4_isEnough_10 : decode cX4_isEnough 10 = .ok (.astore 9, 2) := by decide +kernel
theorem dX4_isEnough_12 : decode cX4_isEnough 12 = .ok (.aload 9, 2) := by decide +kernel
theorem dX4_isEnough_14 : decode cX4_isEnough 14 = .ok (.arraylength, 1) := by decide +kernel
theorem dX4_isEnough_15 : decode cX4_isEnough 15 = .ok (.istore 10, 2) := by decide +kernel
theorem dX4_isEnough_17 : decode cX4_isEnough 17 = .ok (.iconst 0, 1) := by decide +kernel
theorem dX4_isEnough_18 : decode cX4_isEnough 18 = .ok (.istore 11, 2) := by decide +kernel
theorem dX4_isEnough_20 : decode cX4_isEnough 20 = .ok (.iload 11, 2) := by decide +kernel
theorem dX4_isEnough_22 : decode cX4_isEnough 22 = .ok (.iload 10, 2) := by decide +kernel
theorem dX4_isEnough_24 : decode cX4_isEnough 24 = .ok (.if_icmp .ge 50, 3) := by decide +kernel
theorem dX4_isEnough_27 : decode cX4_isEnough 27 = .ok (.aload 9, 2) := by decide +kernel
theorem dX4_isEnough_29 : decode cX4_isEnough 29 = .ok (.iload 11, 2) := by decide +kernel
theorem dX4_isEnough_31 : decode cX4_isEnough 31 = .ok (.aaload, 1) := by decide +kernel
theorem dX4_isEnough_32 : decode cX4_isEnough 32 = .ok (.astore 12, 2) := by decide +kernel
theorem dX4_isEnough_34 : decode cX4_isEnough 34 = .ok (.aload 12, 2) := by decide +kernel
theorem dX4_isEnough_36 : decode cX4_isEnough 36 = .ok (.invokevirtual 205, 3) := by decide +kernel
theorem dX4_isEnough_39 : decode cX4_isEnough 39 = .ok (.ifCond .eq 29, 3) := by decide +kernel
theorem dX4_isEnough_42 : decode cX4_isEnough 42 = .ok (.aload 12, 2) := by decide +kernel
theorem dX4_isEnough_44 : decode cX4_isEnough 44 = .ok (.getfield 202, 3) := by decide +kernel
theorem dX4_isEnough_47 : decode cX4_isEnough 47 = .ok (.dload_n 1, 1) := by decide +kernel
theorem dX4_isEnough_48 : decode cX4_isEnough 48 = .ok (.dcmp .l, 1) := by decide +kernel
theorem dX4_isEnough_49 : decode cX4_isEnough 49 = .ok (.ifCond .lt 19, 3) := by decide +kernel
theorem dX4_isEnough_52 : decode cX4_isEnough 52 = .ok (.iinc 7 1, 3) := by decide +kernel
theorem dX4_isEnough_55 : decode cX4_isEnough 55 = .ok (.aload 12, 2) := by decide +kernel
theorem dX4_isEnough_57 : decode cX4_isEnough 57 = .ok (.getfield 96, 3) := by decide +kernel
theorem dX4_isEnough_60 : decode cX4_isEnough 60 = .ok (.dload_n 3, 1) := by decide +kernel
theorem dX4_isEnough_61 : decode cX4_isEnough 61 = .ok (.dcmp .g, 1) := by decide +kernel
theorem dX4_isEnough_62 : decode cX4_isEnough 62 = .ok (.ifCond .ge 6, 3) := by decide +kernel
theorem dX4_isEnough_65 : decode cX4_isEnough 65 = .ok (.iinc 8 1, 3) := by decide +kernel
theorem dX4_isEnough_68 : decode cX4_isEnough 68 = .ok (.iinc 11 1, 3) := by decide +kernel
theorem dX4_isEnough_71 : decode cX4_isEnough 71 = .ok (.goto (-51), 3) := by decide +kernel
theorem dX4_isEnough_74 : decode cX4_isEnough 74 = .ok (.iload 8, 2) := by decide +kernel
theorem dX4_isEnough_76 : decode cX4_isEnough 76 = .ok (.iload 6, 2) := by decide +kernel
theorem dX4_isEnough_78 : decode cX4_isEnough 78 = .ok (.imul, 1) := by decide +kernel
theorem dX4_isEnough_79 : decode cX4_isEnough 79 = .ok (.iload 5, 2) := by decide +kernel
theorem dX4_isEnough_81 : decode cX4_isEnough 81 = .ok (.iload 7, 2) := by decide +kernel
theorem dX4_isEnough_83 : decode cX4_isEnough 83 = .ok (.imul, 1) := by decide +kernel
theorem dX4_isEnough_84 : decode cX4_isEnough 84 = .ok (.if_icmp .gt 7, 3) := by decide +kernel
theorem dX4_isEnough_87 : decode cX4_isEnough 87 = .ok (.iconst 1, 1) := by decide +kernel
theorem dX4_isEnough_88 : decode cX4_isEnough 88 = .ok (.goto 4, 3) := by decide +kernel
theorem dX4_isEnough_91 : decode cX4_isEnough 91 = .ok (.iconst 0, 1) := by decide +kernel
theorem dX4_isEnough_92 : decode cX4_isEnough 92 = .ok (.ireturn, 1) := by decide +kernel
theorem dX4_waysOfFew_0 : decode cX4_waysOfFew 0 = .ok (.lconst 0, 1) := by decide +kernel
theorem dX4_waysOfFew_1 : decode cX4_waysOfFew 1 = .ok (.lstore 4, 2) := by decide +kernel
theorem dX4_waysOfFew_3 : decode cX4_waysOfFew 3 = .ok (.lconst 1, 1) := by decide +kernel
theorem dX4_waysOfFew_4 : decode cX4_waysOfFew 4 = .ok (.lstore 6, 2) := by decide +kernel
theorem dX4_waysOfFew_6 : decode cX4_waysOfFew 6 = .ok (.iconst 0, 1) := by decide +kernel
theorem dX4_waysOfFew_7 : decode cX4_waysOfFew 7 = .ok (.istore 8, 2) := by decide +kernel
theorem dX4_waysOfFew_9 : decode cX4_waysOfFew 9 = .ok (.iload 8, 2) := by decide +kernel
theorem dX4_waysOfFew_11 : decode cX4_waysOfFew 11 = .ok (.iload_n 0, 1) := by decide +kernel
theorem dX4_waysOfFew_12 : decode cX4_waysOfFew 12 = .ok (.if_icmp .gt 54, 3) := by decide +kernel
theorem dX4_waysOfFew_15 : decode cX4_waysOfFew 15 = .ok (.iload 8, 2) := by decide +kernel
theorem dX4_waysOfFew_17 : decode cX4_waysOfFew 17 = .ok (.iload_n 1, 1) := by decide +kernel
theorem dX4_waysOfFew_18 : decode cX4_waysOfFew 18 = .ok (.if_icmp .gt 48, 3) := by decide +kernel
theorem dX4_waysOfFew_21 : decode cX4_waysOfFew 21 = .ok (.lload 4, 2) := by decide +kernel
theorem dX4_waysOfFew_23 : decode cX4_waysOfFew 23 = .ok (.lload 6, 2) := by decide +kernel
theorem dX4_waysOfFew_25 : decode cX4_waysOfFew 25 = .ok (.iload_n 2, 1) := by decide +kernel
theorem dX4_waysOfFew_26 : decode cX4_waysOfFew 26 = .ok (.iload 8, 2) := by decide +kernel
theorem dX4_waysOfFew_28 : decode cX4_waysOfFew 28 = .ok (.invokestatic 141, 3) := by decide +kernel
theorem dX4_waysOfFew_31 : decode cX4_waysOfFew 31 = .ok (.lmul, 1) := by decide +kernel
theorem dX4_waysOfFew_32 : decode cX4_waysOfFew 32 = .ok (.iload_n 3, 1) := by decide +kernel
theorem dX4_waysOfFew_33 : decode cX4_waysOfFew 33 = .ok (.iload_n 0, 1) := by decide +kernel
theorem dX4_waysOfFew_34 : decode cX4_waysOfFew 34 = .ok (.iload 8, 2) := by decide +kernel
theorem dX4_waysOfFew_36 : decode cX4_waysOfFew 36 = .ok (.isub, 1) := by decide +kernel
theorem dX4_waysOfFew_37 : decode cX4_waysOfFew 37 = .ok (.invokestatic 141, 3) := by decide +kernel
theorem dX4_waysOfFew_40 : decode cX4_waysOfFew 40 = .ok (.lmul, 1) := by decide +kernel
theorem dX4_waysOfFew_41 : decode cX4_waysOfFew 41 = .ok (.ladd, 1) := by decide +kernel
theorem dX4_waysOfFew_42 : decode cX4_waysOfFew 42 = .ok (.lstore 4, 2) := by decide +kernel
theorem dX4_waysOfFew_44 : decode cX4_waysOfFew 44 = .ok (.lload 6, 2) := by decide +kernel
theorem dX4_waysOfFew_46 : decode cX4_waysOfFew 46 = .ok (.iload_n 0, 1) := by decide +kernel
theorem dX4_waysOfFew_47 : decode cX4_waysOfFew 47 = .ok (.iload 8, 2) := by decide +kernel
theorem dX4_waysOfFew_49 : decode cX4_waysOfFew 49 = .ok (.isub, 1) := by decide +kernel
theorem dX4_waysOfFew_50 : decode cX4_waysOfFew 50 = .ok (.i2l, 1) := by decide +kernel
theorem dX4_waysOfFew_51 : decode cX4_waysOfFew 51 = .ok (.lmul, 1) := by decide +kernel
theorem dX4_waysOfFew_52 : decode cX4_waysOfFew 52 = .ok (.iload 8, 2) := by decide +kernel
theorem dX4_waysOfFew_54 : decode cX4_waysOfFew 54 = .ok (.iconst 1, 1) := by decide +kernel
theorem dX4_waysOfFew_55 : decode cX4_waysOfFew 55 = .ok (.iadd, 1) := by decide +kernel
theorem dX4_waysOfFew_56 : decode cX4_waysOfFew 56 = .ok (.i2l, 1) := by decide +kernel
theorem dX4_waysOfFew_57 : decode cX4_waysOfFew 57 = .ok (.ldiv, 1) := by decide +kernel
theorem dX4_waysOfFew_58 : decode cX4_waysOfFew 58 = .ok (.lstore 6, 2) := by decide +kernel
theorem dX4_waysOfFew_60 : decode cX4_waysOfFew 60 = .ok (.iinc 8 1, 3) := by decide +kernel
theorem dX4_waysOfFew_63 : decode cX4_waysOfFew 63 = .ok (.goto (-54), 3) := by decide +kernel
theorem dX4_waysOfFew_66 : decode cX4_waysOfFew 66 = .ok (.lload 4, 2) := by decide +kernel
theorem dX4_waysOfFew_68 : decode cX4_waysOfFew 68 = .ok (.lreturn, 1) := by decide +kernel
theorem dX4_power_0 : decode cX4_power 0 = .ok (.lconst 1, 1) := by decide +kernel
theorem dX4_power_1 : decode cX4_power 1 = .ok (.lstore_n 2, 1) := by decide +kernel
theorem dX4_power_2 : decode cX4_power 2 = .ok (.iconst 0, 1) := by decide +kernel
theorem dX4_power_3 : decode cX4_power 3 = .ok (.istore 4, 2) := by decide +kernel
theorem dX4_power_5 : decode cX4_power 5 = .ok (.iload 4, 2) := by decide +kernel
theorem dX4_power_7 : decode cX4_power 7 = .ok (.iload_n 1, 1) := by decide +kernel
theorem dX4_power_8 : decode cX4_power 8 = .ok (.if_icmp .ge 14, 3) := by decide +kernel
theorem dX4_power_11 : decode cX4_power 11 = .ok (.lload_n 2, 1) := by decide +kernel
theorem dX4_power_12 : decode cX4_power 12 = .ok (.iload_n 0, 1) := by decide +kernel
theorem dX4_power_13 : decode cX4_power 13 = .ok (.i2l, 1) := by decide +kernel
theorem dX4_power_14 : decode cX4_power 14 = .ok (.lmul, 1) := by decide +kernel
theorem dX4_power_15 : decode cX4_power 15 = .ok (.lstore_n 2, 1) := by decide +kernel
theorem dX4_power_16 : decode cX4_power 16 = .ok (.iinc 4 1, 3) := by decide +kernel
theorem dX4_power_19 : decode cX4_power 19 = .ok (.goto (-14), 3) := by decide +kernel
theorem dX4_power_22 : decode cX4_power 22 = .ok (.lload_n 2, 1) := by decide +kernel
theorem dX4_power_23 : decode cX4_power 23 = .ok (.lreturn, 1) := by decide +kernel
theorem dX4_commonDivisor_0 : decode cX4_commonDivisor 0 = .ok (.lload_n 0, 1) := by decide +kernel
theorem dX4_commonDivisor_1 : decode cX4_commonDivisor 1 = .ok (.lstore 4, 2) := by decide +kernel
theorem dX4_commonDivisor_3 : decode cX4_commonDivisor 3 = .ok (.lload_n 2, 1) := by decide +kernel
theorem dX4_commonDivisor_4 : decode cX4_commonDivisor 4 = .ok (.lstore 6, 2) := by decide +kernel
theorem dX4_commonDivisor_6 : decode cX4_commonDivisor 6 = .ok (.iconst 0, 1) := by decide +kernel
theorem dX4_commonDivisor_7 : decode cX4_commonDivisor 7 = .ok (.istore 8, 2) := by decide +kernel
theorem dX4_commonDivisor_9 : decode cX4_commonDivisor 9 = .ok (.iload 8, 2) := by decide +kernel
theorem dX4_commonDivisor_11 : decode cX4_commonDivisor 11 = .ok (.sipush 1000, 3) := by decide +kernel
theorem dX4_commonDivisor_14 : decode cX4_commonDivisor 14 = .ok (.if_icmp .ge 31, 3) := by decide +kernel
theorem dX4_commonDivisor_17 : decode cX4_commonDivisor 17 = .ok (.lload 6, 2) := by decide +kernel
theorem dX4_commonDivisor_19 : decode cX4_commonDivisor 19 = .ok (.lconst 0, 1) := by decide +kernel
theorem dX4_commonDivisor_20 : decode cX4_commonDivisor 20 = .ok (.lcmp, 1) := by decide +kernel
theorem dX4_commonDivisor_21 : decode cX4_commonDivisor 21 = .ok (.ifCond .eq 24, 3) := by decide +kernel
theorem dX4_commonDivisor_24 : decode cX4_commonDivisor 24 = .ok (.lload 4, 2) := by decide +kernel
theorem dX4_commonDivisor_26 : decode cX4_commonDivisor 26 = .ok (.lload 6, 2) := by decide +kernel
theorem dX4_commonDivisor_28 : decode cX4_commonDivisor 28 = .ok (.lrem, 1) := by decide +kernel
theorem dX4_commonDivisor_29 : decode cX4_commonDivisor 29 = .ok (.lstore 9, 2) := by decide +kernel
theorem dX4_commonDivisor_31 : decode cX4_commonDivisor 31 = .ok (.lload 6, 2) := by decide +kernel
theorem dX4_commonDivisor_33 : decode cX4_commonDivisor 33 = .ok (.lstore 4, 2) := by decide +kernel
theorem dX4_commonDivisor_35 : decode cX4_commonDivisor 35 = .ok (.lload 9, 2) := by decide +kernel
theorem dX4_commonDivisor_37 : decode cX4_commonDivisor 37 = .ok (.lstore 6, 2) := by decide +kernel
theorem dX4_commonDivisor_39 : decode cX4_commonDivisor 39 = .ok (.iinc 8 1, 3) := by decide +kernel
theorem dX4_commonDivisor_42 : decode cX4_commonDivisor 42 = .ok (.goto (-33), 3) := by decide +kernel
theorem dX4_commonDivisor_45 : decode cX4_commonDivisor 45 = .ok (.lload 4, 2) := by decide +kernel
theorem dX4_commonDivisor_47 : decode cX4_commonDivisor 47 = .ok (.lreturn, 1) := by decide +kernel
theorem dX5_init_0 : decode cX5_init 0 = .ok (.aload_n 0, 1) := by decide +kernel
theorem dX5_init_1 : decode cX5_init 1 = .ok (.invokespecial 1, 3) := by decide +kernel
theorem dX5_init_4 : decode cX5_init 4 = .ok (.aload_n 0, 1) := by decide +kernel
theorem dX5_init_5 : decode cX5_init 5 = .ok (.sipush 256, 3) := by decide +kernel
theorem dX5_init_8 : decode cX5_init 8 = .ok (.newarray .double, 2) := by decide +kernel
theorem dX5_init_10 : decode cX5_init 10 = .ok (.putfield 7, 3) := by decide +kernel
theorem dX5_init_13 : decode cX5_init 13 = .ok (.aload_n 0, 1) := by decide +kernel
theorem dX5_init_14 : decode cX5_init 14 = .ok (.bipush 32, 2) := by decide +kernel
theorem dX5_init_16 : decode cX5_init 16 = .ok (.newarray .int, 2) := by decide +kernel
theorem dX5_init_18 : decode cX5_init 18 = .ok (.putfield 13, 3) := by decide +kernel
theorem dX5_init_21 : decode cX5_init 21 = .ok (.aload_n 0, 1) := by decide +kernel
theorem dX5_init_22 : decode cX5_init 22 = .ok (.bipush 32, 2) := by decide +kernel
theorem dX5_init_24 : decode cX5_init 24 = .ok (.newarray .double, 2) := by decide +kernel
theorem dX5_init_26 : decode cX5_init 26 = .ok (.putfield 17, 3) := by decide +kernel
theorem dX5_init_29 : decode cX5_init 29 = .ok (.aload_n 0, 1) := by decide +kernel
theorem dX5_init_30 : decode cX5_init 30 = .ok (.bipush 32, 2) := by decide +kernel
theorem dX5_init_32 : decode cX5_init 32 = .ok (.newarray .double, 2) := by decide +kernel
theorem dX5_init_34 : decode cX5_init 34 = .ok (.putfield 20, 3) := by decide +kernel
theorem dX5_init_37 : decode cX5_init 37 = .ok (.aload_n 0, 1) := by decide +kernel
theorem dX5_init_38 : decode cX5_init 38 = .ok (.bipush 32, 2) := by decide +kernel
theorem dX5_init_40 : decode cX5_init 40 = .ok (.newarray .double, 2) := by decide +kernel
theorem dX5_init_42 : decode cX5_init 42 = .ok (.putfield 23, 3) := by decide +kernel
theorem dX5_init_45 : decode cX5_init 45 = .ok (.aload_n 0, 1) := by decide +kernel
theorem dX5_init_46 : decode cX5_init 46 = .ok (.bipush 32, 2) := by decide +kernel
theorem dX5_init_48 : decode cX5_init 48 = .ok (.newarray .boolean, 2) := by decide +kernel
theorem dX5_init_50 : decode cX5_init 50 = .ok (.putfield 26, 3) := by decide +kernel
theorem dX5_init_53 : decode cX5_init 53 = .ok (.aload_n 0, 1) := by decide +kernel
theorem dX5_init_54 : decode cX5_init 54 = .ok (.bipush 32, 2) := by decide +kernel
theorem dX5_init_56 : decode cX5_init 56 = .ok (.newarray .boolean, 2) := by decide +kernel
theorem dX5_init_58 : decode cX5_init 58 = .ok (.putfield 30, 3) := by decide +kernel
theorem dX5_init_61 : decode cX5_init 61 = .ok (.aload_n 0, 1) := by decide +kernel
theorem dX5_init_62 : decode cX5_init 62 = .ok (.bipush 9, 2) := by decide +kernel
theorem dX5_init_64 : decode cX5_init 64 = .ok (.newarray .double, 2) := by decide +kernel
theorem dX5_init_66 : decode cX5_init 66 = .ok (.putfield 33, 3) := by decide +kernel
theorem dX5_init_69 : decode cX5_init 69 = .ok (.aload_n 0, 1) := by decide +kernel
theorem dX5_init_70 : decode cX5_init 70 = .ok (.iconst 3, 1) := by decide +kernel
theorem dX5_init_71 : decode cX5_init 71 = .ok (.newarray .double, 2) := by decide +kernel
theorem dX5_init_73 : decode cX5_init 73 = .ok (.putfield 36, 3) := by decide +kernel
theorem dX5_init_76 : decode cX5_init 76 = .ok (.aload_n 0, 1) := by decide +kernel
theorem dX5_init_77 : decode cX5_init 77 = .ok (.iconst 3, 1) := by decide +kernel
theorem dX5_init_78 : decode cX5_init 78 = .ok (.newarray .boolean, 2) := by decide +kernel
theorem dX5_init_80 : decode cX5_init 80 = .ok (.putfield 39, 3) := by decide +kernel
theorem dX5_init_83 : decode cX5_init 83 = .ok (.aload_n 0, 1) := by decide +kernel
theorem dX5_init_84 : decode cX5_init 84 = .ok (.iconst 3, 1) := by decide +kernel
theorem dX5_init_85 : decode cX5_init 85 = .ok (.newarray .double, 2) := by decide +kernel
theorem dX5_init_87 : decode cX5_init 87 = .ok (.putfield 42, 3) := by decide +kernel
theorem dX5_init_90 : decode cX5_init 90 = .ok (.aload_n 0, 1) := by decide +kernel
theorem dX5_init_91 : decode cX5_init 91 = .ok (.iconst 3, 1) := by decide +kernel
theorem dX5_init_92 : decode cX5_init 92 = .ok (.newarray .double, 2) := by decide +kernel
theorem dX5_init_94 : decode cX5_init 94 = .ok (.putfield 45, 3) := by decide +kernel
theorem dX5_init_97 : decode cX5_init 97 = .ok (.aload_n 0, 1) := by decide +kernel
theorem dX5_init_98 : decode cX5_init 98 = .ok (.iconst 4, 1) := by decide +kernel
theorem dX5_init_99 : decode cX5_init 99 = .ok (.newarray .double, 2) := by decide +kernel
theorem dX5_init_101 : decode cX5_init 101 = .ok (.dup, 1) := by decide +kernel
theorem dX5_init_102 : decode cX5_init 102 = .ok (.iconst 0, 1) := by decide +kernel
theorem dX5_init_103 : decode cX5_init 103 = .ok (.ldc2_w 48, 3) := by decide +kernel
theorem dX5_init_106 : decode cX5_init 106 = .ok (.dastore, 1) := by decide +kernel
theorem dX5_init_107 : decode cX5_init 107 = .ok (.dup, 1) := by decide +kernel
theorem dX5_init_108 : decode cX5_init 108 = .ok (.iconst 1, 1) := by decide +kernel
theorem dX5_init_109 : decode cX5_init 109 = .ok (.ldc2_w 48, 3) := by decide +kernel
theorem dX5_init_112 : decode cX5_init 112 = .ok (.dastore, 1) := by decide +kernel
theorem dX5_init_113 : decode cX5_init 113 = .ok (.dup, 1) := by decide +kernel
theorem dX5_init_114 : decode cX5_init 114 = .ok (.iconst 2, 1) := by decide +kernel
theorem dX5_init_115 : decode cX5_init 115 = .ok (.ldc2_w 48, 3) := by decide +kernel
theorem dX5_init_118 : decode cX5_init 118 = .ok (.dastore, 1) := by decide +kernel
theorem dX5_init_119 : decode cX5_init 119 = .ok (.dup, 1) := by decide +kernel
theorem dX5_init_120 : decode cX5_init 120 = .ok (.iconst 3, 1) := by decide +kernel
theorem dX5_init_121 : decode cX5_init 121 = .ok (.ldc2_w 48, 3) := by decide +kernel
theorem dX5_init_124 : decode cX5_init 124 = .ok (.dastore, 1) := by decide +kernel
theorem dX5_init_125 : decode cX5_init 125 = .ok (.putfield 50, 3) := by decide +kernel
theorem dX5_init_128 : decode cX5_init 128 = .ok (.aload_n 0, 1) := by decide +kernel
theorem dX5_init_129 : decode cX5_init 129 = .ok (.bipush 10, 2) := by decide +kernel
theorem dX5_init_131 : decode cX5_init 131 = .ok (.putfield 53, 3) := by decide +kernel
theorem dX5_init_134 : decode cX5_init 134 = .ok (.aload_n 0, 1) := by decide +kernel
theorem dX5_init_135 : decode cX5_init 135 = .ok (.iconst 1, 1) := by decide +kernel
theorem dX5_init_136 : decode cX5_init 136 = .ok (.putfield 57, 3) := by decide +kernel
theorem dX5_init_139 : decode cX5_init 139 = .ok (.aload_n 0, 1) := by decide +kernel
theorem dX5_init_140 : decode cX5_init 140 = .ok (.sipush 8192, 3) := by decide +kernel
theorem dX5_init_143 : decode cX5_init 143 = .ok (.newarray .boolean, 2) := by decide +kernel
theorem dX5_init_145 : decode cX5_init 145 = .ok (.putfield 60, 3) := by decide +kernel
theorem dX5_init_148 : decode cX5_init 148 = .ok (.aload_n 0, 1) := by decide +kernel
theorem dX5_init_149 : decode cX5_init 149 = .ok (.bipush 16, 2) := by decide +kernel
theorem dX5_init_151 : decode cX5_init 151 = .ok (.newarray .int, 2) := by decide +kernel
theorem dX5_init_153 : decode cX5_init 153 = .ok (.putfield 63, 3) := by decide +kernel
theorem dX5_init_156 : decode cX5_init 156 = .ok (.aload_n 0, 1) := by decide +kernel
theorem dX5_init_157 : decode cX5_init 157 = .ok (.bipush 16, 2) := by decide +kernel
theorem dX5_init_159 : decode cX5_init 159 = .ok (.newarray .double, 2) := by decide +kernel
theorem dX5_init_161 : decode cX5_init 161 = .ok (.putfield 66, 3) := by decide +kernel
theorem dX5_init_164 : decode cX5_init 164 = .ok (.aload_n 0, 1) := by decide +kernel
theorem dX5_init_165 : decode cX5_init 165 = .ok (.iload_n 1, 1) := by decide +kernel
theorem dX5_init_166 : decode cX5_init 166 = .ok (.i2l, 1) := by decide +kernel
theorem dX5_init_167 : decode cX5_init 167 = .ok (.putfield 69, 3) := by decide +kernel
theorem dX5_init_170 : decode cX5_init 170 = .ok (.return_, 1) := by decide +kernel
theorem dX5_thrown_0 : decode cX5_thrown 0 = .ok (.aload_n 0, 1) := by decide +kernel
theorem dX5_thrown_1 : decode cX5_thrown 1 = .ok (.getfield 73, 3) := by decide +kernel
theorem dX5_thrown_4 : decode cX5_thrown 4 = .ok (.ireturn, 1) := by decide +kernel
theorem dX5_between_0 : decode cX5_between 0 = .ok (.dload_n 0, 1) := by decide +kernel
theorem dX5_between_1 : decode cX5_between 1 = .ok (.dload_n 2, 1) := by decide +kernel
theorem dX5_between_2 : decode cX5_between 2 = .ok (.dcmp .l, 1) := by decide +kernel
theorem dX5_between_3 : decode cX5_between 3 = .ok (.ifCond .lt 14, 3) := by decide +kernel
theorem dX5_between_6 : decode cX5_between 6 = .ok (.dload_n 0, 1) := by decide +kernel
theorem dX5_between_7 : decode cX5_between 7 = .ok (.dload 4, 2) := by decide +kernel
theorem dX5_between_9 : decode cX5_between 9 = .ok (.dcmp .g, 1) := by decide +kernel
theorem dX5_between_10 : decode cX5_between 10 = .ok (.ifCond .gt 7, 3) := by decide +kernel
theorem dX5_between_13 : decode cX5_between 13 = .ok (.iconst 1, 1) := by decide +kernel
theorem dX5_between_14 : decode cX5_between 14 = .ok (.goto 4, 3) := by decide +kernel
theorem dX5_between_17 : decode cX5_between 17 = .ok (.iconst 0, 1) := by decide +kernel
theorem dX5_between_18 : decode cX5_between 18 = .ok (.ireturn, 1) := by decide +kernel
theorem dX5_noBoard_0 : decode cX5_noBoard 0 = .ok (.iload_n 1, 1) := by decide +kernel
theorem dX5_noBoard_1 : decode cX5_noBoard 1 = .ok (.ifCond .lt 11, 3) := by decide +kernel
theorem dX5_noBoard_4 : decode cX5_noBoard 4 = .ok (.iload_n 1, 1) := by decide +kernel
theorem dX5_noBoard_5 : decode cX5_noBoard 5 = .ok (.aload_n 0, 1) := by decide +kernel
theorem dX5_noBoard_6 : decode cX5_noBoard 6 = .ok (.getfield 76, 3) := by decide +kernel
theorem dX5_noBoard_9 : decode cX5_noBoard 9 = .ok (.if_icmp .lt 7, 3) := by decide +kernel
theorem dX5_noBoard_12 : decode cX5_noBoard 12 = .ok (.iconst 1, 1) := by decide +kernel
theorem dX5_noBoard_13 : decode cX5_noBoard 13 = .ok (.goto 4, 3) := by decide +kernel
theorem dX5_noBoard_16 : decode cX5_noBoard 16 = .ok (.iconst 0, 1) := by decide +kernel
theorem dX5_noBoard_17 : decode cX5_noBoard 17 = .ok (.ireturn, 1) := by decide +kernel
theorem dX5_board_0 : decode cX5_board 0 = .ok (.aload_n 0, 1) := by decide +kernel
theorem dX5_board_1 : decode cX5_board 1 = .ok (.aload_n 0, 1) := by decide +kernel
theorem dX5_board_2 : decode cX5_board 2 = .ok (.getfield 76, 3) := by decide +kernel
theorem dX5_board_5 : decode cX5_board 5 = .ok (.bipush 32, 2) := by decide +kernel
theorem dX5_board_7 : decode cX5_board 7 = .ok (.if_icmp .ne 7, 3) := by decide +kernel
theorem dX5_board_10 : decode cX5_board 10 = .ok (.iconst 1, 1) := by decide +kernel
theorem dX5_board_11 : decode cX5_board 11 = .ok (.goto 4, 3) := by decide +kernel
theorem dX5_board_14 : decode cX5_board 14 = .ok (.iconst 0, 1) := by decide +kernel
theorem dX5_board_15 : decode cX5_board 15 = .ok (.putfield 73, 3) := by decide +kernel
theorem dX5_board_18 : decode cX5_board 18 = .ok (.aload_n 0, 1) := by decide +kernel
theorem dX5_board_19 : decode cX5_board 19 = .ok (.getfield 73, 3) := by decide +kernel
theorem dX5_board_22 : decode cX5_board 22 = .ok (.ifCond .le 5, 3) := by decide +kernel
theorem dX5_board_25 : decode cX5_board 25 = .ok (.iconst 0, 1) := by decide +kernel
theorem dX5_board_26 : decode cX5_board 26 = .ok (.ireturn, 1) := by decide +kernel
theorem dX5_board_27 : decode cX5_board 27 = .ok (.aload_n 0, 1) := by decide +kernel
theorem dX5_board_28 : decode cX5_board 28 = .ok (.dup, 1) := by decide +kernel
theorem dX5_board_29 : decode cX5_board 29 = .ok (.getfield 76, 3) := by decide +kernel
theorem dX5_board_32 : decode cX5_board 32 = .ok (.iconst 1, 1) := by decide +kernel
theorem dX5_board_33 : decode cX5_board 33 = .ok (.iadd, 1) := by decide +kernel
theorem dX5_board_34 : decode cX5_board 34 = .ok (.putfield 76, 3) := by decide +kernel
theorem dX5_board_37 : decode cX5_board 37 = .ok (.aload_n 0, 1) := by decide +kernel
theorem dX5_board_38 : decode cX5_board 38 = .ok (.getfield 76, 3) := by decide +kernel
theorem dX5_board_41 : decode cX5_board 41 = .ok (.iconst 1, 1) := by decide +kernel
theorem dX5_board_42 : decode cX5_board 42 = .ok (.isub, 1) := by decide +kernel
theorem dX5_board_43 : decode cX5_board 43 = .ok (.ireturn, 1) := by decide +kernel
theorem dX5_row_0 : decode cX5_row 0 = .ok (.aload_n 0, 1) := by decide +kernel
theorem dX5_row_1 : decode cX5_row 1 = .ok (.aload_n 0, 1) := by decide +kernel
theorem dX5_row_2 : decode cX5_row 2 = .ok (.iload_n 1, 1) := by decide +kernel
theorem dX5_row_3 : decode cX5_row 3 = .ok (.invokevirtual 79, 3) := by decide +kernel
theorem dX5_row_6 : decode cX5_row 6 = .ok (.ifCond .eq 7, 3) := by decide +kernel
theorem dX5_row_9 : decode cX5_row 9 = .ok (.iconst 1, 1) := by decide +kernel
theorem dX5_row_10 : decode cX5_row 10 = .ok (.goto 34, 3) := by decide +kernel
theorem dX5_row_13 : decode cX5_row 13 = .ok (.dload_n 2, 1) := by decide +kernel
theorem dX5_row_14 : decode cX5_row 14 = .ok (.dconst 0, 1) := by decide +kernel
theorem dX5_row_15 : decode cX5_row 15 = .ok (.ldc2_w 83, 3) := by decide +kernel
theorem dX5_row_18 : decode cX5_row 18 = .ok (.invokestatic 85, 3) := by decide +kernel
theorem dX5_row_21 : decode cX5_row 21 = .ok (.ifCond .ne 7, 3) := by decide +kernel
theorem dX5_row_24 : decode cX5_row 24 = .ok (.iconst 2, 1) := by decide +kernel
theorem dX5_row_25 : decode cX5_row 25 = .ok (.goto 19, 3) := by decide +kernel
theorem dX5_row_28 : decode cX5_row 28 = .ok (.aload_n 0, 1) := by decide +kernel
theorem dX5_row_29 : decode cX5_row 29 = .ok (.getfield 13, 3) := by decide +kernel
theorem dX5_row_32 : decode cX5_row 32 = .ok (.iload_n 1, 1) := by decide +kernel
theorem dX5_row_33 : decode cX5_row 33 = .ok (.iaload, 1) := by decide +kernel
theorem dX5_row_34 : decode cX5_row 34 = .ok (.bipush 8, 2) := by decide +kernel
theorem dX5_row_36 : decode cX5_row 36 = .ok (.if_icmp .ne 7, 3) := by decide +kernel
theorem dX5_row_39 : decode cX5_row 39 = .ok (.iconst 3, 1) := by decide +kernel
theorem dX5_row_40 : decode cX5_row 40 = .ok (.goto 4, 3) := by decide +kernel
theorem dX5_row_43 : decode cX5_row 43 = .ok (.iconst 0, 1) := by decide +kernel
theorem dX5_row_44 : decode cX5_row 44 = .ok (.putfield 73, 3) := by decide +kernel
theorem dX5_row_47 : decode cX5_row 47 = .ok (.aload_n 0, 1) := by decide +kernel
theorem dX5_row_48 : decode cX5_row 48 = .ok (.getfield 73, 3) := by decide +kernel
theorem dX5_row_51 : decode cX5_row 51 = .ok (.ifCond .le 5, 3) := by decide +kernel
theorem dX5_row_54 : decode cX5_row 54 = .ok (.iconst 0, 1) := by decide +kernel
theorem dX5_row_55 : decode cX5_row 55 = .ok (.ireturn, 1) := by decide +kernel
theorem dX5_row_56 : decode cX5_row 56 = .ok (.aload_n 0, 1) := by decide +kernel
theorem dX5_row_57 : decode cX5_row 57 = .ok (.getfield 7, 3) := by decide +kernel
theorem dX5_row_60 : decode cX5_row 60 = .ok (.bipush 8, 2) := by decide +kernel
theorem dX5_row_62 : decode cX5_row 62 = .ok (.iload_n 1, 1) := by decide +kernel
theorem dX5_row_63 : decode cX5_row 63 = .ok (.imul, 1) := by decide +kernel
theorem dX5_row_64 : decode cX5_row 64 = .ok (.aload_n 0, 1) := by decide +kernel
theorem dX5_row_65 : decode cX5_row 65 = .ok (.getfield 13, 3) := by decide +kernel
theorem dX5_row_68 : decode cX5_row 68 = .ok (.iload_n 1, 1) := by decide +kernel
theorem dX5_row_69 : decode cX5_row 69 = .ok (.iaload, 1) := by decide +kernel
theorem dX5_row_70 : decode cX5_row 70 = .ok (.iadd, 1) := by decide +kernel
theorem dX5_row_71 : decode cX5_row 71 = .ok (.dload_n 2, 1) := by decide +kernel
theorem dX5_row_72 : decode cX5_row 72 = .ok (.dastore, 1) := by decide +kernel
theorem dX5_row_73 : decode cX5_row 73 = .ok (.aload_n 0, 1) := by decide +kernel
theorem dX5_row_74 : decode cX5_row 74 = .ok (.getfield 13, 3) := by decide +kernel
theorem dX5_row_77 : decode cX5_row 77 = .ok (.iload_n 1, 1) := by decide +kernel
theorem dX5_row_78 : decode cX5_row 78 = .ok (.dup2, 1) := by decide +kernel
theorem dX5_row_79 : decode cX5_row 79 = .ok (.iaload, 1) := by decide +kernel
theorem dX5_row_80 : decode cX5_row 80 = .ok (.iconst 1, 1) := by decide +kernel
theorem dX5_row_81 : decode cX5_row 81 = .ok (.iadd, 1) := by decide +kernel
theorem dX5_row_82 : decode cX5_row 82 = .ok (.iastore, 1) := by decide +kernel
theorem dX5_row_83 : decode cX5_row 83 = .ok (.aload_n 0, 1) := by decide +kernel
theorem dX5_row_84 : decode cX5_row 84 = .ok (.getfield 13, 3) := by decide +kernel
theorem dX5_row_87 : decode cX5_row 87 = .ok (.iload_n 1, 1) := by decide +kernel
theorem dX5_row_88 : decode cX5_row 88 = .ok (.iaload, 1) := by decide +kernel
theorem dX5_row_89 : decode cX5_row 89 = .ok (.ireturn, 1) := by decide +kernel
theorem dX5_echo_0 : decode cX5_echo 0 = .ok (.aload_n 0, 1) := by decide +kernel
theorem dX5_echo_1 : decode cX5_echo 1 = .ok (.aload_n 0, 1) := by decide +kernel
theorem dX5_echo_2 : decode cX5_echo 2 = .ok (.iload_n 1, 1) := by decide +kernel
theorem dX5_echo_3 : decode cX5_echo 3 = .ok (.invokevirtual 79, 3) := by decide +kernel
theorem dX5_echo_6 : decode cX5_echo 6 = .ok (.ifCond .eq 7, 3) := by decide +kernel
theorem dX5_echo_9 : decode cX5_echo 9 = .ok (.iconst 1, 1) := by decide +kernel
theorem dX5_echo_10 : decode cX5_echo 10 = .ok (.goto 31, 3) := by decide +kernel
theorem dX5_echo_13 : decode cX5_echo 13 = .ok (.dload_n 2, 1) := by decide +kernel
theorem dX5_echo_14 : decode cX5_echo 14 = .ok (.dconst 0, 1) := by decide +kernel
theorem dX5_echo_15 : decode cX5_echo 15 = .ok (.ldc2_w 89, 3) := by decide +kernel
theorem dX5_echo_18 : decode cX5_echo 18 = .ok (.invokestatic 85, 3) := by decide +kernel
theorem dX5_echo_21 : decode cX5_echo 21 = .ok (.ifCond .eq 19, 3) := by decide +kernel
theorem dX5_echo_24 : decode cX5_echo 24 = .ok (.dload 4, 2) := by decide +kernel
theorem dX5_echo_26 : decode cX5_echo 26 = .ok (.dconst 0, 1) := by decide +kernel
theorem dX5_echo_27 : decode cX5_echo 27 = .ok (.ldc2_w 91, 3) := by decide +kernel
theorem dX5_echo_30 : decode cX5_echo 30 = .ok (.invokestatic 85, 3) := by decide +kernel
theorem dX5_echo_33 : decode cX5_echo 33 = .ok (.ifCond .eq 7, 3) := by decide +kernel
theorem dX5_echo_36 : decode cX5_echo 36 = .ok (.iconst 0, 1) := by decide +kernel
theorem dX5_echo_37 : decode cX5_echo 37 = .ok (.goto 4, 3) := by decide +kernel
theorem dX5_echo_40 : decode cX5_echo 40 = .ok (.iconst 2, 1) := by decide +kernel
theorem dX5_echo_41 : decode cX5_echo 41 = .ok (.putfield 73, 3) := by decide +kernel
theorem dX5_echo_44 : decode cX5_echo 44 = .ok (.aload_n 0, 1) := by decide +kernel
theorem dX5_echo_45 : decode cX5_echo 45 = .ok (.getfield 73, 3) := by decide +kernel
theorem dX5_echo_48 : decode cX5_echo 48 = .ok (.ifCond .ne 15, 3) := by decide +kernel
theorem dX5_echo_51 : decode cX5_echo 51 = .ok (.aload_n 0, 1) := by decide +kernel
theorem dX5_echo_52 : decode cX5_echo 52 = .ok (.getfield 17, 3) := by decide +kernel
theorem dX5_echo_55 : decode cX5_echo 55 = .ok (.iload_n 1, 1) := by decide +kernel
theorem dX5_echo_56 : decode cX5_echo 56 = .ok (.dload 4, 2) := by decide +kernel
theorem dX5_echo_58 : decode cX5_echo 58 = .ok (.dload_n 2, 1) := by decide +kernel
theorem dX5_echo_59 : decode cX5_echo 59 = .ok (.dmul, 1) := by decide +kernel
theorem dX5_echo_60 : decode cX5_echo 60 = .ok (.dload_n 2, 1) := by decide +kernel
theorem dX5_echo_61 : decode cX5_echo 61 = .ok (.dmul, 1) := by decide +kernel
theorem dX5_echo_62 : decode cX5_echo 62 = .ok (.dastore, 1) := by decide +kernel
theorem dX5_echo_63 : decode cX5_echo 63 = .ok (.return_, 1) := by decide +kernel
theorem dX5_knots_0 : decode cX5_knots 0 = .ok (.aload_n 0, 1) := by decide +kernel
theorem dX5_knots_1 : decode cX5_knots 1 = .ok (.aload_n 0, 1) := by decide +kernel
theorem dX5_knots_2 : decode cX5_knots 2 = .ok (.iload_n 1, 1) := by decide +kernel
theorem dX5_knots_3 : decode cX5_knots 3 = .ok (.invokevirtual 79, 3) := by decide +kernel
theorem dX5_knots_6 : decode cX5_knots 6 = .ok (.ifCond .eq 7, 3) := by decide +kernel
theorem dX5_knots_9 : decode cX5_knots 9 = .ok (.iconst 1, 1) := by decide +kernel
theorem dX5_knots_10 : decode cX5_knots 10 = .ok (.goto 17, 3) := by decide +kernel
theorem dX5_knots_13 : decode cX5_knots 13 = .ok (.dload_n 2, 1) := by decide +kernel
theorem dX5_knots_14 : decode cX5_knots 14 = .ok (.dconst 0, 1) := by decide +kernel
theorem dX5_knots_15 : decode cX5_knots 15 = .ok (.dconst 1, 1) := by decide +kernel
theorem dX5_knots_16 : decode cX5_knots 16 = .ok (.invokestatic 85, 3) := by decide +kernel
theorem dX5_knots_19 : decode cX5_knots 19 = .ok (.ifCond .eq 7, 3) := by decide +kernel
theorem dX5_knots_22 : decode cX5_knots 22 = .ok (.iconst 0, 1) := by decide +kernel
theorem dX5_knots_23 : decode cX5_knots 23 = .ok (.goto 4, 3) := by decide +kernel
theorem dX5_knots_26 : decode cX5_knots 26 = .ok (.iconst 2, 1) := by decide +kernel
theorem dX5_knots_27 : decode cX5_knots 27 = .ok (.putfield 73, 3) := by decide +kernel
theorem dX5_knots_30 : decode cX5_knots 30 = .ok (.aload_n 0, 1) := by decide +kernel
theorem dX5_knots_31 : decode cX5_knots 31 = .ok (.getfield 73, 3) := by decide +kernel
theorem dX5_knots_34 : decode cX5_knots 34 = .ok (.ifCond .ne 10, 3) := by decide +kernel
theorem dX5_knots_37 : decode cX5_knots 37 = .ok (.aload_n 0, 1) := by decide +kernel
theorem dX5_knots_38 : decode cX5_knots 38 = .ok (.getfield 20, 3) := by decide +kernel
theorem dX5_knots_41 : decode cX5_knots 41 = .ok (.iload_n 1, 1) := by decide +kernel
theorem dX5_knots_42 : decode cX5_knots 42 = .ok (.dload_n 2, 1) := by decide +kernel
theorem dX5_knots_43 : decode cX5_knots 43 = .ok (.dastore, 1) := by decide +kernel
theorem dX5_knots_44 : decode cX5_knots 44 = .ok (.return_, 1) := by decide +kernel
theorem dX5_broken_0 : decode cX5_broken 0 = .ok (.aload_n 0, 1) := by decide +kernel
theorem dX5_broken_1 : decode cX5_broken 1 = .ok (.aload_n 0, 1) := by decide +kernel
theorem dX5_broken_2 : decode cX5_broken 2 = .ok (.iload_n 1, 1) := by decide +kernel
theorem dX5_broken_3 : decode cX5_broken 3 = .ok (.invokevirtual 79, 3) := by decide +kernel
theorem dX5_broken_6 : decode cX5_broken 6 = .ok (.ifCond .eq 7, 3) := by decide +kernel
theorem dX5_broken_9 : decode cX5_broken 9 = .ok (.iconst 1, 1) := by decide +kernel
theorem dX5_broken_10 : decode cX5_broken 10 = .ok (.goto 41, 3) := by decide +kernel
theorem dX5_broken_13 : decode cX5_broken 13 = .ok (.dload_n 2, 1) := by decide +kernel
theorem dX5_broken_14 : decode cX5_broken 14 = .ok (.dconst 0, 1) := by decide +kernel
theorem dX5_broken_15 : decode cX5_broken 15 = .ok (.ldc2_w 83, 3) := by decide +kernel
theorem dX5_broken_18 : decode cX5_broken 18 = .ok (.invokestatic 85, 3) := by decide +kernel
theorem dX5_broken_21 : decode cX5_broken 21 = .ok (.ifCond .ne 7, 3) := by decide +kernel
theorem dX5_broken_24 : decode cX5_broken 24 = .ok (.iconst 2, 1) := by decide +kernel
theorem dX5_broken_25 : decode cX5_broken 25 = .ok (.goto 26, 3) := by decide +kernel
theorem dX5_broken_28 : decode cX5_broken 28 = .ok (.aload_n 0, 1) := by decide +kernel
theorem dX5_broken_29 : decode cX5_broken 29 = .ok (.getfield 26, 3) := by decide +kernel
theorem dX5_broken_32 : decode cX5_broken 32 = .ok (.iload_n 1, 1) := by decide +kernel
theorem dX5_broken_33 : decode cX5_broken 33 = .ok (.baload, 1) := by decide +kernel
theorem dX5_broken_34 : decode cX5_broken 34 = .ok (.ifCond .ne 12, 3) := by decide +kernel
theorem dX5_broken_37 : decode cX5_broken 37 = .ok (.aload_n 0, 1) := by decide +kernel
theorem dX5_broken_38 : decode cX5_broken 38 = .ok (.getfield 30, 3) := by decide +kernel
theorem dX5_broken_41 : decode cX5_broken 41 = .ok (.iload_n 1, 1) := by decide +kernel
theorem dX5_broken_42 : decode cX5_broken 42 = .ok (.baload, 1) := by decide +kernel
theorem dX5_broken_43 : decode cX5_broken 43 = .ok (.ifCond .eq 7, 3) := by decide +kernel
theorem dX5_broken_46 : decode cX5_broken 46 = .ok (.iconst 3, 1) := by decide +kernel
theorem dX5_broken_47 : decode cX5_broken 47 = .ok (.goto 4, 3) := by decide +kernel
theorem dX5_broken_50 : decode cX5_broken 50 = .ok (.iconst 0, 1) := by decide +kernel
theorem dX5_broken_51 : decode cX5_broken 51 = .ok (.putfield 73, 3) := by decide +kernel
theorem dX5_broken_54 : decode cX5_broken 54 = .ok (.aload_n 0, 1) := by decide +kernel
theorem dX5_broken_55 : decode cX5_broken 55 = .ok (.getfield 73, 3) := by decide +kernel
theorem dX5_broken_58 : decode cX5_broken 58 = .ok (.ifCond .ne 17, 3) := by decide +kernel
theorem dX5_broken_61 : decode cX5_broken 61 = .ok (.aload_n 0, 1) := by decide +kernel
theorem dX5_broken_62 : decode cX5_broken 62 = .ok (.getfield 23, 3) := by decide +kernel
theorem dX5_broken_65 : decode cX5_broken 65 = .ok (.iload_n 1, 1) := by decide +kernel
theorem dX5_broken_66 : decode cX5_broken 66 = .ok (.dload_n 2, 1) := by decide +kernel
theorem dX5_broken_67 : decode cX5_broken 67 = .ok (.dastore, 1) := by decide +kernel
theorem dX5_broken_68 : decode cX5_broken 68 = .ok (.aload_n 0, 1) := by decide +kernel
theorem dX5_broken_69 : decode cX5_broken 69 = .ok (.getfield 26, 3) := by decide +kernel
theorem dX5_broken_72 : decode cX5_broken 72 = .ok (.iload_n 1, 1) := by decide +kernel
theorem dX5_broken_73 : decode cX5_broken 73 = .ok (.iconst 1, 1) := by decide +kernel
theorem dX5_broken_74 : decode cX5_broken 74 = .ok (.bastore, 1) := by decide +kernel
theorem dX5_broken_75 : decode cX5_broken 75 = .ok (.return_, 1) := by decide +kernel
theorem dX5_isComplete_0 : decode cX5_isComplete 0 = .ok (.aload_n 0, 1) := by decide +kernel
theorem dX5_isComplete_1 : decode cX5_isComplete 1 = .ok (.getfield 13, 3) := by decide +kernel
theorem dX5_isComplete_4 : decode cX5_isComplete 4 = .ok (.iload_n 1, 1) := by decide +kernel
theorem dX5_isComplete_5 : decode cX5_isComplete 5 = .ok (.iaload, 1) := by decide +kernel
theorem dX5_isComplete_6 : decode cX5_isComplete 6 = .ok (.ifCond .le 18, 3) := by decide +kernel
theorem dX5_isComplete_9 : decode cX5_isComplete 9 = .ok (.aload_n 0, 1) := by decide +kernel
theorem dX5_isComplete_10 : decode cX5_isComplete 10 = .ok (.getfield 17, 3) := by decide +kernel
theorem dX5_isComplete_13 : decode cX5_isComplete 13 = .ok (.iload_n 1, 1) := by decide +kernel
theorem dX5_isComplete_14 : decode cX5_isComplete 14 = .ok (.daload, 1) := by decide +kernel
theorem dX5_isComplete_15 : decode cX5_isComplete 15 = .ok (.dconst 0, 1) := by decide +kernel
theorem dX5_isComplete_16 : decode cX5_isComplete 16 = .ok (.dcmp .l, 1) := by decide +kernel
theorem dX5_isComplete_17 : decode cX5_isComplete 17 = .ok (.ifCond .le 7, 3) := by decide +kernel
theorem dX5_isComplete_20 : decode cX5_isComplete 20 = .ok (.iconst 1, 1) := by decide +kernel
theorem dX5_isComplete_21 : decode cX5_isComplete 21 = .ok (.goto 4, 3) := by decide +kernel
theorem dX5_isComplete_24 : decode cX5_isComplete 24 = .ok (.iconst 0, 1) := by decide +kernel
theorem dX5_isComplete_25 : decode cX5_isComplete 25 = .ok (.ireturn, 1) := by decide +kernel
theorem dX5_x_0 : decode cX5_x 0 = .ok (.iload_n 2, 1) := by decide +kernel
theorem dX5_x_1 : decode cX5_x 1 = .ok (.ifCond .ne 5, 3) := by decide +kernel
theorem dX5_x_4 : decode cX5_x 4 = .ok (.dconst 1, 1) := by decide +kernel
theorem dX5_x_5 : decode cX5_x 5 = .ok (.dreturn, 1) := by decide +kernel
theorem dX5_x_6 : decode cX5_x 6 = .ok (.iload_n 2, 1) := by decide +kernel
theorem dX5_x_7 : decode cX5_x 7 = .ok (.iconst 2, 1) := by decide +kernel
theorem dX5_x_8 : decode cX5_x 8 = .ok (.if_icmp .ne 12, 3) := by decide +kernel
theorem dX5_x_11 : decode cX5_x 11 = .ok (.dconst 1, 1) := by decide +kernel
theorem dX5_x_12 : decode cX5_x 12 = .ok (.aload_n 0, 1) := by decide +kernel
theorem dX5_x_13 : decode cX5_x 13 = .ok (.getfield 20, 3) := by decide +kernel
theorem dX5_x_16 : decode cX5_x 16 = .ok (.iload_n 1, 1) := by decide +kernel
theorem dX5_x_17 : decode cX5_x 17 = .ok (.daload, 1) := by decide +kernel
theorem dX5_x_18 : decode cX5_x 18 = .ok (.dsub, 1) := by decide +kernel
theorem dX5_x_19 : decode cX5_x 19 = .ok (.dreturn, 1) := by decide +kernel
theorem dX5_x_20 : decode cX5_x 20 = .ok (.dconst 0, 1) := by decide +kernel
theorem dX5_x_21 : decode cX5_x 21 = .ok (.dstore_n 3, 1) := by decide +kernel
theorem dX5_x_22 : decode cX5_x 22 = .ok (.iconst 0, 1) := by decide +kernel
theorem dX5_x_23 : decode cX5_x 23 = .ok (.istore 5, 2) := by decide +kernel
theorem dX5_x_25 : decode cX5_x 25 = .ok (.iload 5, 2) := by decide +kernel
theorem dX5_x_27 : decode cX5_x 27 = .ok (.aload_n 0, 1) := by decide +kernel
theorem dX5_x_28 : decode cX5_x 28 = .ok (.getfield 13, 3) := by decide +kernel
theorem dX5_x_31 : decode cX5_x 31 = .ok (.iload_n 1, 1) := by decide +kernel
theorem dX5_x_32 : decode cX5_x 32 = .ok (.iaload, 1) := by decide +kernel
theorem dX5_x_33 : decode cX5_x 33 = .ok (.if_icmp .ge 24, 3) := by decide +kernel
theorem dX5_x_36 : decode cX5_x 36 = .ok (.dload_n 3, 1) := by decide +kernel
theorem dX5_x_37 : decode cX5_x 37 = .ok (.aload_n 0, 1) := by decide +kernel
theorem dX5_x_38 : decode cX5_x 38 = .ok (.getfield 7, 3) := by decide +kernel
theorem dX5_x_41 : decode cX5_x 41 = .ok (.bipush 8, 2) := by decide +kernel
theorem dX5_x_43 : decode cX5_x 43 = .ok (.iload_n 1, 1) := by decide +kernel
theorem dX5_x_44 : decode cX5_x 44 = .ok (.imul, 1) := by decide +kernel
theorem dX5_x_45 : decode cX5_x 45 = .ok (.iload 5, 2) := by decide +kernel
theorem dX5_x_47 : decode cX5_x 47 = .ok (.iadd, 1) := by decide +kernel
theorem dX5_x_48 : decode cX5_x 48 = .ok (.daload, 1) := by decide +kernel
theorem dX5_x_49 : decode cX5_x 49 = .ok (.dadd, 1) := by decide +kernel
theorem dX5_x_50 : decode cX5_x 50 = .ok (.dstore_n 3, 1) := by decide +kernel
theorem dX5_x_51 : decode cX5_x 51 = .ok (.iinc 5 1, 3) := by decide +kernel
theorem dX5_x_54 : decode cX5_x 54 = .ok (.goto (-29), 3) := by decide +kernel
theorem dX5_x_57 : decode cX5_x 57 = .ok (.dload_n 3, 1) := by decide +kernel
theorem dX5_x_58 : decode cX5_x 58 = .ok (.aload_n 0, 1) := by decide +kernel
theorem dX5_x_59 : decode cX5_x 59 = .ok (.getfield 13, 3) := by decide +kernel
theorem dX5_x_62 : decode cX5_x 62 = .ok (.iload_n 1, 1) := by decide +kernel
theorem dX5_x_63 : decode cX5_x 63 = .ok (.iaload, 1) := by decide +kernel
theorem dX5_x_64 : decode cX5_x 64 = .ok (.i2d, 1) := by decide +kernel
theorem dX5_x_65 : decode cX5_x 65 = .ok (.ddiv, 1) := by decide +kernel
theorem dX5_x_66 : decode cX5_x 66 = .ok (.aload_n 0, 1) := by decide +kernel
theorem dX5_x_67 : decode cX5_x 67 = .ok (.getfield 17, 3) := by decide +kernel
theorem dX5_x_70 : decode cX5_x 70 = .ok (.iload_n 1, 1) := by decide +kernel
theorem dX5_x_71 : decode cX5_x 71 = .ok (.daload, 1) := by decide +kernel
theorem dX5_x_72 : decode cX5_x 72 = .ok (.dadd, 1) := by decide +kernel
theorem dX5_x_73 : decode cX5_x 73 = .ok (.ldc2_w 93, 3) := by decide +kernel
theorem dX5_x_76 : decode cX5_x 76 = .ok (.ddiv, 1) := by decide +kernel
theorem dX5_x_77 : decode cX5_x 77 = .ok (.dreturn, 1) := by decide +kernel
theorem dX5_add_0 : decode cX5_add 0 = .ok (.iconst 0, 1) := by decide +kernel
theorem dX5_add_1 : decode cX5_add 1 = .ok (.istore_n 2, 1) := by decide +kernel
theorem dX5_add_2 : decode cX5_add 2 = .ok (.iload_n 2, 1) := by decide +kernel
theorem dX5_add_3 : decode cX5_add 3 = .ok (.iconst 3, 1) := by decide +kernel
theorem dX5_add_4 : decode cX5_add 4 = .ok (.if_icmp .ge 82, 3) := by decide +kernel
theorem dX5_add_7 : decode cX5_add 7 = .ok (.iconst 0, 1) := by decide +kernel
theorem dX5_add_8 : decode cX5_add 8 = .ok (.istore_n 3, 1) := by decide +kernel
theorem dX5_add_9 : decode cX5_add 9 = .ok (.iload_n 3, 1) := by decide +kernel
theorem dX5_add_10 : decode cX5_add 10 = .ok (.iconst 3, 1) := by decide +kernel
theorem dX5_add_11 : decode cX5_add 11 = .ok (.if_icmp .ge 43, 3) := by decide +kernel
theorem dX5_add_14 : decode cX5_add 14 = .ok (.aload_n 0, 1) := by decide +kernel
theorem dX5_add_15 : decode cX5_add 15 = .ok (.getfield 33, 3) := by decide +kernel
theorem dX5_add_18 : decode cX5_add 18 = .ok (.iconst 3, 1) := by decide +kernel
theorem dX5_add_19 : decode cX5_add 19 = .ok (.iload_n 2, 1) := by decide +kernel
theorem dX5_add_20 : decode cX5_add 20 = .ok (.imul, 1) := by decide +kernel
theorem dX5_add_21 : decode cX5_add 21 = .ok (.iload_n 3, 1) := by decide +kernel
theorem dX5_add_22 : decode cX5_add 22 = .ok (.iadd, 1) := by decide +kernel
theorem dX5_add_23 : decode cX5_add 23 = .ok (.aload_n 0, 1) := by decide +kernel
theorem dX5_add_24 : decode cX5_add 24 = .ok (.getfield 33, 3) := by decide +kernel
theorem dX5_add_27 : decode cX5_add 27 = .ok (.iconst 3, 1) := by decide +kernel
theorem dX5_add_28 : decode cX5_add 28 = .ok (.iload_n 2, 1) := by decide +kernel
theorem dX5_add_29 : decode cX5_add 29 = .ok (.imul, 1) := by decide +kernel
theorem dX5_add_30 : decode cX5_add 30 = .ok (.iload_n 3, 1) := by decide +kernel
theorem dX5_add_31 : decode cX5_add 31 = .ok (.iadd, 1) := by decide +kernel
theorem dX5_add_32 : decode cX5_add 32 = .ok (.daload, 1) := by decide +kernel
theorem dX5_add_33 : decode cX5_add 33 = .ok (.aload_n 0, 1) := by decide +kernel
theorem dX5_add_34 : decode cX5_add 34 = .ok (.iload_n 1, 1) := by decide +kernel
theorem dX5_add_35 : decode cX5_add 35 = .ok (.iload_n 2, 1) := by decide +kernel
theorem dX5_add_36 : decode cX5_add 36 = .ok (.invokevirtual 95, 3) := by decide +kernel
theorem dX5_add_39 : decode cX5_add 39 = .ok (.aload_n 0, 1) := by decide +kernel
theorem dX5_add_40 : decode cX5_add 40 = .ok (.iload_n 1, 1) := by decide +kernel
theorem dX5_add_41 : decode cX5_add 41 = .ok (.iload_n 3, 1) := by decide +kernel
theorem dX5_add_42 : decode cX5_add 42 = .ok (.invokevirtual 95, 3) := by decide +kernel
theorem dX5_add_45 : decode cX5_add 45 = .ok (.dmul, 1) := by decide +kernel
theorem dX5_add_46 : decode cX5_add 46 = .ok (.dadd, 1) := by decide +kernel
theorem dX5_add_47 : decode cX5_add 47 = .ok (.dastore, 1) := by decide +kernel
theorem dX5_add_48 : decode cX5_add 48 = .ok (.iinc 3 1, 3) := by decide +kernel
theorem dX5_add_51 : decode cX5_add 51 = .ok (.goto (-42), 3) := by decide +kernel
theorem dX5_add_54 : decode cX5_add 54 = .ok (.aload_n 0, 1) := by decide +kernel
theorem dX5_add_55 : decode cX5_add 55 = .ok (.getfield 36, 3) := by decide +kernel
theorem dX5_add_58 : decode cX5_add 58 = .ok (.iload_n 2, 1) := by decide +kernel
theorem dX5_add_59 : decode cX5_add 59 = .ok (.aload_n 0, 1) := by decide +kernel
theorem dX5_add_60 : decode cX5_add 60 = .ok (.getfield 36, 3) := by decide +kernel
theorem dX5_add_63 : decode cX5_add 63 = .ok (.iload_n 2, 1) := by decide +kernel
theorem dX5_add_64 : decode cX5_add 64 = .ok (.daload, 1) := by decide +kernel
theorem dX5_add_65 : decode cX5_add 65 = .ok (.aload_n 0, 1) := by decide +kernel
theorem dX5_add_66 : decode cX5_add 66 = .ok (.iload_n 1, 1) := by decide +kernel
theorem dX5_add_67 : decode cX5_add 67 = .ok (.iload_n 2, 1) := by decide +kernel
theorem dX5_add_68 : decode cX5_add 68 = .ok (.invokevirtual 95, 3) := by decide +kernel
theorem dX5_add_71 : decode cX5_add 71 = .ok (.aload_n 0, 1) := by decide +kernel
theorem dX5_add_72 : decode cX5_add 72 = .ok (.getfield 23, 3) := by decide +kernel
theorem dX5_add_75 : decode cX5_add 75 = .ok (.iload_n 1, 1) := by decide +kernel
theorem dX5_add_76 : decode cX5_add 76 = .ok (.daload, 1) := by decide +kernel
theorem dX5_add_77 : decode cX5_add 77 = .ok (.dmul, 1) := by decide +kernel
theorem dX5_add_78 : decode cX5_add 78 = .ok (.dadd, 1) := by decide +kernel
theorem dX5_add_79 : decode cX5_add 79 = .ok (.dastore, 1) := by decide +kernel
theorem dX5_add_80 : decode cX5_add 80 = .ok (.iinc 2 1, 3) := by decide +kernel
theorem dX5_add_83 : decode cX5_add 83 = .ok (.goto (-81), 3) := by decide +kernel
theorem dX5_add_86 : decode cX5_add 86 = .ok (.return_, 1) := by decide +kernel
theorem dX5_solve_0 : decode cX5_solve 0 = .ok (.iconst 0, 1) := by decide +kernel
theorem dX5_solve_1 : decode cX5_solve 1 = .ok (.istore_n 2, 1) := by decide +kernel
theorem dX5_solve_2 : decode cX5_solve 2 = .ok (.iload_n 2, 1) := by decide +kernel
theorem dX5_solve_3 : decode cX5_solve 3 = .ok (.bipush 9, 2) := by decide +kernel
theorem dX5_solve_5 : decode cX5_solve 5 = .ok (.if_icmp .ge 25, 3) := by decide +kernel
theorem dX5_solve_8 : decode cX5_solve 8 = .ok (.aload_n 0, 1) := by decide +kernel
theorem dX5_solve_9 : decode cX5_solve 9 = .ok (.getfield 33, 3) := by decide +kernel
theorem dX5_solve_12 : decode cX5_solve 12 = .ok (.iload_n 2, 1) := by decide +kernel
theorem dX5_solve_13 : decode cX5_solve 13 = .ok (.dconst 0, 1) := by decide +kernel
theorem dX5_solve_14 : decode cX5_solve 14 = .ok (.dastore, 1) := by decide +kernel
theorem dX5_solve_15 : decode cX5_solve 15 = .ok (.aload_n 0, 1) := by decide +kernel
theorem dX5_solve_16 : decode cX5_solve 16 = .ok (.getfield 36, 3) := by decide +kernel
theorem dX5_solve_19 : decode cX5_solve 19 = .ok (.iload_n 2, 1) := by decide +kernel
theorem dX5_solve_20 : decode cX5_solve 20 = .ok (.iconst 3, 1) := by decide +kernel
theorem dX5_solve_21 : decode cX5_solve 21 = .ok (.idiv, 1) := by decide +kernel
theorem dX5_solve_22 : decode cX5_solve 22 = .ok (.dconst 0, 1) := by decide +kernel
theorem dX5_solve_23 : decode cX5_solve 23 = .ok (.dastore, 1) := by decide +kernel
theorem dX5_solve_24 : decode cX5_solve 24 = .ok (.iinc 2 1, 3) := by decide +kernel
theorem dX5_solve_27 : decode cX5_solve 27 = .ok (.goto (-25), 3) := by decide +kernel
theorem dX5_solve_30 : decode cX5_solve 30 = .ok (.iconst 0, 1) := by decide +kernel
theorem dX5_solve_31 : decode cX5_solve 31 = .ok (.istore_n 2, 1) := by decide +kernel
theorem dX5_solve_32 : decode cX5_solve 32 = .ok (.iload_n 2, 1) := by decide +kernel
theorem dX5_solve_33 : decode cX5_solve 33 = .ok (.aload_n 0, 1) := by decide +kernel
theorem dX5_solve_34 : decode cX5_solve 34 = .ok (.getfield 76, 3) := by decide +kernel
theorem dX5_solve_37 : decode cX5_solve 37 = .ok (.if_icmp .ge 36, 3) := by decide +kernel
theorem dX5_solve_40 : decode cX5_solve 40 = .ok (.iload_n 2, 1) := by decide +kernel
theorem dX5_solve_41 : decode cX5_solve 41 = .ok (.iload_n 1, 1) := by decide +kernel
theorem dX5_solve_42 : decode cX5_solve 42 = .ok (.if_icmp .eq 25, 3) := by decide +kernel
theorem dX5_solve_45 : decode cX5_solve 45 = .ok (.aload_n 0, 1) := by decide +kernel
theorem dX5_solve_46 : decode cX5_solve 46 = .ok (.getfield 26, 3) := by decide +kernel
theorem dX5_solve_49 : decode cX5_solve 49 = .ok (.iload_n 2, 1) := by decide +kernel
theorem dX5_solve_50 : decode cX5_solve 50 = .ok (.baload, 1) := by decide +kernel
theorem dX5_solve_51 : decode cX5_solve 51 = .ok (.ifCond .eq 16, 3) := by decide +kernel
theorem dX5_solve_54 : decode cX5_solve 54 = .ok (.aload_n 0, 1) := by decide +kernel
theorem dX5_solve_55 : decode cX5_solve 55 = .ok (.iload_n 2, 1) := by decide +kernel
theorem dX5_solve_56 : decode cX5_solve 56 = .ok (.invokevirtual 99, 3) := by decide +kernel
theorem dX5_solve_59 : decode cX5_solve 59 = .ok (.ifCond .eq 8, 3) := by decide +kernel
theorem dX5_solve_62 : decode cX5_solve 62 = .ok (.aload_n 0, 1) := by decide +kernel
theorem dX5_solve_63 : decode cX5_solve 63 = .ok (.iload_n 2, 1) := by decide +kernel
theorem dX5_solve_64 : decode cX5_solve 64 = .ok (.invokevirtual 102, 3) := by decide +kernel
theorem dX5_solve_67 : decode cX5_solve 67 = .ok (.iinc 2 1, 3) := by decide +kernel
theorem dX5_solve_70 : decode cX5_solve 70 = .ok (.goto (-38), 3) := by decide +kernel
theorem dX5_solve_73 : decode cX5_solve 73 = .ok (.iconst 0, 1) := by decide +kernel
theorem dX5_solve_74 : decode cX5_solve 74 = .ok (.istore_n 2, 1) := by decide +kernel
theorem dX5_solve_75 : decode cX5_solve 75 = .ok (.iconst 0, 1) := by decide +kernel
theorem dX5_solve_76 : decode cX5_solve 76 = .ok (.istore_n 3, 1) := by decide +kernel
theorem dX5_solve_77 : decode cX5_solve 77 = .ok (.iload_n 3, 1) := by decide +kernel
theorem dX5_solve_78 : decode cX5_solve 78 = .ok (.iconst 3, 1) := by decide +kernel
theorem dX5_solve_79 : decode cX5_solve 79 = .ok (.if_icmp .ge 178, 3) := by decide +kernel
theorem dX5_solve_82 : decode cX5_solve 82 = .ok (.aload_n 0, 1) := by decide +kernel
theorem dX5_solve_83 : decode cX5_solve 83 = .ok (.getfield 33, 3) := by decide +kernel
theorem dX5_solve_86 : decode cX5_solve 86 = .ok (.iconst 4, 1) := by decide +kernel
theorem dX5_solve_87 : decode cX5_solve 87 = .ok (.iload_n 3, 1) := by decide +kernel
theorem dX5_solve_88 : decode cX5_solve 88 = .ok (.imul, 1) := by decide +kernel
theorem dX5_solve_89 : decode cX5_solve 89 = .ok (.daload, 1) := by decide +kernel
theorem dX5_solve_90 : decode cX5_solve 90 = .ok (.dstore 4, 2) := by decide +kernel
theorem dX5_solve_92 : decode cX5_solve 92 = .ok (.aload_n 0, 1) := by decide +kernel
theorem dX5_solve_93 : decode cX5_solve 93 = .ok (.getfield 39, 3) := by decide +kernel
theorem dX5_solve_96 : decode cX5_solve 96 = .ok (.iload_n 3, 1) := by decide +kernel
theorem dX5_solve_97 : decode cX5_solve 97 = .ok (.dload 4, 2) := by decide +kernel
theorem dX5_solve_99 : decode cX5_solve 99 = .ok (.dconst 0, 1) := by decide +kernel
theorem dX5_solve_100 : decode cX5_solve 100 = .ok (.dcmp .g, 1) := by decide +kernel
theorem dX5_solve_101 : decode cX5_solve 101 = .ok (.ifCond .ge 9, 3) := by decide +kernel
theorem dX5_solve_104 : decode cX5_solve 104 = .ok (.dload 4, 2) := by decide +kernel
theorem dX5_solve_106 : decode cX5_solve 106 = .ok (.dneg, 1) := by decide +kernel
theorem dX5_solve_107 : decode cX5_solve 107 = .ok (.goto 5, 3) := by decide +kernel
theorem dX5_solve_110 : decode cX5_solve 110 = .ok (.dload 4, 2) := by decide +kernel
theorem dX5_solve_112 : decode cX5_solve 112 = .ok (.ldc2_w 106, 3) := by decide +kernel
theorem dX5_solve_115 : decode cX5_solve 115 = .ok (.dcmp .g, 1) := by decide +kernel
theorem dX5_solve_116 : decode cX5_solve 116 = .ok (.ifCond .ge 7, 3) := by decide +kernel
theorem dX5_solve_119 : decode cX5_solve 119 = .ok (.iconst 1, 1) := by decide +kernel
theorem dX5_solve_120 : decode cX5_solve 120 = .ok (.goto 4, 3) := by decide +kernel
theorem dX5_solve_123 : decode cX5_solve 123 = .ok (.iconst 0, 1) := by decide +kernel
theorem dX5_solve_124 : decode cX5_solve 124 = .ok (.bastore, 1) := by decide +kernel
theorem dX5_solve_125 : decode cX5_solve 125 = .ok (.aload_n 0, 1) := by decide +kernel
theorem dX5_solve_126 : decode cX5_solve 126 = .ok (.getfield 39, 3) := by decide +kernel
theorem dX5_solve_129 : decode cX5_solve 129 = .ok (.iload_n 3, 1) := by decide +kernel
theorem dX5_solve_130 : decode cX5_solve 130 = .ok (.baload, 1) := by decide +kernel
theorem dX5_solve_131 : decode cX5_solve 131 = .ok (.ifCond .eq 6, 3) := by decide +kernel
theorem dX5_solve_134 : decode cX5_solve 134 = .ok (.goto 117, 3) := by decide +kernel
theorem dX5_solve_137 : decode cX5_solve 137 = .ok (.iinc 2 1, 3) := by decide +kernel
theorem dX5_solve_140 : decode cX5_solve 140 = .ok (.iload_n 3, 1) := by decide +kernel
theorem dX5_solve_141 : decode cX5_solve 141 = .ok (.iconst 1, 1) := by decide +kernel
theorem dX5_solve_142 : decode cX5_solve 142 = .ok (.iadd, 1) := by decide +kernel
theorem dX5_solve_143 : decode cX5_solve 143 = .ok (.istore 6, 2) := by decide +kernel
theorem dX5_solve_145 : decode cX5_solve 145 = .ok (.iload 6, 2) := by decide +kernel
theorem dX5_solve_147 : decode cX5_solve 147 = .ok (.iconst 3, 1) := by decide +kernel
theorem dX5_solve_148 : decode cX5_solve 148 = .ok (.if_icmp .ge 103, 3) := by decide +kernel
theorem dX5_solve_151 : decode cX5_solve 151 = .ok (.aload_n 0, 1) := by decide +kernel
theorem dX5_solve_152 : decode cX5_solve 152 = .ok (.getfield 33, 3) := by decide +kernel
theorem dX5_solve_155 : decode cX5_solve 155 = .ok (.iconst 3, 1) := by decide +kernel
theorem dX5_solve_156 : decode cX5_solve 156 = .ok (.iload 6, 2) := by decide +kernel
theorem dX5_solve_158 : decode cX5_solve 158 = .ok (.imul, 1) := by decide +kernel
theorem dX5_solve_159 : decode cX5_solve 159 = .ok (.iload_n 3, 1) := by decide +kernel
theorem dX5_solve_160 : decode cX5_solve 160 = .ok (.iadd, 1) := by decide +kernel
theorem dX5_solve_161 : decode cX5_solve 161 = .ok (.daload, 1) := by decide +kernel
theorem dX5_solve_162 : decode cX5_solve 162 = .ok (.dload 4, 2) := by decide +kernel
theorem dX5_solve_164 : decode cX5_solve 164 = .ok (.ddiv, 1) := by decide +kernel
theorem dX5_solve_165 : decode cX5_solve 165 = .ok (.dstore 7, 2) := by decide +kernel
theorem dX5_solve_167 : decode cX5_solve 167 = .ok (.iload_n 3, 1) := by decide +kernel
theorem dX5_solve_168 : decode cX5_solve 168 = .ok (.istore 9, 2) := by decide +kernel
theorem dX5_solve_170 : decode cX5_solve 170 = .ok (.iload 9, 2) := by decide +kernel
theorem dX5_solve_172 : decode cX5_solve 172 = .ok (.iconst 3, 1) := by decide +kernel
theorem dX5_solve_173 : decode cX5_solve 173 = .ok (.if_icmp .ge 48, 3) := by decide +kernel
theorem dX5_solve_176 : decode cX5_solve 176 = .ok (.aload_n 0, 1) := by decide +kernel
theorem dX5_solve_177 : decode cX5_solve 177 = .ok (.getfield 33, 3) := by decide +kernel
theorem dX5_solve_180 : decode cX5_solve 180 = .ok (.iconst 3, 1) := by decide +kernel
theorem dX5_solve_181 : decode cX5_solve 181 = .ok (.iload 6, 2) := by decide +kernel
theorem dX5_solve_183 : decode cX5_solve 183 = .ok (.imul, 1) := by decide +kernel
theorem dX5_solve_184 : decode cX5_solve 184 = .ok (.iload 9, 2) := by decide +kernel
theorem dX5_solve_186 : decode cX5_solve 186 = .ok (.iadd, 1) := by decide +kernel
theorem dX5_solve_187 : decode cX5_solve 187 = .ok (.aload_n 0, 1) := by decide +kernel
theorem dX5_solve_188 : decode cX5_solve 188 = .ok (.getfield 33, 3) := by decide +kernel
theorem dX5_solve_191 : decode cX5_solve 191 = .ok (.iconst 3, 1) := by decide +kernel
theorem dX5_solve_192 : decode cX5_solve 192 = .ok (.iload 6, 2) := by decide +kernel
theorem dX5_solve_194 : decode cX5_solve 194 = .ok (.imul, 1) := by decide +kernel
theorem dX5_solve_195 : decode cX5_solve 195 = .ok (.iload 9, 2) := by decide +kernel
theorem dX5_solve_197 : decode cX5_solve 197 = .ok (.iadd, 1) := by decide +kernel
theorem dX5_solve_198 : decode cX5_solve 198 = .ok (.daload, 1) := by decide +kernel
theorem dX5_solve_199 : decode cX5_solve 199 = .ok (.dload 7, 2) := by decide +kernel
theorem dX5_solve_201 : decode cX5_solve 201 = .ok (.aload_n 0, 1) := by decide +kernel
theorem dX5_solve_202 : decode cX5_solve 202 = .ok (.getfield 33, 3) := by decide +kernel
theorem dX5_solve_205 : decode cX5_solve 205 = .ok (.iconst 3, 1) := by decide +kernel
theorem dX5_solve_206 : decode cX5_solve 206 = .ok (.iload_n 3, 1) := by decide +kernel
theorem dX5_solve_207 : decode cX5_solve 207 = .ok (.imul, 1) := by decide +kernel
theorem dX5_solve_208 : decode cX5_solve 208 = .ok (.iload 9, 2) := by decide +kernel
theorem dX5_solve_210 : decode cX5_solve 210 = .ok (.iadd, 1) := by decide +kernel
theorem dX5_solve_211 : decode cX5_solve 211 = .ok (.daload, 1) := by decide +kernel
theorem dX5_solve_212 : decode cX5_solve 212 = .ok (.dmul, 1) := by decide +kernel
theorem dX5_solve_213 : decode cX5_solve 213 = .ok (.dsub, 1) := by decide +kernel
theorem dX5_solve_214 : decode cX5_solve 214 = .ok (.dastore, 1) := by decide +kernel
theorem dX5_solve_215 : decode cX5_solve 215 = .ok (.iinc 9 1, 3) := by decide +kernel
theorem dX5_solve_218 : decode cX5_solve 218 = .ok (.goto (-48), 3) := by decide +kernel
theorem dX5_solve_221 : decode cX5_solve 221 = .ok (.aload_n 0, 1) := by decide +kernel
theorem dX5_solve_222 : decode cX5_solve 222 = .ok (.getfield 36, 3) := by decide +kernel
theorem dX5_solve_225 : decode cX5_solve 225 = .ok (.iload 6, 2) := by decide +kernel
theorem dX5_solve_227 : decode cX5_solve 227 = .ok (.aload_n 0, 1) := by decide +kernel
theorem dX5_solve_228 : decode cX5_solve 228 = .ok (.getfield 36, 3) := by decide +kernel
theorem dX5_solve_231 : decode cX5_solve 231 = .ok (.iload 6, 2) := by decide +kernel
theorem dX5_solve_233 : decode cX5_solve 233 = .ok (.daload, 1) := by decide +kernel
theorem dX5_solve_234 : decode cX5_solve 234 = .ok (.dload 7, 2) := by decide +kernel
theorem dX5_solve_236 : decode cX5_solve 236 = .ok (.aload_n 0, 1) := by decide +kernel
theorem dX5_solve_237 : decode cX5_solve 237 = .ok (.getfield 36, 3) := by decide +kernel
theorem dX5_solve_240 : decode cX5_solve 240 = .ok (.iload_n 3, 1) := by decide +kernel
theorem dX5_solve_241 : decode cX5_solve 241 = .ok (.daload, 1) := by decide +kernel
theorem dX5_solve_242 : decode cX5_solve 242 = .ok (.dmul, 1) := by decide +kernel
theorem dX5_solve_243 : decode cX5_solve 243 = .ok (.dsub, 1) := by decide +kernel
theorem dX5_solve_244 : decode cX5_solve 244 = .ok (.dastore, 1) := by decide +kernel
theorem dX5_solve_245 : decode cX5_solve 245 = .ok (.iinc 6 1, 3) := by decide +kernel
theorem dX5_solve_248 : decode cX5_solve 248 = .ok (.goto (-103), 3) := by decide +kernel
theorem dX5_solve_251 : decode cX5_solve 251 = .ok (.iinc 3 1, 3) := by decide +kernel
theorem dX5_solve_254 : decode cX5_solve 254 = .ok (.goto (-177), 3) := by decide +kernel
theorem dX5_solve_257 : decode cX5_solve 257 = .ok (.iconst 2, 1) := by decide +kernel
theorem dX5_solve_258 : decode cX5_solve 258 = .ok (.istore_n 3, 1) := by decide +kernel
theorem dX5_solve_259 : decode cX5_solve 259 = .ok (.iload_n 3, 1) := by decide +kernel
theorem dX5_solve_260 : decode cX5_solve 260 = .ok (.ifCond .lt 88, 3) := by decide +kernel
theorem dX5_solve_263 : decode cX5_solve 263 = .ok (.aload_n 0, 1) := by decide +kernel
theorem dX5_solve_264 : decode cX5_solve 264 = .ok (.getfield 36, 3) := by decide +kernel
theorem dX5_solve_267 : decode cX5_solve 267 = .ok (.iload_n 3, 1) := by decide +kernel
theorem dX5_solve_268 : decode cX5_solve 268 = .ok (.daload, 1) := by decide +kernel
theorem dX5_solve_269 : decode cX5_solve 269 = .ok (.dstore 4, 2) := by decide +kernel
theorem dX5_solve_271 : decode cX5_solve 271 = .ok (.iload_n 3, 1) := by decide +kernel
theorem dX5_solve_272 : decode cX5_solve 272 = .ok (.iconst 1, 1) := by decide +kernel
theorem dX5_solve_273 : decode cX5_solve 273 = .ok (.iadd, 1) := by decide +kernel
theorem dX5_solve_274 : decode cX5_solve 274 = .ok (.istore 6, 2) := by decide +kernel
theorem dX5_solve_276 : decode cX5_solve 276 = .ok (.iload 6, 2) := by decide +kernel
theorem dX5_solve_278 : decode cX5_solve 278 = .ok (.iconst 3, 1) := by decide +kernel
theorem dX5_solve_279 : decode cX5_solve 279 = .ok (.if_icmp .ge 33, 3) := by decide +kernel
theorem dX5_solve_282 : decode cX5_solve 282 = .ok (.dload 4, 2) := by decide +kernel
theorem dX5_solve_284 : decode cX5_solve 284 = .ok (.aload_n 0, 1) := by decide +kernel
theorem dX5_solve_285 : decode cX5_solve 285 = .ok (.getfield 33, 3) := by decide +kernel
theorem dX5_solve_288 : decode cX5_solve 288 = .ok (.iconst 3, 1) := by decide +kernel
theorem dX5_solve_289 : decode cX5_solve 289 = .ok (.iload_n 3, 1) := by decide +kernel
theorem dX5_solve_290 : decode cX5_solve 290 = .ok (.imul, 1) := by decide +kernel
theorem dX5_solve_291 : decode cX5_solve 291 = .ok (.iload 6, 2) := by decide +kernel
theorem dX5_solve_293 : decode cX5_solve 293 = .ok (.iadd, 1) := by decide +kernel
theorem dX5_solve_294 : decode cX5_solve 294 = .ok (.daload, 1) := by decide +kernel
theorem dX5_solve_295 : decode cX5_solve 295 = .ok (.aload_n 0, 1) := by decide +kernel
theorem dX5_solve_296 : decode cX5_solve 296 = .ok (.getfield 45, 3) := by decide +kernel
theorem dX5_solve_299 : decode cX5_solve 299 = .ok (.iload 6, 2) := by decide +kernel
theorem dX5_solve_301 : decode cX5_solve 301 = .ok (.daload, 1) := by decide +kernel
theorem dX5_solve_302 : decode cX5_solve 302 = .ok (.dmul, 1) := by decide +kernel
theorem dX5_solve_303 : decode cX5_solve 303 = .ok (.dsub, 1) := by decide +kernel
theorem dX5_solve_304 : decode cX5_solve 304 = .ok (.dstore 4, 2) := by decide +kernel
theorem dX5_solve_306 : decode cX5_solve 306 = .ok (.iinc 6 1, 3) := by decide +kernel
theorem dX5_solve_309 : decode cX5_solve 309 = .ok (.goto (-33), 3) := by decide +kernel
theorem dX5_solve_312 : decode cX5_solve 312 = .ok (.aload_n 0, 1) := by decide +kernel
theorem dX5_solve_313 : decode cX5_solve 313 = .ok (.getfield 45, 3) := by decide +kernel
theorem dX5_solve_316 : decode cX5_solve 316 = .ok (.iload_n 3, 1) := by decide +kernel
theorem dX5_solve_317 : decode cX5_solve 317 = .ok (.aload_n 0, 1) := by decide +kernel
theorem dX5_solve_318 : decode cX5_solve 318 = .ok (.getfield 39, 3) := by decide +kernel
theorem dX5_solve_321 : decode cX5_solve 321 = .ok (.iload_n 3, 1) := by decide +kernel
theorem dX5_solve_322 : decode cX5_solve 322 = .ok (.baload, 1) := by decide +kernel
theorem dX5_solve_323 : decode cX5_solve 323 = .ok (.ifCond .eq 7, 3) := by decide +kernel
theorem dX5_solve_326 : decode cX5_solve 326 = .ok (.dconst 0, 1) := by decide +kernel
theorem dX5_solve_327 : decode cX5_solve 327 = .ok (.goto 14, 3) := by decide +kernel
theorem dX5_solve_330 : decode cX5_solve 330 = .ok (.dload 4, 2) := by decide +kernel
theorem dX5_solve_332 : decode cX5_solve 332 = .ok (.aload_n 0, 1) := by decide +kernel
theorem dX5_solve_333 : decode cX5_solve 333 = .ok (.getfield 33, 3) := by decide +kernel
theorem dX5_solve_336 : decode cX5_solve 336 = .ok (.iconst 4, 1) := by decide +kernel
theorem dX5_solve_337 : decode cX5_solve 337 = .ok (.iload_n 3, 1) := by decide +kernel
theorem dX5_solve_338 : decode cX5_solve 338 = .ok (.imul, 1) := by decide +kernel
theorem dX5_solve_339 : decode cX5_solve 339 = .ok (.daload, 1) := by decide +kernel
theorem dX5_solve_340 : decode cX5_solve 340 = .ok (.ddiv, 1) := by decide +kernel
theorem dX5_solve_341 : decode cX5_solve 341 = .ok (.dastore, 1) := by decide +kernel
theorem dX5_solve_342 : decode cX5_solve 342 = .ok (.iinc 3 (-1), 3) := by decide +kernel
theorem dX5_solve_345 : decode cX5_solve 345 = .ok (.goto (-86), 3) := by decide +kernel
theorem dX5_solve_348 : decode cX5_solve 348 = .ok (.iload_n 2, 1) := by decide +kernel
theorem dX5_solve_349 : decode cX5_solve 349 = .ok (.ireturn, 1) := by decide +kernel
theorem dX5_fit_0 : decode cX5_fit 0 = .ok (.aload_n 0, 1) := by decide +kernel
theorem dX5_fit_1 : decode cX5_fit 1 = .ok (.iconst 0, 1) := by decide +kernel
theorem dX5_fit_2 : decode cX5_fit 2 = .ok (.putfield 73, 3) := by decide +kernel
theorem dX5_fit_5 : decode cX5_fit 5 = .ok (.aload_n 0, 1) := by decide +kernel
theorem dX5_fit_6 : decode cX5_fit 6 = .ok (.iconst (-1), 1) := by decide +kernel
theorem dX5_fit_7 : decode cX5_fit 7 = .ok (.invokevirtual 108, 3) := by decide +kernel
theorem dX5_fit_10 : decode cX5_fit 10 = .ok (.istore_n 1, 1) := by decide +kernel
theorem dX5_fit_11 : decode cX5_fit 11 = .ok (.iconst 0, 1) := by decide +kernel
theorem dX5_fit_12 : decode cX5_fit 12 = .ok (.istore_n 2, 1) := by decide +kernel
theorem dX5_fit_13 : decode cX5_fit 13 = .ok (.iload_n 2, 1) := by decide +kernel
theorem dX5_fit_14 : decode cX5_fit 14 = .ok (.iconst 3, 1) := by decide +kernel
theorem dX5_fit_15 : decode cX5_fit 15 = .ok (.if_icmp .ge 21, 3) := by decide +kernel
theorem dX5_fit_18 : decode cX5_fit 18 = .ok (.aload_n 0, 1) := by decide +kernel
theorem dX5_fit_19 : decode cX5_fit 19 = .ok (.getfield 42, 3) := by decide +kernel
theorem dX5_fit_22 : decode cX5_fit 22 = .ok (.iload_n 2, 1) := by decide +kernel
theorem dX5_fit_23 : decode cX5_fit 23 = .ok (.aload_n 0, 1) := by decide +kernel
theorem dX5_fit_24 : decode cX5_fit 24 = .ok (.getfield 45, 3) := by decide +kernel
theorem dX5_fit_27 : decode cX5_fit 27 = .ok (.iload_n 2, 1) := by decide +kernel
theorem dX5_fit_28 : decode cX5_fit 28 = .ok (.daload, 1) := by decide +kernel
theorem dX5_fit_29 : decode cX5_fit 29 = .ok (.dastore, 1) := by decide +kernel
theorem dX5_fit_30 : decode cX5_fit 30 = .ok (.iinc 2 1, 3) := by decide +kernel
theorem dX5_fit_33 : decode cX5_fit 33 = .ok (.goto (-20), 3) := by decide +kernel
theorem dX5_fit_36 : decode cX5_fit 36 = .ok (.iload_n 1, 1) := by decide +kernel
theorem dX5_fit_37 : decode cX5_fit 37 = .ok (.ireturn, 1) := by decide +kernel
theorem dX5_number_0 : decode cX5_number 0 = .ok (.aload_n 0, 1) := by decide +kernel
theorem dX5_number_1 : decode cX5_number 1 = .ok (.iload_n 1, 1) := by decide +kernel
theorem dX5_number_2 : decode cX5_number 2 = .ok (.ifCond .lt 8, 3) := by decide +kernel
theorem dX5_number_5 : decode cX5_number 5 = .ok (.iload_n 1, 1) := by decide +kernel
theorem dX5_number_6 : decode cX5_number 6 = .ok (.iconst 2, 1) := by decide +kernel
theorem dX5_number_7 : decode cX5_number 7 = .ok (.if_icmp .le 7, 3) := by decide +kernel
theorem dX5_number_10 : decode cX5_number 10 = .ok (.iconst 1, 1) := by decide +kernel
theorem dX5_number_11 : decode cX5_number 11 = .ok (.goto 4, 3) := by decide +kernel
theorem dX5_number_14 : decode cX5_number 14 = .ok (.iconst 0, 1) := by decide +kernel
theorem dX5_number_15 : decode cX5_number 15 = .ok (.putfield 73, 3) := by decide +kernel
theorem dX5_number_18 : decode cX5_number 18 = .ok (.aload_n 0, 1) := by decide +kernel
theorem dX5_number_19 : decode cX5_number 19 = .ok (.getfield 73, 3) := by decide +kernel
theorem dX5_number_22 : decode cX5_number 22 = .ok (.ifCond .le 7, 3) := by decide +kernel
theorem dX5_number_25 : decode cX5_number 25 = .ok (.dconst 0, 1) := by decide +kernel
theorem dX5_number_26 : decode cX5_number 26 = .ok (.goto 9, 3) := by decide +kernel
theorem dX5_number_29 : decode cX5_number 29 = .ok (.aload_n 0, 1) := by decide +kernel
theorem dX5_number_30 : decode cX5_number 30 = .ok (.getfield 42, 3) := by decide +kernel
theorem dX5_number_33 : decode cX5_number 33 = .ok (.iload_n 1, 1) := by decide +kernel
theorem dX5_number_34 : decode cX5_number 34 = .ok (.daload, 1) := by decide +kernel
theorem dX5_number_35 : decode cX5_number 35 = .ok (.dreturn, 1) := by decide +kernel
theorem dX5_told_0 : decode cX5_told 0 = .ok (.dload_n 2, 1) := by decide +kernel
theorem dX5_told_1 : decode cX5_told 1 = .ok (.aload_n 0, 1) := by decide +kernel
theorem dX5_told_2 : decode cX5_told 2 = .ok (.iload_n 1, 1) := by decide +kernel
theorem dX5_told_3 : decode cX5_told 3 = .ok (.iconst 0, 1) := by decide +kernel
theorem dX5_told_4 : decode cX5_told 4 = .ok (.invokevirtual 95, 3) := by decide +kernel
theorem dX5_told_7 : decode cX5_told 7 = .ok (.dmul, 1) := by decide +kernel
theorem dX5_told_8 : decode cX5_told 8 = .ok (.dload 4, 2) := by decide +kernel
theorem dX5_told_10 : decode cX5_told 10 = .ok (.aload_n 0, 1) := by decide +kernel
theorem dX5_told_11 : decode cX5_told 11 = .ok (.iload_n 1, 1) := by decide +kernel
theorem dX5_told_12 : decode cX5_told 12 = .ok (.iconst 1, 1) := by decide +kernel
theorem dX5_told_13 : decode cX5_told 13 = .ok (.invokevirtual 95, 3) := by decide +kernel
theorem dX5_told_16 : decode cX5_told 16 = .ok (.dmul, 1) := by decide +kernel
theorem dX5_told_17 : decode cX5_told 17 = .ok (.dadd, 1) := by decide +kernel
theorem dX5_told_18 : decode cX5_told 18 = .ok (.dload 6, 2) := by decide +kernel
theorem dX5_told_20 : decode cX5_told 20 = .ok (.aload_n 0, 1) := by decide +kernel
theorem dX5_told_21 : decode cX5_told 21 = .ok (.iload_n 1, 1) := by decide +kernel
theorem dX5_told_22 : decode cX5_told 22 = .ok (.iconst 2, 1) := by decide +kernel
theorem dX5_told_23 : decode cX5_told 23 = .ok (.invokevirtual 95, 3) := by decide +kernel
theorem dX5_told_26 : decode cX5_told 26 = .ok (.dmul, 1) := by decide +kernel
theorem dX5_told_27 : decode cX5_told 27 = .ok (.dadd, 1) := by decide +kernel
theorem dX5_told_28 : decode cX5_told 28 = .ok (.dreturn, 1) := by decide +kernel
theorem dX5_foretold_0 : decode cX5_foretold 0 = .ok (.aload_n 0, 1) := by decide +kernel
theorem dX5_foretold_1 : decode cX5_foretold 1 = .ok (.aload_n 0, 1) := by decide +kernel
theorem dX5_foretold_2 : decode cX5_foretold 2 = .ok (.iload_n 1, 1) := by decide +kernel
theorem dX5_foretold_3 : decode cX5_foretold 3 = .ok (.invokevirtual 79, 3) := by decide +kernel
theorem dX5_foretold_6 : decode cX5_foretold 6 = .ok (.ifCond .eq 7, 3) := by decide +kernel
theorem dX5_foretold_9 : decode cX5_foretold 9 = .ok (.iconst 1, 1) := by decide +kernel
theorem dX5_foretold_10 : decode cX5_foretold 10 = .ok (.goto 16, 3) := by decide +kernel
theorem dX5_foretold_13 : decode cX5_foretold 13 = .ok (.aload_n 0, 1) := by decide +kernel
theorem dX5_foretold_14 : decode cX5_foretold 14 = .ok (.iload_n 1, 1) := by decide +kernel
theorem dX5_foretold_15 : decode cX5_foretold 15 = .ok (.invokevirtual 99, 3) := by decide +kernel
theorem dX5_foretold_18 : decode cX5_foretold 18 = .ok (.ifCond .eq 7, 3) := by decide +kernel
theorem dX5_foretold_21 : decode cX5_foretold 21 = .ok (.iconst 0, 1) := by decide +kernel
theorem dX5_foretold_22 : decode cX5_foretold 22 = .ok (.goto 4, 3) := by decide +kernel
theorem dX5_foretold_25 : decode cX5_foretold 25 = .ok (.iconst 2, 1) := by decide +kernel
theorem dX5_foretold_26 : decode cX5_foretold 26 = .ok (.putfield 73, 3) := by decide +kernel
theorem dX5_foretold_29 : decode cX5_foretold 29 = .ok (.aload_n 0, 1) := by decide +kernel
theorem dX5_foretold_30 : decode cX5_foretold 30 = .ok (.getfield 73, 3) := by decide +kernel
theorem dX5_foretold_33 : decode cX5_foretold 33 = .ok (.ifCond .le 7, 3) := by decide +kernel
theorem dX5_foretold_36 : decode cX5_foretold 36 = .ok (.dconst 0, 1) := by decide +kernel
theorem dX5_foretold_37 : decode cX5_foretold 37 = .ok (.goto 26, 3) := by decide +kernel
theorem dX5_foretold_40 : decode cX5_foretold 40 = .ok (.aload_n 0, 1) := by decide +kernel
theorem dX5_foretold_41 : decode cX5_foretold 41 = .ok (.iload_n 1, 1) := by decide +kernel
theorem dX5_foretold_42 : decode cX5_foretold 42 = .ok (.aload_n 0, 1) := by decide +kernel
theorem dX5_foretold_43 : decode cX5_foretold 43 = .ok (.getfield 42, 3) := by decide +kernel
theorem dX5_foretold_46 : decode cX5_foretold 46 = .ok (.iconst 0, 1) := by decide +kernel
theorem dX5_foretold_47 : decode cX5_foretold 47 = .ok (.daload, 1) := by decide +kernel
theorem dX5_foretold_48 : decode cX5_foretold 48 = .ok (.aload_n 0, 1) := by decide +kernel
theorem dX5_foretold_49 : decode cX5_foretold 49 = .ok (.getfield 42, 3) := by decide +kernel
theorem dX5_foretold_52 : decode cX5_foretold 52 = .ok (.iconst 1, 1) := by decide +kernel
theorem dX5_foretold_53 : decode cX5_foretold 53 = .ok (.daload, 1) := by decide +kernel
theorem dX5_foretold_54 : decode cX5_foretold 54 = .ok (.aload_n 0, 1) := by decide +kernel
theorem dX5_foretold_55 : decode cX5_foretold 55 = .ok (.getfield 42, 3) := by decide +kernel
theorem dX5_foretold_58 : decode cX5_foretold 58 = .ok (.iconst 2, 1) := by decide +kernel
theorem dX5_foretold_59 : decode cX5_foretold 59 = .ok (.daload, 1) := by decide +kernel
theorem dX5_foretold_60 : decode cX5_foretold 60 = .ok (.invokevirtual 112, 3) := by decide +kernel
theorem dX5_foretold_63 : decode cX5_foretold 63 = .ok (.dreturn, 1) := by decide +kernel
theorem dX5_leftOut_0 : decode cX5_leftOut 0 = .ok (.aload_n 0, 1) := by decide +kernel
theorem dX5_leftOut_1 : decode cX5_leftOut 1 = .ok (.aload_n 0, 1) := by decide +kernel
theorem dX5_leftOut_2 : decode cX5_leftOut 2 = .ok (.iload_n 1, 1) := by decide +kernel
theorem dX5_leftOut_3 : decode cX5_leftOut 3 = .ok (.invokevirtual 79, 3) := by decide +kernel
theorem dX5_leftOut_6 : decode cX5_leftOut 6 = .ok (.ifCond .eq 7, 3) := by decide +kernel
theorem dX5_leftOut_9 : decode cX5_leftOut 9 = .ok (.iconst 1, 1) := by decide +kernel
theorem dX5_leftOut_10 : decode cX5_leftOut 10 = .ok (.goto 16, 3) := by decide +kernel
theorem dX5_leftOut_13 : decode cX5_leftOut 13 = .ok (.aload_n 0, 1) := by decide +kernel
theorem dX5_leftOut_14 : decode cX5_leftOut 14 = .ok (.iload_n 1, 1) := by decide +kernel
theorem dX5_leftOut_15 : decode cX5_leftOut 15 = .ok (.invokevirtual 99, 3) := by decide +kernel
theorem dX5_leftOut_18 : decode cX5_leftOut 18 = .ok (.ifCond .eq 7, 3) := by decide +kernel
theorem dX5_leftOut_21 : decode cX5_leftOut 21 = .ok (.iconst 0, 1) := by decide +kernel
theorem dX5_leftOut_22 : decode cX5_leftOut 22 = .ok (.goto 4, 3) := by decide +kernel
theorem dX5_leftOut_25 : decode cX5_leftOut 25 = .ok (.iconst 2, 1) := by decide +kernel
theorem dX5_leftOut_26 : decode cX5_leftOut 26 = .ok (.putfield 73, 3) := by decide +kernel
theorem dX5_leftOut_29 : decode cX5_leftOut 29 = .ok (.aload_n 0, 1) := by decide +kernel
theorem dX5_leftOut_30 : decode cX5_leftOut 30 = .ok (.getfield 73, 3) := by decide +kernel
theorem dX5_leftOut_33 : decode cX5_leftOut 33 = .ok (.ifCond .le 5, 3) := by decide +kernel
theorem dX5_leftOut_36 : decode cX5_leftOut 36 = .ok (.dconst 0, 1) := by decide +kernel
theorem dX5_leftOut_37 : decode cX5_leftOut 37 = .ok (.dreturn, 1) := by decide +kernel
theorem dX5_leftOut_38 : decode cX5_leftOut 38 = .ok (.aload_n 0, 1) := by decide +kernel
theorem dX5_leftOut_39 : decode cX5_leftOut 39 = .ok (.iload_n 1, 1) := by decide +kernel
theorem dX5_leftOut_40 : decode cX5_leftOut 40 = .ok (.invokevirtual 108, 3) := by decide +kernel
theorem dX5_leftOut_43 : decode cX5_leftOut 43 = .ok (.istore_n 2, 1) := by decide +kernel
theorem dX5_leftOut_44 : decode cX5_leftOut 44 = .ok (.aload_n 0, 1) := by decide +kernel
theorem dX5_leftOut_45 : decode cX5_leftOut 45 = .ok (.iload_n 1, 1) := by decide +kernel
theorem dX5_leftOut_46 : decode cX5_leftOut 46 = .ok (.aload_n 0, 1) := by decide +kernel
theorem dX5_leftOut_47 : decode cX5_leftOut 47 = .ok (.getfield 45, 3) := by decide +kernel
theorem dX5_leftOut_50 : decode cX5_leftOut 50 = .ok (.iconst 0, 1) := by decide +kernel
theorem dX5_leftOut_51 : decode cX5_leftOut 51 = .ok (.daload, 1) := by decide +kernel
theorem dX5_leftOut_52 : decode cX5_leftOut 52 = .ok (.aload_n 0, 1) := by decide +kernel
theorem dX5_leftOut_53 : decode cX5_leftOut 53 = .ok (.getfield 45, 3) := by decide +kernel
theorem dX5_leftOut_56 : decode cX5_leftOut 56 = .ok (.iconst 1, 1) := by decide +kernel
theorem dX5_leftOut_57 : decode cX5_leftOut 57 = .ok (.daload, 1) := by decide +kernel
theorem dX5_leftOut_58 : decode cX5_leftOut 58 = .ok (.aload_n 0, 1) := by decide +kernel
theorem dX5_leftOut_59 : decode cX5_leftOut 59 = .ok (.getfield 45, 3) := by decide +kernel
theorem dX5_leftOut_62 : decode cX5_leftOut 62 = .ok (.iconst 2, 1) := by decide +kernel
theorem dX5_leftOut_63 : decode cX5_leftOut 63 = .ok (.daload, 1) := by decide +kernel
theorem dX5_leftOut_64 : decode cX5_leftOut 64 = .ok (.invokevirtual 112, 3) := by decide +kernel
theorem dX5_leftOut_67 : decode cX5_leftOut 67 = .ok (.dreturn, 1) := by decide +kernel
theorem dX5_limit_0 : decode cX5_limit 0 = .ok (.aload_n 0, 1) := by decide +kernel
theorem dX5_limit_1 : decode cX5_limit 1 = .ok (.iload_n 1, 1) := by decide +kernel
theorem dX5_limit_2 : decode cX5_limit 2 = .ok (.ifCond .lt 8, 3) := by decide +kernel
theorem dX5_limit_5 : decode cX5_limit 5 = .ok (.iload_n 1, 1) := by decide +kernel
theorem dX5_limit_6 : decode cX5_limit 6 = .ok (.iconst 3, 1) := by decide +kernel
theorem dX5_limit_7 : decode cX5_limit 7 = .ok (.if_icmp .le 7, 3) := by decide +kernel
theorem dX5_limit_10 : decode cX5_limit 10 = .ok (.iconst 1, 1) := by decide +kernel
theorem dX5_limit_11 : decode cX5_limit 11 = .ok (.goto 19, 3) := by decide +kernel
theorem dX5_limit_14 : decode cX5_limit 14 = .ok (.dload_n 2, 1) := by decide +kernel
theorem dX5_limit_15 : decode cX5_limit 15 = .ok (.dconst 0, 1) := by decide +kernel
theorem dX5_limit_16 : decode cX5_limit 16 = .ok (.ldc2_w 83, 3) := by decide +kernel
theorem dX5_limit_19 : decode cX5_limit 19 = .ok (.invokestatic 85, 3) := by decide +kernel
theorem dX5_limit_22 : decode cX5_limit 22 = .ok (.ifCond .eq 7, 3) := by decide +kernel
theorem dX5_limit_25 : decode cX5_limit 25 = .ok (.iconst 0, 1) := by decide +kernel
theorem dX5_limit_26 : decode cX5_limit 26 = .ok (.goto 4, 3) := by decide +kernel
theorem dX5_limit_29 : decode cX5_limit 29 = .ok (.iconst 2, 1) := by decide +kernel
theorem dX5_limit_30 : decode cX5_limit 30 = .ok (.putfield 73, 3) := by decide +kernel
theorem dX5_limit_33 : decode cX5_limit 33 = .ok (.aload_n 0, 1) := by decide +kernel
theorem dX5_limit_34 : decode cX5_limit 34 = .ok (.getfield 73, 3) := by decide +kernel
theorem dX5_limit_37 : decode cX5_limit 37 = .ok (.ifCond .ne 10, 3) := by decide +kernel
theorem dX5_limit_40 : decode cX5_limit 40 = .ok (.aload_n 0, 1) := by decide +kernel
theorem dX5_limit_41 : decode cX5_limit 41 = .ok (.getfield 50, 3) := by decide +kernel
theorem dX5_limit_44 : decode cX5_limit 44 = .ok (.iload_n 1, 1) := by decide +kernel
theorem dX5_limit_45 : decode cX5_limit 45 = .ok (.dload_n 2, 1) := by decide +kernel
theorem dX5_limit_46 : decode cX5_limit 46 = .ok (.dastore, 1) := by decide +kernel
theorem dX5_limit_47 : decode cX5_limit 47 = .ok (.return_, 1) := by decide +kernel
theorem dX5_setting_0 : decode cX5_setting 0 = .ok (.aload_n 0, 1) := by decide +kernel
theorem dX5_setting_1 : decode cX5_setting 1 = .ok (.iload_n 1, 1) := by decide +kernel
theorem dX5_setting_2 : decode cX5_setting 2 = .ok (.ifCond .lt 8, 3) := by decide +kernel
theorem dX5_setting_5 : decode cX5_setting 5 = .ok (.iload_n 1, 1) := by decide +kernel
theorem dX5_setting_6 : decode cX5_setting 6 = .ok (.iconst 3, 1) := by decide +kernel
theorem dX5_setting_7 : decode cX5_setting 7 = .ok (.if_icmp .le 7, 3) := by decide +kernel
theorem dX5_setting_10 : decode cX5_setting 10 = .ok (.iconst 1, 1) := by decide +kernel
theorem dX5_setting_11 : decode cX5_setting 11 = .ok (.goto 29, 3) := by decide +kernel
theorem dX5_setting_14 : decode cX5_setting 14 = .ok (.iload_n 3, 1) := by decide +kernel
theorem dX5_setting_15 : decode cX5_setting 15 = .ok (.iconst 1, 1) := by decide +kernel
theorem dX5_setting_16 : decode cX5_setting 16 = .ok (.if_icmp .lt 23, 3) := by decide +kernel
theorem dX5_setting_19 : decode cX5_setting 19 = .ok (.iload_n 3, 1) := by decide +kernel
theorem dX5_setting_20 : decode cX5_setting 20 = .ok (.sipush 1000, 3) := by decide +kernel
theorem dX5_setting_23 : decode cX5_setting 23 = .ok (.if_icmp .gt 16, 3) := by decide +kernel
theorem dX5_setting_26 : decode cX5_setting 26 = .ok (.iload_n 2, 1) := by decide +kernel
theorem dX5_setting_27 : decode cX5_setting 27 = .ok (.ifCond .lt 12, 3) := by decide +kernel
theorem dX5_setting_30 : decode cX5_setting 30 = .ok (.iload_n 2, 1) := by decide +kernel
theorem dX5_setting_31 : decode cX5_setting 31 = .ok (.iload_n 3, 1) := by decide +kernel
theorem dX5_setting_32 : decode cX5_setting 32 = .ok (.if_icmp .gt 7, 3) := by decide +kernel
theorem dX5_setting_35 : decode cX5_setting 35 = .ok (.iconst 0, 1) := by decide +kernel
theorem dX5_setting_36 : decode cX5_setting 36 = .ok (.goto 4, 3) := by decide +kernel
theorem dX5_setting_39 : decode cX5_setting 39 = .ok (.iconst 2, 1) := by decide +kernel
theorem dX5_setting_40 : decode cX5_setting 40 = .ok (.putfield 73, 3) := by decide +kernel
theorem dX5_setting_43 : decode cX5_setting 43 = .ok (.iconst 0, 1) := by decide +kernel
theorem dX5_setting_44 : decode cX5_setting 44 = .ok (.istore 4, 2) := by decide +kernel
theorem dX5_setting_46 : decode cX5_setting 46 = .ok (.aload_n 0, 1) := by decide +kernel
theorem dX5_setting_47 : decode cX5_setting 47 = .ok (.getfield 73, 3) := by decide +kernel
theorem dX5_setting_50 : decode cX5_setting 50 = .ok (.ifCond .ne 165, 3) := by decide +kernel
theorem dX5_setting_53 : decode cX5_setting 53 = .ok (.iload 4, 2) := by decide +kernel
theorem dX5_setting_55 : decode cX5_setting 55 = .ok (.sipush 200, 3) := by decide +kernel
theorem dX5_setting_58 : decode cX5_setting 58 = .ok (.if_icmp .gt 157, 3) := by decide +kernel
theorem dX5_setting_61 : decode cX5_setting 61 = .ok (.iconst 0, 1) := by decide +kernel
theorem dX5_setting_62 : decode cX5_setting 62 = .ok (.istore 5, 2) := by decide +kernel
theorem dX5_setting_64 : decode cX5_setting 64 = .ok (.iconst 0, 1) := by decide +kernel
theorem dX5_setting_65 : decode cX5_setting 65 = .ok (.istore 6, 2) := by decide +kernel
theorem dX5_setting_67 : decode cX5_setting 67 = .ok (.iconst 0, 1) := by decide +kernel
theorem dX5_setting_68 : decode cX5_setting 68 = .ok (.istore 7, 2) := by decide +kernel
theorem dX5_setting_70 : decode cX5_setting 70 = .ok (.iload 7, 2) := by decide +kernel
theorem dX5_setting_72 : decode cX5_setting 72 = .ok (.aload_n 0, 1) := by decide +kernel
theorem dX5_setting_73 : decode cX5_setting 73 = .ok (.getfield 76, 3) := by decide +kernel
theorem dX5_setting_76 : decode cX5_setting 76 = .ok (.if_icmp .ge 119, 3) := by decide +kernel
theorem dX5_setting_79 : decode cX5_setting 79 = .ok (.aload_n 0, 1) := by decide +kernel
theorem dX5_setting_80 : decode cX5_setting 80 = .ok (.getfield 26, 3) := by decide +kernel
theorem dX5_setting_83 : decode cX5_setting 83 = .ok (.iload 7, 2) := by decide +kernel
theorem dX5_setting_85 : decode cX5_setting 85 = .ok (.baload, 1) := by decide +kernel
theorem dX5_setting_86 : decode cX5_setting 86 = .ok (.ifCond .eq 51, 3) := by decide +kernel
theorem dX5_setting_89 : decode cX5_setting 89 = .ok (.aload_n 0, 1) := by decide +kernel
theorem dX5_setting_90 : decode cX5_setting 90 = .ok (.iload 7, 2) := by decide +kernel
theorem dX5_setting_92 : decode cX5_setting 92 = .ok (.invokevirtual 99, 3) := by decide +kernel
theorem dX5_setting_95 : decode cX5_setting 95 = .ok (.ifCond .eq 42, 3) := by decide +kernel
theorem dX5_setting_98 : decode cX5_setting 98 = .ok (.aload_n 0, 1) := by decide +kernel
theorem dX5_setting_99 : decode cX5_setting 99 = .ok (.iload 7, 2) := by decide +kernel
theorem dX5_setting_101 : decode cX5_setting 101 = .ok (.aload_n 0, 1) := by decide +kernel
theorem dX5_setting_102 : decode cX5_setting 102 = .ok (.getfield 42, 3) := by decide +kernel
theorem dX5_setting_105 : decode cX5_setting 105 = .ok (.iconst 0, 1) := by decide +kernel
theorem dX5_setting_106 : decode cX5_setting 106 = .ok (.daload, 1) := by decide +kernel
theorem dX5_setting_107 : decode cX5_setting 107 = .ok (.aload_n 0, 1) := by decide +kernel
theorem dX5_setting_108 : decode cX5_setting 108 = .ok (.getfield 42, 3) := by decide +kernel
theorem dX5_setting_111 : decode cX5_setting 111 = .ok (.iconst 1, 1) := by decide +kernel
theorem dX5_setting_112 : decode cX5_setting 112 = .ok (.daload, 1) := by decide +kernel
theorem dX5_setting_113 : decode cX5_setting 113 = .ok (.aload_n 0, 1) := by decide +kernel
theorem dX5_setting_114 : decode cX5_setting 114 = .ok (.getfield 42, 3) := by decide +kernel
theorem dX5_setting_117 : decode cX5_setting 117 = .ok (.iconst 2, 1) := by decide +kernel
theorem dX5_setting_118 : decode cX5_setting 118 = .ok (.daload, 1) := by decide +kernel
theorem dX5_setting_119 : decode cX5_setting 119 = .ok (.invokevirtual 112, 3) := by decide +kernel
theorem dX5_setting_122 : decode cX5_setting 122 = .ok (.iload 4, 2) := by decide +kernel
theorem dX5_setting_124 : decode cX5_setting 124 = .ok (.i2d, 1) := by decide +kernel
theorem dX5_setting_125 : decode cX5_setting 125 = .ok (.ldc2_w 116, 3) := by decide +kernel
theorem dX5_setting_128 : decode cX5_setting 128 = .ok (.ddiv, 1) := by decide +kernel
theorem dX5_setting_129 : decode cX5_setting 129 = .ok (.dcmp .l, 1) := by decide +kernel
theorem dX5_setting_130 : decode cX5_setting 130 = .ok (.ifCond .lt 7, 3) := by decide +kernel
theorem dX5_setting_133 : decode cX5_setting 133 = .ok (.iconst 1, 1) := by decide +kernel
theorem dX5_setting_134 : decode cX5_setting 134 = .ok (.goto 4, 3) := by decide +kernel
theorem dX5_setting_137 : decode cX5_setting 137 = .ok (.iconst 0, 1) := by decide +kernel
theorem dX5_setting_138 : decode cX5_setting 138 = .ok (.istore 8, 2) := by decide +kernel
theorem dX5_setting_140 : decode cX5_setting 140 = .ok (.iload 8, 2) := by decide +kernel
theorem dX5_setting_142 : decode cX5_setting 142 = .ok (.ifCond .eq 10, 3) := by decide +kernel
theorem dX5_setting_145 : decode cX5_setting 145 = .ok (.iload 5, 2) := by decide +kernel
theorem dX5_setting_147 : decode cX5_setting 147 = .ok (.iconst 1, 1) := by decide +kernel
theorem dX5_setting_148 : decode cX5_setting 148 = .ok (.iadd, 1) := by decide +kernel
theorem dX5_setting_149 : decode cX5_setting 149 = .ok (.goto 5, 3) := by decide +kernel
theorem dX5_setting_152 : decode cX5_setting 152 = .ok (.iload 5, 2) := by decide +kernel
theorem dX5_setting_154 : decode cX5_setting 154 = .ok (.istore 5, 2) := by decide +kernel
theorem dX5_setting_156 : decode cX5_setting 156 = .ok (.iload 8, 2) := by decide +kernel
theorem dX5_setting_158 : decode cX5_setting 158 = .ok (.ifCond .eq 27, 3) := by decide +kernel
theorem dX5_setting_161 : decode cX5_setting 161 = .ok (.aload_n 0, 1) := by decide +kernel
theorem dX5_setting_162 : decode cX5_setting 162 = .ok (.getfield 23, 3) := by decide +kernel
theorem dX5_setting_165 : decode cX5_setting 165 = .ok (.iload 7, 2) := by decide +kernel
theorem dX5_setting_167 : decode cX5_setting 167 = .ok (.daload, 1) := by decide +kernel
theorem dX5_setting_168 : decode cX5_setting 168 = .ok (.aload_n 0, 1) := by decide +kernel
theorem dX5_setting_169 : decode cX5_setting 169 = .ok (.getfield 50, 3) := by decide +kernel
theorem dX5_setting_172 : decode cX5_setting 172 = .ok (.iload_n 1, 1) := by decide +kernel
theorem dX5_setting_173 : decode cX5_setting 173 = .ok (.daload, 1) := by decide +kernel
theorem dX5_setting_174 : decode cX5_setting 174 = .ok (.dcmp .g, 1) := by decide +kernel
theorem dX5_setting_175 : decode cX5_setting 175 = .ok (.ifCond .ge 10, 3) := by decide +kernel
theorem dX5_setting_178 : decode cX5_setting 178 = .ok (.iload 6, 2) := by decide +kernel
theorem dX5_setting_180 : decode cX5_setting 180 = .ok (.iconst 1, 1) := by decide +kernel
theorem dX5_setting_181 : decode cX5_setting 181 = .ok (.iadd, 1) := by decide +kernel
theorem dX5_setting_182 : decode cX5_setting 182 = .ok (.goto 5, 3) := by decide +kernel
theorem dX5_setting_185 : decode cX5_setting 185 = .ok (.iload 6, 2) := by decide +kernel
theorem dX5_setting_187 : decode cX5_setting 187 = .ok (.istore 6, 2) := by decide +kernel
theorem dX5_setting_189 : decode cX5_setting 189 = .ok (.iinc 7 1, 3) := by decide +kernel
theorem dX5_setting_192 : decode cX5_setting 192 = .ok (.goto (-122), 3) := by decide +kernel
theorem dX5_setting_195 : decode cX5_setting 195 = .ok (.iload 6, 2) := by decide +kernel
theorem dX5_setting_197 : decode cX5_setting 197 = .ok (.iload_n 3, 1) := by decide +kernel
theorem dX5_setting_198 : decode cX5_setting 198 = .ok (.imul, 1) := by decide +kernel
theorem dX5_setting_199 : decode cX5_setting 199 = .ok (.iload_n 2, 1) := by decide +kernel
theorem dX5_setting_200 : decode cX5_setting 200 = .ok (.iload 5, 2) := by decide +kernel
theorem dX5_setting_202 : decode cX5_setting 202 = .ok (.imul, 1) := by decide +kernel
theorem dX5_setting_203 : decode cX5_setting 203 = .ok (.if_icmp .gt 6, 3) := by decide +kernel
theorem dX5_setting_206 : decode cX5_setting 206 = .ok (.iload 4, 2) := by decide +kernel
theorem dX5_setting_208 : decode cX5_setting 208 = .ok (.ireturn, 1) := by decide +kernel
theorem dX5_setting_209 : decode cX5_setting 209 = .ok (.iinc 4 1, 3) := by decide +kernel
theorem dX5_setting_212 : decode cX5_setting 212 = .ok (.goto (-166), 3) := by decide +kernel
theorem dX5_setting_215 : decode cX5_setting 215 = .ok (.aload_n 0, 1) := by decide +kernel
theorem dX5_setting_216 : decode cX5_setting 216 = .ok (.getfield 73, 3) := by decide +kernel
theorem dX5_setting_219 : decode cX5_setting 219 = .ok (.ifCond .le 7, 3) := by decide +kernel
theorem dX5_setting_222 : decode cX5_setting 222 = .ok (.iconst 0, 1) := by decide +kernel
theorem dX5_setting_223 : decode cX5_setting 223 = .ok (.goto 4, 3) := by decide +kernel
theorem dX5_setting_226 : decode cX5_setting 226 = .ok (.iconst (-1), 1) := by decide +kernel
theorem dX5_setting_227 : decode cX5_setting 227 = .ok (.ireturn, 1) := by decide +kernel
theorem dX5_power_0 : decode cX5_power 0 = .ok (.lconst 1, 1) := by decide +kernel
theorem dX5_power_1 : decode cX5_power 1 = .ok (.lstore_n 3, 1) := by decide +kernel
theorem dX5_power_2 : decode cX5_power 2 = .ok (.iconst 0, 1) := by decide +kernel
theorem dX5_power_3 : decode cX5_power 3 = .ok (.istore 5, 2) := by decide +kernel
theorem dX5_power_5 : decode cX5_power 5 = .ok (.iload 5, 2) := by decide +kernel
theorem dX5_power_7 : decode cX5_power 7 = .ok (.iload_n 2, 1) := by decide +kernel
theorem dX5_power_8 : decode cX5_power 8 = .ok (.if_icmp .ge 13, 3) := by decide +kernel
theorem dX5_power_11 : decode cX5_power 11 = .ok (.lload_n 3, 1) := by decide +kernel
theorem dX5_power_12 : decode cX5_power 12 = .ok (.lload_n 0, 1) := by decide +kernel
theorem dX5_power_13 : decode cX5_power 13 = .ok (.lmul, 1) := by decide +kernel
theorem dX5_power_14 : decode cX5_power 14 = .ok (.lstore_n 3, 1) := by decide +kernel
theorem dX5_power_15 : decode cX5_power 15 = .ok (.iinc 5 1, 3) := by decide +kernel
theorem dX5_power_18 : decode cX5_power 18 = .ok (.goto (-13), 3) := by decide +kernel
theorem dX5_power_21 : decode cX5_power 21 = .ok (.lload_n 3, 1) := by decide +kernel
theorem dX5_power_22 : decode cX5_power 22 = .ok (.lreturn, 1) := by decide +kernel
theorem dX5_odds_0 : decode cX5_odds 0 = .ok (.iload_n 1, 1) := by decide +kernel
theorem dX5_odds_1 : decode cX5_odds 1 = .ok (.ifCond .lt 40, 3) := by decide +kernel
theorem dX5_odds_4 : decode cX5_odds 4 = .ok (.iload_n 1, 1) := by decide +kernel
theorem dX5_odds_5 : decode cX5_odds 5 = .ok (.bipush 12, 2) := by decide +kernel
theorem dX5_odds_7 : decode cX5_odds 7 = .ok (.if_icmp .gt 34, 3) := by decide +kernel
theorem dX5_odds_10 : decode cX5_odds 10 = .ok (.iload_n 2, 1) := by decide +kernel
theorem dX5_odds_11 : decode cX5_odds 11 = .ok (.ifCond .lt 30, 3) := by decide +kernel
theorem dX5_odds_14 : decode cX5_odds 14 = .ok (.iload 4, 2) := by decide +kernel
theorem dX5_odds_16 : decode cX5_odds 16 = .ok (.iconst 1, 1) := by decide +kernel
theorem dX5_odds_17 : decode cX5_odds 17 = .ok (.if_icmp .lt 24, 3) := by decide +kernel
theorem dX5_odds_20 : decode cX5_odds 20 = .ok (.iload 4, 2) := by decide +kernel
theorem dX5_odds_22 : decode cX5_odds 22 = .ok (.bipush 16, 2) := by decide +kernel
theorem dX5_odds_24 : decode cX5_odds 24 = .ok (.if_icmp .gt 17, 3) := by decide +kernel
theorem dX5_odds_27 : decode cX5_odds 27 = .ok (.iload_n 3, 1) := by decide +kernel
theorem dX5_odds_28 : decode cX5_odds 28 = .ok (.ifCond .lt 13, 3) := by decide +kernel
theorem dX5_odds_31 : decode cX5_odds 31 = .ok (.iload_n 3, 1) := by decide +kernel
theorem dX5_odds_32 : decode cX5_odds 32 = .ok (.iload 4, 2) := by decide +kernel
theorem dX5_odds_34 : decode cX5_odds 34 = .ok (.if_icmp .gt 7, 3) := by decide +kernel
theorem dX5_odds_37 : decode cX5_odds 37 = .ok (.iconst 1, 1) := by decide +kernel
theorem dX5_odds_38 : decode cX5_odds 38 = .ok (.goto 4, 3) := by decide +kernel
theorem dX5_odds_41 : decode cX5_odds 41 = .ok (.iconst 0, 1) := by decide +kernel
theorem dX5_odds_42 : decode cX5_odds 42 = .ok (.istore 6, 2) := by decide +kernel
theorem dX5_odds_44 : decode cX5_odds 44 = .ok (.aload_n 0, 1) := by decide +kernel
theorem dX5_odds_45 : decode cX5_odds 45 = .ok (.iload 5, 2) := by decide +kernel
theorem dX5_odds_47 : decode cX5_odds 47 = .ok (.ifCond .eq 13, 3) := by decide +kernel
theorem dX5_odds_50 : decode cX5_odds 50 = .ok (.iload 5, 2) := by decide +kernel
theorem dX5_odds_52 : decode cX5_odds 52 = .ok (.iconst 1, 1) := by decide +kernel
theorem dX5_odds_53 : decode cX5_odds 53 = .ok (.if_icmp .eq 7, 3) := by decide +kernel
theorem dX5_odds_56 : decode cX5_odds 56 = .ok (.iconst 1, 1) := by decide +kernel
theorem dX5_odds_57 : decode cX5_odds 57 = .ok (.goto 13, 3) := by decide +kernel
theorem dX5_odds_60 : decode cX5_odds 60 = .ok (.iload 6, 2) := by decide +kernel
theorem dX5_odds_62 : decode cX5_odds 62 = .ok (.ifCond .eq 7, 3) := by decide +kernel
theorem dX5_odds_65 : decode cX5_odds 65 = .ok (.iconst 0, 1) := by decide +kernel
theorem dX5_odds_66 : decode cX5_odds 66 = .ok (.goto 4, 3) := by decide +kernel
theorem dX5_odds_69 : decode cX5_odds 69 = .ok (.iconst 2, 1) := by decide +kernel
theorem dX5_odds_70 : decode cX5_odds 70 = .ok (.putfield 73, 3) := by decide +kernel
theorem dX5_odds_73 : decode cX5_odds 73 = .ok (.aload_n 0, 1) := by decide +kernel
theorem dX5_odds_74 : decode cX5_odds 74 = .ok (.getfield 73, 3) := by decide +kernel
theorem dX5_odds_77 : decode cX5_odds 77 = .ok (.ifCond .le 5, 3) := by decide +kernel
theorem dX5_odds_80 : decode cX5_odds 80 = .ok (.lconst 0, 1) := by decide +kernel
theorem dX5_odds_81 : decode cX5_odds 81 = .ok (.lreturn, 1) := by decide +kernel
theorem dX5_odds_82 : decode cX5_odds 82 = .ok (.lconst 0, 1) := by decide +kernel
theorem dX5_odds_83 : decode cX5_odds 83 = .ok (.lstore 7, 2) := by decide +kernel
theorem dX5_odds_85 : decode cX5_odds 85 = .ok (.lconst 1, 1) := by decide +kernel
theorem dX5_odds_86 : decode cX5_odds 86 = .ok (.lstore 9, 2) := by decide +kernel
theorem dX5_odds_88 : decode cX5_odds 88 = .ok (.iconst 0, 1) := by decide +kernel
theorem dX5_odds_89 : decode cX5_odds 89 = .ok (.istore 11, 2) := by decide +kernel
theorem dX5_odds_91 : decode cX5_odds 91 = .ok (.iload 11, 2) := by decide +kernel
theorem dX5_odds_93 : decode cX5_odds 93 = .ok (.iload_n 1, 1) := by decide +kernel
theorem dX5_odds_94 : decode cX5_odds 94 = .ok (.if_icmp .gt 59, 3) := by decide +kernel
theorem dX5_odds_97 : decode cX5_odds 97 = .ok (.iload 11, 2) := by decide +kernel
theorem dX5_odds_99 : decode cX5_odds 99 = .ok (.iload_n 2, 1) := by decide +kernel
theorem dX5_odds_100 : decode cX5_odds 100 = .ok (.if_icmp .gt 53, 3) := by decide +kernel
theorem dX5_odds_103 : decode cX5_odds 103 = .ok (.lload 7, 2) := by decide +kernel
theorem dX5_odds_105 : decode cX5_odds 105 = .ok (.lload 9, 2) := by decide +kernel
theorem dX5_odds_107 : decode cX5_odds 107 = .ok (.iload_n 3, 1) := by decide +kernel
theorem dX5_odds_108 : decode cX5_odds 108 = .ok (.i2l, 1) := by decide +kernel
theorem dX5_odds_109 : decode cX5_odds 109 = .ok (.iload 11, 2) := by decide +kernel
theorem dX5_odds_111 : decode cX5_odds 111 = .ok (.invokestatic 118, 3) := by decide +kernel
theorem dX5_odds_114 : decode cX5_odds 114 = .ok (.lmul, 1) := by decide +kernel
theorem dX5_odds_115 : decode cX5_odds 115 = .ok (.iload 4, 2) := by decide +kernel
theorem dX5_odds_117 : decode cX5_odds 117 = .ok (.iload_n 3, 1) := by decide +kernel
theorem dX5_odds_118 : decode cX5_odds 118 = .ok (.isub, 1) := by decide +kernel
theorem dX5_odds_119 : decode cX5_odds 119 = .ok (.i2l, 1) := by decide +kernel
theorem dX5_odds_120 : decode cX5_odds 120 = .ok (.iload_n 1, 1) := by decide +kernel
theorem dX5_odds_121 : decode cX5_odds 121 = .ok (.iload 11, 2) := by decide +kernel
theorem dX5_odds_123 : decode cX5_odds 123 = .ok (.isub, 1) := by decide +kernel
theorem dX5_odds_124 : decode cX5_odds 124 = .ok (.invokestatic 118, 3) := by decide +kernel
theorem dX5_odds_127 : decode cX5_odds 127 = .ok (.lmul, 1) := by decide +kernel
theorem dX5_odds_128 : decode cX5_odds 128 = .ok (.ladd, 1) := by decide +kernel
theorem dX5_odds_129 : decode cX5_odds 129 = .ok (.lstore 7, 2) := by decide +kernel
theorem dX5_odds_131 : decode cX5_odds 131 = .ok (.lload 9, 2) := by decide +kernel
theorem dX5_odds_133 : decode cX5_odds 133 = .ok (.iload_n 1, 1) := by decide +kernel
theorem dX5_odds_134 : decode cX5_odds 134 = .ok (.iload 11, 2) := by decide +kernel
theorem dX5_odds_136 : decode cX5_odds 136 = .ok (.isub, 1) := by decide +kernel
theorem dX5_odds_137 : decode cX5_odds 137 = .ok (.i2l, 1) := by decide +kernel
theorem dX5_odds_138 : decode cX5_odds 138 = .ok (.lmul, 1) := by decide +kernel
theorem dX5_odds_139 : decode cX5_odds 139 = .ok (.iload 11, 2) := by decide +kernel
theorem dX5_odds_141 : decode cX5_odds 141 = .ok (.iconst 1, 1) := by decide +kernel
theorem dX5_odds_142 : decode cX5_odds 142 = .ok (.iadd, 1) := by decide +kernel
theorem dX5_odds_143 : decode cX5_odds 143 = .ok (.i2l, 1) := by decide +kernel
theorem dX5_odds_144 : decode cX5_odds 144 = .ok (.ldiv, 1) := by decide +kernel
theorem dX5_odds_145 : decode cX5_odds 145 = .ok (.lstore 9, 2) := by decide +kernel
theorem dX5_odds_147 : decode cX5_odds 147 = .ok (.iinc 11 1, 3) := by decide +kernel
theorem dX5_odds_150 : decode cX5_odds 150 = .ok (.goto (-59), 3) := by decide +kernel
theorem dX5_odds_153 : decode cX5_odds 153 = .ok (.lload 7, 2) := by decide +kernel
theorem dX5_odds_155 : decode cX5_odds 155 = .ok (.lstore 11, 2) := by decide +kernel
theorem dX5_odds_157 : decode cX5_odds 157 = .ok (.iload 4, 2) := by decide +kernel
theorem dX5_odds_159 : decode cX5_odds 159 = .ok (.i2l, 1) := by decide +kernel
theorem dX5_odds_160 : decode cX5_odds 160 = .ok (.iload_n 1, 1) := by decide +kernel
theorem dX5_odds_161 : decode cX5_odds 161 = .ok (.invokestatic 118, 3) := by decide +kernel
theorem dX5_odds_164 : decode cX5_odds 164 = .ok (.lstore 13, 2) := by decide +kernel
theorem dX5_odds_166 : decode cX5_odds 166 = .ok (.lload 13, 2) := by decide +kernel
theorem dX5_odds_168 : decode cX5_odds 168 = .ok (.lconst 0, 1) := by decide +kernel
theorem dX5_odds_169 : decode cX5_odds 169 = .ok (.lcmp, 1) := by decide +kernel
theorem dX5_odds_170 : decode cX5_odds 170 = .ok (.ifCond .eq 21, 3) := by decide +kernel
theorem dX5_odds_173 : decode cX5_odds 173 = .ok (.lload 11, 2) := by decide +kernel
theorem dX5_odds_175 : decode cX5_odds 175 = .ok (.lload 13, 2) := by decide +kernel
theorem dX5_odds_177 : decode cX5_odds 177 = .ok (.lrem, 1) := by decide +kernel
theorem dX5_odds_178 : decode cX5_odds 178 = .ok (.lstore 15, 2) := by decide +kernel
theorem dX5_odds_180 : decode cX5_odds 180 = .ok (.lload 13, 2) := by decide +kernel
theorem dX5_odds_182 : decode cX5_odds 182 = .ok (.lstore 11, 2) := by decide +kernel
theorem dX5_odds_184 : decode cX5_odds 184 = .ok (.lload 15, 2) := by decide +kernel
theorem dX5_odds_186 : decode cX5_odds 186 = .ok (.lstore 13, 2) := by decide +kernel
theorem dX5_odds_188 : decode cX5_odds 188 = .ok (.goto (-22), 3) := by decide +kernel
theorem dX5_odds_191 : decode cX5_odds 191 = .ok (.iload 5, 2) := by decide +kernel
theorem dX5_odds_193 : decode cX5_odds 193 = .ok (.ifCond .ne 11, 3) := by decide +kernel
theorem dX5_odds_196 : decode cX5_odds 196 = .ok (.lload 7, 2) := by decide +kernel
theorem dX5_odds_198 : decode cX5_odds 198 = .ok (.lload 11, 2) := by decide +kernel
theorem dX5_odds_200 : decode cX5_odds 200 = .ok (.ldiv, 1) := by decide +kernel
theorem dX5_odds_201 : decode cX5_odds 201 = .ok (.goto 13, 3) := by decide +kernel
theorem dX5_odds_204 : decode cX5_odds 204 = .ok (.iload 4, 2) := by decide +kernel
theorem dX5_odds_206 : decode cX5_odds 206 = .ok (.i2l, 1) := by decide +kernel
theorem dX5_odds_207 : decode cX5_odds 207 = .ok (.iload_n 1, 1) := by decide +kernel
theorem dX5_odds_208 : decode cX5_odds 208 = .ok (.invokestatic 118, 3) := by decide +kernel
theorem dX5_odds_211 : decode cX5_odds 211 = .ok (.lload 11, 2) := by decide +kernel
theorem dX5_odds_213 : decode cX5_odds 213 = .ok (.ldiv, 1) := by decide +kernel
theorem dX5_odds_214 : decode cX5_odds 214 = .ok (.lreturn, 1) := by decide +kernel
theorem dX5_chart_0 : decode cX5_chart 0 = .ok (.aload_n 0, 1) := by decide +kernel
theorem dX5_chart_1 : decode cX5_chart 1 = .ok (.iload_n 1, 1) := by decide +kernel
theorem dX5_chart_2 : decode cX5_chart 2 = .ok (.iconst 1, 1) := by decide +kernel
theorem dX5_chart_3 : decode cX5_chart 3 = .ok (.if_icmp .lt 22, 3) := by decide +kernel
theorem dX5_chart_6 : decode cX5_chart 6 = .ok (.iload_n 1, 1) := by decide +kernel
theorem dX5_chart_7 : decode cX5_chart 7 = .ok (.bipush 20, 2) := by decide +kernel
theorem dX5_chart_9 : decode cX5_chart 9 = .ok (.if_icmp .gt 16, 3) := by decide +kernel
theorem dX5_chart_12 : decode cX5_chart 12 = .ok (.iload_n 2, 1) := by decide +kernel
theorem dX5_chart_13 : decode cX5_chart 13 = .ok (.ifCond .lt 12, 3) := by decide +kernel
theorem dX5_chart_16 : decode cX5_chart 16 = .ok (.iload_n 2, 1) := by decide +kernel
theorem dX5_chart_17 : decode cX5_chart 17 = .ok (.iload_n 1, 1) := by decide +kernel
theorem dX5_chart_18 : decode cX5_chart 18 = .ok (.if_icmp .gt 7, 3) := by decide +kernel
theorem dX5_chart_21 : decode cX5_chart 21 = .ok (.iconst 0, 1) := by decide +kernel
theorem dX5_chart_22 : decode cX5_chart 22 = .ok (.goto 4, 3) := by decide +kernel
theorem dX5_chart_25 : decode cX5_chart 25 = .ok (.iconst 1, 1) := by decide +kernel
theorem dX5_chart_26 : decode cX5_chart 26 = .ok (.putfield 73, 3) := by decide +kernel
theorem dX5_chart_29 : decode cX5_chart 29 = .ok (.aload_n 0, 1) := by decide +kernel
theorem dX5_chart_30 : decode cX5_chart 30 = .ok (.getfield 73, 3) := by decide +kernel
theorem dX5_chart_33 : decode cX5_chart 33 = .ok (.ifCond .ne 23, 3) := by decide +kernel
theorem dX5_chart_36 : decode cX5_chart 36 = .ok (.aload_n 0, 1) := by decide +kernel
theorem dX5_chart_37 : decode cX5_chart 37 = .ok (.iload_n 1, 1) := by decide +kernel
theorem dX5_chart_38 : decode cX5_chart 38 = .ok (.putfield 53, 3) := by decide +kernel
theorem dX5_chart_41 : decode cX5_chart 41 = .ok (.aload_n 0, 1) := by decide +kernel
theorem dX5_chart_42 : decode cX5_chart 42 = .ok (.iload_n 2, 1) := by decide +kernel
theorem dX5_chart_43 : decode cX5_chart 43 = .ok (.putfield 57, 3) := by decide +kernel
theorem dX5_chart_46 : decode cX5_chart 46 = .ok (.aload_n 0, 1) := by decide +kernel
theorem dX5_chart_47 : decode cX5_chart 47 = .ok (.iconst 0, 1) := by decide +kernel
theorem dX5_chart_48 : decode cX5_chart 48 = .ok (.putfield 122, 3) := by decide +kernel
theorem dX5_chart_51 : decode cX5_chart 51 = .ok (.aload_n 0, 1) := by decide +kernel
theorem dX5_chart_52 : decode cX5_chart 52 = .ok (.iconst 0, 1) := by decide +kernel
theorem dX5_chart_53 : decode cX5_chart 53 = .ok (.putfield 125, 3) := by decide +kernel
theorem dX5_chart_56 : decode cX5_chart 56 = .ok (.return_, 1) := by decide +kernel
theorem dX5_test_0 : decode cX5_test 0 = .ok (.aload_n 0, 1) := by decide +kernel
theorem dX5_test_1 : decode cX5_test 1 = .ok (.iconst 0, 1) := by decide +kernel
theorem dX5_test_2 : decode cX5_test 2 = .ok (.putfield 73, 3) := by decide +kernel
theorem dX5_test_5 : decode cX5_test 5 = .ok (.aload_n 0, 1) := by decide +kernel
theorem dX5_test_6 : decode cX5_test 6 = .ok (.getfield 60, 3) := by decide +kernel
theorem dX5_test_9 : decode cX5_test 9 = .ok (.aload_n 0, 1) := by decide +kernel
theorem dX5_test_10 : decode cX5_test 10 = .ok (.getfield 122, 3) := by decide +kernel
theorem dX5_test_13 : decode cX5_test 13 = .ok (.iload_n 1, 1) := by decide +kernel
theorem dX5_test_14 : decode cX5_test 14 = .ok (.bastore, 1) := by decide +kernel
theorem dX5_test_15 : decode cX5_test 15 = .ok (.aload_n 0, 1) := by decide +kernel
theorem dX5_test_16 : decode cX5_test 16 = .ok (.dup, 1) := by decide +kernel
theorem dX5_test_17 : decode cX5_test 17 = .ok (.getfield 122, 3) := by decide +kernel
theorem dX5_test_20 : decode cX5_test 20 = .ok (.iconst 1, 1) := by decide +kernel
theorem dX5_test_21 : decode cX5_test 21 = .ok (.iadd, 1) := by decide +kernel
theorem dX5_test_22 : decode cX5_test 22 = .ok (.putfield 122, 3) := by decide +kernel
theorem dX5_test_25 : decode cX5_test 25 = .ok (.iconst 0, 1) := by decide +kernel
theorem dX5_test_26 : decode cX5_test 26 = .ok (.istore_n 2, 1) := by decide +kernel
theorem dX5_test_27 : decode cX5_test 27 = .ok (.aload_n 0, 1) := by decide +kernel
theorem dX5_test_28 : decode cX5_test 28 = .ok (.getfield 122, 3) := by decide +kernel
theorem dX5_test_31 : decode cX5_test 31 = .ok (.iconst 1, 1) := by decide +kernel
theorem dX5_test_32 : decode cX5_test 32 = .ok (.isub, 1) := by decide +kernel
theorem dX5_test_33 : decode cX5_test 33 = .ok (.istore_n 3, 1) := by decide +kernel
theorem dX5_test_34 : decode cX5_test 34 = .ok (.iload_n 3, 1) := by decide +kernel
theorem dX5_test_35 : decode cX5_test 35 = .ok (.ifCond .lt 39, 3) := by decide +kernel
theorem dX5_test_38 : decode cX5_test 38 = .ok (.iload_n 3, 1) := by decide +kernel
theorem dX5_test_39 : decode cX5_test 39 = .ok (.aload_n 0, 1) := by decide +kernel
theorem dX5_test_40 : decode cX5_test 40 = .ok (.getfield 122, 3) := by decide +kernel
theorem dX5_test_43 : decode cX5_test 43 = .ok (.aload_n 0, 1) := by decide +kernel
theorem dX5_test_44 : decode cX5_test 44 = .ok (.getfield 53, 3) := by decide +kernel
theorem dX5_test_47 : decode cX5_test 47 = .ok (.isub, 1) := by decide +kernel
theorem dX5_test_48 : decode cX5_test 48 = .ok (.if_icmp .lt 26, 3) := by decide +kernel
theorem dX5_test_51 : decode cX5_test 51 = .ok (.aload_n 0, 1) := by decide +kernel
theorem dX5_test_52 : decode cX5_test 52 = .ok (.getfield 60, 3) := by decide +kernel
theorem dX5_test_55 : decode cX5_test 55 = .ok (.iload_n 3, 1) := by decide +kernel
theorem dX5_test_56 : decode cX5_test 56 = .ok (.baload, 1) := by decide +kernel
theorem dX5_test_57 : decode cX5_test 57 = .ok (.ifCond .eq 9, 3) := by decide +kernel
theorem dX5_test_60 : decode cX5_test 60 = .ok (.iload_n 2, 1) := by decide +kernel
theorem dX5_test_61 : decode cX5_test 61 = .ok (.iconst 1, 1) := by decide +kernel
theorem dX5_test_62 : decode cX5_test 62 = .ok (.iadd, 1) := by decide +kernel
theorem dX5_test_63 : decode cX5_test 63 = .ok (.goto 4, 3) := by decide +kernel
theorem dX5_test_66 : decode cX5_test 66 = .ok (.iload_n 2, 1) := by decide +kernel
theorem dX5_test_67 : decode cX5_test 67 = .ok (.istore_n 2, 1) := by decide +kernel
theorem dX5_test_68 : decode cX5_test 68 = .ok (.iinc 3 (-1), 3) := by decide +kernel
theorem dX5_test_71 : decode cX5_test 71 = .ok (.goto (-37), 3) := by decide +kernel
theorem dX5_test_74 : decode cX5_test 74 = .ok (.aload_n 0, 1) := by decide +kernel
theorem dX5_test_75 : decode cX5_test 75 = .ok (.getfield 125, 3) := by decide +kernel
theorem dX5_test_78 : decode cX5_test 78 = .ok (.ifCond .le 15, 3) := by decide +kernel
theorem dX5_test_81 : decode cX5_test 81 = .ok (.aload_n 0, 1) := by decide +kernel
theorem dX5_test_82 : decode cX5_test 82 = .ok (.dup, 1) := by decide +kernel
theorem dX5_test_83 : decode cX5_test 83 = .ok (.getfield 125, 3) := by decide +kernel
theorem dX5_test_86 : decode cX5_test 86 = .ok (.iconst 1, 1) := by decide +kernel
theorem dX5_test_87 : decode cX5_test 87 = .ok (.isub, 1) := by decide +kernel
theorem dX5_test_88 : decode cX5_test 88 = .ok (.putfield 125, 3) := by decide +kernel
theorem dX5_test_91 : decode cX5_test 91 = .ok (.iconst 0, 1) := by decide +kernel
theorem dX5_test_92 : decode cX5_test 92 = .ok (.ireturn, 1) := by decide +kernel
theorem dX5_test_93 : decode cX5_test 93 = .ok (.iload_n 2, 1) := by decide +kernel
theorem dX5_test_94 : decode cX5_test 94 = .ok (.aload_n 0, 1) := by decide +kernel
theorem dX5_test_95 : decode cX5_test 95 = .ok (.getfield 57, 3) := by decide +kernel
theorem dX5_test_98 : decode cX5_test 98 = .ok (.if_icmp .le 7, 3) := by decide +kernel
theorem dX5_test_101 : decode cX5_test 101 = .ok (.iconst 1, 1) := by decide +kernel
theorem dX5_test_102 : decode cX5_test 102 = .ok (.goto 4, 3) := by decide +kernel
theorem dX5_test_105 : decode cX5_test 105 = .ok (.iconst 0, 1) := by decide +kernel
theorem dX5_test_106 : decode cX5_test 106 = .ok (.istore_n 3, 1) := by decide +kernel
theorem dX5_test_107 : decode cX5_test 107 = .ok (.aload_n 0, 1) := by decide +kernel
theorem dX5_test_108 : decode cX5_test 108 = .ok (.iload_n 3, 1) := by decide +kernel
theorem dX5_test_109 : decode cX5_test 109 = .ok (.ifCond .eq 10, 3) := by decide +kernel
theorem dX5_test_112 : decode cX5_test 112 = .ok (.aload_n 0, 1) := by decide +kernel
theorem dX5_test_113 : decode cX5_test 113 = .ok (.getfield 53, 3) := by decide +kernel
theorem dX5_test_116 : decode cX5_test 116 = .ok (.goto 4, 3) := by decide +kernel
theorem dX5_test_119 : decode cX5_test 119 = .ok (.iconst 0, 1) := by decide +kernel
theorem dX5_test_120 : decode cX5_test 120 = .ok (.putfield 125, 3) := by decide +kernel
theorem dX5_test_123 : decode cX5_test 123 = .ok (.iload_n 3, 1) := by decide +kernel
theorem dX5_test_124 : decode cX5_test 124 = .ok (.ireturn, 1) := by decide +kernel
theorem dX5_proof_0 : decode cX5_proof 0 = .ok (.aload_n 0, 1) := by decide +kernel
theorem dX5_proof_1 : decode cX5_proof 1 = .ok (.dload_n 1, 1) := by decide +kernel
theorem dX5_proof_2 : decode cX5_proof 2 = .ok (.dconst 0, 1) := by decide +kernel
theorem dX5_proof_3 : decode cX5_proof 3 = .ok (.ldc2_w 83, 3) := by decide +kernel
theorem dX5_proof_6 : decode cX5_proof 6 = .ok (.invokestatic 85, 3) := by decide +kernel
theorem dX5_proof_9 : decode cX5_proof 9 = .ok (.ifCond .eq 7, 3) := by decide +kernel
theorem dX5_proof_12 : decode cX5_proof 12 = .ok (.iconst 0, 1) := by decide +kernel
theorem dX5_proof_13 : decode cX5_proof 13 = .ok (.goto 4, 3) := by decide +kernel
theorem dX5_proof_16 : decode cX5_proof 16 = .ok (.iconst 1, 1) := by decide +kernel
theorem dX5_proof_17 : decode cX5_proof 17 = .ok (.putfield 73, 3) := by decide +kernel
theorem dX5_proof_20 : decode cX5_proof 20 = .ok (.iconst 0, 1) := by decide +kernel
theorem dX5_proof_21 : decode cX5_proof 21 = .ok (.istore_n 3, 1) := by decide +kernel
theorem dX5_proof_22 : decode cX5_proof 22 = .ok (.iconst 0, 1) := by decide +kernel
theorem dX5_proof_23 : decode cX5_proof 23 = .ok (.istore 4, 2) := by decide +kernel
theorem dX5_proof_25 : decode cX5_proof 25 = .ok (.iload 4, 2) := by decide +kernel
theorem dX5_proof_27 : decode cX5_proof 27 = .ok (.aload_n 0, 1) := by decide +kernel
theorem dX5_proof_28 : decode cX5_proof 28 = .ok (.getfield 76, 3) := by decide +kernel
theorem dX5_proof_31 : decode cX5_proof 31 = .ok (.if_icmp .ge 59, 3) := by decide +kernel
theorem dX5_proof_34 : decode cX5_proof 34 = .ok (.aload_n 0, 1) := by decide +kernel
theorem dX5_proof_35 : decode cX5_proof 35 = .ok (.getfield 73, 3) := by decide +kernel
theorem dX5_proof_38 : decode cX5_proof 38 = .ok (.ifCond .ne 52, 3) := by decide +kernel
theorem dX5_proof_41 : decode cX5_proof 41 = .ok (.aload_n 0, 1) := by decide +kernel
theorem dX5_proof_42 : decode cX5_proof 42 = .ok (.getfield 26, 3) := by decide +kernel
theorem dX5_proof_45 : decode cX5_proof 45 = .ok (.iload 4, 2) := by decide +kernel
theorem dX5_proof_47 : decode cX5_proof 47 = .ok (.baload, 1) := by decide +kernel
theorem dX5_proof_48 : decode cX5_proof 48 = .ok (.ifCond .eq 36, 3) := by decide +kernel
theorem dX5_proof_51 : decode cX5_proof 51 = .ok (.aload_n 0, 1) := by decide +kernel
theorem dX5_proof_52 : decode cX5_proof 52 = .ok (.getfield 30, 3) := by decide +kernel
theorem dX5_proof_55 : decode cX5_proof 55 = .ok (.iload 4, 2) := by decide +kernel
theorem dX5_proof_57 : decode cX5_proof 57 = .ok (.baload, 1) := by decide +kernel
theorem dX5_proof_58 : decode cX5_proof 58 = .ok (.ifCond .ne 26, 3) := by decide +kernel
theorem dX5_proof_61 : decode cX5_proof 61 = .ok (.aload_n 0, 1) := by decide +kernel
theorem dX5_proof_62 : decode cX5_proof 62 = .ok (.getfield 23, 3) := by decide +kernel
theorem dX5_proof_65 : decode cX5_proof 65 = .ok (.iload 4, 2) := by decide +kernel
theorem dX5_proof_67 : decode cX5_proof 67 = .ok (.daload, 1) := by decide +kernel
theorem dX5_proof_68 : decode cX5_proof 68 = .ok (.dload_n 1, 1) := by decide +kernel
theorem dX5_proof_69 : decode cX5_proof 69 = .ok (.dcmp .g, 1) := by decide +kernel
theorem dX5_proof_70 : decode cX5_proof 70 = .ok (.ifCond .ge 14, 3) := by decide +kernel
theorem dX5_proof_73 : decode cX5_proof 73 = .ok (.aload_n 0, 1) := by decide +kernel
theorem dX5_proof_74 : decode cX5_proof 74 = .ok (.getfield 30, 3) := by decide +kernel
theorem dX5_proof_77 : decode cX5_proof 77 = .ok (.iload 4, 2) := by decide +kernel
theorem dX5_proof_79 : decode cX5_proof 79 = .ok (.iconst 1, 1) := by decide +kernel
theorem dX5_proof_80 : decode cX5_proof 80 = .ok (.bastore, 1) := by decide +kernel
theorem dX5_proof_81 : decode cX5_proof 81 = .ok (.iinc 3 1, 3) := by decide +kernel
theorem dX5_proof_84 : decode cX5_proof 84 = .ok (.iinc 4 1, 3) := by decide +kernel
theorem dX5_proof_87 : decode cX5_proof 87 = .ok (.goto (-62), 3) := by decide +kernel
theorem dX5_proof_90 : decode cX5_proof 90 = .ok (.iload_n 3, 1) := by decide +kernel
theorem dX5_proof_91 : decode cX5_proof 91 = .ok (.ireturn, 1) := by decide +kernel
theorem dX5_about_0 : decode cX5_about 0 = .ok (.aload_n 0, 1) := by decide +kernel
theorem dX5_about_1 : decode cX5_about 1 = .ok (.aload_n 0, 1) := by decide +kernel
theorem dX5_about_2 : decode cX5_about 2 = .ok (.iload_n 1, 1) := by decide +kernel
theorem dX5_about_3 : decode cX5_about 3 = .ok (.invokevirtual 79, 3) := by decide +kernel
theorem dX5_about_6 : decode cX5_about 6 = .ok (.ifCond .ne 12, 3) := by decide +kernel
theorem dX5_about_9 : decode cX5_about 9 = .ok (.iload_n 2, 1) := by decide +kernel
theorem dX5_about_10 : decode cX5_about 10 = .ok (.ifCond .lt 8, 3) := by decide +kernel
theorem dX5_about_13 : decode cX5_about 13 = .ok (.iload_n 2, 1) := by decide +kernel
theorem dX5_about_14 : decode cX5_about 14 = .ok (.iconst 3, 1) := by decide +kernel
theorem dX5_about_15 : decode cX5_about 15 = .ok (.if_icmp .le 7, 3) := by decide +kernel
theorem dX5_about_18 : decode cX5_about 18 = .ok (.iconst 1, 1) := by decide +kernel
theorem dX5_about_19 : decode cX5_about 19 = .ok (.goto 4, 3) := by decide +kernel
theorem dX5_about_22 : decode cX5_about 22 = .ok (.iconst 0, 1) := by decide +kernel
theorem dX5_about_23 : decode cX5_about 23 = .ok (.putfield 73, 3) := by decide +kernel
theorem dX5_about_26 : decode cX5_about 26 = .ok (.aload_n 0, 1) := by decide +kernel
theorem dX5_about_27 : decode cX5_about 27 = .ok (.getfield 73, 3) := by decide +kernel
theorem dX5_about_30 : decode cX5_about 30 = .ok (.ifCond .le 5, 3) := by decide +kernel
theorem dX5_about_33 : decode cX5_about 33 = .ok (.iconst 0, 1) := by decide +kernel
theorem dX5_about_34 : decode cX5_about 34 = .ok (.ireturn, 1) := by decide +kernel
theorem dX5_about_35 : decode cX5_about 35 = .ok (.iload_n 2, 1) := by decide +kernel
theorem dX5_about_36 : decode cX5_about 36 = .ok (.ifCond .ne 12, 3) := by decide +kernel
theorem dX5_about_39 : decode cX5_about 39 = .ok (.aload_n 0, 1) := by decide +kernel
theorem dX5_about_40 : decode cX5_about 40 = .ok (.getfield 13, 3) := by decide +kernel
theorem dX5_about_43 : decode cX5_about 43 = .ok (.iload_n 1, 1) := by decide +kernel
theorem dX5_about_44 : decode cX5_about 44 = .ok (.iaload, 1) := by decide +kernel
theorem dX5_about_45 : decode cX5_about 45 = .ok (.goto 60, 3) := by decide +kernel
theorem dX5_about_48 : decode cX5_about 48 = .ok (.iload_n 2, 1) := by decide +kernel
theorem dX5_about_49 : decode cX5_about 49 = .ok (.iconst 1, 1) := by decide +kernel
theorem dX5_about_50 : decode cX5_about 50 = .ok (.if_icmp .ne 19, 3) := by decide +kernel
theorem dX5_about_53 : decode cX5_about 53 = .ok (.aload_n 0, 1) := by decide +kernel
theorem dX5_about_54 : decode cX5_about 54 = .ok (.iload_n 1, 1) := by decide +kernel
theorem dX5_about_55 : decode cX5_about 55 = .ok (.invokevirtual 99, 3) := by decide +kernel
theorem dX5_about_58 : decode cX5_about 58 = .ok (.ifCond .eq 7, 3) := by decide +kernel
theorem dX5_about_61 : decode cX5_about 61 = .ok (.iconst 1, 1) := by decide +kernel
theorem dX5_about_62 : decode cX5_about 62 = .ok (.goto 43, 3) := by decide +kernel
theorem dX5_about_65 : decode cX5_about 65 = .ok (.iconst 0, 1) := by decide +kernel
theorem dX5_about_66 : decode cX5_about 66 = .ok (.goto 39, 3) := by decide +kernel
theorem dX5_about_69 : decode cX5_about 69 = .ok (.iload_n 2, 1) := by decide +kernel
theorem dX5_about_70 : decode cX5_about 70 = .ok (.iconst 2, 1) := by decide +kernel
theorem dX5_about_71 : decode cX5_about 71 = .ok (.if_icmp .ne 20, 3) := by decide +kernel
theorem dX5_about_74 : decode cX5_about 74 = .ok (.aload_n 0, 1) := by decide +kernel
theorem dX5_about_75 : decode cX5_about 75 = .ok (.getfield 26, 3) := by decide +kernel
theorem dX5_about_78 : decode cX5_about 78 = .ok (.iload_n 1, 1) := by decide +kernel
theorem dX5_about_79 : decode cX5_about 79 = .ok (.baload, 1) := by decide +kernel
theorem dX5_about_80 : decode cX5_about 80 = .ok (.ifCond .eq 7, 3) := by decide +kernel
theorem dX5_about_83 : decode cX5_about 83 = .ok (.iconst 1, 1) := by decide +kernel
theorem dX5_about_84 : decode cX5_about 84 = .ok (.goto 21, 3) := by decide +kernel
theorem dX5_about_87 : decode cX5_about 87 = .ok (.iconst 0, 1) := by decide +kernel
theorem dX5_about_88 : decode cX5_about 88 = .ok (.goto 17, 3) := by decide +kernel
theorem dX5_about_91 : decode cX5_about 91 = .ok (.aload_n 0, 1) := by decide +kernel
theorem dX5_about_92 : decode cX5_about 92 = .ok (.getfield 30, 3) := by decide +kernel
theorem dX5_about_95 : decode cX5_about 95 = .ok (.iload_n 1, 1) := by decide +kernel
theorem dX5_about_96 : decode cX5_about 96 = .ok (.baload, 1) := by decide +kernel
theorem dX5_about_97 : decode cX5_about 97 = .ok (.ifCond .eq 7, 3) := by decide +kernel
theorem dX5_about_100 : decode cX5_about 100 = .ok (.iconst 1, 1) := by decide +kernel
theorem dX5_about_101 : decode cX5_about 101 = .ok (.goto 4, 3) := by decide +kernel
theorem dX5_about_104 : decode cX5_about 104 = .ok (.iconst 0, 1) := by decide +kernel
theorem dX5_about_105 : decode cX5_about 105 = .ok (.ireturn, 1) := by decide +kernel
theorem dX5_reference_0 : decode cX5_reference 0 = .ok (.iload_n 1, 1) := by decide +kernel
theorem dX5_reference_1 : decode cX5_reference 1 = .ok (.ifCond .lt 49, 3) := by decide +kernel
theorem dX5_reference_4 : decode cX5_reference 4 = .ok (.iload_n 1, 1) := by decide +kernel
theorem dX5_reference_5 : decode cX5_reference 5 = .ok (.sipush 10000, 3) := by decide +kernel
theorem dX5_reference_8 : decode cX5_reference 8 = .ok (.if_icmp .gt 42, 3) := by decide +kernel
theorem dX5_reference_11 : decode cX5_reference 11 = .ok (.aload_n 0, 1) := by decide +kernel
theorem dX5_reference_12 : decode cX5_reference 12 = .ok (.getfield 128, 3) := by decide +kernel
theorem dX5_reference_15 : decode cX5_reference 15 = .ok (.ifCond .eq 18, 3) := by decide +kernel
theorem dX5_reference_18 : decode cX5_reference 18 = .ok (.iload_n 1, 1) := by decide +kernel
theorem dX5_reference_19 : decode cX5_reference 19 = .ok (.aload_n 0, 1) := by decide +kernel
theorem dX5_reference_20 : decode cX5_reference 20 = .ok (.getfield 63, 3) := by decide +kernel
theorem dX5_reference_23 : decode cX5_reference 23 = .ok (.aload_n 0, 1) := by decide +kernel
theorem dX5_reference_24 : decode cX5_reference 24 = .ok (.getfield 128, 3) := by decide +kernel
theorem dX5_reference_27 : decode cX5_reference 27 = .ok (.iconst 1, 1) := by decide +kernel
theorem dX5_reference_28 : decode cX5_reference 28 = .ok (.isub, 1) := by decide +kernel
theorem dX5_reference_29 : decode cX5_reference 29 = .ok (.iaload, 1) := by decide +kernel
theorem dX5_reference_30 : decode cX5_reference 30 = .ok (.if_icmp .le 20, 3) := by decide +kernel
theorem dX5_reference_33 : decode cX5_reference 33 = .ok (.dload_n 2, 1) := by decide +kernel
theorem dX5_reference_34 : decode cX5_reference 34 = .ok (.ldc2_w 131, 3) := by decide +kernel
theorem dX5_reference_37 : decode cX5_reference 37 = .ok (.ldc2_w 83, 3) := by decide +kernel
theorem dX5_reference_40 : decode cX5_reference 40 = .ok (.invokestatic 85, 3) := by decide +kernel
theorem dX5_reference_43 : decode cX5_reference 43 = .ok (.ifCond .eq 7, 3) := by decide +kernel
theorem dX5_reference_46 : decode cX5_reference 46 = .ok (.iconst 1, 1) := by decide +kernel
theorem dX5_reference_47 : decode cX5_reference 47 = .ok (.goto 4, 3) := by decide +kernel
theorem dX5_reference_50 : decode cX5_reference 50 = .ok (.iconst 0, 1) := by decide +kernel
theorem dX5_reference_51 : decode cX5_reference 51 = .ok (.istore 4, 2) := by decide +kernel
theorem dX5_reference_53 : decode cX5_reference 53 = .ok (.aload_n 0, 1) := by decide +kernel
theorem dX5_reference_54 : decode cX5_reference 54 = .ok (.iload 4, 2) := by decide +kernel
theorem dX5_reference_56 : decode cX5_reference 56 = .ok (.ifCond .ne 7, 3) := by decide +kernel
theorem dX5_reference_59 : decode cX5_reference 59 = .ok (.iconst 1, 1) := by decide +kernel
theorem dX5_reference_60 : decode cX5_reference 60 = .ok (.goto 17, 3) := by decide +kernel
theorem dX5_reference_63 : decode cX5_reference 63 = .ok (.aload_n 0, 1) := by decide +kernel
theorem dX5_reference_64 : decode cX5_reference 64 = .ok (.getfield 128, 3) := by decide +kernel
theorem dX5_reference_67 : decode cX5_reference 67 = .ok (.bipush 16, 2) := by decide +kernel
theorem dX5_reference_69 : decode cX5_reference 69 = .ok (.if_icmp .ne 7, 3) := by decide +kernel
theorem dX5_reference_72 : decode cX5_reference 72 = .ok (.iconst 2, 1) := by decide +kernel
theorem dX5_reference_73 : decode cX5_reference 73 = .ok (.goto 4, 3) := by decide +kernel
theorem dX5_reference_76 : decode cX5_reference 76 = .ok (.iconst 0, 1) := by decide +kernel
theorem dX5_reference_77 : decode cX5_reference 77 = .ok (.putfield 73, 3) := by decide +kernel
theorem dX5_reference_80 : decode cX5_reference 80 = .ok (.aload_n 0, 1) := by decide +kernel
theorem dX5_reference_81 : decode cX5_reference 81 = .ok (.getfield 73, 3) := by decide +kernel
theorem dX5_reference_84 : decode cX5_reference 84 = .ok (.ifCond .le 5, 3) := by decide +kernel
theorem dX5_reference_87 : decode cX5_reference 87 = .ok (.iconst 0, 1) := by decide +kernel
theorem dX5_reference_88 : decode cX5_reference 88 = .ok (.ireturn, 1) := by decide +kernel
theorem dX5_reference_89 : decode cX5_reference 89 = .ok (.aload_n 0, 1) := by decide +kernel
theorem dX5_reference_90 : decode cX5_reference 90 = .ok (.getfield 63, 3) := by decide +kernel
theorem dX5_reference_93 : decode cX5_reference 93 = .ok (.aload_n 0, 1) := by decide +kernel
theorem dX5_reference_94 : decode cX5_reference 94 = .ok (.getfield 128, 3) := by decide +kernel
theorem dX5_reference_97 : decode cX5_reference 97 = .ok (.iload_n 1, 1) := by decide +kernel
theorem dX5_reference_98 : decode cX5_reference 98 = .ok (.iastore, 1) := by decide +kernel
theorem dX5_reference_99 : decode cX5_reference 99 = .ok (.aload_n 0, 1) := by decide +kernel
theorem dX5_reference_100 : decode cX5_reference 100 = .ok (.getfield 66, 3) := by decide +kernel
theorem dX5_reference_103 : decode cX5_reference 103 = .ok (.aload_n 0, 1) := by decide +kernel
theorem dX5_reference_104 : decode cX5_reference 104 = .ok (.getfield 128, 3) := by decide +kernel
theorem dX5_reference_107 : decode cX5_reference 107 = .ok (.dload_n 2, 1) := by decide +kernel
theorem dX5_reference_108 : decode cX5_reference 108 = .ok (.dastore, 1) := by decide +kernel
theorem dX5_reference_109 : decode cX5_reference 109 = .ok (.aload_n 0, 1) := by decide +kernel
theorem dX5_reference_110 : decode cX5_reference 110 = .ok (.dup, 1) := by decide +kernel
theorem dX5_reference_111 : decode cX5_reference 111 = .ok (.getfield 128, 3) := by decide +kernel
theorem dX5_reference_114 : decode cX5_reference 114 = .ok (.iconst 1, 1) := by decide +kernel
theorem dX5_reference_115 : decode cX5_reference 115 = .ok (.iadd, 1) := by decide +kernel
theorem dX5_reference_116 : decode cX5_reference 116 = .ok (.putfield 128, 3) := by decide +kernel
theorem dX5_reference_119 : decode cX5_reference 119 = .ok (.aload_n 0, 1) := by decide +kernel
theorem dX5_reference_120 : decode cX5_reference 120 = .ok (.getfield 128, 3) := by decide +kernel
theorem dX5_reference_123 : decode cX5_reference 123 = .ok (.ireturn, 1) := by decide +kernel
theorem dX5_drift_0 : decode cX5_drift 0 = .ok (.aload_n 0, 1) := by decide +kernel
theorem dX5_drift_1 : decode cX5_drift 1 = .ok (.iload_n 1, 1) := by decide +kernel
theorem dX5_drift_2 : decode cX5_drift 2 = .ok (.ifCond .lt 14, 3) := by decide +kernel
theorem dX5_drift_5 : decode cX5_drift 5 = .ok (.iload_n 1, 1) := by decide +kernel
theorem dX5_drift_6 : decode cX5_drift 6 = .ok (.sipush 10000, 3) := by decide +kernel
theorem dX5_drift_9 : decode cX5_drift 9 = .ok (.if_icmp .gt 7, 3) := by decide +kernel
theorem dX5_drift_12 : decode cX5_drift 12 = .ok (.iconst 0, 1) := by decide +kernel
theorem dX5_drift_13 : decode cX5_drift 13 = .ok (.goto 4, 3) := by decide +kernel
theorem dX5_drift_16 : decode cX5_drift 16 = .ok (.iconst 1, 1) := by decide +kernel
theorem dX5_drift_17 : decode cX5_drift 17 = .ok (.putfield 73, 3) := by decide +kernel
theorem dX5_drift_20 : decode cX5_drift 20 = .ok (.aload_n 0, 1) := by decide +kernel
theorem dX5_drift_21 : decode cX5_drift 21 = .ok (.getfield 73, 3) := by decide +kernel
theorem dX5_drift_24 : decode cX5_drift 24 = .ok (.ifCond .gt 10, 3) := by decide +kernel
theorem dX5_drift_27 : decode cX5_drift 27 = .ok (.aload_n 0, 1) := by decide +kernel
theorem dX5_drift_28 : decode cX5_drift 28 = .ok (.getfield 128, 3) := by decide +kernel
theorem dX5_drift_31 : decode cX5_drift 31 = .ok (.ifCond .ne 5, 3) := by decide +kernel
theorem dX5_drift_34 : decode cX5_drift 34 = .ok (.dconst 0, 1) := by decide +kernel
theorem dX5_drift_35 : decode cX5_drift 35 = .ok (.dreturn, 1) := by decide +kernel
theorem dX5_drift_36 : decode cX5_drift 36 = .ok (.iload_n 1, 1) := by decide +kernel
theorem dX5_drift_37 : decode cX5_drift 37 = .ok (.aload_n 0, 1) := by decide +kernel
theorem dX5_drift_38 : decode cX5_drift 38 = .ok (.getfield 63, 3) := by decide +kernel
theorem dX5_drift_41 : decode cX5_drift 41 = .ok (.iconst 0, 1) := by decide +kernel
theorem dX5_drift_42 : decode cX5_drift 42 = .ok (.iaload, 1) := by decide +kernel
theorem dX5_drift_43 : decode cX5_drift 43 = .ok (.if_icmp .gt 10, 3) := by decide +kernel
theorem dX5_drift_46 : decode cX5_drift 46 = .ok (.aload_n 0, 1) := by decide +kernel
theorem dX5_drift_47 : decode cX5_drift 47 = .ok (.getfield 66, 3) := by decide +kernel
theorem dX5_drift_50 : decode cX5_drift 50 = .ok (.iconst 0, 1) := by decide +kernel
theorem dX5_drift_51 : decode cX5_drift 51 = .ok (.daload, 1) := by decide +kernel
theorem dX5_drift_52 : decode cX5_drift 52 = .ok (.dreturn, 1) := by decide +kernel
theorem dX5_drift_53 : decode cX5_drift 53 = .ok (.iconst 0, 1) := by decide +kernel
theorem dX5_drift_54 : decode cX5_drift 54 = .ok (.istore_n 2, 1) := by decide +kernel
theorem dX5_drift_55 : decode cX5_drift 55 = .ok (.iload_n 2, 1) := by decide +kernel
theorem dX5_drift_56 : decode cX5_drift 56 = .ok (.iconst 1, 1) := by decide +kernel
theorem dX5_drift_57 : decode cX5_drift 57 = .ok (.iadd, 1) := by decide +kernel
theorem dX5_drift_58 : decode cX5_drift 58 = .ok (.aload_n 0, 1) := by decide +kernel
theorem dX5_drift_59 : decode cX5_drift 59 = .ok (.getfield 128, 3) := by decide +kernel
theorem dX5_drift_62 : decode cX5_drift 62 = .ok (.if_icmp .ge 21, 3) := by decide +kernel
theorem dX5_drift_65 : decode cX5_drift 65 = .ok (.aload_n 0, 1) := by decide +kernel
theorem dX5_drift_66 : decode cX5_drift 66 = .ok (.getfield 63, 3) := by decide +kernel
theorem dX5_drift_69 : decode cX5_drift 69 = .ok (.iload_n 2, 1) := by decide +kernel
theorem dX5_drift_70 : decode cX5_drift 70 = .ok (.iconst 1, 1) := by decide +kernel
theorem dX5_drift_71 : decode cX5_drift 71 = .ok (.iadd, 1) := by decide +kernel
theorem dX5_drift_72 : decode cX5_drift 72 = .ok (.iaload, 1) := by decide +kernel
theorem dX5_drift_73 : decode cX5_drift 73 = .ok (.iload_n 1, 1) := by decide +kernel
theorem dX5_drift_74 : decode cX5_drift 74 = .ok (.if_icmp .gt 9, 3) := by decide +kernel
theorem dX5_drift_77 : decode cX5_drift 77 = .ok (.iinc 2 1, 3) := by decide +kernel
theorem dX5_drift_80 : decode cX5_drift 80 = .ok (.goto (-25), 3) := by decide +kernel
theorem dX5_drift_83 : decode cX5_drift 83 = .ok (.iload_n 2, 1) := by decide +kernel
theorem dX5_drift_84 : decode cX5_drift 84 = .ok (.iconst 1, 1) := by decide +kernel
theorem dX5_drift_85 : decode cX5_drift 85 = .ok (.iadd, 1) := by decide +kernel
theorem dX5_drift_86 : decode cX5_drift 86 = .ok (.aload_n 0, 1) := by decide +kernel
theorem dX5_drift_87 : decode cX5_drift 87 = .ok (.getfield 128, 3) := by decide +kernel
theorem dX5_drift_90 : decode cX5_drift 90 = .ok (.if_icmp .ne 10, 3) := by decide +kernel
theorem dX5_drift_93 : decode cX5_drift 93 = .ok (.aload_n 0, 1) := by decide +kernel
theorem dX5_drift_94 : decode cX5_drift 94 = .ok (.getfield 66, 3) := by decide +kernel
theorem dX5_drift_97 : decode cX5_drift 97 = .ok (.iload_n 2, 1) := by decide +kernel
theorem dX5_drift_98 : decode cX5_drift 98 = .ok (.daload, 1) := by decide +kernel
theorem dX5_drift_99 : decode cX5_drift 99 = .ok (.dreturn, 1) := by decide +kernel
theorem dX5_drift_100 : decode cX5_drift 100 = .ok (.aload_n 0, 1) := by decide +kernel
theorem dX5_drift_101 : decode cX5_drift 101 = .ok (.getfield 66, 3) := by decide +kernel
theorem dX5_drift_104 : decode cX5_drift 104 = .ok (.iload_n 2, 1) := by decide +kernel
theorem dX5_drift_105 : decode cX5_drift 105 = .ok (.daload, 1) := by decide +kernel
theorem dX5_drift_106 : decode cX5_drift 106 = .ok (.iload_n 1, 1) := by decide +kernel
theorem dX5_drift_107 : decode cX5_drift 107 = .ok (.aload_n 0, 1) := by decide +kernel
theorem dX5_drift_108 : decode cX5_drift 108 = .ok (.getfield 63, 3) := by decide +kernel
theorem dX5_drift_111 : decode cX5_drift 111 = .ok (.iload_n 2, 1) := by decide +kernel
theorem dX5_drift_112 : decode cX5_drift 112 = .ok (.iaload, 1) := by decide +kernel
theorem dX5_drift_113 : decode cX5_drift 113 = .ok (.isub, 1) := by decide +kernel
theorem dX5_drift_114 : decode cX5_drift 114 = .ok (.i2d, 1) := by decide +kernel
theorem dX5_drift_115 : decode cX5_drift 115 = .ok (.aload_n 0, 1) := by decide +kernel
theorem dX5_drift_116 : decode cX5_drift 116 = .ok (.getfield 66, 3) := by decide +kernel
theorem dX5_drift_119 : decode cX5_drift 119 = .ok (.iload_n 2, 1) := by decide +kernel
theorem dX5_drift_120 : decode cX5_drift 120 = .ok (.iconst 1, 1) := by decide +kernel
theorem dX5_drift_121 : decode cX5_drift 121 = .ok (.iadd, 1) := by decide +kernel
theorem dX5_drift_122 : decode cX5_drift 122 = .ok (.daload, 1) := by decide +kernel
theorem dX5_drift_123 : decode cX5_drift 123 = .ok (.aload_n 0, 1) := by decide +kernel
theorem dX5_drift_124 : decode cX5_drift 124 = .ok (.getfield 66, 3) := by decide +kernel
theorem dX5_drift_127 : decode cX5_drift 127 = .ok (.iload_n 2, 1) := by decide +kernel
theorem dX5_drift_128 : decode cX5_drift 128 = .ok (.daload, 1) := by decide +kernel
theorem dX5_drift_129 : decode cX5_drift 129 = .ok (.dsub, 1) := by decide +kernel
theorem dX5_drift_130 : decode cX5_drift 130 = .ok (.dmul, 1) := by decide +kernel
theorem dX5_drift_131 : decode cX5_drift 131 = .ok (.aload_n 0, 1) := by decide +kernel
theorem dX5_drift_132 : decode cX5_drift 132 = .ok (.getfield 63, 3) := by decide +kernel
theorem dX5_drift_135 : decode cX5_drift 135 = .ok (.iload_n 2, 1) := by decide +kernel
theorem dX5_drift_136 : decode cX5_drift 136 = .ok (.iconst 1, 1) := by decide +kernel
theorem dX5_drift_137 : decode cX5_drift 137 = .ok (.iadd, 1) := by decide +kernel
theorem dX5_drift_138 : decode cX5_drift 138 = .ok (.iaload, 1) := by decide +kernel
theorem dX5_drift_139 : decode cX5_drift 139 = .ok (.aload_n 0, 1) := by decide +kernel
theorem dX5_drift_140 : decode cX5_drift 140 = .ok (.getfield 63, 3) := by decide +kernel
theorem dX5_drift_143 : decode cX5_drift 143 = .ok (.iload_n 2, 1) := by decide +kernel
theorem dX5_drift_144 : decode cX5_drift 144 = .ok (.iaload, 1) := by decide +kernel
theorem dX5_drift_145 : decode cX5_drift 145 = .ok (.isub, 1) := by decide +kernel
theorem dX5_drift_146 : decode cX5_drift 146 = .ok (.i2d, 1) := by decide +kernel
theorem dX5_drift_147 : decode cX5_drift 147 = .ok (.ddiv, 1) := by decide +kernel
theorem dX5_drift_148 : decode cX5_drift 148 = .ok (.dadd, 1) := by decide +kernel
theorem dX5_drift_149 : decode cX5_drift 149 = .ok (.dreturn, 1) := by decide +kernel
theorem dX5_drawn_0 : decode cX5_drawn 0 = .ok (.aload_n 0, 1) := by decide +kernel
theorem dX5_drawn_1 : decode cX5_drawn 1 = .ok (.iload_n 1, 1) := by decide +kernel
theorem dX5_drawn_2 : decode cX5_drawn 2 = .ok (.ifCond .ge 7, 3) := by decide +kernel
theorem dX5_drawn_5 : decode cX5_drawn 5 = .ok (.iconst 1, 1) := by decide +kernel
theorem dX5_drawn_6 : decode cX5_drawn 6 = .ok (.goto 4, 3) := by decide +kernel
theorem dX5_drawn_9 : decode cX5_drawn 9 = .ok (.iconst 0, 1) := by decide +kernel
theorem dX5_drawn_10 : decode cX5_drawn 10 = .ok (.putfield 73, 3) := by decide +kernel
theorem dX5_drawn_13 : decode cX5_drawn 13 = .ok (.aload_n 0, 1) := by decide +kernel
theorem dX5_drawn_14 : decode cX5_drawn 14 = .ok (.getfield 73, 3) := by decide +kernel
theorem dX5_drawn_17 : decode cX5_drawn 17 = .ok (.ifCond .le 5, 3) := by decide +kernel
theorem dX5_drawn_20 : decode cX5_drawn 20 = .ok (.dconst 0, 1) := by decide +kernel
theorem dX5_drawn_21 : decode cX5_drawn 21 = .ok (.dreturn, 1) := by decide +kernel
theorem dX5_drawn_22 : decode cX5_drawn 22 = .ok (.aload_n 0, 1) := by decide +kernel
theorem dX5_drawn_23 : decode cX5_drawn 23 = .ok (.getfield 69, 3) := by decide +kernel
theorem dX5_drawn_26 : decode cX5_drawn 26 = .ok (.iload_n 1, 1) := by decide +kernel
theorem dX5_drawn_27 : decode cX5_drawn 27 = .ok (.i2l, 1) := by decide +kernel
theorem dX5_drawn_28 : decode cX5_drawn 28 = .ok (.lconst 1, 1) := by decide +kernel
theorem dX5_drawn_29 : decode cX5_drawn 29 = .ok (.ladd, 1) := by decide +kernel
theorem dX5_drawn_30 : decode cX5_drawn 30 = .ok (.ldc2_w 133, 3) := by decide +kernel
theorem dX5_drawn_33 : decode cX5_drawn 33 = .ok (.lmul, 1) := by decide +kernel
theorem dX5_drawn_34 : decode cX5_drawn 34 = .ok (.ladd, 1) := by decide +kernel
theorem dX5_drawn_35 : decode cX5_drawn 35 = .ok (.lstore_n 2, 1) := by decide +kernel
theorem dX5_drawn_36 : decode cX5_drawn 36 = .ok (.lload_n 2, 1) := by decide +kernel
theorem dX5_drawn_37 : decode cX5_drawn 37 = .ok (.lload_n 2, 1) := by decide +kernel
theorem dX5_drawn_38 : decode cX5_drawn 38 = .ok (.bipush 30, 2) := by decide +kernel
theorem dX5_drawn_40 : decode cX5_drawn 40 = .ok (.lushr, 1) := by decide +kernel
theorem dX5_drawn_41 : decode cX5_drawn 41 = .ok (.lxor, 1) := by decide +kernel
theorem dX5_drawn_42 : decode cX5_drawn 42 = .ok (.ldc2_w 135, 3) := by decide +kernel
theorem dX5_drawn_45 : decode cX5_drawn 45 = .ok (.lmul, 1) := by decide +kernel
theorem dX5_drawn_46 : decode cX5_drawn 46 = .ok (.lstore_n 2, 1) := by decide +kernel
theorem dX5_drawn_47 : decode cX5_drawn 47 = .ok (.lload_n 2, 1) := by decide +kernel
theorem dX5_drawn_48 : decode cX5_drawn 48 = .ok (.lload_n 2, 1) := by decide +kernel
theorem dX5_drawn_49 : decode cX5_drawn 49 = .ok (.bipush 27, 2) := by decide +kernel
theorem dX5_drawn_51 : decode cX5_drawn 51 = .ok (.lushr, 1) := by decide +kernel
theorem dX5_drawn_52 : decode cX5_drawn 52 = .ok (.lxor, 1) := by decide +kernel
theorem dX5_drawn_53 : decode cX5_drawn 53 = .ok (.ldc2_w 137, 3) := by decide +kernel
theorem dX5_drawn_56 : decode cX5_drawn 56 = .ok (.lmul, 1) := by decide +kernel
theorem dX5_drawn_57 : decode cX5_drawn 57 = .ok (.lstore_n 2, 1) := by decide +kernel
theorem dX5_drawn_58 : decode cX5_drawn 58 = .ok (.lload_n 2, 1) := by decide +kernel
theorem dX5_drawn_59 : decode cX5_drawn 59 = .ok (.lload_n 2, 1) := by decide +kernel
theorem dX5_drawn_60 : decode cX5_drawn 60 = .ok (.bipush 31, 2) := by decide +kernel
theorem dX5_drawn_62 : decode cX5_drawn 62 = .ok (.lushr, 1) := by decide +kernel
theorem dX5_drawn_63 : decode cX5_drawn 63 = .ok (.lxor, 1) := by decide +kernel
theorem dX5_drawn_64 : decode cX5_drawn 64 = .ok (.lstore_n 2, 1) := by decide +kernel
theorem dX5_drawn_65 : decode cX5_drawn 65 = .ok (.lload_n 2, 1) := by decide +kernel
theorem dX5_drawn_66 : decode cX5_drawn 66 = .ok (.bipush 44, 2) := by decide +kernel
theorem dX5_drawn_68 : decode cX5_drawn 68 = .ok (.lushr, 1) := by decide +kernel
theorem dX5_drawn_69 : decode cX5_drawn 69 = .ok (.l2d, 1) := by decide +kernel
theorem dX5_drawn_70 : decode cX5_drawn 70 = .ok (.ldc2_w 139, 3) := by decide +kernel
theorem dX5_drawn_73 : decode cX5_drawn 73 = .ok (.ddiv, 1) := by decide +kernel
theorem dX5_drawn_74 : decode cX5_drawn 74 = .ok (.dreturn, 1) := by decide +kernel
theorem dJ6_bitCount_0f7a4_0 : decode cJ6_bitCount_0f7a4 0 = .ok (.iload_n 0, 1) := by decide +kernel
theorem dJ6_bitCount_0f7a4_1 : decode cJ6_bitCount_0f7a4 1 = .ok (.iload_n 0, 1) := by decide +kernel
theorem dJ6_bitCount_0f7a4_2 : decode cJ6_bitCount_0f7a4 2 = .ok (.iconst 1, 1) := by decide +kernel
theorem dJ6_bitCount_0f7a4_3 : decode cJ6_bitCount_0f7a4 3 = .ok (.iushr, 1) := by decide +kernel
theorem dJ6_bitCount_0f7a4_4 : decode cJ6_bitCount_0f7a4 4 = .ok (.ldc_w 265, 3) := by decide +kernel
theorem dJ6_bitCount_0f7a4_7 : decode cJ6_bitCount_0f7a4 7 = .ok (.iand, 1) := by decide +kernel
theorem dJ6_bitCount_0f7a4_8 : decode cJ6_bitCount_0f7a4 8 = .ok (.isub, 1) := by decide +kernel
theorem dJ6_bitCount_0f7a4_9 : decode cJ6_bitCount_0f7a4 9 = .ok (.istore_n 0, 1) := by decide +kernel
theorem dJ6_bitCount_0f7a4_10 : decode cJ6_bitCount_0f7a4 10 = .ok (.iload_n 0, 1) := by decide +kernel
theorem dJ6_bitCount_0f7a4_11 : decode cJ6_bitCount_0f7a4 11 = .ok (.ldc_w 266, 3) := by decide +kernel
theorem dJ6_bitCount_0f7a4_14 : decode cJ6_bitCount_0f7a4 14 = .ok (.iand, 1) := by decide +kernel
theorem dJ6_bitCount_0f7a4_15 : decode cJ6_bitCount_0f7a4 15 = .ok (.iload_n 0, 1) := by decide +kernel
theorem dJ6_bitCount_0f7a4_16 : decode cJ6_bitCount_0f7a4 16 = .ok (.iconst 2, 1) := by decide +kernel
theorem dJ6_bitCount_0f7a4_17 : decode cJ6_bitCount_0f7a4 17 = .ok (.iushr, 1) := by decide +kernel
theorem dJ6_bitCount_0f7a4_18 : decode cJ6_bitCount_0f7a4 18 = .ok (.ldc_w 266, 3) := by decide +kernel
theorem dJ6_bitCount_0f7a4_21 : decode cJ6_bitCount_0f7a4 21 = .ok (.iand, 1) := by decide +kernel
theorem dJ6_bitCount_0f7a4_22 : decode cJ6_bitCount_0f7a4 22 = .ok (.iadd, 1) := by decide +kernel
theorem dJ6_bitCount_0f7a4_23 : decode cJ6_bitCount_0f7a4 23 = .ok (.istore_n 0, 1) := by decide +kernel
theorem dJ6_bitCount_0f7a4_24 : decode cJ6_bitCount_0f7a4 24 = .ok (.iload_n 0, 1) := by decide +kernel
theorem dJ6_bitCount_0f7a4_25 : decode cJ6_bitCount_0f7a4 25 = .ok (.iload_n 0, 1) := by decide +kernel
theorem dJ6_bitCount_0f7a4_26 : decode cJ6_bitCount_0f7a4 26 = .ok (.iconst 4, 1) := by decide +kernel
theorem dJ6_bitCount_0f7a4_27 : decode cJ6_bitCount_0f7a4 27 = .ok (.iushr, 1) := by decide +kernel
theorem dJ6_bitCount_0f7a4_28 : decode cJ6_bitCount_0f7a4 28 = .ok (.iadd, 1) := by decide +kernel
theorem dJ6_bitCount_0f7a4_29 : decode cJ6_bitCount_0f7a4 29 = .ok (.ldc_w 267, 3) := by decide +kernel
theorem dJ6_bitCount_0f7a4_32 : decode cJ6_bitCount_0f7a4 32 = .ok (.iand, 1) := by decide +kernel
theorem dJ6_bitCount_0f7a4_33 : decode cJ6_bitCount_0f7a4 33 = .ok (.istore_n 0, 1) := by decide +kernel
theorem dJ6_bitCount_0f7a4_34 : decode cJ6_bitCount_0f7a4 34 = .ok (.iload_n 0, 1) := by decide +kernel
theorem dJ6_bitCount_0f7a4_35 : decode cJ6_bitCount_0f7a4 35 = .ok (.iload_n 0, 1) := by decide +kernel
theorem dJ6_bitCount_0f7a4_36 : decode cJ6_bitCount_0f7a4 36 = .ok (.bipush 8, 2) := by decide +kernel
theorem dJ6_bitCount_0f7a4_38 : decode cJ6_bitCount_0f7a4 38 = .ok (.iushr, 1) := by decide +kernel
theorem dJ6_bitCount_0f7a4_39 : decode cJ6_bitCount_0f7a4 39 = .ok (.iadd, 1) := by decide +kernel
theorem dJ6_bitCount_0f7a4_40 : decode cJ6_bitCount_0f7a4 40 = .ok (.istore_n 0, 1) := by decide +kernel
theorem dJ6_bitCount_0f7a4_41 : decode cJ6_bitCount_0f7a4 41 = .ok (.iload_n 0, 1) := by decide +kernel
theorem dJ6_bitCount_0f7a4_42 : decode cJ6_bitCount_0f7a4 42 = .ok (.iload_n 0, 1) := by decide +kernel
theorem dJ6_bitCount_0f7a4_43 : decode cJ6_bitCount_0f7a4 43 = .ok (.bipush 16, 2) := by decide +kernel
theorem dJ6_bitCount_0f7a4_45 : decode cJ6_bitCount_0f7a4 45 = .ok (.iushr, 1) := by decide +kernel
theorem dJ6_bitCount_0f7a4_46 : decode cJ6_bitCount_0f7a4 46 = .ok (.iadd, 1) := by decide +kernel
theorem dJ6_bitCount_0f7a4_47 : decode cJ6_bitCount_0f7a4 47 = .ok (.istore_n 0, 1) := by decide +kernel
theorem dJ6_bitCount_0f7a4_48 : decode cJ6_bitCount_0f7a4 48 = .ok (.iload_n 0, 1) := by decide +kernel
theorem dJ6_bitCount_0f7a4_49 : decode cJ6_bitCount_0f7a4 49 = .ok (.bipush 63, 2) := by decide +kernel
theorem dJ6_bitCount_0f7a4_51 : decode cJ6_bitCount_0f7a4 51 = .ok (.iand, 1) := by decide +kernel
theorem dJ6_bitCount_0f7a4_52 : decode cJ6_bitCount_0f7a4 52 = .ok (.ireturn, 1) := by decide +kernel
theorem dL_cell_0 : decode cL_cell 0 = .ok (.iload_n 1, 1) := by decide +kernel
theorem dL_cell_1 : decode cL_cell 1 = .ok (.aload_n 0, 1) := by decide +kernel
theorem dL_cell_2 : decode cL_cell 2 = .ok (.arraylength, 1) := by decide +kernel
theorem dL_cell_3 : decode cL_cell 3 = .ok (.if_icmp .ge 9, 3) := by decide +kernel
theorem dL_cell_6 : decode cL_cell 6 = .ok (.aload_n 0, 1) := by decide +kernel
theorem dL_cell_7 : decode cL_cell 7 = .ok (.iload_n 1, 1) := by decide +kernel
theorem dL_cell_8 : decode cL_cell 8 = .ok (.iaload, 1) := by decide +kernel
theorem dL_cell_9 : decode cL_cell 9 = .ok (.goto 4, 3) := by decide +kernel
theorem dL_cell_12 : decode cL_cell 12 = .ok (.iconst 0, 1) := by decide +kernel
theorem dL_cell_13 : decode cL_cell 13 = .ok (.ireturn, 1) := by decide +kernel
theorem dL_board_0 : decode cL_board 0 = .ok (.aload_n 1, 1) := by decide +kernel
theorem dL_board_1 : decode cL_board 1 = .ok (.iconst 0, 1) := by decide +kernel
theorem dL_board_2 : decode cL_board 2 = .ok (.aload_n 0, 1) := by decide +kernel
theorem dL_board_3 : decode cL_board 3 = .ok (.invokevirtual 7, 3) := by decide +kernel
theorem dL_board_6 : decode cL_board 6 = .ok (.i2l, 1) := by decide +kernel
theorem dL_board_7 : decode cL_board 7 = .ok (.lastore, 1) := by decide +kernel
theorem dL_board_8 : decode cL_board 8 = .ok (.goto 6, 3) := by decide +kernel
theorem dL_board_11 : decode cL_board 11 = .ok (.astore_n 2, 1) := by decide +kernel
theorem dL_board_12 : decode cL_board 12 = .ok (.iconst 1, 1) := by decide +kernel
theorem dL_board_13 : decode cL_board 13 = .ok (.ireturn, 1) := by decide +kernel
theorem dL_board_14 : decode cL_board 14 = .ok (.iconst 0, 1) := by decide +kernel
theorem dL_board_15 : decode cL_board 15 = .ok (.ireturn, 1) := by decide +kernel
theorem dL_row_0 : decode cL_row 0 = .ok (.aload 4, 2) := by decide +kernel
theorem dL_row_2 : decode cL_row 2 = .ok (.iconst 0, 1) := by decide +kernel
theorem dL_row_3 : decode cL_row 3 = .ok (.aload_n 0, 1) := by decide +kernel
theorem dL_row_4 : decode cL_row 4 = .ok (.iload_n 1, 1) := by decide +kernel
theorem dL_row_5 : decode cL_row 5 = .ok (.dload_n 2, 1) := by decide +kernel
theorem dL_row_6 : decode cL_row 6 = .ok (.invokevirtual 15, 3) := by decide +kernel
theorem dL_row_9 : decode cL_row 9 = .ok (.i2l, 1) := by decide +kernel
theorem dL_row_10 : decode cL_row 10 = .ok (.lastore, 1) := by decide +kernel
theorem dL_row_11 : decode cL_row 11 = .ok (.goto 15, 3) := by decide +kernel
theorem dL_row_14 : decode cL_row 14 = .ok (.astore 5, 2) := by decide +kernel
theorem dL_row_16 : decode cL_row 16 = .ok (.iconst 1, 1) := by decide +kernel
theorem dL_row_17 : decode cL_row 17 = .ok (.ireturn, 1) := by decide +kernel
theorem dL_row_18 : decode cL_row 18 = .ok (.astore 5, 2) := by decide +kernel
theorem dL_row_20 : decode cL_row 20 = .ok (.iconst 2, 1) := by decide +kernel
theorem dL_row_21 : decode cL_row 21 = .ok (.ireturn, 1) := by decide +kernel
theorem dL_row_22 : decode cL_row 22 = .ok (.astore 5, 2) := by decide +kernel
theorem dL_row_24 : decode cL_row 24 = .ok (.iconst 3, 1) := by decide +kernel
theorem dL_row_25 : decode cL_row 25 = .ok (.ireturn, 1) := by decide +kernel
theorem dL_row_26 : decode cL_row 26 = .ok (.iconst 0, 1) := by decide +kernel
theorem dL_row_27 : decode cL_row 27 = .ok (.ireturn, 1) := by decide +kernel
theorem dL_echo_0 : decode cL_echo 0 = .ok (.aload_n 0, 1) := by decide +kernel
theorem dL_echo_1 : decode cL_echo 1 = .ok (.iload_n 1, 1) := by decide +kernel
theorem dL_echo_2 : decode cL_echo 2 = .ok (.dload_n 2, 1) := by decide +kernel
theorem dL_echo_3 : decode cL_echo 3 = .ok (.dload 4, 2) := by decide +kernel
theorem dL_echo_5 : decode cL_echo 5 = .ok (.invokevirtual 23, 3) := by decide +kernel
theorem dL_echo_8 : decode cL_echo 8 = .ok (.goto 11, 3) := by decide +kernel
theorem dL_echo_11 : decode cL_echo 11 = .ok (.astore 6, 2) := by decide +kernel
theorem dL_echo_13 : decode cL_echo 13 = .ok (.iconst 1, 1) := by decide +kernel
theorem dL_echo_14 : decode cL_echo 14 = .ok (.ireturn, 1) := by decide +kernel
theorem dL_echo_15 : decode cL_echo 15 = .ok (.astore 6, 2) := by decide +kernel
theorem dL_echo_17 : decode cL_echo 17 = .ok (.iconst 2, 1) := by decide +kernel
theorem dL_echo_18 : decode cL_echo 18 = .ok (.ireturn, 1) := by decide +kernel
theorem dL_echo_19 : decode cL_echo 19 = .ok (.iconst 0, 1) := by decide +kernel
theorem dL_echo_20 : decode cL_echo 20 = .ok (.ireturn, 1) := by decide +kernel
theorem dL_knots_0 : decode cL_knots 0 = .ok (.aload_n 0, 1) := by decide +kernel
theorem dL_knots_1 : decode cL_knots 1 = .ok (.iload_n 1, 1) := by decide +kernel
theorem dL_knots_2 : decode cL_knots 2 = .ok (.dload_n 2, 1) := by decide +kernel
theorem dL_knots_3 : decode cL_knots 3 = .ok (.invokevirtual 27, 3) := by decide +kernel
theorem dL_knots_6 : decode cL_knots 6 = .ok (.goto 11, 3) := by decide +kernel
theorem dL_knots_9 : decode cL_knots 9 = .ok (.astore 4, 2) := by decide +kernel
theorem dL_knots_11 : decode cL_knots 11 = .ok (.iconst 1, 1) := by decide +kernel
theorem dL_knots_12 : decode cL_knots 12 = .ok (.ireturn, 1) := by decide +kernel
theorem dL_knots_13 : decode cL_knots 13 = .ok (.astore 4, 2) := by decide +kernel
theorem dL_knots_15 : decode cL_knots 15 = .ok (.iconst 2, 1) := by decide +kernel
theorem dL_knots_16 : decode cL_knots 16 = .ok (.ireturn, 1) := by decide +kernel
theorem dL_knots_17 : decode cL_knots 17 = .ok (.iconst 0, 1) := by decide +kernel
theorem dL_knots_18 : decode cL_knots 18 = .ok (.ireturn, 1) := by decide +kernel
theorem dL_broken_0 : decode cL_broken 0 = .ok (.aload_n 0, 1) := by decide +kernel
theorem dL_broken_1 : decode cL_broken 1 = .ok (.iload_n 1, 1) := by decide +kernel
theorem dL_broken_2 : decode cL_broken 2 = .ok (.dload_n 2, 1) := by decide +kernel
theorem dL_broken_3 : decode cL_broken 3 = .ok (.invokevirtual 31, 3) := by decide +kernel
theorem dL_broken_6 : decode cL_broken 6 = .ok (.goto 15, 3) := by decide +kernel
theorem dL_broken_9 : decode cL_broken 9 = .ok (.astore 4, 2) := by decide +kernel
theorem dL_broken_11 : decode cL_broken 11 = .ok (.iconst 1, 1) := by decide +kernel
theorem dL_broken_12 : decode cL_broken 12 = .ok (.ireturn, 1) := by decide +kernel
theorem dL_broken_13 : decode cL_broken 13 = .ok (.astore 4, 2) := by decide +kernel
theorem dL_broken_15 : decode cL_broken 15 = .ok (.iconst 2, 1) := by decide +kernel
theorem dL_broken_16 : decode cL_broken 16 = .ok (.ireturn, 1) := by decide +kernel
theorem dL_broken_17 : decode cL_broken 17 = .ok (.astore 4, 2) := by decide +kernel
theorem dL_broken_19 : decode cL_broken 19 = .ok (.iconst 3, 1) := by decide +kernel
theorem dL_broken_20 : decode cL_broken 20 = .ok (.ireturn, 1) := by decide +kernel
theorem dL_broken_21 : decode cL_broken 21 = .ok (.iconst 0, 1) := by decide +kernel
theorem dL_broken_22 : decode cL_broken 22 = .ok (.ireturn, 1) := by decide +kernel
theorem dL_number_0 : decode cL_number 0 = .ok (.aload_n 2, 1) := by decide +kernel
theorem dL_number_1 : decode cL_number 1 = .ok (.iconst 0, 1) := by decide +kernel
theorem dL_number_2 : decode cL_number 2 = .ok (.aload_n 0, 1) := by decide +kernel
theorem dL_number_3 : decode cL_number 3 = .ok (.iload_n 1, 1) := by decide +kernel
theorem dL_number_4 : decode cL_number 4 = .ok (.invokevirtual 34, 3) := by decide +kernel
theorem dL_number_7 : decode cL_number 7 = .ok (.dastore, 1) := by decide +kernel
theorem dL_number_8 : decode cL_number 8 = .ok (.goto 6, 3) := by decide +kernel
theorem dL_number_11 : decode cL_number 11 = .ok (.astore_n 3, 1) := by decide +kernel
theorem dL_number_12 : decode cL_number 12 = .ok (.iconst 1, 1) := by decide +kernel
theorem dL_number_13 : decode cL_number 13 = .ok (.ireturn, 1) := by decide +kernel
theorem dL_number_14 : decode cL_number 14 = .ok (.iconst 0, 1) := by decide +kernel
theorem dL_number_15 : decode cL_number 15 = .ok (.ireturn, 1) := by decide +kernel
theorem dL_foretold_0 : decode cL_foretold 0 = .ok (.aload_n 2, 1) := by decide +kernel
theorem dL_foretold_1 : decode cL_foretold 1 = .ok (.iconst 0, 1) := by decide +kernel
theorem dL_foretold_2 : decode cL_foretold 2 = .ok (.aload_n 0, 1) := by decide +kernel
theorem dL_foretold_3 : decode cL_foretold 3 = .ok (.iload_n 1, 1) := by decide +kernel
theorem dL_foretold_4 : decode cL_foretold 4 = .ok (.invokevirtual 38, 3) := by decide +kernel
theorem dL_foretold_7 : decode cL_foretold 7 = .ok (.dastore, 1) := by decide +kernel
theorem dL_foretold_8 : decode cL_foretold 8 = .ok (.goto 9, 3) := by decide +kernel
theorem dL_foretold_11 : decode cL_foretold 11 = .ok (.astore_n 3, 1) := by decide +kernel
theorem dL_foretold_12 : decode cL_foretold 12 = .ok (.iconst 1, 1) := by decide +kernel
theorem dL_foretold_13 : decode cL_foretold 13 = .ok (.ireturn, 1) := by decide +kernel
theorem dL_foretold_14 : decode cL_foretold 14 = .ok (.astore_n 3, 1) := by decide +kernel
theorem dL_foretold_15 : decode cL_foretold 15 = .ok (.iconst 2, 1) := by decide +kernel
theorem dL_foretold_16 : decode cL_foretold 16 = .ok (.ireturn, 1) := by decide +kernel
theorem dL_foretold_17 : decode cL_foretold 17 = .ok (.iconst 0, 1) := by decide +kernel
theorem dL_foretold_18 : decode cL_foretold 18 = .ok (.ireturn, 1) := by decide +kernel
theorem dL_leftOut_0 : decode cL_leftOut 0 = .ok (.aload_n 2, 1) := by decide +kernel
theorem dL_leftOut_1 : decode cL_leftOut 1 = .ok (.iconst 0, 1) := by decide +kernel
theorem dL_leftOut_2 : decode cL_leftOut 2 = .ok (.aload_n 0, 1) := by decide +kernel
theorem dL_leftOut_3 : decode cL_leftOut 3 = .ok (.iload_n 1, 1) := by decide +kernel
theorem dL_leftOut_4 : decode cL_leftOut 4 = .ok (.invokevirtual 41, 3) := by decide +kernel
theorem dL_leftOut_7 : decode cL_leftOut 7 = .ok (.dastore, 1) := by decide +kernel
theorem dL_leftOut_8 : decode cL_leftOut 8 = .ok (.goto 9, 3) := by decide +kernel
theorem dL_leftOut_11 : decode cL_leftOut 11 = .ok (.astore_n 3, 1) := by decide +kernel
theorem dL_leftOut_12 : decode cL_leftOut 12 = .ok (.iconst 1, 1) := by decide +kernel
theorem dL_leftOut_13 : decode cL_leftOut 13 = .ok (.ireturn, 1) := by decide +kernel
theorem dL_leftOut_14 : decode cL_leftOut 14 = .ok (.astore_n 3, 1) := by decide +kernel
theorem dL_leftOut_15 : decode cL_leftOut 15 = .ok (.iconst 2, 1) := by decide +kernel
theorem dL_leftOut_16 : decode cL_leftOut 16 = .ok (.ireturn, 1) := by decide +kernel
theorem dL_leftOut_17 : decode cL_leftOut 17 = .ok (.iconst 0, 1) := by decide +kernel
theorem dL_leftOut_18 : decode cL_leftOut 18 = .ok (.ireturn, 1) := by decide +kernel
theorem dL_limit_0 : decode cL_limit 0 = .ok (.aload_n 0, 1) := by decide +kernel
theorem dL_limit_1 : decode cL_limit 1 = .ok (.iload_n 1, 1) := by decide +kernel
theorem dL_limit_2 : decode cL_limit 2 = .ok (.dload_n 2, 1) := by decide +kernel
theorem dL_limit_3 : decode cL_limit 3 = .ok (.invokevirtual 44, 3) := by decide +kernel
theorem dL_limit_6 : decode cL_limit 6 = .ok (.goto 11, 3) := by decide +kernel
theorem dL_limit_9 : decode cL_limit 9 = .ok (.astore 4, 2) := by decide +kernel
theorem dL_limit_11 : decode cL_limit 11 = .ok (.iconst 1, 1) := by decide +kernel
theorem dL_limit_12 : decode cL_limit 12 = .ok (.ireturn, 1) := by decide +kernel
theorem dL_limit_13 : decode cL_limit 13 = .ok (.astore 4, 2) := by decide +kernel
theorem dL_limit_15 : decode cL_limit 15 = .ok (.iconst 2, 1) := by decide +kernel
theorem dL_limit_16 : decode cL_limit 16 = .ok (.ireturn, 1) := by decide +kernel
theorem dL_limit_17 : decode cL_limit 17 = .ok (.iconst 0, 1) := by decide +kernel
theorem dL_limit_18 : decode cL_limit 18 = .ok (.ireturn, 1) := by decide +kernel
theorem dL_setting_0 : decode cL_setting 0 = .ok (.aload 4, 2) := by decide +kernel
theorem dL_setting_2 : decode cL_setting 2 = .ok (.iconst 0, 1) := by decide +kernel
theorem dL_setting_3 : decode cL_setting 3 = .ok (.aload_n 0, 1) := by decide +kernel
theorem dL_setting_4 : decode cL_setting 4 = .ok (.iload_n 1, 1) := by decide +kernel
theorem dL_setting_5 : decode cL_setting 5 = .ok (.iload_n 2, 1) := by decide +kernel
theorem dL_setting_6 : decode cL_setting 6 = .ok (.iload_n 3, 1) := by decide +kernel
theorem dL_setting_7 : decode cL_setting 7 = .ok (.invokevirtual 47, 3) := by decide +kernel
theorem dL_setting_10 : decode cL_setting 10 = .ok (.i2l, 1) := by decide +kernel
theorem dL_setting_11 : decode cL_setting 11 = .ok (.lastore, 1) := by decide +kernel
theorem dL_setting_12 : decode cL_setting 12 = .ok (.goto 11, 3) := by decide +kernel
theorem dL_setting_15 : decode cL_setting 15 = .ok (.astore 5, 2) := by decide +kernel
theorem dL_setting_17 : decode cL_setting 17 = .ok (.iconst 1, 1) := by decide +kernel
theorem dL_setting_18 : decode cL_setting 18 = .ok (.ireturn, 1) := by decide +kernel
theorem dL_setting_19 : decode cL_setting 19 = .ok (.astore 5, 2) := by decide +kernel
theorem dL_setting_21 : decode cL_setting 21 = .ok (.iconst 2, 1) := by decide +kernel
theorem dL_setting_22 : decode cL_setting 22 = .ok (.ireturn, 1) := by decide +kernel
theorem dL_setting_23 : decode cL_setting 23 = .ok (.iconst 0, 1) := by decide +kernel
theorem dL_setting_24 : decode cL_setting 24 = .ok (.ireturn, 1) := by decide +kernel
theorem dL_odds_0 : decode cL_odds 0 = .ok (.aload 6, 2) := by decide +kernel
theorem dL_odds_2 : decode cL_odds 2 = .ok (.iconst 0, 1) := by decide +kernel
theorem dL_odds_3 : decode cL_odds 3 = .ok (.aload_n 0, 1) := by decide +kernel
theorem dL_odds_4 : decode cL_odds 4 = .ok (.iload_n 1, 1) := by decide +kernel
theorem dL_odds_5 : decode cL_odds 5 = .ok (.iload_n 2, 1) := by decide +kernel
theorem dL_odds_6 : decode cL_odds 6 = .ok (.iload_n 3, 1) := by decide +kernel
theorem dL_odds_7 : decode cL_odds 7 = .ok (.iload 4, 2) := by decide +kernel
theorem dL_odds_9 : decode cL_odds 9 = .ok (.iload 5, 2) := by decide +kernel
theorem dL_odds_11 : decode cL_odds 11 = .ok (.invokevirtual 51, 3) := by decide +kernel
theorem dL_odds_14 : decode cL_odds 14 = .ok (.lastore, 1) := by decide +kernel
theorem dL_odds_15 : decode cL_odds 15 = .ok (.goto 11, 3) := by decide +kernel
theorem dL_odds_18 : decode cL_odds 18 = .ok (.astore 7, 2) := by decide +kernel
theorem dL_odds_20 : decode cL_odds 20 = .ok (.iconst 1, 1) := by decide +kernel
theorem dL_odds_21 : decode cL_odds 21 = .ok (.ireturn, 1) := by decide +kernel
theorem dL_odds_22 : decode cL_odds 22 = .ok (.astore 7, 2) := by decide +kernel
theorem dL_odds_24 : decode cL_odds 24 = .ok (.iconst 2, 1) := by decide +kernel
theorem dL_odds_25 : decode cL_odds 25 = .ok (.ireturn, 1) := by decide +kernel
theorem dL_odds_26 : decode cL_odds 26 = .ok (.iconst 0, 1) := by decide +kernel
theorem dL_odds_27 : decode cL_odds 27 = .ok (.ireturn, 1) := by decide +kernel
theorem dL_chart_0 : decode cL_chart 0 = .ok (.aload_n 0, 1) := by decide +kernel
theorem dL_chart_1 : decode cL_chart 1 = .ok (.iload_n 1, 1) := by decide +kernel
theorem dL_chart_2 : decode cL_chart 2 = .ok (.iload_n 2, 1) := by decide +kernel
theorem dL_chart_3 : decode cL_chart 3 = .ok (.invokevirtual 55, 3) := by decide +kernel
theorem dL_chart_6 : decode cL_chart 6 = .ok (.goto 6, 3) := by decide +kernel
theorem dL_chart_9 : decode cL_chart 9 = .ok (.astore_n 3, 1) := by decide +kernel
theorem dL_chart_10 : decode cL_chart 10 = .ok (.iconst 1, 1) := by decide +kernel
theorem dL_chart_11 : decode cL_chart 11 = .ok (.ireturn, 1) := by decide +kernel
theorem dL_chart_12 : decode cL_chart 12 = .ok (.iconst 0, 1) := by decide +kernel
theorem dL_chart_13 : decode cL_chart 13 = .ok (.ireturn, 1) := by decide +kernel
theorem dL_proof_0 : decode cL_proof 0 = .ok (.aload_n 3, 1) := by decide +kernel
theorem dL_proof_1 : decode cL_proof 1 = .ok (.iconst 0, 1) := by decide +kernel
theorem dL_proof_2 : decode cL_proof 2 = .ok (.aload_n 0, 1) := by decide +kernel
theorem dL_proof_3 : decode cL_proof 3 = .ok (.dload_n 1, 1) := by decide +kernel
theorem dL_proof_4 : decode cL_proof 4 = .ok (.invokevirtual 59, 3) := by decide +kernel
theorem dL_proof_7 : decode cL_proof 7 = .ok (.i2l, 1) := by decide +kernel
theorem dL_proof_8 : decode cL_proof 8 = .ok (.lastore, 1) := by decide +kernel
theorem dL_proof_9 : decode cL_proof 9 = .ok (.goto 7, 3) := by decide +kernel
theorem dL_proof_12 : decode cL_proof 12 = .ok (.astore 4, 2) := by decide +kernel
theorem dL_proof_14 : decode cL_proof 14 = .ok (.iconst 1, 1) := by decide +kernel
theorem dL_proof_15 : decode cL_proof 15 = .ok (.ireturn, 1) := by decide +kernel
theorem dL_proof_16 : decode cL_proof 16 = .ok (.iconst 0, 1) := by decide +kernel
theorem dL_proof_17 : decode cL_proof 17 = .ok (.ireturn, 1) := by decide +kernel
theorem dL_about_0 : decode cL_about 0 = .ok (.aload_n 3, 1) := by decide +kernel
theorem dL_about_1 : decode cL_about 1 = .ok (.iconst 0, 1) := by decide +kernel
theorem dL_about_2 : decode cL_about 2 = .ok (.aload_n 0, 1) := by decide +kernel
theorem dL_about_3 : decode cL_about 3 = .ok (.iload_n 1, 1) := by decide +kernel
theorem dL_about_4 : decode cL_about 4 = .ok (.iload_n 2, 1) := by decide +kernel
theorem dL_about_5 : decode cL_about 5 = .ok (.invokevirtual 63, 3) := by decide +kernel
theorem dL_about_8 : decode cL_about 8 = .ok (.i2l, 1) := by decide +kernel
theorem dL_about_9 : decode cL_about 9 = .ok (.lastore, 1) := by decide +kernel
theorem dL_about_10 : decode cL_about 10 = .ok (.goto 7, 3) := by decide +kernel
theorem dL_about_13 : decode cL_about 13 = .ok (.astore 4, 2) := by decide +kernel
theorem dL_about_15 : decode cL_about 15 = .ok (.iconst 1, 1) := by decide +kernel
theorem dL_about_16 : decode cL_about 16 = .ok (.ireturn, 1) := by decide +kernel
theorem dL_about_17 : decode cL_about 17 = .ok (.iconst 0, 1) := by decide +kernel
theorem dL_about_18 : decode cL_about 18 = .ok (.ireturn, 1) := by decide +kernel
theorem dL_reference_0 : decode cL_reference 0 = .ok (.aload 4, 2) := by decide +kernel
theorem dL_reference_2 : decode cL_reference 2 = .ok (.iconst 0, 1) := by decide +kernel
theorem dL_reference_3 : decode cL_reference 3 = .ok (.aload_n 0, 1) := by decide +kernel
theorem dL_reference_4 : decode cL_reference 4 = .ok (.iload_n 1, 1) := by decide +kernel
theorem dL_reference_5 : decode cL_reference 5 = .ok (.dload_n 2, 1) := by decide +kernel
theorem dL_reference_6 : decode cL_reference 6 = .ok (.invokevirtual 67, 3) := by decide +kernel
theorem dL_reference_9 : decode cL_reference 9 = .ok (.i2l, 1) := by decide +kernel
theorem dL_reference_10 : decode cL_reference 10 = .ok (.lastore, 1) := by decide +kernel
theorem dL_reference_11 : decode cL_reference 11 = .ok (.goto 11, 3) := by decide +kernel
theorem dL_reference_14 : decode cL_reference 14 = .ok (.astore 5, 2) := by decide +kernel
theorem dL_reference_16 : decode cL_reference 16 = .ok (.iconst 1, 1) := by decide +kernel
theorem dL_reference_17 : decode cL_reference 17 = .ok (.ireturn, 1) := by decide +kernel
theorem dL_reference_18 : decode cL_reference 18 = .ok (.astore 5, 2) := by decide +kernel
theorem dL_reference_20 : decode cL_reference 20 = .ok (.iconst 2, 1) := by decide +kernel
theorem dL_reference_21 : decode cL_reference 21 = .ok (.ireturn, 1) := by decide +kernel
theorem dL_reference_22 : decode cL_reference 22 = .ok (.iconst 0, 1) := by decide +kernel
theorem dL_reference_23 : decode cL_reference 23 = .ok (.ireturn, 1) := by decide +kernel
theorem dL_drift_0 : decode cL_drift 0 = .ok (.aload_n 2, 1) := by decide +kernel
theorem dL_drift_1 : decode cL_drift 1 = .ok (.iconst 0, 1) := by decide +kernel
theorem dL_drift_2 : decode cL_drift 2 = .ok (.aload_n 0, 1) := by decide +kernel
theorem dL_drift_3 : decode cL_drift 3 = .ok (.iload_n 1, 1) := by decide +kernel
theorem dL_drift_4 : decode cL_drift 4 = .ok (.invokevirtual 70, 3) := by decide +kernel
theorem dL_drift_7 : decode cL_drift 7 = .ok (.dastore, 1) := by decide +kernel
theorem dL_drift_8 : decode cL_drift 8 = .ok (.goto 6, 3) := by decide +kernel
theorem dL_drift_11 : decode cL_drift 11 = .ok (.astore_n 3, 1) := by decide +kernel
theorem dL_drift_12 : decode cL_drift 12 = .ok (.iconst 1, 1) := by decide +kernel
theorem dL_drift_13 : decode cL_drift 13 = .ok (.ireturn, 1) := by decide +kernel
theorem dL_drift_14 : decode cL_drift 14 = .ok (.iconst 0, 1) := by decide +kernel
theorem dL_drift_15 : decode cL_drift 15 = .ok (.ireturn, 1) := by decide +kernel
theorem dL_drawn_0 : decode cL_drawn 0 = .ok (.aload_n 2, 1) := by decide +kernel
theorem dL_drawn_1 : decode cL_drawn 1 = .ok (.iconst 0, 1) := by decide +kernel
theorem dL_drawn_2 : decode cL_drawn 2 = .ok (.aload_n 0, 1) := by decide +kernel
theorem dL_drawn_3 : decode cL_drawn 3 = .ok (.iload_n 1, 1) := by decide +kernel
theorem dL_drawn_4 : decode cL_drawn 4 = .ok (.invokevirtual 73, 3) := by decide +kernel
theorem dL_drawn_7 : decode cL_drawn 7 = .ok (.dastore, 1) := by decide +kernel
theorem dL_drawn_8 : decode cL_drawn 8 = .ok (.goto 6, 3) := by decide +kernel
theorem dL_drawn_11 : decode cL_drawn 11 = .ok (.astore_n 3, 1) := by decide +kernel
theorem dL_drawn_12 : decode cL_drawn 12 = .ok (.iconst 1, 1) := by decide +kernel
theorem dL_drawn_13 : decode cL_drawn 13 = .ok (.ireturn, 1) := by decide +kernel
theorem dL_drawn_14 : decode cL_drawn 14 = .ok (.iconst 0, 1) := by decide +kernel
theorem dL_drawn_15 : decode cL_drawn 15 = .ok (.ireturn, 1) := by decide +kernel
abbrev vwCl : List vw_C := [(RX0, TX0, 8), (RX1, TX1, 4), (RX2, TX2, 3), (RX3, TX3, 4), (RX4, TX4, 8), (RX5, TX5, 24)]
