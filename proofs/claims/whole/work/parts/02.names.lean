












/-! ===== BEGIN printed: names, fields, word lists, decode rows ===== -/
def RX0 : String := "ContractFrames$Code"
def TX0 : u_T := fun k => match k with
  | _ => ("", "", "", false)
def tyX0 : Nat → FieldType := fun k => match k with
  | _ => .int
abbrev wsX00 : List Cond := u_ws RX0 TX0 0
theorem nmX0 : ∀ a, a < 0 → ∀ b, b < 0 → a ≠ b → (TX0 a).2.1 ≠ (TX0 b).2.1 := by decide +kernel
theorem tyX0_ok : ∀ k, k < 0 → parseFieldDescriptor (TX0 k).2.2.1 = some (tyX0 k) := by decide +kernel
abbrev cX0_fits : ByteArray := prog_2_method_2_code
def yX0_fits : MethodName := ⟨RX0, "fits", "(III)Z"⟩
abbrev cX0_writes : ByteArray := prog_2_method_3_code
def yX0_writes : MethodName := ⟨RX0, "writes", "(I)Z"⟩
abbrev cX0_fitsStack : ByteArray := prog_2_method_4_code
def yX0_fitsStack : MethodName := ⟨RX0, "fitsStack", "(II)Z"⟩
def RX1 : String := "ContractFrames$Frame"
def TX1 : u_T := fun k => match k with
  | 0 => ("ContractFrames$Frame", "stack", "[I", true)
  | 1 => ("ContractFrames$Frame", "height", "I", false)
  | 2 => ("ContractFrames$Frame", "contract", "I", false)
  | 3 => ("ContractFrames$Frame", "member", "I", false)
  | 4 => ("ContractFrames$Frame", "argument", "I", false)
  | 5 => ("ContractFrames$Frame", "value", "I", false)
  | 6 => ("ContractFrames$Frame", "caller", "I", false)
  | 7 => ("ContractFrames$Frame", "onlyReads", "Z", false)
  | 8 => ("ContractFrames$Frame", "limit", "I", false)
  | 9 => ("ContractFrames$Frame", "left", "I", false)
  | 10 => ("ContractFrames$Frame", "position", "I", false)
  | 11 => ("ContractFrames$Frame", "ended", "Z", false)
  | 12 => ("ContractFrames$Frame", "threw", "I", false)
  | _ => ("ContractFrames$Frame", "gave", "I", false)
def tyX1 : Nat → FieldType := fun k => match k with
  | 0 => .array .int
  | 1 => .int
  | 2 => .int
  | 3 => .int
  | 4 => .int
  | 5 => .int
  | 6 => .int
  | 7 => .boolean
  | 8 => .int
  | 9 => .int
  | 10 => .int
  | 11 => .boolean
  | 12 => .int
  | _ => .int
abbrev wsX10 : List Cond := u_ws RX1 TX1 14
theorem nmX1 : ∀ a, a < 14 → ∀ b, b < 14 → a ≠ b → (TX1 a).2.1 ≠ (TX1 b).2.1 := by decide +kernel
theorem tyX1_ok : ∀ k, k < 14 → parseFieldDescriptor (TX1 k).2.2.1 = some (tyX1 k) := by decide +kernel
abbrev cX1_init : ByteArray := prog_3_method_1_code
def yX1_init : MethodName := ⟨RX1, "<init>", "()V"⟩
abbrev cX1_begin : ByteArray := prog_3_method_2_code
def yX1_begin : MethodName := ⟨RX1, "begin", "(IIIII)V"⟩
abbrev cX1_used : ByteArray := prog_3_method_3_code
def yX1_used : MethodName := ⟨RX1, "used", "()I"⟩
abbrev cX1_hasThrown : ByteArray := prog_3_method_4_code
def yX1_hasThrown : MethodName := ⟨RX1, "hasThrown", "()Z"⟩
abbrev cX1_put : ByteArray := prog_3_method_5_code
def yX1_put : MethodName := ⟨RX1, "put", "(I)V"⟩
abbrev cX1_take : ByteArray := prog_3_method_6_code
def yX1_take : MethodName := ⟨RX1, "take", "()I"⟩
abbrev cX1_endGiving : ByteArray := prog_3_method_7_code
def yX1_endGiving : MethodName := ⟨RX1, "endGiving", "(I)V"⟩
abbrev cX1_endThrowing : ByteArray := prog_3_method_8_code
def yX1_endThrowing : MethodName := ⟨RX1, "endThrowing", "(I)V"⟩
def RX2 : String := "ContractFrames$Machine"
def TX2 : u_T := fun k => match k with
  | 0 => ("ContractFrames$Machine", "program", "LContractFrames$Program;", true)
  | 1 => ("ContractFrames$Machine", "world", "LContractFrames$World;", true)
  | 2 => ("ContractFrames$Machine", "report", "LContractFrames$Report;", true)
  | 3 => ("ContractFrames$Machine", "frames", "[LContractFrames$Frame;", true)
  | _ => ("ContractFrames$Machine", "snapshots", "[LContractFrames$Snapshot;", true)
def tyX2 : Nat → FieldType := fun k => match k with
  | 0 => .object "ContractFrames$Program"
  | 1 => .object "ContractFrames$World"
  | 2 => .object "ContractFrames$Report"
  | 3 => .array (.object "ContractFrames$Frame")
  | _ => .array (.object "ContractFrames$Snapshot")
abbrev wsX20 : List Cond := u_ws RX2 TX2 5
theorem nmX2 : ∀ a, a < 5 → ∀ b, b < 5 → a ≠ b → (TX2 a).2.1 ≠ (TX2 b).2.1 := by decide +kernel
theorem tyX2_ok : ∀ k, k < 5 → parseFieldDescriptor (TX2 k).2.2.1 = some (tyX2 k) := by decide +kernel
abbrev cX2_init : ByteArray := prog_4_method_1_code
def yX2_init : MethodName := ⟨RX2, "<init>", "(LContractFrames$Program;LContractFrames$World;LContractFrames$Report;)V"⟩
abbrev cX2_runForUser : ByteArray := prog_4_method_2_code
def yX2_runForUser : MethodName := ⟨RX2, "runForUser", "(IIIIII)V"⟩
abbrev cX2_runFrame : ByteArray := prog_4_method_3_code
def yX2_runFrame : MethodName := ⟨RX2, "runFrame", "(II)V"⟩
abbrev cX2_doStep : ByteArray := prog_4_method_4_code
def yX2_doStep : MethodName := ⟨RX2, "doStep", "(LContractFrames$Frame;LContractFrames$Member;I)V"⟩
abbrev cX2_numberFor : ByteArray := prog_4_method_5_code
def yX2_numberFor : MethodName := ⟨RX2, "numberFor", "(LContractFrames$Frame;II)I"⟩
abbrev cX2_combine : ByteArray := prog_4_method_6_code
def yX2_combine : MethodName := ⟨RX2, "combine", "(LContractFrames$Frame;I)V"⟩
abbrev cX2_divide : ByteArray := prog_4_method_7_code
def yX2_divide : MethodName := ⟨RX2, "divide", "(LContractFrames$Frame;II)V"⟩
abbrev cX2_combined : ByteArray := prog_4_method_8_code
def yX2_combined : MethodName := ⟨RX2, "combined", "(III)I"⟩
abbrev cX2_arrange : ByteArray := prog_4_method_9_code
def yX2_arrange : MethodName := ⟨RX2, "arrange", "(LContractFrames$Frame;II)V"⟩
abbrev cX2_act : ByteArray := prog_4_method_10_code
def yX2_act : MethodName := ⟨RX2, "act", "(LContractFrames$Frame;III)V"⟩
abbrev cX2_tell : ByteArray := prog_4_method_11_code
def yX2_tell : MethodName := ⟨RX2, "tell", "(LContractFrames$Frame;III)V"⟩
abbrev cX2_send : ByteArray := prog_4_method_12_code
def yX2_send : MethodName := ⟨RX2, "send", "(LContractFrames$Frame;II)V"⟩
abbrev cX2_callOther : ByteArray := prog_4_method_13_code
def yX2_callOther : MethodName := ⟨RX2, "callOther", "(LContractFrames$Frame;IIII)V"⟩
abbrev cX2_whyNotEntered : ByteArray := prog_4_method_14_code
def yX2_whyNotEntered : MethodName := ⟨RX2, "whyNotEntered", "(LContractFrames$Frame;IIII)I"⟩
abbrev cX2_isGuardedInside : ByteArray := prog_4_method_15_code
def yX2_isGuardedInside : MethodName := ⟨RX2, "isGuardedInside", "(II)Z"⟩
abbrev cX2_answerGiven : ByteArray := prog_4_method_16_code
def yX2_answerGiven : MethodName := ⟨RX2, "answerGiven", "(LContractFrames$Frame;II)V"⟩
abbrev cX2_answerThrown : ByteArray := prog_4_method_17_code
def yX2_answerThrown : MethodName := ⟨RX2, "answerThrown", "(LContractFrames$Frame;II)V"⟩
def RX3 : String := "ContractFrames$Member"
def TX3 : u_T := fun k => match k with
  | 0 => ("ContractFrames$Member", "codes", "[I", true)
  | 1 => ("ContractFrames$Member", "firsts", "[I", true)
  | 2 => ("ContractFrames$Member", "seconds", "[I", true)
  | 3 => ("ContractFrames$Member", "size", "I", false)
  | _ => ("ContractFrames$Member", "guarded", "Z", false)
def tyX3 : Nat → FieldType := fun k => match k with
  | 0 => .array .int
  | 1 => .array .int
  | 2 => .array .int
  | 3 => .int
  | _ => .boolean
abbrev wsX30 : List Cond := u_ws RX3 TX3 5
theorem nmX3 : ∀ a, a < 5 → ∀ b, b < 5 → a ≠ b → (TX3 a).2.1 ≠ (TX3 b).2.1 := by decide +kernel
theorem tyX3_ok : ∀ k, k < 5 → parseFieldDescriptor (TX3 k).2.2.1 = some (tyX3 k) := by decide +kernel
abbrev cX3_init : ByteArray := prog_5_method_1_code
def yX3_init : MethodName := ⟨RX3, "<init>", "()V"⟩
abbrev cX3_append : ByteArray := prog_5_method_2_code
def yX3_append : MethodName := ⟨RX3, "append", "(III)V"⟩
def RX4 : String := "ContractFrames$Program"
def TX4 : u_T := fun k => match k with
  | 0 => ("ContractFrames$Program", "members", "[LContractFrames$Member;", true)
  | _ => ("ContractFrames$Program", "contracts", "I", false)
def tyX4 : Nat → FieldType := fun k => match k with
  | 0 => .array (.object "ContractFrames$Member")
  | _ => .int
abbrev wsX40 : List Cond := u_ws RX4 TX4 2
theorem nmX4 : ∀ a, a < 2 → ∀ b, b < 2 → a ≠ b → (TX4 a).2.1 ≠ (TX4 b).2.1 := by decide +kernel
theorem tyX4_ok : ∀ k, k < 2 → parseFieldDescriptor (TX4 k).2.2.1 = some (tyX4 k) := by decide +kernel
abbrev cX4_init : ByteArray := prog_6_method_1_code
def yX4_init : MethodName := ⟨RX4, "<init>", "()V"⟩
abbrev cX4_has : ByteArray := prog_6_method_2_code
def yX4_has : MethodName := ⟨RX4, "has", "(I)Z"⟩
abbrev cX4_memberOf : ByteArray := prog_6_method_3_code
def yX4_memberOf : MethodName := ⟨RX4, "memberOf", "(II)LContractFrames$Member;"⟩
abbrev cX4_stepsInAll : ByteArray := prog_6_method_4_code
def yX4_stepsInAll : MethodName := ⟨RX4, "stepsInAll", "()I"⟩
abbrev cX4_reset : ByteArray := prog_6_method_5_code
def yX4_reset : MethodName := ⟨RX4, "reset", "()V"⟩
def RX5 : String := "ContractFrames$Report"
def TX5 : u_T := fun k => match k with
  | 0 => ("ContractFrames$Report", "rows", "[I", true)
  | 1 => ("ContractFrames$Report", "made", "Z", false)
  | 2 => ("ContractFrames$Report", "threw", "Z", false)
  | 3 => ("ContractFrames$Report", "result", "I", false)
  | 4 => ("ContractFrames$Report", "used", "I", false)
  | 5 => ("ContractFrames$Report", "backToUser", "I", false)
  | 6 => ("ContractFrames$Report", "entered", "I", false)
  | 7 => ("ContractFrames$Report", "deepest", "I", false)
  | 8 => ("ContractFrames$Report", "callsThatGave", "I", false)
  | _ => ("ContractFrames$Report", "callsThatThrew", "I", false)
def tyX5 : Nat → FieldType := fun k => match k with
  | 0 => .array .int
  | 1 => .boolean
  | 2 => .boolean
  | 3 => .int
  | 4 => .int
  | 5 => .int
  | 6 => .int
  | 7 => .int
  | 8 => .int
  | _ => .int
abbrev wsX50 : List Cond := u_ws RX5 TX5 10
theorem nmX5 : ∀ a, a < 10 → ∀ b, b < 10 → a ≠ b → (TX5 a).2.1 ≠ (TX5 b).2.1 := by decide +kernel
theorem tyX5_ok : ∀ k, k < 10 → parseFieldDescriptor (TX5 k).2.2.1 = some (tyX5 k) := by decide +kernel
abbrev cX5_init : ByteArray := prog_7_method_1_code
def yX5_init : MethodName := ⟨RX5, "<init>", "()V"⟩
abbrev cX5_reset : ByteArray := prog_7_method_2_code
def yX5_reset : MethodName := ⟨RX5, "reset", "()V"⟩
abbrev cX5_startCall : ByteArray := prog_7_method_3_code
def yX5_startCall : MethodName := ⟨RX5, "startCall", "()V"⟩
abbrev cX5_rowsKept : ByteArray := prog_7_method_4_code
def yX5_rowsKept : MethodName := ⟨RX5, "rowsKept", "()I"⟩
abbrev cX5_enter : ByteArray := prog_7_method_5_code
def yX5_enter : MethodName := ⟨RX5, "enter", "(I)I"⟩
abbrev cX5_writeRow : ByteArray := prog_7_method_6_code
def yX5_writeRow : MethodName := ⟨RX5, "writeRow", "(ILContractFrames$Frame;I)V"⟩
abbrev cX5_endCall : ByteArray := prog_7_method_7_code
def yX5_endCall : MethodName := ⟨RX5, "endCall", "(LContractFrames$Frame;I)V"⟩
def RX6 : String := "ContractFrames$Snapshot"
def TX6 : u_T := fun k => match k with
  | 0 => ("ContractFrames$Snapshot", "stores", "[I", true)
  | 1 => ("ContractFrames$Snapshot", "purses", "[I", true)
  | 2 => ("ContractFrames$Snapshot", "events", "I", false)
  | _ => ("ContractFrames$Snapshot", "zeroings", "I", false)
def tyX6 : Nat → FieldType := fun k => match k with
  | 0 => .array .int
  | 1 => .array .int
  | 2 => .int
  | _ => .int
abbrev wsX60 : List Cond := u_ws RX6 TX6 4
theorem nmX6 : ∀ a, a < 4 → ∀ b, b < 4 → a ≠ b → (TX6 a).2.1 ≠ (TX6 b).2.1 := by decide +kernel
theorem tyX6_ok : ∀ k, k < 4 → parseFieldDescriptor (TX6 k).2.2.1 = some (tyX6 k) := by decide +kernel
abbrev cX6_init : ByteArray := prog_8_method_1_code
def yX6_init : MethodName := ⟨RX6, "<init>", "()V"⟩
abbrev cX6_keep : ByteArray := prog_8_method_2_code
def yX6_keep : MethodName := ⟨RX6, "keep", "(LContractFrames$World;)V"⟩
abbrev cX6_putBack : ByteArray := prog_8_method_3_code
def yX6_putBack : MethodName := ⟨RX6, "putBack", "(LContractFrames$World;)V"⟩
def RX7 : String := "ContractFrames$Thrown"
def TX7 : u_T := fun k => match k with
  | _ => ("", "", "", false)
def tyX7 : Nat → FieldType := fun k => match k with
  | _ => .int
abbrev wsX70 : List Cond := u_ws RX7 TX7 0
theorem nmX7 : ∀ a, a < 0 → ∀ b, b < 0 → a ≠ b → (TX7 a).2.1 ≠ (TX7 b).2.1 := by decide +kernel
theorem tyX7_ok : ∀ k, k < 0 → parseFieldDescriptor (TX7 k).2.2.1 = some (tyX7 k) := by decide +kernel
def RX8 : String := "ContractFrames$World"
def TX8 : u_T := fun k => match k with
  | 0 => ("ContractFrames$World", "stores", "[I", true)
  | 1 => ("ContractFrames$World", "purses", "[I", true)
  | 2 => ("ContractFrames$World", "eventRows", "[I", true)
  | 3 => ("ContractFrames$World", "events", "I", false)
  | _ => ("ContractFrames$World", "zeroings", "I", false)
def tyX8 : Nat → FieldType := fun k => match k with
  | 0 => .array .int
  | 1 => .array .int
  | 2 => .array .int
  | 3 => .int
  | _ => .int
abbrev wsX80 : List Cond := u_ws RX8 TX8 5
theorem nmX8 : ∀ a, a < 5 → ∀ b, b < 5 → a ≠ b → (TX8 a).2.1 ≠ (TX8 b).2.1 := by decide +kernel
theorem tyX8_ok : ∀ k, k < 5 → parseFieldDescriptor (TX8 k).2.2.1 = some (tyX8 k) := by decide +kernel
abbrev cX8_init : ByteArray := prog_10_method_1_code
def yX8_init : MethodName := ⟨RX8, "<init>", "()V"⟩
abbrev cX8_fillUsersPurses : ByteArray := prog_10_method_2_code
def yX8_fillUsersPurses : MethodName := ⟨RX8, "fillUsersPurses", "()V"⟩
abbrev cX8_reset : ByteArray := prog_10_method_3_code
def yX8_reset : MethodName := ⟨RX8, "reset", "()V"⟩
abbrev cX8_startCall : ByteArray := prog_10_method_4_code
def yX8_startCall : MethodName := ⟨RX8, "startCall", "()V"⟩
abbrev cX8_save : ByteArray := prog_10_method_5_code
def yX8_save : MethodName := ⟨RX8, "save", "(III)V"⟩
abbrev cX8_canPay : ByteArray := prog_10_method_6_code
def yX8_canPay : MethodName := ⟨RX8, "canPay", "(II)Z"⟩
abbrev cX8_move : ByteArray := prog_10_method_7_code
def yX8_move : MethodName := ⟨RX8, "move", "(III)V"⟩
abbrev cX8_addEvent : ByteArray := prog_10_method_8_code
def yX8_addEvent : MethodName := ⟨RX8, "addEvent", "(IIII)V"⟩
def RX9 : String := "ContractFrames"
def TX9 : u_T := fun k => match k with
  | 0 => ("ContractFrames", "program", "LContractFrames$Program;", true)
  | 1 => ("ContractFrames", "world", "LContractFrames$World;", true)
  | 2 => ("ContractFrames", "report", "LContractFrames$Report;", true)
  | _ => ("ContractFrames", "machine", "LContractFrames$Machine;", true)
def tyX9 : Nat → FieldType := fun k => match k with
  | 0 => .object "ContractFrames$Program"
  | 1 => .object "ContractFrames$World"
  | 2 => .object "ContractFrames$Report"
  | _ => .object "ContractFrames$Machine"
abbrev wsX90 : List Cond := u_ws RX9 TX9 4
theorem nmX9 : ∀ a, a < 4 → ∀ b, b < 4 → a ≠ b → (TX9 a).2.1 ≠ (TX9 b).2.1 := by decide +kernel
theorem tyX9_ok : ∀ k, k < 4 → parseFieldDescriptor (TX9 k).2.2.1 = some (tyX9 k) := by decide +kernel
abbrev cX9_init : ByteArray := prog_1_method_1_code
def yX9_init : MethodName := ⟨RX9, "<init>", "()V"⟩
abbrev cX9_contract : ByteArray := prog_1_method_2_code
def yX9_contract : MethodName := ⟨RX9, "contract", "()I"⟩
abbrev cX9_step : ByteArray := prog_1_method_3_code
def yX9_step : MethodName := ⟨RX9, "step", "(IIIII)I"⟩
abbrev cX9_empty : ByteArray := prog_1_method_4_code
def yX9_empty : MethodName := ⟨RX9, "empty", "(II)I"⟩
abbrev cX9_guard : ByteArray := prog_1_method_5_code
def yX9_guard : MethodName := ⟨RX9, "guard", "(IIZ)I"⟩
abbrev cX9_call : ByteArray := prog_1_method_6_code
def yX9_call : MethodName := ⟨RX9, "call", "(IIIIII)I"⟩
abbrev cX9_told : ByteArray := prog_1_method_7_code
def yX9_told : MethodName := ⟨RX9, "told", "(I)I"⟩
abbrev cX9_frame : ByteArray := prog_1_method_8_code
def yX9_frame : MethodName := ⟨RX9, "frame", "(II)I"⟩
abbrev cX9_event : ByteArray := prog_1_method_9_code
def yX9_event : MethodName := ⟨RX9, "event", "(II)I"⟩
abbrev cX9_store : ByteArray := prog_1_method_10_code
def yX9_store : MethodName := ⟨RX9, "store", "(II)I"⟩
abbrev cX9_coins : ByteArray := prog_1_method_11_code
def yX9_coins : MethodName := ⟨RX9, "coins", "(II)I"⟩
abbrev cX9_count : ByteArray := prog_1_method_12_code
def yX9_count : MethodName := ⟨RX9, "count", "(I)I"⟩
abbrev cX9_clear : ByteArray := prog_1_method_13_code
def yX9_clear : MethodName := ⟨RX9, "clear", "()I"⟩
abbrev cX9_refusedMember : ByteArray := prog_1_method_14_code
def yX9_refusedMember : MethodName := ⟨RX9, "refusedMember", "(II)I"⟩
abbrev cX9_refusedCall : ByteArray := prog_1_method_15_code
def yX9_refusedCall : MethodName := ⟨RX9, "refusedCall", "(IIIII)I"⟩
abbrev cX9_isUser : ByteArray := prog_1_method_16_code
def yX9_isUser : MethodName := ⟨RX9, "isUser", "(I)Z"⟩
abbrev cX9_within : ByteArray := prog_1_method_17_code
def yX9_within : MethodName := ⟨RX9, "within", "(III)Z"⟩
def RX10 : String := "ContractFramesModel"
def TX10 : u_T := fun k => match k with
  | 0 => ("ContractFramesModel", "contracts", "I", false)
  | 1 => ("ContractFramesModel", "userCoins", "[I", true)
  | 2 => ("ContractFramesModel", "contractCoins", "[I", true)
  | 3 => ("ContractFramesModel", "pot", "I", false)
  | 4 => ("ContractFramesModel", "stores", "[I", true)
  | 5 => ("ContractFramesModel", "lengths", "[I", true)
  | 6 => ("ContractFramesModel", "guarded", "[Z", true)
  | 7 => ("ContractFramesModel", "codes", "[I", true)
  | 8 => ("ContractFramesModel", "as", "[I", true)
  | 9 => ("ContractFramesModel", "bs", "[I", true)
  | 10 => ("ContractFramesModel", "gaveMany", "I", false)
  | 11 => ("ContractFramesModel", "threwMany", "I", false)
  | 12 => ("ContractFramesModel", "deep", "I", false)
  | 13 => ("ContractFramesModel", "fMember", "[I", true)
  | 14 => ("ContractFramesModel", "fArgument", "[I", true)
  | 15 => ("ContractFramesModel", "fValue", "[I", true)
  | 16 => ("ContractFramesModel", "fCaller", "[I", true)
  | 17 => ("ContractFramesModel", "fLimit", "[I", true)
  | 18 => ("ContractFramesModel", "fUsed", "[I", true)
  | 19 => ("ContractFramesModel", "fAt", "[I", true)
  | 20 => ("ContractFramesModel", "fHas", "[I", true)
  | 21 => ("ContractFramesModel", "fHow", "[I", true)
  | 22 => ("ContractFramesModel", "fRecord", "[I", true)
  | 23 => ("ContractFramesModel", "fReads", "[Z", true)
  | 24 => ("ContractFramesModel", "stack", "[I", true)
  | 25 => ("ContractFramesModel", "oldStores", "[I", true)
  | 26 => ("ContractFramesModel", "oldUsers", "[I", true)
  | 27 => ("ContractFramesModel", "oldContracts", "[I", true)
  | 28 => ("ContractFramesModel", "oldEvents", "[I", true)
  | 29 => ("ContractFramesModel", "oldFreed", "[I", true)
  | 30 => ("ContractFramesModel", "events", "I", false)
  | 31 => ("ContractFramesModel", "eContract", "[I", true)
  | 32 => ("ContractFramesModel", "eKind", "[I", true)
  | 33 => ("ContractFramesModel", "eValue", "[I", true)
  | 34 => ("ContractFramesModel", "eDeep", "[I", true)
  | 35 => ("ContractFramesModel", "freed", "I", false)
  | 36 => ("ContractFramesModel", "entered", "I", false)
  | 37 => ("ContractFramesModel", "deepest", "I", false)
  | 38 => ("ContractFramesModel", "rMember", "[I", true)
  | 39 => ("ContractFramesModel", "rDeep", "[I", true)
  | 40 => ("ContractFramesModel", "rUsed", "[I", true)
  | 41 => ("ContractFramesModel", "rThrew", "[I", true)
  | 42 => ("ContractFramesModel", "rGave", "[I", true)
  | 43 => ("ContractFramesModel", "rReads", "[Z", true)
  | 44 => ("ContractFramesModel", "hasCalled", "Z", false)
  | 45 => ("ContractFramesModel", "lastWhat", "I", false)
  | 46 => ("ContractFramesModel", "lastUsed", "I", false)
  | 47 => ("ContractFramesModel", "lastBack", "I", false)
  | _ => ("ContractFramesModel", "lastThrew", "I", false)
def tyX10 : Nat → FieldType := fun k => match k with
  | 0 => .int
  | 1 => .array .int
  | 2 => .array .int
  | 3 => .int
  | 4 => .array .int
  | 5 => .array .int
  | 6 => .array .boolean
  | 7 => .array .int
  | 8 => .array .int
  | 9 => .array .int
  | 10 => .int
  | 11 => .int
  | 12 => .int
  | 13 => .array .int
  | 14 => .array .int
  | 15 => .array .int
  | 16 => .array .int
  | 17 => .array .int
  | 18 => .array .int
  | 19 => .array .int
  | 20 => .array .int
  | 21 => .array .int
  | 22 => .array .int
  | 23 => .array .boolean
  | 24 => .array .int
  | 25 => .array .int
  | 26 => .array .int
  | 27 => .array .int
  | 28 => .array .int
  | 29 => .array .int
  | 30 => .int
  | 31 => .array .int
  | 32 => .array .int
  | 33 => .array .int
  | 34 => .array .int
  | 35 => .int
  | 36 => .int
  | 37 => .int
  | 38 => .array .int
  | 39 => .array .int
  | 40 => .array .int
  | 41 => .array .int
  | 42 => .array .int
  | 43 => .array .boolean
  | 44 => .boolean
  | 45 => .int
  | 46 => .int
  | 47 => .int
  | _ => .int
abbrev wsX100 : List Cond := u_ws RX10 TX10 49
theorem nmX10 : ∀ a, a < 49 → ∀ b, b < 49 → a ≠ b → (TX10 a).2.1 ≠ (TX10 b).2.1 := by decide +kernel
theorem tyX10_ok : ∀ k, k < 49 → parseFieldDescriptor (TX10 k).2.2.1 = some (tyX10 k) := by decide +kernel
abbrev cX10_init : ByteArray := prog_12_method_1_code
def yX10_init : MethodName := ⟨RX10, "<init>", "()V"⟩
abbrev cX10_in : ByteArray := prog_12_method_2_code
def yX10_in : MethodName := ⟨RX10, "in", "(III)Z"⟩
abbrev cX10_begin : ByteArray := prog_12_method_3_code
def yX10_begin : MethodName := ⟨RX10, "begin", "()V"⟩
abbrev cX10_contract : ByteArray := prog_12_method_4_code
def yX10_contract : MethodName := ⟨RX10, "contract", "()I"⟩
abbrev cX10_noContract : ByteArray := prog_12_method_5_code
def yX10_noContract : MethodName := ⟨RX10, "noContract", "(I)Z"⟩
abbrev cX10_isCode : ByteArray := prog_12_method_6_code
def yX10_isCode : MethodName := ⟨RX10, "isCode", "(III)Z"⟩
abbrev cX10_step : ByteArray := prog_12_method_7_code
def yX10_step : MethodName := ⟨RX10, "step", "(IIIII)I"⟩
abbrev cX10_empty : ByteArray := prog_12_method_8_code
def yX10_empty : MethodName := ⟨RX10, "empty", "(II)I"⟩
abbrev cX10_guard : ByteArray := prog_12_method_9_code
def yX10_guard : MethodName := ⟨RX10, "guard", "(IIZ)I"⟩
abbrev cX10_hold : ByteArray := prog_12_method_10_code
def yX10_hold : MethodName := ⟨RX10, "hold", "(I)V"⟩
abbrev cX10_undo : ByteArray := prog_12_method_11_code
def yX10_undo : MethodName := ⟨RX10, "undo", "(I)V"⟩
abbrev cX10_enter : ByteArray := prog_12_method_12_code
def yX10_enter : MethodName := ⟨RX10, "enter", "(IIIIIIZ)V"⟩
abbrev cX10_push : ByteArray := prog_12_method_13_code
def yX10_push : MethodName := ⟨RX10, "push", "(II)V"⟩
abbrev cX10_pop : ByteArray := prog_12_method_14_code
def yX10_pop : MethodName := ⟨RX10, "pop", "(I)I"⟩
abbrev cX10_takes : ByteArray := prog_12_method_15_code
def yX10_takes : MethodName := ⟨RX10, "takes", "(I)I"⟩
abbrev cX10_leaves : ByteArray := prog_12_method_16_code
def yX10_leaves : MethodName := ⟨RX10, "leaves", "(I)I"⟩
abbrev cX10_ends : ByteArray := prog_12_method_17_code
def yX10_ends : MethodName := ⟨RX10, "ends", "(II)V"⟩
abbrev cX10_gives : ByteArray := prog_12_method_18_code
def yX10_gives : MethodName := ⟨RX10, "gives", "(III)I"⟩
abbrev cX10_reckon : ByteArray := prog_12_method_19_code
def yX10_reckon : MethodName := ⟨RX10, "reckon", "(II)V"⟩
abbrev cX10_save : ByteArray := prog_12_method_20_code
def yX10_save : MethodName := ⟨RX10, "save", "(II)V"⟩
abbrev cX10_tell : ByteArray := prog_12_method_21_code
def yX10_tell : MethodName := ⟨RX10, "tell", "(II)V"⟩
abbrev cX10_send : ByteArray := prog_12_method_22_code
def yX10_send : MethodName := ⟨RX10, "send", "(II)V"⟩
abbrev cX10_shut : ByteArray := prog_12_method_23_code
def yX10_shut : MethodName := ⟨RX10, "shut", "(IIII)I"⟩
abbrev cX10_callOut : ByteArray := prog_12_method_24_code
def yX10_callOut : MethodName := ⟨RX10, "callOut", "(IIII)V"⟩
abbrev cX10_act : ByteArray := prog_12_method_25_code
def yX10_act : MethodName := ⟨RX10, "act", "(IIII)V"⟩
abbrev cX10_oneStep : ByteArray := prog_12_method_26_code
def yX10_oneStep : MethodName := ⟨RX10, "oneStep", "()V"⟩
abbrev cX10_call : ByteArray := prog_12_method_27_code
def yX10_call : MethodName := ⟨RX10, "call", "(IIIIII)I"⟩
abbrev cX10_told : ByteArray := prog_12_method_28_code
def yX10_told : MethodName := ⟨RX10, "told", "(I)I"⟩
abbrev cX10_frame : ByteArray := prog_12_method_29_code
def yX10_frame : MethodName := ⟨RX10, "frame", "(II)I"⟩
abbrev cX10_event : ByteArray := prog_12_method_30_code
def yX10_event : MethodName := ⟨RX10, "event", "(II)I"⟩
abbrev cX10_store : ByteArray := prog_12_method_31_code
def yX10_store : MethodName := ⟨RX10, "store", "(II)I"⟩
abbrev cX10_coins : ByteArray := prog_12_method_32_code
def yX10_coins : MethodName := ⟨RX10, "coins", "(II)I"⟩
abbrev cX10_count : ByteArray := prog_12_method_33_code
def yX10_count : MethodName := ⟨RX10, "count", "(I)I"⟩
abbrev cX10_clear : ByteArray := prog_12_method_34_code
def yX10_clear : MethodName := ⟨RX10, "clear", "()I"⟩
def RJ9 : String := "java/lang/Math"
def TJ9 : u_T := fun k => match k with
  | _ => ("", "", "", false)
def tyJ9 : Nat → FieldType := fun k => match k with
  | _ => .int
abbrev wsJ90 : List Cond := u_ws RJ9 TJ9 0
theorem nmJ9 : ∀ a, a < 0 → ∀ b, b < 0 → a ≠ b → (TJ9 a).2.1 ≠ (TJ9 b).2.1 := by decide +kernel
theorem tyJ9_ok : ∀ k, k < 0 → parseFieldDescriptor (TJ9 k).2.2.1 = some (tyJ9 k) := by decide +kernel
abbrev cJ9_max_7cf53 : ByteArray := prog_13_method_65_code
def yJ9_max_7cf53 : MethodName := ⟨RJ9, "max", "(II)I"⟩
abbrev cJ9_min_7cf53 : ByteArray := prog_13_method_69_code
def yJ9_min_7cf53 : MethodName := ⟨RJ9, "min", "(II)I"⟩
def RJ10 : String := "java/lang/System"
def TJ10 : u_T := fun k => match k with
  | _ => ("", "", "", false)
def tyJ10 : Nat → FieldType := fun k => match k with
  | _ => .int
abbrev wsJ100 : List Cond := u_ws RJ10 TJ10 0
theorem nmJ10 : ∀ a, a < 0 → ∀ b, b < 0 → a ≠ b → (TJ10 a).2.1 ≠ (TJ10 b).2.1 := by decide +kernel
theorem tyJ10_ok : ∀ k, k < 0 → parseFieldDescriptor (TJ10 k).2.2.1 = some (tyJ10 k) := by decide +kernel
def RJ7 : String := "java/util/Arrays"
def TJ7 : u_T := fun k => match k with
  | _ => ("", "", "", false)
def tyJ7 : Nat → FieldType := fun k => match k with
  | _ => .int
abbrev wsJ70 : List Cond := u_ws RJ7 TJ7 0
theorem nmJ7 : ∀ a, a < 0 → ∀ b, b < 0 → a ≠ b → (TJ7 a).2.1 ≠ (TJ7 b).2.1 := by decide +kernel
theorem tyJ7_ok : ∀ k, k < 0 → parseFieldDescriptor (TJ7 k).2.2.1 = some (tyJ7 k) := by decide +kernel
abbrev cJ7_rangeCheck_23922 : ByteArray := prog_15_method_30_code
def yJ7_rangeCheck_23922 : MethodName := ⟨RJ7, "rangeCheck", "(III)V"⟩
abbrev cJ7_fill_53178 : ByteArray := prog_15_method_103_code
def yJ7_fill_53178 : MethodName := ⟨RJ7, "fill", "([II)V"⟩
abbrev cJ7_fill_fda19 : ByteArray := prog_15_method_104_code
def yJ7_fill_fda19 : MethodName := ⟨RJ7, "fill", "([IIII)V"⟩
def RL : String := "ContractFramesLaw"
abbrev cL_law : ByteArray := code
def yL_law : MethodName := ⟨RL, "law", "([I)Z"⟩
abbrev vwCl : List vw_C := [(RX1, TX1, 14), (RX2, TX2, 5), (RX3, TX3, 5), (RX4, TX4, 2), (RX5, TX5, 10), (RX6, TX6, 4), (RX8, TX8, 5), (RX9, TX9, 4), (RX10, TX10, 49)]
