section
-- ===== PART A: goes FIRST, ahead of the names: the tables' words, and 'selects' of the private methods out of them =====
/-- a private method of a class that the tables say can be made, by its rows of tables_1 -/
def lw_okq (q : MethodName × Nat) : Prop := (q.1.cls ≠ "java/lang/invoke/MethodHandle" ∧ q.1.cls ≠ "java/lang/invoke/VarHandle") ∧ Cond.instantiable q.1.cls q.2 ∈ tables_1 ∧ Cond.privateMethod q.1 ∈ tables_1 ∧ Cond.instanceMethod q.1 ∈ tables_1
theorem lw_p0 : lw_okq (⟨"ContractFrames$World", "fillUsersPurses", "()V"⟩, 5) := ⟨⟨by decide +kernel, by decide +kernel⟩, List.mem_of_getElem? (i := 69) (by decide +kernel), List.mem_of_getElem? (i := 75) (by decide +kernel), List.mem_of_getElem? (i := 76) (by decide +kernel)⟩
theorem lw_p1 : lw_okq (⟨"ContractFrames", "refusedMember", "(II)I"⟩, 4) := ⟨⟨by decide +kernel, by decide +kernel⟩, List.mem_of_getElem? (i := 15) (by decide +kernel), List.mem_of_getElem? (i := 288) (by decide +kernel), List.mem_of_getElem? (i := 289) (by decide +kernel)⟩
theorem lw_p2 : lw_okq (⟨"ContractFrames", "refusedCall", "(IIIII)I"⟩, 4) := ⟨⟨by decide +kernel, by decide +kernel⟩, List.mem_of_getElem? (i := 15) (by decide +kernel), List.mem_of_getElem? (i := 323) (by decide +kernel), List.mem_of_getElem? (i := 324) (by decide +kernel)⟩
theorem lw_p3 : lw_okq (⟨"ContractFrames$Machine", "runFrame", "(II)V"⟩, 5) := ⟨⟨by decide +kernel, by decide +kernel⟩, List.mem_of_getElem? (i := 160) (by decide +kernel), List.mem_of_getElem? (i := 346) (by decide +kernel), List.mem_of_getElem? (i := 347) (by decide +kernel)⟩
theorem lw_p4 : lw_okq (⟨"ContractFrames$Machine", "doStep", "(LContractFrames$Frame;LContractFrames$Member;I)V"⟩, 5) := ⟨⟨by decide +kernel, by decide +kernel⟩, List.mem_of_getElem? (i := 160) (by decide +kernel), List.mem_of_getElem? (i := 377) (by decide +kernel), List.mem_of_getElem? (i := 378) (by decide +kernel)⟩
theorem lw_p5 : lw_okq (⟨"ContractFrames$Machine", "numberFor", "(LContractFrames$Frame;II)I"⟩, 5) := ⟨⟨by decide +kernel, by decide +kernel⟩, List.mem_of_getElem? (i := 160) (by decide +kernel), List.mem_of_getElem? (i := 391) (by decide +kernel), List.mem_of_getElem? (i := 392) (by decide +kernel)⟩
theorem lw_p6 : lw_okq (⟨"ContractFrames$Machine", "callOther", "(LContractFrames$Frame;IIII)V"⟩, 5) := ⟨⟨by decide +kernel, by decide +kernel⟩, List.mem_of_getElem? (i := 160) (by decide +kernel), List.mem_of_getElem? (i := 416) (by decide +kernel), List.mem_of_getElem? (i := 417) (by decide +kernel)⟩
theorem lw_p7 : lw_okq (⟨"ContractFrames$Machine", "whyNotEntered", "(LContractFrames$Frame;IIII)I"⟩, 5) := ⟨⟨by decide +kernel, by decide +kernel⟩, List.mem_of_getElem? (i := 160) (by decide +kernel), List.mem_of_getElem? (i := 423) (by decide +kernel), List.mem_of_getElem? (i := 424) (by decide +kernel)⟩
theorem lw_p8 : lw_okq (⟨"ContractFrames$Machine", "isGuardedInside", "(II)Z"⟩, 5) := ⟨⟨by decide +kernel, by decide +kernel⟩, List.mem_of_getElem? (i := 160) (by decide +kernel), List.mem_of_getElem? (i := 428) (by decide +kernel), List.mem_of_getElem? (i := 429) (by decide +kernel)⟩
theorem lw_p9 : lw_okq (⟨"ContractFrames$Machine", "act", "(LContractFrames$Frame;III)V"⟩, 5) := ⟨⟨by decide +kernel, by decide +kernel⟩, List.mem_of_getElem? (i := 160) (by decide +kernel), List.mem_of_getElem? (i := 450) (by decide +kernel), List.mem_of_getElem? (i := 451) (by decide +kernel)⟩
theorem lw_p10 : lw_okq (⟨"ContractFrames$Machine", "tell", "(LContractFrames$Frame;III)V"⟩, 5) := ⟨⟨by decide +kernel, by decide +kernel⟩, List.mem_of_getElem? (i := 160) (by decide +kernel), List.mem_of_getElem? (i := 458) (by decide +kernel), List.mem_of_getElem? (i := 459) (by decide +kernel)⟩
theorem lw_p11 : lw_okq (⟨"ContractFrames$Machine", "send", "(LContractFrames$Frame;II)V"⟩, 5) := ⟨⟨by decide +kernel, by decide +kernel⟩, List.mem_of_getElem? (i := 160) (by decide +kernel), List.mem_of_getElem? (i := 466) (by decide +kernel), List.mem_of_getElem? (i := 467) (by decide +kernel)⟩
theorem lw_p12 : lw_okq (⟨"ContractFramesModel", "begin", "()V"⟩, 49) := ⟨⟨by decide +kernel, by decide +kernel⟩, List.mem_of_getElem? (i := 538) (by decide +kernel), List.mem_of_getElem? (i := 544) (by decide +kernel), List.mem_of_getElem? (i := 545) (by decide +kernel)⟩
theorem lw_p13 : lw_okq (⟨"ContractFramesModel", "noContract", "(I)Z"⟩, 49) := ⟨⟨by decide +kernel, by decide +kernel⟩, List.mem_of_getElem? (i := 538) (by decide +kernel), List.mem_of_getElem? (i := 705) (by decide +kernel), List.mem_of_getElem? (i := 706) (by decide +kernel)⟩
theorem lw_p14 : lw_okq (⟨"ContractFramesModel", "enter", "(IIIIIIZ)V"⟩, 49) := ⟨⟨by decide +kernel, by decide +kernel⟩, List.mem_of_getElem? (i := 538) (by decide +kernel), List.mem_of_getElem? (i := 727) (by decide +kernel), List.mem_of_getElem? (i := 728) (by decide +kernel)⟩
theorem lw_p15 : lw_okq (⟨"ContractFramesModel", "hold", "(I)V"⟩, 49) := ⟨⟨by decide +kernel, by decide +kernel⟩, List.mem_of_getElem? (i := 538) (by decide +kernel), List.mem_of_getElem? (i := 731) (by decide +kernel), List.mem_of_getElem? (i := 732) (by decide +kernel)⟩
def lw_privs_1 : List (MethodName × Nat) := [(⟨"ContractFrames$World", "fillUsersPurses", "()V"⟩, 5), (⟨"ContractFrames", "refusedMember", "(II)I"⟩, 4), (⟨"ContractFrames", "refusedCall", "(IIIII)I"⟩, 4), (⟨"ContractFrames$Machine", "runFrame", "(II)V"⟩, 5), (⟨"ContractFrames$Machine", "doStep", "(LContractFrames$Frame;LContractFrames$Member;I)V"⟩, 5), (⟨"ContractFrames$Machine", "numberFor", "(LContractFrames$Frame;II)I"⟩, 5), (⟨"ContractFrames$Machine", "callOther", "(LContractFrames$Frame;IIII)V"⟩, 5), (⟨"ContractFrames$Machine", "whyNotEntered", "(LContractFrames$Frame;IIII)I"⟩, 5), (⟨"ContractFrames$Machine", "isGuardedInside", "(II)Z"⟩, 5), (⟨"ContractFrames$Machine", "act", "(LContractFrames$Frame;III)V"⟩, 5), (⟨"ContractFrames$Machine", "tell", "(LContractFrames$Frame;III)V"⟩, 5), (⟨"ContractFrames$Machine", "send", "(LContractFrames$Frame;II)V"⟩, 5), (⟨"ContractFramesModel", "begin", "()V"⟩, 49), (⟨"ContractFramesModel", "noContract", "(I)Z"⟩, 49), (⟨"ContractFramesModel", "enter", "(IIIIIIZ)V"⟩, 49), (⟨"ContractFramesModel", "hold", "(I)V"⟩, 49)]
theorem lw_r1 : ∀ q ∈ lw_privs_1, lw_okq q := List.forall_mem_cons.mpr ⟨lw_p0, List.forall_mem_cons.mpr ⟨lw_p1, List.forall_mem_cons.mpr ⟨lw_p2, List.forall_mem_cons.mpr ⟨lw_p3, List.forall_mem_cons.mpr ⟨lw_p4, List.forall_mem_cons.mpr ⟨lw_p5, List.forall_mem_cons.mpr ⟨lw_p6, List.forall_mem_cons.mpr ⟨lw_p7, List.forall_mem_cons.mpr ⟨lw_p8, List.forall_mem_cons.mpr ⟨lw_p9, List.forall_mem_cons.mpr ⟨lw_p10, List.forall_mem_cons.mpr ⟨lw_p11, List.forall_mem_cons.mpr ⟨lw_p12, List.forall_mem_cons.mpr ⟨lw_p13, List.forall_mem_cons.mpr ⟨lw_p14, List.forall_mem_cons.mpr ⟨lw_p15, fun _ h => absurd h List.not_mem_nil⟩⟩⟩⟩⟩⟩⟩⟩⟩⟩⟩⟩⟩⟩⟩⟩
theorem lw_p16 : lw_okq (⟨"ContractFramesModel", "oneStep", "()V"⟩, 49) := ⟨⟨by decide +kernel, by decide +kernel⟩, List.mem_of_getElem? (i := 538) (by decide +kernel), List.mem_of_getElem? (i := 735) (by decide +kernel), List.mem_of_getElem? (i := 736) (by decide +kernel)⟩
theorem lw_p17 : lw_okq (⟨"ContractFramesModel", "ends", "(II)V"⟩, 49) := ⟨⟨by decide +kernel, by decide +kernel⟩, List.mem_of_getElem? (i := 538) (by decide +kernel), List.mem_of_getElem? (i := 739) (by decide +kernel), List.mem_of_getElem? (i := 740) (by decide +kernel)⟩
theorem lw_p18 : lw_okq (⟨"ContractFramesModel", "undo", "(I)V"⟩, 49) := ⟨⟨by decide +kernel, by decide +kernel⟩, List.mem_of_getElem? (i := 538) (by decide +kernel), List.mem_of_getElem? (i := 743) (by decide +kernel), List.mem_of_getElem? (i := 744) (by decide +kernel)⟩
theorem lw_p19 : lw_okq (⟨"ContractFramesModel", "push", "(II)V"⟩, 49) := ⟨⟨by decide +kernel, by decide +kernel⟩, List.mem_of_getElem? (i := 538) (by decide +kernel), List.mem_of_getElem? (i := 747) (by decide +kernel), List.mem_of_getElem? (i := 748) (by decide +kernel)⟩
theorem lw_p20 : lw_okq (⟨"ContractFramesModel", "act", "(IIII)V"⟩, 49) := ⟨⟨by decide +kernel, by decide +kernel⟩, List.mem_of_getElem? (i := 538) (by decide +kernel), List.mem_of_getElem? (i := 757) (by decide +kernel), List.mem_of_getElem? (i := 758) (by decide +kernel)⟩
theorem lw_p21 : lw_okq (⟨"ContractFramesModel", "gives", "(III)I"⟩, 49) := ⟨⟨by decide +kernel, by decide +kernel⟩, List.mem_of_getElem? (i := 538) (by decide +kernel), List.mem_of_getElem? (i := 761) (by decide +kernel), List.mem_of_getElem? (i := 762) (by decide +kernel)⟩
theorem lw_p22 : lw_okq (⟨"ContractFramesModel", "save", "(II)V"⟩, 49) := ⟨⟨by decide +kernel, by decide +kernel⟩, List.mem_of_getElem? (i := 538) (by decide +kernel), List.mem_of_getElem? (i := 765) (by decide +kernel), List.mem_of_getElem? (i := 766) (by decide +kernel)⟩
theorem lw_p23 : lw_okq (⟨"ContractFramesModel", "pop", "(I)I"⟩, 49) := ⟨⟨by decide +kernel, by decide +kernel⟩, List.mem_of_getElem? (i := 538) (by decide +kernel), List.mem_of_getElem? (i := 769) (by decide +kernel), List.mem_of_getElem? (i := 770) (by decide +kernel)⟩
theorem lw_p24 : lw_okq (⟨"ContractFramesModel", "callOut", "(IIII)V"⟩, 49) := ⟨⟨by decide +kernel, by decide +kernel⟩, List.mem_of_getElem? (i := 538) (by decide +kernel), List.mem_of_getElem? (i := 773) (by decide +kernel), List.mem_of_getElem? (i := 774) (by decide +kernel)⟩
theorem lw_p25 : lw_okq (⟨"ContractFramesModel", "shut", "(IIII)I"⟩, 49) := ⟨⟨by decide +kernel, by decide +kernel⟩, List.mem_of_getElem? (i := 538) (by decide +kernel), List.mem_of_getElem? (i := 777) (by decide +kernel), List.mem_of_getElem? (i := 778) (by decide +kernel)⟩
theorem lw_p26 : lw_okq (⟨"ContractFramesModel", "tell", "(II)V"⟩, 49) := ⟨⟨by decide +kernel, by decide +kernel⟩, List.mem_of_getElem? (i := 538) (by decide +kernel), List.mem_of_getElem? (i := 781) (by decide +kernel), List.mem_of_getElem? (i := 782) (by decide +kernel)⟩
theorem lw_p27 : lw_okq (⟨"ContractFramesModel", "send", "(II)V"⟩, 49) := ⟨⟨by decide +kernel, by decide +kernel⟩, List.mem_of_getElem? (i := 538) (by decide +kernel), List.mem_of_getElem? (i := 785) (by decide +kernel), List.mem_of_getElem? (i := 786) (by decide +kernel)⟩
theorem lw_p28 : lw_okq (⟨"ContractFramesModel", "reckon", "(II)V"⟩, 49) := ⟨⟨by decide +kernel, by decide +kernel⟩, List.mem_of_getElem? (i := 538) (by decide +kernel), List.mem_of_getElem? (i := 789) (by decide +kernel), List.mem_of_getElem? (i := 790) (by decide +kernel)⟩
def lw_privs_2 : List (MethodName × Nat) := [(⟨"ContractFramesModel", "oneStep", "()V"⟩, 49), (⟨"ContractFramesModel", "ends", "(II)V"⟩, 49), (⟨"ContractFramesModel", "undo", "(I)V"⟩, 49), (⟨"ContractFramesModel", "push", "(II)V"⟩, 49), (⟨"ContractFramesModel", "act", "(IIII)V"⟩, 49), (⟨"ContractFramesModel", "gives", "(III)I"⟩, 49), (⟨"ContractFramesModel", "save", "(II)V"⟩, 49), (⟨"ContractFramesModel", "pop", "(I)I"⟩, 49), (⟨"ContractFramesModel", "callOut", "(IIII)V"⟩, 49), (⟨"ContractFramesModel", "shut", "(IIII)I"⟩, 49), (⟨"ContractFramesModel", "tell", "(II)V"⟩, 49), (⟨"ContractFramesModel", "send", "(II)V"⟩, 49), (⟨"ContractFramesModel", "reckon", "(II)V"⟩, 49)]
theorem lw_r2 : ∀ q ∈ lw_privs_2, lw_okq q := List.forall_mem_cons.mpr ⟨lw_p16, List.forall_mem_cons.mpr ⟨lw_p17, List.forall_mem_cons.mpr ⟨lw_p18, List.forall_mem_cons.mpr ⟨lw_p19, List.forall_mem_cons.mpr ⟨lw_p20, List.forall_mem_cons.mpr ⟨lw_p21, List.forall_mem_cons.mpr ⟨lw_p22, List.forall_mem_cons.mpr ⟨lw_p23, List.forall_mem_cons.mpr ⟨lw_p24, List.forall_mem_cons.mpr ⟨lw_p25, List.forall_mem_cons.mpr ⟨lw_p26, List.forall_mem_cons.mpr ⟨lw_p27, List.forall_mem_cons.mpr ⟨lw_p28, fun _ h => absurd h List.not_mem_nil⟩⟩⟩⟩⟩⟩⟩⟩⟩⟩⟩⟩⟩
def lw_privs : List (MethodName × Nat) := lw_privs_1 ++ (lw_privs_2)
def lw_tbl : List Cond := k2_sels lw_privs ++ tables_1
theorem lw_privs_ok : ∀ q ∈ lw_privs, lw_okq q := by
  show ∀ q ∈ lw_privs_1 ++ (lw_privs_2), lw_okq q
  exact List.forall_mem_append.mpr ⟨lw_r1, lw_r2⟩
end
section













/-! ===== BEGIN printed: names, fields, word lists, decode rows ===== -/
def RX0 : String := "ContractFrames$Code"
def TX0 : u_T := fun k => match k with
  | _ => ("", "", "", false)
def tyX0 : Nat → FieldType := fun k => match k with
  | _ => .int
abbrev wsX00 : List Cond := u_ws RX0 TX0 0
theorem nmX0 : ∀ a, a < 0 → ∀ b, b < 0 → a ≠ b → (TX0 a).2.1 ≠ (TX0 b).2.1 := by decide +kernel
theorem tyX0_ok : ∀ k, k < 0 → parseFieldDescriptor (TX0 k).2.2.1 = some (tyX0 k) := by decide +kernel
abbrev cX0_fits : ByteArray := prog_2_method_2_code
def yX0_fits : MethodName := ⟨RX0, "fits", "(III)Z"⟩
abbrev cX0_writes : ByteArray := prog_2_method_3_code
def yX0_writes : MethodName := ⟨RX0, "writes", "(I)Z"⟩
abbrev cX0_fitsStack : ByteArray := prog_2_method_4_code
def yX0_fitsStack : MethodName := ⟨RX0, "fitsStack", "(II)Z"⟩
def RX1 : String := "ContractFrames$Frame"
def TX1 : u_T := fun k => match k with
  | 0 => ("ContractFrames$Frame", "stack", "[I", true)
  | 1 => ("ContractFrames$Frame", "height", "I", false)
  | 2 => ("ContractFrames$Frame", "contract", "I", false)
  | 3 => ("ContractFrames$Frame", "member", "I", false)
  | 4 => ("ContractFrames$Frame", "argument", "I", false)
  | 5 => ("ContractFrames$Frame", "value", "I", false)
  | 6 => ("ContractFrames$Frame", "caller", "I", false)
  | 7 => ("ContractFrames$Frame", "onlyReads", "Z", false)
  | 8 => ("ContractFrames$Frame", "limit", "I", false)
  | 9 => ("ContractFrames$Frame", "left", "I", false)
  | 10 => ("ContractFrames$Frame", "position", "I", false)
  | 11 => ("ContractFrames$Frame", "ended", "Z", false)
  | 12 => ("ContractFrames$Frame", "threw", "I", false)
  | _ => ("ContractFrames$Frame", "gave", "I", false)
def tyX1 : Nat → FieldType := fun k => match k with
  | 0 => .array .int
  | 1 => .int
  | 2 => .int
  | 3 => .int
  | 4 => .int
  | 5 => .int
  | 6 => .int
  | 7 => .boolean
  | 8 => .int
  | 9 => .int
  | 10 => .int
  | 11 => .boolean
  | 12 => .int
  | _ => .int
abbrev wsX10 : List Cond := u_ws RX1 TX1 14
theorem nmX1 : ∀ a, a < 14 → ∀ b, b < 14 → a ≠ b → (TX1 a).2.1 ≠ (TX1 b).2.1 := by decide +kernel
theorem tyX1_ok : ∀ k, k < 14 → parseFieldDescriptor (TX1 k).2.2.1 = some (tyX1 k) := by decide +kernel
abbrev cX1_init : ByteArray := prog_3_method_1_code
def yX1_init : MethodName := ⟨RX1, "<init>", "()V"⟩
abbrev cX1_begin : ByteArray := prog_3_method_2_code
def yX1_begin : MethodName := ⟨RX1, "begin", "(IIIII)V"⟩
abbrev cX1_used : ByteArray := prog_3_method_3_code
def yX1_used : MethodName := ⟨RX1, "used", "()I"⟩
abbrev cX1_hasThrown : ByteArray := prog_3_method_4_code
def yX1_hasThrown : MethodName := ⟨RX1, "hasThrown", "()Z"⟩
abbrev cX1_put : ByteArray := prog_3_method_5_code
def yX1_put : MethodName := ⟨RX1, "put", "(I)V"⟩
abbrev cX1_take : ByteArray := prog_3_method_6_code
def yX1_take : MethodName := ⟨RX1, "take", "()I"⟩
abbrev cX1_endGiving : ByteArray := prog_3_method_7_code
def yX1_endGiving : MethodName := ⟨RX1, "endGiving", "(I)V"⟩
abbrev cX1_endThrowing : ByteArray := prog_3_method_8_code
def yX1_endThrowing : MethodName := ⟨RX1, "endThrowing", "(I)V"⟩
def RX2 : String := "ContractFrames$Machine"
def TX2 : u_T := fun k => match k with
  | 0 => ("ContractFrames$Machine", "program", "LContractFrames$Program;", true)
  | 1 => ("ContractFrames$Machine", "world", "LContractFrames$World;", true)
  | 2 => ("ContractFrames$Machine", "report", "LContractFrames$Report;", true)
  | 3 => ("ContractFrames$Machine", "frames", "[LContractFrames$Frame;", true)
  | _ => ("ContractFrames$Machine", "snapshots", "[LContractFrames$Snapshot;", true)
def tyX2 : Nat → FieldType := fun k => match k with
  | 0 => .object "ContractFrames$Program"
  | 1 => .object "ContractFrames$World"
  | 2 => .object "ContractFrames$Report"
  | 3 => .array (.object "ContractFrames$Frame")
  | _ => .array (.object "ContractFrames$Snapshot")
abbrev wsX20 : List Cond := u_ws RX2 TX2 5
theorem nmX2 : ∀ a, a < 5 → ∀ b, b < 5 → a ≠ b → (TX2 a).2.1 ≠ (TX2 b).2.1 := by decide +kernel
theorem tyX2_ok : ∀ k, k < 5 → parseFieldDescriptor (TX2 k).2.2.1 = some (tyX2 k) := by decide +kernel
abbrev cX2_init : ByteArray := prog_4_method_1_code
def yX2_init : MethodName := ⟨RX2, "<init>", "(LContractFrames$Program;LContractFrames$World;LContractFrames$Report;)V"⟩
abbrev cX2_runForUser : ByteArray := prog_4_method_2_code
def yX2_runForUser : MethodName := ⟨RX2, "runForUser", "(IIIIII)V"⟩
abbrev cX2_runFrame : ByteArray := prog_4_method_3_code
def yX2_runFrame : MethodName := ⟨RX2, "runFrame", "(II)V"⟩
abbrev cX2_doStep : ByteArray := prog_4_method_4_code
def yX2_doStep : MethodName := ⟨RX2, "doStep", "(LContractFrames$Frame;LContractFrames$Member;I)V"⟩
abbrev cX2_numberFor : ByteArray := prog_4_method_5_code
def yX2_numberFor : MethodName := ⟨RX2, "numberFor", "(LContractFrames$Frame;II)I"⟩
abbrev cX2_combine : ByteArray := prog_4_method_6_code
def yX2_combine : MethodName := ⟨RX2, "combine", "(LContractFrames$Frame;I)V"⟩
abbrev cX2_divide : ByteArray := prog_4_method_7_code
def yX2_divide : MethodName := ⟨RX2, "divide", "(LContractFrames$Frame;II)V"⟩
abbrev cX2_combined : ByteArray := prog_4_method_8_code
def yX2_combined : MethodName := ⟨RX2, "combined", "(III)I"⟩
abbrev cX2_arrange : ByteArray := prog_4_method_9_code
def yX2_arrange : MethodName := ⟨RX2, "arrange", "(LContractFrames$Frame;II)V"⟩
abbrev cX2_act : ByteArray := prog_4_method_10_code
def yX2_act : MethodName := ⟨RX2, "act", "(LContractFrames$Frame;III)V"⟩
abbrev cX2_tell : ByteArray := prog_4_method_11_code
def yX2_tell : MethodName := ⟨RX2, "tell", "(LContractFrames$Frame;III)V"⟩
abbrev cX2_send : ByteArray := prog_4_method_12_code
def yX2_send : MethodName := ⟨RX2, "send", "(LContractFrames$Frame;II)V"⟩
abbrev cX2_callOther : ByteArray := prog_4_method_13_code
def yX2_callOther : MethodName := ⟨RX2, "callOther", "(LContractFrames$Frame;IIII)V"⟩
abbrev cX2_whyNotEntered : ByteArray := prog_4_method_14_code
def yX2_whyNotEntered : MethodName := ⟨RX2, "whyNotEntered", "(LContractFrames$Frame;IIII)I"⟩
abbrev cX2_isGuardedInside : ByteArray := prog_4_method_15_code
def yX2_isGuardedInside : MethodName := ⟨RX2, "isGuardedInside", "(II)Z"⟩
abbrev cX2_answerGiven : ByteArray := prog_4_method_16_code
def yX2_answerGiven : MethodName := ⟨RX2, "answerGiven", "(LContractFrames$Frame;II)V"⟩
abbrev cX2_answerThrown : ByteArray := prog_4_method_17_code
def yX2_answerThrown : MethodName := ⟨RX2, "answerThrown", "(LContractFrames$Frame;II)V"⟩
def RX3 : String := "ContractFrames$Member"
def TX3 : u_T := fun k => match k with
  | 0 => ("ContractFrames$Member", "codes", "[I", true)
  | 1 => ("ContractFrames$Member", "firsts", "[I", true)
  | 2 => ("ContractFrames$Member", "seconds", "[I", true)
  | 3 => ("ContractFrames$Member", "size", "I", false)
  | _ => ("ContractFrames$Member", "guarded", "Z", false)
def tyX3 : Nat → FieldType := fun k => match k with
  | 0 => .array .int
  | 1 => .array .int
  | 2 => .array .int
  | 3 => .int
  | _ => .boolean
abbrev wsX30 : List Cond := u_ws RX3 TX3 5
theorem nmX3 : ∀ a, a < 5 → ∀ b, b < 5 → a ≠ b → (TX3 a).2.1 ≠ (TX3 b).2.1 := by decide +kernel
theorem tyX3_ok : ∀ k, k < 5 → parseFieldDescriptor (TX3 k).2.2.1 = some (tyX3 k) := by decide +kernel
abbrev cX3_init : ByteArray := prog_5_method_1_code
def yX3_init : MethodName := ⟨RX3, "<init>", "()V"⟩
abbrev cX3_append : ByteArray := prog_5_method_2_code
def yX3_append : MethodName := ⟨RX3, "append", "(III)V"⟩
def RX4 : String := "ContractFrames$Program"
def TX4 : u_T := fun k => match k with
  | 0 => ("ContractFrames$Program", "members", "[LContractFrames$Member;", true)
  | _ => ("ContractFrames$Program", "contracts", "I", false)
def tyX4 : Nat → FieldType := fun k => match k with
  | 0 => .array (.object "ContractFrames$Member")
  | _ => .int
abbrev wsX40 : List Cond := u_ws RX4 TX4 2
theorem nmX4 : ∀ a, a < 2 → ∀ b, b < 2 → a ≠ b → (TX4 a).2.1 ≠ (TX4 b).2.1 := by decide +kernel
theorem tyX4_ok : ∀ k, k < 2 → parseFieldDescriptor (TX4 k).2.2.1 = some (tyX4 k) := by decide +kernel
abbrev cX4_init : ByteArray := prog_6_method_1_code
def yX4_init : MethodName := ⟨RX4, "<init>", "()V"⟩
abbrev cX4_has : ByteArray := prog_6_method_2_code
def yX4_has : MethodName := ⟨RX4, "has", "(I)Z"⟩
abbrev cX4_memberOf : ByteArray := prog_6_method_3_code
def yX4_memberOf : MethodName := ⟨RX4, "memberOf", "(II)LContractFrames$Member;"⟩
abbrev cX4_stepsInAll : ByteArray := prog_6_method_4_code
def yX4_stepsInAll : MethodName := ⟨RX4, "stepsInAll", "()I"⟩
abbrev cX4_reset : ByteArray := prog_6_method_5_code
def yX4_reset : MethodName := ⟨RX4, "reset", "()V"⟩
def RX5 : String := "ContractFrames$Report"
def TX5 : u_T := fun k => match k with
  | 0 => ("ContractFrames$Report", "rows", "[I", true)
  | 1 => ("ContractFrames$Report", "made", "Z", false)
  | 2 => ("ContractFrames$Report", "threw", "Z", false)
  | 3 => ("ContractFrames$Report", "result", "I", false)
  | 4 => ("ContractFrames$Report", "used", "I", false)
  | 5 => ("ContractFrames$Report", "backToUser", "I", false)
  | 6 => ("ContractFrames$Report", "entered", "I", false)
  | 7 => ("ContractFrames$Report", "deepest", "I", false)
  | 8 => ("ContractFrames$Report", "callsThatGave", "I", false)
  | _ => ("ContractFrames$Report", "callsThatThrew", "I", false)
def tyX5 : Nat → FieldType := fun k => match k with
  | 0 => .array .int
  | 1 => .boolean
  | 2 => .boolean
  | 3 => .int
  | 4 => .int
  | 5 => .int
  | 6 => .int
  | 7 => .int
  | 8 => .int
  | _ => .int
abbrev wsX50 : List Cond := u_ws RX5 TX5 10
theorem nmX5 : ∀ a, a < 10 → ∀ b, b < 10 → a ≠ b → (TX5 a).2.1 ≠ (TX5 b).2.1 := by decide +kernel
theorem tyX5_ok : ∀ k, k < 10 → parseFieldDescriptor (TX5 k).2.2.1 = some (tyX5 k) := by decide +kernel
abbrev cX5_init : ByteArray := prog_7_method_1_code
def yX5_init : MethodName := ⟨RX5, "<init>", "()V"⟩
abbrev cX5_reset : ByteArray := prog_7_method_2_code
def yX5_reset : MethodName := ⟨RX5, "reset", "()V"⟩
abbrev cX5_startCall : ByteArray := prog_7_method_3_code
def yX5_startCall : MethodName := ⟨RX5, "startCall", "()V"⟩
abbrev cX5_rowsKept : ByteArray := prog_7_method_4_code
def yX5_rowsKept : MethodName := ⟨RX5, "rowsKept", "()I"⟩
abbrev cX5_enter : ByteArray := prog_7_method_5_code
def yX5_enter : MethodName := ⟨RX5, "enter", "(I)I"⟩
abbrev cX5_writeRow : ByteArray := prog_7_method_6_code
def yX5_writeRow : MethodName := ⟨RX5, "writeRow", "(ILContractFrames$Frame;I)V"⟩
abbrev cX5_endCall : ByteArray := prog_7_method_7_code
def yX5_endCall : MethodName := ⟨RX5, "endCall", "(LContractFrames$Frame;I)V"⟩
def RX6 : String := "ContractFrames$Snapshot"
def TX6 : u_T := fun k => match k with
  | 0 => ("ContractFrames$Snapshot", "stores", "[I", true)
  | 1 => ("ContractFrames$Snapshot", "purses", "[I", true)
  | 2 => ("ContractFrames$Snapshot", "events", "I", false)
  | _ => ("ContractFrames$Snapshot", "zeroings", "I", false)
def tyX6 : Nat → FieldType := fun k => match k with
  | 0 => .array .int
  | 1 => .array .int
  | 2 => .int
  | _ => .int
abbrev wsX60 : List Cond := u_ws RX6 TX6 4
theorem nmX6 : ∀ a, a < 4 → ∀ b, b < 4 → a ≠ b → (TX6 a).2.1 ≠ (TX6 b).2.1 := by decide +kernel
theorem tyX6_ok : ∀ k, k < 4 → parseFieldDescriptor (TX6 k).2.2.1 = some (tyX6 k) := by decide +kernel
abbrev cX6_init : ByteArray := prog_8_method_1_code
def yX6_init : MethodName := ⟨RX6, "<init>", "()V"⟩
abbrev cX6_keep : ByteArray := prog_8_method_2_code
def yX6_keep : MethodName := ⟨RX6, "keep", "(LContractFrames$World;)V"⟩
abbrev cX6_putBack : ByteArray := prog_8_method_3_code
def yX6_putBack : MethodName := ⟨RX6, "putBack", "(LContractFrames$World;)V"⟩
def RX7 : String := "ContractFrames$Thrown"
def TX7 : u_T := fun k => match k with
  | _ => ("", "", "", false)
def tyX7 : Nat → FieldType := fun k => match k with
  | _ => .int
abbrev wsX70 : List Cond := u_ws RX7 TX7 0
theorem nmX7 : ∀ a, a < 0 → ∀ b, b < 0 → a ≠ b → (TX7 a).2.1 ≠ (TX7 b).2.1 := by decide +kernel
theorem tyX7_ok : ∀ k, k < 0 → parseFieldDescriptor (TX7 k).2.2.1 = some (tyX7 k) := by decide +kernel
def RX8 : String := "ContractFrames$World"
def TX8 : u_T := fun k => match k with
  | 0 => ("ContractFrames$World", "stores", "[I", true)
  | 1 => ("ContractFrames$World", "purses", "[I", true)
  | 2 => ("ContractFrames$World", "eventRows", "[I", true)
  | 3 => ("ContractFrames$World", "events", "I", false)
  | _ => ("ContractFrames$World", "zeroings", "I", false)
def tyX8 : Nat → FieldType := fun k => match k with
  | 0 => .array .int
  | 1 => .array .int
  | 2 => .array .int
  | 3 => .int
  | _ => .int
abbrev wsX80 : List Cond := u_ws RX8 TX8 5
theorem nmX8 : ∀ a, a < 5 → ∀ b, b < 5 → a ≠ b → (TX8 a).2.1 ≠ (TX8 b).2.1 := by decide +kernel
theorem tyX8_ok : ∀ k, k < 5 → parseFieldDescriptor (TX8 k).2.2.1 = some (tyX8 k) := by decide +kernel
abbrev cX8_init : ByteArray := prog_10_method_1_code
def yX8_init : MethodName := ⟨RX8, "<init>", "()V"⟩
abbrev cX8_fillUsersPurses : ByteArray := prog_10_method_2_code
def yX8_fillUsersPurses : MethodName := ⟨RX8, "fillUsersPurses", "()V"⟩
abbrev cX8_reset : ByteArray := prog_10_method_3_code
def yX8_reset : MethodName := ⟨RX8, "reset", "()V"⟩
abbrev cX8_startCall : ByteArray := prog_10_method_4_code
def yX8_startCall : MethodName := ⟨RX8, "startCall", "()V"⟩
abbrev cX8_save : ByteArray := prog_10_method_5_code
def yX8_save : MethodName := ⟨RX8, "save", "(III)V"⟩
abbrev cX8_canPay : ByteArray := prog_10_method_6_code
def yX8_canPay : MethodName := ⟨RX8, "canPay", "(II)Z"⟩
abbrev cX8_move : ByteArray := prog_10_method_7_code
def yX8_move : MethodName := ⟨RX8, "move", "(III)V"⟩
abbrev cX8_addEvent : ByteArray := prog_10_method_8_code
def yX8_addEvent : MethodName := ⟨RX8, "addEvent", "(IIII)V"⟩
def RX9 : String := "ContractFrames"
def TX9 : u_T := fun k => match k with
  | 0 => ("ContractFrames", "program", "LContractFrames$Program;", true)
  | 1 => ("ContractFrames", "world", "LContractFrames$World;", true)
  | 2 => ("ContractFrames", "report", "LContractFrames$Report;", true)
  | _ => ("ContractFrames", "machine", "LContractFrames$Machine;", true)
def tyX9 : Nat → FieldType := fun k => match k with
  | 0 => .object "ContractFrames$Program"
  | 1 => .object "ContractFrames$World"
  | 2 => .object "ContractFrames$Report"
  | _ => .object "ContractFrames$Machine"
abbrev wsX90 : List Cond := u_ws RX9 TX9 4
theorem nmX9 : ∀ a, a < 4 → ∀ b, b < 4 → a ≠ b → (TX9 a).2.1 ≠ (TX9 b).2.1 := by decide +kernel
theorem tyX9_ok : ∀ k, k < 4 → parseFieldDescriptor (TX9 k).2.2.1 = some (tyX9 k) := by decide +kernel
abbrev cX9_init : ByteArray := prog_1_method_1_code
def yX9_init : MethodName := ⟨RX9, "<init>", "()V"⟩
abbrev cX9_contract : ByteArray := prog_1_method_2_code
def yX9_contract : MethodName := ⟨RX9, "contract", "()I"⟩
abbrev cX9_step : ByteArray := prog_1_method_3_code
def yX9_step : MethodName := ⟨RX9, "step", "(IIIII)I"⟩
abbrev cX9_empty : ByteArray := prog_1_method_4_code
def yX9_empty : MethodName := ⟨RX9, "empty", "(II)I"⟩
abbrev cX9_guard : ByteArray := prog_1_method_5_code
def yX9_guard : MethodName := ⟨RX9, "guard", "(IIZ)I"⟩
abbrev cX9_call : ByteArray := prog_1_method_6_code
def yX9_call : MethodName := ⟨RX9, "call", "(IIIIII)I"⟩
abbrev cX9_told : ByteArray := prog_1_method_7_code
def yX9_told : MethodName := ⟨RX9, "told", "(I)I"⟩
abbrev cX9_frame : ByteArray := prog_1_method_8_code
def yX9_frame : MethodName := ⟨RX9, "frame", "(II)I"⟩
abbrev cX9_event : ByteArray := prog_1_method_9_code
def yX9_event : MethodName := ⟨RX9, "event", "(II)I"⟩
abbrev cX9_store : ByteArray := prog_1_method_10_code
def yX9_store : MethodName := ⟨RX9, "store", "(II)I"⟩
abbrev cX9_coins : ByteArray := prog_1_method_11_code
def yX9_coins : MethodName := ⟨RX9, "coins", "(II)I"⟩
abbrev cX9_count : ByteArray := prog_1_method_12_code
def yX9_count : MethodName := ⟨RX9, "count", "(I)I"⟩
abbrev cX9_clear : ByteArray := prog_1_method_13_code
def yX9_clear : MethodName := ⟨RX9, "clear", "()I"⟩
abbrev cX9_refusedMember : ByteArray := prog_1_method_14_code
def yX9_refusedMember : MethodName := ⟨RX9, "refusedMember", "(II)I"⟩
abbrev cX9_refusedCall : ByteArray := prog_1_method_15_code
def yX9_refusedCall : MethodName := ⟨RX9, "refusedCall", "(IIIII)I"⟩
abbrev cX9_isUser : ByteArray := prog_1_method_16_code
def yX9_isUser : MethodName := ⟨RX9, "isUser", "(I)Z"⟩
abbrev cX9_within : ByteArray := prog_1_method_17_code
def yX9_within : MethodName := ⟨RX9, "within", "(III)Z"⟩
def RX10 : String := "ContractFramesModel"
def TX10 : u_T := fun k => match k with
  | 0 => ("ContractFramesModel", "contracts", "I", false)
  | 1 => ("ContractFramesModel", "userCoins", "[I", true)
  | 2 => ("ContractFramesModel", "contractCoins", "[I", true)
  | 3 => ("ContractFramesModel", "pot", "I", false)
  | 4 => ("ContractFramesModel", "stores", "[I", true)
  | 5 => ("ContractFramesModel", "lengths", "[I", true)
  | 6 => ("ContractFramesModel", "guarded", "[Z", true)
  | 7 => ("ContractFramesModel", "codes", "[I", true)
  | 8 => ("ContractFramesModel", "as", "[I", true)
  | 9 => ("ContractFramesModel", "bs", "[I", true)
  | 10 => ("ContractFramesModel", "gaveMany", "I", false)
  | 11 => ("ContractFramesModel", "threwMany", "I", false)
  | 12 => ("ContractFramesModel", "deep", "I", false)
  | 13 => ("ContractFramesModel", "fMember", "[I", true)
  | 14 => ("ContractFramesModel", "fArgument", "[I", true)
  | 15 => ("ContractFramesModel", "fValue", "[I", true)
  | 16 => ("ContractFramesModel", "fCaller", "[I", true)
  | 17 => ("ContractFramesModel", "fLimit", "[I", true)
  | 18 => ("ContractFramesModel", "fUsed", "[I", true)
  | 19 => ("ContractFramesModel", "fAt", "[I", true)
  | 20 => ("ContractFramesModel", "fHas", "[I", true)
  | 21 => ("ContractFramesModel", "fHow", "[I", true)
  | 22 => ("ContractFramesModel", "fRecord", "[I", true)
  | 23 => ("ContractFramesModel", "fReads", "[Z", true)
  | 24 => ("ContractFramesModel", "stack", "[I", true)
  | 25 => ("ContractFramesModel", "oldStores", "[I", true)
  | 26 => ("ContractFramesModel", "oldUsers", "[I", true)
  | 27 => ("ContractFramesModel", "oldContracts", "[I", true)
  | 28 => ("ContractFramesModel", "oldEvents", "[I", true)
  | 29 => ("ContractFramesModel", "oldFreed", "[I", true)
  | 30 => ("ContractFramesModel", "events", "I", false)
  | 31 => ("ContractFramesModel", "eContract", "[I", true)
  | 32 => ("ContractFramesModel", "eKind", "[I", true)
  | 33 => ("ContractFramesModel", "eValue", "[I", true)
  | 34 => ("ContractFramesModel", "eDeep", "[I", true)
  | 35 => ("ContractFramesModel", "freed", "I", false)
  | 36 => ("ContractFramesModel", "entered", "I", false)
  | 37 => ("ContractFramesModel", "deepest", "I", false)
  | 38 => ("ContractFramesModel", "rMember", "[I", true)
  | 39 => ("ContractFramesModel", "rDeep", "[I", true)
  | 40 => ("ContractFramesModel", "rUsed", "[I", true)
  | 41 => ("ContractFramesModel", "rThrew", "[I", true)
  | 42 => ("ContractFramesModel", "rGave", "[I", true)
  | 43 => ("ContractFramesModel", "rReads", "[Z", true)
  | 44 => ("ContractFramesModel", "hasCalled", "Z", false)
  | 45 => ("ContractFramesModel", "lastWhat", "I", false)
  | 46 => ("ContractFramesModel", "lastUsed", "I", false)
  | 47 => ("ContractFramesModel", "lastBack", "I", false)
  | _ => ("ContractFramesModel", "lastThrew", "I", false)
def tyX10 : Nat → FieldType := fun k => match k with
  | 0 => .int
  | 1 => .array .int
  | 2 => .array .int
  | 3 => .int
  | 4 => .array .int
  | 5 => .array .int
  | 6 => .array .boolean
  | 7 => .array .int
  | 8 => .array .int
  | 9 => .array .int
  | 10 => .int
  | 11 => .int
  | 12 => .int
  | 13 => .array .int
  | 14 => .array .int
  | 15 => .array .int
  | 16 => .array .int
  | 17 => .array .int
  | 18 => .array .int
  | 19 => .array .int
  | 20 => .array .int
  | 21 => .array .int
  | 22 => .array .int
  | 23 => .array .boolean
  | 24 => .array .int
  | 25 => .array .int
  | 26 => .array .int
  | 27 => .array .int
  | 28 => .array .int
  | 29 => .array .int
  | 30 => .int
  | 31 => .array .int
  | 32 => .array .int
  | 33 => .array .int
  | 34 => .array .int
  | 35 => .int
  | 36 => .int
  | 37 => .int
  | 38 => .array .int
  | 39 => .array .int
  | 40 => .array .int
  | 41 => .array .int
  | 42 => .array .int
  | 43 => .array .boolean
  | 44 => .boolean
  | 45 => .int
  | 46 => .int
  | 47 => .int
  | _ => .int
abbrev wsX100 : List Cond := u_ws RX10 TX10 49
theorem nmX10 : ∀ a, a < 49 → ∀ b, b < 49 → a ≠ b → (TX10 a).2.1 ≠ (TX10 b).2.1 := by decide +kernel
theorem tyX10_ok : ∀ k, k < 49 → parseFieldDescriptor (TX10 k).2.2.1 = some (tyX10 k) := by decide +kernel
abbrev cX10_init : ByteArray := prog_12_method_1_code
def yX10_init : MethodName := ⟨RX10, "<init>", "()V"⟩
abbrev cX10_in : ByteArray := prog_12_method_2_code
def yX10_in : MethodName := ⟨RX10, "in", "(III)Z"⟩
abbrev cX10_begin : ByteArray := prog_12_method_3_code
def yX10_begin : MethodName := ⟨RX10, "begin", "()V"⟩
abbrev cX10_contract : ByteArray := prog_12_method_4_code
def yX10_contract : MethodName := ⟨RX10, "contract", "()I"⟩
abbrev cX10_noContract : ByteArray := prog_12_method_5_code
def yX10_noContract : MethodName := ⟨RX10, "noContract", "(I)Z"⟩
abbrev cX10_isCode : ByteArray := prog_12_method_6_code
def yX10_isCode : MethodName := ⟨RX10, "isCode", "(III)Z"⟩
abbrev cX10_step : ByteArray := prog_12_method_7_code
def yX10_step : MethodName := ⟨RX10, "step", "(IIIII)I"⟩
abbrev cX10_empty : ByteArray := prog_12_method_8_code
def yX10_empty : MethodName := ⟨RX10, "empty", "(II)I"⟩
abbrev cX10_guard : ByteArray := prog_12_method_9_code
def yX10_guard : MethodName := ⟨RX10, "guard", "(IIZ)I"⟩
abbrev cX10_hold : ByteArray := prog_12_method_10_code
def yX10_hold : MethodName := ⟨RX10, "hold", "(I)V"⟩
abbrev cX10_undo : ByteArray := prog_12_method_11_code
def yX10_undo : MethodName := ⟨RX10, "undo", "(I)V"⟩
abbrev cX10_enter : ByteArray := prog_12_method_12_code
def yX10_enter : MethodName := ⟨RX10, "enter", "(IIIIIIZ)V"⟩
abbrev cX10_push : ByteArray := prog_12_method_13_code
def yX10_push : MethodName := ⟨RX10, "push", "(II)V"⟩
abbrev cX10_pop : ByteArray := prog_12_method_14_code
def yX10_pop : MethodName := ⟨RX10, "pop", "(I)I"⟩
abbrev cX10_takes : ByteArray := prog_12_method_15_code
def yX10_takes : MethodName := ⟨RX10, "takes", "(I)I"⟩
abbrev cX10_leaves : ByteArray := prog_12_method_16_code
def yX10_leaves : MethodName := ⟨RX10, "leaves", "(I)I"⟩
abbrev cX10_ends : ByteArray := prog_12_method_17_code
def yX10_ends : MethodName := ⟨RX10, "ends", "(II)V"⟩
abbrev cX10_gives : ByteArray := prog_12_method_18_code
def yX10_gives : MethodName := ⟨RX10, "gives", "(III)I"⟩
abbrev cX10_reckon : ByteArray := prog_12_method_19_code
def yX10_reckon : MethodName := ⟨RX10, "reckon", "(II)V"⟩
abbrev cX10_save : ByteArray := prog_12_method_20_code
def yX10_save : MethodName := ⟨RX10, "save", "(II)V"⟩
abbrev cX10_tell : ByteArray := prog_12_method_21_code
def yX10_tell : MethodName := ⟨RX10, "tell", "(II)V"⟩
abbrev cX10_send : ByteArray := prog_12_method_22_code
def yX10_send : MethodName := ⟨RX10, "send", "(II)V"⟩
abbrev cX10_shut : ByteArray := prog_12_method_23_code
def yX10_shut : MethodName := ⟨RX10, "shut", "(IIII)I"⟩
abbrev cX10_callOut : ByteArray := prog_12_method_24_code
def yX10_callOut : MethodName := ⟨RX10, "callOut", "(IIII)V"⟩
abbrev cX10_act : ByteArray := prog_12_method_25_code
def yX10_act : MethodName := ⟨RX10, "act", "(IIII)V"⟩
abbrev cX10_oneStep : ByteArray := prog_12_method_26_code
def yX10_oneStep : MethodName := ⟨RX10, "oneStep", "()V"⟩
abbrev cX10_call : ByteArray := prog_12_method_27_code
def yX10_call : MethodName := ⟨RX10, "call", "(IIIIII)I"⟩
abbrev cX10_told : ByteArray := prog_12_method_28_code
def yX10_told : MethodName := ⟨RX10, "told", "(I)I"⟩
abbrev cX10_frame : ByteArray := prog_12_method_29_code
def yX10_frame : MethodName := ⟨RX10, "frame", "(II)I"⟩
abbrev cX10_event : ByteArray := prog_12_method_30_code
def yX10_event : MethodName := ⟨RX10, "event", "(II)I"⟩
abbrev cX10_store : ByteArray := prog_12_method_31_code
def yX10_store : MethodName := ⟨RX10, "store", "(II)I"⟩
abbrev cX10_coins : ByteArray := prog_12_method_32_code
def yX10_coins : MethodName := ⟨RX10, "coins", "(II)I"⟩
abbrev cX10_count : ByteArray := prog_12_method_33_code
def yX10_count : MethodName := ⟨RX10, "count", "(I)I"⟩
abbrev cX10_clear : ByteArray := prog_12_method_34_code
def yX10_clear : MethodName := ⟨RX10, "clear", "()I"⟩
def RJ9 : String := "java/lang/Math"
def TJ9 : u_T := fun k => match k with
  | _ => ("", "", "", false)
def tyJ9 : Nat → FieldType := fun k => match k with
  | _ => .int
abbrev wsJ90 : List Cond := u_ws RJ9 TJ9 0
theorem nmJ9 : ∀ a, a < 0 → ∀ b, b < 0 → a ≠ b → (TJ9 a).2.1 ≠ (TJ9 b).2.1 := by decide +kernel
theorem tyJ9_ok : ∀ k, k < 0 → parseFieldDescriptor (TJ9 k).2.2.1 = some (tyJ9 k) := by decide +kernel
abbrev cJ9_max_7cf53 : ByteArray := prog_13_method_65_code
def yJ9_max_7cf53 : MethodName := ⟨RJ9, "max", "(II)I"⟩
abbrev cJ9_min_7cf53 : ByteArray := prog_13_method_69_code
def yJ9_min_7cf53 : MethodName := ⟨RJ9, "min", "(II)I"⟩
def RJ10 : String := "java/lang/System"
def TJ10 : u_T := fun k => match k with
  | _ => ("", "", "", false)
def tyJ10 : Nat → FieldType := fun k => match k with
  | _ => .int
abbrev wsJ100 : List Cond := u_ws RJ10 TJ10 0
theorem nmJ10 : ∀ a, a < 0 → ∀ b, b < 0 → a ≠ b → (TJ10 a).2.1 ≠ (TJ10 b).2.1 := by decide +kernel
theorem tyJ10_ok : ∀ k, k < 0 → parseFieldDescriptor (TJ10 k).2.2.1 = some (tyJ10 k) := by decide +kernel
def RJ7 : String := "java/util/Arrays"
def TJ7 : u_T := fun k => match k with
  | _ => ("", "", "", false)
def tyJ7 : Nat → FieldType := fun k => match k with
  | _ => .int
abbrev wsJ70 : List Cond := u_ws RJ7 TJ7 0
theorem nmJ7 : ∀ a, a < 0 → ∀ b, b < 0 → a ≠ b → (TJ7 a).2.1 ≠ (TJ7 b).2.1 := by decide +kernel
theorem tyJ7_ok : ∀ k, k < 0 → parseFieldDescriptor (TJ7 k).2.2.1 = some (tyJ7 k) := by decide +kernel
abbrev cJ7_rangeCheck_23922 : ByteArray := prog_15_method_30_code
def yJ7_rangeCheck_23922 : MethodName := ⟨RJ7, "rangeCheck", "(III)V"⟩
abbrev cJ7_fill_53178 : ByteArray := prog_15_method_103_code
def yJ7_fill_53178 : MethodName := ⟨RJ7, "fill", "([II)V"⟩
abbrev cJ7_fill_fda19 : ByteArray := prog_15_method_104_code
def yJ7_fill_fda19 : MethodName := ⟨RJ7, "fill", "([IIII)V"⟩
def RL : String := "ContractFramesLaw"
abbrev cL_law : ByteArray := code
def yL_law : MethodName := ⟨RL, "law", "([I)Z"⟩
abbrev vwCl : List vw_C := [(RX1, TX1, 14), (RX2, TX2, 5), (RX3, TX3, 5), (RX4, TX4, 2), (RX5, TX5, 10), (RX6, TX6, 4), (RX8, TX8, 5), (RX9, TX9, 4), (RX10, TX10, 49)]
end
section
/-! the words that every method may use -/
def qx_BW : List Cond := lw_tbl.filter goodWord
theorem qx_in {w : Cond} {i : Nat} (h : lw_tbl[i]? = some w) (hg : goodWord w = true) : w ∈ qx_BW := List.mem_filter.mpr ⟨List.mem_of_getElem? h, hg⟩
theorem qx_ins {ws : List Cond} (ps : List Nat) (h : ws = ps.filterMap (fun i => lw_tbl[i]?)) (hg : ws.all goodWord = true) : ∀ w ∈ ws, w ∈ qx_BW := by
  intro w hw
  have h1 := List.all_eq_true.mp hg w hw
  rw [h] at hw
  obtain ⟨i, -, hi⟩ := List.mem_filterMap.mp hw
  exact qx_in hi h1
set_option maxRecDepth 100000 in
theorem inlX1 : ∀ w ∈ wsX10, w ∈ qx_BW := qx_ins [232, 234, 236, 238, 240, 242, 244, 246, 248, 250, 252, 254, 256, 258] rfl rfl
set_option maxRecDepth 100000 in
theorem inlX2 : ∀ w ∈ wsX20, w ∈ qx_BW := qx_ins [284, 286, 288, 290, 292] rfl rfl
set_option maxRecDepth 100000 in
theorem inlX3 : ∀ w ∈ wsX30, w ∈ qx_BW := qx_ins [77, 79, 81, 83, 85] rfl rfl
set_option maxRecDepth 100000 in
theorem inlX4 : ∀ w ∈ wsX40, w ∈ qx_BW := qx_ins [92, 94] rfl rfl
set_option maxRecDepth 100000 in
theorem inlX5 : ∀ w ∈ wsX50, w ∈ qx_BW := qx_ins [167, 169, 171, 173, 175, 177, 179, 181, 183, 185] rfl rfl
set_option maxRecDepth 100000 in
theorem inlX6 : ∀ w ∈ wsX60, w ∈ qx_BW := qx_ins [270, 272, 274, 276] rfl rfl
set_option maxRecDepth 100000 in
theorem inlX8 : ∀ w ∈ wsX80, w ∈ qx_BW := qx_ins [130, 132, 134, 136, 138] rfl rfl
set_option maxRecDepth 100000 in
theorem inlX9 : ∀ w ∈ wsX90, w ∈ qx_BW := qx_ins [299, 301, 303, 305] rfl rfl
set_option maxRecDepth 100000 in
theorem inlX10 : ∀ w ∈ wsX100, w ∈ qx_BW := qx_ins [625, 627, 629, 631, 633, 635, 637, 639, 641, 643, 645, 647, 649, 651, 653, 655, 657, 659, 661, 663, 665, 667, 669, 671, 673, 675, 677, 679, 681, 683, 685, 687, 689, 691, 693, 695, 697, 699, 701, 703, 705, 707, 709, 711, 713, 715, 717, 719, 721] rfl rfl
/-! families of cells and their shapes -/
abbrev qx_Sh : Type := (Nat × List (Option Nat)) ⊕ (Nat × Nat) ⊕ (Nat × Nat × Nat)
def qx_shL : List qx_Sh := [.inl (7, [some 1, some 3, some 7, some 9]), .inl (3, [some 2, none]), .inr (.inr (2, 32, 17)), .inl (6, [some 4, some 5, some 6, none, none]), .inr (.inl (0, 64)), .inr (.inl (0, 13)), .inr (.inl (0, 240)), .inl (4, [some 8, none, none, none, none, none, none, none, none, none]), .inr (.inl (0, 280)), .inl (1, [some 1, some 3, some 7, some 10, some 11]), .inr (.inr (3, 8, 12)), .inr (.inr (4, 8, 14)), .inl (0, [some 13, none, none, none, none, none, none, none, none, none, none, none, none, none]), .inr (.inl (0, 8)), .inl (5, [some 15, some 16, none, none]), .inr (.inl (0, 64)), .inr (.inl (0, 13)), .inl (2, [some 18, some 19, some 20, none, none]), .inr (.inl (0, 20)), .inr (.inl (0, 20)), .inr (.inl (0, 20)), .inr (.inl (0, 0)), .inr (.inl (0, 0)), .inr (.inl (0, 0)), .inr (.inl (0, 0)), .inr (.inl (0, 0)), .inr (.inl (0, 0)), .inr (.inl (0, 0)), .inr (.inl (0, 0)), .inr (.inl (0, 0)), .inl (8, [none, some 31, some 32, none, some 33, some 34, some 35, some 36, some 37, some 38, none, none, none, some 39, some 40, some 41, some 42, some 43, some 44, some 45, some 46, some 47, some 48, some 49, some 50, some 51, some 52, some 53, some 54, some 55, none, some 56, some 57, some 58, some 59, none, none, none, some 60, some 61, some 62, some 63, some 64, some 65, none, none, none, none, none]), .inr (.inl (0, 4)), .inr (.inl (0, 8)), .inr (.inl (0, 64)), .inr (.inl (0, 32)), .inr (.inl (1, 32)), .inr (.inl (0, 640)), .inr (.inl (0, 640)), .inr (.inl (0, 640)), .inr (.inl (0, 8)), .inr (.inl (0, 8)), .inr (.inl (0, 8)), .inr (.inl (0, 8)), .inr (.inl (0, 8)), .inr (.inl (0, 8)), .inr (.inl (0, 8)), .inr (.inl (0, 8)), .inr (.inl (0, 8)), .inr (.inl (0, 8)), .inr (.inl (1, 8)), .inr (.inl (0, 64)), .inr (.inl (0, 512)), .inr (.inl (0, 32)), .inr (.inl (0, 64)), .inr (.inl (0, 8)), .inr (.inl (0, 8)), .inr (.inl (0, 60)), .inr (.inl (0, 60)), .inr (.inl (0, 60)), .inr (.inl (0, 60)), .inr (.inl (0, 40)), .inr (.inl (0, 40)), .inr (.inl (0, 40)), .inr (.inl (0, 40)), .inr (.inl (0, 40)), .inr (.inl (1, 40))]
def qx_sh (f : Nat) : qx_Sh := qx_shL.getD f (.inr (.inl (0, 0)))
def qx_cntL : List Nat := [1, 1, 1, 1, 1, 1, 1, 1, 1, 1, 1, 1, 8, 8, 8, 8, 8, 32, 32, 32, 32, 0, 0, 0, 0, 0, 0, 0, 0, 0, 1, 1, 1, 1, 1, 1, 1, 1, 1, 1, 1, 1, 1, 1, 1, 1, 1, 1, 1, 1, 1, 1, 1, 1, 1, 1, 1, 1, 1, 1, 1, 1, 1, 1, 1, 1]
def qx_cnt (f : Nat) : Nat := qx_cntL.getD f 0
def qx_cells : List (Nat × Nat) := (List.range 66).flatMap (fun f => (List.range (qx_cnt f)).map (fun i => (f, i)))
theorem qx_cells_mem {f i : Nat} (hf : f < 66) (h : i < qx_cnt f) : (f, i) ∈ qx_cells := List.mem_flatMap.mpr ⟨f, List.mem_range.mpr hf, List.mem_map.mpr ⟨i, List.mem_range.mpr h, rfl⟩⟩
/-- a class of the worlds, by its number -/
def qx_CP (ci : Nat) (C : String) (T : u_T) (N : Nat) (ty : Nat → FieldType) : Prop := vwCl[ci]? = some (C, T, N) ∧ (∀ w ∈ u_ws C T N, w ∈ qx_BW) ∧ (∀ k, k < N → parseFieldDescriptor (T k).2.2.1 = some (ty k)) ∧ ∀ a, a < N → ∀ b, b < N → a ≠ b → (T a).2.1 ≠ (T b).2.1
theorem qx_cpX1 : qx_CP 0 RX1 TX1 14 tyX1 := ⟨rfl, inlX1, tyX1_ok, nmX1⟩
theorem qx_cpX2 : qx_CP 1 RX2 TX2 5 tyX2 := ⟨rfl, inlX2, tyX2_ok, nmX2⟩
theorem qx_cpX3 : qx_CP 2 RX3 TX3 5 tyX3 := ⟨rfl, inlX3, tyX3_ok, nmX3⟩
theorem qx_cpX4 : qx_CP 3 RX4 TX4 2 tyX4 := ⟨rfl, inlX4, tyX4_ok, nmX4⟩
theorem qx_cpX5 : qx_CP 4 RX5 TX5 10 tyX5 := ⟨rfl, inlX5, tyX5_ok, nmX5⟩
theorem qx_cpX6 : qx_CP 5 RX6 TX6 4 tyX6 := ⟨rfl, inlX6, tyX6_ok, nmX6⟩
theorem qx_cpX8 : qx_CP 6 RX8 TX8 5 tyX8 := ⟨rfl, inlX8, tyX8_ok, nmX8⟩
theorem qx_cpX9 : qx_CP 7 RX9 TX9 4 tyX9 := ⟨rfl, inlX9, tyX9_ok, nmX9⟩
theorem qx_cpX10 : qx_CP 8 RX10 TX10 49 tyX10 := ⟨rfl, inlX10, tyX10_ok, nmX10⟩
/-- field entry idx of class own: slot j of family f, which holds an int (tg none) or a reference to family tg -/
def qx_FG (own : String) (idx f j : Nat) (tg : Option Nat) : Prop := ∃ (ci : Nat) (sl : List (Option Nat)) (C : String) (T : u_T) (N : Nat) (ty : Nat → FieldType), qx_sh f = .inl (ci, sl) ∧ qx_CP ci C T N ty ∧ sl.length = N ∧ sl[j]? = some tg ∧ Cond.fieldLink own idx (T j).1 (T j).2.1 (T j).2.2.1 ∈ qx_BW
/-- the same for a putfield: of type t, not final -/
def qx_FP (own : String) (idx f j : Nat) (t : FieldType) : Prop := ∃ (ci : Nat) (sl : List (Option Nat)) (C : String) (T : u_T) (N : Nat) (ty : Nat → FieldType), qx_sh f = .inl (ci, sl) ∧ qx_CP ci C T N ty ∧ sl.length = N ∧ sl[j]? = some none ∧ Cond.fieldLink own idx (T j).1 (T j).2.1 (T j).2.2.1 ∈ qx_BW ∧ (T j).2.2.2 = false ∧ parseFieldDescriptor (T j).2.2.1 = some t
/-- the same for a putfield of a final reference in a constructor -/
def qx_FF (own : String) (idx f j : Nat) (tg : Nat) : Prop := ∃ (ci : Nat) (sl : List (Option Nat)) (C : String) (T : u_T) (N : Nat) (ty : Nat → FieldType) (t : FieldType), qx_sh f = .inl (ci, sl) ∧ qx_CP ci C T N ty ∧ sl.length = N ∧ sl[j]? = some (some tg) ∧ Cond.fieldLink own idx (T j).1 (T j).2.1 (T j).2.2.1 ∈ qx_BW ∧ (T j).2.2.2 = true ∧ (T j).1 = own ∧ parseFieldDescriptor (T j).2.2.1 = some t ∧ (∀ a : Nat, narrow t (.ref a) = .ref a) ∧ ∀ a : Nat, fits t (.ref a) = true
set_option maxRecDepth 100000 in
theorem qx_wfRX9_10 : Cond.fieldLink RX9 10 "ContractFrames" "program" "LContractFrames$Program;" ∈ qx_BW := qx_in (i := 295) rfl rfl
theorem qx_gRX9_10 : qx_FG RX9 10 0 0 (some 1) := ⟨_, _, _, _, _, _, rfl, qx_cpX9, rfl, rfl, qx_wfRX9_10⟩
theorem qx_fRX9_10 : qx_FF RX9 10 0 0 1 := ⟨_, _, _, _, _, _, tyX9 0, rfl, qx_cpX9, rfl, rfl, qx_wfRX9_10, rfl, rfl, by decide +kernel, fun _ => rfl, fun _ => rfl⟩
set_option maxRecDepth 100000 in
theorem qx_wfRX9_19 : Cond.fieldLink RX9 19 "ContractFrames" "world" "LContractFrames$World;" ∈ qx_BW := qx_in (i := 296) rfl rfl
theorem qx_gRX9_19 : qx_FG RX9 19 0 1 (some 3) := ⟨_, _, _, _, _, _, rfl, qx_cpX9, rfl, rfl, qx_wfRX9_19⟩
theorem qx_fRX9_19 : qx_FF RX9 19 0 1 3 := ⟨_, _, _, _, _, _, tyX9 1, rfl, qx_cpX9, rfl, rfl, qx_wfRX9_19, rfl, rfl, by decide +kernel, fun _ => rfl, fun _ => rfl⟩
set_option maxRecDepth 100000 in
theorem qx_wfRX9_26 : Cond.fieldLink RX9 26 "ContractFrames" "report" "LContractFrames$Report;" ∈ qx_BW := qx_in (i := 297) rfl rfl
theorem qx_gRX9_26 : qx_FG RX9 26 0 2 (some 7) := ⟨_, _, _, _, _, _, rfl, qx_cpX9, rfl, rfl, qx_wfRX9_26⟩
theorem qx_fRX9_26 : qx_FF RX9 26 0 2 7 := ⟨_, _, _, _, _, _, tyX9 2, rfl, qx_cpX9, rfl, rfl, qx_wfRX9_26, rfl, rfl, by decide +kernel, fun _ => rfl, fun _ => rfl⟩
set_option maxRecDepth 100000 in
theorem qx_wfRX9_35 : Cond.fieldLink RX9 35 "ContractFrames" "machine" "LContractFrames$Machine;" ∈ qx_BW := qx_in (i := 298) rfl rfl
theorem qx_gRX9_35 : qx_FG RX9 35 0 3 (some 9) := ⟨_, _, _, _, _, _, rfl, qx_cpX9, rfl, rfl, qx_wfRX9_35⟩
theorem qx_fRX9_35 : qx_FF RX9 35 0 3 9 := ⟨_, _, _, _, _, _, tyX9 3, rfl, qx_cpX9, rfl, rfl, qx_wfRX9_35, rfl, rfl, by decide +kernel, fun _ => rfl, fun _ => rfl⟩
set_option maxRecDepth 100000 in
theorem qx_wfRX4_11 : Cond.fieldLink RX4 11 "ContractFrames$Program" "members" "[LContractFrames$Member;" ∈ qx_BW := qx_in (i := 89) rfl rfl
theorem qx_gRX4_11 : qx_FG RX4 11 1 0 (some 2) := ⟨_, _, _, _, _, _, rfl, qx_cpX4, rfl, rfl, qx_wfRX4_11⟩
theorem qx_fRX4_11 : qx_FF RX4 11 1 0 2 := ⟨_, _, _, _, _, _, tyX4 0, rfl, qx_cpX4, rfl, rfl, qx_wfRX4_11, rfl, rfl, by decide +kernel, fun _ => rfl, fun _ => rfl⟩
set_option maxRecDepth 100000 in
theorem qx_wfRX3_9 : Cond.fieldLink RX3 9 "ContractFrames$Member" "codes" "[I" ∈ qx_BW := qx_in (i := 64) rfl rfl
theorem qx_gRX3_9 : qx_FG RX3 9 17 0 (some 18) := ⟨_, _, _, _, _, _, rfl, qx_cpX3, rfl, rfl, qx_wfRX3_9⟩
theorem qx_fRX3_9 : qx_FF RX3 9 17 0 18 := ⟨_, _, _, _, _, _, tyX3 0, rfl, qx_cpX3, rfl, rfl, qx_wfRX3_9, rfl, rfl, by decide +kernel, fun _ => rfl, fun _ => rfl⟩
set_option maxRecDepth 100000 in
theorem qx_wfRX3_15 : Cond.fieldLink RX3 15 "ContractFrames$Member" "firsts" "[I" ∈ qx_BW := qx_in (i := 66) rfl rfl
theorem qx_gRX3_15 : qx_FG RX3 15 17 1 (some 19) := ⟨_, _, _, _, _, _, rfl, qx_cpX3, rfl, rfl, qx_wfRX3_15⟩
theorem qx_fRX3_15 : qx_FF RX3 15 17 1 19 := ⟨_, _, _, _, _, _, tyX3 1, rfl, qx_cpX3, rfl, rfl, qx_wfRX3_15, rfl, rfl, by decide +kernel, fun _ => rfl, fun _ => rfl⟩
set_option maxRecDepth 100000 in
theorem qx_wfRX3_18 : Cond.fieldLink RX3 18 "ContractFrames$Member" "seconds" "[I" ∈ qx_BW := qx_in (i := 68) rfl rfl
theorem qx_gRX3_18 : qx_FG RX3 18 17 2 (some 20) := ⟨_, _, _, _, _, _, rfl, qx_cpX3, rfl, rfl, qx_wfRX3_18⟩
theorem qx_fRX3_18 : qx_FF RX3 18 17 2 20 := ⟨_, _, _, _, _, _, tyX3 2, rfl, qx_cpX3, rfl, rfl, qx_wfRX3_18, rfl, rfl, by decide +kernel, fun _ => rfl, fun _ => rfl⟩
set_option maxRecDepth 100000 in
theorem qx_wfRX8_11 : Cond.fieldLink RX8 11 "ContractFrames$World" "stores" "[I" ∈ qx_BW := qx_in (i := 113) rfl rfl
theorem qx_gRX8_11 : qx_FG RX8 11 3 0 (some 4) := ⟨_, _, _, _, _, _, rfl, qx_cpX8, rfl, rfl, qx_wfRX8_11⟩
theorem qx_fRX8_11 : qx_FF RX8 11 3 0 4 := ⟨_, _, _, _, _, _, tyX8 0, rfl, qx_cpX8, rfl, rfl, qx_wfRX8_11, rfl, rfl, by decide +kernel, fun _ => rfl, fun _ => rfl⟩
set_option maxRecDepth 100000 in
theorem qx_wfRX8_15 : Cond.fieldLink RX8 15 "ContractFrames$World" "purses" "[I" ∈ qx_BW := qx_in (i := 117) rfl rfl
theorem qx_gRX8_15 : qx_FG RX8 15 3 1 (some 5) := ⟨_, _, _, _, _, _, rfl, qx_cpX8, rfl, rfl, qx_wfRX8_15⟩
theorem qx_fRX8_15 : qx_FF RX8 15 3 1 5 := ⟨_, _, _, _, _, _, tyX8 1, rfl, qx_cpX8, rfl, rfl, qx_wfRX8_15, rfl, rfl, by decide +kernel, fun _ => rfl, fun _ => rfl⟩
set_option maxRecDepth 100000 in
theorem qx_wfRX8_18 : Cond.fieldLink RX8 18 "ContractFrames$World" "eventRows" "[I" ∈ qx_BW := qx_in (i := 121) rfl rfl
theorem qx_gRX8_18 : qx_FG RX8 18 3 2 (some 6) := ⟨_, _, _, _, _, _, rfl, qx_cpX8, rfl, rfl, qx_wfRX8_18⟩
theorem qx_fRX8_18 : qx_FF RX8 18 3 2 6 := ⟨_, _, _, _, _, _, tyX8 2, rfl, qx_cpX8, rfl, rfl, qx_wfRX8_18, rfl, rfl, by decide +kernel, fun _ => rfl, fun _ => rfl⟩
set_option maxRecDepth 100000 in
theorem qx_wfRX5_9 : Cond.fieldLink RX5 9 "ContractFrames$Report" "rows" "[I" ∈ qx_BW := qx_in (i := 147) rfl rfl
theorem qx_gRX5_9 : qx_FG RX5 9 7 0 (some 8) := ⟨_, _, _, _, _, _, rfl, qx_cpX5, rfl, rfl, qx_wfRX5_9⟩
theorem qx_fRX5_9 : qx_FF RX5 9 7 0 8 := ⟨_, _, _, _, _, _, tyX5 0, rfl, qx_cpX5, rfl, rfl, qx_wfRX5_9, rfl, rfl, by decide +kernel, fun _ => rfl, fun _ => rfl⟩
set_option maxRecDepth 100000 in
theorem qx_wfRX2_11 : Cond.fieldLink RX2 11 "ContractFrames$Machine" "frames" "[LContractFrames$Frame;" ∈ qx_BW := qx_in (i := 282) rfl rfl
theorem qx_gRX2_11 : qx_FG RX2 11 9 3 (some 10) := ⟨_, _, _, _, _, _, rfl, qx_cpX2, rfl, rfl, qx_wfRX2_11⟩
theorem qx_fRX2_11 : qx_FF RX2 11 9 3 10 := ⟨_, _, _, _, _, _, tyX2 3, rfl, qx_cpX2, rfl, rfl, qx_wfRX2_11, rfl, rfl, by decide +kernel, fun _ => rfl, fun _ => rfl⟩
set_option maxRecDepth 100000 in
theorem qx_wfRX2_19 : Cond.fieldLink RX2 19 "ContractFrames$Machine" "snapshots" "[LContractFrames$Snapshot;" ∈ qx_BW := qx_in (i := 283) rfl rfl
theorem qx_gRX2_19 : qx_FG RX2 19 9 4 (some 11) := ⟨_, _, _, _, _, _, rfl, qx_cpX2, rfl, rfl, qx_wfRX2_19⟩
theorem qx_fRX2_19 : qx_FF RX2 19 9 4 11 := ⟨_, _, _, _, _, _, tyX2 4, rfl, qx_cpX2, rfl, rfl, qx_wfRX2_19, rfl, rfl, by decide +kernel, fun _ => rfl, fun _ => rfl⟩
set_option maxRecDepth 100000 in
theorem qx_wfRX2_23 : Cond.fieldLink RX2 23 "ContractFrames$Machine" "program" "LContractFrames$Program;" ∈ qx_BW := qx_in (i := 279) rfl rfl
theorem qx_gRX2_23 : qx_FG RX2 23 9 0 (some 1) := ⟨_, _, _, _, _, _, rfl, qx_cpX2, rfl, rfl, qx_wfRX2_23⟩
theorem qx_fRX2_23 : qx_FF RX2 23 9 0 1 := ⟨_, _, _, _, _, _, tyX2 0, rfl, qx_cpX2, rfl, rfl, qx_wfRX2_23, rfl, rfl, by decide +kernel, fun _ => rfl, fun _ => rfl⟩
set_option maxRecDepth 100000 in
theorem qx_wfRX2_27 : Cond.fieldLink RX2 27 "ContractFrames$Machine" "world" "LContractFrames$World;" ∈ qx_BW := qx_in (i := 280) rfl rfl
theorem qx_gRX2_27 : qx_FG RX2 27 9 1 (some 3) := ⟨_, _, _, _, _, _, rfl, qx_cpX2, rfl, rfl, qx_wfRX2_27⟩
theorem qx_fRX2_27 : qx_FF RX2 27 9 1 3 := ⟨_, _, _, _, _, _, tyX2 1, rfl, qx_cpX2, rfl, rfl, qx_wfRX2_27, rfl, rfl, by decide +kernel, fun _ => rfl, fun _ => rfl⟩
set_option maxRecDepth 100000 in
theorem qx_wfRX2_31 : Cond.fieldLink RX2 31 "ContractFrames$Machine" "report" "LContractFrames$Report;" ∈ qx_BW := qx_in (i := 281) rfl rfl
theorem qx_gRX2_31 : qx_FG RX2 31 9 2 (some 7) := ⟨_, _, _, _, _, _, rfl, qx_cpX2, rfl, rfl, qx_wfRX2_31⟩
theorem qx_fRX2_31 : qx_FF RX2 31 9 2 7 := ⟨_, _, _, _, _, _, tyX2 2, rfl, qx_cpX2, rfl, rfl, qx_wfRX2_31, rfl, rfl, by decide +kernel, fun _ => rfl, fun _ => rfl⟩
set_option maxRecDepth 100000 in
theorem qx_wfRX1_9 : Cond.fieldLink RX1 9 "ContractFrames$Frame" "stack" "[I" ∈ qx_BW := qx_in (i := 203) rfl rfl
theorem qx_gRX1_9 : qx_FG RX1 9 12 0 (some 13) := ⟨_, _, _, _, _, _, rfl, qx_cpX1, rfl, rfl, qx_wfRX1_9⟩
theorem qx_fRX1_9 : qx_FF RX1 9 12 0 13 := ⟨_, _, _, _, _, _, tyX1 0, rfl, qx_cpX1, rfl, rfl, qx_wfRX1_9, rfl, rfl, by decide +kernel, fun _ => rfl, fun _ => rfl⟩
set_option maxRecDepth 100000 in
theorem qx_wfRX6_9 : Cond.fieldLink RX6 9 "ContractFrames$Snapshot" "stores" "[I" ∈ qx_BW := qx_in (i := 266) rfl rfl
theorem qx_gRX6_9 : qx_FG RX6 9 14 0 (some 15) := ⟨_, _, _, _, _, _, rfl, qx_cpX6, rfl, rfl, qx_wfRX6_9⟩
theorem qx_fRX6_9 : qx_FF RX6 9 14 0 15 := ⟨_, _, _, _, _, _, tyX6 0, rfl, qx_cpX6, rfl, rfl, qx_wfRX6_9, rfl, rfl, by decide +kernel, fun _ => rfl, fun _ => rfl⟩
set_option maxRecDepth 100000 in
theorem qx_wfRX6_17 : Cond.fieldLink RX6 17 "ContractFrames$Snapshot" "purses" "[I" ∈ qx_BW := qx_in (i := 267) rfl rfl
theorem qx_gRX6_17 : qx_FG RX6 17 14 1 (some 16) := ⟨_, _, _, _, _, _, rfl, qx_cpX6, rfl, rfl, qx_wfRX6_17⟩
theorem qx_fRX6_17 : qx_FF RX6 17 14 1 16 := ⟨_, _, _, _, _, _, tyX6 1, rfl, qx_cpX6, rfl, rfl, qx_wfRX6_17, rfl, rfl, by decide +kernel, fun _ => rfl, fun _ => rfl⟩
set_option maxRecDepth 100000 in
theorem qx_wfRX10_7 : Cond.fieldLink RX10 7 "ContractFramesModel" "userCoins" "[I" ∈ qx_BW := qx_in (i := 577) rfl rfl
theorem qx_gRX10_7 : qx_FG RX10 7 30 1 (some 31) := ⟨_, _, _, _, _, _, rfl, qx_cpX10, rfl, rfl, qx_wfRX10_7⟩
theorem qx_fRX10_7 : qx_FF RX10 7 30 1 31 := ⟨_, _, _, _, _, _, tyX10 1, rfl, qx_cpX10, rfl, rfl, qx_wfRX10_7, rfl, rfl, by decide +kernel, fun _ => rfl, fun _ => rfl⟩
set_option maxRecDepth 100000 in
theorem qx_wfRX10_13 : Cond.fieldLink RX10 13 "ContractFramesModel" "contractCoins" "[I" ∈ qx_BW := qx_in (i := 578) rfl rfl
theorem qx_gRX10_13 : qx_FG RX10 13 30 2 (some 32) := ⟨_, _, _, _, _, _, rfl, qx_cpX10, rfl, rfl, qx_wfRX10_13⟩
theorem qx_fRX10_13 : qx_FF RX10 13 30 2 32 := ⟨_, _, _, _, _, _, tyX10 2, rfl, qx_cpX10, rfl, rfl, qx_wfRX10_13, rfl, rfl, by decide +kernel, fun _ => rfl, fun _ => rfl⟩
set_option maxRecDepth 100000 in
theorem qx_wfRX10_16 : Cond.fieldLink RX10 16 "ContractFramesModel" "stores" "[I" ∈ qx_BW := qx_in (i := 580) rfl rfl
theorem qx_gRX10_16 : qx_FG RX10 16 30 4 (some 33) := ⟨_, _, _, _, _, _, rfl, qx_cpX10, rfl, rfl, qx_wfRX10_16⟩
theorem qx_fRX10_16 : qx_FF RX10 16 30 4 33 := ⟨_, _, _, _, _, _, tyX10 4, rfl, qx_cpX10, rfl, rfl, qx_wfRX10_16, rfl, rfl, by decide +kernel, fun _ => rfl, fun _ => rfl⟩
set_option maxRecDepth 100000 in
theorem qx_wfRX10_19 : Cond.fieldLink RX10 19 "ContractFramesModel" "lengths" "[I" ∈ qx_BW := qx_in (i := 581) rfl rfl
theorem qx_gRX10_19 : qx_FG RX10 19 30 5 (some 34) := ⟨_, _, _, _, _, _, rfl, qx_cpX10, rfl, rfl, qx_wfRX10_19⟩
theorem qx_fRX10_19 : qx_FF RX10 19 30 5 34 := ⟨_, _, _, _, _, _, tyX10 5, rfl, qx_cpX10, rfl, rfl, qx_wfRX10_19, rfl, rfl, by decide +kernel, fun _ => rfl, fun _ => rfl⟩
set_option maxRecDepth 100000 in
theorem qx_wfRX10_22 : Cond.fieldLink RX10 22 "ContractFramesModel" "guarded" "[Z" ∈ qx_BW := qx_in (i := 582) rfl rfl
theorem qx_gRX10_22 : qx_FG RX10 22 30 6 (some 35) := ⟨_, _, _, _, _, _, rfl, qx_cpX10, rfl, rfl, qx_wfRX10_22⟩
theorem qx_fRX10_22 : qx_FF RX10 22 30 6 35 := ⟨_, _, _, _, _, _, tyX10 6, rfl, qx_cpX10, rfl, rfl, qx_wfRX10_22, rfl, rfl, by decide +kernel, fun _ => rfl, fun _ => rfl⟩
set_option maxRecDepth 100000 in
theorem qx_wfRX10_26 : Cond.fieldLink RX10 26 "ContractFramesModel" "codes" "[I" ∈ qx_BW := qx_in (i := 583) rfl rfl
theorem qx_gRX10_26 : qx_FG RX10 26 30 7 (some 36) := ⟨_, _, _, _, _, _, rfl, qx_cpX10, rfl, rfl, qx_wfRX10_26⟩
theorem qx_fRX10_26 : qx_FF RX10 26 30 7 36 := ⟨_, _, _, _, _, _, tyX10 7, rfl, qx_cpX10, rfl, rfl, qx_wfRX10_26, rfl, rfl, by decide +kernel, fun _ => rfl, fun _ => rfl⟩
set_option maxRecDepth 100000 in
theorem qx_wfRX10_29 : Cond.fieldLink RX10 29 "ContractFramesModel" "as" "[I" ∈ qx_BW := qx_in (i := 584) rfl rfl
theorem qx_gRX10_29 : qx_FG RX10 29 30 8 (some 37) := ⟨_, _, _, _, _, _, rfl, qx_cpX10, rfl, rfl, qx_wfRX10_29⟩
theorem qx_fRX10_29 : qx_FF RX10 29 30 8 37 := ⟨_, _, _, _, _, _, tyX10 8, rfl, qx_cpX10, rfl, rfl, qx_wfRX10_29, rfl, rfl, by decide +kernel, fun _ => rfl, fun _ => rfl⟩
set_option maxRecDepth 100000 in
theorem qx_wfRX10_32 : Cond.fieldLink RX10 32 "ContractFramesModel" "bs" "[I" ∈ qx_BW := qx_in (i := 585) rfl rfl
theorem qx_gRX10_32 : qx_FG RX10 32 30 9 (some 38) := ⟨_, _, _, _, _, _, rfl, qx_cpX10, rfl, rfl, qx_wfRX10_32⟩
theorem qx_fRX10_32 : qx_FF RX10 32 30 9 38 := ⟨_, _, _, _, _, _, tyX10 9, rfl, qx_cpX10, rfl, rfl, qx_wfRX10_32, rfl, rfl, by decide +kernel, fun _ => rfl, fun _ => rfl⟩
set_option maxRecDepth 100000 in
theorem qx_wfRX10_35 : Cond.fieldLink RX10 35 "ContractFramesModel" "fMember" "[I" ∈ qx_BW := qx_in (i := 589) rfl rfl
theorem qx_gRX10_35 : qx_FG RX10 35 30 13 (some 39) := ⟨_, _, _, _, _, _, rfl, qx_cpX10, rfl, rfl, qx_wfRX10_35⟩
theorem qx_fRX10_35 : qx_FF RX10 35 30 13 39 := ⟨_, _, _, _, _, _, tyX10 13, rfl, qx_cpX10, rfl, rfl, qx_wfRX10_35, rfl, rfl, by decide +kernel, fun _ => rfl, fun _ => rfl⟩
set_option maxRecDepth 100000 in
theorem qx_wfRX10_38 : Cond.fieldLink RX10 38 "ContractFramesModel" "fArgument" "[I" ∈ qx_BW := qx_in (i := 590) rfl rfl
theorem qx_gRX10_38 : qx_FG RX10 38 30 14 (some 40) := ⟨_, _, _, _, _, _, rfl, qx_cpX10, rfl, rfl, qx_wfRX10_38⟩
theorem qx_fRX10_38 : qx_FF RX10 38 30 14 40 := ⟨_, _, _, _, _, _, tyX10 14, rfl, qx_cpX10, rfl, rfl, qx_wfRX10_38, rfl, rfl, by decide +kernel, fun _ => rfl, fun _ => rfl⟩
set_option maxRecDepth 100000 in
theorem qx_wfRX10_41 : Cond.fieldLink RX10 41 "ContractFramesModel" "fValue" "[I" ∈ qx_BW := qx_in (i := 591) rfl rfl
theorem qx_gRX10_41 : qx_FG RX10 41 30 15 (some 41) := ⟨_, _, _, _, _, _, rfl, qx_cpX10, rfl, rfl, qx_wfRX10_41⟩
theorem qx_fRX10_41 : qx_FF RX10 41 30 15 41 := ⟨_, _, _, _, _, _, tyX10 15, rfl, qx_cpX10, rfl, rfl, qx_wfRX10_41, rfl, rfl, by decide +kernel, fun _ => rfl, fun _ => rfl⟩
set_option maxRecDepth 100000 in
theorem qx_wfRX10_44 : Cond.fieldLink RX10 44 "ContractFramesModel" "fCaller" "[I" ∈ qx_BW := qx_in (i := 592) rfl rfl
theorem qx_gRX10_44 : qx_FG RX10 44 30 16 (some 42) := ⟨_, _, _, _, _, _, rfl, qx_cpX10, rfl, rfl, qx_wfRX10_44⟩
theorem qx_fRX10_44 : qx_FF RX10 44 30 16 42 := ⟨_, _, _, _, _, _, tyX10 16, rfl, qx_cpX10, rfl, rfl, qx_wfRX10_44, rfl, rfl, by decide +kernel, fun _ => rfl, fun _ => rfl⟩
set_option maxRecDepth 100000 in
theorem qx_wfRX10_47 : Cond.fieldLink RX10 47 "ContractFramesModel" "fLimit" "[I" ∈ qx_BW := qx_in (i := 593) rfl rfl
theorem qx_gRX10_47 : qx_FG RX10 47 30 17 (some 43) := ⟨_, _, _, _, _, _, rfl, qx_cpX10, rfl, rfl, qx_wfRX10_47⟩
theorem qx_fRX10_47 : qx_FF RX10 47 30 17 43 := ⟨_, _, _, _, _, _, tyX10 17, rfl, qx_cpX10, rfl, rfl, qx_wfRX10_47, rfl, rfl, by decide +kernel, fun _ => rfl, fun _ => rfl⟩
set_option maxRecDepth 100000 in
theorem qx_wfRX10_50 : Cond.fieldLink RX10 50 "ContractFramesModel" "fUsed" "[I" ∈ qx_BW := qx_in (i := 594) rfl rfl
theorem qx_gRX10_50 : qx_FG RX10 50 30 18 (some 44) := ⟨_, _, _, _, _, _, rfl, qx_cpX10, rfl, rfl, qx_wfRX10_50⟩
theorem qx_fRX10_50 : qx_FF RX10 50 30 18 44 := ⟨_, _, _, _, _, _, tyX10 18, rfl, qx_cpX10, rfl, rfl, qx_wfRX10_50, rfl, rfl, by decide +kernel, fun _ => rfl, fun _ => rfl⟩
set_option maxRecDepth 100000 in
theorem qx_wfRX10_53 : Cond.fieldLink RX10 53 "ContractFramesModel" "fAt" "[I" ∈ qx_BW := qx_in (i := 595) rfl rfl
theorem qx_gRX10_53 : qx_FG RX10 53 30 19 (some 45) := ⟨_, _, _, _, _, _, rfl, qx_cpX10, rfl, rfl, qx_wfRX10_53⟩
theorem qx_fRX10_53 : qx_FF RX10 53 30 19 45 := ⟨_, _, _, _, _, _, tyX10 19, rfl, qx_cpX10, rfl, rfl, qx_wfRX10_53, rfl, rfl, by decide +kernel, fun _ => rfl, fun _ => rfl⟩
set_option maxRecDepth 100000 in
theorem qx_wfRX10_56 : Cond.fieldLink RX10 56 "ContractFramesModel" "fHas" "[I" ∈ qx_BW := qx_in (i := 596) rfl rfl
theorem qx_gRX10_56 : qx_FG RX10 56 30 20 (some 46) := ⟨_, _, _, _, _, _, rfl, qx_cpX10, rfl, rfl, qx_wfRX10_56⟩
theorem qx_fRX10_56 : qx_FF RX10 56 30 20 46 := ⟨_, _, _, _, _, _, tyX10 20, rfl, qx_cpX10, rfl, rfl, qx_wfRX10_56, rfl, rfl, by decide +kernel, fun _ => rfl, fun _ => rfl⟩
set_option maxRecDepth 100000 in
theorem qx_wfRX10_59 : Cond.fieldLink RX10 59 "ContractFramesModel" "fHow" "[I" ∈ qx_BW := qx_in (i := 597) rfl rfl
theorem qx_gRX10_59 : qx_FG RX10 59 30 21 (some 47) := ⟨_, _, _, _, _, _, rfl, qx_cpX10, rfl, rfl, qx_wfRX10_59⟩
theorem qx_fRX10_59 : qx_FF RX10 59 30 21 47 := ⟨_, _, _, _, _, _, tyX10 21, rfl, qx_cpX10, rfl, rfl, qx_wfRX10_59, rfl, rfl, by decide +kernel, fun _ => rfl, fun _ => rfl⟩
set_option maxRecDepth 100000 in
theorem qx_wfRX10_62 : Cond.fieldLink RX10 62 "ContractFramesModel" "fRecord" "[I" ∈ qx_BW := qx_in (i := 598) rfl rfl
theorem qx_gRX10_62 : qx_FG RX10 62 30 22 (some 48) := ⟨_, _, _, _, _, _, rfl, qx_cpX10, rfl, rfl, qx_wfRX10_62⟩
theorem qx_fRX10_62 : qx_FF RX10 62 30 22 48 := ⟨_, _, _, _, _, _, tyX10 22, rfl, qx_cpX10, rfl, rfl, qx_wfRX10_62, rfl, rfl, by decide +kernel, fun _ => rfl, fun _ => rfl⟩
set_option maxRecDepth 100000 in
theorem qx_wfRX10_65 : Cond.fieldLink RX10 65 "ContractFramesModel" "fReads" "[Z" ∈ qx_BW := qx_in (i := 599) rfl rfl
theorem qx_gRX10_65 : qx_FG RX10 65 30 23 (some 49) := ⟨_, _, _, _, _, _, rfl, qx_cpX10, rfl, rfl, qx_wfRX10_65⟩
theorem qx_fRX10_65 : qx_FF RX10 65 30 23 49 := ⟨_, _, _, _, _, _, tyX10 23, rfl, qx_cpX10, rfl, rfl, qx_wfRX10_65, rfl, rfl, by decide +kernel, fun _ => rfl, fun _ => rfl⟩
set_option maxRecDepth 100000 in
theorem qx_wfRX10_68 : Cond.fieldLink RX10 68 "ContractFramesModel" "stack" "[I" ∈ qx_BW := qx_in (i := 600) rfl rfl
theorem qx_gRX10_68 : qx_FG RX10 68 30 24 (some 50) := ⟨_, _, _, _, _, _, rfl, qx_cpX10, rfl, rfl, qx_wfRX10_68⟩
theorem qx_fRX10_68 : qx_FF RX10 68 30 24 50 := ⟨_, _, _, _, _, _, tyX10 24, rfl, qx_cpX10, rfl, rfl, qx_wfRX10_68, rfl, rfl, by decide +kernel, fun _ => rfl, fun _ => rfl⟩
set_option maxRecDepth 100000 in
theorem qx_wfRX10_71 : Cond.fieldLink RX10 71 "ContractFramesModel" "oldStores" "[I" ∈ qx_BW := qx_in (i := 601) rfl rfl
theorem qx_gRX10_71 : qx_FG RX10 71 30 25 (some 51) := ⟨_, _, _, _, _, _, rfl, qx_cpX10, rfl, rfl, qx_wfRX10_71⟩
theorem qx_fRX10_71 : qx_FF RX10 71 30 25 51 := ⟨_, _, _, _, _, _, tyX10 25, rfl, qx_cpX10, rfl, rfl, qx_wfRX10_71, rfl, rfl, by decide +kernel, fun _ => rfl, fun _ => rfl⟩
set_option maxRecDepth 100000 in
theorem qx_wfRX10_74 : Cond.fieldLink RX10 74 "ContractFramesModel" "oldUsers" "[I" ∈ qx_BW := qx_in (i := 602) rfl rfl
theorem qx_gRX10_74 : qx_FG RX10 74 30 26 (some 52) := ⟨_, _, _, _, _, _, rfl, qx_cpX10, rfl, rfl, qx_wfRX10_74⟩
theorem qx_fRX10_74 : qx_FF RX10 74 30 26 52 := ⟨_, _, _, _, _, _, tyX10 26, rfl, qx_cpX10, rfl, rfl, qx_wfRX10_74, rfl, rfl, by decide +kernel, fun _ => rfl, fun _ => rfl⟩
set_option maxRecDepth 100000 in
theorem qx_wfRX10_77 : Cond.fieldLink RX10 77 "ContractFramesModel" "oldContracts" "[I" ∈ qx_BW := qx_in (i := 603) rfl rfl
theorem qx_gRX10_77 : qx_FG RX10 77 30 27 (some 53) := ⟨_, _, _, _, _, _, rfl, qx_cpX10, rfl, rfl, qx_wfRX10_77⟩
theorem qx_fRX10_77 : qx_FF RX10 77 30 27 53 := ⟨_, _, _, _, _, _, tyX10 27, rfl, qx_cpX10, rfl, rfl, qx_wfRX10_77, rfl, rfl, by decide +kernel, fun _ => rfl, fun _ => rfl⟩
set_option maxRecDepth 100000 in
theorem qx_wfRX10_80 : Cond.fieldLink RX10 80 "ContractFramesModel" "oldEvents" "[I" ∈ qx_BW := qx_in (i := 604) rfl rfl
theorem qx_gRX10_80 : qx_FG RX10 80 30 28 (some 54) := ⟨_, _, _, _, _, _, rfl, qx_cpX10, rfl, rfl, qx_wfRX10_80⟩
theorem qx_fRX10_80 : qx_FF RX10 80 30 28 54 := ⟨_, _, _, _, _, _, tyX10 28, rfl, qx_cpX10, rfl, rfl, qx_wfRX10_80, rfl, rfl, by decide +kernel, fun _ => rfl, fun _ => rfl⟩
set_option maxRecDepth 100000 in
theorem qx_wfRX10_83 : Cond.fieldLink RX10 83 "ContractFramesModel" "oldFreed" "[I" ∈ qx_BW := qx_in (i := 605) rfl rfl
theorem qx_gRX10_83 : qx_FG RX10 83 30 29 (some 55) := ⟨_, _, _, _, _, _, rfl, qx_cpX10, rfl, rfl, qx_wfRX10_83⟩
theorem qx_fRX10_83 : qx_FF RX10 83 30 29 55 := ⟨_, _, _, _, _, _, tyX10 29, rfl, qx_cpX10, rfl, rfl, qx_wfRX10_83, rfl, rfl, by decide +kernel, fun _ => rfl, fun _ => rfl⟩
set_option maxRecDepth 100000 in
theorem qx_wfRX10_86 : Cond.fieldLink RX10 86 "ContractFramesModel" "eContract" "[I" ∈ qx_BW := qx_in (i := 607) rfl rfl
theorem qx_gRX10_86 : qx_FG RX10 86 30 31 (some 56) := ⟨_, _, _, _, _, _, rfl, qx_cpX10, rfl, rfl, qx_wfRX10_86⟩
theorem qx_fRX10_86 : qx_FF RX10 86 30 31 56 := ⟨_, _, _, _, _, _, tyX10 31, rfl, qx_cpX10, rfl, rfl, qx_wfRX10_86, rfl, rfl, by decide +kernel, fun _ => rfl, fun _ => rfl⟩
set_option maxRecDepth 100000 in
theorem qx_wfRX10_89 : Cond.fieldLink RX10 89 "ContractFramesModel" "eKind" "[I" ∈ qx_BW := qx_in (i := 608) rfl rfl
theorem qx_gRX10_89 : qx_FG RX10 89 30 32 (some 57) := ⟨_, _, _, _, _, _, rfl, qx_cpX10, rfl, rfl, qx_wfRX10_89⟩
theorem qx_fRX10_89 : qx_FF RX10 89 30 32 57 := ⟨_, _, _, _, _, _, tyX10 32, rfl, qx_cpX10, rfl, rfl, qx_wfRX10_89, rfl, rfl, by decide +kernel, fun _ => rfl, fun _ => rfl⟩
set_option maxRecDepth 100000 in
theorem qx_wfRX10_92 : Cond.fieldLink RX10 92 "ContractFramesModel" "eValue" "[I" ∈ qx_BW := qx_in (i := 609) rfl rfl
theorem qx_gRX10_92 : qx_FG RX10 92 30 33 (some 58) := ⟨_, _, _, _, _, _, rfl, qx_cpX10, rfl, rfl, qx_wfRX10_92⟩
theorem qx_fRX10_92 : qx_FF RX10 92 30 33 58 := ⟨_, _, _, _, _, _, tyX10 33, rfl, qx_cpX10, rfl, rfl, qx_wfRX10_92, rfl, rfl, by decide +kernel, fun _ => rfl, fun _ => rfl⟩
set_option maxRecDepth 100000 in
theorem qx_wfRX10_95 : Cond.fieldLink RX10 95 "ContractFramesModel" "eDeep" "[I" ∈ qx_BW := qx_in (i := 610) rfl rfl
theorem qx_gRX10_95 : qx_FG RX10 95 30 34 (some 59) := ⟨_, _, _, _, _, _, rfl, qx_cpX10, rfl, rfl, qx_wfRX10_95⟩
theorem qx_fRX10_95 : qx_FF RX10 95 30 34 59 := ⟨_, _, _, _, _, _, tyX10 34, rfl, qx_cpX10, rfl, rfl, qx_wfRX10_95, rfl, rfl, by decide +kernel, fun _ => rfl, fun _ => rfl⟩
set_option maxRecDepth 100000 in
theorem qx_wfRX10_98 : Cond.fieldLink RX10 98 "ContractFramesModel" "rMember" "[I" ∈ qx_BW := qx_in (i := 614) rfl rfl
theorem qx_gRX10_98 : qx_FG RX10 98 30 38 (some 60) := ⟨_, _, _, _, _, _, rfl, qx_cpX10, rfl, rfl, qx_wfRX10_98⟩
theorem qx_fRX10_98 : qx_FF RX10 98 30 38 60 := ⟨_, _, _, _, _, _, tyX10 38, rfl, qx_cpX10, rfl, rfl, qx_wfRX10_98, rfl, rfl, by decide +kernel, fun _ => rfl, fun _ => rfl⟩
set_option maxRecDepth 100000 in
theorem qx_wfRX10_101 : Cond.fieldLink RX10 101 "ContractFramesModel" "rDeep" "[I" ∈ qx_BW := qx_in (i := 615) rfl rfl
theorem qx_gRX10_101 : qx_FG RX10 101 30 39 (some 61) := ⟨_, _, _, _, _, _, rfl, qx_cpX10, rfl, rfl, qx_wfRX10_101⟩
theorem qx_fRX10_101 : qx_FF RX10 101 30 39 61 := ⟨_, _, _, _, _, _, tyX10 39, rfl, qx_cpX10, rfl, rfl, qx_wfRX10_101, rfl, rfl, by decide +kernel, fun _ => rfl, fun _ => rfl⟩
set_option maxRecDepth 100000 in
theorem qx_wfRX10_104 : Cond.fieldLink RX10 104 "ContractFramesModel" "rUsed" "[I" ∈ qx_BW := qx_in (i := 616) rfl rfl
theorem qx_gRX10_104 : qx_FG RX10 104 30 40 (some 62) := ⟨_, _, _, _, _, _, rfl, qx_cpX10, rfl, rfl, qx_wfRX10_104⟩
theorem qx_fRX10_104 : qx_FF RX10 104 30 40 62 := ⟨_, _, _, _, _, _, tyX10 40, rfl, qx_cpX10, rfl, rfl, qx_wfRX10_104, rfl, rfl, by decide +kernel, fun _ => rfl, fun _ => rfl⟩
set_option maxRecDepth 100000 in
theorem qx_wfRX10_107 : Cond.fieldLink RX10 107 "ContractFramesModel" "rThrew" "[I" ∈ qx_BW := qx_in (i := 617) rfl rfl
theorem qx_gRX10_107 : qx_FG RX10 107 30 41 (some 63) := ⟨_, _, _, _, _, _, rfl, qx_cpX10, rfl, rfl, qx_wfRX10_107⟩
theorem qx_fRX10_107 : qx_FF RX10 107 30 41 63 := ⟨_, _, _, _, _, _, tyX10 41, rfl, qx_cpX10, rfl, rfl, qx_wfRX10_107, rfl, rfl, by decide +kernel, fun _ => rfl, fun _ => rfl⟩
set_option maxRecDepth 100000 in
theorem qx_wfRX10_110 : Cond.fieldLink RX10 110 "ContractFramesModel" "rGave" "[I" ∈ qx_BW := qx_in (i := 618) rfl rfl
theorem qx_gRX10_110 : qx_FG RX10 110 30 42 (some 64) := ⟨_, _, _, _, _, _, rfl, qx_cpX10, rfl, rfl, qx_wfRX10_110⟩
theorem qx_fRX10_110 : qx_FF RX10 110 30 42 64 := ⟨_, _, _, _, _, _, tyX10 42, rfl, qx_cpX10, rfl, rfl, qx_wfRX10_110, rfl, rfl, by decide +kernel, fun _ => rfl, fun _ => rfl⟩
set_option maxRecDepth 100000 in
theorem qx_wfRX10_113 : Cond.fieldLink RX10 113 "ContractFramesModel" "rReads" "[Z" ∈ qx_BW := qx_in (i := 619) rfl rfl
theorem qx_gRX10_113 : qx_FG RX10 113 30 43 (some 65) := ⟨_, _, _, _, _, _, rfl, qx_cpX10, rfl, rfl, qx_wfRX10_113⟩
theorem qx_fRX10_113 : qx_FF RX10 113 30 43 65 := ⟨_, _, _, _, _, _, tyX10 43, rfl, qx_cpX10, rfl, rfl, qx_wfRX10_113, rfl, rfl, by decide +kernel, fun _ => rfl, fun _ => rfl⟩
set_option maxRecDepth 100000 in
theorem qx_wfRX10_119 : Cond.fieldLink RX10 119 "ContractFramesModel" "contracts" "I" ∈ qx_BW := qx_in (i := 576) rfl rfl
theorem qx_gRX10_119 : qx_FG RX10 119 30 0 none := ⟨_, _, _, _, _, _, rfl, qx_cpX10, rfl, rfl, qx_wfRX10_119⟩
theorem qx_pRX10_119 : qx_FP RX10 119 30 0 .int := ⟨_, _, _, _, _, _, rfl, qx_cpX10, rfl, rfl, qx_wfRX10_119, rfl, by decide +kernel⟩
set_option maxRecDepth 100000 in
theorem qx_wfRX10_123 : Cond.fieldLink RX10 123 "ContractFramesModel" "pot" "I" ∈ qx_BW := qx_in (i := 579) rfl rfl
theorem qx_gRX10_123 : qx_FG RX10 123 30 3 none := ⟨_, _, _, _, _, _, rfl, qx_cpX10, rfl, rfl, qx_wfRX10_123⟩
theorem qx_pRX10_123 : qx_FP RX10 123 30 3 .int := ⟨_, _, _, _, _, _, rfl, qx_cpX10, rfl, rfl, qx_wfRX10_123, rfl, by decide +kernel⟩
set_option maxRecDepth 100000 in
theorem qx_wfRX10_126 : Cond.fieldLink RX10 126 "ContractFramesModel" "gaveMany" "I" ∈ qx_BW := qx_in (i := 586) rfl rfl
theorem qx_gRX10_126 : qx_FG RX10 126 30 10 none := ⟨_, _, _, _, _, _, rfl, qx_cpX10, rfl, rfl, qx_wfRX10_126⟩
theorem qx_pRX10_126 : qx_FP RX10 126 30 10 .int := ⟨_, _, _, _, _, _, rfl, qx_cpX10, rfl, rfl, qx_wfRX10_126, rfl, by decide +kernel⟩
set_option maxRecDepth 100000 in
theorem qx_wfRX10_129 : Cond.fieldLink RX10 129 "ContractFramesModel" "threwMany" "I" ∈ qx_BW := qx_in (i := 587) rfl rfl
theorem qx_gRX10_129 : qx_FG RX10 129 30 11 none := ⟨_, _, _, _, _, _, rfl, qx_cpX10, rfl, rfl, qx_wfRX10_129⟩
theorem qx_pRX10_129 : qx_FP RX10 129 30 11 .int := ⟨_, _, _, _, _, _, rfl, qx_cpX10, rfl, rfl, qx_wfRX10_129, rfl, by decide +kernel⟩
set_option maxRecDepth 100000 in
theorem qx_wfRX10_132 : Cond.fieldLink RX10 132 "ContractFramesModel" "hasCalled" "Z" ∈ qx_BW := qx_in (i := 620) rfl rfl
theorem qx_gRX10_132 : qx_FG RX10 132 30 44 none := ⟨_, _, _, _, _, _, rfl, qx_cpX10, rfl, rfl, qx_wfRX10_132⟩
theorem qx_pRX10_132 : qx_FP RX10 132 30 44 .boolean := ⟨_, _, _, _, _, _, rfl, qx_cpX10, rfl, rfl, qx_wfRX10_132, rfl, by decide +kernel⟩
set_option maxRecDepth 100000 in
theorem qx_wfRX10_136 : Cond.fieldLink RX10 136 "ContractFramesModel" "events" "I" ∈ qx_BW := qx_in (i := 606) rfl rfl
theorem qx_gRX10_136 : qx_FG RX10 136 30 30 none := ⟨_, _, _, _, _, _, rfl, qx_cpX10, rfl, rfl, qx_wfRX10_136⟩
theorem qx_pRX10_136 : qx_FP RX10 136 30 30 .int := ⟨_, _, _, _, _, _, rfl, qx_cpX10, rfl, rfl, qx_wfRX10_136, rfl, by decide +kernel⟩
set_option maxRecDepth 100000 in
theorem qx_wfRX10_139 : Cond.fieldLink RX10 139 "ContractFramesModel" "entered" "I" ∈ qx_BW := qx_in (i := 612) rfl rfl
theorem qx_gRX10_139 : qx_FG RX10 139 30 36 none := ⟨_, _, _, _, _, _, rfl, qx_cpX10, rfl, rfl, qx_wfRX10_139⟩
theorem qx_pRX10_139 : qx_FP RX10 139 30 36 .int := ⟨_, _, _, _, _, _, rfl, qx_cpX10, rfl, rfl, qx_wfRX10_139, rfl, by decide +kernel⟩
set_option maxRecDepth 100000 in
theorem qx_wfRX9_39 : Cond.fieldLink RX9 39 "ContractFrames$Program" "contracts" "I" ∈ qx_BW := qx_in (i := 90) rfl rfl
theorem qx_gRX9_39 : qx_FG RX9 39 1 1 none := ⟨_, _, _, _, _, _, rfl, qx_cpX4, rfl, rfl, qx_wfRX9_39⟩
theorem qx_pRX9_39 : qx_FP RX9 39 1 1 .int := ⟨_, _, _, _, _, _, rfl, qx_cpX4, rfl, rfl, qx_wfRX9_39, rfl, by decide +kernel⟩
set_option maxRecDepth 100000 in
theorem qx_wfRX9_57 : Cond.fieldLink RX9 57 "ContractFrames$Member" "size" "I" ∈ qx_BW := qx_in (i := 71) rfl rfl
theorem qx_gRX9_57 : qx_FG RX9 57 17 3 none := ⟨_, _, _, _, _, _, rfl, qx_cpX3, rfl, rfl, qx_wfRX9_57⟩
theorem qx_pRX9_57 : qx_FP RX9 57 17 3 .int := ⟨_, _, _, _, _, _, rfl, qx_cpX3, rfl, rfl, qx_wfRX9_57, rfl, by decide +kernel⟩
set_option maxRecDepth 100000 in
theorem qx_wfRX4_18 : Cond.fieldLink RX4 18 "ContractFrames$Program" "contracts" "I" ∈ qx_BW := qx_in (i := 91) rfl rfl
theorem qx_gRX4_18 : qx_FG RX4 18 1 1 none := ⟨_, _, _, _, _, _, rfl, qx_cpX4, rfl, rfl, qx_wfRX4_18⟩
theorem qx_pRX4_18 : qx_FP RX4 18 1 1 .int := ⟨_, _, _, _, _, _, rfl, qx_cpX4, rfl, rfl, qx_wfRX4_18, rfl, by decide +kernel⟩
set_option maxRecDepth 100000 in
theorem qx_wfRX3_21 : Cond.fieldLink RX3 21 "ContractFrames$Member" "size" "I" ∈ qx_BW := qx_in (i := 70) rfl rfl
theorem qx_gRX3_21 : qx_FG RX3 21 17 3 none := ⟨_, _, _, _, _, _, rfl, qx_cpX3, rfl, rfl, qx_wfRX3_21⟩
theorem qx_pRX3_21 : qx_FP RX3 21 17 3 .int := ⟨_, _, _, _, _, _, rfl, qx_cpX3, rfl, rfl, qx_wfRX3_21, rfl, by decide +kernel⟩
set_option maxRecDepth 100000 in
theorem qx_wfRX9_66 : Cond.fieldLink RX9 66 "ContractFrames$Member" "guarded" "Z" ∈ qx_BW := qx_in (i := 74) rfl rfl
theorem qx_gRX9_66 : qx_FG RX9 66 17 4 none := ⟨_, _, _, _, _, _, rfl, qx_cpX3, rfl, rfl, qx_wfRX9_66⟩
theorem qx_pRX9_66 : qx_FP RX9 66 17 4 .boolean := ⟨_, _, _, _, _, _, rfl, qx_cpX3, rfl, rfl, qx_wfRX9_66, rfl, by decide +kernel⟩
set_option maxRecDepth 100000 in
theorem qx_wfRX9_78 : Cond.fieldLink RX9 78 "ContractFrames$Report" "threw" "Z" ∈ qx_BW := qx_in (i := 151) rfl rfl
theorem qx_gRX9_78 : qx_FG RX9 78 7 2 none := ⟨_, _, _, _, _, _, rfl, qx_cpX5, rfl, rfl, qx_wfRX9_78⟩
theorem qx_pRX9_78 : qx_FP RX9 78 7 2 .boolean := ⟨_, _, _, _, _, _, rfl, qx_cpX5, rfl, rfl, qx_wfRX9_78, rfl, by decide +kernel⟩
set_option maxRecDepth 100000 in
theorem qx_wfRX9_123 : Cond.fieldLink RX9 123 "ContractFrames$World" "purses" "[I" ∈ qx_BW := qx_in (i := 120) rfl rfl
theorem qx_gRX9_123 : qx_FG RX9 123 3 1 (some 5) := ⟨_, _, _, _, _, _, rfl, qx_cpX8, rfl, rfl, qx_wfRX9_123⟩
set_option maxRecDepth 100000 in
theorem qx_wfRX2_49 : Cond.fieldLink RX2 49 "ContractFrames$Frame" "caller" "I" ∈ qx_BW := qx_in (i := 216) rfl rfl
theorem qx_gRX2_49 : qx_FG RX2 49 12 6 none := ⟨_, _, _, _, _, _, rfl, qx_cpX1, rfl, rfl, qx_wfRX2_49⟩
theorem qx_pRX2_49 : qx_FP RX2 49 12 6 .int := ⟨_, _, _, _, _, _, rfl, qx_cpX1, rfl, rfl, qx_wfRX2_49, rfl, by decide +kernel⟩
set_option maxRecDepth 100000 in
theorem qx_wfRX2_53 : Cond.fieldLink RX2 53 "ContractFrames$Frame" "onlyReads" "Z" ∈ qx_BW := qx_in (i := 217) rfl rfl
theorem qx_gRX2_53 : qx_FG RX2 53 12 7 none := ⟨_, _, _, _, _, _, rfl, qx_cpX1, rfl, rfl, qx_wfRX2_53⟩
theorem qx_pRX2_53 : qx_FP RX2 53 12 7 .boolean := ⟨_, _, _, _, _, _, rfl, qx_cpX1, rfl, rfl, qx_wfRX2_53, rfl, by decide +kernel⟩
set_option maxRecDepth 100000 in
theorem qx_wfRX2_61 : Cond.fieldLink RX2 61 "ContractFrames$World" "zeroings" "I" ∈ qx_BW := qx_in (i := 128) rfl rfl
theorem qx_gRX2_61 : qx_FG RX2 61 3 4 none := ⟨_, _, _, _, _, _, rfl, qx_cpX8, rfl, rfl, qx_wfRX2_61⟩
theorem qx_pRX2_61 : qx_FP RX2 61 3 4 .int := ⟨_, _, _, _, _, _, rfl, qx_cpX8, rfl, rfl, qx_wfRX2_61, rfl, by decide +kernel⟩
set_option maxRecDepth 100000 in
theorem qx_wfRX8_36 : Cond.fieldLink RX8 36 "ContractFrames$World" "events" "I" ∈ qx_BW := qx_in (i := 124) rfl rfl
theorem qx_gRX8_36 : qx_FG RX8 36 3 3 none := ⟨_, _, _, _, _, _, rfl, qx_cpX8, rfl, rfl, qx_wfRX8_36⟩
theorem qx_pRX8_36 : qx_FP RX8 36 3 3 .int := ⟨_, _, _, _, _, _, rfl, qx_cpX8, rfl, rfl, qx_wfRX8_36, rfl, by decide +kernel⟩
set_option maxRecDepth 100000 in
theorem qx_wfRX8_40 : Cond.fieldLink RX8 40 "ContractFrames$World" "zeroings" "I" ∈ qx_BW := qx_in (i := 129) rfl rfl
theorem qx_gRX8_40 : qx_FG RX8 40 3 4 none := ⟨_, _, _, _, _, _, rfl, qx_cpX8, rfl, rfl, qx_wfRX8_40⟩
theorem qx_pRX8_40 : qx_FP RX8 40 3 4 .int := ⟨_, _, _, _, _, _, rfl, qx_cpX8, rfl, rfl, qx_wfRX8_40, rfl, by decide +kernel⟩
set_option maxRecDepth 100000 in
theorem qx_wfRX5_27 : Cond.fieldLink RX5 27 "ContractFrames$Report" "entered" "I" ∈ qx_BW := qx_in (i := 159) rfl rfl
theorem qx_gRX5_27 : qx_FG RX5 27 7 6 none := ⟨_, _, _, _, _, _, rfl, qx_cpX5, rfl, rfl, qx_wfRX5_27⟩
theorem qx_pRX5_27 : qx_FP RX5 27 7 6 .int := ⟨_, _, _, _, _, _, rfl, qx_cpX5, rfl, rfl, qx_wfRX5_27, rfl, by decide +kernel⟩
set_option maxRecDepth 100000 in
theorem qx_wfRX5_30 : Cond.fieldLink RX5 30 "ContractFrames$Report" "deepest" "I" ∈ qx_BW := qx_in (i := 161) rfl rfl
theorem qx_gRX5_30 : qx_FG RX5 30 7 7 none := ⟨_, _, _, _, _, _, rfl, qx_cpX5, rfl, rfl, qx_wfRX5_30⟩
theorem qx_pRX5_30 : qx_FP RX5 30 7 7 .int := ⟨_, _, _, _, _, _, rfl, qx_cpX5, rfl, rfl, qx_wfRX5_30, rfl, by decide +kernel⟩
set_option maxRecDepth 100000 in
theorem qx_wfRX1_13 : Cond.fieldLink RX1 13 "ContractFrames$Frame" "contract" "I" ∈ qx_BW := qx_in (i := 206) rfl rfl
theorem qx_gRX1_13 : qx_FG RX1 13 12 2 none := ⟨_, _, _, _, _, _, rfl, qx_cpX1, rfl, rfl, qx_wfRX1_13⟩
theorem qx_pRX1_13 : qx_FP RX1 13 12 2 .int := ⟨_, _, _, _, _, _, rfl, qx_cpX1, rfl, rfl, qx_wfRX1_13, rfl, by decide +kernel⟩
set_option maxRecDepth 100000 in
theorem qx_wfRX1_17 : Cond.fieldLink RX1 17 "ContractFrames$Frame" "member" "I" ∈ qx_BW := qx_in (i := 209) rfl rfl
theorem qx_gRX1_17 : qx_FG RX1 17 12 3 none := ⟨_, _, _, _, _, _, rfl, qx_cpX1, rfl, rfl, qx_wfRX1_17⟩
theorem qx_pRX1_17 : qx_FP RX1 17 12 3 .int := ⟨_, _, _, _, _, _, rfl, qx_cpX1, rfl, rfl, qx_wfRX1_17, rfl, by decide +kernel⟩
set_option maxRecDepth 100000 in
theorem qx_wfRX1_20 : Cond.fieldLink RX1 20 "ContractFrames$Frame" "argument" "I" ∈ qx_BW := qx_in (i := 212) rfl rfl
theorem qx_gRX1_20 : qx_FG RX1 20 12 4 none := ⟨_, _, _, _, _, _, rfl, qx_cpX1, rfl, rfl, qx_wfRX1_20⟩
theorem qx_pRX1_20 : qx_FP RX1 20 12 4 .int := ⟨_, _, _, _, _, _, rfl, qx_cpX1, rfl, rfl, qx_wfRX1_20, rfl, by decide +kernel⟩
set_option maxRecDepth 100000 in
theorem qx_wfRX1_23 : Cond.fieldLink RX1 23 "ContractFrames$Frame" "value" "I" ∈ qx_BW := qx_in (i := 214) rfl rfl
theorem qx_gRX1_23 : qx_FG RX1 23 12 5 none := ⟨_, _, _, _, _, _, rfl, qx_cpX1, rfl, rfl, qx_wfRX1_23⟩
theorem qx_pRX1_23 : qx_FP RX1 23 12 5 .int := ⟨_, _, _, _, _, _, rfl, qx_cpX1, rfl, rfl, qx_wfRX1_23, rfl, by decide +kernel⟩
set_option maxRecDepth 100000 in
theorem qx_wfRX1_26 : Cond.fieldLink RX1 26 "ContractFrames$Frame" "limit" "I" ∈ qx_BW := qx_in (i := 219) rfl rfl
theorem qx_gRX1_26 : qx_FG RX1 26 12 8 none := ⟨_, _, _, _, _, _, rfl, qx_cpX1, rfl, rfl, qx_wfRX1_26⟩
theorem qx_pRX1_26 : qx_FP RX1 26 12 8 .int := ⟨_, _, _, _, _, _, rfl, qx_cpX1, rfl, rfl, qx_wfRX1_26, rfl, by decide +kernel⟩
set_option maxRecDepth 100000 in
theorem qx_wfRX1_29 : Cond.fieldLink RX1 29 "ContractFrames$Frame" "left" "I" ∈ qx_BW := qx_in (i := 220) rfl rfl
theorem qx_gRX1_29 : qx_FG RX1 29 12 9 none := ⟨_, _, _, _, _, _, rfl, qx_cpX1, rfl, rfl, qx_wfRX1_29⟩
theorem qx_pRX1_29 : qx_FP RX1 29 12 9 .int := ⟨_, _, _, _, _, _, rfl, qx_cpX1, rfl, rfl, qx_wfRX1_29, rfl, by decide +kernel⟩
set_option maxRecDepth 100000 in
theorem qx_wfRX1_32 : Cond.fieldLink RX1 32 "ContractFrames$Frame" "height" "I" ∈ qx_BW := qx_in (i := 204) rfl rfl
theorem qx_gRX1_32 : qx_FG RX1 32 12 1 none := ⟨_, _, _, _, _, _, rfl, qx_cpX1, rfl, rfl, qx_wfRX1_32⟩
theorem qx_pRX1_32 : qx_FP RX1 32 12 1 .int := ⟨_, _, _, _, _, _, rfl, qx_cpX1, rfl, rfl, qx_wfRX1_32, rfl, by decide +kernel⟩
set_option maxRecDepth 100000 in
theorem qx_wfRX1_35 : Cond.fieldLink RX1 35 "ContractFrames$Frame" "position" "I" ∈ qx_BW := qx_in (i := 222) rfl rfl
theorem qx_gRX1_35 : qx_FG RX1 35 12 10 none := ⟨_, _, _, _, _, _, rfl, qx_cpX1, rfl, rfl, qx_wfRX1_35⟩
theorem qx_pRX1_35 : qx_FP RX1 35 12 10 .int := ⟨_, _, _, _, _, _, rfl, qx_cpX1, rfl, rfl, qx_wfRX1_35, rfl, by decide +kernel⟩
set_option maxRecDepth 100000 in
theorem qx_wfRX1_38 : Cond.fieldLink RX1 38 "ContractFrames$Frame" "ended" "Z" ∈ qx_BW := qx_in (i := 224) rfl rfl
theorem qx_gRX1_38 : qx_FG RX1 38 12 11 none := ⟨_, _, _, _, _, _, rfl, qx_cpX1, rfl, rfl, qx_wfRX1_38⟩
theorem qx_pRX1_38 : qx_FP RX1 38 12 11 .boolean := ⟨_, _, _, _, _, _, rfl, qx_cpX1, rfl, rfl, qx_wfRX1_38, rfl, by decide +kernel⟩
set_option maxRecDepth 100000 in
theorem qx_wfRX1_44 : Cond.fieldLink RX1 44 "ContractFrames$Frame" "threw" "I" ∈ qx_BW := qx_in (i := 226) rfl rfl
theorem qx_gRX1_44 : qx_FG RX1 44 12 12 none := ⟨_, _, _, _, _, _, rfl, qx_cpX1, rfl, rfl, qx_wfRX1_44⟩
theorem qx_pRX1_44 : qx_FP RX1 44 12 12 .int := ⟨_, _, _, _, _, _, rfl, qx_cpX1, rfl, rfl, qx_wfRX1_44, rfl, by decide +kernel⟩
set_option maxRecDepth 100000 in
theorem qx_wfRX1_47 : Cond.fieldLink RX1 47 "ContractFrames$Frame" "gave" "I" ∈ qx_BW := qx_in (i := 229) rfl rfl
theorem qx_gRX1_47 : qx_FG RX1 47 12 13 none := ⟨_, _, _, _, _, _, rfl, qx_cpX1, rfl, rfl, qx_wfRX1_47⟩
theorem qx_pRX1_47 : qx_FP RX1 47 12 13 .int := ⟨_, _, _, _, _, _, rfl, qx_cpX1, rfl, rfl, qx_wfRX1_47, rfl, by decide +kernel⟩
set_option maxRecDepth 100000 in
theorem qx_wfRX2_82 : Cond.fieldLink RX2 82 "ContractFrames$Frame" "contract" "I" ∈ qx_BW := qx_in (i := 207) rfl rfl
theorem qx_gRX2_82 : qx_FG RX2 82 12 2 none := ⟨_, _, _, _, _, _, rfl, qx_cpX1, rfl, rfl, qx_wfRX2_82⟩
theorem qx_pRX2_82 : qx_FP RX2 82 12 2 .int := ⟨_, _, _, _, _, _, rfl, qx_cpX1, rfl, rfl, qx_wfRX2_82, rfl, by decide +kernel⟩
set_option maxRecDepth 100000 in
theorem qx_wfRX2_85 : Cond.fieldLink RX2 85 "ContractFrames$Frame" "member" "I" ∈ qx_BW := qx_in (i := 210) rfl rfl
theorem qx_gRX2_85 : qx_FG RX2 85 12 3 none := ⟨_, _, _, _, _, _, rfl, qx_cpX1, rfl, rfl, qx_wfRX2_85⟩
theorem qx_pRX2_85 : qx_FP RX2 85 12 3 .int := ⟨_, _, _, _, _, _, rfl, qx_cpX1, rfl, rfl, qx_wfRX2_85, rfl, by decide +kernel⟩
set_option maxRecDepth 100000 in
theorem qx_wfRX2_102 : Cond.fieldLink RX2 102 "ContractFrames$Frame" "value" "I" ∈ qx_BW := qx_in (i := 215) rfl rfl
theorem qx_gRX2_102 : qx_FG RX2 102 12 5 none := ⟨_, _, _, _, _, _, rfl, qx_cpX1, rfl, rfl, qx_wfRX2_102⟩
theorem qx_pRX2_102 : qx_FP RX2 102 12 5 .int := ⟨_, _, _, _, _, _, rfl, qx_cpX1, rfl, rfl, qx_wfRX2_102, rfl, by decide +kernel⟩
set_option maxRecDepth 100000 in
theorem qx_wfRX2_105 : Cond.fieldLink RX2 105 "ContractFrames$Frame" "ended" "Z" ∈ qx_BW := qx_in (i := 225) rfl rfl
theorem qx_gRX2_105 : qx_FG RX2 105 12 11 none := ⟨_, _, _, _, _, _, rfl, qx_cpX1, rfl, rfl, qx_wfRX2_105⟩
theorem qx_pRX2_105 : qx_FP RX2 105 12 11 .boolean := ⟨_, _, _, _, _, _, rfl, qx_cpX1, rfl, rfl, qx_wfRX2_105, rfl, by decide +kernel⟩
set_option maxRecDepth 100000 in
theorem qx_wfRX2_108 : Cond.fieldLink RX2 108 "ContractFrames$Frame" "position" "I" ∈ qx_BW := qx_in (i := 223) rfl rfl
theorem qx_gRX2_108 : qx_FG RX2 108 12 10 none := ⟨_, _, _, _, _, _, rfl, qx_cpX1, rfl, rfl, qx_wfRX2_108⟩
theorem qx_pRX2_108 : qx_FP RX2 108 12 10 .int := ⟨_, _, _, _, _, _, rfl, qx_cpX1, rfl, rfl, qx_wfRX2_108, rfl, by decide +kernel⟩
set_option maxRecDepth 100000 in
theorem qx_wfRX2_111 : Cond.fieldLink RX2 111 "ContractFrames$Member" "size" "I" ∈ qx_BW := qx_in (i := 72) rfl rfl
theorem qx_gRX2_111 : qx_FG RX2 111 17 3 none := ⟨_, _, _, _, _, _, rfl, qx_cpX3, rfl, rfl, qx_wfRX2_111⟩
theorem qx_pRX2_111 : qx_FP RX2 111 17 3 .int := ⟨_, _, _, _, _, _, rfl, qx_cpX3, rfl, rfl, qx_wfRX2_111, rfl, by decide +kernel⟩
set_option maxRecDepth 100000 in
theorem qx_wfRX2_120 : Cond.fieldLink RX2 120 "ContractFrames$Frame" "left" "I" ∈ qx_BW := qx_in (i := 221) rfl rfl
theorem qx_gRX2_120 : qx_FG RX2 120 12 9 none := ⟨_, _, _, _, _, _, rfl, qx_cpX1, rfl, rfl, qx_wfRX2_120⟩
theorem qx_pRX2_120 : qx_FP RX2 120 12 9 .int := ⟨_, _, _, _, _, _, rfl, qx_cpX1, rfl, rfl, qx_wfRX2_120, rfl, by decide +kernel⟩
set_option maxRecDepth 100000 in
theorem qx_wfRX6_20 : Cond.fieldLink RX6 20 "ContractFrames$World" "stores" "[I" ∈ qx_BW := qx_in (i := 114) rfl rfl
theorem qx_gRX6_20 : qx_FG RX6 20 3 0 (some 4) := ⟨_, _, _, _, _, _, rfl, qx_cpX8, rfl, rfl, qx_wfRX6_20⟩
set_option maxRecDepth 100000 in
theorem qx_wfRX6_27 : Cond.fieldLink RX6 27 "ContractFrames$World" "purses" "[I" ∈ qx_BW := qx_in (i := 118) rfl rfl
theorem qx_gRX6_27 : qx_FG RX6 27 3 1 (some 5) := ⟨_, _, _, _, _, _, rfl, qx_cpX8, rfl, rfl, qx_wfRX6_27⟩
set_option maxRecDepth 100000 in
theorem qx_wfRX6_28 : Cond.fieldLink RX6 28 "ContractFrames$World" "events" "I" ∈ qx_BW := qx_in (i := 123) rfl rfl
theorem qx_gRX6_28 : qx_FG RX6 28 3 3 none := ⟨_, _, _, _, _, _, rfl, qx_cpX8, rfl, rfl, qx_wfRX6_28⟩
theorem qx_pRX6_28 : qx_FP RX6 28 3 3 .int := ⟨_, _, _, _, _, _, rfl, qx_cpX8, rfl, rfl, qx_wfRX6_28, rfl, by decide +kernel⟩
set_option maxRecDepth 100000 in
theorem qx_wfRX6_32 : Cond.fieldLink RX6 32 "ContractFrames$Snapshot" "events" "I" ∈ qx_BW := qx_in (i := 268) rfl rfl
theorem qx_gRX6_32 : qx_FG RX6 32 14 2 none := ⟨_, _, _, _, _, _, rfl, qx_cpX6, rfl, rfl, qx_wfRX6_32⟩
theorem qx_pRX6_32 : qx_FP RX6 32 14 2 .int := ⟨_, _, _, _, _, _, rfl, qx_cpX6, rfl, rfl, qx_wfRX6_32, rfl, by decide +kernel⟩
set_option maxRecDepth 100000 in
theorem qx_wfRX6_33 : Cond.fieldLink RX6 33 "ContractFrames$World" "zeroings" "I" ∈ qx_BW := qx_in (i := 127) rfl rfl
theorem qx_gRX6_33 : qx_FG RX6 33 3 4 none := ⟨_, _, _, _, _, _, rfl, qx_cpX8, rfl, rfl, qx_wfRX6_33⟩
theorem qx_pRX6_33 : qx_FP RX6 33 3 4 .int := ⟨_, _, _, _, _, _, rfl, qx_cpX8, rfl, rfl, qx_wfRX6_33, rfl, by decide +kernel⟩
set_option maxRecDepth 100000 in
theorem qx_wfRX6_36 : Cond.fieldLink RX6 36 "ContractFrames$Snapshot" "zeroings" "I" ∈ qx_BW := qx_in (i := 269) rfl rfl
theorem qx_gRX6_36 : qx_FG RX6 36 14 3 none := ⟨_, _, _, _, _, _, rfl, qx_cpX6, rfl, rfl, qx_wfRX6_36⟩
theorem qx_pRX6_36 : qx_FP RX6 36 14 3 .int := ⟨_, _, _, _, _, _, rfl, qx_cpX6, rfl, rfl, qx_wfRX6_36, rfl, by decide +kernel⟩
set_option maxRecDepth 100000 in
theorem qx_wfRX5_42 : Cond.fieldLink RX5 42 "ContractFrames$Frame" "contract" "I" ∈ qx_BW := qx_in (i := 208) rfl rfl
theorem qx_gRX5_42 : qx_FG RX5 42 12 2 none := ⟨_, _, _, _, _, _, rfl, qx_cpX1, rfl, rfl, qx_wfRX5_42⟩
theorem qx_pRX5_42 : qx_FP RX5 42 12 2 .int := ⟨_, _, _, _, _, _, rfl, qx_cpX1, rfl, rfl, qx_wfRX5_42, rfl, by decide +kernel⟩
set_option maxRecDepth 100000 in
theorem qx_wfRX5_47 : Cond.fieldLink RX5 47 "ContractFrames$Frame" "member" "I" ∈ qx_BW := qx_in (i := 211) rfl rfl
theorem qx_gRX5_47 : qx_FG RX5 47 12 3 none := ⟨_, _, _, _, _, _, rfl, qx_cpX1, rfl, rfl, qx_wfRX5_47⟩
theorem qx_pRX5_47 : qx_FP RX5 47 12 3 .int := ⟨_, _, _, _, _, _, rfl, qx_cpX1, rfl, rfl, qx_wfRX5_47, rfl, by decide +kernel⟩
set_option maxRecDepth 100000 in
theorem qx_wfRX5_54 : Cond.fieldLink RX5 54 "ContractFrames$Frame" "threw" "I" ∈ qx_BW := qx_in (i := 227) rfl rfl
theorem qx_gRX5_54 : qx_FG RX5 54 12 12 none := ⟨_, _, _, _, _, _, rfl, qx_cpX1, rfl, rfl, qx_wfRX5_54⟩
theorem qx_pRX5_54 : qx_FP RX5 54 12 12 .int := ⟨_, _, _, _, _, _, rfl, qx_cpX1, rfl, rfl, qx_wfRX5_54, rfl, by decide +kernel⟩
set_option maxRecDepth 100000 in
theorem qx_wfRX5_57 : Cond.fieldLink RX5 57 "ContractFrames$Frame" "gave" "I" ∈ qx_BW := qx_in (i := 230) rfl rfl
theorem qx_gRX5_57 : qx_FG RX5 57 12 13 none := ⟨_, _, _, _, _, _, rfl, qx_cpX1, rfl, rfl, qx_wfRX5_57⟩
theorem qx_pRX5_57 : qx_FP RX5 57 12 13 .int := ⟨_, _, _, _, _, _, rfl, qx_cpX1, rfl, rfl, qx_wfRX5_57, rfl, by decide +kernel⟩
set_option maxRecDepth 100000 in
theorem qx_wfRX5_60 : Cond.fieldLink RX5 60 "ContractFrames$Frame" "onlyReads" "Z" ∈ qx_BW := qx_in (i := 218) rfl rfl
theorem qx_gRX5_60 : qx_FG RX5 60 12 7 none := ⟨_, _, _, _, _, _, rfl, qx_cpX1, rfl, rfl, qx_wfRX5_60⟩
theorem qx_pRX5_60 : qx_FP RX5 60 12 7 .boolean := ⟨_, _, _, _, _, _, rfl, qx_cpX1, rfl, rfl, qx_wfRX5_60, rfl, by decide +kernel⟩
set_option maxRecDepth 100000 in
theorem qx_wfRX2_236 : Cond.fieldLink RX2 236 "ContractFrames$Frame" "threw" "I" ∈ qx_BW := qx_in (i := 228) rfl rfl
theorem qx_gRX2_236 : qx_FG RX2 236 12 12 none := ⟨_, _, _, _, _, _, rfl, qx_cpX1, rfl, rfl, qx_wfRX2_236⟩
theorem qx_pRX2_236 : qx_FP RX2 236 12 12 .int := ⟨_, _, _, _, _, _, rfl, qx_cpX1, rfl, rfl, qx_wfRX2_236, rfl, by decide +kernel⟩
set_option maxRecDepth 100000 in
theorem qx_wfRX2_239 : Cond.fieldLink RX2 239 "ContractFrames$Frame" "gave" "I" ∈ qx_BW := qx_in (i := 231) rfl rfl
theorem qx_gRX2_239 : qx_FG RX2 239 12 13 none := ⟨_, _, _, _, _, _, rfl, qx_cpX1, rfl, rfl, qx_wfRX2_239⟩
theorem qx_pRX2_239 : qx_FP RX2 239 12 13 .int := ⟨_, _, _, _, _, _, rfl, qx_cpX1, rfl, rfl, qx_wfRX2_239, rfl, by decide +kernel⟩
set_option maxRecDepth 100000 in
theorem qx_wfRX2_248 : Cond.fieldLink RX2 248 "ContractFrames$Member" "guarded" "Z" ∈ qx_BW := qx_in (i := 76) rfl rfl
theorem qx_gRX2_248 : qx_FG RX2 248 17 4 none := ⟨_, _, _, _, _, _, rfl, qx_cpX3, rfl, rfl, qx_wfRX2_248⟩
theorem qx_pRX2_248 : qx_FP RX2 248 17 4 .boolean := ⟨_, _, _, _, _, _, rfl, qx_cpX3, rfl, rfl, qx_wfRX2_248, rfl, by decide +kernel⟩
set_option maxRecDepth 100000 in
theorem qx_wfRX2_143 : Cond.fieldLink RX2 143 "ContractFrames$Member" "codes" "[I" ∈ qx_BW := qx_in (i := 65) rfl rfl
theorem qx_gRX2_143 : qx_FG RX2 143 17 0 (some 18) := ⟨_, _, _, _, _, _, rfl, qx_cpX3, rfl, rfl, qx_wfRX2_143⟩
set_option maxRecDepth 100000 in
theorem qx_wfRX2_147 : Cond.fieldLink RX2 147 "ContractFrames$Member" "firsts" "[I" ∈ qx_BW := qx_in (i := 67) rfl rfl
theorem qx_gRX2_147 : qx_FG RX2 147 17 1 (some 19) := ⟨_, _, _, _, _, _, rfl, qx_cpX3, rfl, rfl, qx_wfRX2_147⟩
set_option maxRecDepth 100000 in
theorem qx_wfRX2_150 : Cond.fieldLink RX2 150 "ContractFrames$Frame" "height" "I" ∈ qx_BW := qx_in (i := 205) rfl rfl
theorem qx_gRX2_150 : qx_FG RX2 150 12 1 none := ⟨_, _, _, _, _, _, rfl, qx_cpX1, rfl, rfl, qx_wfRX2_150⟩
theorem qx_pRX2_150 : qx_FP RX2 150 12 1 .int := ⟨_, _, _, _, _, _, rfl, qx_cpX1, rfl, rfl, qx_wfRX2_150, rfl, by decide +kernel⟩
set_option maxRecDepth 100000 in
theorem qx_wfRX2_177 : Cond.fieldLink RX2 177 "ContractFrames$Member" "seconds" "[I" ∈ qx_BW := qx_in (i := 69) rfl rfl
theorem qx_gRX2_177 : qx_FG RX2 177 17 2 (some 20) := ⟨_, _, _, _, _, _, rfl, qx_cpX3, rfl, rfl, qx_wfRX2_177⟩
set_option maxRecDepth 100000 in
theorem qx_wfRX2_188 : Cond.fieldLink RX2 188 "ContractFrames$Frame" "argument" "I" ∈ qx_BW := qx_in (i := 213) rfl rfl
theorem qx_gRX2_188 : qx_FG RX2 188 12 4 none := ⟨_, _, _, _, _, _, rfl, qx_cpX1, rfl, rfl, qx_wfRX2_188⟩
theorem qx_pRX2_188 : qx_FP RX2 188 12 4 .int := ⟨_, _, _, _, _, _, rfl, qx_cpX1, rfl, rfl, qx_wfRX2_188, rfl, by decide +kernel⟩
set_option maxRecDepth 100000 in
theorem qx_wfRX2_191 : Cond.fieldLink RX2 191 "ContractFrames$World" "purses" "[I" ∈ qx_BW := qx_in (i := 119) rfl rfl
theorem qx_gRX2_191 : qx_FG RX2 191 3 1 (some 5) := ⟨_, _, _, _, _, _, rfl, qx_cpX8, rfl, rfl, qx_wfRX2_191⟩
set_option maxRecDepth 100000 in
theorem qx_wfRX2_194 : Cond.fieldLink RX2 194 "ContractFrames$World" "stores" "[I" ∈ qx_BW := qx_in (i := 115) rfl rfl
theorem qx_gRX2_194 : qx_FG RX2 194 3 0 (some 4) := ⟨_, _, _, _, _, _, rfl, qx_cpX8, rfl, rfl, qx_wfRX2_194⟩
set_option maxRecDepth 100000 in
theorem qx_wfRX2_219 : Cond.fieldLink RX2 219 "ContractFrames$World" "events" "I" ∈ qx_BW := qx_in (i := 126) rfl rfl
theorem qx_gRX2_219 : qx_FG RX2 219 3 3 none := ⟨_, _, _, _, _, _, rfl, qx_cpX8, rfl, rfl, qx_wfRX2_219⟩
theorem qx_pRX2_219 : qx_FP RX2 219 3 3 .int := ⟨_, _, _, _, _, _, rfl, qx_cpX8, rfl, rfl, qx_wfRX2_219, rfl, by decide +kernel⟩
set_option maxRecDepth 100000 in
theorem qx_wfRX5_13 : Cond.fieldLink RX5 13 "ContractFrames$Report" "made" "Z" ∈ qx_BW := qx_in (i := 149) rfl rfl
theorem qx_gRX5_13 : qx_FG RX5 13 7 1 none := ⟨_, _, _, _, _, _, rfl, qx_cpX5, rfl, rfl, qx_wfRX5_13⟩
theorem qx_pRX5_13 : qx_FP RX5 13 7 1 .boolean := ⟨_, _, _, _, _, _, rfl, qx_cpX5, rfl, rfl, qx_wfRX5_13, rfl, by decide +kernel⟩
set_option maxRecDepth 100000 in
theorem qx_wfRX5_67 : Cond.fieldLink RX5 67 "ContractFrames$Report" "threw" "Z" ∈ qx_BW := qx_in (i := 152) rfl rfl
theorem qx_gRX5_67 : qx_FG RX5 67 7 2 none := ⟨_, _, _, _, _, _, rfl, qx_cpX5, rfl, rfl, qx_wfRX5_67⟩
theorem qx_pRX5_67 : qx_FP RX5 67 7 2 .boolean := ⟨_, _, _, _, _, _, rfl, qx_cpX5, rfl, rfl, qx_wfRX5_67, rfl, by decide +kernel⟩
set_option maxRecDepth 100000 in
theorem qx_wfRX5_69 : Cond.fieldLink RX5 69 "ContractFrames$Report" "result" "I" ∈ qx_BW := qx_in (i := 153) rfl rfl
theorem qx_gRX5_69 : qx_FG RX5 69 7 3 none := ⟨_, _, _, _, _, _, rfl, qx_cpX5, rfl, rfl, qx_wfRX5_69⟩
theorem qx_pRX5_69 : qx_FP RX5 69 7 3 .int := ⟨_, _, _, _, _, _, rfl, qx_cpX5, rfl, rfl, qx_wfRX5_69, rfl, by decide +kernel⟩
set_option maxRecDepth 100000 in
theorem qx_wfRX5_72 : Cond.fieldLink RX5 72 "ContractFrames$Report" "used" "I" ∈ qx_BW := qx_in (i := 155) rfl rfl
theorem qx_gRX5_72 : qx_FG RX5 72 7 4 none := ⟨_, _, _, _, _, _, rfl, qx_cpX5, rfl, rfl, qx_wfRX5_72⟩
theorem qx_pRX5_72 : qx_FP RX5 72 7 4 .int := ⟨_, _, _, _, _, _, rfl, qx_cpX5, rfl, rfl, qx_wfRX5_72, rfl, by decide +kernel⟩
set_option maxRecDepth 100000 in
theorem qx_wfRX5_74 : Cond.fieldLink RX5 74 "ContractFrames$Report" "backToUser" "I" ∈ qx_BW := qx_in (i := 157) rfl rfl
theorem qx_gRX5_74 : qx_FG RX5 74 7 5 none := ⟨_, _, _, _, _, _, rfl, qx_cpX5, rfl, rfl, qx_wfRX5_74⟩
theorem qx_pRX5_74 : qx_FP RX5 74 7 5 .int := ⟨_, _, _, _, _, _, rfl, qx_cpX5, rfl, rfl, qx_wfRX5_74, rfl, by decide +kernel⟩
set_option maxRecDepth 100000 in
theorem qx_wfRX5_21 : Cond.fieldLink RX5 21 "ContractFrames$Report" "callsThatThrew" "I" ∈ qx_BW := qx_in (i := 165) rfl rfl
theorem qx_gRX5_21 : qx_FG RX5 21 7 9 none := ⟨_, _, _, _, _, _, rfl, qx_cpX5, rfl, rfl, qx_wfRX5_21⟩
theorem qx_pRX5_21 : qx_FP RX5 21 7 9 .int := ⟨_, _, _, _, _, _, rfl, qx_cpX5, rfl, rfl, qx_wfRX5_21, rfl, by decide +kernel⟩
set_option maxRecDepth 100000 in
theorem qx_wfRX5_17 : Cond.fieldLink RX5 17 "ContractFrames$Report" "callsThatGave" "I" ∈ qx_BW := qx_in (i := 163) rfl rfl
theorem qx_gRX5_17 : qx_FG RX5 17 7 8 none := ⟨_, _, _, _, _, _, rfl, qx_cpX5, rfl, rfl, qx_wfRX5_17⟩
theorem qx_pRX5_17 : qx_FP RX5 17 7 8 .int := ⟨_, _, _, _, _, _, rfl, qx_cpX5, rfl, rfl, qx_wfRX5_17, rfl, by decide +kernel⟩
set_option maxRecDepth 100000 in
theorem qx_wfRX10_156 : Cond.fieldLink RX10 156 "ContractFramesModel" "deep" "I" ∈ qx_BW := qx_in (i := 588) rfl rfl
theorem qx_gRX10_156 : qx_FG RX10 156 30 12 none := ⟨_, _, _, _, _, _, rfl, qx_cpX10, rfl, rfl, qx_wfRX10_156⟩
theorem qx_pRX10_156 : qx_FP RX10 156 30 12 .int := ⟨_, _, _, _, _, _, rfl, qx_cpX10, rfl, rfl, qx_wfRX10_156, rfl, by decide +kernel⟩
set_option maxRecDepth 100000 in
theorem qx_wfRX10_163 : Cond.fieldLink RX10 163 "ContractFramesModel" "deepest" "I" ∈ qx_BW := qx_in (i := 613) rfl rfl
theorem qx_gRX10_163 : qx_FG RX10 163 30 37 none := ⟨_, _, _, _, _, _, rfl, qx_cpX10, rfl, rfl, qx_wfRX10_163⟩
theorem qx_pRX10_163 : qx_FP RX10 163 30 37 .int := ⟨_, _, _, _, _, _, rfl, qx_cpX10, rfl, rfl, qx_wfRX10_163, rfl, by decide +kernel⟩
set_option maxRecDepth 100000 in
theorem qx_wfRX10_153 : Cond.fieldLink RX10 153 "ContractFramesModel" "freed" "I" ∈ qx_BW := qx_in (i := 611) rfl rfl
theorem qx_gRX10_153 : qx_FG RX10 153 30 35 none := ⟨_, _, _, _, _, _, rfl, qx_cpX10, rfl, rfl, qx_wfRX10_153⟩
theorem qx_pRX10_153 : qx_FP RX10 153 30 35 .int := ⟨_, _, _, _, _, _, rfl, qx_cpX10, rfl, rfl, qx_wfRX10_153, rfl, by decide +kernel⟩
set_option maxRecDepth 100000 in
theorem qx_wfRX10_169 : Cond.fieldLink RX10 169 "ContractFramesModel" "lastUsed" "I" ∈ qx_BW := qx_in (i := 622) rfl rfl
theorem qx_gRX10_169 : qx_FG RX10 169 30 46 none := ⟨_, _, _, _, _, _, rfl, qx_cpX10, rfl, rfl, qx_wfRX10_169⟩
theorem qx_pRX10_169 : qx_FP RX10 169 30 46 .int := ⟨_, _, _, _, _, _, rfl, qx_cpX10, rfl, rfl, qx_wfRX10_169, rfl, by decide +kernel⟩
set_option maxRecDepth 100000 in
theorem qx_wfRX10_229 : Cond.fieldLink RX10 229 "ContractFramesModel" "lastBack" "I" ∈ qx_BW := qx_in (i := 623) rfl rfl
theorem qx_gRX10_229 : qx_FG RX10 229 30 47 none := ⟨_, _, _, _, _, _, rfl, qx_cpX10, rfl, rfl, qx_wfRX10_229⟩
theorem qx_pRX10_229 : qx_FP RX10 229 30 47 .int := ⟨_, _, _, _, _, _, rfl, qx_cpX10, rfl, rfl, qx_wfRX10_229, rfl, by decide +kernel⟩
set_option maxRecDepth 100000 in
theorem qx_wfRX10_172 : Cond.fieldLink RX10 172 "ContractFramesModel" "lastThrew" "I" ∈ qx_BW := qx_in (i := 624) rfl rfl
theorem qx_gRX10_172 : qx_FG RX10 172 30 48 none := ⟨_, _, _, _, _, _, rfl, qx_cpX10, rfl, rfl, qx_wfRX10_172⟩
theorem qx_pRX10_172 : qx_FP RX10 172 30 48 .int := ⟨_, _, _, _, _, _, rfl, qx_cpX10, rfl, rfl, qx_wfRX10_172, rfl, by decide +kernel⟩
set_option maxRecDepth 100000 in
theorem qx_wfRX10_175 : Cond.fieldLink RX10 175 "ContractFramesModel" "lastWhat" "I" ∈ qx_BW := qx_in (i := 621) rfl rfl
theorem qx_gRX10_175 : qx_FG RX10 175 30 45 none := ⟨_, _, _, _, _, _, rfl, qx_cpX10, rfl, rfl, qx_wfRX10_175⟩
theorem qx_pRX10_175 : qx_FP RX10 175 30 45 .int := ⟨_, _, _, _, _, _, rfl, qx_cpX10, rfl, rfl, qx_wfRX10_175, rfl, by decide +kernel⟩
set_option maxRecDepth 100000 in
theorem qx_wfRX9_84 : Cond.fieldLink RX9 84 "ContractFrames$Report" "made" "Z" ∈ qx_BW := qx_in (i := 150) rfl rfl
theorem qx_gRX9_84 : qx_FG RX9 84 7 1 none := ⟨_, _, _, _, _, _, rfl, qx_cpX5, rfl, rfl, qx_wfRX9_84⟩
theorem qx_pRX9_84 : qx_FP RX9 84 7 1 .boolean := ⟨_, _, _, _, _, _, rfl, qx_cpX5, rfl, rfl, qx_wfRX9_84, rfl, by decide +kernel⟩
set_option maxRecDepth 100000 in
theorem qx_wfRX9_87 : Cond.fieldLink RX9 87 "ContractFrames$Report" "result" "I" ∈ qx_BW := qx_in (i := 154) rfl rfl
theorem qx_gRX9_87 : qx_FG RX9 87 7 3 none := ⟨_, _, _, _, _, _, rfl, qx_cpX5, rfl, rfl, qx_wfRX9_87⟩
theorem qx_pRX9_87 : qx_FP RX9 87 7 3 .int := ⟨_, _, _, _, _, _, rfl, qx_cpX5, rfl, rfl, qx_wfRX9_87, rfl, by decide +kernel⟩
set_option maxRecDepth 100000 in
theorem qx_wfRX9_90 : Cond.fieldLink RX9 90 "ContractFrames$Report" "used" "I" ∈ qx_BW := qx_in (i := 156) rfl rfl
theorem qx_gRX9_90 : qx_FG RX9 90 7 4 none := ⟨_, _, _, _, _, _, rfl, qx_cpX5, rfl, rfl, qx_wfRX9_90⟩
theorem qx_pRX9_90 : qx_FP RX9 90 7 4 .int := ⟨_, _, _, _, _, _, rfl, qx_cpX5, rfl, rfl, qx_wfRX9_90, rfl, by decide +kernel⟩
set_option maxRecDepth 100000 in
theorem qx_wfRX9_93 : Cond.fieldLink RX9 93 "ContractFrames$Report" "backToUser" "I" ∈ qx_BW := qx_in (i := 158) rfl rfl
theorem qx_gRX9_93 : qx_FG RX9 93 7 5 none := ⟨_, _, _, _, _, _, rfl, qx_cpX5, rfl, rfl, qx_wfRX9_93⟩
theorem qx_pRX9_93 : qx_FP RX9 93 7 5 .int := ⟨_, _, _, _, _, _, rfl, qx_cpX5, rfl, rfl, qx_wfRX9_93, rfl, by decide +kernel⟩
set_option maxRecDepth 100000 in
theorem qx_wfRX9_96 : Cond.fieldLink RX9 96 "ContractFrames$Report" "entered" "I" ∈ qx_BW := qx_in (i := 160) rfl rfl
theorem qx_gRX9_96 : qx_FG RX9 96 7 6 none := ⟨_, _, _, _, _, _, rfl, qx_cpX5, rfl, rfl, qx_wfRX9_96⟩
theorem qx_pRX9_96 : qx_FP RX9 96 7 6 .int := ⟨_, _, _, _, _, _, rfl, qx_cpX5, rfl, rfl, qx_wfRX9_96, rfl, by decide +kernel⟩
set_option maxRecDepth 100000 in
theorem qx_wfRX9_99 : Cond.fieldLink RX9 99 "ContractFrames$Report" "deepest" "I" ∈ qx_BW := qx_in (i := 162) rfl rfl
theorem qx_gRX9_99 : qx_FG RX9 99 7 7 none := ⟨_, _, _, _, _, _, rfl, qx_cpX5, rfl, rfl, qx_wfRX9_99⟩
theorem qx_pRX9_99 : qx_FP RX9 99 7 7 .int := ⟨_, _, _, _, _, _, rfl, qx_cpX5, rfl, rfl, qx_wfRX9_99, rfl, by decide +kernel⟩
set_option maxRecDepth 100000 in
theorem qx_wfRX9_102 : Cond.fieldLink RX9 102 "ContractFrames$World" "events" "I" ∈ qx_BW := qx_in (i := 125) rfl rfl
theorem qx_gRX9_102 : qx_FG RX9 102 3 3 none := ⟨_, _, _, _, _, _, rfl, qx_cpX8, rfl, rfl, qx_wfRX9_102⟩
theorem qx_pRX9_102 : qx_FP RX9 102 3 3 .int := ⟨_, _, _, _, _, _, rfl, qx_cpX8, rfl, rfl, qx_wfRX9_102, rfl, by decide +kernel⟩
set_option maxRecDepth 100000 in
theorem qx_wfRX9_109 : Cond.fieldLink RX9 109 "ContractFrames$Report" "rows" "[I" ∈ qx_BW := qx_in (i := 148) rfl rfl
theorem qx_gRX9_109 : qx_FG RX9 109 7 0 (some 8) := ⟨_, _, _, _, _, _, rfl, qx_cpX5, rfl, rfl, qx_wfRX9_109⟩
set_option maxRecDepth 100000 in
theorem qx_wfRX9_113 : Cond.fieldLink RX9 113 "ContractFrames$World" "eventRows" "[I" ∈ qx_BW := qx_in (i := 122) rfl rfl
theorem qx_gRX9_113 : qx_FG RX9 113 3 2 (some 6) := ⟨_, _, _, _, _, _, rfl, qx_cpX8, rfl, rfl, qx_wfRX9_113⟩
set_option maxRecDepth 100000 in
theorem qx_wfRX9_120 : Cond.fieldLink RX9 120 "ContractFrames$World" "stores" "[I" ∈ qx_BW := qx_in (i := 116) rfl rfl
theorem qx_gRX9_120 : qx_FG RX9 120 3 0 (some 4) := ⟨_, _, _, _, _, _, rfl, qx_cpX8, rfl, rfl, qx_wfRX9_120⟩
set_option maxRecDepth 100000 in
theorem qx_wfRX9_129 : Cond.fieldLink RX9 129 "ContractFrames$Report" "callsThatGave" "I" ∈ qx_BW := qx_in (i := 164) rfl rfl
theorem qx_gRX9_129 : qx_FG RX9 129 7 8 none := ⟨_, _, _, _, _, _, rfl, qx_cpX5, rfl, rfl, qx_wfRX9_129⟩
theorem qx_pRX9_129 : qx_FP RX9 129 7 8 .int := ⟨_, _, _, _, _, _, rfl, qx_cpX5, rfl, rfl, qx_wfRX9_129, rfl, by decide +kernel⟩
set_option maxRecDepth 100000 in
theorem qx_wfRX9_132 : Cond.fieldLink RX9 132 "ContractFrames$Report" "callsThatThrew" "I" ∈ qx_BW := qx_in (i := 166) rfl rfl
theorem qx_gRX9_132 : qx_FG RX9 132 7 9 none := ⟨_, _, _, _, _, _, rfl, qx_cpX5, rfl, rfl, qx_wfRX9_132⟩
theorem qx_pRX9_132 : qx_FP RX9 132 7 9 .int := ⟨_, _, _, _, _, _, rfl, qx_cpX5, rfl, rfl, qx_wfRX9_132, rfl, by decide +kernel⟩
set_option maxRecDepth 100000 in
theorem qx_wfRX4_22 : Cond.fieldLink RX4 22 "ContractFrames$Member" "size" "I" ∈ qx_BW := qx_in (i := 73) rfl rfl
theorem qx_gRX4_22 : qx_FG RX4 22 17 3 none := ⟨_, _, _, _, _, _, rfl, qx_cpX3, rfl, rfl, qx_wfRX4_22⟩
theorem qx_pRX4_22 : qx_FP RX4 22 17 3 .int := ⟨_, _, _, _, _, _, rfl, qx_cpX3, rfl, rfl, qx_wfRX4_22, rfl, by decide +kernel⟩
set_option maxRecDepth 100000 in
theorem qx_wfRX4_25 : Cond.fieldLink RX4 25 "ContractFrames$Member" "guarded" "Z" ∈ qx_BW := qx_in (i := 75) rfl rfl
theorem qx_gRX4_25 : qx_FG RX4 25 17 4 none := ⟨_, _, _, _, _, _, rfl, qx_cpX3, rfl, rfl, qx_wfRX4_25⟩
theorem qx_pRX4_25 : qx_FP RX4 25 17 4 .boolean := ⟨_, _, _, _, _, _, rfl, qx_cpX3, rfl, rfl, qx_wfRX4_25, rfl, by decide +kernel⟩
abbrev qx_w (y : MethodName) (b : ByteArray) (n : Nat) (r : Option FieldType) : List Cond := Cond.code y b n r :: qx_BW
def qx_MH (y : MethodName) (k : Nat) : Prop := y.cls ≠ "java/lang/invoke/MethodHandle" ∧ y.cls ≠ "java/lang/invoke/VarHandle" ∧ (parseMethodDescriptor y.desc).map (fun d => d.parameters.length) = some k
/-- a method with code, its parameters, whether static -/
def qx_MC (y : MethodName) (b : ByteArray) (n : Nat) (r : Option FieldType) (k : Nat) : Prop := Cond.code y b n r ∈ qx_BW ∧ Cond.initialized y.cls ∈ qx_BW ∧ qx_MH y k ∧ plainName y.cls = true
set_option maxRecDepth 100000 in
theorem qx_mcX0_fits : qx_MC yX0_fits cX0_fits 3 (some .boolean) 3 := ⟨qx_in (i := 329) rfl rfl, qx_in (i := 40) rfl rfl, ⟨by decide +kernel, by decide +kernel, by decide +kernel⟩, by decide +kernel⟩
set_option maxRecDepth 100000 in
theorem qx_sX0_fits : Cond.static yX0_fits ∈ qx_BW := qx_in (i := 328) rfl rfl
set_option maxRecDepth 100000 in
theorem qx_mcX0_writes : qx_MC yX0_writes cX0_writes 1 (some .boolean) 1 := ⟨qx_in (i := 418) rfl rfl, qx_in (i := 40) rfl rfl, ⟨by decide +kernel, by decide +kernel, by decide +kernel⟩, by decide +kernel⟩
set_option maxRecDepth 100000 in
theorem qx_sX0_writes : Cond.static yX0_writes ∈ qx_BW := qx_in (i := 417) rfl rfl
set_option maxRecDepth 100000 in
theorem qx_mcX0_fitsStack : qx_MC yX0_fitsStack cX0_fitsStack 2 (some .boolean) 2 := ⟨qx_in (i := 411) rfl rfl, qx_in (i := 40) rfl rfl, ⟨by decide +kernel, by decide +kernel, by decide +kernel⟩, by decide +kernel⟩
set_option maxRecDepth 100000 in
theorem qx_sX0_fitsStack : Cond.static yX0_fitsStack ∈ qx_BW := qx_in (i := 410) rfl rfl
set_option maxRecDepth 100000 in
theorem qx_mcX1_init : qx_MC yX1_init cX1_init 1 none 0 := ⟨qx_in (i := 201) rfl rfl, qx_in (i := 37) rfl rfl, ⟨by decide +kernel, by decide +kernel, by decide +kernel⟩, by decide +kernel⟩
set_option maxRecDepth 100000 in
theorem qx_iX1_init : Cond.instanceMethod yX1_init ∈ qx_BW := qx_in (i := 200) rfl rfl
set_option maxRecDepth 100000 in
theorem qx_mcX1_begin : qx_MC yX1_begin cX1_begin 6 none 5 := ⟨qx_in (i := 373) rfl rfl, qx_in (i := 37) rfl rfl, ⟨by decide +kernel, by decide +kernel, by decide +kernel⟩, by decide +kernel⟩
set_option maxRecDepth 100000 in
theorem qx_iX1_begin : Cond.instanceMethod yX1_begin ∈ qx_BW := qx_in (i := 371) rfl rfl
set_option maxRecDepth 100000 in
theorem qx_selX1_begin : Cond.selects RX1 yX1_begin yX1_begin ∈ qx_BW := qx_in (i := 372) rfl rfl
set_option maxRecDepth 100000 in
theorem qx_mcX1_used : qx_MC yX1_used cX1_used 1 (some .int) 0 := ⟨qx_in (i := 470) rfl rfl, qx_in (i := 37) rfl rfl, ⟨by decide +kernel, by decide +kernel, by decide +kernel⟩, by decide +kernel⟩
set_option maxRecDepth 100000 in
theorem qx_iX1_used : Cond.instanceMethod yX1_used ∈ qx_BW := qx_in (i := 468) rfl rfl
set_option maxRecDepth 100000 in
theorem qx_selX1_used : Cond.selects RX1 yX1_used yX1_used ∈ qx_BW := qx_in (i := 469) rfl rfl
set_option maxRecDepth 100000 in
theorem qx_mcX1_hasThrown : qx_MC yX1_hasThrown cX1_hasThrown 1 (some .boolean) 0 := ⟨qx_in (i := 474) rfl rfl, qx_in (i := 37) rfl rfl, ⟨by decide +kernel, by decide +kernel, by decide +kernel⟩, by decide +kernel⟩
set_option maxRecDepth 100000 in
theorem qx_iX1_hasThrown : Cond.instanceMethod yX1_hasThrown ∈ qx_BW := qx_in (i := 472) rfl rfl
set_option maxRecDepth 100000 in
theorem qx_selX1_hasThrown : Cond.selects RX1 yX1_hasThrown yX1_hasThrown ∈ qx_BW := qx_in (i := 473) rfl rfl
set_option maxRecDepth 100000 in
theorem qx_mcX1_put : qx_MC yX1_put cX1_put 2 none 1 := ⟨qx_in (i := 426) rfl rfl, qx_in (i := 37) rfl rfl, ⟨by decide +kernel, by decide +kernel, by decide +kernel⟩, by decide +kernel⟩
set_option maxRecDepth 100000 in
theorem qx_iX1_put : Cond.instanceMethod yX1_put ∈ qx_BW := qx_in (i := 424) rfl rfl
set_option maxRecDepth 100000 in
theorem qx_selX1_put : Cond.selects RX1 yX1_put yX1_put ∈ qx_BW := qx_in (i := 425) rfl rfl
set_option maxRecDepth 100000 in
theorem qx_mcX1_take : qx_MC yX1_take cX1_take 1 (some .int) 0 := ⟨qx_in (i := 433) rfl rfl, qx_in (i := 37) rfl rfl, ⟨by decide +kernel, by decide +kernel, by decide +kernel⟩, by decide +kernel⟩
set_option maxRecDepth 100000 in
theorem qx_iX1_take : Cond.instanceMethod yX1_take ∈ qx_BW := qx_in (i := 431) rfl rfl
set_option maxRecDepth 100000 in
theorem qx_selX1_take : Cond.selects RX1 yX1_take yX1_take ∈ qx_BW := qx_in (i := 432) rfl rfl
set_option maxRecDepth 100000 in
theorem qx_mcX1_endGiving : qx_MC yX1_endGiving cX1_endGiving 2 none 1 := ⟨qx_in (i := 400) rfl rfl, qx_in (i := 37) rfl rfl, ⟨by decide +kernel, by decide +kernel, by decide +kernel⟩, by decide +kernel⟩
set_option maxRecDepth 100000 in
theorem qx_iX1_endGiving : Cond.instanceMethod yX1_endGiving ∈ qx_BW := qx_in (i := 398) rfl rfl
set_option maxRecDepth 100000 in
theorem qx_selX1_endGiving : Cond.selects RX1 yX1_endGiving yX1_endGiving ∈ qx_BW := qx_in (i := 399) rfl rfl
set_option maxRecDepth 100000 in
theorem qx_mcX1_endThrowing : qx_MC yX1_endThrowing cX1_endThrowing 2 none 1 := ⟨qx_in (i := 404) rfl rfl, qx_in (i := 37) rfl rfl, ⟨by decide +kernel, by decide +kernel, by decide +kernel⟩, by decide +kernel⟩
set_option maxRecDepth 100000 in
theorem qx_iX1_endThrowing : Cond.instanceMethod yX1_endThrowing ∈ qx_BW := qx_in (i := 402) rfl rfl
set_option maxRecDepth 100000 in
theorem qx_selX1_endThrowing : Cond.selects RX1 yX1_endThrowing yX1_endThrowing ∈ qx_BW := qx_in (i := 403) rfl rfl
set_option maxRecDepth 100000 in
theorem qx_mcX2_init : qx_MC yX2_init cX2_init 5 none 3 := ⟨qx_in (i := 192) rfl rfl, qx_in (i := 36) rfl rfl, ⟨by decide +kernel, by decide +kernel, by decide +kernel⟩, by decide +kernel⟩
set_option maxRecDepth 100000 in
theorem qx_iX2_init : Cond.instanceMethod yX2_init ∈ qx_BW := qx_in (i := 191) rfl rfl
set_option maxRecDepth 100000 in
theorem qx_mcX2_runForUser : qx_MC yX2_runForUser cX2_runForUser 10 none 6 := ⟨qx_in (i := 361) rfl rfl, qx_in (i := 36) rfl rfl, ⟨by decide +kernel, by decide +kernel, by decide +kernel⟩, by decide +kernel⟩
set_option maxRecDepth 100000 in
theorem qx_iX2_runForUser : Cond.instanceMethod yX2_runForUser ∈ qx_BW := qx_in (i := 359) rfl rfl
set_option maxRecDepth 100000 in
theorem qx_selX2_runForUser : Cond.selects RX2 yX2_runForUser yX2_runForUser ∈ qx_BW := qx_in (i := 360) rfl rfl
set_option maxRecDepth 100000 in
theorem qx_mcX2_runFrame : qx_MC yX2_runFrame cX2_runFrame 8 none 2 := ⟨qx_in (i := 377) rfl rfl, qx_in (i := 36) rfl rfl, ⟨by decide +kernel, by decide +kernel, by decide +kernel⟩, by decide +kernel⟩
set_option maxRecDepth 100000 in
theorem qx_iX2_runFrame : Cond.instanceMethod yX2_runFrame ∈ qx_BW := qx_in (i := 376) rfl rfl
set_option maxRecDepth 100000 in
theorem qx_selX2_runFrame : Cond.selects RX2 yX2_runFrame yX2_runFrame ∈ qx_BW := qx_in (i := 3) rfl rfl
set_option maxRecDepth 100000 in
theorem qx_mcX2_doStep : qx_MC yX2_doStep cX2_doStep 7 none 3 := ⟨qx_in (i := 408) rfl rfl, qx_in (i := 36) rfl rfl, ⟨by decide +kernel, by decide +kernel, by decide +kernel⟩, by decide +kernel⟩
set_option maxRecDepth 100000 in
theorem qx_iX2_doStep : Cond.instanceMethod yX2_doStep ∈ qx_BW := qx_in (i := 407) rfl rfl
set_option maxRecDepth 100000 in
theorem qx_selX2_doStep : Cond.selects RX2 yX2_doStep yX2_doStep ∈ qx_BW := qx_in (i := 4) rfl rfl
set_option maxRecDepth 100000 in
theorem qx_mcX2_numberFor : qx_MC yX2_numberFor cX2_numberFor 4 (some .int) 3 := ⟨qx_in (i := 422) rfl rfl, qx_in (i := 36) rfl rfl, ⟨by decide +kernel, by decide +kernel, by decide +kernel⟩, by decide +kernel⟩
set_option maxRecDepth 100000 in
theorem qx_iX2_numberFor : Cond.instanceMethod yX2_numberFor ∈ qx_BW := qx_in (i := 421) rfl rfl
set_option maxRecDepth 100000 in
theorem qx_selX2_numberFor : Cond.selects RX2 yX2_numberFor yX2_numberFor ∈ qx_BW := qx_in (i := 5) rfl rfl
set_option maxRecDepth 100000 in
theorem qx_mcX2_combine : qx_MC yX2_combine cX2_combine 4 none 2 := ⟨qx_in (i := 429) rfl rfl, qx_in (i := 36) rfl rfl, ⟨by decide +kernel, by decide +kernel, by decide +kernel⟩, by decide +kernel⟩
set_option maxRecDepth 100000 in
theorem qx_sX2_combine : Cond.static yX2_combine ∈ qx_BW := qx_in (i := 428) rfl rfl
set_option maxRecDepth 100000 in
theorem qx_mcX2_divide : qx_MC yX2_divide cX2_divide 3 none 3 := ⟨qx_in (i := 436) rfl rfl, qx_in (i := 36) rfl rfl, ⟨by decide +kernel, by decide +kernel, by decide +kernel⟩, by decide +kernel⟩
set_option maxRecDepth 100000 in
theorem qx_sX2_divide : Cond.static yX2_divide ∈ qx_BW := qx_in (i := 435) rfl rfl
set_option maxRecDepth 100000 in
theorem qx_mcX2_combined : qx_MC yX2_combined cX2_combined 3 (some .int) 3 := ⟨qx_in (i := 439) rfl rfl, qx_in (i := 36) rfl rfl, ⟨by decide +kernel, by decide +kernel, by decide +kernel⟩, by decide +kernel⟩
set_option maxRecDepth 100000 in
theorem qx_sX2_combined : Cond.static yX2_combined ∈ qx_BW := qx_in (i := 438) rfl rfl
set_option maxRecDepth 100000 in
theorem qx_mcX2_arrange : qx_MC yX2_arrange cX2_arrange 5 none 3 := ⟨qx_in (i := 442) rfl rfl, qx_in (i := 36) rfl rfl, ⟨by decide +kernel, by decide +kernel, by decide +kernel⟩, by decide +kernel⟩
set_option maxRecDepth 100000 in
theorem qx_sX2_arrange : Cond.static yX2_arrange ∈ qx_BW := qx_in (i := 441) rfl rfl
set_option maxRecDepth 100000 in
theorem qx_mcX2_act : qx_MC yX2_act cX2_act 6 none 4 := ⟨qx_in (i := 481) rfl rfl, qx_in (i := 36) rfl rfl, ⟨by decide +kernel, by decide +kernel, by decide +kernel⟩, by decide +kernel⟩
set_option maxRecDepth 100000 in
theorem qx_iX2_act : Cond.instanceMethod yX2_act ∈ qx_BW := qx_in (i := 480) rfl rfl
set_option maxRecDepth 100000 in
theorem qx_selX2_act : Cond.selects RX2 yX2_act yX2_act ∈ qx_BW := qx_in (i := 9) rfl rfl
set_option maxRecDepth 100000 in
theorem qx_mcX2_tell : qx_MC yX2_tell cX2_tell 5 none 4 := ⟨qx_in (i := 489) rfl rfl, qx_in (i := 36) rfl rfl, ⟨by decide +kernel, by decide +kernel, by decide +kernel⟩, by decide +kernel⟩
set_option maxRecDepth 100000 in
theorem qx_iX2_tell : Cond.instanceMethod yX2_tell ∈ qx_BW := qx_in (i := 488) rfl rfl
set_option maxRecDepth 100000 in
theorem qx_selX2_tell : Cond.selects RX2 yX2_tell yX2_tell ∈ qx_BW := qx_in (i := 10) rfl rfl
set_option maxRecDepth 100000 in
theorem qx_mcX2_send : qx_MC yX2_send cX2_send 4 none 3 := ⟨qx_in (i := 497) rfl rfl, qx_in (i := 36) rfl rfl, ⟨by decide +kernel, by decide +kernel, by decide +kernel⟩, by decide +kernel⟩
set_option maxRecDepth 100000 in
theorem qx_iX2_send : Cond.instanceMethod yX2_send ∈ qx_BW := qx_in (i := 496) rfl rfl
set_option maxRecDepth 100000 in
theorem qx_selX2_send : Cond.selects RX2 yX2_send yX2_send ∈ qx_BW := qx_in (i := 11) rfl rfl
set_option maxRecDepth 100000 in
theorem qx_mcX2_callOther : qx_MC yX2_callOther cX2_callOther 11 none 5 := ⟨qx_in (i := 447) rfl rfl, qx_in (i := 36) rfl rfl, ⟨by decide +kernel, by decide +kernel, by decide +kernel⟩, by decide +kernel⟩
set_option maxRecDepth 100000 in
theorem qx_iX2_callOther : Cond.instanceMethod yX2_callOther ∈ qx_BW := qx_in (i := 446) rfl rfl
set_option maxRecDepth 100000 in
theorem qx_selX2_callOther : Cond.selects RX2 yX2_callOther yX2_callOther ∈ qx_BW := qx_in (i := 6) rfl rfl
set_option maxRecDepth 100000 in
theorem qx_mcX2_whyNotEntered : qx_MC yX2_whyNotEntered cX2_whyNotEntered 6 (some .int) 5 := ⟨qx_in (i := 454) rfl rfl, qx_in (i := 36) rfl rfl, ⟨by decide +kernel, by decide +kernel, by decide +kernel⟩, by decide +kernel⟩
set_option maxRecDepth 100000 in
theorem qx_iX2_whyNotEntered : Cond.instanceMethod yX2_whyNotEntered ∈ qx_BW := qx_in (i := 453) rfl rfl
set_option maxRecDepth 100000 in
theorem qx_selX2_whyNotEntered : Cond.selects RX2 yX2_whyNotEntered yX2_whyNotEntered ∈ qx_BW := qx_in (i := 7) rfl rfl
set_option maxRecDepth 100000 in
theorem qx_mcX2_isGuardedInside : qx_MC yX2_isGuardedInside cX2_isGuardedInside 5 (some .boolean) 2 := ⟨qx_in (i := 459) rfl rfl, qx_in (i := 36) rfl rfl, ⟨by decide +kernel, by decide +kernel, by decide +kernel⟩, by decide +kernel⟩
set_option maxRecDepth 100000 in
theorem qx_iX2_isGuardedInside : Cond.instanceMethod yX2_isGuardedInside ∈ qx_BW := qx_in (i := 458) rfl rfl
set_option maxRecDepth 100000 in
theorem qx_selX2_isGuardedInside : Cond.selects RX2 yX2_isGuardedInside yX2_isGuardedInside ∈ qx_BW := qx_in (i := 8) rfl rfl
set_option maxRecDepth 100000 in
theorem qx_mcX2_answerGiven : qx_MC yX2_answerGiven cX2_answerGiven 3 none 3 := ⟨qx_in (i := 477) rfl rfl, qx_in (i := 36) rfl rfl, ⟨by decide +kernel, by decide +kernel, by decide +kernel⟩, by decide +kernel⟩
set_option maxRecDepth 100000 in
theorem qx_sX2_answerGiven : Cond.static yX2_answerGiven ∈ qx_BW := qx_in (i := 476) rfl rfl
set_option maxRecDepth 100000 in
theorem qx_mcX2_answerThrown : qx_MC yX2_answerThrown cX2_answerThrown 3 none 3 := ⟨qx_in (i := 466) rfl rfl, qx_in (i := 36) rfl rfl, ⟨by decide +kernel, by decide +kernel, by decide +kernel⟩, by decide +kernel⟩
set_option maxRecDepth 100000 in
theorem qx_sX2_answerThrown : Cond.static yX2_answerThrown ∈ qx_BW := qx_in (i := 465) rfl rfl
set_option maxRecDepth 100000 in
theorem qx_mcX3_init : qx_MC yX3_init cX3_init 1 none 0 := ⟨qx_in (i := 62) rfl rfl, qx_in (i := 32) rfl rfl, ⟨by decide +kernel, by decide +kernel, by decide +kernel⟩, by decide +kernel⟩
set_option maxRecDepth 100000 in
theorem qx_iX3_init : Cond.instanceMethod yX3_init ∈ qx_BW := qx_in (i := 61) rfl rfl
set_option maxRecDepth 100000 in
theorem qx_mcX3_append : qx_MC yX3_append cX3_append 4 none 3 := ⟨qx_in (i := 338) rfl rfl, qx_in (i := 32) rfl rfl, ⟨by decide +kernel, by decide +kernel, by decide +kernel⟩, by decide +kernel⟩
set_option maxRecDepth 100000 in
theorem qx_iX3_append : Cond.instanceMethod yX3_append ∈ qx_BW := qx_in (i := 336) rfl rfl
set_option maxRecDepth 100000 in
theorem qx_selX3_append : Cond.selects RX3 yX3_append yX3_append ∈ qx_BW := qx_in (i := 337) rfl rfl
set_option maxRecDepth 100000 in
theorem qx_mcX4_init : qx_MC yX4_init cX4_init 2 none 0 := ⟨qx_in (i := 55) rfl rfl, qx_in (i := 31) rfl rfl, ⟨by decide +kernel, by decide +kernel, by decide +kernel⟩, by decide +kernel⟩
set_option maxRecDepth 100000 in
theorem qx_iX4_init : Cond.instanceMethod yX4_init ∈ qx_BW := qx_in (i := 54) rfl rfl
set_option maxRecDepth 100000 in
theorem qx_mcX4_has : qx_MC yX4_has cX4_has 2 (some .boolean) 1 := ⟨qx_in (i := 323) rfl rfl, qx_in (i := 31) rfl rfl, ⟨by decide +kernel, by decide +kernel, by decide +kernel⟩, by decide +kernel⟩
set_option maxRecDepth 100000 in
theorem qx_iX4_has : Cond.instanceMethod yX4_has ∈ qx_BW := qx_in (i := 321) rfl rfl
set_option maxRecDepth 100000 in
theorem qx_selX4_has : Cond.selects RX4 yX4_has yX4_has ∈ qx_BW := qx_in (i := 322) rfl rfl
set_option maxRecDepth 100000 in
theorem qx_mcX4_memberOf : qx_MC yX4_memberOf cX4_memberOf 3 (some (.object "ContractFrames$Member")) 2 := ⟨qx_in (i := 334) rfl rfl, qx_in (i := 31) rfl rfl, ⟨by decide +kernel, by decide +kernel, by decide +kernel⟩, by decide +kernel⟩
set_option maxRecDepth 100000 in
theorem qx_iX4_memberOf : Cond.instanceMethod yX4_memberOf ∈ qx_BW := qx_in (i := 332) rfl rfl
set_option maxRecDepth 100000 in
theorem qx_selX4_memberOf : Cond.selects RX4 yX4_memberOf yX4_memberOf ∈ qx_BW := qx_in (i := 333) rfl rfl
set_option maxRecDepth 100000 in
theorem qx_mcX4_stepsInAll : qx_MC yX4_stepsInAll cX4_stepsInAll 3 (some .int) 0 := ⟨qx_in (i := 544) rfl rfl, qx_in (i := 31) rfl rfl, ⟨by decide +kernel, by decide +kernel, by decide +kernel⟩, by decide +kernel⟩
set_option maxRecDepth 100000 in
theorem qx_iX4_stepsInAll : Cond.instanceMethod yX4_stepsInAll ∈ qx_BW := qx_in (i := 542) rfl rfl
set_option maxRecDepth 100000 in
theorem qx_selX4_stepsInAll : Cond.selects RX4 yX4_stepsInAll yX4_stepsInAll ∈ qx_BW := qx_in (i := 543) rfl rfl
set_option maxRecDepth 100000 in
theorem qx_mcX4_reset : qx_MC yX4_reset cX4_reset 2 none 0 := ⟨qx_in (i := 552) rfl rfl, qx_in (i := 31) rfl rfl, ⟨by decide +kernel, by decide +kernel, by decide +kernel⟩, by decide +kernel⟩
set_option maxRecDepth 100000 in
theorem qx_iX4_reset : Cond.instanceMethod yX4_reset ∈ qx_BW := qx_in (i := 550) rfl rfl
set_option maxRecDepth 100000 in
theorem qx_selX4_reset : Cond.selects RX4 yX4_reset yX4_reset ∈ qx_BW := qx_in (i := 551) rfl rfl
set_option maxRecDepth 100000 in
theorem qx_mcX5_init : qx_MC yX5_init cX5_init 1 none 0 := ⟨qx_in (i := 145) rfl rfl, qx_in (i := 35) rfl rfl, ⟨by decide +kernel, by decide +kernel, by decide +kernel⟩, by decide +kernel⟩
set_option maxRecDepth 100000 in
theorem qx_iX5_init : Cond.instanceMethod yX5_init ∈ qx_BW := qx_in (i := 144) rfl rfl
set_option maxRecDepth 100000 in
theorem qx_mcX5_reset : qx_MC yX5_reset cX5_reset 1 none 0 := ⟨qx_in (i := 564) rfl rfl, qx_in (i := 35) rfl rfl, ⟨by decide +kernel, by decide +kernel, by decide +kernel⟩, by decide +kernel⟩
set_option maxRecDepth 100000 in
theorem qx_iX5_reset : Cond.instanceMethod yX5_reset ∈ qx_BW := qx_in (i := 562) rfl rfl
set_option maxRecDepth 100000 in
theorem qx_selX5_reset : Cond.selects RX5 yX5_reset yX5_reset ∈ qx_BW := qx_in (i := 563) rfl rfl
set_option maxRecDepth 100000 in
theorem qx_mcX5_startCall : qx_MC yX5_startCall cX5_startCall 1 none 0 := ⟨qx_in (i := 369) rfl rfl, qx_in (i := 35) rfl rfl, ⟨by decide +kernel, by decide +kernel, by decide +kernel⟩, by decide +kernel⟩
set_option maxRecDepth 100000 in
theorem qx_iX5_startCall : Cond.instanceMethod yX5_startCall ∈ qx_BW := qx_in (i := 367) rfl rfl
set_option maxRecDepth 100000 in
theorem qx_selX5_startCall : Cond.selects RX5 yX5_startCall yX5_startCall ∈ qx_BW := qx_in (i := 368) rfl rfl
set_option maxRecDepth 100000 in
theorem qx_mcX5_rowsKept : qx_MC yX5_rowsKept cX5_rowsKept 1 (some .int) 0 := ⟨qx_in (i := 523) rfl rfl, qx_in (i := 35) rfl rfl, ⟨by decide +kernel, by decide +kernel, by decide +kernel⟩, by decide +kernel⟩
set_option maxRecDepth 100000 in
theorem qx_iX5_rowsKept : Cond.instanceMethod yX5_rowsKept ∈ qx_BW := qx_in (i := 521) rfl rfl
set_option maxRecDepth 100000 in
theorem qx_selX5_rowsKept : Cond.selects RX5 yX5_rowsKept yX5_rowsKept ∈ qx_BW := qx_in (i := 522) rfl rfl
set_option maxRecDepth 100000 in
theorem qx_mcX5_enter : qx_MC yX5_enter cX5_enter 2 (some .int) 1 := ⟨qx_in (i := 382) rfl rfl, qx_in (i := 35) rfl rfl, ⟨by decide +kernel, by decide +kernel, by decide +kernel⟩, by decide +kernel⟩
set_option maxRecDepth 100000 in
theorem qx_iX5_enter : Cond.instanceMethod yX5_enter ∈ qx_BW := qx_in (i := 380) rfl rfl
set_option maxRecDepth 100000 in
theorem qx_selX5_enter : Cond.selects RX5 yX5_enter yX5_enter ∈ qx_BW := qx_in (i := 381) rfl rfl
set_option maxRecDepth 100000 in
theorem qx_mcX5_writeRow : qx_MC yX5_writeRow cX5_writeRow 5 none 3 := ⟨qx_in (i := 505) rfl rfl, qx_in (i := 35) rfl rfl, ⟨by decide +kernel, by decide +kernel, by decide +kernel⟩, by decide +kernel⟩
set_option maxRecDepth 100000 in
theorem qx_iX5_writeRow : Cond.instanceMethod yX5_writeRow ∈ qx_BW := qx_in (i := 503) rfl rfl
set_option maxRecDepth 100000 in
theorem qx_selX5_writeRow : Cond.selects RX5 yX5_writeRow yX5_writeRow ∈ qx_BW := qx_in (i := 504) rfl rfl
set_option maxRecDepth 100000 in
theorem qx_mcX5_endCall : qx_MC yX5_endCall cX5_endCall 3 none 2 := ⟨qx_in (i := 510) rfl rfl, qx_in (i := 35) rfl rfl, ⟨by decide +kernel, by decide +kernel, by decide +kernel⟩, by decide +kernel⟩
set_option maxRecDepth 100000 in
theorem qx_iX5_endCall : Cond.instanceMethod yX5_endCall ∈ qx_BW := qx_in (i := 508) rfl rfl
set_option maxRecDepth 100000 in
theorem qx_selX5_endCall : Cond.selects RX5 yX5_endCall yX5_endCall ∈ qx_BW := qx_in (i := 509) rfl rfl
set_option maxRecDepth 100000 in
theorem qx_mcX6_init : qx_MC yX6_init cX6_init 1 none 0 := ⟨qx_in (i := 264) rfl rfl, qx_in (i := 38) rfl rfl, ⟨by decide +kernel, by decide +kernel, by decide +kernel⟩, by decide +kernel⟩
set_option maxRecDepth 100000 in
theorem qx_iX6_init : Cond.instanceMethod yX6_init ∈ qx_BW := qx_in (i := 263) rfl rfl
set_option maxRecDepth 100000 in
theorem qx_mcX6_keep : qx_MC yX6_keep cX6_keep 2 none 1 := ⟨qx_in (i := 389) rfl rfl, qx_in (i := 38) rfl rfl, ⟨by decide +kernel, by decide +kernel, by decide +kernel⟩, by decide +kernel⟩
set_option maxRecDepth 100000 in
theorem qx_iX6_keep : Cond.instanceMethod yX6_keep ∈ qx_BW := qx_in (i := 387) rfl rfl
set_option maxRecDepth 100000 in
theorem qx_selX6_keep : Cond.selects RX6 yX6_keep yX6_keep ∈ qx_BW := qx_in (i := 388) rfl rfl
set_option maxRecDepth 100000 in
theorem qx_mcX6_putBack : qx_MC yX6_putBack cX6_putBack 2 none 1 := ⟨qx_in (i := 501) rfl rfl, qx_in (i := 38) rfl rfl, ⟨by decide +kernel, by decide +kernel, by decide +kernel⟩, by decide +kernel⟩
set_option maxRecDepth 100000 in
theorem qx_iX6_putBack : Cond.instanceMethod yX6_putBack ∈ qx_BW := qx_in (i := 499) rfl rfl
set_option maxRecDepth 100000 in
theorem qx_selX6_putBack : Cond.selects RX6 yX6_putBack yX6_putBack ∈ qx_BW := qx_in (i := 500) rfl rfl
set_option maxRecDepth 100000 in
theorem qx_mcX8_init : qx_MC yX8_init cX8_init 1 none 0 := ⟨qx_in (i := 101) rfl rfl, qx_in (i := 33) rfl rfl, ⟨by decide +kernel, by decide +kernel, by decide +kernel⟩, by decide +kernel⟩
set_option maxRecDepth 100000 in
theorem qx_iX8_init : Cond.instanceMethod yX8_init ∈ qx_BW := qx_in (i := 100) rfl rfl
set_option maxRecDepth 100000 in
theorem qx_mcX8_fillUsersPurses : qx_MC yX8_fillUsersPurses cX8_fillUsersPurses 1 none 0 := ⟨qx_in (i := 106) rfl rfl, qx_in (i := 33) rfl rfl, ⟨by decide +kernel, by decide +kernel, by decide +kernel⟩, by decide +kernel⟩
set_option maxRecDepth 100000 in
theorem qx_iX8_fillUsersPurses : Cond.instanceMethod yX8_fillUsersPurses ∈ qx_BW := qx_in (i := 105) rfl rfl
set_option maxRecDepth 100000 in
theorem qx_selX8_fillUsersPurses : Cond.selects RX8 yX8_fillUsersPurses yX8_fillUsersPurses ∈ qx_BW := qx_in (i := 0) rfl rfl
set_option maxRecDepth 100000 in
theorem qx_mcX8_reset : qx_MC yX8_reset cX8_reset 1 none 0 := ⟨qx_in (i := 556) rfl rfl, qx_in (i := 33) rfl rfl, ⟨by decide +kernel, by decide +kernel, by decide +kernel⟩, by decide +kernel⟩
set_option maxRecDepth 100000 in
theorem qx_iX8_reset : Cond.instanceMethod yX8_reset ∈ qx_BW := qx_in (i := 554) rfl rfl
set_option maxRecDepth 100000 in
theorem qx_selX8_reset : Cond.selects RX8 yX8_reset yX8_reset ∈ qx_BW := qx_in (i := 555) rfl rfl
set_option maxRecDepth 100000 in
theorem qx_mcX8_startCall : qx_MC yX8_startCall cX8_startCall 1 none 0 := ⟨qx_in (i := 365) rfl rfl, qx_in (i := 33) rfl rfl, ⟨by decide +kernel, by decide +kernel, by decide +kernel⟩, by decide +kernel⟩
set_option maxRecDepth 100000 in
theorem qx_iX8_startCall : Cond.instanceMethod yX8_startCall ∈ qx_BW := qx_in (i := 363) rfl rfl
set_option maxRecDepth 100000 in
theorem qx_selX8_startCall : Cond.selects RX8 yX8_startCall yX8_startCall ∈ qx_BW := qx_in (i := 364) rfl rfl
set_option maxRecDepth 100000 in
theorem qx_mcX8_save : qx_MC yX8_save cX8_save 5 none 3 := ⟨qx_in (i := 485) rfl rfl, qx_in (i := 33) rfl rfl, ⟨by decide +kernel, by decide +kernel, by decide +kernel⟩, by decide +kernel⟩
set_option maxRecDepth 100000 in
theorem qx_iX8_save : Cond.instanceMethod yX8_save ∈ qx_BW := qx_in (i := 483) rfl rfl
set_option maxRecDepth 100000 in
theorem qx_selX8_save : Cond.selects RX8 yX8_save yX8_save ∈ qx_BW := qx_in (i := 484) rfl rfl
set_option maxRecDepth 100000 in
theorem qx_mcX8_canPay : qx_MC yX8_canPay cX8_canPay 3 (some .boolean) 2 := ⟨qx_in (i := 463) rfl rfl, qx_in (i := 33) rfl rfl, ⟨by decide +kernel, by decide +kernel, by decide +kernel⟩, by decide +kernel⟩
set_option maxRecDepth 100000 in
theorem qx_iX8_canPay : Cond.instanceMethod yX8_canPay ∈ qx_BW := qx_in (i := 461) rfl rfl
set_option maxRecDepth 100000 in
theorem qx_selX8_canPay : Cond.selects RX8 yX8_canPay yX8_canPay ∈ qx_BW := qx_in (i := 462) rfl rfl
set_option maxRecDepth 100000 in
theorem qx_mcX8_move : qx_MC yX8_move cX8_move 4 none 3 := ⟨qx_in (i := 396) rfl rfl, qx_in (i := 33) rfl rfl, ⟨by decide +kernel, by decide +kernel, by decide +kernel⟩, by decide +kernel⟩
set_option maxRecDepth 100000 in
theorem qx_iX8_move : Cond.instanceMethod yX8_move ∈ qx_BW := qx_in (i := 394) rfl rfl
set_option maxRecDepth 100000 in
theorem qx_selX8_move : Cond.selects RX8 yX8_move yX8_move ∈ qx_BW := qx_in (i := 395) rfl rfl
set_option maxRecDepth 100000 in
theorem qx_mcX8_addEvent : qx_MC yX8_addEvent cX8_addEvent 6 none 4 := ⟨qx_in (i := 493) rfl rfl, qx_in (i := 33) rfl rfl, ⟨by decide +kernel, by decide +kernel, by decide +kernel⟩, by decide +kernel⟩
set_option maxRecDepth 100000 in
theorem qx_iX8_addEvent : Cond.instanceMethod yX8_addEvent ∈ qx_BW := qx_in (i := 491) rfl rfl
set_option maxRecDepth 100000 in
theorem qx_selX8_addEvent : Cond.selects RX8 yX8_addEvent yX8_addEvent ∈ qx_BW := qx_in (i := 492) rfl rfl
set_option maxRecDepth 100000 in
theorem qx_mcX9_init : qx_MC yX9_init cX9_init 1 none 0 := ⟨qx_in (i := 47) rfl rfl, qx_in (i := 30) rfl rfl, ⟨by decide +kernel, by decide +kernel, by decide +kernel⟩, by decide +kernel⟩
set_option maxRecDepth 100000 in
theorem qx_iX9_init : Cond.instanceMethod yX9_init ∈ qx_BW := qx_in (i := 46) rfl rfl
set_option maxRecDepth 100000 in
theorem qx_mcX9_contract : qx_MC yX9_contract cX9_contract 1 (some .int) 0 := ⟨qx_in (i := 311) rfl rfl, qx_in (i := 30) rfl rfl, ⟨by decide +kernel, by decide +kernel, by decide +kernel⟩, by decide +kernel⟩
set_option maxRecDepth 100000 in
theorem qx_iX9_contract : Cond.instanceMethod yX9_contract ∈ qx_BW := qx_in (i := 309) rfl rfl
set_option maxRecDepth 100000 in
theorem qx_selX9_contract : Cond.selects RX9 yX9_contract yX9_contract ∈ qx_BW := qx_in (i := 310) rfl rfl
set_option maxRecDepth 100000 in
theorem qx_mcX9_step : qx_MC yX9_step cX9_step 8 (some .int) 5 := ⟨qx_in (i := 315) rfl rfl, qx_in (i := 30) rfl rfl, ⟨by decide +kernel, by decide +kernel, by decide +kernel⟩, by decide +kernel⟩
set_option maxRecDepth 100000 in
theorem qx_iX9_step : Cond.instanceMethod yX9_step ∈ qx_BW := qx_in (i := 313) rfl rfl
set_option maxRecDepth 100000 in
theorem qx_selX9_step : Cond.selects RX9 yX9_step yX9_step ∈ qx_BW := qx_in (i := 314) rfl rfl
set_option maxRecDepth 100000 in
theorem qx_mcX9_empty : qx_MC yX9_empty cX9_empty 6 (some .int) 2 := ⟨qx_in (i := 342) rfl rfl, qx_in (i := 30) rfl rfl, ⟨by decide +kernel, by decide +kernel, by decide +kernel⟩, by decide +kernel⟩
set_option maxRecDepth 100000 in
theorem qx_iX9_empty : Cond.instanceMethod yX9_empty ∈ qx_BW := qx_in (i := 340) rfl rfl
set_option maxRecDepth 100000 in
theorem qx_selX9_empty : Cond.selects RX9 yX9_empty yX9_empty ∈ qx_BW := qx_in (i := 341) rfl rfl
set_option maxRecDepth 100000 in
theorem qx_mcX9_guard : qx_MC yX9_guard cX9_guard 7 (some .int) 3 := ⟨qx_in (i := 346) rfl rfl, qx_in (i := 30) rfl rfl, ⟨by decide +kernel, by decide +kernel, by decide +kernel⟩, by decide +kernel⟩
set_option maxRecDepth 100000 in
theorem qx_iX9_guard : Cond.instanceMethod yX9_guard ∈ qx_BW := qx_in (i := 344) rfl rfl
set_option maxRecDepth 100000 in
theorem qx_selX9_guard : Cond.selects RX9 yX9_guard yX9_guard ∈ qx_BW := qx_in (i := 345) rfl rfl
set_option maxRecDepth 100000 in
theorem qx_mcX9_call : qx_MC yX9_call cX9_call 8 (some .int) 6 := ⟨qx_in (i := 350) rfl rfl, qx_in (i := 30) rfl rfl, ⟨by decide +kernel, by decide +kernel, by decide +kernel⟩, by decide +kernel⟩
set_option maxRecDepth 100000 in
theorem qx_iX9_call : Cond.instanceMethod yX9_call ∈ qx_BW := qx_in (i := 348) rfl rfl
set_option maxRecDepth 100000 in
theorem qx_selX9_call : Cond.selects RX9 yX9_call yX9_call ∈ qx_BW := qx_in (i := 349) rfl rfl
set_option maxRecDepth 100000 in
theorem qx_mcX9_told : qx_MC yX9_told cX9_told 2 (some .int) 1 := ⟨qx_in (i := 515) rfl rfl, qx_in (i := 30) rfl rfl, ⟨by decide +kernel, by decide +kernel, by decide +kernel⟩, by decide +kernel⟩
set_option maxRecDepth 100000 in
theorem qx_iX9_told : Cond.instanceMethod yX9_told ∈ qx_BW := qx_in (i := 513) rfl rfl
set_option maxRecDepth 100000 in
theorem qx_selX9_told : Cond.selects RX9 yX9_told yX9_told ∈ qx_BW := qx_in (i := 514) rfl rfl
set_option maxRecDepth 100000 in
theorem qx_mcX9_frame : qx_MC yX9_frame cX9_frame 3 (some .int) 2 := ⟨qx_in (i := 519) rfl rfl, qx_in (i := 30) rfl rfl, ⟨by decide +kernel, by decide +kernel, by decide +kernel⟩, by decide +kernel⟩
set_option maxRecDepth 100000 in
theorem qx_iX9_frame : Cond.instanceMethod yX9_frame ∈ qx_BW := qx_in (i := 517) rfl rfl
set_option maxRecDepth 100000 in
theorem qx_selX9_frame : Cond.selects RX9 yX9_frame yX9_frame ∈ qx_BW := qx_in (i := 518) rfl rfl
set_option maxRecDepth 100000 in
theorem qx_mcX9_event : qx_MC yX9_event cX9_event 3 (some .int) 2 := ⟨qx_in (i := 528) rfl rfl, qx_in (i := 30) rfl rfl, ⟨by decide +kernel, by decide +kernel, by decide +kernel⟩, by decide +kernel⟩
set_option maxRecDepth 100000 in
theorem qx_iX9_event : Cond.instanceMethod yX9_event ∈ qx_BW := qx_in (i := 526) rfl rfl
set_option maxRecDepth 100000 in
theorem qx_selX9_event : Cond.selects RX9 yX9_event yX9_event ∈ qx_BW := qx_in (i := 527) rfl rfl
set_option maxRecDepth 100000 in
theorem qx_mcX9_store : qx_MC yX9_store cX9_store 3 (some .int) 2 := ⟨qx_in (i := 532) rfl rfl, qx_in (i := 30) rfl rfl, ⟨by decide +kernel, by decide +kernel, by decide +kernel⟩, by decide +kernel⟩
set_option maxRecDepth 100000 in
theorem qx_iX9_store : Cond.instanceMethod yX9_store ∈ qx_BW := qx_in (i := 530) rfl rfl
set_option maxRecDepth 100000 in
theorem qx_selX9_store : Cond.selects RX9 yX9_store yX9_store ∈ qx_BW := qx_in (i := 531) rfl rfl
set_option maxRecDepth 100000 in
theorem qx_mcX9_coins : qx_MC yX9_coins cX9_coins 3 (some .int) 2 := ⟨qx_in (i := 536) rfl rfl, qx_in (i := 30) rfl rfl, ⟨by decide +kernel, by decide +kernel, by decide +kernel⟩, by decide +kernel⟩
set_option maxRecDepth 100000 in
theorem qx_iX9_coins : Cond.instanceMethod yX9_coins ∈ qx_BW := qx_in (i := 534) rfl rfl
set_option maxRecDepth 100000 in
theorem qx_selX9_coins : Cond.selects RX9 yX9_coins yX9_coins ∈ qx_BW := qx_in (i := 535) rfl rfl
set_option maxRecDepth 100000 in
theorem qx_mcX9_count : qx_MC yX9_count cX9_count 2 (some .int) 1 := ⟨qx_in (i := 540) rfl rfl, qx_in (i := 30) rfl rfl, ⟨by decide +kernel, by decide +kernel, by decide +kernel⟩, by decide +kernel⟩
set_option maxRecDepth 100000 in
theorem qx_iX9_count : Cond.instanceMethod yX9_count ∈ qx_BW := qx_in (i := 538) rfl rfl
set_option maxRecDepth 100000 in
theorem qx_selX9_count : Cond.selects RX9 yX9_count yX9_count ∈ qx_BW := qx_in (i := 539) rfl rfl
set_option maxRecDepth 100000 in
theorem qx_mcX9_clear : qx_MC yX9_clear cX9_clear 2 (some .int) 0 := ⟨qx_in (i := 548) rfl rfl, qx_in (i := 30) rfl rfl, ⟨by decide +kernel, by decide +kernel, by decide +kernel⟩, by decide +kernel⟩
set_option maxRecDepth 100000 in
theorem qx_iX9_clear : Cond.instanceMethod yX9_clear ∈ qx_BW := qx_in (i := 546) rfl rfl
set_option maxRecDepth 100000 in
theorem qx_selX9_clear : Cond.selects RX9 yX9_clear yX9_clear ∈ qx_BW := qx_in (i := 547) rfl rfl
set_option maxRecDepth 100000 in
theorem qx_mcX9_refusedMember : qx_MC yX9_refusedMember cX9_refusedMember 3 (some .int) 2 := ⟨qx_in (i := 319) rfl rfl, qx_in (i := 30) rfl rfl, ⟨by decide +kernel, by decide +kernel, by decide +kernel⟩, by decide +kernel⟩
set_option maxRecDepth 100000 in
theorem qx_iX9_refusedMember : Cond.instanceMethod yX9_refusedMember ∈ qx_BW := qx_in (i := 318) rfl rfl
set_option maxRecDepth 100000 in
theorem qx_selX9_refusedMember : Cond.selects RX9 yX9_refusedMember yX9_refusedMember ∈ qx_BW := qx_in (i := 1) rfl rfl
set_option maxRecDepth 100000 in
theorem qx_mcX9_refusedCall : qx_MC yX9_refusedCall cX9_refusedCall 8 (some .int) 5 := ⟨qx_in (i := 354) rfl rfl, qx_in (i := 30) rfl rfl, ⟨by decide +kernel, by decide +kernel, by decide +kernel⟩, by decide +kernel⟩
set_option maxRecDepth 100000 in
theorem qx_iX9_refusedCall : Cond.instanceMethod yX9_refusedCall ∈ qx_BW := qx_in (i := 353) rfl rfl
set_option maxRecDepth 100000 in
theorem qx_selX9_refusedCall : Cond.selects RX9 yX9_refusedCall yX9_refusedCall ∈ qx_BW := qx_in (i := 2) rfl rfl
set_option maxRecDepth 100000 in
theorem qx_mcX9_isUser : qx_MC yX9_isUser cX9_isUser 1 (some .boolean) 1 := ⟨qx_in (i := 357) rfl rfl, qx_in (i := 30) rfl rfl, ⟨by decide +kernel, by decide +kernel, by decide +kernel⟩, by decide +kernel⟩
set_option maxRecDepth 100000 in
theorem qx_sX9_isUser : Cond.static yX9_isUser ∈ qx_BW := qx_in (i := 356) rfl rfl
set_option maxRecDepth 100000 in
theorem qx_mcX9_within : qx_MC yX9_within cX9_within 3 (some .boolean) 3 := ⟨qx_in (i := 326) rfl rfl, qx_in (i := 30) rfl rfl, ⟨by decide +kernel, by decide +kernel, by decide +kernel⟩, by decide +kernel⟩
set_option maxRecDepth 100000 in
theorem qx_sX9_within : Cond.static yX9_within ∈ qx_BW := qx_in (i := 325) rfl rfl
set_option maxRecDepth 100000 in
theorem qx_mcX10_init : qx_MC yX10_init cX10_init 1 none 0 := ⟨qx_in (i := 570) rfl rfl, qx_in (i := 39) rfl rfl, ⟨by decide +kernel, by decide +kernel, by decide +kernel⟩, by decide +kernel⟩
set_option maxRecDepth 100000 in
theorem qx_iX10_init : Cond.instanceMethod yX10_init ∈ qx_BW := qx_in (i := 569) rfl rfl
set_option maxRecDepth 100000 in
theorem qx_mcX10_in : qx_MC yX10_in cX10_in 3 (some .boolean) 3 := ⟨qx_in (i := 739) rfl rfl, qx_in (i := 39) rfl rfl, ⟨by decide +kernel, by decide +kernel, by decide +kernel⟩, by decide +kernel⟩
set_option maxRecDepth 100000 in
theorem qx_sX10_in : Cond.static yX10_in ∈ qx_BW := qx_in (i := 738) rfl rfl
set_option maxRecDepth 100000 in
theorem qx_mcX10_begin : qx_MC yX10_begin cX10_begin 2 none 0 := ⟨qx_in (i := 575) rfl rfl, qx_in (i := 39) rfl rfl, ⟨by decide +kernel, by decide +kernel, by decide +kernel⟩, by decide +kernel⟩
set_option maxRecDepth 100000 in
theorem qx_iX10_begin : Cond.instanceMethod yX10_begin ∈ qx_BW := qx_in (i := 574) rfl rfl
set_option maxRecDepth 100000 in
theorem qx_selX10_begin : Cond.selects RX10 yX10_begin yX10_begin ∈ qx_BW := qx_in (i := 12) rfl rfl
set_option maxRecDepth 100000 in
theorem qx_mcX10_contract : qx_MC yX10_contract cX10_contract 3 (some .int) 0 := ⟨qx_in (i := 728) rfl rfl, qx_in (i := 39) rfl rfl, ⟨by decide +kernel, by decide +kernel, by decide +kernel⟩, by decide +kernel⟩
set_option maxRecDepth 100000 in
theorem qx_iX10_contract : Cond.instanceMethod yX10_contract ∈ qx_BW := qx_in (i := 726) rfl rfl
set_option maxRecDepth 100000 in
theorem qx_selX10_contract : Cond.selects RX10 yX10_contract yX10_contract ∈ qx_BW := qx_in (i := 727) rfl rfl
set_option maxRecDepth 100000 in
theorem qx_mcX10_noContract : qx_MC yX10_noContract cX10_noContract 2 (some .boolean) 1 := ⟨qx_in (i := 736) rfl rfl, qx_in (i := 39) rfl rfl, ⟨by decide +kernel, by decide +kernel, by decide +kernel⟩, by decide +kernel⟩
set_option maxRecDepth 100000 in
theorem qx_iX10_noContract : Cond.instanceMethod yX10_noContract ∈ qx_BW := qx_in (i := 735) rfl rfl
set_option maxRecDepth 100000 in
theorem qx_selX10_noContract : Cond.selects RX10 yX10_noContract yX10_noContract ∈ qx_BW := qx_in (i := 13) rfl rfl
set_option maxRecDepth 100000 in
theorem qx_mcX10_isCode : qx_MC yX10_isCode cX10_isCode 3 (some .boolean) 3 := ⟨qx_in (i := 742) rfl rfl, qx_in (i := 39) rfl rfl, ⟨by decide +kernel, by decide +kernel, by decide +kernel⟩, by decide +kernel⟩
set_option maxRecDepth 100000 in
theorem qx_sX10_isCode : Cond.static yX10_isCode ∈ qx_BW := qx_in (i := 741) rfl rfl
set_option maxRecDepth 100000 in
theorem qx_mcX10_step : qx_MC yX10_step cX10_step 8 (some .int) 5 := ⟨qx_in (i := 732) rfl rfl, qx_in (i := 39) rfl rfl, ⟨by decide +kernel, by decide +kernel, by decide +kernel⟩, by decide +kernel⟩
set_option maxRecDepth 100000 in
theorem qx_iX10_step : Cond.instanceMethod yX10_step ∈ qx_BW := qx_in (i := 730) rfl rfl
set_option maxRecDepth 100000 in
theorem qx_selX10_step : Cond.selects RX10 yX10_step yX10_step ∈ qx_BW := qx_in (i := 731) rfl rfl
set_option maxRecDepth 100000 in
theorem qx_mcX10_empty : qx_MC yX10_empty cX10_empty 4 (some .int) 2 := ⟨qx_in (i := 746) rfl rfl, qx_in (i := 39) rfl rfl, ⟨by decide +kernel, by decide +kernel, by decide +kernel⟩, by decide +kernel⟩
set_option maxRecDepth 100000 in
theorem qx_iX10_empty : Cond.instanceMethod yX10_empty ∈ qx_BW := qx_in (i := 744) rfl rfl
set_option maxRecDepth 100000 in
theorem qx_selX10_empty : Cond.selects RX10 yX10_empty yX10_empty ∈ qx_BW := qx_in (i := 745) rfl rfl
set_option maxRecDepth 100000 in
theorem qx_mcX10_guard : qx_MC yX10_guard cX10_guard 5 (some .int) 3 := ⟨qx_in (i := 750) rfl rfl, qx_in (i := 39) rfl rfl, ⟨by decide +kernel, by decide +kernel, by decide +kernel⟩, by decide +kernel⟩
set_option maxRecDepth 100000 in
theorem qx_iX10_guard : Cond.instanceMethod yX10_guard ∈ qx_BW := qx_in (i := 748) rfl rfl
set_option maxRecDepth 100000 in
theorem qx_selX10_guard : Cond.selects RX10 yX10_guard yX10_guard ∈ qx_BW := qx_in (i := 749) rfl rfl
set_option maxRecDepth 100000 in
theorem qx_mcX10_hold : qx_MC yX10_hold cX10_hold 3 none 1 := ⟨qx_in (i := 762) rfl rfl, qx_in (i := 39) rfl rfl, ⟨by decide +kernel, by decide +kernel, by decide +kernel⟩, by decide +kernel⟩
set_option maxRecDepth 100000 in
theorem qx_iX10_hold : Cond.instanceMethod yX10_hold ∈ qx_BW := qx_in (i := 761) rfl rfl
set_option maxRecDepth 100000 in
theorem qx_selX10_hold : Cond.selects RX10 yX10_hold yX10_hold ∈ qx_BW := qx_in (i := 15) rfl rfl
set_option maxRecDepth 100000 in
theorem qx_mcX10_undo : qx_MC yX10_undo cX10_undo 3 none 1 := ⟨qx_in (i := 774) rfl rfl, qx_in (i := 39) rfl rfl, ⟨by decide +kernel, by decide +kernel, by decide +kernel⟩, by decide +kernel⟩
set_option maxRecDepth 100000 in
theorem qx_iX10_undo : Cond.instanceMethod yX10_undo ∈ qx_BW := qx_in (i := 773) rfl rfl
set_option maxRecDepth 100000 in
theorem qx_selX10_undo : Cond.selects RX10 yX10_undo yX10_undo ∈ qx_BW := qx_in (i := 18) rfl rfl
set_option maxRecDepth 100000 in
theorem qx_mcX10_enter : qx_MC yX10_enter cX10_enter 9 none 7 := ⟨qx_in (i := 758) rfl rfl, qx_in (i := 39) rfl rfl, ⟨by decide +kernel, by decide +kernel, by decide +kernel⟩, by decide +kernel⟩
set_option maxRecDepth 100000 in
theorem qx_iX10_enter : Cond.instanceMethod yX10_enter ∈ qx_BW := qx_in (i := 757) rfl rfl
set_option maxRecDepth 100000 in
theorem qx_selX10_enter : Cond.selects RX10 yX10_enter yX10_enter ∈ qx_BW := qx_in (i := 14) rfl rfl
set_option maxRecDepth 100000 in
theorem qx_mcX10_push : qx_MC yX10_push cX10_push 3 none 2 := ⟨qx_in (i := 778) rfl rfl, qx_in (i := 39) rfl rfl, ⟨by decide +kernel, by decide +kernel, by decide +kernel⟩, by decide +kernel⟩
set_option maxRecDepth 100000 in
theorem qx_iX10_push : Cond.instanceMethod yX10_push ∈ qx_BW := qx_in (i := 777) rfl rfl
set_option maxRecDepth 100000 in
theorem qx_selX10_push : Cond.selects RX10 yX10_push yX10_push ∈ qx_BW := qx_in (i := 19) rfl rfl
set_option maxRecDepth 100000 in
theorem qx_mcX10_pop : qx_MC yX10_pop cX10_pop 2 (some .int) 1 := ⟨qx_in (i := 800) rfl rfl, qx_in (i := 39) rfl rfl, ⟨by decide +kernel, by decide +kernel, by decide +kernel⟩, by decide +kernel⟩
set_option maxRecDepth 100000 in
theorem qx_iX10_pop : Cond.instanceMethod yX10_pop ∈ qx_BW := qx_in (i := 799) rfl rfl
set_option maxRecDepth 100000 in
theorem qx_selX10_pop : Cond.selects RX10 yX10_pop yX10_pop ∈ qx_BW := qx_in (i := 23) rfl rfl
set_option maxRecDepth 100000 in
theorem qx_mcX10_takes : qx_MC yX10_takes cX10_takes 1 (some .int) 1 := ⟨qx_in (i := 781) rfl rfl, qx_in (i := 39) rfl rfl, ⟨by decide +kernel, by decide +kernel, by decide +kernel⟩, by decide +kernel⟩
set_option maxRecDepth 100000 in
theorem qx_sX10_takes : Cond.static yX10_takes ∈ qx_BW := qx_in (i := 780) rfl rfl
set_option maxRecDepth 100000 in
theorem qx_mcX10_leaves : qx_MC yX10_leaves cX10_leaves 1 (some .int) 1 := ⟨qx_in (i := 784) rfl rfl, qx_in (i := 39) rfl rfl, ⟨by decide +kernel, by decide +kernel, by decide +kernel⟩, by decide +kernel⟩
set_option maxRecDepth 100000 in
theorem qx_sX10_leaves : Cond.static yX10_leaves ∈ qx_BW := qx_in (i := 783) rfl rfl
set_option maxRecDepth 100000 in
theorem qx_mcX10_ends : qx_MC yX10_ends cX10_ends 8 none 2 := ⟨qx_in (i := 770) rfl rfl, qx_in (i := 39) rfl rfl, ⟨by decide +kernel, by decide +kernel, by decide +kernel⟩, by decide +kernel⟩
set_option maxRecDepth 100000 in
theorem qx_iX10_ends : Cond.instanceMethod yX10_ends ∈ qx_BW := qx_in (i := 769) rfl rfl
set_option maxRecDepth 100000 in
theorem qx_selX10_ends : Cond.selects RX10 yX10_ends yX10_ends ∈ qx_BW := qx_in (i := 17) rfl rfl
set_option maxRecDepth 100000 in
theorem qx_mcX10_gives : qx_MC yX10_gives cX10_gives 5 (some .int) 3 := ⟨qx_in (i := 792) rfl rfl, qx_in (i := 39) rfl rfl, ⟨by decide +kernel, by decide +kernel, by decide +kernel⟩, by decide +kernel⟩
set_option maxRecDepth 100000 in
theorem qx_iX10_gives : Cond.instanceMethod yX10_gives ∈ qx_BW := qx_in (i := 791) rfl rfl
set_option maxRecDepth 100000 in
theorem qx_selX10_gives : Cond.selects RX10 yX10_gives yX10_gives ∈ qx_BW := qx_in (i := 21) rfl rfl
set_option maxRecDepth 100000 in
theorem qx_mcX10_reckon : qx_MC yX10_reckon cX10_reckon 5 none 2 := ⟨qx_in (i := 820) rfl rfl, qx_in (i := 39) rfl rfl, ⟨by decide +kernel, by decide +kernel, by decide +kernel⟩, by decide +kernel⟩
set_option maxRecDepth 100000 in
theorem qx_iX10_reckon : Cond.instanceMethod yX10_reckon ∈ qx_BW := qx_in (i := 819) rfl rfl
set_option maxRecDepth 100000 in
theorem qx_selX10_reckon : Cond.selects RX10 yX10_reckon yX10_reckon ∈ qx_BW := qx_in (i := 28) rfl rfl
set_option maxRecDepth 100000 in
theorem qx_mcX10_save : qx_MC yX10_save cX10_save 5 none 2 := ⟨qx_in (i := 796) rfl rfl, qx_in (i := 39) rfl rfl, ⟨by decide +kernel, by decide +kernel, by decide +kernel⟩, by decide +kernel⟩
set_option maxRecDepth 100000 in
theorem qx_iX10_save : Cond.instanceMethod yX10_save ∈ qx_BW := qx_in (i := 795) rfl rfl
set_option maxRecDepth 100000 in
theorem qx_selX10_save : Cond.selects RX10 yX10_save yX10_save ∈ qx_BW := qx_in (i := 22) rfl rfl
set_option maxRecDepth 100000 in
theorem qx_mcX10_tell : qx_MC yX10_tell cX10_tell 4 none 2 := ⟨qx_in (i := 812) rfl rfl, qx_in (i := 39) rfl rfl, ⟨by decide +kernel, by decide +kernel, by decide +kernel⟩, by decide +kernel⟩
set_option maxRecDepth 100000 in
theorem qx_iX10_tell : Cond.instanceMethod yX10_tell ∈ qx_BW := qx_in (i := 811) rfl rfl
set_option maxRecDepth 100000 in
theorem qx_selX10_tell : Cond.selects RX10 yX10_tell yX10_tell ∈ qx_BW := qx_in (i := 26) rfl rfl
set_option maxRecDepth 100000 in
theorem qx_mcX10_send : qx_MC yX10_send cX10_send 5 none 2 := ⟨qx_in (i := 816) rfl rfl, qx_in (i := 39) rfl rfl, ⟨by decide +kernel, by decide +kernel, by decide +kernel⟩, by decide +kernel⟩
set_option maxRecDepth 100000 in
theorem qx_iX10_send : Cond.instanceMethod yX10_send ∈ qx_BW := qx_in (i := 815) rfl rfl
set_option maxRecDepth 100000 in
theorem qx_selX10_send : Cond.selects RX10 yX10_send yX10_send ∈ qx_BW := qx_in (i := 27) rfl rfl
set_option maxRecDepth 100000 in
theorem qx_mcX10_shut : qx_MC yX10_shut cX10_shut 6 (some .int) 4 := ⟨qx_in (i := 808) rfl rfl, qx_in (i := 39) rfl rfl, ⟨by decide +kernel, by decide +kernel, by decide +kernel⟩, by decide +kernel⟩
set_option maxRecDepth 100000 in
theorem qx_iX10_shut : Cond.instanceMethod yX10_shut ∈ qx_BW := qx_in (i := 807) rfl rfl
set_option maxRecDepth 100000 in
theorem qx_selX10_shut : Cond.selects RX10 yX10_shut yX10_shut ∈ qx_BW := qx_in (i := 25) rfl rfl
set_option maxRecDepth 100000 in
theorem qx_mcX10_callOut : qx_MC yX10_callOut cX10_callOut 10 none 4 := ⟨qx_in (i := 804) rfl rfl, qx_in (i := 39) rfl rfl, ⟨by decide +kernel, by decide +kernel, by decide +kernel⟩, by decide +kernel⟩
set_option maxRecDepth 100000 in
theorem qx_iX10_callOut : Cond.instanceMethod yX10_callOut ∈ qx_BW := qx_in (i := 803) rfl rfl
set_option maxRecDepth 100000 in
theorem qx_selX10_callOut : Cond.selects RX10 yX10_callOut yX10_callOut ∈ qx_BW := qx_in (i := 24) rfl rfl
set_option maxRecDepth 100000 in
theorem qx_mcX10_act : qx_MC yX10_act cX10_act 6 none 4 := ⟨qx_in (i := 788) rfl rfl, qx_in (i := 39) rfl rfl, ⟨by decide +kernel, by decide +kernel, by decide +kernel⟩, by decide +kernel⟩
set_option maxRecDepth 100000 in
theorem qx_iX10_act : Cond.instanceMethod yX10_act ∈ qx_BW := qx_in (i := 787) rfl rfl
set_option maxRecDepth 100000 in
theorem qx_selX10_act : Cond.selects RX10 yX10_act yX10_act ∈ qx_BW := qx_in (i := 20) rfl rfl
set_option maxRecDepth 100000 in
theorem qx_mcX10_oneStep : qx_MC yX10_oneStep cX10_oneStep 5 none 0 := ⟨qx_in (i := 766) rfl rfl, qx_in (i := 39) rfl rfl, ⟨by decide +kernel, by decide +kernel, by decide +kernel⟩, by decide +kernel⟩
set_option maxRecDepth 100000 in
theorem qx_iX10_oneStep : Cond.instanceMethod yX10_oneStep ∈ qx_BW := qx_in (i := 765) rfl rfl
set_option maxRecDepth 100000 in
theorem qx_selX10_oneStep : Cond.selects RX10 yX10_oneStep yX10_oneStep ∈ qx_BW := qx_in (i := 16) rfl rfl
set_option maxRecDepth 100000 in
theorem qx_mcX10_call : qx_MC yX10_call cX10_call 7 (some .int) 6 := ⟨qx_in (i := 754) rfl rfl, qx_in (i := 39) rfl rfl, ⟨by decide +kernel, by decide +kernel, by decide +kernel⟩, by decide +kernel⟩
set_option maxRecDepth 100000 in
theorem qx_iX10_call : Cond.instanceMethod yX10_call ∈ qx_BW := qx_in (i := 752) rfl rfl
set_option maxRecDepth 100000 in
theorem qx_selX10_call : Cond.selects RX10 yX10_call yX10_call ∈ qx_BW := qx_in (i := 753) rfl rfl
set_option maxRecDepth 100000 in
theorem qx_mcX10_told : qx_MC yX10_told cX10_told 2 (some .int) 1 := ⟨qx_in (i := 824) rfl rfl, qx_in (i := 39) rfl rfl, ⟨by decide +kernel, by decide +kernel, by decide +kernel⟩, by decide +kernel⟩
set_option maxRecDepth 100000 in
theorem qx_iX10_told : Cond.instanceMethod yX10_told ∈ qx_BW := qx_in (i := 822) rfl rfl
set_option maxRecDepth 100000 in
theorem qx_selX10_told : Cond.selects RX10 yX10_told yX10_told ∈ qx_BW := qx_in (i := 823) rfl rfl
set_option maxRecDepth 100000 in
theorem qx_mcX10_frame : qx_MC yX10_frame cX10_frame 3 (some .int) 2 := ⟨qx_in (i := 828) rfl rfl, qx_in (i := 39) rfl rfl, ⟨by decide +kernel, by decide +kernel, by decide +kernel⟩, by decide +kernel⟩
set_option maxRecDepth 100000 in
theorem qx_iX10_frame : Cond.instanceMethod yX10_frame ∈ qx_BW := qx_in (i := 826) rfl rfl
set_option maxRecDepth 100000 in
theorem qx_selX10_frame : Cond.selects RX10 yX10_frame yX10_frame ∈ qx_BW := qx_in (i := 827) rfl rfl
set_option maxRecDepth 100000 in
theorem qx_mcX10_event : qx_MC yX10_event cX10_event 3 (some .int) 2 := ⟨qx_in (i := 832) rfl rfl, qx_in (i := 39) rfl rfl, ⟨by decide +kernel, by decide +kernel, by decide +kernel⟩, by decide +kernel⟩
set_option maxRecDepth 100000 in
theorem qx_iX10_event : Cond.instanceMethod yX10_event ∈ qx_BW := qx_in (i := 830) rfl rfl
set_option maxRecDepth 100000 in
theorem qx_selX10_event : Cond.selects RX10 yX10_event yX10_event ∈ qx_BW := qx_in (i := 831) rfl rfl
set_option maxRecDepth 100000 in
theorem qx_mcX10_store : qx_MC yX10_store cX10_store 3 (some .int) 2 := ⟨qx_in (i := 836) rfl rfl, qx_in (i := 39) rfl rfl, ⟨by decide +kernel, by decide +kernel, by decide +kernel⟩, by decide +kernel⟩
set_option maxRecDepth 100000 in
theorem qx_iX10_store : Cond.instanceMethod yX10_store ∈ qx_BW := qx_in (i := 834) rfl rfl
set_option maxRecDepth 100000 in
theorem qx_selX10_store : Cond.selects RX10 yX10_store yX10_store ∈ qx_BW := qx_in (i := 835) rfl rfl
set_option maxRecDepth 100000 in
theorem qx_mcX10_coins : qx_MC yX10_coins cX10_coins 3 (some .int) 2 := ⟨qx_in (i := 840) rfl rfl, qx_in (i := 39) rfl rfl, ⟨by decide +kernel, by decide +kernel, by decide +kernel⟩, by decide +kernel⟩
set_option maxRecDepth 100000 in
theorem qx_iX10_coins : Cond.instanceMethod yX10_coins ∈ qx_BW := qx_in (i := 838) rfl rfl
set_option maxRecDepth 100000 in
theorem qx_selX10_coins : Cond.selects RX10 yX10_coins yX10_coins ∈ qx_BW := qx_in (i := 839) rfl rfl
set_option maxRecDepth 100000 in
theorem qx_mcX10_count : qx_MC yX10_count cX10_count 4 (some .int) 1 := ⟨qx_in (i := 844) rfl rfl, qx_in (i := 39) rfl rfl, ⟨by decide +kernel, by decide +kernel, by decide +kernel⟩, by decide +kernel⟩
set_option maxRecDepth 100000 in
theorem qx_iX10_count : Cond.instanceMethod yX10_count ∈ qx_BW := qx_in (i := 842) rfl rfl
set_option maxRecDepth 100000 in
theorem qx_selX10_count : Cond.selects RX10 yX10_count yX10_count ∈ qx_BW := qx_in (i := 843) rfl rfl
set_option maxRecDepth 100000 in
theorem qx_mcX10_clear : qx_MC yX10_clear cX10_clear 2 (some .int) 0 := ⟨qx_in (i := 848) rfl rfl, qx_in (i := 39) rfl rfl, ⟨by decide +kernel, by decide +kernel, by decide +kernel⟩, by decide +kernel⟩
set_option maxRecDepth 100000 in
theorem qx_iX10_clear : Cond.instanceMethod yX10_clear ∈ qx_BW := qx_in (i := 846) rfl rfl
set_option maxRecDepth 100000 in
theorem qx_selX10_clear : Cond.selects RX10 yX10_clear yX10_clear ∈ qx_BW := qx_in (i := 847) rfl rfl
set_option maxRecDepth 100000 in
theorem qx_mcJ7_rangeCheck_23922 : qx_MC yJ7_rangeCheck_23922 cJ7_rangeCheck_23922 3 none 3 := ⟨qx_in (i := 112) rfl rfl, qx_in (i := 34) rfl rfl, ⟨by decide +kernel, by decide +kernel, by decide +kernel⟩, by decide +kernel⟩
set_option maxRecDepth 100000 in
theorem qx_sJ7_rangeCheck_23922 : Cond.static yJ7_rangeCheck_23922 ∈ qx_BW := qx_in (i := 111) rfl rfl
set_option maxRecDepth 100000 in
theorem qx_mcJ7_fill_53178 : qx_MC yJ7_fill_53178 cJ7_fill_53178 4 none 2 := ⟨qx_in (i := 559) rfl rfl, qx_in (i := 34) rfl rfl, ⟨by decide +kernel, by decide +kernel, by decide +kernel⟩, by decide +kernel⟩
set_option maxRecDepth 100000 in
theorem qx_sJ7_fill_53178 : Cond.static yJ7_fill_53178 ∈ qx_BW := qx_in (i := 558) rfl rfl
set_option maxRecDepth 100000 in
theorem qx_mcJ7_fill_fda19 : qx_MC yJ7_fill_fda19 cJ7_fill_fda19 5 none 4 := ⟨qx_in (i := 109) rfl rfl, qx_in (i := 34) rfl rfl, ⟨by decide +kernel, by decide +kernel, by decide +kernel⟩, by decide +kernel⟩
set_option maxRecDepth 100000 in
theorem qx_sJ7_fill_fda19 : Cond.static yJ7_fill_fda19 ∈ qx_BW := qx_in (i := 108) rfl rfl
set_option maxRecDepth 100000 in
theorem qx_kRL_7 : Cond.classLink RL 7 RX9 ∈ qx_BW := qx_in (i := 43) rfl rfl
set_option maxRecDepth 100000 in
theorem qx_inRX9 : Cond.instantiable RX9 4 ∈ qx_BW := qx_in (i := 44) rfl rfl
set_option maxRecDepth 100000 in
theorem qx_iniRX9 : Cond.initialized RX9 ∈ qx_BW := qx_in (i := 30) rfl rfl
set_option maxRecDepth 100000 in
theorem qx_kRL_10 : Cond.classLink RL 10 RX10 ∈ qx_BW := qx_in (i := 566) rfl rfl
set_option maxRecDepth 100000 in
theorem qx_inRX10 : Cond.instantiable RX10 49 ∈ qx_BW := qx_in (i := 567) rfl rfl
set_option maxRecDepth 100000 in
theorem qx_iniRX10 : Cond.initialized RX10 ∈ qx_BW := qx_in (i := 39) rfl rfl
set_option maxRecDepth 100000 in
theorem qx_lRL_9 : Cond.methodLink RL 9 yX9_init ∈ qx_BW := qx_in (i := 45) rfl rfl
set_option maxRecDepth 100000 in
theorem qx_lRX9_1 : Cond.methodLink RX9 1 objectInit ∈ qx_BW := qx_in (i := 48) rfl rfl
set_option maxRecDepth 100000 in
theorem qx_kRX9_7 : Cond.classLink RX9 7 RX4 ∈ qx_BW := qx_in (i := 51) rfl rfl
set_option maxRecDepth 100000 in
theorem qx_inRX4 : Cond.instantiable RX4 2 ∈ qx_BW := qx_in (i := 52) rfl rfl
set_option maxRecDepth 100000 in
theorem qx_iniRX4 : Cond.initialized RX4 ∈ qx_BW := qx_in (i := 31) rfl rfl
set_option maxRecDepth 100000 in
theorem qx_kRX9_16 : Cond.classLink RX9 16 RX8 ∈ qx_BW := qx_in (i := 97) rfl rfl
set_option maxRecDepth 100000 in
theorem qx_inRX8 : Cond.instantiable RX8 5 ∈ qx_BW := qx_in (i := 98) rfl rfl
set_option maxRecDepth 100000 in
theorem qx_iniRX8 : Cond.initialized RX8 ∈ qx_BW := qx_in (i := 33) rfl rfl
set_option maxRecDepth 100000 in
theorem qx_kRX9_23 : Cond.classLink RX9 23 RX5 ∈ qx_BW := qx_in (i := 141) rfl rfl
set_option maxRecDepth 100000 in
theorem qx_inRX5 : Cond.instantiable RX5 10 ∈ qx_BW := qx_in (i := 142) rfl rfl
set_option maxRecDepth 100000 in
theorem qx_iniRX5 : Cond.initialized RX5 ∈ qx_BW := qx_in (i := 35) rfl rfl
set_option maxRecDepth 100000 in
theorem qx_kRX9_30 : Cond.classLink RX9 30 RX2 ∈ qx_BW := qx_in (i := 188) rfl rfl
set_option maxRecDepth 100000 in
theorem qx_inRX2 : Cond.instantiable RX2 5 ∈ qx_BW := qx_in (i := 189) rfl rfl
set_option maxRecDepth 100000 in
theorem qx_iniRX2 : Cond.initialized RX2 ∈ qx_BW := qx_in (i := 36) rfl rfl
set_option maxRecDepth 100000 in
theorem qx_lRX9_9 : Cond.methodLink RX9 9 yX4_init ∈ qx_BW := qx_in (i := 53) rfl rfl
set_option maxRecDepth 100000 in
theorem qx_lRX4_3 : Cond.methodLink RX4 3 objectInit ∈ qx_BW := qx_in (i := 56) rfl rfl
set_option maxRecDepth 100000 in
theorem qx_kRX4_9 : Cond.classLink RX4 9 RX3 ∈ qx_BW := qx_in (i := 57) rfl rfl
set_option maxRecDepth 100000 in
theorem qx_inRX3 : Cond.instantiable RX3 5 ∈ qx_BW := qx_in (i := 59) rfl rfl
set_option maxRecDepth 100000 in
theorem qx_iniRX3 : Cond.initialized RX3 ∈ qx_BW := qx_in (i := 32) rfl rfl
set_option maxRecDepth 100000 in
theorem qx_lRX3_3 : Cond.methodLink RX3 3 objectInit ∈ qx_BW := qx_in (i := 63) rfl rfl
set_option maxRecDepth 100000 in
theorem qx_lRX9_18 : Cond.methodLink RX9 18 yX8_init ∈ qx_BW := qx_in (i := 99) rfl rfl
set_option maxRecDepth 100000 in
theorem qx_lRX8_5 : Cond.methodLink RX8 5 objectInit ∈ qx_BW := qx_in (i := 102) rfl rfl
set_option maxRecDepth 100000 in
theorem qx_lRX8_21 : Cond.methodLink RX8 21 yX8_fillUsersPurses ∈ qx_BW := qx_in (i := 103) rfl rfl
set_option maxRecDepth 100000 in
theorem qx_lRX8_24 : Cond.methodLink RX8 24 yJ7_fill_fda19 ∈ qx_BW := qx_in (i := 107) rfl rfl
set_option maxRecDepth 100000 in
theorem qx_iniRJ7 : Cond.initialized RJ7 ∈ qx_BW := qx_in (i := 34) rfl rfl
set_option maxRecDepth 100000 in
theorem qx_lRJ7_13 : Cond.methodLink RJ7 13 yJ7_rangeCheck_23922 ∈ qx_BW := qx_in (i := 110) rfl rfl
set_option maxRecDepth 100000 in
theorem qx_lRX5_1 : Cond.methodLink RX5 1 objectInit ∈ qx_BW := qx_in (i := 146) rfl rfl
set_option maxRecDepth 100000 in
theorem qx_lRX9_32 : Cond.methodLink RX9 32 yX2_init ∈ qx_BW := qx_in (i := 190) rfl rfl
set_option maxRecDepth 100000 in
theorem qx_lRX2_3 : Cond.methodLink RX2 3 objectInit ∈ qx_BW := qx_in (i := 193) rfl rfl
set_option maxRecDepth 100000 in
theorem qx_kRX2_9 : Cond.classLink RX2 9 RX1 ∈ qx_BW := qx_in (i := 194) rfl rfl
set_option maxRecDepth 100000 in
theorem qx_kRX2_17 : Cond.classLink RX2 17 RX6 ∈ qx_BW := qx_in (i := 196) rfl rfl
set_option maxRecDepth 100000 in
theorem qx_inRX1 : Cond.instantiable RX1 14 ∈ qx_BW := qx_in (i := 198) rfl rfl
set_option maxRecDepth 100000 in
theorem qx_iniRX1 : Cond.initialized RX1 ∈ qx_BW := qx_in (i := 37) rfl rfl
set_option maxRecDepth 100000 in
theorem qx_inRX6 : Cond.instantiable RX6 4 ∈ qx_BW := qx_in (i := 261) rfl rfl
set_option maxRecDepth 100000 in
theorem qx_iniRX6 : Cond.initialized RX6 ∈ qx_BW := qx_in (i := 38) rfl rfl
set_option maxRecDepth 100000 in
theorem qx_lRX1_1 : Cond.methodLink RX1 1 objectInit ∈ qx_BW := qx_in (i := 202) rfl rfl
set_option maxRecDepth 100000 in
theorem qx_lRX6_3 : Cond.methodLink RX6 3 objectInit ∈ qx_BW := qx_in (i := 265) rfl rfl
set_option maxRecDepth 100000 in
theorem qx_lRL_12 : Cond.methodLink RL 12 yX10_init ∈ qx_BW := qx_in (i := 568) rfl rfl
set_option maxRecDepth 100000 in
theorem qx_lRX10_1 : Cond.methodLink RX10 1 objectInit ∈ qx_BW := qx_in (i := 571) rfl rfl
set_option maxRecDepth 100000 in
theorem qx_lRX10_116 : Cond.methodLink RX10 116 yX10_begin ∈ qx_BW := qx_in (i := 572) rfl rfl
set_option maxRecDepth 100000 in
theorem qx_lRL_13 : Cond.methodLink RL 13 yX9_contract ∈ qx_BW := qx_in (i := 308) rfl rfl
set_option maxRecDepth 100000 in
theorem qx_lRL_17 : Cond.methodLink RL 17 yX10_contract ∈ qx_BW := qx_in (i := 725) rfl rfl
set_option maxRecDepth 100000 in
theorem qx_lRL_18 : Cond.methodLink RL 18 yX9_step ∈ qx_BW := qx_in (i := 312) rfl rfl
set_option maxRecDepth 100000 in
theorem qx_lRX9_43 : Cond.methodLink RX9 43 yX9_refusedMember ∈ qx_BW := qx_in (i := 316) rfl rfl
set_option maxRecDepth 100000 in
theorem qx_lRX9_116 : Cond.methodLink RX9 116 yX4_has ∈ qx_BW := qx_in (i := 320) rfl rfl
set_option maxRecDepth 100000 in
theorem qx_lRX9_81 : Cond.methodLink RX9 81 yX9_within ∈ qx_BW := qx_in (i := 324) rfl rfl
set_option maxRecDepth 100000 in
theorem qx_lRX9_47 : Cond.methodLink RX9 47 yX0_fits ∈ qx_BW := qx_in (i := 327) rfl rfl
set_option maxRecDepth 100000 in
theorem qx_iniRX0 : Cond.initialized RX0 ∈ qx_BW := qx_in (i := 40) rfl rfl
set_option maxRecDepth 100000 in
theorem qx_lRX9_53 : Cond.methodLink RX9 53 yX4_memberOf ∈ qx_BW := qx_in (i := 331) rfl rfl
set_option maxRecDepth 100000 in
theorem qx_lRX9_62 : Cond.methodLink RX9 62 yX3_append ∈ qx_BW := qx_in (i := 335) rfl rfl
set_option maxRecDepth 100000 in
theorem qx_lRL_22 : Cond.methodLink RL 22 yX10_step ∈ qx_BW := qx_in (i := 729) rfl rfl
set_option maxRecDepth 100000 in
theorem qx_lRX10_146 : Cond.methodLink RX10 146 yX10_noContract ∈ qx_BW := qx_in (i := 733) rfl rfl
set_option maxRecDepth 100000 in
theorem qx_lRX10_142 : Cond.methodLink RX10 142 yX10_in ∈ qx_BW := qx_in (i := 737) rfl rfl
set_option maxRecDepth 100000 in
theorem qx_lRX10_150 : Cond.methodLink RX10 150 yX10_isCode ∈ qx_BW := qx_in (i := 740) rfl rfl
set_option maxRecDepth 100000 in
theorem qx_lRL_23 : Cond.methodLink RL 23 yX9_empty ∈ qx_BW := qx_in (i := 339) rfl rfl
set_option maxRecDepth 100000 in
theorem qx_lRL_27 : Cond.methodLink RL 27 yX10_empty ∈ qx_BW := qx_in (i := 743) rfl rfl
set_option maxRecDepth 100000 in
theorem qx_lRL_28 : Cond.methodLink RL 28 yX9_guard ∈ qx_BW := qx_in (i := 343) rfl rfl
set_option maxRecDepth 100000 in
theorem qx_lRL_32 : Cond.methodLink RL 32 yX10_guard ∈ qx_BW := qx_in (i := 747) rfl rfl
set_option maxRecDepth 100000 in
theorem qx_lRL_33 : Cond.methodLink RL 33 yX9_call ∈ qx_BW := qx_in (i := 347) rfl rfl
set_option maxRecDepth 100000 in
theorem qx_lRX9_70 : Cond.methodLink RX9 70 yX9_refusedCall ∈ qx_BW := qx_in (i := 351) rfl rfl
set_option maxRecDepth 100000 in
theorem qx_lRX9_126 : Cond.methodLink RX9 126 yX9_isUser ∈ qx_BW := qx_in (i := 355) rfl rfl
set_option maxRecDepth 100000 in
theorem qx_lRX9_74 : Cond.methodLink RX9 74 yX2_runForUser ∈ qx_BW := qx_in (i := 358) rfl rfl
set_option maxRecDepth 100000 in
theorem qx_lRX2_68 : Cond.methodLink RX2 68 Lib.Math.min.name ∈ qx_BW := qx_in (i := 448) rfl rfl
set_option maxRecDepth 100000 in
theorem qx_lRX2_39 : Cond.methodLink RX2 39 yX8_startCall ∈ qx_BW := qx_in (i := 362) rfl rfl
set_option maxRecDepth 100000 in
theorem qx_lRX2_42 : Cond.methodLink RX2 42 yX5_startCall ∈ qx_BW := qx_in (i := 366) rfl rfl
set_option maxRecDepth 100000 in
theorem qx_lRX2_45 : Cond.methodLink RX2 45 yX1_begin ∈ qx_BW := qx_in (i := 370) rfl rfl
set_option maxRecDepth 100000 in
theorem qx_lRX2_57 : Cond.methodLink RX2 57 yX2_runFrame ∈ qx_BW := qx_in (i := 374) rfl rfl
set_option maxRecDepth 100000 in
theorem qx_lRX2_88 : Cond.methodLink RX2 88 yX4_memberOf ∈ qx_BW := qx_in (i := 378) rfl rfl
set_option maxRecDepth 100000 in
theorem qx_lRX2_94 : Cond.methodLink RX2 94 yX5_enter ∈ qx_BW := qx_in (i := 379) rfl rfl
set_option maxRecDepth 100000 in
theorem qx_lRX5_39 : Cond.methodLink RX5 39 Lib.Math.max.name ∈ qx_BW := qx_in (i := 383) rfl rfl
set_option maxRecDepth 100000 in
theorem qx_lRX2_98 : Cond.methodLink RX2 98 yX6_keep ∈ qx_BW := qx_in (i := 386) rfl rfl
set_option maxRecDepth 100000 in
theorem qx_lRX6_21 : Cond.methodLink RX6 21 arraycopyName ∈ qx_BW := qx_in (i := 390) rfl rfl
set_option maxRecDepth 100000 in
theorem qx_lRX2_74 : Cond.methodLink RX2 74 yX8_move ∈ qx_BW := qx_in (i := 393) rfl rfl
set_option maxRecDepth 100000 in
theorem qx_lRX2_116 : Cond.methodLink RX2 116 yX1_endGiving ∈ qx_BW := qx_in (i := 397) rfl rfl
set_option maxRecDepth 100000 in
theorem qx_lRX2_125 : Cond.methodLink RX2 125 yX1_endThrowing ∈ qx_BW := qx_in (i := 401) rfl rfl
set_option maxRecDepth 100000 in
theorem qx_lRX2_128 : Cond.methodLink RX2 128 yX2_doStep ∈ qx_BW := qx_in (i := 405) rfl rfl
set_option maxRecDepth 100000 in
theorem qx_lRX2_132 : Cond.methodLink RX2 132 yX1_hasThrown ∈ qx_BW := qx_in (i := 471) rfl rfl
set_option maxRecDepth 100000 in
theorem qx_lRX2_136 : Cond.methodLink RX2 136 yX6_putBack ∈ qx_BW := qx_in (i := 498) rfl rfl
set_option maxRecDepth 100000 in
theorem qx_lRX2_139 : Cond.methodLink RX2 139 yX5_writeRow ∈ qx_BW := qx_in (i := 502) rfl rfl
set_option maxRecDepth 100000 in
theorem qx_lRX5_50 : Cond.methodLink RX5 50 yX1_used ∈ qx_BW := qx_in (i := 506) rfl rfl
set_option maxRecDepth 100000 in
theorem qx_lRX2_207 : Cond.methodLink RX2 207 Lib.Math.max.name ∈ qx_BW := qx_in (i := 443) rfl rfl
set_option maxRecDepth 100000 in
theorem qx_lRX2_197 : Cond.methodLink RX2 197 yX1_take ∈ qx_BW := qx_in (i := 430) rfl rfl
set_option maxRecDepth 100000 in
theorem qx_lRX2_229 : Cond.methodLink RX2 229 yX2_whyNotEntered ∈ qx_BW := qx_in (i := 451) rfl rfl
set_option maxRecDepth 100000 in
theorem qx_lRX2_245 : Cond.methodLink RX2 245 yX4_has ∈ qx_BW := qx_in (i := 455) rfl rfl
set_option maxRecDepth 100000 in
theorem qx_lRX2_251 : Cond.methodLink RX2 251 yX2_isGuardedInside ∈ qx_BW := qx_in (i := 456) rfl rfl
set_option maxRecDepth 100000 in
theorem qx_lRX2_226 : Cond.methodLink RX2 226 yX8_canPay ∈ qx_BW := qx_in (i := 460) rfl rfl
set_option maxRecDepth 100000 in
theorem qx_lRX2_233 : Cond.methodLink RX2 233 yX2_answerThrown ∈ qx_BW := qx_in (i := 464) rfl rfl
set_option maxRecDepth 100000 in
theorem qx_lRX2_167 : Cond.methodLink RX2 167 yX1_put ∈ qx_BW := qx_in (i := 423) rfl rfl
set_option maxRecDepth 100000 in
theorem qx_lRX2_64 : Cond.methodLink RX2 64 yX1_used ∈ qx_BW := qx_in (i := 467) rfl rfl
set_option maxRecDepth 100000 in
theorem qx_lRX2_242 : Cond.methodLink RX2 242 yX2_answerGiven ∈ qx_BW := qx_in (i := 475) rfl rfl
set_option maxRecDepth 100000 in
theorem qx_lRX2_153 : Cond.methodLink RX2 153 yX0_fitsStack ∈ qx_BW := qx_in (i := 409) rfl rfl
set_option maxRecDepth 100000 in
theorem qx_lRX2_159 : Cond.methodLink RX2 159 yX0_writes ∈ qx_BW := qx_in (i := 416) rfl rfl
set_option maxRecDepth 100000 in
theorem qx_lRX2_163 : Cond.methodLink RX2 163 yX2_numberFor ∈ qx_BW := qx_in (i := 419) rfl rfl
set_option maxRecDepth 100000 in
theorem qx_lRX2_170 : Cond.methodLink RX2 170 yX2_combine ∈ qx_BW := qx_in (i := 427) rfl rfl
set_option maxRecDepth 100000 in
theorem qx_lRX2_200 : Cond.methodLink RX2 200 yX2_divide ∈ qx_BW := qx_in (i := 434) rfl rfl
set_option maxRecDepth 100000 in
theorem qx_lRX2_203 : Cond.methodLink RX2 203 yX2_combined ∈ qx_BW := qx_in (i := 437) rfl rfl
set_option maxRecDepth 100000 in
theorem qx_lRX2_173 : Cond.methodLink RX2 173 yX2_arrange ∈ qx_BW := qx_in (i := 440) rfl rfl
set_option maxRecDepth 100000 in
theorem qx_lRX2_180 : Cond.methodLink RX2 180 yX2_callOther ∈ qx_BW := qx_in (i := 444) rfl rfl
set_option maxRecDepth 100000 in
theorem qx_lRX2_184 : Cond.methodLink RX2 184 yX2_act ∈ qx_BW := qx_in (i := 478) rfl rfl
set_option maxRecDepth 100000 in
theorem qx_lRX2_210 : Cond.methodLink RX2 210 yX8_save ∈ qx_BW := qx_in (i := 482) rfl rfl
set_option maxRecDepth 100000 in
theorem qx_lRX2_213 : Cond.methodLink RX2 213 yX2_tell ∈ qx_BW := qx_in (i := 486) rfl rfl
set_option maxRecDepth 100000 in
theorem qx_lRX2_222 : Cond.methodLink RX2 222 yX8_addEvent ∈ qx_BW := qx_in (i := 490) rfl rfl
set_option maxRecDepth 100000 in
theorem qx_lRX2_216 : Cond.methodLink RX2 216 yX2_send ∈ qx_BW := qx_in (i := 494) rfl rfl
set_option maxRecDepth 100000 in
theorem qx_lRX2_78 : Cond.methodLink RX2 78 yX5_endCall ∈ qx_BW := qx_in (i := 507) rfl rfl
set_option maxRecDepth 100000 in
theorem qx_lRX5_63 : Cond.methodLink RX5 63 yX1_hasThrown ∈ qx_BW := qx_in (i := 511) rfl rfl
set_option maxRecDepth 100000 in
theorem qx_lRL_37 : Cond.methodLink RL 37 yX10_call ∈ qx_BW := qx_in (i := 751) rfl rfl
set_option maxRecDepth 100000 in
theorem qx_lRX10_193 : Cond.methodLink RX10 193 yX10_enter ∈ qx_BW := qx_in (i := 755) rfl rfl
set_option maxRecDepth 100000 in
theorem qx_lRX10_159 : Cond.methodLink RX10 159 yX10_hold ∈ qx_BW := qx_in (i := 759) rfl rfl
set_option maxRecDepth 100000 in
theorem qx_lRX10_226 : Cond.methodLink RX10 226 yX10_oneStep ∈ qx_BW := qx_in (i := 763) rfl rfl
set_option maxRecDepth 100000 in
theorem qx_lRX10_186 : Cond.methodLink RX10 186 yX10_ends ∈ qx_BW := qx_in (i := 767) rfl rfl
set_option maxRecDepth 100000 in
theorem qx_lRX10_166 : Cond.methodLink RX10 166 yX10_undo ∈ qx_BW := qx_in (i := 771) rfl rfl
set_option maxRecDepth 100000 in
theorem qx_lRX10_178 : Cond.methodLink RX10 178 yX10_push ∈ qx_BW := qx_in (i := 775) rfl rfl
set_option maxRecDepth 100000 in
theorem qx_lRX10_217 : Cond.methodLink RX10 217 yX10_takes ∈ qx_BW := qx_in (i := 779) rfl rfl
set_option maxRecDepth 100000 in
theorem qx_lRX10_220 : Cond.methodLink RX10 220 yX10_leaves ∈ qx_BW := qx_in (i := 782) rfl rfl
set_option maxRecDepth 100000 in
theorem qx_lRX10_223 : Cond.methodLink RX10 223 yX10_act ∈ qx_BW := qx_in (i := 785) rfl rfl
set_option maxRecDepth 100000 in
theorem qx_lRX10_197 : Cond.methodLink RX10 197 yX10_gives ∈ qx_BW := qx_in (i := 789) rfl rfl
set_option maxRecDepth 100000 in
theorem qx_lRX10_201 : Cond.methodLink RX10 201 yX10_save ∈ qx_BW := qx_in (i := 793) rfl rfl
set_option maxRecDepth 100000 in
theorem qx_lRX10_182 : Cond.methodLink RX10 182 yX10_pop ∈ qx_BW := qx_in (i := 797) rfl rfl
set_option maxRecDepth 100000 in
theorem qx_lRX10_204 : Cond.methodLink RX10 204 yX10_callOut ∈ qx_BW := qx_in (i := 801) rfl rfl
set_option maxRecDepth 100000 in
theorem qx_lRX10_189 : Cond.methodLink RX10 189 yX10_shut ∈ qx_BW := qx_in (i := 805) rfl rfl
set_option maxRecDepth 100000 in
theorem qx_lRX10_208 : Cond.methodLink RX10 208 yX10_tell ∈ qx_BW := qx_in (i := 809) rfl rfl
set_option maxRecDepth 100000 in
theorem qx_lRX10_211 : Cond.methodLink RX10 211 yX10_send ∈ qx_BW := qx_in (i := 813) rfl rfl
set_option maxRecDepth 100000 in
theorem qx_lRX10_214 : Cond.methodLink RX10 214 yX10_reckon ∈ qx_BW := qx_in (i := 817) rfl rfl
set_option maxRecDepth 100000 in
theorem qx_lRL_38 : Cond.methodLink RL 38 yX9_told ∈ qx_BW := qx_in (i := 512) rfl rfl
set_option maxRecDepth 100000 in
theorem qx_lRL_42 : Cond.methodLink RL 42 yX10_told ∈ qx_BW := qx_in (i := 821) rfl rfl
set_option maxRecDepth 100000 in
theorem qx_lRL_43 : Cond.methodLink RL 43 yX9_frame ∈ qx_BW := qx_in (i := 516) rfl rfl
set_option maxRecDepth 100000 in
theorem qx_lRX9_105 : Cond.methodLink RX9 105 yX5_rowsKept ∈ qx_BW := qx_in (i := 520) rfl rfl
set_option maxRecDepth 100000 in
theorem qx_lRX5_33 : Cond.methodLink RX5 33 Lib.Math.min.name ∈ qx_BW := qx_in (i := 524) rfl rfl
set_option maxRecDepth 100000 in
theorem qx_lRL_46 : Cond.methodLink RL 46 yX10_frame ∈ qx_BW := qx_in (i := 825) rfl rfl
set_option maxRecDepth 100000 in
theorem qx_lRL_47 : Cond.methodLink RL 47 yX9_event ∈ qx_BW := qx_in (i := 525) rfl rfl
set_option maxRecDepth 100000 in
theorem qx_lRL_50 : Cond.methodLink RL 50 yX10_event ∈ qx_BW := qx_in (i := 829) rfl rfl
set_option maxRecDepth 100000 in
theorem qx_lRL_51 : Cond.methodLink RL 51 yX9_store ∈ qx_BW := qx_in (i := 529) rfl rfl
set_option maxRecDepth 100000 in
theorem qx_lRL_54 : Cond.methodLink RL 54 yX10_store ∈ qx_BW := qx_in (i := 833) rfl rfl
set_option maxRecDepth 100000 in
theorem qx_lRL_55 : Cond.methodLink RL 55 yX9_coins ∈ qx_BW := qx_in (i := 533) rfl rfl
set_option maxRecDepth 100000 in
theorem qx_lRL_58 : Cond.methodLink RL 58 yX10_coins ∈ qx_BW := qx_in (i := 837) rfl rfl
set_option maxRecDepth 100000 in
theorem qx_lRL_59 : Cond.methodLink RL 59 yX9_count ∈ qx_BW := qx_in (i := 537) rfl rfl
set_option maxRecDepth 100000 in
theorem qx_lRX9_135 : Cond.methodLink RX9 135 yX4_stepsInAll ∈ qx_BW := qx_in (i := 541) rfl rfl
set_option maxRecDepth 100000 in
theorem qx_lRL_62 : Cond.methodLink RL 62 yX10_count ∈ qx_BW := qx_in (i := 841) rfl rfl
set_option maxRecDepth 100000 in
theorem qx_lRL_63 : Cond.methodLink RL 63 yX9_clear ∈ qx_BW := qx_in (i := 545) rfl rfl
set_option maxRecDepth 100000 in
theorem qx_lRX9_138 : Cond.methodLink RX9 138 yX4_reset ∈ qx_BW := qx_in (i := 549) rfl rfl
set_option maxRecDepth 100000 in
theorem qx_lRX9_141 : Cond.methodLink RX9 141 yX8_reset ∈ qx_BW := qx_in (i := 553) rfl rfl
set_option maxRecDepth 100000 in
theorem qx_lRX8_30 : Cond.methodLink RX8 30 yJ7_fill_53178 ∈ qx_BW := qx_in (i := 557) rfl rfl
set_option maxRecDepth 100000 in
theorem qx_lRX8_33 : Cond.methodLink RX8 33 yX8_startCall ∈ qx_BW := qx_in (i := 560) rfl rfl
set_option maxRecDepth 100000 in
theorem qx_lRX9_142 : Cond.methodLink RX9 142 yX5_reset ∈ qx_BW := qx_in (i := 561) rfl rfl
set_option maxRecDepth 100000 in
theorem qx_lRX5_24 : Cond.methodLink RX5 24 yX5_startCall ∈ qx_BW := qx_in (i := 565) rfl rfl
set_option maxRecDepth 100000 in
theorem qx_lRL_66 : Cond.methodLink RL 66 yX10_clear ∈ qx_BW := qx_in (i := 845) rfl rfl
set_option maxRecDepth 100000 in
theorem qx_oIns : Cond.instanceMethod objectInit ∈ qx_BW := qx_in (i := 49) rfl rfl
set_option maxRecDepth 100000 in
theorem qx_oCode : Cond.code objectInit ⟨#[0xb1]⟩ 1 none ∈ qx_BW := qx_in (i := 50) rfl rfl
set_option maxRecDepth 100000 in
theorem qx_mMaxS : Cond.static Lib.Math.max.name ∈ qx_BW := qx_in (i := 384) rfl rfl
set_option maxRecDepth 100000 in
theorem qx_mMinS : Cond.static Lib.Math.min.name ∈ qx_BW := qx_in (i := 449) rfl rfl
set_option maxRecDepth 100000 in
theorem qx_mIni : Cond.initialized "java/lang/Math" ∈ qx_BW := qx_in (i := 41) rfl rfl
set_option maxRecDepth 100000 in
theorem qx_mMaxC : Cond.code Lib.Math.max.name Lib.Math.max.code 2 (some .int) ∈ qx_BW := qx_in (i := 385) rfl rfl
set_option maxRecDepth 100000 in
theorem qx_mMinC : Cond.code Lib.Math.min.name Lib.Math.min.code 2 (some .int) ∈ qx_BW := qx_in (i := 450) rfl rfl
set_option maxRecDepth 100000 in
theorem qx_cN : Cond.native arraycopyName ∈ qx_BW := qx_in (i := 392) rfl rfl
set_option maxRecDepth 100000 in
theorem qx_cS : Cond.static arraycopyName ∈ qx_BW := qx_in (i := 391) rfl rfl
set_option maxRecDepth 100000 in
theorem qx_cI : Cond.initialized "java/lang/System" ∈ qx_BW := qx_in (i := 42) rfl rfl
set_option maxRecDepth 100000 in
theorem qx_aI : Cond.arrayClass .int ∈ qx_BW := qx_in (i := 88) rfl rfl
set_option maxRecDepth 100000 in
theorem qx_aZ : Cond.arrayClass .boolean ∈ qx_BW := qx_in (i := 724) rfl rfl
end
section
/-! the world of all cells: families (f, i) at addresses, ints by σ, references by ρ -/
abbrev qx_St : Type := Nat → Nat → Nat → Int32
abbrev qx_Wx : Type := List (Nat × Nat) × (Nat → Nat → Nat) × (Nat → Nat → Nat → Option Nat)
abbrev qx_Gx : Type := va_G × (Nat → ClassId) × (Nat → Prop)
abbrev qx_Cx := Program × Launch × Env × Room × State × MethodId × Array Value × List Frame × Method × Code
/-- one array or object's numbers anew -/
def qx_sa (σ : qx_St) (f i : Nat) (g : Nat → Int32) : qx_St := va_up σ f (va_up (σ f) i g)
/-- one number anew -/
def qx_st (σ : qx_St) (f i j : Nat) (v : Int32) : qx_St := qx_sa σ f i (upd (σ f i) j v)
/-- one reference anew -/
def qx_rt (ρ : Nat → Nat → Nat → Option Nat) (f i j : Nat) (v : Option Nat) : Nat → Nat → Nat → Option Nat := va_up ρ f (va_up (ρ f) i (va_up (ρ f i) j v))
def qx_slot (σ : qx_St) (ρ : Nat → Nat → Nat → Option Nat) (f i : Nat) (sl : List (Option Nat)) (j : Nat) : Value := match sl[j]? with
  | some (some _) => va_rf (ρ f i j)
  | _ => .int (σ f i j)
def qx_E (ca : Nat → ClassId) (ρ : Nat → Nat → Nat → Option Nat) (σ : qx_St) (f i : Nat) : va_E := match qx_sh f with
  | .inl o => .inr (o.1, (List.range o.2.length).map (qx_slot σ ρ f i o.2))
  | .inr (.inl a) => .inl (ca a.1, a.2, .inl (σ f i))
  | .inr (.inr a) => .inl (ca a.1, a.2.1, .inr (.inr (.inr (.inr (ρ f i)))))
def qx_wd (ca : Nat → ClassId) (w : qx_Wx) (σ : qx_St) : va_W := w.1.map (fun q => (w.2.1 q.1 q.2, qx_E ca w.2.2 σ q.1 q.2))
theorem qx_wd_at {ca : Nat → ClassId} {w : qx_Wx} {σ : qx_St} {f i : Nat} (h : (f, i) ∈ w.1) : ∃ q0 : Nat, w.1[q0]? = some (f, i) ∧ (qx_wd ca w σ)[q0]? = some (w.2.1 f i, qx_E ca w.2.2 σ f i) := by
  obtain ⟨q0, hq⟩ := List.getElem?_of_mem h
  exact ⟨q0, hq, by simp [qx_wd, hq]⟩
theorem qx_wd_set {ca : Nat → ClassId} {w : qx_Wx} {ρ' : Nat → Nat → Nat → Option Nat} {σ σ' : qx_St} {A : Nat → Prop} {f i q0 : Nat} (hD : va_D A (qx_wd ca w σ)) (hq : w.1[q0]? = some (f, i)) (hk : ∀ f' i', ¬ (f' = f ∧ i' = i) → qx_E ca ρ' σ' f' i' = qx_E ca w.2.2 σ f' i') : (qx_wd ca w σ).set q0 (w.2.1 f i, qx_E ca ρ' σ' f i) = qx_wd ca (w.1, w.2.1, ρ') σ' := by
  apply List.ext_getElem?
  intro k
  by_cases hkq : k = q0
  · subst hkq
    have hl : k < (qx_wd ca w σ).length := by
      have := (List.getElem?_eq_some_iff.mp hq).1
      simpa [qx_wd] using this
    rw [List.getElem?_set_self hl]
    simp [qx_wd, hq]
  · rw [List.getElem?_set_ne (Ne.symm hkq)]
    cases hx : w.1[k]? with
    | none => simp [qx_wd, hx]
    | some x =>
      obtain ⟨f', i'⟩ := x
      have hne : ¬ (f' = f ∧ i' = i) := by
        rintro ⟨rfl, rfl⟩
        exact hkq (hD.1 k q0 (w.2.1 f' i', qx_E ca w.2.2 σ f' i') (w.2.1 f' i', qx_E ca w.2.2 σ f' i') (by simp [qx_wd, hx]) (by simp [qx_wd, hq]) rfl)
      simp [qx_wd, hx, hk f' i' hne]
theorem qx_sa_ff (σ : qx_St) (f i : Nat) (g : Nat → Int32) : qx_sa σ f i g f i = g := by simp [qx_sa, va_up]
theorem qx_sa_ne {σ : qx_St} {f i f' i' : Nat} {g : Nat → Int32} (h : ¬ (f' = f ∧ i' = i)) : qx_sa σ f i g f' i' = σ f' i' := by
  by_cases hf : f' = f
  · subst hf
    have hi : i' ≠ i := fun e => h ⟨rfl, e⟩
    simp [qx_sa, va_up, hi]
  · simp [qx_sa, va_up, hf]
theorem qx_E_ne {ca : Nat → ClassId} {ρ : Nat → Nat → Nat → Option Nat} {σ : qx_St} {f i : Nat} {g : Nat → Int32} : ∀ f' i', ¬ (f' = f ∧ i' = i) → qx_E ca ρ (qx_sa σ f i g) f' i' = qx_E ca ρ σ f' i' := by
  intro f' i' h
  have e : qx_sa σ f i g f' i' = σ f' i' := qx_sa_ne h
  have e2 : ∀ sl : List (Option Nat), qx_slot (qx_sa σ f i g) ρ f' i' sl = qx_slot σ ρ f' i' sl := by
    intro sl; funext j; simp only [qx_slot, e]
  simp only [qx_E, e, e2]
theorem qx_E_nst {ca : Nat → ClassId} {ρ : Nat → Nat → Nat → Option Nat} {σ : qx_St} {f i j : Nat} {v : Int32} : ∀ f' i', ¬ (f' = f ∧ i' = i) → qx_E ca ρ (qx_st σ f i j v) f' i' = qx_E ca ρ σ f' i' := qx_E_ne
theorem qx_E_iarr {ca : Nat → ClassId} {ρ : Nat → Nat → Nat → Option Nat} {σ : qx_St} {f i : Nat} {k n : Nat} (h : qx_sh f = .inr (.inl (k, n))) : qx_E ca ρ σ f i = .inl (ca k, n, .inl (σ f i)) := by simp only [qx_E, h]
theorem qx_E_qarr {ca : Nat → ClassId} {ρ : Nat → Nat → Nat → Option Nat} {σ : qx_St} {f i : Nat} {k n tg : Nat} (h : qx_sh f = .inr (.inr (k, n, tg))) : qx_E ca ρ σ f i = .inl (ca k, n, .inr (.inr (.inr (.inr (ρ f i))))) := by simp only [qx_E, h]
theorem qx_E_obj {ca : Nat → ClassId} {ρ : Nat → Nat → Nat → Option Nat} {σ : qx_St} {f i ci : Nat} {sl : List (Option Nat)} (h : qx_sh f = .inl (ci, sl)) : qx_E ca ρ σ f i = .inr (ci, (List.range sl.length).map (qx_slot σ ρ f i sl)) := by simp only [qx_E, h]
/-- the types of the arrays -/
def qx_ty (ca : Nat → ClassId) : List (ClassId × FieldType) := [(ca 0, .int), (ca 1, .boolean), (ca 2, .object RX3), (ca 3, .object RX1), (ca 4, .object RX6)]
def qx_takes (j : Nat) : Value := .int (([0, 0, 0, 0, 0, 0, 0, 1, 2, 2, 2, 2, 2, 2, 1, 1, 1, 1, 2, 3, 3, 2, 1, 1, 1, 0] : List Int32).getD j 0)
def qx_puts (j : Nat) : Value := .int (([1, 1, 1, 1, 1, 1, 1, 0, 1, 1, 1, 1, 1, 1, 0, 0, 2, 0, 2, 1, 2, 1, 0, 0, 0, 0] : List Int32).getD j 0)
def qx_takesI (j : Nat) : Int32 := ([0, 0, 0, 0, 0, 0, 0, 1, 2, 2, 2, 2, 2, 2, 1, 1, 1, 1, 2, 3, 3, 2, 1, 1, 1, 0] : List Int32).getD j 0
def qx_putsI (j : Nat) : Int32 := ([1, 1, 1, 1, 1, 1, 1, 0, 1, 1, 1, 1, 1, 1, 0, 0, 2, 0, 2, 1, 2, 1, 0, 0, 0, 0] : List Int32).getD j 0
/-- what of the tables never changes: classes, nest mates, the two static tables at t1, t2, the arrays over classes -/
def qx_nest (U : State) : Prop := va_Nw (.methodLinkNest RX4 17 yX3_init RX9) U ∧ va_Nw (.methodLinkNest RX9 25 yX5_init RX9) U ∧ va_Nw (.methodLinkNest RX2 35 yX1_init RX9) U ∧ va_Nw (.methodLinkNest RX2 36 yX6_init RX9) U ∧ va_Nw (.methodLinkNest RX0 9 yX9_within RX9) U
def qx_stat (A : Nat → Prop) (t1 t2 : Nat) (U : State) (H : Heap) : Prop := va_Z RX0 "TAKES" "[I" (.ref t1) A U H ∧ va_Z RX0 "PUTS" "[I" (.ref t2) A U H ∧ va_T .int t1 26 qx_takes A U H ∧ va_T .int t2 26 qx_puts A U H
def qx_gS (G : qx_Gx) (t1 t2 : Nat) (U : State) (H : Heap) : Prop := va_K G.1 vwCl (qx_ty G.2.1) U ∧ qx_nest U ∧ qx_stat G.2.2 t1 t2 U H ∧ va_AO RX3 U ∧ va_AO RX1 U ∧ va_AO RX6 U
theorem qx_nest.warm {s U : State} (hW : s.WarmedH U.vm) (h : qx_nest s) : qx_nest U := ⟨va_Nw.warmM hW h.1, va_Nw.warmM hW h.2.1, va_Nw.warmM hW h.2.2.1, va_Nw.warmM hW h.2.2.2.1, va_Nw.warmM hW h.2.2.2.2⟩
theorem qx_nest.same {s U : State} (h0 : s.vm = U.vm) (h : qx_nest s) : qx_nest U := ⟨va_Nw.same rfl h0 h.1, va_Nw.same rfl h0 h.2.1, va_Nw.same rfl h0 h.2.2.1, va_Nw.same rfl h0 h.2.2.2.1, va_Nw.same rfl h0 h.2.2.2.2⟩
theorem qx_stat.moved {A : Nat → Prop} {t1 t2 : Nat} {u U : State} {H : Heap} (hvm : u.vm.Alike U.vm) (h : qx_stat A t1 t2 u H) : qx_stat A t1 t2 U H := ⟨va_Z.moved hvm h.1, va_Z.moved hvm h.2.1, va_T.moved hvm h.2.2.1, va_T.moved hvm h.2.2.2⟩
theorem qx_stat.kept {A : Nat → Prop} {t1 t2 : Nat} {U : State} {H H1 : Heap} (h : qx_stat A t1 t2 U H) (hq : ∀ a : Nat, a < H.size → ¬ A a → H1[a]? = H[a]?) : qx_stat A t1 t2 U H1 := ⟨h.1.kept hq, h.2.1.kept hq, h.2.2.1.kept hq, h.2.2.2.kept hq⟩
theorem qx_stat.narrow {A B : Nat → Prop} {t1 t2 : Nat} {U : State} {H : Heap} (h : qx_stat A t1 t2 U H) (hAB : ∀ q, B q → A q) : qx_stat B t1 t2 U H := ⟨h.1.narrow hAB, h.2.1.narrow hAB, h.2.2.1.narrow hAB, h.2.2.2.narrow hAB⟩
theorem qx_gS.warm {G : qx_Gx} {t1 t2 : Nat} {s U : State} {H : Heap} (hW : s.WarmedH U.vm) (h : qx_gS G t1 t2 s H) : qx_gS G t1 t2 U H := ⟨va_K.moved hW.alike h.1, h.2.1.warm hW, h.2.2.1.moved hW.alike, va_AO.moved hW.alike h.2.2.2.1, va_AO.moved hW.alike h.2.2.2.2.1, va_AO.moved hW.alike h.2.2.2.2.2⟩
theorem qx_gS.calling {G : qx_Gx} {t1 t2 : Nat} {U : State} {H : Heap} (g : JFrame) (mk : MethodId) (a : Array Value) (h : qx_gS G t1 t2 U H) : qx_gS G t1 t2 (U.calling g mk a) H := ⟨va_K.moved (u := U) (U := U.calling g mk a) (Vm.Alike.refl U.vm) h.1, h.2.1.same rfl, qx_stat.moved (u := U) (U := U.calling g mk a) (Vm.Alike.refl U.vm) h.2.2.1, va_AO.moved (u := U) (U := U.calling g mk a) (Vm.Alike.refl U.vm) h.2.2.2.1, va_AO.moved (u := U) (U := U.calling g mk a) (Vm.Alike.refl U.vm) h.2.2.2.2.1, va_AO.moved (u := U) (U := U.calling g mk a) (Vm.Alike.refl U.vm) h.2.2.2.2.2⟩
theorem qx_gS.kept {G : qx_Gx} {t1 t2 : Nat} {U : State} {H H1 : Heap} (h : qx_gS G t1 t2 U H) (hq : ∀ a : Nat, a < H.size → ¬ G.2.2 a → H1[a]? = H[a]?) : qx_gS G t1 t2 U H1 := ⟨h.1, h.2.1, h.2.2.1.kept hq, h.2.2.2⟩
theorem qx_gS.narrow {D : va_G} {ca : Nat → ClassId} {A B : Nat → Prop} {t1 t2 : Nat} {U : State} {H : Heap} (h : qx_gS (D, ca, A) t1 t2 U H) (hAB : ∀ q, B q → A q) : qx_gS (D, ca, B) t1 t2 U H := ⟨h.1, h.2.1, h.2.2.1.narrow hAB, h.2.2.2⟩
/-- what holds through a method's walk -/
def qx_Ok (K : qx_Cx) (G : qx_Gx) (t1 t2 : Nat) (cc : ByteArray) (own : String) (nL : Nat) : Prop :=
  K.1.tables.exec = Jvm.exec ∧ K.2.2.2.2.2.2.2.2.2.code = cc ∧ K.2.2.2.2.2.2.2.2.2.maxLocals = nL ∧ K.2.2.2.2.1.vm.findClass own = some K.2.2.2.2.2.1.cls ∧ (∀ w ∈ qx_BW, w.before K.2.2.2.2.2.2.1 K.2.2.2.2.1 = true) ∧ qx_gS G t1 t2 K.2.2.2.2.1 K.2.2.2.2.1.heap
/-- the machine at pc, with the world σ, locals lv, operands st: it comes to Q -/
def qx_V (K : qx_Cx) (G : qx_Gx) (nL cells slots : Nat) (Q : State → Prop) (w : qx_Wx) (σ : qx_St) (pc : Nat) (lv : List (Nat × Value)) (st : List Value) : Prop :=
  ∀ (H : Heap) (locs : List Loc) (ls : Array Slot), va_P G.1 vwCl (qx_wd G.2.1 w σ) H → va_D G.2.2 (qx_wd G.2.1 w σ) → va_S G.2.2 K.2.2.2.2.1.heap H locs → lv_has ls nL lv →
    W K.1 K.2.1 K.2.2.1 K.2.2.2.1 K.2.2.2.2.1 K.2.2.2.2.2.1 K.2.2.2.2.2.2.1 K.2.2.2.2.2.2.2.1 K.2.2.2.2.2.2.2.2.1 K.2.2.2.2.2.2.2.2.2 H locs cells slots Q (F0 K.2.2.2.2.2.1 pc ls st)
section QXV
variable {K : qx_Cx} {G : qx_Gx} {t1 t2 nL cells slots : Nat} {Q : State → Prop} {w : qx_Wx} {σ : qx_St} {pc : Nat} {lv : List (Nat × Value)} {st : List Value} {cc : ByteArray} {own : String}
theorem qx_iconst (X : qx_Ok K G t1 t2 cc own nL) {n : Int} {v : Int32} (hdg : decode cc pc = .ok (.iconst n, 1)) (hv : Int32.ofInt n = v) (k : qx_V K G nL cells slots Q w σ (pc + 1) lv (.int v :: st)) : qx_V K G nL cells slots Q w σ pc lv st := fun H locs ls hP hD hS hl => lv_iconst X.1 X.2.1 hdg hv (k H locs ls hP hD hS hl)
theorem qx_bipush (X : qx_Ok K G t1 t2 cc own nL) {n : Int} {v : Int32} (hdg : decode cc pc = .ok (.bipush n, 2)) (hv : (Int8.ofInt n).toInt32 = v) (k : qx_V K G nL cells slots Q w σ (pc + 2) lv (.int v :: st)) : qx_V K G nL cells slots Q w σ pc lv st := fun H locs ls hP hD hS hl => lv_bipush X.1 X.2.1 hdg hv (k H locs ls hP hD hS hl)
theorem qx_sipush (X : qx_Ok K G t1 t2 cc own nL) {n : Int} {v : Int32} (hdg : decode cc pc = .ok (.sipush n, 3)) (hv : (Int16.ofInt n).toInt32 = v) (k : qx_V K G nL cells slots Q w σ (pc + 3) lv (.int v :: st)) : qx_V K G nL cells slots Q w σ pc lv st := fun H locs ls hP hD hS hl => lv_sipush X.1 X.2.1 hdg hv (k H locs ls hP hD hS hl)
theorem qx_iload_n (X : qx_Ok K G t1 t2 cc own nL) (q : Nat) {n : Fin 4} {i : Nat} {x : Int32} (hdg : decode cc pc = .ok (.iload_n n, 1)) (hi : (n : Nat) = i) (hq : lv[q]? = some (i, .int x)) (k : qx_V K G nL cells slots Q w σ (pc + 1) lv (.int x :: st)) : qx_V K G nL cells slots Q w σ pc lv st := fun H locs ls hP hD hS hl => lv_iload_n X.1 X.2.1 hdg hi (lv_at hl q hq) (k H locs ls hP hD hS hl)
theorem qx_iload (X : qx_Ok K G t1 t2 cc own nL) (q : Nat) {i : Nat} {x : Int32} (hdg : decode cc pc = .ok (.iload i, 2)) (hq : lv[q]? = some (i, .int x)) (k : qx_V K G nL cells slots Q w σ (pc + 2) lv (.int x :: st)) : qx_V K G nL cells slots Q w σ pc lv st := fun H locs ls hP hD hS hl => lv_iload X.1 X.2.1 hdg (lv_at hl q hq) (k H locs ls hP hD hS hl)
theorem qx_aload_n (X : qx_Ok K G t1 t2 cc own nL) (q : Nat) {n : Fin 4} {i : Nat} {x : Nat} (hdg : decode cc pc = .ok (.aload_n n, 1)) (hi : (n : Nat) = i) (hq : lv[q]? = some (i, .ref x)) (k : qx_V K G nL cells slots Q w σ (pc + 1) lv (.ref x :: st)) : qx_V K G nL cells slots Q w σ pc lv st := fun H locs ls hP hD hS hl => lv_aload_n X.1 X.2.1 hdg hi (lv_at hl q hq) (k H locs ls hP hD hS hl)
theorem qx_aload (X : qx_Ok K G t1 t2 cc own nL) (q : Nat) {i : Nat} {x : Nat} (hdg : decode cc pc = .ok (.aload i, 2)) (hq : lv[q]? = some (i, .ref x)) (k : qx_V K G nL cells slots Q w σ (pc + 2) lv (.ref x :: st)) : qx_V K G nL cells slots Q w σ pc lv st := fun H locs ls hP hD hS hl => lv_aload X.1 X.2.1 hdg (lv_at hl q hq) (k H locs ls hP hD hS hl)
theorem qx_istore_n (X : qx_Ok K G t1 t2 cc own nL) {n : Fin 4} {i : Nat} {x : Int32} {lv' : List (Nat × Value)} (hdg : decode cc pc = .ok (.istore_n n, 1)) (hi : (n : Nat) = i) (hn : i < nL) (hl' : (i, Value.int x) :: lv.filter (fun q => !(q.1 == i) && !(q.1 + 1 == i && q.2.category == 2)) = lv') (k : qx_V K G nL cells slots Q w σ (pc + 1) lv' st) : qx_V K G nL cells slots Q w σ pc lv (.int x :: st) := fun H locs ls hP hD hS hl => lv_istore_n X.1 X.2.1 hdg hi hl hn hl' (fun ls' hl2 => k H locs ls' hP hD hS hl2)
theorem qx_istore (X : qx_Ok K G t1 t2 cc own nL) {i : Nat} {x : Int32} {lv' : List (Nat × Value)} (hdg : decode cc pc = .ok (.istore i, 2)) (hn : i < nL) (hl' : (i, Value.int x) :: lv.filter (fun q => !(q.1 == i) && !(q.1 + 1 == i && q.2.category == 2)) = lv') (k : qx_V K G nL cells slots Q w σ (pc + 2) lv' st) : qx_V K G nL cells slots Q w σ pc lv (.int x :: st) := fun H locs ls hP hD hS hl => lv_istore X.1 X.2.1 hdg hl hn hl' (fun ls' hl2 => k H locs ls' hP hD hS hl2)
theorem qx_astore_n (X : qx_Ok K G t1 t2 cc own nL) {n : Fin 4} {i x : Nat} {lv' : List (Nat × Value)} (hdg : decode cc pc = .ok (.astore_n n, 1)) (hi : (n : Nat) = i) (hn : i < nL) (hl' : (i, Value.ref x) :: lv.filter (fun q => !(q.1 == i) && !(q.1 + 1 == i && q.2.category == 2)) = lv') (k : qx_V K G nL cells slots Q w σ (pc + 1) lv' st) : qx_V K G nL cells slots Q w σ pc lv (.ref x :: st) := fun H locs ls hP hD hS hl => lv_astore_n X.1 X.2.1 hdg hi hl hn hl' (fun ls' hl2 => k H locs ls' hP hD hS hl2)
theorem qx_astore (X : qx_Ok K G t1 t2 cc own nL) {i x : Nat} {lv' : List (Nat × Value)} (hdg : decode cc pc = .ok (.astore i, 2)) (hn : i < nL) (hl' : (i, Value.ref x) :: lv.filter (fun q => !(q.1 == i) && !(q.1 + 1 == i && q.2.category == 2)) = lv') (k : qx_V K G nL cells slots Q w σ (pc + 2) lv' st) : qx_V K G nL cells slots Q w σ pc lv (.ref x :: st) := fun H locs ls hP hD hS hl => lv_astore X.1 X.2.1 hdg hl hn hl' (fun ls' hl2 => k H locs ls' hP hD hS hl2)
theorem qx_iinc (X : qx_Ok K G t1 t2 cc own nL) (q : Nat) {i : Nat} {n : Int} {x v : Int32} {lv' : List (Nat × Value)} (hdg : decode cc pc = .ok (.iinc i n, 3)) (hq : lv[q]? = some (i, .int x)) (hv : x + Int32.ofInt n = v) (hn : i < nL) (hl' : (i, Value.int v) :: lv.filter (fun q => !(q.1 == i) && !(q.1 + 1 == i && q.2.category == 2)) = lv') (k : qx_V K G nL cells slots Q w σ (pc + 3) lv' st) : qx_V K G nL cells slots Q w σ pc lv st := fun H locs ls hP hD hS hl => lv_iinc X.1 X.2.1 hdg hl hq hv hn hl' (fun ls' hl2 => k H locs ls' hP hD hS hl2)
theorem qx_iadd (X : qx_Ok K G t1 t2 cc own nL) {x y : Int32} (hdg : decode cc pc = .ok (.iadd, 1)) (k : qx_V K G nL cells slots Q w σ (pc + 1) lv (.int (x + y) :: st)) : qx_V K G nL cells slots Q w σ pc lv (.int y :: .int x :: st) := fun H locs ls hP hD hS hl => lv_iadd X.1 X.2.1 hdg (k H locs ls hP hD hS hl)
theorem qx_isub (X : qx_Ok K G t1 t2 cc own nL) {x y : Int32} (hdg : decode cc pc = .ok (.isub, 1)) (k : qx_V K G nL cells slots Q w σ (pc + 1) lv (.int (x - y) :: st)) : qx_V K G nL cells slots Q w σ pc lv (.int y :: .int x :: st) := fun H locs ls hP hD hS hl => lv_isub X.1 X.2.1 hdg (k H locs ls hP hD hS hl)
theorem qx_imul (X : qx_Ok K G t1 t2 cc own nL) {x y : Int32} (hdg : decode cc pc = .ok (.imul, 1)) (k : qx_V K G nL cells slots Q w σ (pc + 1) lv (.int (x * y) :: st)) : qx_V K G nL cells slots Q w σ pc lv (.int y :: .int x :: st) := fun H locs ls hP hD hS hl => lv_imul X.1 X.2.1 hdg (k H locs ls hP hD hS hl)
theorem qx_iand (X : qx_Ok K G t1 t2 cc own nL) {x y : Int32} (hdg : decode cc pc = .ok (.iand, 1)) (k : qx_V K G nL cells slots Q w σ (pc + 1) lv (.int (x &&& y) :: st)) : qx_V K G nL cells slots Q w σ pc lv (.int y :: .int x :: st) := fun H locs ls hP hD hS hl => lv_iand X.1 X.2.1 hdg (k H locs ls hP hD hS hl)
theorem qx_idiv (X : qx_Ok K G t1 t2 cc own nL) {x y : Int32} (hdg : decode cc pc = .ok (.idiv, 1)) (hne : ¬ y = 0) (k : qx_V K G nL cells slots Q w σ (pc + 1) lv (.int (x / y) :: st)) : qx_V K G nL cells slots Q w σ pc lv (.int y :: .int x :: st) := fun H locs ls hP hD hS hl => lv_idiv X.1 X.2.1 hdg hne (k H locs ls hP hD hS hl)
theorem qx_i2l (X : qx_Ok K G t1 t2 cc own nL) {x : Int32} (hdg : decode cc pc = .ok (.i2l, 1)) (k : qx_V K G nL cells slots Q w σ (pc + 1) lv (.long x.toInt64 :: st)) : qx_V K G nL cells slots Q w σ pc lv (.int x :: st) := fun H locs ls hP hD hS hl => lv_i2l X.1 X.2.1 hdg rfl (k H locs ls hP hD hS hl)
theorem qx_l2i (X : qx_Ok K G t1 t2 cc own nL) {x : Int64} (hdg : decode cc pc = .ok (.l2i, 1)) (k : qx_V K G nL cells slots Q w σ (pc + 1) lv (.int x.toInt32 :: st)) : qx_V K G nL cells slots Q w σ pc lv (.long x :: st) := fun H locs ls hP hD hS hl => lv_l2i X.1 X.2.1 hdg rfl (k H locs ls hP hD hS hl)
theorem qx_ldiv (X : qx_Ok K G t1 t2 cc own nL) {x y : Int64} (hdg : decode cc pc = .ok (.ldiv, 1)) (hne : ¬ y = 0) (k : qx_V K G nL cells slots Q w σ (pc + 1) lv (.long (x / y) :: st)) : qx_V K G nL cells slots Q w σ pc lv (.long y :: .long x :: st) := fun H locs ls hP hD hS hl => lv_ldiv X.1 X.2.1 hdg hne (k H locs ls hP hD hS hl)
theorem qx_dup (X : qx_Ok K G t1 t2 cc own nL) {v : Value} (hdg : decode cc pc = .ok (.dup, 1)) (hv : v.category = 1) (k : qx_V K G nL cells slots Q w σ (pc + 1) lv (v :: v :: st)) : qx_V K G nL cells slots Q w σ pc lv (v :: st) := fun H locs ls hP hD hS hl => lv_dup X.1 X.2.1 hdg hv (k H locs ls hP hD hS hl)
theorem qx_dup2 (X : qx_Ok K G t1 t2 cc own nL) {v u : Value} (hdg : decode cc pc = .ok (.dup2, 1)) (hv : v.category = 1) (hu : u.category = 1) (k : qx_V K G nL cells slots Q w σ (pc + 1) lv (v :: u :: v :: u :: st)) : qx_V K G nL cells slots Q w σ pc lv (v :: u :: st) := fun H locs ls hP hD hS hl => lv_dup2_11 X.1 X.2.1 hdg hv hu (k H locs ls hP hD hS hl)
theorem qx_goto (X : qx_Ok K G t1 t2 cc own nL) {off : Int} {tgt : Nat} (hdg : decode cc pc = .ok (.goto off, 3)) (ht : (pc : Int) + off = (tgt : Int)) (k : qx_V K G nL cells slots Q w σ tgt lv st) : qx_V K G nL cells slots Q w σ pc lv st := fun H locs ls hP hD hS hl => lv_goto X.1 X.2.1 hdg ht (k H locs ls hP hD hS hl)
theorem qx_if_eq (X : qx_Ok K G t1 t2 cc own nL) {x : Int32} {off : Int} {tgt : Nat} (hdg : decode cc pc = .ok (.ifCond .eq off, 3)) (ht : (pc : Int) + off = (tgt : Int)) (kt : x = 0 → qx_V K G nL cells slots Q w σ tgt lv st) (kf : ¬ (x = 0) → qx_V K G nL cells slots Q w σ (pc + 3) lv st) : qx_V K G nL cells slots Q w σ pc lv (.int x :: st) := fun H locs ls hP hD hS hl => lv_if_eq X.1 X.2.1 hdg ht (fun c => kt c H locs ls hP hD hS hl) (fun c => kf c H locs ls hP hD hS hl)
theorem qx_icmp_eq (X : qx_Ok K G t1 t2 cc own nL) {x y : Int32} {off : Int} {tgt : Nat} (hdg : decode cc pc = .ok (.if_icmp .eq off, 3)) (ht : (pc : Int) + off = (tgt : Int)) (kt : x = y → qx_V K G nL cells slots Q w σ tgt lv st) (kf : ¬ (x = y) → qx_V K G nL cells slots Q w σ (pc + 3) lv st) : qx_V K G nL cells slots Q w σ pc lv (.int y :: .int x :: st) := fun H locs ls hP hD hS hl => lv_icmp_eq X.1 X.2.1 hdg ht (fun c => kt c H locs ls hP hD hS hl) (fun c => kf c H locs ls hP hD hS hl)
theorem qx_if_ne (X : qx_Ok K G t1 t2 cc own nL) {x : Int32} {off : Int} {tgt : Nat} (hdg : decode cc pc = .ok (.ifCond .ne off, 3)) (ht : (pc : Int) + off = (tgt : Int)) (kt : ¬ x = 0 → qx_V K G nL cells slots Q w σ tgt lv st) (kf : x = 0 → qx_V K G nL cells slots Q w σ (pc + 3) lv st) : qx_V K G nL cells slots Q w σ pc lv (.int x :: st) := fun H locs ls hP hD hS hl => lv_if_ne X.1 X.2.1 hdg ht (fun c => kt c H locs ls hP hD hS hl) (fun c => kf c H locs ls hP hD hS hl)
theorem qx_icmp_ne (X : qx_Ok K G t1 t2 cc own nL) {x y : Int32} {off : Int} {tgt : Nat} (hdg : decode cc pc = .ok (.if_icmp .ne off, 3)) (ht : (pc : Int) + off = (tgt : Int)) (kt : ¬ x = y → qx_V K G nL cells slots Q w σ tgt lv st) (kf : x = y → qx_V K G nL cells slots Q w σ (pc + 3) lv st) : qx_V K G nL cells slots Q w σ pc lv (.int y :: .int x :: st) := fun H locs ls hP hD hS hl => lv_icmp_ne X.1 X.2.1 hdg ht (fun c => kt c H locs ls hP hD hS hl) (fun c => kf c H locs ls hP hD hS hl)
theorem qx_if_lt (X : qx_Ok K G t1 t2 cc own nL) {x : Int32} {off : Int} {tgt : Nat} (hdg : decode cc pc = .ok (.ifCond .lt off, 3)) (ht : (pc : Int) + off = (tgt : Int)) (kt : x < 0 → qx_V K G nL cells slots Q w σ tgt lv st) (kf : ¬ (x < 0) → qx_V K G nL cells slots Q w σ (pc + 3) lv st) : qx_V K G nL cells slots Q w σ pc lv (.int x :: st) := fun H locs ls hP hD hS hl => lv_if_lt X.1 X.2.1 hdg ht (fun c => kt c H locs ls hP hD hS hl) (fun c => kf c H locs ls hP hD hS hl)
theorem qx_icmp_lt (X : qx_Ok K G t1 t2 cc own nL) {x y : Int32} {off : Int} {tgt : Nat} (hdg : decode cc pc = .ok (.if_icmp .lt off, 3)) (ht : (pc : Int) + off = (tgt : Int)) (kt : x < y → qx_V K G nL cells slots Q w σ tgt lv st) (kf : ¬ (x < y) → qx_V K G nL cells slots Q w σ (pc + 3) lv st) : qx_V K G nL cells slots Q w σ pc lv (.int y :: .int x :: st) := fun H locs ls hP hD hS hl => lv_icmp_lt X.1 X.2.1 hdg ht (fun c => kt c H locs ls hP hD hS hl) (fun c => kf c H locs ls hP hD hS hl)
theorem qx_if_ge (X : qx_Ok K G t1 t2 cc own nL) {x : Int32} {off : Int} {tgt : Nat} (hdg : decode cc pc = .ok (.ifCond .ge off, 3)) (ht : (pc : Int) + off = (tgt : Int)) (kt : 0 ≤ x → qx_V K G nL cells slots Q w σ tgt lv st) (kf : ¬ (0 ≤ x) → qx_V K G nL cells slots Q w σ (pc + 3) lv st) : qx_V K G nL cells slots Q w σ pc lv (.int x :: st) := fun H locs ls hP hD hS hl => lv_if_ge X.1 X.2.1 hdg ht (fun c => kt c H locs ls hP hD hS hl) (fun c => kf c H locs ls hP hD hS hl)
theorem qx_icmp_ge (X : qx_Ok K G t1 t2 cc own nL) {x y : Int32} {off : Int} {tgt : Nat} (hdg : decode cc pc = .ok (.if_icmp .ge off, 3)) (ht : (pc : Int) + off = (tgt : Int)) (kt : y ≤ x → qx_V K G nL cells slots Q w σ tgt lv st) (kf : ¬ (y ≤ x) → qx_V K G nL cells slots Q w σ (pc + 3) lv st) : qx_V K G nL cells slots Q w σ pc lv (.int y :: .int x :: st) := fun H locs ls hP hD hS hl => lv_icmp_ge X.1 X.2.1 hdg ht (fun c => kt c H locs ls hP hD hS hl) (fun c => kf c H locs ls hP hD hS hl)
theorem qx_if_gt (X : qx_Ok K G t1 t2 cc own nL) {x : Int32} {off : Int} {tgt : Nat} (hdg : decode cc pc = .ok (.ifCond .gt off, 3)) (ht : (pc : Int) + off = (tgt : Int)) (kt : 0 < x → qx_V K G nL cells slots Q w σ tgt lv st) (kf : ¬ (0 < x) → qx_V K G nL cells slots Q w σ (pc + 3) lv st) : qx_V K G nL cells slots Q w σ pc lv (.int x :: st) := fun H locs ls hP hD hS hl => lv_if_gt X.1 X.2.1 hdg ht (fun c => kt c H locs ls hP hD hS hl) (fun c => kf c H locs ls hP hD hS hl)
theorem qx_icmp_gt (X : qx_Ok K G t1 t2 cc own nL) {x y : Int32} {off : Int} {tgt : Nat} (hdg : decode cc pc = .ok (.if_icmp .gt off, 3)) (ht : (pc : Int) + off = (tgt : Int)) (kt : y < x → qx_V K G nL cells slots Q w σ tgt lv st) (kf : ¬ (y < x) → qx_V K G nL cells slots Q w σ (pc + 3) lv st) : qx_V K G nL cells slots Q w σ pc lv (.int y :: .int x :: st) := fun H locs ls hP hD hS hl => lv_icmp_gt X.1 X.2.1 hdg ht (fun c => kt c H locs ls hP hD hS hl) (fun c => kf c H locs ls hP hD hS hl)
theorem qx_if_le (X : qx_Ok K G t1 t2 cc own nL) {x : Int32} {off : Int} {tgt : Nat} (hdg : decode cc pc = .ok (.ifCond .le off, 3)) (ht : (pc : Int) + off = (tgt : Int)) (kt : x ≤ 0 → qx_V K G nL cells slots Q w σ tgt lv st) (kf : ¬ (x ≤ 0) → qx_V K G nL cells slots Q w σ (pc + 3) lv st) : qx_V K G nL cells slots Q w σ pc lv (.int x :: st) := fun H locs ls hP hD hS hl => lv_if_le X.1 X.2.1 hdg ht (fun c => kt c H locs ls hP hD hS hl) (fun c => kf c H locs ls hP hD hS hl)
theorem qx_icmp_le (X : qx_Ok K G t1 t2 cc own nL) {x y : Int32} {off : Int} {tgt : Nat} (hdg : decode cc pc = .ok (.if_icmp .le off, 3)) (ht : (pc : Int) + off = (tgt : Int)) (kt : x ≤ y → qx_V K G nL cells slots Q w σ tgt lv st) (kf : ¬ (x ≤ y) → qx_V K G nL cells slots Q w σ (pc + 3) lv st) : qx_V K G nL cells slots Q w σ pc lv (.int y :: .int x :: st) := fun H locs ls hP hD hS hl => lv_icmp_le X.1 X.2.1 hdg ht (fun c => kt c H locs ls hP hD hS hl) (fun c => kf c H locs ls hP hD hS hl)
theorem qx_irem (X : qx_Ok K G t1 t2 cc own nL) {x y : Int32} (hdg : decode cc pc = .ok (.irem, 1)) (hne : ¬ y = 0) (k : qx_V K G nL cells slots Q w σ (pc + 1) lv (.int (x - x / y * y) :: st)) : qx_V K G nL cells slots Q w σ pc lv (.int y :: .int x :: st) := fun H locs ls hP hD hS hl => lv_irem X.1 X.2.1 hdg hne (k H locs ls hP hD hS hl)
/-- a switch: one goal a place of the table, one for all else -/
theorem qx_switch (X : qx_Ok K G t1 t2 cc own nL) {dflt lo hi : Int} {offs : Array Int} {len : Nat} {x : Int32} {tgt : Nat} (tg : Nat → Nat) (hdg : decode cc pc = .ok (.tableswitch dflt lo hi offs, len)) (hlo : -1000 ≤ lo) (hhi : hi ≤ 1000) (ho : ∀ i : Nat, i < (hi + 1 - lo).toNat → ∃ off, offs[i]? = some off ∧ (pc : Int) + off = (tg i : Int)) (ht : (pc : Int) + dflt = (tgt : Int))
    (kt : ∀ i : Nat, i < (hi + 1 - lo).toNat → x = Int32.ofInt (lo + i) → qx_V K G nL cells slots Q w σ (tg i) lv st) (kf : (∀ i : Nat, i < (hi + 1 - lo).toNat → ¬ x = Int32.ofInt (lo + i)) → qx_V K G nL cells slots Q w σ tgt lv st) : qx_V K G nL cells slots Q w σ pc lv (.int x :: st) := by
  intro H locs ls hP hD hS hl
  by_cases h1 : x.toInt < lo
  · exact lv_tableOut X.1 X.2.1 hdg (Or.inl h1) ht (kf (fun i hi2 e => by
      have e2 : x.toInt = lo + i := by rw [e]; exact Int32.toInt_ofInt_of_le (by omega) (by omega)
      omega) H locs ls hP hD hS hl)
  · by_cases h2 : hi < x.toInt
    · exact lv_tableOut X.1 X.2.1 hdg (Or.inr h2) ht (kf (fun i hi2 e => by
        have e2 : x.toInt = lo + i := by rw [e]; exact Int32.toInt_ofInt_of_le (by omega) (by omega)
        omega) H locs ls hP hD hS hl)
    · have hi3 : (x.toInt - lo).toNat < (hi + 1 - lo).toNat := by omega
      obtain ⟨off, ho1, ho2⟩ := ho _ hi3
      exact lv_tableIn X.1 X.2.1 hdg h1 h2 ho1 ho2 (kt _ hi3 (Int32.toInt_inj.mp (by
        rw [Int32.toInt_ofInt_of_le (by omega) (by omega)]; omega)) H locs ls hP hD hS hl)
theorem qx_slot_get {σ : qx_St} {ρ : Nat → Nat → Nat → Option Nat} {f i j : Nat} {sl : List (Option Nat)} {o : Option Nat} (h : sl[j]? = some o) : ((List.range sl.length).map (qx_slot σ ρ f i sl))[j]? = some (qx_slot σ ρ f i sl j) := by
  have hj := (List.getElem?_eq_some_iff.mp h).1
  simp [hj]
theorem qx_geti (X : qx_Ok K G t1 t2 cc own nL) {idx f i j : Nat} (hF : qx_FG own idx f j none) (hm : (f, i) ∈ w.1) (hdg : decode cc pc = .ok (.getfield idx, 3)) (k : qx_V K G nL cells slots Q w σ (pc + 3) lv (.int (σ f i j) :: st)) : qx_V K G nL cells slots Q w σ pc lv (.ref (w.2.1 f i) :: st) := by
  intro H locs ls hP hD hS hl
  obtain ⟨ci, sl, C, T, N, ty, hsh, ⟨h1, h2, h3, h4⟩, hN, hj, hlk⟩ := hF
  obtain ⟨q0, hq, hq2⟩ := qx_wd_at (ca := G.2.1) (σ := σ) hm
  rw [qx_E_obj hsh] at hq2
  have hjN : j < N := by rw [← hN]; exact (List.getElem?_eq_some_iff.mp hj).1
  have hsv : qx_slot σ w.2.2 f i sl j = .int (σ f i j) := by simp [qx_slot, hj]
  exact va_get (D := G.1) (v := .int (σ f i j)) X.1 X.2.1 X.2.2.2.2.1 h2 X.2.2.2.1 X.2.2.2.2.2.1 hP q0 hq2 h1 j hjN (X.2.2.2.2.1 _ hlk) (fun _ h9 => h9) (by rw [qx_slot_get hj, hsv]) hdg (k H locs ls hP hD hS hl)
theorem qx_getr (X : qx_Ok K G t1 t2 cc own nL) {idx f i j a tg : Nat} (hF : qx_FG own idx f j (some tg)) (hm : (f, i) ∈ w.1) (hr : w.2.2 f i j = some a) (hdg : decode cc pc = .ok (.getfield idx, 3)) (k : qx_V K G nL cells slots Q w σ (pc + 3) lv (.ref a :: st)) : qx_V K G nL cells slots Q w σ pc lv (.ref (w.2.1 f i) :: st) := by
  intro H locs ls hP hD hS hl
  obtain ⟨ci, sl, C, T, N, ty, hsh, ⟨h1, h2, h3, h4⟩, hN, hj, hlk⟩ := hF
  obtain ⟨q0, hq, hq2⟩ := qx_wd_at (ca := G.2.1) (σ := σ) hm
  rw [qx_E_obj hsh] at hq2
  have hjN : j < N := by rw [← hN]; exact (List.getElem?_eq_some_iff.mp hj).1
  have hsv : qx_slot σ w.2.2 f i sl j = .ref a := by simp [qx_slot, hj, hr, va_rf]
  exact va_get (D := G.1) (v := .ref a) X.1 X.2.1 X.2.2.2.2.1 h2 X.2.2.2.1 X.2.2.2.2.2.1 hP q0 hq2 h1 j hjN (X.2.2.2.2.1 _ hlk) (fun _ h9 => h9) (by rw [qx_slot_get hj, hsv]) hdg (k H locs ls hP hD hS hl)
theorem qx_slots_set {σ : qx_St} {ρ : Nat → Nat → Nat → Option Nat} {f i j : Nat} {sl : List (Option Nat)} {v : Int32} (h : sl[j]? = some none) : ((List.range sl.length).map (qx_slot σ ρ f i sl)).set j (.int v) = (List.range sl.length).map (qx_slot (qx_st σ f i j v) ρ f i sl) := by
  have hj := (List.getElem?_eq_some_iff.mp h).1
  apply List.ext_getElem?
  intro k
  by_cases hk : k = j
  · subst hk
    rw [List.getElem?_set_self (by simpa using hj)]
    simp only [List.getElem?_map, List.getElem?_range hj, Option.map_some, qx_slot, h, qx_st, qx_sa_ff, upd, if_true]
  · rw [List.getElem?_set_ne (Ne.symm hk)]
    by_cases hl : k < sl.length
    · simp only [List.getElem?_map, List.getElem?_range hl, Option.map_some, qx_slot, qx_st, qx_sa_ff, upd, if_neg hk]
    · simp [Nat.not_lt.mp hl]
theorem qx_puti (X : qx_Ok K G t1 t2 cc own nL) {idx f i j : Nat} {t : FieldType} {v : Int32} (hF : qx_FP own idx f j t) (hm : (f, i) ∈ w.1) (hn : narrow t (.int v) = .int v) (hf : fits t (.int v) = true) (hdg : decode cc pc = .ok (.putfield idx, 3)) (k : qx_V K G nL cells slots Q w (qx_st σ f i j v) (pc + 3) lv st) : qx_V K G nL cells slots Q w σ pc lv (.int v :: .ref (w.2.1 f i) :: st) := by
  intro H locs ls hP hD hS hl
  obtain ⟨ci, sl, C, T, N, ty, hsh, ⟨h1, h2, h3, h4⟩, hN, hj, hlk, hfin, hty⟩ := hF
  obtain ⟨q0, hq, hq2⟩ := qx_wd_at (ca := G.2.1) (σ := σ) hm
  rw [qx_E_obj hsh] at hq2
  have hjl := (List.getElem?_eq_some_iff.mp hj).1
  refine va_put (D := G.1) (v := .int v) (ty := t) X.1 X.2.1 X.2.2.2.2.1 h2 ty h3 h4 X.2.2.2.1 X.2.2.2.2.2.1 hP hD hS q0 hq2 h1 j (by rw [← hN]; exact hjl) (X.2.2.2.2.1 _ hlk) (fun _ h9 => h9) hfin hty hn hf (by simpa using hjl) hdg (fun H1 locs1 hP1 hD1 hS1 => ?_)
  rw [qx_slots_set hj, ← qx_E_obj (ca := G.2.1) hsh, qx_wd_set (w := w) (ρ' := w.2.2) hD hq qx_E_nst] at hP1 hD1
  exact k H1 locs1 ls hP1 hD1 hS1 hl
theorem qx_iald (X : qx_Ok K G t1 t2 cc own nL) {f i n : Nat} {x : Int32} (hsh : qx_sh f = .inr (.inl (0, n))) (hm : (f, i) ∈ w.1) (hin : vp_in x n) (hdg : decode cc pc = .ok (.iaload, 1)) (k : qx_V K G nL cells slots Q w σ (pc + 1) lv (.int (σ f i x.toNatClampNeg) :: st)) : qx_V K G nL cells slots Q w σ pc lv (.int x :: .ref (w.2.1 f i) :: st) := by
  intro H locs ls hP hD hS hl
  obtain ⟨q0, hq, hq2⟩ := qx_wd_at (ca := G.2.1) (σ := σ) hm
  rw [qx_E_iarr hsh] at hq2
  exact va_iald X.1 X.2.1 X.2.2.2.2.2.1 hP q0 0 hq2 rfl hin hdg (k H locs ls hP hD hS hl)
theorem qx_zald (X : qx_Ok K G t1 t2 cc own nL) {f i n : Nat} {x : Int32} (hsh : qx_sh f = .inr (.inl (1, n))) (hm : (f, i) ∈ w.1) (hin : vp_in x n) (hdg : decode cc pc = .ok (.baload, 1)) (k : qx_V K G nL cells slots Q w σ (pc + 1) lv (.int (σ f i x.toNatClampNeg) :: st)) : qx_V K G nL cells slots Q w σ pc lv (.int x :: .ref (w.2.1 f i) :: st) := by
  intro H locs ls hP hD hS hl
  obtain ⟨q0, hq, hq2⟩ := qx_wd_at (ca := G.2.1) (σ := σ) hm
  rw [qx_E_iarr hsh] at hq2
  exact va_zald X.1 X.2.1 X.2.2.2.2.2.1 hP q0 1 hq2 rfl hin hdg (k H locs ls hP hD hS hl)
theorem qx_iast (X : qx_Ok K G t1 t2 cc own nL) {f i n : Nat} {x v : Int32} (hsh : qx_sh f = .inr (.inl (0, n))) (hm : (f, i) ∈ w.1) (hin : vp_in x n) (hdg : decode cc pc = .ok (.iastore, 1)) (k : qx_V K G nL cells slots Q w (qx_st σ f i x.toNatClampNeg v) (pc + 1) lv st) : qx_V K G nL cells slots Q w σ pc lv (.int v :: .int x :: .ref (w.2.1 f i) :: st) := by
  intro H locs ls hP hD hS hl
  obtain ⟨q0, hq, hq2⟩ := qx_wd_at (ca := G.2.1) (σ := σ) hm
  rw [qx_E_iarr hsh] at hq2
  refine va_iast X.1 X.2.1 X.2.2.2.2.2.1 hP hD hS q0 0 hq2 rfl hin hdg (fun H1 locs1 hP1 hD1 hS1 => ?_)
  have e : (.inl (G.2.1 0, n, .inl (upd (σ f i) x.toNatClampNeg v)) : va_E) = qx_E G.2.1 w.2.2 (qx_st σ f i x.toNatClampNeg v) f i := by rw [qx_E_iarr hsh, qx_st, qx_sa_ff]
  rw [e, qx_wd_set (w := w) (ρ' := w.2.2) hD hq qx_E_nst] at hP1 hD1
  exact k H1 locs1 ls hP1 hD1 hS1 hl
theorem qx_zast (X : qx_Ok K G t1 t2 cc own nL) {f i n : Nat} {x v : Int32} (hsh : qx_sh f = .inr (.inl (1, n))) (hm : (f, i) ∈ w.1) (hin : vp_in x n) (hdg : decode cc pc = .ok (.bastore, 1)) (k : qx_V K G nL cells slots Q w (qx_st σ f i x.toNatClampNeg (vp_nar .boolean v)) (pc + 1) lv st) : qx_V K G nL cells slots Q w σ pc lv (.int v :: .int x :: .ref (w.2.1 f i) :: st) := by
  intro H locs ls hP hD hS hl
  obtain ⟨q0, hq, hq2⟩ := qx_wd_at (ca := G.2.1) (σ := σ) hm
  rw [qx_E_iarr hsh] at hq2
  refine va_zast X.1 X.2.1 X.2.2.2.2.2.1 hP hD hS q0 1 hq2 rfl hin hdg (fun H1 locs1 hP1 hD1 hS1 => ?_)
  have e : (.inl (G.2.1 1, n, .inl (upd (σ f i) x.toNatClampNeg (vp_nar .boolean v))) : va_E) = qx_E G.2.1 w.2.2 (qx_st σ f i x.toNatClampNeg (vp_nar .boolean v)) f i := by rw [qx_E_iarr hsh, qx_st, qx_sa_ff]
  rw [e, qx_wd_set (w := w) (ρ' := w.2.2) hD hq qx_E_nst] at hP1 hD1
  exact k H1 locs1 ls hP1 hD1 hS1 hl
theorem qx_aald (X : qx_Ok K G t1 t2 cc own nL) {f i n tk tg a : Nat} {C : String} {x : Int32} (hsh : qx_sh f = .inr (.inr (tk, n, tg))) (ht : (qx_ty G.2.1)[tk]? = some (G.2.1 tk, .object C)) (hm : (f, i) ∈ w.1) (hin : vp_in x n) (hr : w.2.2 f i x.toNatClampNeg = some a) (hdg : decode cc pc = .ok (.aaload, 1)) (k : qx_V K G nL cells slots Q w σ (pc + 1) lv (.ref a :: st)) : qx_V K G nL cells slots Q w σ pc lv (.int x :: .ref (w.2.1 f i) :: st) := by
  intro H locs ls hP hD hS hl
  obtain ⟨q0, hq, hq2⟩ := qx_wd_at (ca := G.2.1) (σ := σ) hm
  rw [qx_E_qarr hsh] at hq2
  refine va_aldq X.1 X.2.1 X.2.2.2.2.2.1 hP q0 tk hq2 ht hin hdg ?_
  rw [hr]
  exact k H locs ls hP hD hS hl
theorem qx_aleni (X : qx_Ok K G t1 t2 cc own nL) {f i n : Nat} {v : Int32} (hsh : qx_sh f = .inr (.inl (0, n))) (hm : (f, i) ∈ w.1) (hv : Int32.ofNat n = v) (hdg : decode cc pc = .ok (.arraylength, 1)) (k : qx_V K G nL cells slots Q w σ (pc + 1) lv (.int v :: st)) : qx_V K G nL cells slots Q w σ pc lv (.ref (w.2.1 f i) :: st) := by
  intro H locs ls hP hD hS hl
  obtain ⟨q0, hq, hq2⟩ := qx_wd_at (ca := G.2.1) (σ := σ) hm
  rw [qx_E_iarr hsh] at hq2
  exact va_alen X.1 X.2.1 X.2.2.2.2.2.1 hP q0 0 hq2 (ty := .int) rfl hv hdg (k H locs ls hP hD hS hl)
theorem qx_alenq (X : qx_Ok K G t1 t2 cc own nL) {f i n tk tg : Nat} {C : String} {v : Int32} (hsh : qx_sh f = .inr (.inr (tk, n, tg))) (ht : (qx_ty G.2.1)[tk]? = some (G.2.1 tk, .object C)) (hm : (f, i) ∈ w.1) (hv : Int32.ofNat n = v) (hdg : decode cc pc = .ok (.arraylength, 1)) (k : qx_V K G nL cells slots Q w σ (pc + 1) lv (.int v :: st)) : qx_V K G nL cells slots Q w σ pc lv (.ref (w.2.1 f i) :: st) := by
  intro H locs ls hP hD hS hl
  obtain ⟨q0, hq, hq2⟩ := qx_wd_at (ca := G.2.1) (σ := σ) hm
  rw [qx_E_qarr hsh] at hq2
  exact va_alen X.1 X.2.1 X.2.2.2.2.2.1 hP q0 tk hq2 ht hv hdg (k H locs ls hP hD hS hl)
theorem qx_gets1 (X : qx_Ok K G t1 t2 cc own nL) {idx : Nat} (hlk : Cond.fieldLink own idx RX0 "TAKES" "[I" ∈ qx_BW) (hdg : decode cc pc = .ok (.getstatic idx, 3)) (k : qx_V K G nL cells slots Q w σ (pc + 3) lv (.ref t1 :: st)) : qx_V K G nL cells slots Q w σ pc lv st := fun H locs ls hP hD hS hl => va_gets X.1 X.2.1 X.2.2.2.2.2.2.2.1.1 hS X.2.2.2.1 (X.2.2.2.2.1 _ hlk) (fun _ h9 => h9) hdg (k H locs ls hP hD hS hl)
theorem qx_gets2 (X : qx_Ok K G t1 t2 cc own nL) {idx : Nat} (hlk : Cond.fieldLink own idx RX0 "PUTS" "[I" ∈ qx_BW) (hdg : decode cc pc = .ok (.getstatic idx, 3)) (k : qx_V K G nL cells slots Q w σ (pc + 3) lv (.ref t2 :: st)) : qx_V K G nL cells slots Q w σ pc lv st := fun H locs ls hP hD hS hl => va_gets X.1 X.2.1 X.2.2.2.2.2.2.2.1.2.1 hS X.2.2.2.1 (X.2.2.2.2.1 _ hlk) (fun _ h9 => h9) hdg (k H locs ls hP hD hS hl)
theorem qx_tab1 (X : qx_Ok K G t1 t2 cc own nL) {x : Int32} (hin : vp_in x 26) (hdg : decode cc pc = .ok (.iaload, 1)) (k : qx_V K G nL cells slots Q w σ (pc + 1) lv (.int (qx_takesI x.toNatClampNeg) :: st)) : qx_V K G nL cells slots Q w σ pc lv (.int x :: .ref t1 :: st) := fun H locs ls hP hD hS hl => va_ti X.1 X.2.1 X.2.2.2.2.2.2.2.1.2.2.1 hS hin rfl hdg (k H locs ls hP hD hS hl)
theorem qx_tab2 (X : qx_Ok K G t1 t2 cc own nL) {x : Int32} (hin : vp_in x 26) (hdg : decode cc pc = .ok (.iaload, 1)) (k : qx_V K G nL cells slots Q w σ (pc + 1) lv (.int (qx_putsI x.toNatClampNeg) :: st)) : qx_V K G nL cells slots Q w σ pc lv (.int x :: .ref t2 :: st) := fun H locs ls hP hD hS hl => va_ti X.1 X.2.1 X.2.2.2.2.2.2.2.1.2.2.2 hS hin rfl hdg (k H locs ls hP hD hS hl)
end QXV
end
section
/-! ends, calls, Math, arraycopy -/
def qx_Pre (G : qx_Gx) (t1 t2 : Nat) (w : qx_Wx) (σ : qx_St) : State → Prop := fun U => qx_gS G t1 t2 U U.heap ∧ va_P G.1 vwCl (qx_wd G.2.1 w σ) U.heap ∧ va_D G.2.2 (qx_wd G.2.1 w σ)
def qx_B (G : qx_Gx) (w : qx_Wx) (σ : qx_St) (t : State) : Prop := va_P G.1 vwCl (qx_wd G.2.1 w σ) t.heap ∧ va_D G.2.2 (qx_wd G.2.1 w σ)
/-- contracts: of a method with an int, without an answer, with a cell of family f for an answer -/
abbrev qx_Mi (l : Launch) (G : qx_Gx) (t1 t2 : Nat) (w : qx_Wx) (y : MethodName) (b : ByteArray) (n : Nat) (r : Option FieldType) (rm : Room) (av : List Value) (σ : qx_St) (post : Int32 → qx_St → Prop) : Prop := Met l y (qx_w y b n r) rm (va_Pc av (qx_Pre G t1 t2 w σ)) (va_Qi post (qx_B G w) G.2.2) 0 0 G.2.2
abbrev qx_Mv (l : Launch) (G : qx_Gx) (t1 t2 : Nat) (w : qx_Wx) (y : MethodName) (b : ByteArray) (n : Nat) (r : Option FieldType) (rm : Room) (av : List Value) (σ : qx_St) (post : qx_St → Prop) : Prop := Met l y (qx_w y b n r) rm (va_Pc av (qx_Pre G t1 t2 w σ)) (va_Qv post (qx_B G w) G.2.2) 0 0 G.2.2
abbrev qx_Mr (l : Launch) (G : qx_Gx) (t1 t2 : Nat) (w : qx_Wx) (y : MethodName) (b : ByteArray) (n : Nat) (r : Option FieldType) (rm : Room) (av : List Value) (σ : qx_St) (f : Nat) (post : Nat → qx_St → Prop) : Prop := Met l y (qx_w y b n r) rm (va_Pc av (qx_Pre G t1 t2 w σ)) (va_Qr (fun u : Nat × qx_St => post u.1 u.2) (fun u a t => a = w.2.1 f u.1 ∧ qx_B G w u.2 t) G.2.2) 0 0 G.2.2
theorem qx_blind {G : qx_Gx} {t1 t2 : Nat} {w : qx_Wx} {σ : qx_St} {av : List Value} : FrameBlind (va_Pc av (qx_Pre G t1 t2 w σ)) := fun a U g mk q => ⟨q.1, q.2.1.calling g mk a, q.2.2.1, q.2.2.2⟩
theorem qx_gI {ws : List Cond} (h : ∀ w ∈ ws, w ∈ qx_BW) : GoodIn qx_BW ws := fun w hw => ⟨h w hw, good_of_word (List.mem_filter.mp (h w hw)).2⟩
theorem qx_gw {y : MethodName} {b : ByteArray} {n k : Nat} {r : Option FieldType} (h : qx_MC y b n r k) : ∀ w ∈ qx_w y b n r, w ∈ qx_BW := fun w hw => by
  rcases List.mem_cons.mp hw with e | h1
  · rw [e]; exact h.1
  · exact h1
/-- a method's walk from its entry -/
theorem qx_start {l : Launch} {G : qx_Gx} {t1 t2 : Nat} {w : qx_Wx} {y : MethodName} {b : ByteArray} {n k : Nat} {r : Option FieldType} {rm : Room} {av : List Value} {σ : qx_St} {Qc : Array Value → State → Outcome → State → Prop} (hy : qx_MC y b n r k) (hn : (lg_sl av).length ≤ n)
    (h : ∀ K : qx_Cx, K.2.1 = l → K.2.2.2.1 = rm → qx_Ok K G t1 t2 b y.cls n → K.2.2.2.2.2.2.2.2.1.sig.returnType = r → K.2.2.2.2.2.2.2.2.1.locks = false → qx_V K G n 0 0 (MQ K.2.2.2.2.2.2.2.1 Qc K.2.2.2.2.2.2.1 K.2.2.2.2.1 0 0 G.2.2) w σ 0 (lv_args 0 av) []) : Met l y (qx_w y b n r) rm (va_Pc av (qx_Pre G t1 t2 w σ)) Qc 0 0 G.2.2 := by
  refine Met.ofW (cc := b) (maxL := n) (ret := r) hy.2.2.2 rfl ?_
  intro p e s m args below meth c s₁ B hml hv
  obtain ⟨rfl, hg, hP, hD⟩ := hv
  have hts := atoms_spec (ws := qx_w y b n r) B.pre
  have hown : s.vm.findClass y.cls = some m.cls := findClass_of_methodNamed B.named
  rw [lg_entry_eq]
  exact h (p, l, e, rm, s, m, av.toArray, below, meth, c) rfl rfl ⟨B.exec, B.bytes, hml, hown, fun w hw => hts w (List.mem_cons_of_mem _ hw), hg⟩ B.returns B.notSynchronized s.heap [] _ hP hD va_S.rf (lv_entry av hn)
section QXC
variable {K : qx_Cx} {G : qx_Gx} {t1 t2 nL cells slots : Nat} {Q : State → Prop} {w : qx_Wx} {σ : qx_St} {pc : Nat} {lv : List (Nat × Value)} {st : List Value} {cc : ByteArray} {own : String}
theorem qx_vret (X : qx_Ok K G t1 t2 cc own nL) {post : qx_St → Prop} (hr : K.2.2.2.2.2.2.2.2.1.sig.returnType = none) (hlk : K.2.2.2.2.2.2.2.2.1.locks = false) (hp : post σ) (hdg : decode cc pc = .ok (.return_, 1)) : qx_V K G nL cells slots (MQ K.2.2.2.2.2.2.2.1 (va_Qv post (qx_B G w) G.2.2) K.2.2.2.2.2.2.1 K.2.2.2.2.1 cells slots G.2.2) w σ pc lv [] := fun H locs ls hP hD hS hl => W.vret X.1 X.2.1 hr (fun t ht hW => ⟨⟨σ, rfl, hp, by rw [ht]; exact hP, hD⟩, hS.F ht⟩) hS.2.2 hdg hlk
theorem qx_iret (X : qx_Ok K G t1 t2 cc own nL) {post : Int32 → qx_St → Prop} {v : Int32} (hr : K.2.2.2.2.2.2.2.2.1.sig.returnType = some .int) (hlk : K.2.2.2.2.2.2.2.2.1.locks = false) (hp : post v σ) (hdg : decode cc pc = .ok (.ireturn, 1)) : qx_V K G nL cells slots (MQ K.2.2.2.2.2.2.2.1 (va_Qi post (qx_B G w) G.2.2) K.2.2.2.2.2.2.1 K.2.2.2.2.1 cells slots G.2.2) w σ pc lv [.int v] := fun H locs ls hP hD hS hl => W.iret X.1 X.2.1 hr (fun t ht hW => ⟨⟨v, σ, rfl, hp, by rw [ht]; exact hP, hD⟩, hS.F ht⟩) hS.2.2 hdg hlk
/-- a truth value -/
def qx_vz (x : Int32) : Prop := x = 0 ∨ x = 1
theorem qx_vz_n {x : Int32} (h : qx_vz x) : narrow .boolean (.int x) = .int x := by rcases h with rfl | rfl <;> rfl
theorem qx_vz_f {x : Int32} (h : qx_vz x) : fits .boolean (.int x) = true := by rcases h with rfl | rfl <;> rfl
theorem qx_zret (X : qx_Ok K G t1 t2 cc own nL) {post : Int32 → qx_St → Prop} {v : Int32} (hr : K.2.2.2.2.2.2.2.2.1.sig.returnType = some .boolean) (hlk : K.2.2.2.2.2.2.2.2.1.locks = false) (hz : qx_vz v) (hp : post v σ) (hdg : decode cc pc = .ok (.ireturn, 1)) : qx_V K G nL cells slots (MQ K.2.2.2.2.2.2.2.1 (va_Qi post (qx_B G w) G.2.2) K.2.2.2.2.2.2.1 K.2.2.2.2.1 cells slots G.2.2) w σ pc lv [.int v] := fun H locs ls hP hD hS hl => W.zret X.1 X.2.1 hr (qx_vz_n hz) (fun t ht hW => ⟨⟨v, σ, rfl, hp, by rw [ht]; exact hP, hD⟩, hS.F ht⟩) hS.2.2 hdg hlk
theorem qx_aret (X : qx_Ok K G t1 t2 cc own nL) {f i : Nat} {C : String} {post : Nat → qx_St → Prop} (hr : K.2.2.2.2.2.2.2.2.1.sig.returnType = some (.object C)) (hlk : K.2.2.2.2.2.2.2.2.1.locks = false) (hp : post i σ) (hdg : decode cc pc = .ok (.areturn, 1)) : qx_V K G nL cells slots (MQ K.2.2.2.2.2.2.2.1 (va_Qr (fun u : Nat × qx_St => post u.1 u.2) (fun u a t => a = w.2.1 f u.1 ∧ qx_B G w u.2 t) G.2.2) K.2.2.2.2.2.2.1 K.2.2.2.2.1 cells slots G.2.2) w σ pc lv [.ref (w.2.1 f i)] := fun H locs ls hP hD hS hl => W.aret X.1 X.2.1 hr (Or.inl ⟨_, rfl⟩) (Or.inr ⟨_, rfl⟩) (fun t ht hW => ⟨⟨(i, σ), w.2.1 f i, rfl, hp, rfl, by rw [ht]; exact hP, hD⟩, hS.F ht⟩) hS.2.2 hdg hlk
theorem qx_mmax (X : qx_Ok K G t1 t2 cc own nL) {idx : Nat} {x y : Int32} (hl' : Cond.methodLink own idx Lib.Math.max.name ∈ qx_BW) (hfr : 1 ≤ K.2.2.2.1.frames) (hlo : (st.map fun v => v.category).sum + 13 ≤ K.2.2.2.1.locals) (hc : cells ≤ K.2.2.2.1.cells) (hs : slots ≤ K.2.2.2.1.slots) (hdg : decode cc pc = .ok (.invokestatic idx, 3)) (k : qx_V K G nL cells slots Q w σ (pc + 3) lv (.int (if x < y then y else x) :: st)) : qx_V K G nL cells slots Q w σ pc lv (.int y :: .int x :: st) := fun H locs ls hP hD hS hl => va_mmax X.1 X.2.1 (X.2.2.1.trans hl.1.symm) X.2.2.2.1 (X.2.2.2.2.1 _ hl') (X.2.2.2.2.1 _ qx_mMaxS) (X.2.2.2.2.1 _ qx_mIni) (X.2.2.2.2.1 _ qx_mMaxC) hfr hlo hc hs hdg (k H locs ls hP hD hS hl)
theorem qx_mmin (X : qx_Ok K G t1 t2 cc own nL) {idx : Nat} {x y : Int32} (hl' : Cond.methodLink own idx Lib.Math.min.name ∈ qx_BW) (hfr : 1 ≤ K.2.2.2.1.frames) (hlo : (st.map fun v => v.category).sum + 13 ≤ K.2.2.2.1.locals) (hc : cells ≤ K.2.2.2.1.cells) (hs : slots ≤ K.2.2.2.1.slots) (hdg : decode cc pc = .ok (.invokestatic idx, 3)) (k : qx_V K G nL cells slots Q w σ (pc + 3) lv (.int (if y < x then y else x) :: st)) : qx_V K G nL cells slots Q w σ pc lv (.int y :: .int x :: st) := fun H locs ls hP hD hS hl => va_mmin X.1 X.2.1 (X.2.2.1.trans hl.1.symm) X.2.2.2.1 (X.2.2.2.2.1 _ hl') (X.2.2.2.2.1 _ qx_mMinS) (X.2.2.2.2.1 _ qx_mIni) (X.2.2.2.2.1 _ qx_mMinC) hfr hlo hc hs hdg (k H locs ls hP hD hS hl)
theorem qx_copy (X : qx_Ok K G t1 t2 cc own nL) {idx f i n f' i' n' : Nat} {sp dp n0 : Int32} (hl' : Cond.methodLink own idx arraycopyName ∈ qx_BW) (hsh : qx_sh f = .inr (.inl (0, n))) (hm : (f, i) ∈ w.1) (hsh' : qx_sh f' = .inr (.inl (0, n'))) (hm' : (f', i') ∈ w.1) (h1 : ¬ sp < 0) (h2 : ¬ dp < 0) (h3 : ¬ n0 < 0) (h4 : sp.toNatClampNeg + n0.toNatClampNeg ≤ n) (h5 : dp.toNatClampNeg + n0.toNatClampNeg ≤ n')
    (hfr : 1 ≤ K.2.2.2.1.frames) (hlo : (st.map fun v => v.category).sum + (nativeFrameWords "java/lang/System" "arraycopy" 5 + 11) ≤ K.2.2.2.1.locals) (hdg : decode cc pc = .ok (.invokestatic idx, 3)) (k : qx_V K G nL cells slots Q w (qx_sa σ f' i' (va_cpy (σ f i) (σ f' i') sp.toNatClampNeg dp.toNatClampNeg n0.toNatClampNeg)) (pc + 3) lv st) : qx_V K G nL cells slots Q w σ pc lv (.int n0 :: .int dp :: .ref (w.2.1 f' i') :: .int sp :: .ref (w.2.1 f i) :: st) := by
  intro H locs ls hP hD hS hl
  obtain ⟨q0, hq, hq2⟩ := qx_wd_at (ca := G.2.1) (σ := σ) hm
  obtain ⟨q1, hr, hr2⟩ := qx_wd_at (ca := G.2.1) (σ := σ) hm'
  rw [qx_E_iarr hsh] at hq2
  rw [qx_E_iarr hsh'] at hr2
  refine va_copyi X.1 X.2.1 (X.2.2.1.trans hl.1.symm) X.2.2.2.1 (X.2.2.2.2.1 _ hl') (X.2.2.2.2.1 _ qx_cN) (X.2.2.2.2.1 _ qx_cS) (X.2.2.2.2.1 _ qx_cI) X.2.2.2.2.2.1 hP hD hS q0 q1 0 0 (ty := .int) hq2 hr2 rfl rfl rfl h1 h2 h3 h4 h5 (fun _ _ => rfl) hfr hlo hdg (fun H1 locs1 hP1 hD1 hS1 => ?_)
  have e : (.inl (G.2.1 0, n', .inl (va_cpy (σ f i) (σ f' i') sp.toNatClampNeg dp.toNatClampNeg n0.toNatClampNeg)) : va_E) = qx_E G.2.1 w.2.2 (qx_sa σ f' i' (va_cpy (σ f i) (σ f' i') sp.toNatClampNeg dp.toNatClampNeg n0.toNatClampNeg)) f' i' := by rw [qx_E_iarr hsh', qx_sa_ff]
  rw [e, qx_wd_set (w := w) (ρ' := w.2.2) hD hr qx_E_ne] at hP1 hD1
  exact k H1 locs1 ls hP1 hD1 hS1 hl
/-- the callee's start, from the caller's middle -/
theorem qx_preS (X : qx_Ok K G t1 t2 cc own nL) {H : Heap} {locs : List Loc} (hP : va_P G.1 vwCl (qx_wd G.2.1 w σ) H) (hD : va_D G.2.2 (qx_wd G.2.1 w σ)) (hS : va_S G.2.2 K.2.2.2.2.1.heap H locs) (As : List Value) : PreS K.2.2.2.2.1 H (va_Pc As (qx_Pre G t1 t2 w σ)) As := ⟨qx_blind, fun U hU hW => ⟨rfl, by rw [hU]; exact (X.2.2.2.2.2.warm hW).kept hS.2.1, by rw [hU]; exact hP, hD⟩⟩
theorem qx_recv (X : qx_Ok K G t1 t2 cc own nL) {H : Heap} (hP : va_P G.1 vwCl (qx_wd G.2.1 w σ) H) {f i ci N : Nat} {sl : List (Option Nat)} {C : String} {T : u_T} (hm : (f, i) ∈ w.1) (hsh : qx_sh f = .inl (ci, sl)) (hc : vwCl[ci]? = some (C, T, N)) : ∃ cellB : Cell, H[w.2.1 f i]? = some cellB ∧ cellB.vm.isStatics = false ∧ K.2.2.2.2.1.vm.findClass C = some cellB.cls := by
  obtain ⟨q0, hq, hq2⟩ := qx_wd_at (ca := G.2.1) (σ := σ) hm
  rw [qx_E_obj hsh] at hq2
  exact va_recv X.2.2.2.2.2.1 hP hc hq2
/-- a receiver's class -/
def qx_RC (f : Nat) (C : String) : Prop := ∃ (ci : Nat) (sl : List (Option Nat)) (T : u_T) (N : Nat), qx_sh f = .inl (ci, sl) ∧ vwCl[ci]? = some (C, T, N)
theorem qx_runV (X : qx_Ok K G t1 t2 cc own nL) {H : Heap} {locs : List Loc} (hP : va_P G.1 vwCl (qx_wd G.2.1 w σ) H) (hD : va_D G.2.2 (qx_wd G.2.1 w σ)) (hS : va_S G.2.2 K.2.2.2.2.1.heap H locs) {ls : Array Slot} (hl : lv_has ls nL lv) {idx n kp f i : Nat} {y : MethodName} {b : ByteArray} {r : Option FieldType} {rm : Room} {As rest : List Value} {Qc : Array Value → State → Outcome → State → Prop}
    (hM : Met K.2.1 y (qx_w y b n r) rm (va_Pc (.ref (w.2.1 f i) :: As) (qx_Pre G t1 t2 w σ)) Qc 0 0 G.2.2) (hmc : qx_MC y b n r kp) (hlk : Cond.methodLink own idx y ∈ qx_BW) (hins : Cond.instanceMethod y ∈ qx_BW) (hsel : Cond.selects y.cls y y ∈ qx_BW) (hm : (f, i) ∈ w.1) (hrc : qx_RC f y.cls) (hn : As.length = kp) (hr0 : rm.cells = 0 ∧ rm.slots = 0) (hR : rm.frames + 1 ≤ K.2.2.2.1.frames ∧ 8 + (n + 11) + rm.locals ≤ K.2.2.2.1.locals) (hst : st = As.reverse ++ .ref (w.2.1 f i) :: rest) (hw8 : (rest.map fun v => v.category).sum ≤ 8) (hdg : decode cc pc = .ok (.invokevirtual idx, 3)) :
    va_Run K.1 K.2.1 K.2.2.1 K.2.2.2.1 K.2.2.2.2.1 K.2.2.2.2.2.1 K.2.2.2.2.2.2.1 K.2.2.2.2.2.2.2.1 K.2.2.2.2.2.2.2.2.1 K.2.2.2.2.2.2.2.2.2 H locs 0 0 0 0 (F0 K.2.2.2.2.2.1 pc ls st) rest (Qc (Value.ref (w.2.1 f i) :: As).toArray) G.2.2 := by
  obtain ⟨ci, sl, T, N, hsh, hc⟩ := hrc
  have hg : GoodIn qx_BW (wsV own idx y.cls y (qx_w y b n r)) := qx_gI (fun q hq => by
    rcases List.mem_append.mp hq with h | h
    · simp only [List.mem_cons, List.not_mem_nil, or_false] at h
      rcases h with rfl | rfl | rfl | rfl
      · exact hlk
      · exact hins
      · exact hsel
      · exact hmc.2.1
    · exact qx_gw hmc q h)
  exact va_runV (As := As) (rest := rest) ⟨X.1, X.2.1, X.2.2.1, X.2.2.2.1, X.2.2.2.2.1⟩ hM (cwV kp X.2.2.2.2.1 hg rfl hr0.1 hr0.2 ⟨rfl, hmc.2.2.1.1, hmc.2.2.1.2.1, hmc.2.2.1.2.2⟩ hR) ⟨qx_blind, qx_recv X hP hm hsh hc, (qx_preS X hP hD hS _).2⟩ rfl hn hl.1 hst (lv_room hw8) hdg ⟨Nat.zero_le _, Nat.zero_le _⟩
theorem qx_runS (X : qx_Ok K G t1 t2 cc own nL) {H : Heap} {locs : List Loc} (hP : va_P G.1 vwCl (qx_wd G.2.1 w σ) H) (hD : va_D G.2.2 (qx_wd G.2.1 w σ)) (hS : va_S G.2.2 K.2.2.2.2.1.heap H locs) {ls : Array Slot} (hl : lv_has ls nL lv) {idx n kp : Nat} {y : MethodName} {b : ByteArray} {r : Option FieldType} {rm : Room} {As rest : List Value} {Qc : Array Value → State → Outcome → State → Prop}
    (hM : Met K.2.1 y (qx_w y b n r) rm (va_Pc As (qx_Pre G t1 t2 w σ)) Qc 0 0 G.2.2) (hmc : qx_MC y b n r kp) (hlk : Cond.methodLink own idx y ∈ qx_BW) (hsta : Cond.static y ∈ qx_BW) (hn : As.length = kp) (hr0 : rm.cells = 0 ∧ rm.slots = 0) (hR : rm.frames + 1 ≤ K.2.2.2.1.frames ∧ 8 + (n + 11) + rm.locals ≤ K.2.2.2.1.locals) (hst : st = As.reverse ++ rest) (hw8 : (rest.map fun v => v.category).sum ≤ 8) (hdg : decode cc pc = .ok (.invokestatic idx, 3)) :
    va_Run K.1 K.2.1 K.2.2.1 K.2.2.2.1 K.2.2.2.2.1 K.2.2.2.2.2.1 K.2.2.2.2.2.2.1 K.2.2.2.2.2.2.2.1 K.2.2.2.2.2.2.2.2.1 K.2.2.2.2.2.2.2.2.2 H locs 0 0 0 0 (F0 K.2.2.2.2.2.1 pc ls st) rest (Qc As.toArray) G.2.2 := by
  have hg : GoodIn qx_BW (va_wsS own idx y (qx_w y b n r)) := qx_gI (fun q hq => by
    rcases List.mem_append.mp hq with h | h
    · simp only [List.mem_cons, List.not_mem_nil, or_false] at h
      rcases h with rfl | rfl | rfl
      · exact hlk
      · exact hsta
      · exact hmc.2.1
    · exact qx_gw hmc q h)
  exact va_runS (As := As) (rest := rest) ⟨X.1, X.2.1, X.2.2.1, X.2.2.2.1, X.2.2.2.2.1⟩ hM (va_cwS kp X.2.2.2.2.1 hg rfl hr0.1 hr0.2 hmc.2.2.1 hR) (qx_preS X hP hD hS _) rfl hn hl.1 hst (lv_room hw8) hdg ⟨Nat.zero_le _, Nat.zero_le _⟩
theorem qx_runSN (X : qx_Ok K G t1 t2 cc own nL) {H : Heap} {locs : List Loc} (hP : va_P G.1 vwCl (qx_wd G.2.1 w σ) H) (hD : va_D G.2.2 (qx_wd G.2.1 w σ)) (hS : va_S G.2.2 K.2.2.2.2.1.heap H locs) {ls : Array Slot} (hl : lv_has ls nL lv) {idx n kp : Nat} {host : String} {y : MethodName} {b : ByteArray} {r : Option FieldType} {rm : Room} {As rest : List Value} {Qc : Array Value → State → Outcome → State → Prop}
    (hM : Met K.2.1 y (qx_w y b n r) rm (va_Pc As (qx_Pre G t1 t2 w σ)) Qc 0 0 G.2.2) (hmc : qx_MC y b n r kp) (hlk : va_Nw (.methodLinkNest own idx y host) K.2.2.2.2.1) (hsta : Cond.static y ∈ qx_BW) (hn : As.length = kp) (hr0 : rm.cells = 0 ∧ rm.slots = 0) (hR : rm.frames + 1 ≤ K.2.2.2.1.frames ∧ 8 + (n + 11) + rm.locals ≤ K.2.2.2.1.locals) (hst : st = As.reverse ++ rest) (hw8 : (rest.map fun v => v.category).sum ≤ 8) (hdg : decode cc pc = .ok (.invokestatic idx, 3)) :
    va_Run K.1 K.2.1 K.2.2.1 K.2.2.2.1 K.2.2.2.2.1 K.2.2.2.2.2.1 K.2.2.2.2.2.2.1 K.2.2.2.2.2.2.2.1 K.2.2.2.2.2.2.2.2.1 K.2.2.2.2.2.2.2.2.2 H locs 0 0 0 0 (F0 K.2.2.2.2.2.1 pc ls st) rest (Qc As.toArray) G.2.2 :=
  va_runSN (As := As) (rest := rest) ⟨X.1, X.2.1, X.2.2.1, X.2.2.2.1, X.2.2.2.2.1⟩ hM ⟨va_cnB kp X.2.2.2.2.1 (qx_gI (qx_gw hmc)) rfl hr0.1 hr0.2 hlk (X.2.2.2.2.1 _ hmc.2.1) hmc.2.2.1 hR, X.2.2.2.2.1 _ hsta, trivial⟩ (qx_preS X hP hD hS _) rfl hn hl.1 hst (lv_room hw8) hdg ⟨Nat.zero_le _, Nat.zero_le _⟩
/-- behind a run of a callee -/
theorem qx_goi {H : Heap} {locs : List Loc} (hS : va_S G.2.2 K.2.2.2.2.1.heap H locs) {ls : Array Slot} (hl : lv_has ls nL lv) {rest : List Value} {a : Array Value} {post : Int32 → qx_St → Prop}
    (hr : va_Run K.1 K.2.1 K.2.2.1 K.2.2.2.1 K.2.2.2.2.1 K.2.2.2.2.2.1 K.2.2.2.2.2.2.1 K.2.2.2.2.2.2.2.1 K.2.2.2.2.2.2.2.2.1 K.2.2.2.2.2.2.2.2.2 H locs 0 0 0 0 (F0 K.2.2.2.2.2.1 pc ls st) rest (va_Qi post (qx_B G w) G.2.2 a) G.2.2) (kk : ∀ (v : Int32) (σ' : qx_St), post v σ' → qx_V K G nL 0 0 Q w σ' (pc + 3) lv (.int v :: rest)) :
    W K.1 K.2.1 K.2.2.1 K.2.2.2.1 K.2.2.2.2.1 K.2.2.2.2.2.1 K.2.2.2.2.2.2.1 K.2.2.2.2.2.2.2.1 K.2.2.2.2.2.2.2.2.1 K.2.2.2.2.2.2.2.2.2 H locs 0 0 Q (F0 K.2.2.2.2.2.1 pc ls st) :=
  va_calli hr hS (fun _ _ h => h) (fun _ h => h) (fun v u t H1 locs1 ht _ hp hB _ _ hS1 => kk v u hp H1 locs1 ls (by rw [← ht]; exact hB.1) hB.2 hS1 hl)
theorem qx_gov {H : Heap} {locs : List Loc} (hS : va_S G.2.2 K.2.2.2.2.1.heap H locs) {ls : Array Slot} (hl : lv_has ls nL lv) {rest : List Value} {a : Array Value} {post : qx_St → Prop}
    (hr : va_Run K.1 K.2.1 K.2.2.1 K.2.2.2.1 K.2.2.2.2.1 K.2.2.2.2.2.1 K.2.2.2.2.2.2.1 K.2.2.2.2.2.2.2.1 K.2.2.2.2.2.2.2.2.1 K.2.2.2.2.2.2.2.2.2 H locs 0 0 0 0 (F0 K.2.2.2.2.2.1 pc ls st) rest (va_Qv post (qx_B G w) G.2.2 a) G.2.2) (kk : ∀ (σ' : qx_St), post σ' → qx_V K G nL 0 0 Q w σ' (pc + 3) lv rest) :
    W K.1 K.2.1 K.2.2.1 K.2.2.2.1 K.2.2.2.2.1 K.2.2.2.2.2.1 K.2.2.2.2.2.2.1 K.2.2.2.2.2.2.2.1 K.2.2.2.2.2.2.2.2.1 K.2.2.2.2.2.2.2.2.2 H locs 0 0 Q (F0 K.2.2.2.2.2.1 pc ls st) :=
  va_callv hr hS (fun _ _ h => h) (fun _ h => h) (fun u t H1 locs1 ht _ hp hB _ _ hS1 => kk u hp H1 locs1 ls (by rw [← ht]; exact hB.1) hB.2 hS1 hl)
theorem qx_gor {H : Heap} {locs : List Loc} (hS : va_S G.2.2 K.2.2.2.2.1.heap H locs) {ls : Array Slot} (hl : lv_has ls nL lv) {f : Nat} {rest : List Value} {a : Array Value} {post : Nat → qx_St → Prop}
    (hr : va_Run K.1 K.2.1 K.2.2.1 K.2.2.2.1 K.2.2.2.2.1 K.2.2.2.2.2.1 K.2.2.2.2.2.2.1 K.2.2.2.2.2.2.2.1 K.2.2.2.2.2.2.2.2.1 K.2.2.2.2.2.2.2.2.2 H locs 0 0 0 0 (F0 K.2.2.2.2.2.1 pc ls st) rest (va_Qr (fun u : Nat × qx_St => post u.1 u.2) (fun u a t => a = w.2.1 f u.1 ∧ qx_B G w u.2 t) G.2.2 a) G.2.2) (kk : ∀ (i : Nat) (σ' : qx_St), post i σ' → qx_V K G nL 0 0 Q w σ' (pc + 3) lv (.ref (w.2.1 f i) :: rest)) :
    W K.1 K.2.1 K.2.2.1 K.2.2.2.1 K.2.2.2.2.1 K.2.2.2.2.2.1 K.2.2.2.2.2.2.1 K.2.2.2.2.2.2.2.1 K.2.2.2.2.2.2.2.2.1 K.2.2.2.2.2.2.2.2.2 H locs 0 0 Q (F0 K.2.2.2.2.2.1 pc ls st) :=
  va_callr hr hS (fun _ _ h => h) (fun _ h => h) (fun u ra t H1 locs1 ht _ hp hB _ _ hS1 => by rw [hB.1]; exact kk u.1 u.2 hp H1 locs1 ls (by rw [← ht]; exact hB.2.1) hB.2.2 hS1 hl)
theorem qx_callVi (X : qx_Ok K G t1 t2 cc own nL) {idx n kp : Nat} {y : MethodName} {b : ByteArray} {r : Option FieldType} {rm : Room} (As rest : List Value) {f i : Nat} {post : Int32 → qx_St → Prop} (hM : qx_Mi K.2.1 G t1 t2 w y b n r rm (.ref (w.2.1 f i) :: As) σ post) (hmc : qx_MC y b n r kp) (hlk : Cond.methodLink own idx y ∈ qx_BW) (hins : Cond.instanceMethod y ∈ qx_BW) (hsel : Cond.selects y.cls y y ∈ qx_BW) (hm : (f, i) ∈ w.1) (hrc : qx_RC f y.cls) (hn : As.length = kp) (hr0 : rm.cells = 0 ∧ rm.slots = 0) (hR : rm.frames + 1 ≤ K.2.2.2.1.frames ∧ 8 + (n + 11) + rm.locals ≤ K.2.2.2.1.locals) (hst : st = As.reverse ++ .ref (w.2.1 f i) :: rest) (hw8 : (rest.map fun v => v.category).sum ≤ 8) (hdg : decode cc pc = .ok (.invokevirtual idx, 3)) (kk : ∀ (v : Int32) (σ1 : qx_St), post v σ1 → qx_V K G nL 0 0 Q w σ1 (pc + 3) lv (.int v :: rest)) : qx_V K G nL 0 0 Q w σ pc lv st := fun H locs ls hP hD hS hl => qx_goi hS hl (qx_runV X hP hD hS hl hM hmc hlk hins hsel hm hrc hn hr0 hR hst hw8 hdg) kk
theorem qx_callVv (X : qx_Ok K G t1 t2 cc own nL) {idx n kp : Nat} {y : MethodName} {b : ByteArray} {r : Option FieldType} {rm : Room} (As rest : List Value) {f i : Nat} {post : qx_St → Prop} (hM : qx_Mv K.2.1 G t1 t2 w y b n r rm (.ref (w.2.1 f i) :: As) σ post) (hmc : qx_MC y b n r kp) (hlk : Cond.methodLink own idx y ∈ qx_BW) (hins : Cond.instanceMethod y ∈ qx_BW) (hsel : Cond.selects y.cls y y ∈ qx_BW) (hm : (f, i) ∈ w.1) (hrc : qx_RC f y.cls) (hn : As.length = kp) (hr0 : rm.cells = 0 ∧ rm.slots = 0) (hR : rm.frames + 1 ≤ K.2.2.2.1.frames ∧ 8 + (n + 11) + rm.locals ≤ K.2.2.2.1.locals) (hst : st = As.reverse ++ .ref (w.2.1 f i) :: rest) (hw8 : (rest.map fun v => v.category).sum ≤ 8) (hdg : decode cc pc = .ok (.invokevirtual idx, 3)) (kk : ∀ (σ1 : qx_St), post σ1 → qx_V K G nL 0 0 Q w σ1 (pc + 3) lv rest) : qx_V K G nL 0 0 Q w σ pc lv st := fun H locs ls hP hD hS hl => qx_gov hS hl (qx_runV X hP hD hS hl hM hmc hlk hins hsel hm hrc hn hr0 hR hst hw8 hdg) kk
theorem qx_callVr (X : qx_Ok K G t1 t2 cc own nL) {idx n kp : Nat} {y : MethodName} {b : ByteArray} {r : Option FieldType} {rm : Room} (As rest : List Value) {f i : Nat} {g : Nat} {post : Nat → qx_St → Prop} (hM : qx_Mr K.2.1 G t1 t2 w y b n r rm (.ref (w.2.1 f i) :: As) σ g post) (hmc : qx_MC y b n r kp) (hlk : Cond.methodLink own idx y ∈ qx_BW) (hins : Cond.instanceMethod y ∈ qx_BW) (hsel : Cond.selects y.cls y y ∈ qx_BW) (hm : (f, i) ∈ w.1) (hrc : qx_RC f y.cls) (hn : As.length = kp) (hr0 : rm.cells = 0 ∧ rm.slots = 0) (hR : rm.frames + 1 ≤ K.2.2.2.1.frames ∧ 8 + (n + 11) + rm.locals ≤ K.2.2.2.1.locals) (hst : st = As.reverse ++ .ref (w.2.1 f i) :: rest) (hw8 : (rest.map fun v => v.category).sum ≤ 8) (hdg : decode cc pc = .ok (.invokevirtual idx, 3)) (kk : ∀ (a : Nat) (σ1 : qx_St), post a σ1 → qx_V K G nL 0 0 Q w σ1 (pc + 3) lv (.ref (w.2.1 g a) :: rest)) : qx_V K G nL 0 0 Q w σ pc lv st := fun H locs ls hP hD hS hl => qx_gor hS hl (qx_runV X hP hD hS hl hM hmc hlk hins hsel hm hrc hn hr0 hR hst hw8 hdg) kk
theorem qx_callSi (X : qx_Ok K G t1 t2 cc own nL) {idx n kp : Nat} {y : MethodName} {b : ByteArray} {r : Option FieldType} {rm : Room} (As rest : List Value) {post : Int32 → qx_St → Prop} (hM : qx_Mi K.2.1 G t1 t2 w y b n r rm As σ post) (hmc : qx_MC y b n r kp) (hlk : Cond.methodLink own idx y ∈ qx_BW) (hsta : Cond.static y ∈ qx_BW) (hn : As.length = kp) (hr0 : rm.cells = 0 ∧ rm.slots = 0) (hR : rm.frames + 1 ≤ K.2.2.2.1.frames ∧ 8 + (n + 11) + rm.locals ≤ K.2.2.2.1.locals) (hst : st = As.reverse ++ rest) (hw8 : (rest.map fun v => v.category).sum ≤ 8) (hdg : decode cc pc = .ok (.invokestatic idx, 3)) (kk : ∀ (v : Int32) (σ1 : qx_St), post v σ1 → qx_V K G nL 0 0 Q w σ1 (pc + 3) lv (.int v :: rest)) : qx_V K G nL 0 0 Q w σ pc lv st := fun H locs ls hP hD hS hl => qx_goi hS hl (qx_runS X hP hD hS hl hM hmc hlk hsta hn hr0 hR hst hw8 hdg) kk
theorem qx_callSv (X : qx_Ok K G t1 t2 cc own nL) {idx n kp : Nat} {y : MethodName} {b : ByteArray} {r : Option FieldType} {rm : Room} (As rest : List Value) {post : qx_St → Prop} (hM : qx_Mv K.2.1 G t1 t2 w y b n r rm As σ post) (hmc : qx_MC y b n r kp) (hlk : Cond.methodLink own idx y ∈ qx_BW) (hsta : Cond.static y ∈ qx_BW) (hn : As.length = kp) (hr0 : rm.cells = 0 ∧ rm.slots = 0) (hR : rm.frames + 1 ≤ K.2.2.2.1.frames ∧ 8 + (n + 11) + rm.locals ≤ K.2.2.2.1.locals) (hst : st = As.reverse ++ rest) (hw8 : (rest.map fun v => v.category).sum ≤ 8) (hdg : decode cc pc = .ok (.invokestatic idx, 3)) (kk : ∀ (σ1 : qx_St), post σ1 → qx_V K G nL 0 0 Q w σ1 (pc + 3) lv rest) : qx_V K G nL 0 0 Q w σ pc lv st := fun H locs ls hP hD hS hl => qx_gov hS hl (qx_runS X hP hD hS hl hM hmc hlk hsta hn hr0 hR hst hw8 hdg) kk
theorem qx_callSr (X : qx_Ok K G t1 t2 cc own nL) {idx n kp : Nat} {y : MethodName} {b : ByteArray} {r : Option FieldType} {rm : Room} (As rest : List Value) {g : Nat} {post : Nat → qx_St → Prop} (hM : qx_Mr K.2.1 G t1 t2 w y b n r rm As σ g post) (hmc : qx_MC y b n r kp) (hlk : Cond.methodLink own idx y ∈ qx_BW) (hsta : Cond.static y ∈ qx_BW) (hn : As.length = kp) (hr0 : rm.cells = 0 ∧ rm.slots = 0) (hR : rm.frames + 1 ≤ K.2.2.2.1.frames ∧ 8 + (n + 11) + rm.locals ≤ K.2.2.2.1.locals) (hst : st = As.reverse ++ rest) (hw8 : (rest.map fun v => v.category).sum ≤ 8) (hdg : decode cc pc = .ok (.invokestatic idx, 3)) (kk : ∀ (a : Nat) (σ1 : qx_St), post a σ1 → qx_V K G nL 0 0 Q w σ1 (pc + 3) lv (.ref (w.2.1 g a) :: rest)) : qx_V K G nL 0 0 Q w σ pc lv st := fun H locs ls hP hD hS hl => qx_gor hS hl (qx_runS X hP hD hS hl hM hmc hlk hsta hn hr0 hR hst hw8 hdg) kk
theorem qx_callSNi (X : qx_Ok K G t1 t2 cc own nL) {idx n kp : Nat} {y : MethodName} {b : ByteArray} {r : Option FieldType} {rm : Room} (As rest : List Value) {host : String} {post : Int32 → qx_St → Prop} (hM : qx_Mi K.2.1 G t1 t2 w y b n r rm As σ post) (hmc : qx_MC y b n r kp) (hlk : va_Nw (.methodLinkNest own idx y host) K.2.2.2.2.1) (hsta : Cond.static y ∈ qx_BW) (hn : As.length = kp) (hr0 : rm.cells = 0 ∧ rm.slots = 0) (hR : rm.frames + 1 ≤ K.2.2.2.1.frames ∧ 8 + (n + 11) + rm.locals ≤ K.2.2.2.1.locals) (hst : st = As.reverse ++ rest) (hw8 : (rest.map fun v => v.category).sum ≤ 8) (hdg : decode cc pc = .ok (.invokestatic idx, 3)) (kk : ∀ (v : Int32) (σ1 : qx_St), post v σ1 → qx_V K G nL 0 0 Q w σ1 (pc + 3) lv (.int v :: rest)) : qx_V K G nL 0 0 Q w σ pc lv st := fun H locs ls hP hD hS hl => qx_goi hS hl (qx_runSN X hP hD hS hl hM hmc hlk hsta hn hr0 hR hst hw8 hdg) kk
theorem qx_callSNv (X : qx_Ok K G t1 t2 cc own nL) {idx n kp : Nat} {y : MethodName} {b : ByteArray} {r : Option FieldType} {rm : Room} (As rest : List Value) {host : String} {post : qx_St → Prop} (hM : qx_Mv K.2.1 G t1 t2 w y b n r rm As σ post) (hmc : qx_MC y b n r kp) (hlk : va_Nw (.methodLinkNest own idx y host) K.2.2.2.2.1) (hsta : Cond.static y ∈ qx_BW) (hn : As.length = kp) (hr0 : rm.cells = 0 ∧ rm.slots = 0) (hR : rm.frames + 1 ≤ K.2.2.2.1.frames ∧ 8 + (n + 11) + rm.locals ≤ K.2.2.2.1.locals) (hst : st = As.reverse ++ rest) (hw8 : (rest.map fun v => v.category).sum ≤ 8) (hdg : decode cc pc = .ok (.invokestatic idx, 3)) (kk : ∀ (σ1 : qx_St), post σ1 → qx_V K G nL 0 0 Q w σ1 (pc + 3) lv rest) : qx_V K G nL 0 0 Q w σ pc lv st := fun H locs ls hP hD hS hl => qx_gov hS hl (qx_runSN X hP hD hS hl hM hmc hlk hsta hn hr0 hR hst hw8 hdg) kk
theorem qx_callSNr (X : qx_Ok K G t1 t2 cc own nL) {idx n kp : Nat} {y : MethodName} {b : ByteArray} {r : Option FieldType} {rm : Room} (As rest : List Value) {host : String} {g : Nat} {post : Nat → qx_St → Prop} (hM : qx_Mr K.2.1 G t1 t2 w y b n r rm As σ g post) (hmc : qx_MC y b n r kp) (hlk : va_Nw (.methodLinkNest own idx y host) K.2.2.2.2.1) (hsta : Cond.static y ∈ qx_BW) (hn : As.length = kp) (hr0 : rm.cells = 0 ∧ rm.slots = 0) (hR : rm.frames + 1 ≤ K.2.2.2.1.frames ∧ 8 + (n + 11) + rm.locals ≤ K.2.2.2.1.locals) (hst : st = As.reverse ++ rest) (hw8 : (rest.map fun v => v.category).sum ≤ 8) (hdg : decode cc pc = .ok (.invokestatic idx, 3)) (kk : ∀ (a : Nat) (σ1 : qx_St), post a σ1 → qx_V K G nL 0 0 Q w σ1 (pc + 3) lv (.ref (w.2.1 g a) :: rest)) : qx_V K G nL 0 0 Q w σ pc lv st := fun H locs ls hP hD hS hl => qx_gor hS hl (qx_runSN X hP hD hS hl hM hmc hlk hsta hn hr0 hR hst hw8 hdg) kk
end QXC
end
