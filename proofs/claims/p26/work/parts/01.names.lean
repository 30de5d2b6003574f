-- ===== PART A: goes FIRST, ahead of the names: the tables' words, and 'selects' of the private methods out of them =====
/-- a private method of a class that the tables say can be made, by its rows of tables_1 -/
def lw_okq (q : MethodName × Nat) : Prop := (q.1.cls ≠ "java/lang/invoke/MethodHandle" ∧ q.1.cls ≠ "java/lang/invoke/VarHandle") ∧ Cond.instantiable q.1.cls q.2 ∈ tables_1 ∧ Cond.privateMethod q.1 ∈ tables_1 ∧ Cond.instanceMethod q.1 ∈ tables_1
theorem lw_p0 : lw_okq (⟨"DomeLamps$Reader", "clear", "()V"⟩, 11) := ⟨⟨by decide +kernel, by decide +kernel⟩, List.mem_of_getElem? (i := 146) (by decide +kernel), List.mem_of_getElem? (i := 291) (by decide +kernel), List.mem_of_getElem? (i := 292) (by decide +kernel)⟩
theorem lw_p1 : lw_okq (⟨"DomeLamps$Reader", "takes", "(C)Z"⟩, 11) := ⟨⟨by decide +kernel, by decide +kernel⟩, List.mem_of_getElem? (i := 146) (by decide +kernel), List.mem_of_getElem? (i := 295) (by decide +kernel), List.mem_of_getElem? (i := 296) (by decide +kernel)⟩
theorem lw_p2 : lw_okq (⟨"DomeLamps$Reader", "takesLamp", "(C)Z"⟩, 11) := ⟨⟨by decide +kernel, by decide +kernel⟩, List.mem_of_getElem? (i := 146) (by decide +kernel), List.mem_of_getElem? (i := 299) (by decide +kernel), List.mem_of_getElem? (i := 300) (by decide +kernel)⟩
theorem lw_p3 : lw_okq (⟨"DomeLamps$Reader", "takesRepeat", "(C)Z"⟩, 11) := ⟨⟨by decide +kernel, by decide +kernel⟩, List.mem_of_getElem? (i := 146) (by decide +kernel), List.mem_of_getElem? (i := 303) (by decide +kernel), List.mem_of_getElem? (i := 304) (by decide +kernel)⟩
theorem lw_p4 : lw_okq (⟨"DomeLamps$Reader", "takesFirstDigit", "(C)Z"⟩, 11) := ⟨⟨by decide +kernel, by decide +kernel⟩, List.mem_of_getElem? (i := 146) (by decide +kernel), List.mem_of_getElem? (i := 307) (by decide +kernel), List.mem_of_getElem? (i := 308) (by decide +kernel)⟩
theorem lw_p5 : lw_okq (⟨"DomeLamps$Reader", "takesSecondDigit", "(C)Z"⟩, 11) := ⟨⟨by decide +kernel, by decide +kernel⟩, List.mem_of_getElem? (i := 146) (by decide +kernel), List.mem_of_getElem? (i := 311) (by decide +kernel), List.mem_of_getElem? (i := 312) (by decide +kernel)⟩
theorem lw_p6 : lw_okq (⟨"DomeLamps$Reader", "takesEndOfPart", "(C)Z"⟩, 11) := ⟨⟨by decide +kernel, by decide +kernel⟩, List.mem_of_getElem? (i := 146) (by decide +kernel), List.mem_of_getElem? (i := 315) (by decide +kernel), List.mem_of_getElem? (i := 316) (by decide +kernel)⟩
theorem lw_p7 : lw_okq (⟨"DomeLamps$Reader", "endScene", "()V"⟩, 11) := ⟨⟨by decide +kernel, by decide +kernel⟩, List.mem_of_getElem? (i := 146) (by decide +kernel), List.mem_of_getElem? (i := 319) (by decide +kernel), List.mem_of_getElem? (i := 320) (by decide +kernel)⟩
theorem lw_p8 : lw_okq (⟨"DomeLamps$Reader", "endRepeat", "()V"⟩, 11) := ⟨⟨by decide +kernel, by decide +kernel⟩, List.mem_of_getElem? (i := 146) (by decide +kernel), List.mem_of_getElem? (i := 323) (by decide +kernel), List.mem_of_getElem? (i := 324) (by decide +kernel)⟩
theorem lw_p9 : lw_okq (⟨"DomeLamps$Reader", "takesStar", "(C)Z"⟩, 11) := ⟨⟨by decide +kernel, by decide +kernel⟩, List.mem_of_getElem? (i := 146) (by decide +kernel), List.mem_of_getElem? (i := 327) (by decide +kernel), List.mem_of_getElem? (i := 328) (by decide +kernel)⟩
theorem lw_p10 : lw_okq (⟨"DomeLamps$Reader", "takesOpening", "(C)Z"⟩, 11) := ⟨⟨by decide +kernel, by decide +kernel⟩, List.mem_of_getElem? (i := 146) (by decide +kernel), List.mem_of_getElem? (i := 331) (by decide +kernel), List.mem_of_getElem? (i := 332) (by decide +kernel)⟩
theorem lw_p11 : lw_okq (⟨"DomeLamps$Reader", "isBehindPart", "()Z"⟩, 11) := ⟨⟨by decide +kernel, by decide +kernel⟩, List.mem_of_getElem? (i := 146) (by decide +kernel), List.mem_of_getElem? (i := 338) (by decide +kernel), List.mem_of_getElem? (i := 339) (by decide +kernel)⟩
theorem lw_p12 : lw_okq (⟨"DomeLamps$Dome", "firstGroup", "()I"⟩, 9) := ⟨⟨by decide +kernel, by decide +kernel⟩, List.mem_of_getElem? (i := 21) (by decide +kernel), List.mem_of_getElem? (i := 448) (by decide +kernel), List.mem_of_getElem? (i := 449) (by decide +kernel)⟩
theorem lw_p13 : lw_okq (⟨"DomeLamps$Dome", "beginWith", "(I)I"⟩, 9) := ⟨⟨by decide +kernel, by decide +kernel⟩, List.mem_of_getElem? (i := 21) (by decide +kernel), List.mem_of_getElem? (i := 478) (by decide +kernel), List.mem_of_getElem? (i := 479) (by decide +kernel)⟩
theorem lw_p14 : lw_okq (⟨"DomeLamps$Dome", "groupsWith", "(I)I"⟩, 9) := ⟨⟨by decide +kernel, by decide +kernel⟩, List.mem_of_getElem? (i := 21) (by decide +kernel), List.mem_of_getElem? (i := 488) (by decide +kernel), List.mem_of_getElem? (i := 489) (by decide +kernel)⟩
theorem lw_p15 : lw_okq (⟨"DomeLamps$Groups", "waitingFor", "(II)I"⟩, 6) := ⟨⟨by decide +kernel, by decide +kernel⟩, List.mem_of_getElem? (i := 58) (by decide +kernel), List.mem_of_getElem? (i := 496) (by decide +kernel), List.mem_of_getElem? (i := 497) (by decide +kernel)⟩
def lw_privs_1 : List (MethodName × Nat) := [(⟨"DomeLamps$Reader", "clear", "()V"⟩, 11), (⟨"DomeLamps$Reader", "takes", "(C)Z"⟩, 11), (⟨"DomeLamps$Reader", "takesLamp", "(C)Z"⟩, 11), (⟨"DomeLamps$Reader", "takesRepeat", "(C)Z"⟩, 11), (⟨"DomeLamps$Reader", "takesFirstDigit", "(C)Z"⟩, 11), (⟨"DomeLamps$Reader", "takesSecondDigit", "(C)Z"⟩, 11), (⟨"DomeLamps$Reader", "takesEndOfPart", "(C)Z"⟩, 11), (⟨"DomeLamps$Reader", "endScene", "()V"⟩, 11), (⟨"DomeLamps$Reader", "endRepeat", "()V"⟩, 11), (⟨"DomeLamps$Reader", "takesStar", "(C)Z"⟩, 11), (⟨"DomeLamps$Reader", "takesOpening", "(C)Z"⟩, 11), (⟨"DomeLamps$Reader", "isBehindPart", "()Z"⟩, 11), (⟨"DomeLamps$Dome", "firstGroup", "()I"⟩, 9), (⟨"DomeLamps$Dome", "beginWith", "(I)I"⟩, 9), (⟨"DomeLamps$Dome", "groupsWith", "(I)I"⟩, 9), (⟨"DomeLamps$Groups", "waitingFor", "(II)I"⟩, 6)]
theorem lw_r1 : ∀ q ∈ lw_privs_1, lw_okq q := List.forall_mem_cons.mpr ⟨lw_p0, List.forall_mem_cons.mpr ⟨lw_p1, List.forall_mem_cons.mpr ⟨lw_p2, List.forall_mem_cons.mpr ⟨lw_p3, List.forall_mem_cons.mpr ⟨lw_p4, List.forall_mem_cons.mpr ⟨lw_p5, List.forall_mem_cons.mpr ⟨lw_p6, List.forall_mem_cons.mpr ⟨lw_p7, List.forall_mem_cons.mpr ⟨lw_p8, List.forall_mem_cons.mpr ⟨lw_p9, List.forall_mem_cons.mpr ⟨lw_p10, List.forall_mem_cons.mpr ⟨lw_p11, List.forall_mem_cons.mpr ⟨lw_p12, List.forall_mem_cons.mpr ⟨lw_p13, List.forall_mem_cons.mpr ⟨lw_p14, List.forall_mem_cons.mpr ⟨lw_p15, fun _ h => absurd h List.not_mem_nil⟩⟩⟩⟩⟩⟩⟩⟩⟩⟩⟩⟩⟩⟩⟩⟩
def lw_privs : List (MethodName × Nat) := lw_privs_1
def lw_tbl : List Cond := k2_sels lw_privs ++ tables_1
theorem lw_privs_ok : ∀ q ∈ lw_privs, lw_okq q := lw_r1

-- ===== names (printed by the kit) =====
def RX0 : String := "DomeLamps$Dome"
def TX0 : u_T := fun k => match k with
  | 0 => ("DomeLamps$Dome", "settings", "[I", true)
  | 1 => ("DomeLamps$Dome", "shows", "[LDomeLamps$Show;", true)
  | 2 => ("DomeLamps$Dome", "runsOf", "[I", true)
  | 3 => ("DomeLamps$Dome", "lamps", "LDomeLamps$Lamps;", true)
  | 4 => ("DomeLamps$Dome", "groups", "LDomeLamps$Groups;", true)
  | 5 => ("DomeLamps$Dome", "now", "I", false)
  | 6 => ("DomeLamps$Dome", "coins", "I", false)
  | 7 => ("DomeLamps$Dome", "runs", "I", false)
  | _ => ("DomeLamps$Dome", "foggyRuns", "I", false)
def tyX0 : Nat → FieldType := fun k => match k with
  | 0 => .array .int
  | 1 => .array (.object "DomeLamps$Show")
  | 2 => .array .int
  | 3 => .object "DomeLamps$Lamps"
  | 4 => .object "DomeLamps$Groups"
  | 5 => .int
  | 6 => .int
  | 7 => .int
  | _ => .int
abbrev wsX00 : List Cond := u_ws RX0 TX0 9
theorem nmX0 : ∀ a, a < 9 → ∀ b, b < 9 → a ≠ b → (TX0 a).2.1 ≠ (TX0 b).2.1 := by decide +kernel
theorem tyX0_ok : ∀ k, k < 9 → parseFieldDescriptor (TX0 k).2.2.1 = some (tyX0 k) := by decide +kernel
abbrev cX0_init : ByteArray := prog_2_method_1_code
def yX0_init : MethodName := ⟨RX0, "<init>", "()V"⟩
abbrev cX0_copyFrom : ByteArray := prog_2_method_2_code
def yX0_copyFrom : MethodName := ⟨RX0, "copyFrom", "(LDomeLamps$Dome;)V"⟩
abbrev cX0_toldShows : ByteArray := prog_2_method_3_code
def yX0_toldShows : MethodName := ⟨RX0, "toldShows", "()I"⟩
abbrev cX0_reason : ByteArray := prog_2_method_4_code
def yX0_reason : MethodName := ⟨RX0, "reason", "()I"⟩
abbrev cX0_ofNextRun : ByteArray := prog_2_method_5_code
def yX0_ofNextRun : MethodName := ⟨RX0, "ofNextRun", "(I)I"⟩
abbrev cX0_nextEnd : ByteArray := prog_2_method_6_code
def yX0_nextEnd : MethodName := ⟨RX0, "nextEnd", "()I"⟩
abbrev cX0_runNext : ByteArray := prog_2_method_7_code
def yX0_runNext : MethodName := ⟨RX0, "runNext", "()I"⟩
abbrev cX0_firstGroup : ByteArray := prog_2_method_8_code
def yX0_firstGroup : MethodName := ⟨RX0, "firstGroup", "()I"⟩
abbrev cX0_beginWith : ByteArray := prog_2_method_9_code
def yX0_beginWith : MethodName := ⟨RX0, "beginWith", "(I)I"⟩
abbrev cX0_groupsWith : ByteArray := prog_2_method_10_code
def yX0_groupsWith : MethodName := ⟨RX0, "groupsWith", "(I)I"⟩
def RX1 : String := "DomeLamps$Groups"
def TX1 : u_T := fun k => match k with
  | 0 => ("DomeLamps$Groups", "persons", "[I", true)
  | 1 => ("DomeLamps$Groups", "shows", "[I", true)
  | 2 => ("DomeLamps$Groups", "times", "[I", true)
  | 3 => ("DomeLamps$Groups", "seen", "[I", true)
  | 4 => ("DomeLamps$Groups", "runs", "[I", true)
  | _ => ("DomeLamps$Groups", "size", "I", false)
def tyX1 : Nat → FieldType := fun k => match k with
  | 0 => .array .int
  | 1 => .array .int
  | 2 => .array .int
  | 3 => .array .int
  | 4 => .array .int
  | _ => .int
abbrev wsX10 : List Cond := u_ws RX1 TX1 6
theorem nmX1 : ∀ a, a < 6 → ∀ b, b < 6 → a ≠ b → (TX1 a).2.1 ≠ (TX1 b).2.1 := by decide +kernel
theorem tyX1_ok : ∀ k, k < 6 → parseFieldDescriptor (TX1 k).2.2.1 = some (tyX1 k) := by decide +kernel
abbrev cX1_init : ByteArray := prog_3_method_1_code
def yX1_init : MethodName := ⟨RX1, "<init>", "()V"⟩
abbrev cX1_copyFrom : ByteArray := prog_3_method_2_code
def yX1_copyFrom : MethodName := ⟨RX1, "copyFrom", "(LDomeLamps$Groups;)V"⟩
abbrev cX1_add : ByteArray := prog_3_method_3_code
def yX1_add : MethodName := ⟨RX1, "add", "(III)I"⟩
abbrev cX1_waiting : ByteArray := prog_3_method_4_code
def yX1_waiting : MethodName := ⟨RX1, "waiting", "()I"⟩
abbrev cX1_earliest : ByteArray := prog_3_method_5_code
def yX1_earliest : MethodName := ⟨RX1, "earliest", "(I)I"⟩
abbrev cX1_seated : ByteArray := prog_3_method_6_code
def yX1_seated : MethodName := ⟨RX1, "seated", "(III)I"⟩
abbrev cX1_personsIn : ByteArray := prog_3_method_7_code
def yX1_personsIn : MethodName := ⟨RX1, "personsIn", "(I)I"⟩
abbrev cX1_newPersonsIn : ByteArray := prog_3_method_8_code
def yX1_newPersonsIn : MethodName := ⟨RX1, "newPersonsIn", "(I)I"⟩
abbrev cX1_countRun : ByteArray := prog_3_method_9_code
def yX1_countRun : MethodName := ⟨RX1, "countRun", "(I)V"⟩
abbrev cX1_goHome : ByteArray := prog_3_method_10_code
def yX1_goHome : MethodName := ⟨RX1, "goHome", "(I)V"⟩
abbrev cX1_waitFrom : ByteArray := prog_3_method_11_code
def yX1_waitFrom : MethodName := ⟨RX1, "waitFrom", "(II)V"⟩
abbrev cX1_waitingFor : ByteArray := prog_3_method_12_code
def yX1_waitingFor : MethodName := ⟨RX1, "waitingFor", "(II)I"⟩
abbrev cX1_holds : ByteArray := prog_3_method_13_code
def yX1_holds : MethodName := ⟨RX1, "holds", "(II)Z"⟩
def RX2 : String := "DomeLamps$History"
def TX2 : u_T := fun k => match k with
  | 0 => ("DomeLamps$History", "states", "[LDomeLamps$Dome;", true)
  | 1 => ("DomeLamps$History", "oldest", "I", false)
  | _ => ("DomeLamps$History", "size", "I", false)
def tyX2 : Nat → FieldType := fun k => match k with
  | 0 => .array (.object "DomeLamps$Dome")
  | 1 => .int
  | _ => .int
abbrev wsX20 : List Cond := u_ws RX2 TX2 3
theorem nmX2 : ∀ a, a < 3 → ∀ b, b < 3 → a ≠ b → (TX2 a).2.1 ≠ (TX2 b).2.1 := by decide +kernel
theorem tyX2_ok : ∀ k, k < 3 → parseFieldDescriptor (TX2 k).2.2.1 = some (tyX2 k) := by decide +kernel
abbrev cX2_init : ByteArray := prog_4_method_1_code
def yX2_init : MethodName := ⟨RX2, "<init>", "()V"⟩
abbrev cX2_record : ByteArray := prog_4_method_2_code
def yX2_record : MethodName := ⟨RX2, "record", "(LDomeLamps$Dome;)V"⟩
abbrev cX2_takeBack : ByteArray := prog_4_method_3_code
def yX2_takeBack : MethodName := ⟨RX2, "takeBack", "(LDomeLamps$Dome;)V"⟩
def RX3 : String := "DomeLamps$Lamps"
def TX3 : u_T := fun k => match k with
  | 0 => ("DomeLamps$Lamps", "burned", "[I", true)
  | 1 => ("DomeLamps$Lamps", "fog", "[I", true)
  | _ => ("DomeLamps$Lamps", "changes", "[I", true)
def tyX3 : Nat → FieldType := fun k => match k with
  | 0 => .array .int
  | 1 => .array .int
  | _ => .array .int
abbrev wsX30 : List Cond := u_ws RX3 TX3 3
theorem nmX3 : ∀ a, a < 3 → ∀ b, b < 3 → a ≠ b → (TX3 a).2.1 ≠ (TX3 b).2.1 := by decide +kernel
theorem tyX3_ok : ∀ k, k < 3 → parseFieldDescriptor (TX3 k).2.2.1 = some (tyX3 k) := by decide +kernel
abbrev cX3_init : ByteArray := prog_5_method_1_code
def yX3_init : MethodName := ⟨RX3, "<init>", "()V"⟩
abbrev cX3_copyFrom : ByteArray := prog_5_method_2_code
def yX3_copyFrom : MethodName := ⟨RX3, "copyFrom", "(LDomeLamps$Lamps;)V"⟩
abbrev cX3_minutesLeft : ByteArray := prog_5_method_3_code
def yX3_minutesLeft : MethodName := ⟨RX3, "minutesLeft", "(II)I"⟩
abbrev cX3_firstToEnd : ByteArray := prog_5_method_4_code
def yX3_firstToEnd : MethodName := ⟨RX3, "firstToEnd", "(I)I"⟩
abbrev cX3_runsUntilEnd : ByteArray := prog_5_method_5_code
def yX3_runsUntilEnd : MethodName := ⟨RX3, "runsUntilEnd", "(LDomeLamps$Show;I)I"⟩
abbrev cX3_isFoggy : ByteArray := prog_5_method_6_code
def yX3_isFoggy : MethodName := ⟨RX3, "isFoggy", "(LDomeLamps$Show;I)Z"⟩
abbrev cX3_burn : ByteArray := prog_5_method_7_code
def yX3_burn : MethodName := ⟨RX3, "burn", "(LDomeLamps$Show;I)V"⟩
def RX4 : String := "DomeLamps$Pad"
def TX4 : u_T := fun k => match k with
  | 0 => ("DomeLamps$Pad", "characters", "[C", true)
  | _ => ("DomeLamps$Pad", "length", "I", false)
def tyX4 : Nat → FieldType := fun k => match k with
  | 0 => .array .char
  | _ => .int
abbrev wsX40 : List Cond := u_ws RX4 TX4 2
theorem nmX4 : ∀ a, a < 2 → ∀ b, b < 2 → a ≠ b → (TX4 a).2.1 ≠ (TX4 b).2.1 := by decide +kernel
theorem tyX4_ok : ∀ k, k < 2 → parseFieldDescriptor (TX4 k).2.2.1 = some (tyX4 k) := by decide +kernel
abbrev cX4_init : ByteArray := prog_6_method_1_code
def yX4_init : MethodName := ⟨RX4, "<init>", "()V"⟩
abbrev cX4_append : ByteArray := prog_6_method_2_code
def yX4_append : MethodName := ⟨RX4, "append", "(JI)V"⟩
def RX5 : String := "DomeLamps$Reader"
def TX5 : u_T := fun k => match k with
  | 0 => ("DomeLamps$Reader", "lampsByMinute", "[B", true)
  | 1 => ("DomeLamps$Reader", "repeats", "[I", true)
  | 2 => ("DomeLamps$Reader", "minutesBefore", "[I", true)
  | 3 => ("DomeLamps$Reader", "scenesBefore", "[I", true)
  | 4 => ("DomeLamps$Reader", "last", "I", false)
  | 5 => ("DomeLamps$Reader", "depth", "I", false)
  | 6 => ("DomeLamps$Reader", "deepest", "I", false)
  | 7 => ("DomeLamps$Reader", "lamps", "I", false)
  | 8 => ("DomeLamps$Reader", "number", "I", false)
  | 9 => ("DomeLamps$Reader", "scenes", "I", false)
  | _ => ("DomeLamps$Reader", "minutes", "I", false)
def tyX5 : Nat → FieldType := fun k => match k with
  | 0 => .array .byte
  | 1 => .array .int
  | 2 => .array .int
  | 3 => .array .int
  | 4 => .int
  | 5 => .int
  | 6 => .int
  | 7 => .int
  | 8 => .int
  | 9 => .int
  | _ => .int
abbrev wsX50 : List Cond := u_ws RX5 TX5 11
theorem nmX5 : ∀ a, a < 11 → ∀ b, b < 11 → a ≠ b → (TX5 a).2.1 ≠ (TX5 b).2.1 := by decide +kernel
theorem tyX5_ok : ∀ k, k < 11 → parseFieldDescriptor (TX5 k).2.2.1 = some (tyX5 k) := by decide +kernel
abbrev cX5_init : ByteArray := prog_7_method_1_code
def yX5_init : MethodName := ⟨RX5, "<init>", "()V"⟩
abbrev cX5_read : ByteArray := prog_7_method_2_code
def yX5_read : MethodName := ⟨RX5, "read", "(LDomeLamps$Pad;)I"⟩
abbrev cX5_laidOut : ByteArray := prog_7_method_3_code
def yX5_laidOut : MethodName := ⟨RX5, "laidOut", "()LDomeLamps$Show;"⟩
abbrev cX5_clear : ByteArray := prog_7_method_4_code
def yX5_clear : MethodName := ⟨RX5, "clear", "()V"⟩
abbrev cX5_isBehindPart : ByteArray := prog_7_method_5_code
def yX5_isBehindPart : MethodName := ⟨RX5, "isBehindPart", "()Z"⟩
abbrev cX5_takes : ByteArray := prog_7_method_6_code
def yX5_takes : MethodName := ⟨RX5, "takes", "(C)Z"⟩
abbrev cX5_takesLamp : ByteArray := prog_7_method_7_code
def yX5_takesLamp : MethodName := ⟨RX5, "takesLamp", "(C)Z"⟩
abbrev cX5_takesRepeat : ByteArray := prog_7_method_8_code
def yX5_takesRepeat : MethodName := ⟨RX5, "takesRepeat", "(C)Z"⟩
abbrev cX5_takesStar : ByteArray := prog_7_method_9_code
def yX5_takesStar : MethodName := ⟨RX5, "takesStar", "(C)Z"⟩
abbrev cX5_takesOpening : ByteArray := prog_7_method_10_code
def yX5_takesOpening : MethodName := ⟨RX5, "takesOpening", "(C)Z"⟩
abbrev cX5_takesFirstDigit : ByteArray := prog_7_method_11_code
def yX5_takesFirstDigit : MethodName := ⟨RX5, "takesFirstDigit", "(C)Z"⟩
abbrev cX5_takesSecondDigit : ByteArray := prog_7_method_12_code
def yX5_takesSecondDigit : MethodName := ⟨RX5, "takesSecondDigit", "(C)Z"⟩
abbrev cX5_takesEndOfPart : ByteArray := prog_7_method_13_code
def yX5_takesEndOfPart : MethodName := ⟨RX5, "takesEndOfPart", "(C)Z"⟩
abbrev cX5_endScene : ByteArray := prog_7_method_14_code
def yX5_endScene : MethodName := ⟨RX5, "endScene", "()V"⟩
abbrev cX5_endRepeat : ByteArray := prog_7_method_15_code
def yX5_endRepeat : MethodName := ⟨RX5, "endRepeat", "()V"⟩
def RX6 : String := "DomeLamps$Show"
def TX6 : u_T := fun k => match k with
  | 0 => ("DomeLamps$Show", "lampsByMinute", "[B", true)
  | 1 => ("DomeLamps$Show", "minutesOf", "[I", true)
  | 2 => ("DomeLamps$Show", "minutes", "I", true)
  | 3 => ("DomeLamps$Show", "scenes", "I", true)
  | 4 => ("DomeLamps$Show", "depth", "I", true)
  | _ => ("DomeLamps$Show", "lamps", "I", true)
def tyX6 : Nat → FieldType := fun k => match k with
  | 0 => .array .byte
  | 1 => .array .int
  | 2 => .int
  | 3 => .int
  | 4 => .int
  | _ => .int
abbrev wsX60 : List Cond := u_ws RX6 TX6 6
theorem nmX6 : ∀ a, a < 6 → ∀ b, b < 6 → a ≠ b → (TX6 a).2.1 ≠ (TX6 b).2.1 := by decide +kernel
theorem tyX6_ok : ∀ k, k < 6 → parseFieldDescriptor (TX6 k).2.2.1 = some (tyX6 k) := by decide +kernel
abbrev cX6_init : ByteArray := prog_8_method_1_code
def yX6_init : MethodName := ⟨RX6, "<init>", "([BII)V"⟩
abbrev cX6_lights : ByteArray := prog_8_method_2_code
def yX6_lights : MethodName := ⟨RX6, "lights", "(I)Z"⟩
def RX7 : String := "DomeLamps"
def TX7 : u_T := fun k => match k with
  | 0 => ("DomeLamps", "dome", "LDomeLamps$Dome;", true)
  | 1 => ("DomeLamps", "trial", "LDomeLamps$Dome;", true)
  | 2 => ("DomeLamps", "pad", "LDomeLamps$Pad;", true)
  | 3 => ("DomeLamps", "reader", "LDomeLamps$Reader;", true)
  | 4 => ("DomeLamps", "history", "LDomeLamps$History;", true)
  | 5 => ("DomeLamps", "slots", "[LDomeLamps$Dome;", true)
  | _ => ("DomeLamps", "saved", "[Z", true)
def tyX7 : Nat → FieldType := fun k => match k with
  | 0 => .object "DomeLamps$Dome"
  | 1 => .object "DomeLamps$Dome"
  | 2 => .object "DomeLamps$Pad"
  | 3 => .object "DomeLamps$Reader"
  | 4 => .object "DomeLamps$History"
  | 5 => .array (.object "DomeLamps$Dome")
  | _ => .array .boolean
abbrev wsX70 : List Cond := u_ws RX7 TX7 7
theorem nmX7 : ∀ a, a < 7 → ∀ b, b < 7 → a ≠ b → (TX7 a).2.1 ≠ (TX7 b).2.1 := by decide +kernel
theorem tyX7_ok : ∀ k, k < 7 → parseFieldDescriptor (TX7 k).2.2.1 = some (tyX7 k) := by decide +kernel
abbrev cX7_init : ByteArray := prog_1_method_1_code
def yX7_init : MethodName := ⟨RX7, "<init>", "()V"⟩
abbrev cX7_set : ByteArray := prog_1_method_2_code
def yX7_set : MethodName := ⟨RX7, "set", "(II)I"⟩
abbrev cX7_tell : ByteArray := prog_1_method_3_code
def yX7_tell : MethodName := ⟨RX7, "tell", "(I)I"⟩
abbrev cX7_group : ByteArray := prog_1_method_4_code
def yX7_group : MethodName := ⟨RX7, "group", "(III)I"⟩
abbrev cX7_lamp : ByteArray := prog_1_method_5_code
def yX7_lamp : MethodName := ⟨RX7, "lamp", "(I)I"⟩
abbrev cX7_lens : ByteArray := prog_1_method_6_code
def yX7_lens : MethodName := ⟨RX7, "lens", "(I)I"⟩
abbrev cX7_run : ByteArray := prog_1_method_7_code
def yX7_run : MethodName := ⟨RX7, "run", "()I"⟩
abbrev cX7_ofShow : ByteArray := prog_1_method_8_code
def yX7_ofShow : MethodName := ⟨RX7, "ofShow", "(II)I"⟩
abbrev cX7_lit : ByteArray := prog_1_method_9_code
def yX7_lit : MethodName := ⟨RX7, "lit", "(II)I"⟩
abbrev cX7_at : ByteArray := prog_1_method_10_code
def yX7_at : MethodName := ⟨RX7, "at", "(II)I"⟩
abbrev cX7_ofLamp : ByteArray := prog_1_method_11_code
def yX7_ofLamp : MethodName := ⟨RX7, "ofLamp", "(II)I"⟩
abbrev cX7_ofGroup : ByteArray := prog_1_method_12_code
def yX7_ofGroup : MethodName := ⟨RX7, "ofGroup", "(II)I"⟩
abbrev cX7_count : ByteArray := prog_1_method_13_code
def yX7_count : MethodName := ⟨RX7, "count", "(I)I"⟩
abbrev cX7_why : ByteArray := prog_1_method_14_code
def yX7_why : MethodName := ⟨RX7, "why", "()I"⟩
abbrev cX7_next : ByteArray := prog_1_method_15_code
def yX7_next : MethodName := ⟨RX7, "next", "(I)I"⟩
abbrev cX7_oftenOf : ByteArray := prog_1_method_16_code
def yX7_oftenOf : MethodName := ⟨RX7, "oftenOf", "(I)I"⟩
abbrev cX7_endsFirst : ByteArray := prog_1_method_17_code
def yX7_endsFirst : MethodName := ⟨RX7, "endsFirst", "()I"⟩
abbrev cX7_runsLeft : ByteArray := prog_1_method_18_code
def yX7_runsLeft : MethodName := ⟨RX7, "runsLeft", "()I"⟩
abbrev cX7_put : ByteArray := prog_1_method_19_code
def yX7_put : MethodName := ⟨RX7, "put", "(J)I"⟩
abbrev cX7_wipe : ByteArray := prog_1_method_20_code
def yX7_wipe : MethodName := ⟨RX7, "wipe", "()I"⟩
abbrev cX7_undo : ByteArray := prog_1_method_22_code
def yX7_undo : MethodName := ⟨RX7, "undo", "()I"⟩
abbrev cX7_isOneOf : ByteArray := prog_1_method_25_code
def yX7_isOneOf : MethodName := ⟨RX7, "isOneOf", "(II)Z"⟩
abbrev cX7_lengthOf : ByteArray := prog_1_method_26_code
def yX7_lengthOf : MethodName := ⟨RX7, "lengthOf", "(J)I"⟩
def RX8 : String := "DomeLampsModel"
def TX8 : u_T := fun k => match k with
  | _ => ("", "", "", false)
def tyX8 : Nat → FieldType := fun k => match k with
  | _ => .int
abbrev wsX80 : List Cond := u_ws RX8 TX8 0
theorem nmX8 : ∀ a, a < 0 → ∀ b, b < 0 → a ≠ b → (TX8 a).2.1 ≠ (TX8 b).2.1 := by decide +kernel
theorem tyX8_ok : ∀ k, k < 0 → parseFieldDescriptor (TX8 k).2.2.1 = some (tyX8 k) := by decide +kernel
def RJx8e188 : String := "java/lang/Cloneable"
def TJx8e188 : u_T := fun k => match k with
  | _ => ("", "", "", false)
def tyJx8e188 : Nat → FieldType := fun k => match k with
  | _ => .int
abbrev wsJx8e1880 : List Cond := u_ws RJx8e188 TJx8e188 0
theorem nmJx8e188 : ∀ a, a < 0 → ∀ b, b < 0 → a ≠ b → (TJx8e188 a).2.1 ≠ (TJx8e188 b).2.1 := by decide +kernel
theorem tyJx8e188_ok : ∀ k, k < 0 → parseFieldDescriptor (TJx8e188 k).2.2.1 = some (tyJx8e188 k) := by decide +kernel
def RJ9 : String := "java/lang/Math"
def TJ9 : u_T := fun k => match k with
  | _ => ("", "", "", false)
def tyJ9 : Nat → FieldType := fun k => match k with
  | _ => .int
abbrev wsJ90 : List Cond := u_ws RJ9 TJ9 0
theorem nmJ9 : ∀ a, a < 0 → ∀ b, b < 0 → a ≠ b → (TJ9 a).2.1 ≠ (TJ9 b).2.1 := by decide +kernel
theorem tyJ9_ok : ∀ k, k < 0 → parseFieldDescriptor (TJ9 k).2.2.1 = some (tyJ9 k) := by decide +kernel
abbrev cJ9_max_7cf53 : ByteArray := prog_12_method_65_code
def yJ9_max_7cf53 : MethodName := ⟨RJ9, "max", "(II)I"⟩
abbrev cJ9_min_7cf53 : ByteArray := prog_12_method_69_code
def yJ9_min_7cf53 : MethodName := ⟨RJ9, "min", "(II)I"⟩
def RJ10 : String := "java/lang/System"
def TJ10 : u_T := fun k => match k with
  | _ => ("", "", "", false)
def tyJ10 : Nat → FieldType := fun k => match k with
  | _ => .int
abbrev wsJ100 : List Cond := u_ws RJ10 TJ10 0
theorem nmJ10 : ∀ a, a < 0 → ∀ b, b < 0 → a ≠ b → (TJ10 a).2.1 ≠ (TJ10 b).2.1 := by decide +kernel
theorem tyJ10_ok : ∀ k, k < 0 → parseFieldDescriptor (TJ10 k).2.2.1 = some (tyJ10 k) := by decide +kernel
def RJ7 : String := "java/util/Arrays"
def TJ7 : u_T := fun k => match k with
  | _ => ("", "", "", false)
def tyJ7 : Nat → FieldType := fun k => match k with
  | _ => .int
abbrev wsJ70 : List Cond := u_ws RJ7 TJ7 0
theorem nmJ7 : ∀ a, a < 0 → ∀ b, b < 0 → a ≠ b → (TJ7 a).2.1 ≠ (TJ7 b).2.1 := by decide +kernel
theorem tyJ7_ok : ∀ k, k < 0 → parseFieldDescriptor (TJ7 k).2.2.1 = some (tyJ7 k) := by decide +kernel
abbrev cJ7_copyOf_9075b : ByteArray := prog_14_method_121_code
def yJ7_copyOf_9075b : MethodName := ⟨RJ7, "copyOf", "([BI)[B"⟩
def RL : String := "DomeLampsLaw"
abbrev cL_cell : ByteArray := method_2_code
def yL_cell : MethodName := ⟨RL, "cell", "([II)I"⟩
abbrev cL_low : ByteArray := method_3_code
def yL_low : MethodName := ⟨RL, "low", "(II)I"⟩
abbrev cL_number : ByteArray := method_4_code
def yL_number : MethodName := ⟨RL, "number", "(LDomeLamps;I)V"⟩
abbrev cL_scene : ByteArray := method_5_code
def yL_scene : MethodName := ⟨RL, "scene", "(LDomeLamps;I)V"⟩
abbrev cL_tell : ByteArray := method_6_code
def yL_tell : MethodName := ⟨RL, "tell", "(LDomeLamps;I)I"⟩
abbrev cL_does : ByteArray := method_7_code
def yL_does : MethodName := ⟨RL, "does", "(LDomeLamps;I)I"⟩
abbrev cL_areShowsSo : ByteArray := method_8_code
def yL_areShowsSo : MethodName := ⟨RL, "areShowsSo", "(LDomeLamps;)Z"⟩
abbrev cL_areLampsSo : ByteArray := method_9_code
def yL_areLampsSo : MethodName := ⟨RL, "areLampsSo", "(LDomeLamps;)Z"⟩
abbrev cL_isRunSo : ByteArray := method_10_code
def yL_isRunSo : MethodName := ⟨RL, "isRunSo", "(LDomeLamps;)Z"⟩
abbrev cL_law : ByteArray := code
def yL_law : MethodName := ⟨RL, "law", "([I)Z"⟩

-- ===== tables =====
def iCN : List String := [RX0, RX1, RX2, RX3, RX4, RX5, RX6, RX7, RX7, RL, RJ10, RJ9, RJ7]
def CN (c : Nat) : String := iCN.getD c ""
def CT (c : Nat) : u_T := match c with
  | 0 => TX0
  | 1 => TX1
  | 2 => TX2
  | 3 => TX3
  | 4 => TX4
  | 5 => TX5
  | 6 => TX6
  | 7 => TX7
  | _ => TX7
def CF (c : Nat) : Nat → FieldType := match c with
  | 0 => tyX0
  | 1 => tyX1
  | 2 => tyX2
  | 3 => tyX3
  | 4 => tyX4
  | 5 => tyX5
  | 6 => tyX6
  | 7 => tyX7
  | _ => tyX7
def CNF (c : Nat) : Nat := [9, 6, 3, 3, 2, 11, 6, 7, 7].getD c 0
abbrev vwCl : List vw_C := [(RX0, TX0, 9), (RX1, TX1, 6), (RX2, TX2, 3), (RX3, TX3, 3), (RX4, TX4, 2), (RX5, TX5, 11), (RX6, TX6, 6), (RX7, TX7, 7), (RX7, TX7, 7)]
def MT : List (Nat × String × String × Nat × Nat × Nat × Option FieldType) := [
  (0, "<init>", "()V", 1, 2, 40, none),
  (0, "copyFrom", "(LDomeLamps$Dome;)V", 3, 2, 59, none),
  (0, "toldShows", "()I", 3, 0, 0, some .int),
  (0, "reason", "()I", 3, 3, 67, some .int),
  (0, "ofNextRun", "(I)I", 4, 4, 93, some .int),
  (0, "nextEnd", "()I", 3, 3, 64, some .int),
  (0, "runNext", "()I", 6, 4, 93, some .int),
  (0, "firstGroup", "()I", 1, 2, 44, some .int),
  (0, "beginWith", "(I)I", 2, 1, 21, some .int),
  (0, "groupsWith", "(I)I", 2, 3, 72, some .int),
  (1, "<init>", "()V", 1, 1, 20, none),
  (1, "copyFrom", "(LDomeLamps$Groups;)V", 2, 1, 38, none),
  (1, "add", "(III)I", 5, 0, 0, some .int),
  (1, "waiting", "()I", 3, 0, 0, some .int),
  (1, "earliest", "(I)I", 4, 1, 21, some .int),
  (1, "seated", "(III)I", 9, 2, 44, some .int),
  (1, "personsIn", "(I)I", 4, 1, 21, some .int),
  (1, "newPersonsIn", "(I)I", 4, 1, 21, some .int),
  (1, "countRun", "(I)V", 3, 1, 21, none),
  (1, "goHome", "(I)V", 3, 1, 21, none),
  (1, "waitFrom", "(II)V", 4, 1, 21, none),
  (1, "waitingFor", "(II)I", 5, 0, 0, some .int),
  (1, "holds", "(II)Z", 2, 0, 0, some .boolean),
  (2, "<init>", "()V", 2, 3, 60, none),
  (2, "record", "(LDomeLamps$Dome;)V", 2, 3, 81, none),
  (2, "takeBack", "(LDomeLamps$Dome;)V", 2, 3, 81, none),
  (3, "<init>", "()V", 1, 1, 20, none),
  (3, "copyFrom", "(LDomeLamps$Lamps;)V", 2, 1, 38, none),
  (3, "minutesLeft", "(II)I", 3, 1, 21, some .int),
  (3, "firstToEnd", "(I)I", 4, 2, 43, some .int),
  (3, "runsUntilEnd", "(LDomeLamps$Show;I)I", 5, 2, 43, some .int),
  (3, "isFoggy", "(LDomeLamps$Show;I)Z", 4, 1, 21, some .boolean),
  (3, "burn", "(LDomeLamps$Show;I)V", 5, 1, 21, none),
  (4, "<init>", "()V", 1, 1, 20, none),
  (4, "append", "(JI)V", 5, 0, 0, none),
  (5, "<init>", "()V", 1, 1, 20, none),
  (5, "read", "(LDomeLamps$Pad;)I", 3, 3, 66, some .int),
  (5, "laidOut", "()LDomeLamps$Show;", 2, 2, 60, some (.object "DomeLamps$Show")),
  (5, "clear", "()V", 1, 0, 0, none),
  (5, "isBehindPart", "()Z", 1, 0, 0, some .boolean),
  (5, "takes", "(C)Z", 2, 2, 45, some .boolean),
  (5, "takesLamp", "(C)Z", 2, 0, 0, some .boolean),
  (5, "takesRepeat", "(C)Z", 2, 0, 0, some .boolean),
  (5, "takesStar", "(C)Z", 2, 0, 0, some .boolean),
  (5, "takesOpening", "(C)Z", 2, 1, 21, some .boolean),
  (5, "takesFirstDigit", "(C)Z", 2, 0, 0, some .boolean),
  (5, "takesSecondDigit", "(C)Z", 2, 0, 0, some .boolean),
  (5, "takesEndOfPart", "(C)Z", 2, 1, 24, some .boolean),
  (5, "endScene", "()V", 3, 0, 0, none),
  (5, "endRepeat", "()V", 5, 0, 0, none),
  (6, "<init>", "([BII)V", 7, 1, 20, none),
  (6, "lights", "(I)Z", 2, 0, 0, some .boolean),
  (7, "<init>", "()V", 2, 4, 81, none),
  (7, "set", "(II)I", 4, 4, 102, some .int),
  (7, "tell", "(I)I", 2, 4, 102, some .int),
  (7, "group", "(III)I", 4, 4, 102, some .int),
  (7, "lamp", "(I)I", 3, 4, 102, some .int),
  (7, "lens", "(I)I", 3, 4, 102, some .int),
  (7, "run", "()I", 1, 5, 118, some .int),
  (7, "ofShow", "(II)I", 4, 1, 21, some .int),
  (7, "lit", "(II)I", 4, 1, 21, some .int),
  (7, "at", "(II)I", 4, 1, 21, some .int),
  (7, "ofLamp", "(II)I", 3, 2, 43, some .int),
  (7, "ofGroup", "(II)I", 4, 1, 21, some .int),
  (7, "count", "(I)I", 2, 1, 22, some .int),
  (7, "why", "()I", 1, 4, 89, some .int),
  (7, "next", "(I)I", 3, 5, 116, some .int),
  (7, "oftenOf", "(I)I", 3, 3, 67, some .int),
  (7, "endsFirst", "()I", 1, 3, 66, some .int),
  (7, "runsLeft", "()I", 2, 5, 118, some .int),
  (7, "put", "(J)I", 4, 1, 25, some .int),
  (7, "wipe", "()I", 2, 0, 0, some .int),
  (7, "undo", "()I", 1, 4, 102, some .int),
  (7, "isOneOf", "(II)Z", 2, 0, 0, some .boolean),
  (7, "lengthOf", "(J)I", 6, 0, 0, some .int),
  (11, "max", "(II)I", 2, 0, 0, some .int),
  (11, "min", "(II)I", 2, 0, 0, some .int),
  (12, "copyOf", "([BI)[B", 3, 1, 38, some (.array .byte)),
  (9, "cell", "([II)I", 2, 0, 0, some .int),
  (9, "low", "(II)I", 2, 0, 0, some .int),
  (9, "number", "(LDomeLamps;I)V", 2, 2, 48, none),
  (9, "scene", "(LDomeLamps;I)V", 2, 3, 69, none),
  (9, "tell", "(LDomeLamps;I)I", 3, 5, 123, some .int),
  (9, "does", "(LDomeLamps;I)I", 4, 6, 145, some .int),
  (9, "areShowsSo", "(LDomeLamps;)Z", 12, 4, 89, some .boolean),
  (9, "areLampsSo", "(LDomeLamps;)Z", 6, 4, 86, some .boolean),
  (9, "isRunSo", "(LDomeLamps;)Z", 16, 6, 139, some .boolean),
  (9, "law", "([I)Z", 7, 7, 174, some .boolean)]
def mt (y : Nat) : Nat × String × String × Nat × Nat × Nat × Option FieldType := MT.getD y (0, "", "", 0, 0, 0, none)
def ow (y : Nat) : Nat := (mt y).1
def nm (y : Nat) : MethodName := ⟨CN (ow y), (mt y).2.1, (mt y).2.2.1⟩
def mL (y : Nat) : Nat := (mt y).2.2.2.1
def dp (y : Nat) : Nat := (mt y).2.2.2.2.1
def lc (y : Nat) : Nat := (mt y).2.2.2.2.2.1
def rt (y : Nat) : Option FieldType := (mt y).2.2.2.2.2.2
def CD : List ByteArray := [cX0_init, cX0_copyFrom, cX0_toldShows, cX0_reason, cX0_ofNextRun, cX0_nextEnd, cX0_runNext, cX0_firstGroup, cX0_beginWith, cX0_groupsWith, cX1_init, cX1_copyFrom, cX1_add, cX1_waiting, cX1_earliest, cX1_seated, cX1_personsIn, cX1_newPersonsIn, cX1_countRun, cX1_goHome, cX1_waitFrom, cX1_waitingFor, cX1_holds, cX2_init, cX2_record, cX2_takeBack, cX3_init, cX3_copyFrom, cX3_minutesLeft, cX3_firstToEnd, cX3_runsUntilEnd, cX3_isFoggy, cX3_burn, cX4_init, cX4_append, cX5_init, cX5_read, cX5_laidOut, cX5_clear, cX5_isBehindPart, cX5_takes, cX5_takesLamp, cX5_takesRepeat, cX5_takesStar, cX5_takesOpening, cX5_takesFirstDigit, cX5_takesSecondDigit, cX5_takesEndOfPart, cX5_endScene, cX5_endRepeat, cX6_init, cX6_lights, cX7_init, cX7_set, cX7_tell, cX7_group, cX7_lamp, cX7_lens, cX7_run, cX7_ofShow, cX7_lit, cX7_at, cX7_ofLamp, cX7_ofGroup, cX7_count, cX7_why, cX7_next, cX7_oftenOf, cX7_endsFirst, cX7_runsLeft, cX7_put, cX7_wipe, cX7_undo, cX7_isOneOf, cX7_lengthOf, cJ9_max_7cf53, cJ9_min_7cf53, cJ7_copyOf_9075b, cL_cell, cL_low, cL_number, cL_scene, cL_tell, cL_does, cL_areShowsSo, cL_areLampsSo, cL_isRunSo, cL_law]
def cd (y : Nat) : ByteArray := CD.getD y ⟨#[]⟩
/-- places: code word, static word or instance word, selects word (0: none) -/
def PL : List (Nat × Nat × Nat × Nat) := [(40, 0, 39, 0), (364, 0, 362, 363), (257, 0, 255, 256), (462, 0, 460, 461), (598, 0, 596, 597), (492, 0, 490, 491), (502, 0, 500, 501), (466, 0, 465, 12), (496, 0, 495, 13), (506, 0, 505, 14), (77, 0, 76, 0), (376, 0, 374, 375), (438, 0, 436, 437), (253, 0, 251, 252), (471, 0, 469, 470), (510, 0, 508, 509), (543, 0, 541, 542), (527, 0, 525, 526), (531, 0, 529, 530), (539, 0, 537, 538), (535, 0, 533, 534), (514, 0, 513, 15), (474, 1, 473, 0), (207, 0, 206, 0), (360, 0, 358, 359), (612, 0, 610, 611), (57, 0, 56, 0), (371, 0, 369, 370), (486, 0, 484, 485), (583, 0, 581, 582), (478, 0, 476, 477), (519, 0, 517, 518), (523, 0, 521, 522), (148, 0, 147, 0), (286, 0, 284, 285), (165, 0, 164, 0), (305, 0, 303, 304), (381, 0, 379, 380), (309, 0, 308, 0), (356, 0, 355, 11), (313, 0, 312, 1), (317, 0, 316, 2), (321, 0, 320, 3), (345, 0, 344, 9), (349, 0, 348, 10), (325, 0, 324, 4), (329, 0, 328, 5), (333, 0, 332, 6), (337, 0, 336, 7), (341, 0, 340, 8), (399, 0, 398, 0), (482, 0, 480, 481), (32, 0, 31, 0), (450, 0, 448, 449), (298, 0, 296, 297), (434, 0, 432, 433), (442, 0, 440, 441), (446, 0, 444, 445), (458, 0, 456, 457), (550, 0, 548, 549), (554, 0, 552, 553), (563, 0, 561, 562), (558, 0, 556, 557), (575, 0, 573, 574), (249, 0, 247, 248), (590, 0, 588, 589), (594, 0, 592, 593), (567, 0, 565, 566), (579, 0, 577, 578), (602, 0, 600, 601), (278, 0, 276, 277), (267, 0, 265, 266), (608, 0, 606, 607), (301, 1, 300, 0), (281, 1, 280, 0), (352, 1, 351, 0), (384, 1, 383, 0), (389, 1, 388, 0), (260, 1, 259, 0), (273, 1, 272, 0), (290, 1, 289, 0), (270, 1, 269, 0), (263, 1, 262, 0), (430, 1, 429, 0), (546, 1, 545, 0), (571, 1, 570, 0), (586, 1, 585, 0), (0, 0, 0, 0)]
def pl (y : Nat) : Nat × Nat × Nat × Nat := PL.getD y (0, 0, 0, 0)
def LK0 : List (Nat × List Nat × Nat) := [(6, [6], 41), (18, [14, 2, 1], 42), (26, [8, 0], 44), (29, [11, 10], 50), (36, [1, 0, 0], 107), (47, [10, 14], 51), (50, [1, 0, 1], 109), (58, [1, 0, 2], 111), (64, [9, 3, 3], 53), (68, [5, 26, 0], 55), (70, [1, 0, 3], 113), (78, [9, 1, 6], 73), (82, [5, 10, 0], 75), (84, [1, 0, 4], 115), (92, [7], 365), (104, [3, 27, 1], 368), (112, [3, 11, 1], 373), (118, [0, 0, 5], 117), (126, [0, 0, 6], 119), (132, [0, 0, 7], 121), (138, [0, 0, 8], 123), (144, [3, 7, 0], 463), (152, [1, 1, 1], 83), (156, [1, 1, 0], 80), (162, [3, 30, 2], 475), (170, [3, 9, 1], 503), (178, [3, 8, 1], 493), (184, [3, 31, 2], 516), (192, [0, 6, 2], 407), (198, [3, 32, 2], 520), (206, [3, 17, 1], 524), (212, [3, 18, 1], 528), (220, [3, 20, 2], 532), (228, [3, 19, 1], 536), (234, [3, 16, 1], 540), (240, [3, 13, 0], 467), (246, [3, 14, 1], 468), (252, [1, 1, 2], 86), (258, [2, 75, 2], 497), (270, [3, 15, 3], 507)]
def LK1 : List (Nat × List Nat × Nat) := [(6, [6], 78), (18, [1, 1, 0], 79), (30, [1, 1, 1], 82), (36, [1, 1, 2], 85), (42, [1, 1, 3], 88), (48, [1, 1, 4], 90), (54, [7], 377), (66, [0, 1, 5], 92), (74, [2, 22, 2], 472), (82, [3, 21, 2], 511), (90, [3, 14, 1], 515)]
def LK2 : List (Nat × List Nat × Nat) := [(6, [6], 208), (18, [9, 0, 9], 209), (19, [10, 15], 209), (22, [1, 2, 0], 212), (34, [5, 0, 0], 211), (36, [0, 2, 1], 213), (44, [0, 2, 2], 214), (50, [3, 1, 1], 361)]
def LK3 : List (Nat × List Nat × Nat) := [(6, [6], 58), (18, [1, 3, 0], 59), (30, [1, 3, 1], 61), (36, [1, 3, 2], 63), (42, [7], 372), (54, [2, 75, 2], 487), (66, [3, 28, 2], 483), (72, [3, 51, 1], 479), (84, [1, 6, 1], 404), (90, [2, 76, 2], 488)]
def LK4 : List (Nat × List Nat × Nat) := [(6, [6], 149), (18, [1, 4, 0], 150), (30, [0, 4, 1], 153), (38, [13, 255], 287)]
def LK5 : List (Nat × List Nat × Nat) := [(6, [6], 166), (18, [1, 5, 0], 167), (30, [1, 5, 1], 168), (38, [1, 5, 2], 169), (44, [1, 5, 3], 170), (50, [3, 38, 0], 306), (56, [0, 4, 1], 152), (68, [1, 4, 0], 151), (76, [3, 40, 1], 310), (84, [0, 5, 5], 172), (90, [3, 39, 0], 353), (98, [3, 48, 0], 334), (104, [0, 5, 10], 177), (110, [2, 76, 2], 382), (122, [9, 6, 6], 385), (126, [2, 77, 2], 387), (138, [0, 5, 9], 176), (144, [0, 5, 6], 173), (150, [4, 50, 3], 397), (156, [0, 5, 4], 171), (162, [0, 5, 7], 174), (168, [0, 5, 8], 175), (174, [3, 41, 1], 314), (180, [3, 42, 1], 318), (186, [3, 45, 1], 322), (192, [3, 46, 1], 326), (198, [3, 47, 1], 330), (204, [3, 43, 1], 342), (210, [3, 44, 1], 346), (216, [2, 75, 2], 350), (222, [3, 49, 0], 338)]
def LK6 : List (Nat × List Nat × Nat) := [(6, [6], 400), (18, [1, 6, 1], 403), (30, [1, 6, 0], 401), (38, [0, 6, 2], 406), (46, [0, 6, 3], 409), (52, [0, 6, 4], 411), (58, [0, 6, 5], 413)]
def LK7 : List (Nat × List Nat × Nat) := [(2, [6], 33), (14, [9, 0, 9], 36), (15, [10, 15], 36), (18, [5, 0, 0], 38), (20, [1, 7, 0], 223), (32, [1, 7, 1], 224), (38, [9, 4, 2], 144), (42, [5, 33, 0], 146), (44, [1, 7, 2], 225), (52, [9, 5, 11], 161), (56, [5, 35, 0], 163), (58, [1, 7, 3], 226), (66, [9, 2, 3], 203), (70, [4, 23, 0], 205), (72, [1, 7, 4], 227), (80, [1, 7, 5], 228), (88, [1, 7, 6], 229), (96, [2, 73, 2], 299), (104, [14, 3, 0], 451), (112, [14, 4, 0], 453), (118, [3, 24, 1], 357), (126, [1, 0, 0], 108), (132, [3, 36, 1], 302), (140, [0, 5, 10], 178), (148, [1, 0, 1], 110), (156, [3, 37, 0], 378), (164, [0, 4, 1], 154), (170, [1, 0, 4], 116), (178, [0, 1, 5], 93), (188, [3, 12, 3], 435), (196, [1, 0, 3], 114), (204, [1, 3, 0], 60), (214, [1, 3, 2], 64), (220, [1, 3, 1], 62), (226, [3, 3, 0], 459), (234, [3, 5, 0], 489), (240, [12, 99999], 498), (242, [3, 6, 0], 499), (248, [1, 0, 2], 112), (254, [0, 6, 2], 408), (260, [0, 6, 5], 414), (264, [0, 6, 3], 410), (270, [0, 6, 4], 412), (276, [1, 6, 1], 405), (282, [1, 6, 0], 402), (290, [3, 28, 2], 559), (298, [1, 1, 0], 81), (304, [1, 1, 1], 84), (308, [1, 1, 2], 87), (314, [1, 1, 3], 89), (320, [1, 1, 4], 91), (326, [0, 0, 5], 118), (332, [3, 13, 0], 250), (338, [0, 0, 6], 120), (344, [0, 0, 7], 122), (348, [0, 0, 8], 124), (354, [3, 2, 0], 254), (360, [0, 2, 2], 215), (362, [3, 4, 1], 595), (370, [3, 30, 2], 568), (378, [3, 29, 1], 580), (384, [3, 1, 1], 603), (390, [2, 74, 1], 279), (398, [3, 34, 2], 283), (406, [3, 25, 1], 609), (422, [13, 255], 282)]
def LK8 : List (Nat × List Nat × Nat) := []
def LK9 : List (Nat × List Nat × Nat) := [(14, [12, 2147483647], 274), (16, [3, 70, 1], 275), (18, [9, 7, 7], 28), (28, [2, 79, 2], 271), (40, [2, 80, 2], 288), (48, [3, 71, 0], 264), (56, [2, 81, 2], 268), (62, [13, 44], 291), (66, [13, 42], 292), (70, [13, 40], 293), (74, [13, 41], 294), (78, [3, 54, 1], 295), (86, [2, 82, 2], 261), (92, [3, 55, 3], 431), (100, [3, 56, 1], 439), (106, [3, 57, 1], 443), (112, [3, 53, 2], 447), (118, [3, 58, 0], 455), (124, [3, 59, 2], 547), (130, [3, 60, 2], 551), (136, [3, 62, 2], 555), (142, [3, 61, 2], 560), (148, [3, 67, 1], 564), (154, [3, 64, 1], 246), (160, [3, 63, 2], 572), (166, [3, 68, 0], 576), (172, [3, 65, 0], 587), (178, [3, 66, 1], 591), (184, [3, 69, 0], 599), (190, [12, 99999], 604), (192, [3, 72, 0], 605), (198, [4, 52, 0], 30), (200, [2, 78, 2], 258), (208, [2, 83, 2], 428), (214, [2, 85, 1], 569), (222, [2, 84, 1], 544), (228, [2, 86, 1], 584)]
def LK10 : List (Nat × List Nat × Nat) := []
def LK11 : List (Nat × List Nat × Nat) := []
def LK12 : List (Nat × List Nat × Nat) := [(300, [7], 396), (608, [2, 76, 2], 395), (620, [8, 1], 390), (623, [11, 11], 394)]
def LK (c : Nat) : List (Nat × List Nat × Nat) := match c with
  | 0 => LK0
  | 1 => LK1
  | 2 => LK2
  | 3 => LK3
  | 4 => LK4
  | 5 => LK5
  | 6 => LK6
  | 7 => LK7
  | 8 => LK8
  | 9 => LK9
  | 10 => LK10
  | 11 => LK11
  | 12 => LK12
  | _ => []
