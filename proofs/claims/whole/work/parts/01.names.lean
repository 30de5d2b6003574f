-- ===== PART A: goes FIRST, ahead of the names: the tables' words, and 'selects' of the private methods out of them =====
/-- a private method of a class that the tables say can be made, by its rows of tables_1 -/
def lw_okq (q : MethodName × Nat) : Prop := (q.1.cls ≠ "java/lang/invoke/MethodHandle" ∧ q.1.cls ≠ "java/lang/invoke/VarHandle") ∧ Cond.instantiable q.1.cls q.2 ∈ tables_1 ∧ Cond.privateMethod q.1 ∈ tables_1 ∧ Cond.instanceMethod q.1 ∈ tables_1
theorem lw_p0 : lw_okq (⟨"DomeLamps$Reader", "clear", "()V"⟩, 11) := ⟨⟨by decide +kernel, by decide +kernel⟩, List.mem_of_getElem? (i := 148) (by decide +kernel), List.mem_of_getElem? (i := 273) (by decide +kernel), List.mem_of_getElem? (i := 274) (by decide +kernel)⟩
theorem lw_p1 : lw_okq (⟨"DomeLamps$Reader", "takes", "(C)Z"⟩, 11) := ⟨⟨by decide +kernel, by decide +kernel⟩, List.mem_of_getElem? (i := 148) (by decide +kernel), List.mem_of_getElem? (i := 277) (by decide +kernel), List.mem_of_getElem? (i := 278) (by decide +kernel)⟩
theorem lw_p2 : lw_okq (⟨"DomeLamps$Reader", "takesLamp", "(C)Z"⟩, 11) := ⟨⟨by decide +kernel, by decide +kernel⟩, List.mem_of_getElem? (i := 148) (by decide +kernel), List.mem_of_getElem? (i := 281) (by decide +kernel), List.mem_of_getElem? (i := 282) (by decide +kernel)⟩
theorem lw_p3 : lw_okq (⟨"DomeLamps$Reader", "takesRepeat", "(C)Z"⟩, 11) := ⟨⟨by decide +kernel, by decide +kernel⟩, List.mem_of_getElem? (i := 148) (by decide +kernel), List.mem_of_getElem? (i := 285) (by decide +kernel), List.mem_of_getElem? (i := 286) (by decide +kernel)⟩
theorem lw_p4 : lw_okq (⟨"DomeLamps$Reader", "takesFirstDigit", "(C)Z"⟩, 11) := ⟨⟨by decide +kernel, by decide +kernel⟩, List.mem_of_getElem? (i := 148) (by decide +kernel), List.mem_of_getElem? (i := 289) (by decide +kernel), List.mem_of_getElem? (i := 290) (by decide +kernel)⟩
theorem lw_p5 : lw_okq (⟨"DomeLamps$Reader", "takesSecondDigit", "(C)Z"⟩, 11) := ⟨⟨by decide +kernel, by decide +kernel⟩, List.mem_of_getElem? (i := 148) (by decide +kernel), List.mem_of_getElem? (i := 293) (by decide +kernel), List.mem_of_getElem? (i := 294) (by decide +kernel)⟩
theorem lw_p6 : lw_okq (⟨"DomeLamps$Reader", "takesEndOfPart", "(C)Z"⟩, 11) := ⟨⟨by decide +kernel, by decide +kernel⟩, List.mem_of_getElem? (i := 148) (by decide +kernel), List.mem_of_getElem? (i := 297) (by decide +kernel), List.mem_of_getElem? (i := 298) (by decide +kernel)⟩
theorem lw_p7 : lw_okq (⟨"DomeLamps$Reader", "endScene", "()V"⟩, 11) := ⟨⟨by decide +kernel, by decide +kernel⟩, List.mem_of_getElem? (i := 148) (by decide +kernel), List.mem_of_getElem? (i := 301) (by decide +kernel), List.mem_of_getElem? (i := 302) (by decide +kernel)⟩
theorem lw_p8 : lw_okq (⟨"DomeLamps$Reader", "endRepeat", "()V"⟩, 11) := ⟨⟨by decide +kernel, by decide +kernel⟩, List.mem_of_getElem? (i := 148) (by decide +kernel), List.mem_of_getElem? (i := 305) (by decide +kernel), List.mem_of_getElem? (i := 306) (by decide +kernel)⟩
theorem lw_p9 : lw_okq (⟨"DomeLamps$Reader", "takesStar", "(C)Z"⟩, 11) := ⟨⟨by decide +kernel, by decide +kernel⟩, List.mem_of_getElem? (i := 148) (by decide +kernel), List.mem_of_getElem? (i := 309) (by decide +kernel), List.mem_of_getElem? (i := 310) (by decide +kernel)⟩
theorem lw_p10 : lw_okq (⟨"DomeLamps$Reader", "takesOpening", "(C)Z"⟩, 11) := ⟨⟨by decide +kernel, by decide +kernel⟩, List.mem_of_getElem? (i := 148) (by decide +kernel), List.mem_of_getElem? (i := 313) (by decide +kernel), List.mem_of_getElem? (i := 314) (by decide +kernel)⟩
theorem lw_p11 : lw_okq (⟨"DomeLamps$Reader", "isBehindPart", "()Z"⟩, 11) := ⟨⟨by decide +kernel, by decide +kernel⟩, List.mem_of_getElem? (i := 148) (by decide +kernel), List.mem_of_getElem? (i := 320) (by decide +kernel), List.mem_of_getElem? (i := 321) (by decide +kernel)⟩
theorem lw_p12 : lw_okq (⟨"DomeLamps$Dome", "firstGroup", "()I"⟩, 9) := ⟨⟨by decide +kernel, by decide +kernel⟩, List.mem_of_getElem? (i := 23) (by decide +kernel), List.mem_of_getElem? (i := 398) (by decide +kernel), List.mem_of_getElem? (i := 399) (by decide +kernel)⟩
theorem lw_p13 : lw_okq (⟨"DomeLamps$Dome", "beginWith", "(I)I"⟩, 9) := ⟨⟨by decide +kernel, by decide +kernel⟩, List.mem_of_getElem? (i := 23) (by decide +kernel), List.mem_of_getElem? (i := 431) (by decide +kernel), List.mem_of_getElem? (i := 432) (by decide +kernel)⟩
theorem lw_p14 : lw_okq (⟨"DomeLamps$Dome", "groupsWith", "(I)I"⟩, 9) := ⟨⟨by decide +kernel, by decide +kernel⟩, List.mem_of_getElem? (i := 23) (by decide +kernel), List.mem_of_getElem? (i := 441) (by decide +kernel), List.mem_of_getElem? (i := 442) (by decide +kernel)⟩
theorem lw_p15 : lw_okq (⟨"DomeLamps$Groups", "waitingFor", "(II)I"⟩, 6) := ⟨⟨by decide +kernel, by decide +kernel⟩, List.mem_of_getElem? (i := 60) (by decide +kernel), List.mem_of_getElem? (i := 449) (by decide +kernel), List.mem_of_getElem? (i := 450) (by decide +kernel)⟩
def lw_privs_1 : List (MethodName × Nat) := [(⟨"DomeLamps$Reader", "clear", "()V"⟩, 11), (⟨"DomeLamps$Reader", "takes", "(C)Z"⟩, 11), (⟨"DomeLamps$Reader", "takesLamp", "(C)Z"⟩, 11), (⟨"DomeLamps$Reader", "takesRepeat", "(C)Z"⟩, 11), (⟨"DomeLamps$Reader", "takesFirstDigit", "(C)Z"⟩, 11), (⟨"DomeLamps$Reader", "takesSecondDigit", "(C)Z"⟩, 11), (⟨"DomeLamps$Reader", "takesEndOfPart", "(C)Z"⟩, 11), (⟨"DomeLamps$Reader", "endScene", "()V"⟩, 11), (⟨"DomeLamps$Reader", "endRepeat", "()V"⟩, 11), (⟨"DomeLamps$Reader", "takesStar", "(C)Z"⟩, 11), (⟨"DomeLamps$Reader", "takesOpening", "(C)Z"⟩, 11), (⟨"DomeLamps$Reader", "isBehindPart", "()Z"⟩, 11), (⟨"DomeLamps$Dome", "firstGroup", "()I"⟩, 9), (⟨"DomeLamps$Dome", "beginWith", "(I)I"⟩, 9), (⟨"DomeLamps$Dome", "groupsWith", "(I)I"⟩, 9), (⟨"DomeLamps$Groups", "waitingFor", "(II)I"⟩, 6)]
theorem lw_r1 : ∀ q ∈ lw_privs_1, lw_okq q := List.forall_mem_cons.mpr ⟨lw_p0, List.forall_mem_cons.mpr ⟨lw_p1, List.forall_mem_cons.mpr ⟨lw_p2, List.forall_mem_cons.mpr ⟨lw_p3, List.forall_mem_cons.mpr ⟨lw_p4, List.forall_mem_cons.mpr ⟨lw_p5, List.forall_mem_cons.mpr ⟨lw_p6, List.forall_mem_cons.mpr ⟨lw_p7, List.forall_mem_cons.mpr ⟨lw_p8, List.forall_mem_cons.mpr ⟨lw_p9, List.forall_mem_cons.mpr ⟨lw_p10, List.forall_mem_cons.mpr ⟨lw_p11, List.forall_mem_cons.mpr ⟨lw_p12, List.forall_mem_cons.mpr ⟨lw_p13, List.forall_mem_cons.mpr ⟨lw_p14, List.forall_mem_cons.mpr ⟨lw_p15, fun _ h => absurd h List.not_mem_nil⟩⟩⟩⟩⟩⟩⟩⟩⟩⟩⟩⟩⟩⟩⟩⟩
theorem lw_p16 : lw_okq (⟨"DomeLampsModel", "behind", "(I)I"⟩, 14) := ⟨⟨by decide +kernel, by decide +kernel⟩, List.mem_of_getElem? (i := 585) (by decide +kernel), List.mem_of_getElem? (i := 638) (by decide +kernel), List.mem_of_getElem? (i := 639) (by decide +kernel)⟩
theorem lw_p17 : lw_okq (⟨"DomeLampsModel", "tellAll", "()V"⟩, 14) := ⟨⟨by decide +kernel, by decide +kernel⟩, List.mem_of_getElem? (i := 585) (by decide +kernel), List.mem_of_getElem? (i := 653) (by decide +kernel), List.mem_of_getElem? (i := 654) (by decide +kernel)⟩
theorem lw_p18 : lw_okq (⟨"DomeLampsModel", "scene", "(III)V"⟩, 14) := ⟨⟨by decide +kernel, by decide +kernel⟩, List.mem_of_getElem? (i := 585) (by decide +kernel), List.mem_of_getElem? (i := 657) (by decide +kernel), List.mem_of_getElem? (i := 658) (by decide +kernel)⟩
theorem lw_p19 : lw_okq (⟨"DomeLampsModel", "know", "()V"⟩, 14) := ⟨⟨by decide +kernel, by decide +kernel⟩, List.mem_of_getElem? (i := 585) (by decide +kernel), List.mem_of_getElem? (i := 661) (by decide +kernel), List.mem_of_getElem? (i := 662) (by decide +kernel)⟩
theorem lw_p20 : lw_okq (⟨"DomeLampsModel", "first", "(II)I"⟩, 14) := ⟨⟨by decide +kernel, by decide +kernel⟩, List.mem_of_getElem? (i := 585) (by decide +kernel), List.mem_of_getElem? (i := 672) (by decide +kernel), List.mem_of_getElem? (i := 673) (by decide +kernel)⟩
theorem lw_p21 : lw_okq (⟨"DomeLampsModel", "waits", "(I)Z"⟩, 14) := ⟨⟨by decide +kernel, by decide +kernel⟩, List.mem_of_getElem? (i := 585) (by decide +kernel), List.mem_of_getElem? (i := 676) (by decide +kernel), List.mem_of_getElem? (i := 677) (by decide +kernel)⟩
theorem lw_p22 : lw_okq (⟨"DomeLampsModel", "isAhead", "(II)Z"⟩, 14) := ⟨⟨by decide +kernel, by decide +kernel⟩, List.mem_of_getElem? (i := 585) (by decide +kernel), List.mem_of_getElem? (i := 683) (by decide +kernel), List.mem_of_getElem? (i := 684) (by decide +kernel)⟩
theorem lw_p23 : lw_okq (⟨"DomeLampsModel", "isTold", "(I)Z"⟩, 14) := ⟨⟨by decide +kernel, by decide +kernel⟩, List.mem_of_getElem? (i := 585) (by decide +kernel), List.mem_of_getElem? (i := 687) (by decide +kernel), List.mem_of_getElem? (i := 688) (by decide +kernel)⟩
theorem lw_p24 : lw_okq (⟨"DomeLampsModel", "isTooLong", "(I)Z"⟩, 14) := ⟨⟨by decide +kernel, by decide +kernel⟩, List.mem_of_getElem? (i := 585) (by decide +kernel), List.mem_of_getElem? (i := 691) (by decide +kernel), List.mem_of_getElem? (i := 692) (by decide +kernel)⟩
theorem lw_p25 : lw_okq (⟨"DomeLampsModel", "puts", "(II)I"⟩, 14) := ⟨⟨by decide +kernel, by decide +kernel⟩, List.mem_of_getElem? (i := 585) (by decide +kernel), List.mem_of_getElem? (i := 702) (by decide +kernel), List.mem_of_getElem? (i := 703) (by decide +kernel)⟩
theorem lw_p26 : lw_okq (⟨"DomeLampsModel", "begins", "(I)I"⟩, 14) := ⟨⟨by decide +kernel, by decide +kernel⟩, List.mem_of_getElem? (i := 585) (by decide +kernel), List.mem_of_getElem? (i := 726) (by decide +kernel), List.mem_of_getElem? (i := 727) (by decide +kernel)⟩
theorem lw_p27 : lw_okq (⟨"DomeLampsModel", "runs", "()I"⟩, 14) := ⟨⟨by decide +kernel, by decide +kernel⟩, List.mem_of_getElem? (i := 585) (by decide +kernel), List.mem_of_getElem? (i := 731) (by decide +kernel), List.mem_of_getElem? (i := 732) (by decide +kernel)⟩
theorem lw_p28 : lw_okq (⟨"DomeLampsModel", "groupsOf", "(I)I"⟩, 14) := ⟨⟨by decide +kernel, by decide +kernel⟩, List.mem_of_getElem? (i := 585) (by decide +kernel), List.mem_of_getElem? (i := 735) (by decide +kernel), List.mem_of_getElem? (i := 736) (by decide +kernel)⟩
theorem lw_p29 : lw_okq (⟨"DomeLampsModel", "isFoggy", "(I)Z"⟩, 14) := ⟨⟨by decide +kernel, by decide +kernel⟩, List.mem_of_getElem? (i := 585) (by decide +kernel), List.mem_of_getElem? (i := 739) (by decide +kernel), List.mem_of_getElem? (i := 740) (by decide +kernel)⟩
theorem lw_p30 : lw_okq (⟨"DomeLampsModel", "burns", "(I)V"⟩, 14) := ⟨⟨by decide +kernel, by decide +kernel⟩, List.mem_of_getElem? (i := 585) (by decide +kernel), List.mem_of_getElem? (i := 743) (by decide +kernel), List.mem_of_getElem? (i := 744) (by decide +kernel)⟩
theorem lw_p31 : lw_okq (⟨"DomeLampsModel", "litIn", "(II)I"⟩, 14) := ⟨⟨by decide +kernel, by decide +kernel⟩, List.mem_of_getElem? (i := 585) (by decide +kernel), List.mem_of_getElem? (i := 759) (by decide +kernel), List.mem_of_getElem? (i := 760) (by decide +kernel)⟩
def lw_privs_2 : List (MethodName × Nat) := [(⟨"DomeLampsModel", "behind", "(I)I"⟩, 14), (⟨"DomeLampsModel", "tellAll", "()V"⟩, 14), (⟨"DomeLampsModel", "scene", "(III)V"⟩, 14), (⟨"DomeLampsModel", "know", "()V"⟩, 14), (⟨"DomeLampsModel", "first", "(II)I"⟩, 14), (⟨"DomeLampsModel", "waits", "(I)Z"⟩, 14), (⟨"DomeLampsModel", "isAhead", "(II)Z"⟩, 14), (⟨"DomeLampsModel", "isTold", "(I)Z"⟩, 14), (⟨"DomeLampsModel", "isTooLong", "(I)Z"⟩, 14), (⟨"DomeLampsModel", "puts", "(II)I"⟩, 14), (⟨"DomeLampsModel", "begins", "(I)I"⟩, 14), (⟨"DomeLampsModel", "runs", "()I"⟩, 14), (⟨"DomeLampsModel", "groupsOf", "(I)I"⟩, 14), (⟨"DomeLampsModel", "isFoggy", "(I)Z"⟩, 14), (⟨"DomeLampsModel", "burns", "(I)V"⟩, 14), (⟨"DomeLampsModel", "litIn", "(II)I"⟩, 14)]
theorem lw_r2 : ∀ q ∈ lw_privs_2, lw_okq q := List.forall_mem_cons.mpr ⟨lw_p16, List.forall_mem_cons.mpr ⟨lw_p17, List.forall_mem_cons.mpr ⟨lw_p18, List.forall_mem_cons.mpr ⟨lw_p19, List.forall_mem_cons.mpr ⟨lw_p20, List.forall_mem_cons.mpr ⟨lw_p21, List.forall_mem_cons.mpr ⟨lw_p22, List.forall_mem_cons.mpr ⟨lw_p23, List.forall_mem_cons.mpr ⟨lw_p24, List.forall_mem_cons.mpr ⟨lw_p25, List.forall_mem_cons.mpr ⟨lw_p26, List.forall_mem_cons.mpr ⟨lw_p27, List.forall_mem_cons.mpr ⟨lw_p28, List.forall_mem_cons.mpr ⟨lw_p29, List.forall_mem_cons.mpr ⟨lw_p30, List.forall_mem_cons.mpr ⟨lw_p31, fun _ h => absurd h List.not_mem_nil⟩⟩⟩⟩⟩⟩⟩⟩⟩⟩⟩⟩⟩⟩⟩⟩
theorem lw_p32 : lw_okq (⟨"DomeLampsModel", "minutesLeft", "(I)I"⟩, 14) := ⟨⟨by decide +kernel, by decide +kernel⟩, List.mem_of_getElem? (i := 585) (by decide +kernel), List.mem_of_getElem? (i := 767) (by decide +kernel), List.mem_of_getElem? (i := 768) (by decide +kernel)⟩
theorem lw_p33 : lw_okq (⟨"DomeLampsModel", "isGroup", "(I)Z"⟩, 14) := ⟨⟨by decide +kernel, by decide +kernel⟩, List.mem_of_getElem? (i := 585) (by decide +kernel), List.mem_of_getElem? (i := 775) (by decide +kernel), List.mem_of_getElem? (i := 776) (by decide +kernel)⟩
theorem lw_p34 : lw_okq (⟨"DomeLampsModel", "waiting", "(Z)I"⟩, 14) := ⟨⟨by decide +kernel, by decide +kernel⟩, List.mem_of_getElem? (i := 585) (by decide +kernel), List.mem_of_getElem? (i := 783) (by decide +kernel), List.mem_of_getElem? (i := 784) (by decide +kernel)⟩
theorem lw_p35 : lw_okq (⟨"DomeLampsModel", "toldShows", "()I"⟩, 14) := ⟨⟨by decide +kernel, by decide +kernel⟩, List.mem_of_getElem? (i := 585) (by decide +kernel), List.mem_of_getElem? (i := 787) (by decide +kernel), List.mem_of_getElem? (i := 788) (by decide +kernel)⟩
theorem lw_p36 : lw_okq (⟨"DomeLampsModel", "putAside", "()V"⟩, 14) := ⟨⟨by decide +kernel, by decide +kernel⟩, List.mem_of_getElem? (i := 585) (by decide +kernel), List.mem_of_getElem? (i := 807) (by decide +kernel), List.mem_of_getElem? (i := 808) (by decide +kernel)⟩
theorem lw_p37 : lw_okq (⟨"DomeLampsModel", "putBack", "()V"⟩, 14) := ⟨⟨by decide +kernel, by decide +kernel⟩, List.mem_of_getElem? (i := 585) (by decide +kernel), List.mem_of_getElem? (i := 811) (by decide +kernel), List.mem_of_getElem? (i := 812) (by decide +kernel)⟩
def lw_privs_3 : List (MethodName × Nat) := [(⟨"DomeLampsModel", "minutesLeft", "(I)I"⟩, 14), (⟨"DomeLampsModel", "isGroup", "(I)Z"⟩, 14), (⟨"DomeLampsModel", "waiting", "(Z)I"⟩, 14), (⟨"DomeLampsModel", "toldShows", "()I"⟩, 14), (⟨"DomeLampsModel", "putAside", "()V"⟩, 14), (⟨"DomeLampsModel", "putBack", "()V"⟩, 14)]
theorem lw_r3 : ∀ q ∈ lw_privs_3, lw_okq q := List.forall_mem_cons.mpr ⟨lw_p32, List.forall_mem_cons.mpr ⟨lw_p33, List.forall_mem_cons.mpr ⟨lw_p34, List.forall_mem_cons.mpr ⟨lw_p35, List.forall_mem_cons.mpr ⟨lw_p36, List.forall_mem_cons.mpr ⟨lw_p37, fun _ h => absurd h List.not_mem_nil⟩⟩⟩⟩⟩⟩
def lw_privs : List (MethodName × Nat) := lw_privs_1 ++ (lw_privs_2 ++ (lw_privs_3))
def lw_tbl : List Cond := k2_sels lw_privs ++ tables_1
theorem lw_privs_ok : ∀ q ∈ lw_privs, lw_okq q := by
  show ∀ q ∈ lw_privs_1 ++ (lw_privs_2 ++ (lw_privs_3)), lw_okq q
  exact List.forall_mem_append.mpr ⟨lw_r1, List.forall_mem_append.mpr ⟨lw_r2, lw_r3⟩⟩

-- ===== names (printed by the kit) =====
def RX0 : String := "DomeLamps$Dome"
def TX0 : u_T := fun k => match k with
  | 0 => ("DomeLamps$Dome", "settings", "[I", true)
  | 1 => ("DomeLamps$Dome", "shows", "[LDomeLamps$Show;", true)
  | 2 => ("DomeLamps$Dome", "runsOf", "[I", true)
  | 3 => ("DomeLamps$Dome", "lamps", "LDomeLamps$Lamps;", true)
  | 4 => ("DomeLamps$Dome", "groups", "LDomeLamps$Groups;", true)
  | 5 => ("DomeLamps$Dome", "now", "I", false)
  | 6 => ("DomeLamps$Dome", "coins", "I", false)
  | 7 => ("DomeLamps$Dome", "runs", "I", false)
  | _ => ("DomeLamps$Dome", "foggyRuns", "I", false)
def tyX0 : Nat → FieldType := fun k => match k with
  | 0 => .array .int
  | 1 => .array (.object "DomeLamps$Show")
  | 2 => .array .int
  | 3 => .object "DomeLamps$Lamps"
  | 4 => .object "DomeLamps$Groups"
  | 5 => .int
  | 6 => .int
  | 7 => .int
  | _ => .int
abbrev wsX00 : List Cond := u_ws RX0 TX0 9
theorem nmX0 : ∀ a, a < 9 → ∀ b, b < 9 → a ≠ b → (TX0 a).2.1 ≠ (TX0 b).2.1 := by decide +kernel
theorem tyX0_ok : ∀ k, k < 9 → parseFieldDescriptor (TX0 k).2.2.1 = some (tyX0 k) := by decide +kernel
abbrev cX0_init : ByteArray := prog_2_method_1_code
def yX0_init : MethodName := ⟨RX0, "<init>", "()V"⟩
abbrev cX0_copyFrom : ByteArray := prog_2_method_2_code
def yX0_copyFrom : MethodName := ⟨RX0, "copyFrom", "(LDomeLamps$Dome;)V"⟩
abbrev cX0_toldShows : ByteArray := prog_2_method_3_code
def yX0_toldShows : MethodName := ⟨RX0, "toldShows", "()I"⟩
abbrev cX0_reason : ByteArray := prog_2_method_4_code
def yX0_reason : MethodName := ⟨RX0, "reason", "()I"⟩
abbrev cX0_ofNextRun : ByteArray := prog_2_method_5_code
def yX0_ofNextRun : MethodName := ⟨RX0, "ofNextRun", "(I)I"⟩
abbrev cX0_nextEnd : ByteArray := prog_2_method_6_code
def yX0_nextEnd : MethodName := ⟨RX0, "nextEnd", "()I"⟩
abbrev cX0_runNext : ByteArray := prog_2_method_7_code
def yX0_runNext : MethodName := ⟨RX0, "runNext", "()I"⟩
abbrev cX0_firstGroup : ByteArray := prog_2_method_8_code
def yX0_firstGroup : MethodName := ⟨RX0, "firstGroup", "()I"⟩
abbrev cX0_beginWith : ByteArray := prog_2_method_9_code
def yX0_beginWith : MethodName := ⟨RX0, "beginWith", "(I)I"⟩
abbrev cX0_groupsWith : ByteArray := prog_2_method_10_code
def yX0_groupsWith : MethodName := ⟨RX0, "groupsWith", "(I)I"⟩
def RX1 : String := "DomeLamps$Groups"
def TX1 : u_T := fun k => match k with
  | 0 => ("DomeLamps$Groups", "persons", "[I", true)
  | 1 => ("DomeLamps$Groups", "shows", "[I", true)
  | 2 => ("DomeLamps$Groups", "times", "[I", true)
  | 3 => ("DomeLamps$Groups", "seen", "[I", true)
  | 4 => ("DomeLamps$Groups", "runs", "[I", true)
  | _ => ("DomeLamps$Groups", "size", "I", false)
def tyX1 : Nat → FieldType := fun k => match k with
  | 0 => .array .int
  | 1 => .array .int
  | 2 => .array .int
  | 3 => .array .int
  | 4 => .array .int
  | _ => .int
abbrev wsX10 : List Cond := u_ws RX1 TX1 6
theorem nmX1 : ∀ a, a < 6 → ∀ b, b < 6 → a ≠ b → (TX1 a).2.1 ≠ (TX1 b).2.1 := by decide +kernel
theorem tyX1_ok : ∀ k, k < 6 → parseFieldDescriptor (TX1 k).2.2.1 = some (tyX1 k) := by decide +kernel
abbrev cX1_init : ByteArray := prog_3_method_1_code
def yX1_init : MethodName := ⟨RX1, "<init>", "()V"⟩
abbrev cX1_copyFrom : ByteArray := prog_3_method_2_code
def yX1_copyFrom : MethodName := ⟨RX1, "copyFrom", "(LDomeLamps$Groups;)V"⟩
abbrev cX1_add : ByteArray := prog_3_method_3_code
def yX1_add : MethodName := ⟨RX1, "add", "(III)I"⟩
abbrev cX1_waiting : ByteArray := prog_3_method_4_code
def yX1_waiting : MethodName := ⟨RX1, "waiting", "()I"⟩
abbrev cX1_earliest : ByteArray := prog_3_method_5_code
def yX1_earliest : MethodName := ⟨RX1, "earliest", "(I)I"⟩
abbrev cX1_seated : ByteArray := prog_3_method_6_code
def yX1_seated : MethodName := ⟨RX1, "seated", "(III)I"⟩
abbrev cX1_personsIn : ByteArray := prog_3_method_7_code
def yX1_personsIn : MethodName := ⟨RX1, "personsIn", "(I)I"⟩
abbrev cX1_newPersonsIn : ByteArray := prog_3_method_8_code
def yX1_newPersonsIn : MethodName := ⟨RX1, "newPersonsIn", "(I)I"⟩
abbrev cX1_countRun : ByteArray := prog_3_method_9_code
def yX1_countRun : MethodName := ⟨RX1, "countRun", "(I)V"⟩
abbrev cX1_goHome : ByteArray := prog_3_method_10_code
def yX1_goHome : MethodName := ⟨RX1, "goHome", "(I)V"⟩
abbrev cX1_waitFrom : ByteArray := prog_3_method_11_code
def yX1_waitFrom : MethodName := ⟨RX1, "waitFrom", "(II)V"⟩
abbrev cX1_waitingFor : ByteArray := prog_3_method_12_code
def yX1_waitingFor : MethodName := ⟨RX1, "waitingFor", "(II)I"⟩
abbrev cX1_holds : ByteArray := prog_3_method_13_code
def yX1_holds : MethodName := ⟨RX1, "holds", "(II)Z"⟩
def RX2 : String := "DomeLamps$History"
def TX2 : u_T := fun k => match k with
  | 0 => ("DomeLamps$History", "states", "[LDomeLamps$Dome;", true)
  | 1 => ("DomeLamps$History", "oldest", "I", false)
  | _ => ("DomeLamps$History", "size", "I", false)
def tyX2 : Nat → FieldType := fun k => match k with
  | 0 => .array (.object "DomeLamps$Dome")
  | 1 => .int
  | _ => .int
abbrev wsX20 : List Cond := u_ws RX2 TX2 3
theorem nmX2 : ∀ a, a < 3 → ∀ b, b < 3 → a ≠ b → (TX2 a).2.1 ≠ (TX2 b).2.1 := by decide +kernel
theorem tyX2_ok : ∀ k, k < 3 → parseFieldDescriptor (TX2 k).2.2.1 = some (tyX2 k) := by decide +kernel
abbrev cX2_init : ByteArray := prog_4_method_1_code
def yX2_init : MethodName := ⟨RX2, "<init>", "()V"⟩
abbrev cX2_record : ByteArray := prog_4_method_2_code
def yX2_record : MethodName := ⟨RX2, "record", "(LDomeLamps$Dome;)V"⟩
abbrev cX2_takeBack : ByteArray := prog_4_method_3_code
def yX2_takeBack : MethodName := ⟨RX2, "takeBack", "(LDomeLamps$Dome;)V"⟩
def RX3 : String := "DomeLamps$Lamps"
def TX3 : u_T := fun k => match k with
  | 0 => ("DomeLamps$Lamps", "burned", "[I", true)
  | 1 => ("DomeLamps$Lamps", "fog", "[I", true)
  | _ => ("DomeLamps$Lamps", "changes", "[I", true)
def tyX3 : Nat → FieldType := fun k => match k with
  | 0 => .array .int
  | 1 => .array .int
  | _ => .array .int
abbrev wsX30 : List Cond := u_ws RX3 TX3 3
theorem nmX3 : ∀ a, a < 3 → ∀ b, b < 3 → a ≠ b → (TX3 a).2.1 ≠ (TX3 b).2.1 := by decide +kernel
theorem tyX3_ok : ∀ k, k < 3 → parseFieldDescriptor (TX3 k).2.2.1 = some (tyX3 k) := by decide +kernel
abbrev cX3_init : ByteArray := prog_5_method_1_code
def yX3_init : MethodName := ⟨RX3, "<init>", "()V"⟩
abbrev cX3_copyFrom : ByteArray := prog_5_method_2_code
def yX3_copyFrom : MethodName := ⟨RX3, "copyFrom", "(LDomeLamps$Lamps;)V"⟩
abbrev cX3_minutesLeft : ByteArray := prog_5_method_3_code
def yX3_minutesLeft : MethodName := ⟨RX3, "minutesLeft", "(II)I"⟩
abbrev cX3_firstToEnd : ByteArray := prog_5_method_4_code
def yX3_firstToEnd : MethodName := ⟨RX3, "firstToEnd", "(I)I"⟩
abbrev cX3_runsUntilEnd : ByteArray := prog_5_method_5_code
def yX3_runsUntilEnd : MethodName := ⟨RX3, "runsUntilEnd", "(LDomeLamps$Show;I)I"⟩
abbrev cX3_isFoggy : ByteArray := prog_5_method_6_code
def yX3_isFoggy : MethodName := ⟨RX3, "isFoggy", "(LDomeLamps$Show;I)Z"⟩
abbrev cX3_burn : ByteArray := prog_5_method_7_code
def yX3_burn : MethodName := ⟨RX3, "burn", "(LDomeLamps$Show;I)V"⟩
def RX4 : String := "DomeLamps$Pad"
def TX4 : u_T := fun k => match k with
  | 0 => ("DomeLamps$Pad", "characters", "[C", true)
  | _ => ("DomeLamps$Pad", "length", "I", false)
def tyX4 : Nat → FieldType := fun k => match k with
  | 0 => .array .char
  | _ => .int
abbrev wsX40 : List Cond := u_ws RX4 TX4 2
theorem nmX4 : ∀ a, a < 2 → ∀ b, b < 2 → a ≠ b → (TX4 a).2.1 ≠ (TX4 b).2.1 := by decide +kernel
theorem tyX4_ok : ∀ k, k < 2 → parseFieldDescriptor (TX4 k).2.2.1 = some (tyX4 k) := by decide +kernel
abbrev cX4_init : ByteArray := prog_6_method_1_code
def yX4_init : MethodName := ⟨RX4, "<init>", "()V"⟩
abbrev cX4_append : ByteArray := prog_6_method_2_code
def yX4_append : MethodName := ⟨RX4, "append", "(JI)V"⟩
def RX5 : String := "DomeLamps$Reader"
def TX5 : u_T := fun k => match k with
  | 0 => ("DomeLamps$Reader", "lampsByMinute", "[B", true)
  | 1 => ("DomeLamps$Reader", "repeats", "[I", true)
  | 2 => ("DomeLamps$Reader", "minutesBefore", "[I", true)
  | 3 => ("DomeLamps$Reader", "scenesBefore", "[I", true)
  | 4 => ("DomeLamps$Reader", "last", "I", false)
  | 5 => ("DomeLamps$Reader", "depth", "I", false)
  | 6 => ("DomeLamps$Reader", "deepest", "I", false)
  | 7 => ("DomeLamps$Reader", "lamps", "I", false)
  | 8 => ("DomeLamps$Reader", "number", "I", false)
  | 9 => ("DomeLamps$Reader", "scenes", "I", false)
  | _ => ("DomeLamps$Reader", "minutes", "I", false)
def tyX5 : Nat → FieldType := fun k => match k with
  | 0 => .array .byte
  | 1 => .array .int
  | 2 => .array .int
  | 3 => .array .int
  | 4 => .int
  | 5 => .int
  | 6 => .int
  | 7 => .int
  | 8 => .int
  | 9 => .int
  | _ => .int
abbrev wsX50 : List Cond := u_ws RX5 TX5 11
theorem nmX5 : ∀ a, a < 11 → ∀ b, b < 11 → a ≠ b → (TX5 a).2.1 ≠ (TX5 b).2.1 := by decide +kernel
theorem tyX5_ok : ∀ k, k < 11 → parseFieldDescriptor (TX5 k).2.2.1 = some (tyX5 k) := by decide +kernel
abbrev cX5_init : ByteArray := prog_7_method_1_code
def yX5_init : MethodName := ⟨RX5, "<init>", "()V"⟩
abbrev cX5_read : ByteArray := prog_7_method_2_code
def yX5_read : MethodName := ⟨RX5, "read", "(LDomeLamps$Pad;)I"⟩
abbrev cX5_laidOut : ByteArray := prog_7_method_3_code
def yX5_laidOut : MethodName := ⟨RX5, "laidOut", "()LDomeLamps$Show;"⟩
abbrev cX5_clear : ByteArray := prog_7_method_4_code
def yX5_clear : MethodName := ⟨RX5, "clear", "()V"⟩
abbrev cX5_isBehindPart : ByteArray := prog_7_method_5_code
def yX5_isBehindPart : MethodName := ⟨RX5, "isBehindPart", "()Z"⟩
abbrev cX5_takes : ByteArray := prog_7_method_6_code
def yX5_takes : MethodName := ⟨RX5, "takes", "(C)Z"⟩
abbrev cX5_takesLamp : ByteArray := prog_7_method_7_code
def yX5_takesLamp : MethodName := ⟨RX5, "takesLamp", "(C)Z"⟩
abbrev cX5_takesRepeat : ByteArray := prog_7_method_8_code
def yX5_takesRepeat : MethodName := ⟨RX5, "takesRepeat", "(C)Z"⟩
abbrev cX5_takesStar : ByteArray := prog_7_method_9_code
def yX5_takesStar : MethodName := ⟨RX5, "takesStar", "(C)Z"⟩
abbrev cX5_takesOpening : ByteArray := prog_7_method_10_code
def yX5_takesOpening : MethodName := ⟨RX5, "takesOpening", "(C)Z"⟩
abbrev cX5_takesFirstDigit : ByteArray := prog_7_method_11_code
def yX5_takesFirstDigit : MethodName := ⟨RX5, "takesFirstDigit", "(C)Z"⟩
abbrev cX5_takesSecondDigit : ByteArray := prog_7_method_12_code
def yX5_takesSecondDigit : MethodName := ⟨RX5, "takesSecondDigit", "(C)Z"⟩
abbrev cX5_takesEndOfPart : ByteArray := prog_7_method_13_code
def yX5_takesEndOfPart : MethodName := ⟨RX5, "takesEndOfPart", "(C)Z"⟩
abbrev cX5_endScene : ByteArray := prog_7_method_14_code
def yX5_endScene : MethodName := ⟨RX5, "endScene", "()V"⟩
abbrev cX5_endRepeat : ByteArray := prog_7_method_15_code
def yX5_endRepeat : MethodName := ⟨RX5, "endRepeat", "()V"⟩
def RX6 : String := "DomeLamps$Show"
def TX6 : u_T := fun k => match k with
  | 0 => ("DomeLamps$Show", "lampsByMinute", "[B", true)
  | 1 => ("DomeLamps$Show", "minutesOf", "[I", true)
  | 2 => ("DomeLamps$Show", "minutes", "I", true)
  | 3 => ("DomeLamps$Show", "scenes", "I", true)
  | 4 => ("DomeLamps$Show", "depth", "I", true)
  | _ => ("DomeLamps$Show", "lamps", "I", true)
def tyX6 : Nat → FieldType := fun k => match k with
  | 0 => .array .byte
  | 1 => .array .int
  | 2 => .int
  | 3 => .int
  | 4 => .int
  | _ => .int
abbrev wsX60 : List Cond := u_ws RX6 TX6 6
theorem nmX6 : ∀ a, a < 6 → ∀ b, b < 6 → a ≠ b → (TX6 a).2.1 ≠ (TX6 b).2.1 := by decide +kernel
theorem tyX6_ok : ∀ k, k < 6 → parseFieldDescriptor (TX6 k).2.2.1 = some (tyX6 k) := by decide +kernel
abbrev cX6_init : ByteArray := prog_8_method_1_code
def yX6_init : MethodName := ⟨RX6, "<init>", "([BII)V"⟩
abbrev cX6_lights : ByteArray := prog_8_method_2_code
def yX6_lights : MethodName := ⟨RX6, "lights", "(I)Z"⟩
def RX7 : String := "DomeLamps"
def TX7 : u_T := fun k => match k with
  | 0 => ("DomeLamps", "dome", "LDomeLamps$Dome;", true)
  | 1 => ("DomeLamps", "trial", "LDomeLamps$Dome;", true)
  | 2 => ("DomeLamps", "pad", "LDomeLamps$Pad;", true)
  | 3 => ("DomeLamps", "reader", "LDomeLamps$Reader;", true)
  | 4 => ("DomeLamps", "history", "LDomeLamps$History;", true)
  | 5 => ("DomeLamps", "slots", "[LDomeLamps$Dome;", true)
  | _ => ("DomeLamps", "saved", "[Z", true)
def tyX7 : Nat → FieldType := fun k => match k with
  | 0 => .object "DomeLamps$Dome"
  | 1 => .object "DomeLamps$Dome"
  | 2 => .object "DomeLamps$Pad"
  | 3 => .object "DomeLamps$Reader"
  | 4 => .object "DomeLamps$History"
  | 5 => .array (.object "DomeLamps$Dome")
  | _ => .array .boolean
abbrev wsX70 : List Cond := u_ws RX7 TX7 7
theorem nmX7 : ∀ a, a < 7 → ∀ b, b < 7 → a ≠ b → (TX7 a).2.1 ≠ (TX7 b).2.1 := by decide +kernel
theorem tyX7_ok : ∀ k, k < 7 → parseFieldDescriptor (TX7 k).2.2.1 = some (tyX7 k) := by decide +kernel
abbrev cX7_init : ByteArray := prog_1_method_1_code
def yX7_init : MethodName := ⟨RX7, "<init>", "()V"⟩
abbrev cX7_set : ByteArray := prog_1_method_2_code
def yX7_set : MethodName := ⟨RX7, "set", "(II)I"⟩
abbrev cX7_tell : ByteArray := prog_1_method_3_code
def yX7_tell : MethodName := ⟨RX7, "tell", "(I)I"⟩
abbrev cX7_group : ByteArray := prog_1_method_4_code
def yX7_group : MethodName := ⟨RX7, "group", "(III)I"⟩
abbrev cX7_lamp : ByteArray := prog_1_method_5_code
def yX7_lamp : MethodName := ⟨RX7, "lamp", "(I)I"⟩
abbrev cX7_lens : ByteArray := prog_1_method_6_code
def yX7_lens : MethodName := ⟨RX7, "lens", "(I)I"⟩
abbrev cX7_run : ByteArray := prog_1_method_7_code
def yX7_run : MethodName := ⟨RX7, "run", "()I"⟩
abbrev cX7_ofShow : ByteArray := prog_1_method_8_code
def yX7_ofShow : MethodName := ⟨RX7, "ofShow", "(II)I"⟩
abbrev cX7_lit : ByteArray := prog_1_method_9_code
def yX7_lit : MethodName := ⟨RX7, "lit", "(II)I"⟩
abbrev cX7_at : ByteArray := prog_1_method_10_code
def yX7_at : MethodName := ⟨RX7, "at", "(II)I"⟩
abbrev cX7_ofLamp : ByteArray := prog_1_method_11_code
def yX7_ofLamp : MethodName := ⟨RX7, "ofLamp", "(II)I"⟩
abbrev cX7_ofGroup : ByteArray := prog_1_method_12_code
def yX7_ofGroup : MethodName := ⟨RX7, "ofGroup", "(II)I"⟩
abbrev cX7_count : ByteArray := prog_1_method_13_code
def yX7_count : MethodName := ⟨RX7, "count", "(I)I"⟩
abbrev cX7_why : ByteArray := prog_1_method_14_code
def yX7_why : MethodName := ⟨RX7, "why", "()I"⟩
abbrev cX7_next : ByteArray := prog_1_method_15_code
def yX7_next : MethodName := ⟨RX7, "next", "(I)I"⟩
abbrev cX7_oftenOf : ByteArray := prog_1_method_16_code
def yX7_oftenOf : MethodName := ⟨RX7, "oftenOf", "(I)I"⟩
abbrev cX7_endsFirst : ByteArray := prog_1_method_17_code
def yX7_endsFirst : MethodName := ⟨RX7, "endsFirst", "()I"⟩
abbrev cX7_runsLeft : ByteArray := prog_1_method_18_code
def yX7_runsLeft : MethodName := ⟨RX7, "runsLeft", "()I"⟩
abbrev cX7_put : ByteArray := prog_1_method_19_code
def yX7_put : MethodName := ⟨RX7, "put", "(J)I"⟩
abbrev cX7_wipe : ByteArray := prog_1_method_20_code
def yX7_wipe : MethodName := ⟨RX7, "wipe", "()I"⟩
abbrev cX7_fault : ByteArray := prog_1_method_21_code
def yX7_fault : MethodName := ⟨RX7, "fault", "()I"⟩
abbrev cX7_undo : ByteArray := prog_1_method_22_code
def yX7_undo : MethodName := ⟨RX7, "undo", "()I"⟩
abbrev cX7_save : ByteArray := prog_1_method_23_code
def yX7_save : MethodName := ⟨RX7, "save", "(I)I"⟩
abbrev cX7_restore : ByteArray := prog_1_method_24_code
def yX7_restore : MethodName := ⟨RX7, "restore", "(I)I"⟩
abbrev cX7_isOneOf : ByteArray := prog_1_method_25_code
def yX7_isOneOf : MethodName := ⟨RX7, "isOneOf", "(II)Z"⟩
abbrev cX7_lengthOf : ByteArray := prog_1_method_26_code
def yX7_lengthOf : MethodName := ⟨RX7, "lengthOf", "(J)I"⟩
def RX8 : String := "DomeLampsModel"
def TX8 : u_T := fun k => match k with
  | 0 => ("DomeLampsModel", "s", "[I", true)
  | 1 => ("DomeLampsModel", "aside", "[I", true)
  | 2 => ("DomeLampsModel", "before", "[I", true)
  | 3 => ("DomeLampsModel", "known", "I", false)
  | 4 => ("DomeLampsModel", "slots", "[I", true)
  | 5 => ("DomeLampsModel", "isSaved", "[Z", true)
  | 6 => ("DomeLampsModel", "pad", "[I", true)
  | 7 => ("DomeLampsModel", "length", "I", false)
  | 8 => ("DomeLampsModel", "wanted", "I", false)
  | 9 => ("DomeLampsModel", "depth", "I", false)
  | 10 => ("DomeLampsModel", "told", "[I", true)
  | 11 => ("DomeLampsModel", "times", "[I", true)
  | 12 => ("DomeLampsModel", "from", "[I", true)
  | _ => ("DomeLampsModel", "left", "[I", true)
def tyX8 : Nat → FieldType := fun k => match k with
  | 0 => .array .int
  | 1 => .array .int
  | 2 => .array .int
  | 3 => .int
  | 4 => .array .int
  | 5 => .array .boolean
  | 6 => .array .int
  | 7 => .int
  | 8 => .int
  | 9 => .int
  | 10 => .array .int
  | 11 => .array .int
  | 12 => .array .int
  | _ => .array .int
abbrev wsX80 : List Cond := u_ws RX8 TX8 14
theorem nmX8 : ∀ a, a < 14 → ∀ b, b < 14 → a ≠ b → (TX8 a).2.1 ≠ (TX8 b).2.1 := by decide +kernel
theorem tyX8_ok : ∀ k, k < 14 → parseFieldDescriptor (TX8 k).2.2.1 = some (tyX8 k) := by decide +kernel
abbrev cX8_init : ByteArray := prog_10_method_1_code
def yX8_init : MethodName := ⟨RX8, "<init>", "()V"⟩
abbrev cX8_in : ByteArray := prog_10_method_3_code
def yX8_in : MethodName := ⟨RX8, "in", "(III)Z"⟩
abbrev cX8_ofLampAt : ByteArray := prog_10_method_4_code
def yX8_ofLampAt : MethodName := ⟨RX8, "ofLampAt", "(II)I"⟩
abbrev cX8_ofGroupAt : ByteArray := prog_10_method_5_code
def yX8_ofGroupAt : MethodName := ⟨RX8, "ofGroupAt", "(II)I"⟩
abbrev cX8_ofShowAt : ByteArray := prog_10_method_6_code
def yX8_ofShowAt : MethodName := ⟨RX8, "ofShowAt", "(II)I"⟩
abbrev cX8_isShow : ByteArray := prog_10_method_7_code
def yX8_isShow : MethodName := ⟨RX8, "isShow", "(I)Z"⟩
abbrev cX8_isLamp : ByteArray := prog_10_method_8_code
def yX8_isLamp : MethodName := ⟨RX8, "isLamp", "(I)Z"⟩
abbrev cX8_isGroup : ByteArray := prog_10_method_9_code
def yX8_isGroup : MethodName := ⟨RX8, "isGroup", "(I)Z"⟩
abbrev cX8_isTold : ByteArray := prog_10_method_10_code
def yX8_isTold : MethodName := ⟨RX8, "isTold", "(I)Z"⟩
abbrev cX8_know : ByteArray := prog_10_method_11_code
def yX8_know : MethodName := ⟨RX8, "know", "()V"⟩
abbrev cX8_putAside : ByteArray := prog_10_method_12_code
def yX8_putAside : MethodName := ⟨RX8, "putAside", "()V"⟩
abbrev cX8_putBack : ByteArray := prog_10_method_13_code
def yX8_putBack : MethodName := ⟨RX8, "putBack", "()V"⟩
abbrev cX8_puts : ByteArray := prog_10_method_14_code
def yX8_puts : MethodName := ⟨RX8, "puts", "(II)I"⟩
abbrev cX8_behind : ByteArray := prog_10_method_15_code
def yX8_behind : MethodName := ⟨RX8, "behind", "(I)I"⟩
abbrev cX8_fault : ByteArray := prog_10_method_16_code
def yX8_fault : MethodName := ⟨RX8, "fault", "()I"⟩
abbrev cX8_scene : ByteArray := prog_10_method_17_code
def yX8_scene : MethodName := ⟨RX8, "scene", "(III)V"⟩
abbrev cX8_tellAll : ByteArray := prog_10_method_18_code
def yX8_tellAll : MethodName := ⟨RX8, "tellAll", "()V"⟩
abbrev cX8_tell : ByteArray := prog_10_method_19_code
def yX8_tell : MethodName := ⟨RX8, "tell", "(I)I"⟩
abbrev cX8_litIn : ByteArray := prog_10_method_20_code
def yX8_litIn : MethodName := ⟨RX8, "litIn", "(II)I"⟩
abbrev cX8_waits : ByteArray := prog_10_method_21_code
def yX8_waits : MethodName := ⟨RX8, "waits", "(I)Z"⟩
abbrev cX8_isAhead : ByteArray := prog_10_method_22_code
def yX8_isAhead : MethodName := ⟨RX8, "isAhead", "(II)Z"⟩
abbrev cX8_first : ByteArray := prog_10_method_23_code
def yX8_first : MethodName := ⟨RX8, "first", "(II)I"⟩
abbrev cX8_begins : ByteArray := prog_10_method_24_code
def yX8_begins : MethodName := ⟨RX8, "begins", "(I)I"⟩
abbrev cX8_isTooLong : ByteArray := prog_10_method_25_code
def yX8_isTooLong : MethodName := ⟨RX8, "isTooLong", "(I)Z"⟩
abbrev cX8_why : ByteArray := prog_10_method_26_code
def yX8_why : MethodName := ⟨RX8, "why", "()I"⟩
abbrev cX8_groupsOf : ByteArray := prog_10_method_27_code
def yX8_groupsOf : MethodName := ⟨RX8, "groupsOf", "(I)I"⟩
abbrev cX8_isFoggy : ByteArray := prog_10_method_28_code
def yX8_isFoggy : MethodName := ⟨RX8, "isFoggy", "(I)Z"⟩
abbrev cX8_burns : ByteArray := prog_10_method_29_code
def yX8_burns : MethodName := ⟨RX8, "burns", "(I)V"⟩
abbrev cX8_runs : ByteArray := prog_10_method_30_code
def yX8_runs : MethodName := ⟨RX8, "runs", "()I"⟩
abbrev cX8_set : ByteArray := prog_10_method_31_code
def yX8_set : MethodName := ⟨RX8, "set", "(II)I"⟩
abbrev cX8_group : ByteArray := prog_10_method_32_code
def yX8_group : MethodName := ⟨RX8, "group", "(III)I"⟩
abbrev cX8_lamp : ByteArray := prog_10_method_33_code
def yX8_lamp : MethodName := ⟨RX8, "lamp", "(I)I"⟩
abbrev cX8_lens : ByteArray := prog_10_method_34_code
def yX8_lens : MethodName := ⟨RX8, "lens", "(I)I"⟩
abbrev cX8_run : ByteArray := prog_10_method_35_code
def yX8_run : MethodName := ⟨RX8, "run", "()I"⟩
abbrev cX8_ofShow : ByteArray := prog_10_method_36_code
def yX8_ofShow : MethodName := ⟨RX8, "ofShow", "(II)I"⟩
abbrev cX8_lit : ByteArray := prog_10_method_37_code
def yX8_lit : MethodName := ⟨RX8, "lit", "(II)I"⟩
abbrev cX8_at : ByteArray := prog_10_method_38_code
def yX8_at : MethodName := ⟨RX8, "at", "(II)I"⟩
abbrev cX8_minutesLeft : ByteArray := prog_10_method_39_code
def yX8_minutesLeft : MethodName := ⟨RX8, "minutesLeft", "(I)I"⟩
abbrev cX8_ofLamp : ByteArray := prog_10_method_40_code
def yX8_ofLamp : MethodName := ⟨RX8, "ofLamp", "(II)I"⟩
abbrev cX8_ofGroup : ByteArray := prog_10_method_41_code
def yX8_ofGroup : MethodName := ⟨RX8, "ofGroup", "(II)I"⟩
abbrev cX8_waiting : ByteArray := prog_10_method_42_code
def yX8_waiting : MethodName := ⟨RX8, "waiting", "(Z)I"⟩
abbrev cX8_toldShows : ByteArray := prog_10_method_43_code
def yX8_toldShows : MethodName := ⟨RX8, "toldShows", "()I"⟩
abbrev cX8_count : ByteArray := prog_10_method_44_code
def yX8_count : MethodName := ⟨RX8, "count", "(I)I"⟩
abbrev cX8_next : ByteArray := prog_10_method_45_code
def yX8_next : MethodName := ⟨RX8, "next", "(I)I"⟩
abbrev cX8_oftenOf : ByteArray := prog_10_method_46_code
def yX8_oftenOf : MethodName := ⟨RX8, "oftenOf", "(I)I"⟩
abbrev cX8_endsFirst : ByteArray := prog_10_method_47_code
def yX8_endsFirst : MethodName := ⟨RX8, "endsFirst", "()I"⟩
abbrev cX8_runsLeft : ByteArray := prog_10_method_48_code
def yX8_runsLeft : MethodName := ⟨RX8, "runsLeft", "()I"⟩
abbrev cX8_put : ByteArray := prog_10_method_49_code
def yX8_put : MethodName := ⟨RX8, "put", "(J)I"⟩
abbrev cX8_wipe : ByteArray := prog_10_method_50_code
def yX8_wipe : MethodName := ⟨RX8, "wipe", "()I"⟩
abbrev cX8_undo : ByteArray := prog_10_method_51_code
def yX8_undo : MethodName := ⟨RX8, "undo", "()I"⟩
abbrev cX8_save : ByteArray := prog_10_method_52_code
def yX8_save : MethodName := ⟨RX8, "save", "(I)I"⟩
abbrev cX8_restore : ByteArray := prog_10_method_53_code
def yX8_restore : MethodName := ⟨RX8, "restore", "(I)I"⟩
def RJx8e188 : String := "java/lang/Cloneable"
def TJx8e188 : u_T := fun k => match k with
  | _ => ("", "", "", false)
def tyJx8e188 : Nat → FieldType := fun k => match k with
  | _ => .int
abbrev wsJx8e1880 : List Cond := u_ws RJx8e188 TJx8e188 0
theorem nmJx8e188 : ∀ a, a < 0 → ∀ b, b < 0 → a ≠ b → (TJx8e188 a).2.1 ≠ (TJx8e188 b).2.1 := by decide +kernel
theorem tyJx8e188_ok : ∀ k, k < 0 → parseFieldDescriptor (TJx8e188 k).2.2.1 = some (tyJx8e188 k) := by decide +kernel
def RJ6 : String := "java/lang/Integer"
def TJ6 : u_T := fun k => match k with
  | _ => ("", "", "", false)
def tyJ6 : Nat → FieldType := fun k => match k with
  | _ => .int
abbrev wsJ60 : List Cond := u_ws RJ6 TJ6 0
theorem nmJ6 : ∀ a, a < 0 → ∀ b, b < 0 → a ≠ b → (TJ6 a).2.1 ≠ (TJ6 b).2.1 := by decide +kernel
theorem tyJ6_ok : ∀ k, k < 0 → parseFieldDescriptor (TJ6 k).2.2.1 = some (tyJ6 k) := by decide +kernel
abbrev cJ6_bitCount_0f7a4 : ByteArray := prog_12_method_49_code
def yJ6_bitCount_0f7a4 : MethodName := ⟨RJ6, "bitCount", "(I)I"⟩
def RJ9 : String := "java/lang/Math"
def TJ9 : u_T := fun k => match k with
  | _ => ("", "", "", false)
def tyJ9 : Nat → FieldType := fun k => match k with
  | _ => .int
abbrev wsJ90 : List Cond := u_ws RJ9 TJ9 0
theorem nmJ9 : ∀ a, a < 0 → ∀ b, b < 0 → a ≠ b → (TJ9 a).2.1 ≠ (TJ9 b).2.1 := by decide +kernel
theorem tyJ9_ok : ∀ k, k < 0 → parseFieldDescriptor (TJ9 k).2.2.1 = some (tyJ9 k) := by decide +kernel
abbrev cJ9_max_7cf53 : ByteArray := prog_13_method_65_code
def yJ9_max_7cf53 : MethodName := ⟨RJ9, "max", "(II)I"⟩
abbrev cJ9_min_7cf53 : ByteArray := prog_13_method_69_code
def yJ9_min_7cf53 : MethodName := ⟨RJ9, "min", "(II)I"⟩
def RJ10 : String := "java/lang/System"
def TJ10 : u_T := fun k => match k with
  | _ => ("", "", "", false)
def tyJ10 : Nat → FieldType := fun k => match k with
  | _ => .int
abbrev wsJ100 : List Cond := u_ws RJ10 TJ10 0
theorem nmJ10 : ∀ a, a < 0 → ∀ b, b < 0 → a ≠ b → (TJ10 a).2.1 ≠ (TJ10 b).2.1 := by decide +kernel
theorem tyJ10_ok : ∀ k, k < 0 → parseFieldDescriptor (TJ10 k).2.2.1 = some (tyJ10 k) := by decide +kernel
def RJ7 : String := "java/util/Arrays"
def TJ7 : u_T := fun k => match k with
  | _ => ("", "", "", false)
def tyJ7 : Nat → FieldType := fun k => match k with
  | _ => .int
abbrev wsJ70 : List Cond := u_ws RJ7 TJ7 0
theorem nmJ7 : ∀ a, a < 0 → ∀ b, b < 0 → a ≠ b → (TJ7 a).2.1 ≠ (TJ7 b).2.1 := by decide +kernel
theorem tyJ7_ok : ∀ k, k < 0 → parseFieldDescriptor (TJ7 k).2.2.1 = some (tyJ7 k) := by decide +kernel
abbrev cJ7_copyOf_9075b : ByteArray := prog_15_method_121_code
def yJ7_copyOf_9075b : MethodName := ⟨RJ7, "copyOf", "([BI)[B"⟩
def RL : String := "DomeLampsLaw"
abbrev cL_law : ByteArray := code
def yL_law : MethodName := ⟨RL, "law", "([I)Z"⟩

-- ===== tables =====
def iCN : List String := [RX0, RX1, RX2, RX3, RX4, RX5, RX6, RX7, RX8, RL, RJ6, RJ9, RJ7]
def CN (c : Nat) : String := iCN.getD c ""
def CT (c : Nat) : u_T := match c with
  | 0 => TX0
  | 1 => TX1
  | 2 => TX2
  | 3 => TX3
  | 4 => TX4
  | 5 => TX5
  | 6 => TX6
  | 7 => TX7
  | _ => TX8
def CF (c : Nat) : Nat → FieldType := match c with
  | 0 => tyX0
  | 1 => tyX1
  | 2 => tyX2
  | 3 => tyX3
  | 4 => tyX4
  | 5 => tyX5
  | 6 => tyX6
  | 7 => tyX7
  | _ => tyX8
def CNF (c : Nat) : Nat := [9, 6, 3, 3, 2, 11, 6, 7, 14].getD c 0
abbrev vwCl : List vw_C := [(RX0, TX0, 9), (RX1, TX1, 6), (RX2, TX2, 3), (RX3, TX3, 3), (RX4, TX4, 2), (RX5, TX5, 11), (RX6, TX6, 6), (RX7, TX7, 7), (RX8, TX8, 14)]
def MT : List (Nat × String × String × Nat × Nat × Nat × Option FieldType) := [
  (0, "<init>", "()V", 1, 2, 40, none),
  (0, "copyFrom", "(LDomeLamps$Dome;)V", 3, 2, 59, none),
  (0, "toldShows", "()I", 3, 0, 0, some .int),
  (0, "reason", "()I", 3, 3, 67, some .int),
  (0, "ofNextRun", "(I)I", 4, 4, 93, some .int),
  (0, "nextEnd", "()I", 3, 3, 64, some .int),
  (0, "runNext", "()I", 6, 4, 93, some .int),
  (0, "firstGroup", "()I", 1, 2, 44, some .int),
  (0, "beginWith", "(I)I", 2, 1, 21, some .int),
  (0, "groupsWith", "(I)I", 2, 3, 72, some .int),
  (1, "<init>", "()V", 1, 1, 20, none),
  (1, "copyFrom", "(LDomeLamps$Groups;)V", 2, 1, 38, none),
  (1, "add", "(III)I", 5, 0, 0, some .int),
  (1, "waiting", "()I", 3, 0, 0, some .int),
  (1, "earliest", "(I)I", 4, 1, 21, some .int),
  (1, "seated", "(III)I", 9, 2, 44, some .int),
  (1, "personsIn", "(I)I", 4, 1, 21, some .int),
  (1, "newPersonsIn", "(I)I", 4, 1, 21, some .int),
  (1, "countRun", "(I)V", 3, 1, 21, none),
  (1, "goHome", "(I)V", 3, 1, 21, none),
  (1, "waitFrom", "(II)V", 4, 1, 21, none),
  (1, "waitingFor", "(II)I", 5, 0, 0, some .int),
  (1, "holds", "(II)Z", 2, 0, 0, some .boolean),
  (2, "<init>", "()V", 2, 3, 60, none),
  (2, "record", "(LDomeLamps$Dome;)V", 2, 3, 81, none),
  (2, "takeBack", "(LDomeLamps$Dome;)V", 2, 3, 81, none),
  (3, "<init>", "()V", 1, 1, 20, none),
  (3, "copyFrom", "(LDomeLamps$Lamps;)V", 2, 1, 38, none),
  (3, "minutesLeft", "(II)I", 3, 1, 21, some .int),
  (3, "firstToEnd", "(I)I", 4, 2, 43, some .int),
  (3, "runsUntilEnd", "(LDomeLamps$Show;I)I", 5, 2, 43, some .int),
  (3, "isFoggy", "(LDomeLamps$Show;I)Z", 4, 1, 21, some .boolean),
  (3, "burn", "(LDomeLamps$Show;I)V", 5, 1, 21, none),
  (4, "<init>", "()V", 1, 1, 20, none),
  (4, "append", "(JI)V", 5, 0, 0, none),
  (5, "<init>", "()V", 1, 1, 20, none),
  (5, "read", "(LDomeLamps$Pad;)I", 3, 3, 66, some .int),
  (5, "laidOut", "()LDomeLamps$Show;", 2, 2, 60, some (.object "DomeLamps$Show")),
  (5, "clear", "()V", 1, 0, 0, none),
  (5, "isBehindPart", "()Z", 1, 0, 0, some .boolean),
  (5, "takes", "(C)Z", 2, 2, 45, some .boolean),
  (5, "takesLamp", "(C)Z", 2, 0, 0, some .boolean),
  (5, "takesRepeat", "(C)Z", 2, 0, 0, some .boolean),
  (5, "takesStar", "(C)Z", 2, 0, 0, some .boolean),
  (5, "takesOpening", "(C)Z", 2, 1, 21, some .boolean),
  (5, "takesFirstDigit", "(C)Z", 2, 0, 0, some .boolean),
  (5, "takesSecondDigit", "(C)Z", 2, 0, 0, some .boolean),
  (5, "takesEndOfPart", "(C)Z", 2, 1, 24, some .boolean),
  (5, "endScene", "()V", 3, 0, 0, none),
  (5, "endRepeat", "()V", 5, 0, 0, none),
  (6, "<init>", "([BII)V", 7, 1, 20, none),
  (6, "lights", "(I)Z", 2, 0, 0, some .boolean),
  (7, "<init>", "()V", 2, 4, 81, none),
  (7, "set", "(II)I", 4, 4, 102, some .int),
  (7, "tell", "(I)I", 2, 4, 102, some .int),
  (7, "group", "(III)I", 4, 4, 102, some .int),
  (7, "lamp", "(I)I", 3, 4, 102, some .int),
  (7, "lens", "(I)I", 3, 4, 102, some .int),
  (7, "run", "()I", 1, 5, 118, some .int),
  (7, "ofShow", "(II)I", 4, 1, 21, some .int),
  (7, "lit", "(II)I", 4, 1, 21, some .int),
  (7, "at", "(II)I", 4, 1, 21, some .int),
  (7, "ofLamp", "(II)I", 3, 2, 43, some .int),
  (7, "ofGroup", "(II)I", 4, 1, 21, some .int),
  (7, "count", "(I)I", 2, 1, 22, some .int),
  (7, "why", "()I", 1, 4, 89, some .int),
  (7, "next", "(I)I", 3, 5, 116, some .int),
  (7, "oftenOf", "(I)I", 3, 3, 67, some .int),
  (7, "endsFirst", "()I", 1, 3, 66, some .int),
  (7, "runsLeft", "()I", 2, 5, 118, some .int),
  (7, "put", "(J)I", 4, 1, 25, some .int),
  (7, "wipe", "()I", 2, 0, 0, some .int),
  (7, "fault", "()I", 1, 4, 88, some .int),
  (7, "undo", "()I", 1, 4, 102, some .int),
  (7, "save", "(I)I", 2, 3, 81, some .int),
  (7, "restore", "(I)I", 2, 4, 102, some .int),
  (7, "isOneOf", "(II)Z", 2, 0, 0, some .boolean),
  (7, "lengthOf", "(J)I", 6, 0, 0, some .int),
  (8, "<init>", "()V", 1, 1, 20, none),
  (8, "in", "(III)Z", 3, 0, 0, some .boolean),
  (8, "ofLampAt", "(II)I", 2, 0, 0, some .int),
  (8, "ofGroupAt", "(II)I", 2, 0, 0, some .int),
  (8, "ofShowAt", "(II)I", 2, 0, 0, some .int),
  (8, "isShow", "(I)Z", 1, 1, 22, some .boolean),
  (8, "isLamp", "(I)Z", 1, 1, 22, some .boolean),
  (8, "isGroup", "(I)Z", 2, 1, 22, some .boolean),
  (8, "isTold", "(I)Z", 2, 1, 21, some .boolean),
  (8, "know", "()V", 2, 0, 0, none),
  (8, "putAside", "()V", 2, 0, 0, none),
  (8, "putBack", "()V", 2, 0, 0, none),
  (8, "puts", "(II)I", 4, 0, 0, some .int),
  (8, "behind", "(I)I", 3, 1, 22, some .int),
  (8, "fault", "()I", 3, 2, 44, some .int),
  (8, "scene", "(III)V", 5, 0, 0, none),
  (8, "tellAll", "()V", 6, 1, 24, none),
  (8, "tell", "(I)I", 3, 3, 66, some .int),
  (8, "litIn", "(II)I", 11, 1, 22, some .int),
  (8, "waits", "(I)Z", 2, 1, 21, some .boolean),
  (8, "isAhead", "(II)Z", 5, 1, 21, some .boolean),
  (8, "first", "(II)I", 6, 2, 45, some .int),
  (8, "begins", "(I)I", 3, 1, 21, some .int),
  (8, "isTooLong", "(I)Z", 5, 1, 21, some .boolean),
  (8, "why", "()I", 3, 3, 70, some .int),
  (8, "groupsOf", "(I)I", 8, 3, 70, some .int),
  (8, "isFoggy", "(I)Z", 4, 1, 21, some .boolean),
  (8, "burns", "(I)V", 5, 1, 21, none),
  (8, "runs", "()I", 7, 4, 97, some .int),
  (8, "set", "(II)I", 5, 1, 23, some .int),
  (8, "group", "(III)I", 5, 2, 42, some .int),
  (8, "lamp", "(I)I", 2, 2, 42, some .int),
  (8, "lens", "(I)I", 2, 2, 42, some .int),
  (8, "run", "()I", 2, 5, 123, some .int),
  (8, "ofShow", "(II)I", 3, 2, 42, some .int),
  (8, "lit", "(II)I", 3, 2, 42, some .int),
  (8, "at", "(II)I", 3, 2, 52, some .int),
  (8, "minutesLeft", "(I)I", 3, 1, 21, some .int),
  (8, "ofLamp", "(II)I", 3, 2, 43, some .int),
  (8, "ofGroup", "(II)I", 3, 2, 43, some .int),
  (8, "waiting", "(Z)I", 5, 2, 42, some .int),
  (8, "toldShows", "()I", 3, 2, 42, some .int),
  (8, "count", "(I)I", 2, 3, 66, some .int),
  (8, "next", "(I)I", 5, 4, 97, some .int),
  (8, "oftenOf", "(I)I", 6, 2, 43, some .int),
  (8, "endsFirst", "()I", 3, 2, 43, some .int),
  (8, "runsLeft", "()I", 3, 5, 123, some .int),
  (8, "put", "(J)I", 8, 1, 22, some .int),
  (8, "wipe", "()I", 2, 0, 0, some .int),
  (8, "undo", "()I", 2, 0, 0, some .int),
  (8, "save", "(I)I", 3, 3, 66, some .int),
  (8, "restore", "(I)I", 3, 3, 66, some .int),
  (10, "bitCount", "(I)I", 1, 0, 0, some .int),
  (11, "max", "(II)I", 2, 0, 0, some .int),
  (11, "min", "(II)I", 2, 0, 0, some .int),
  (12, "copyOf", "([BI)[B", 3, 1, 38, some (.array .byte)),
  (9, "law", "([I)Z", 4, 6, 145, some .boolean)]
def mt (y : Nat) : Nat × String × String × Nat × Nat × Nat × Option FieldType := MT.getD y (0, "", "", 0, 0, 0, none)
def ow (y : Nat) : Nat := (mt y).1
def nm (y : Nat) : MethodName := ⟨CN (ow y), (mt y).2.1, (mt y).2.2.1⟩
def mL (y : Nat) : Nat := (mt y).2.2.2.1
def dp (y : Nat) : Nat := (mt y).2.2.2.2.1
def lc (y : Nat) : Nat := (mt y).2.2.2.2.2.1
def rt (y : Nat) : Option FieldType := (mt y).2.2.2.2.2.2
def CD : List ByteArray := [cX0_init, cX0_copyFrom, cX0_toldShows, cX0_reason, cX0_ofNextRun, cX0_nextEnd, cX0_runNext, cX0_firstGroup, cX0_beginWith, cX0_groupsWith, cX1_init, cX1_copyFrom, cX1_add, cX1_waiting, cX1_earliest, cX1_seated, cX1_personsIn, cX1_newPersonsIn, cX1_countRun, cX1_goHome, cX1_waitFrom, cX1_waitingFor, cX1_holds, cX2_init, cX2_record, cX2_takeBack, cX3_init, cX3_copyFrom, cX3_minutesLeft, cX3_firstToEnd, cX3_runsUntilEnd, cX3_isFoggy, cX3_burn, cX4_init, cX4_append, cX5_init, cX5_read, cX5_laidOut, cX5_clear, cX5_isBehindPart, cX5_takes, cX5_takesLamp, cX5_takesRepeat, cX5_takesStar, cX5_takesOpening, cX5_takesFirstDigit, cX5_takesSecondDigit, cX5_takesEndOfPart, cX5_endScene, cX5_endRepeat, cX6_init, cX6_lights, cX7_init, cX7_set, cX7_tell, cX7_group, cX7_lamp, cX7_lens, cX7_run, cX7_ofShow, cX7_lit, cX7_at, cX7_ofLamp, cX7_ofGroup, cX7_count, cX7_why, cX7_next, cX7_oftenOf, cX7_endsFirst, cX7_runsLeft, cX7_put, cX7_wipe, cX7_fault, cX7_undo, cX7_save, cX7_restore, cX7_isOneOf, cX7_lengthOf, cX8_init, cX8_in, cX8_ofLampAt, cX8_ofGroupAt, cX8_ofShowAt, cX8_isShow, cX8_isLamp, cX8_isGroup, cX8_isTold, cX8_know, cX8_putAside, cX8_putBack, cX8_puts, cX8_behind, cX8_fault, cX8_scene, cX8_tellAll, cX8_tell, cX8_litIn, cX8_waits, cX8_isAhead, cX8_first, cX8_begins, cX8_isTooLong, cX8_why, cX8_groupsOf, cX8_isFoggy, cX8_burns, cX8_runs, cX8_set, cX8_group, cX8_lamp, cX8_lens, cX8_run, cX8_ofShow, cX8_lit, cX8_at, cX8_minutesLeft, cX8_ofLamp, cX8_ofGroup, cX8_waiting, cX8_toldShows, cX8_count, cX8_next, cX8_oftenOf, cX8_endsFirst, cX8_runsLeft, cX8_put, cX8_wipe, cX8_undo, cX8_save, cX8_restore, cJ6_bitCount_0f7a4, cJ9_max_7cf53, cJ9_min_7cf53, cJ7_copyOf_9075b, cL_law]
def cd (y : Nat) : ByteArray := CD.getD y ⟨#[]⟩
/-- places: code word, static word or instance word, selects word (0: none) -/
def PL : List (Nat × Nat × Nat × Nat) := [(64, 0, 63, 0), (288, 0, 286, 287), (548, 0, 546, 547), (434, 0, 432, 433), (560, 0, 558, 559), (467, 0, 465, 466), (477, 0, 475, 476), (438, 0, 437, 12), (471, 0, 470, 13), (481, 0, 480, 14), (101, 0, 100, 0), (300, 0, 298, 299), (418, 0, 416, 417), (442, 0, 440, 441), (446, 0, 444, 445), (485, 0, 483, 484), (518, 0, 516, 517), (502, 0, 500, 501), (506, 0, 504, 505), (514, 0, 512, 513), (510, 0, 508, 509), (489, 0, 488, 15), (449, 1, 448, 0), (231, 0, 230, 0), (284, 0, 282, 283), (607, 0, 605, 606), (81, 0, 80, 0), (295, 0, 293, 294), (461, 0, 459, 460), (573, 0, 571, 572), (453, 0, 451, 452), (494, 0, 492, 493), (498, 0, 496, 497), (172, 0, 171, 0), (590, 0, 588, 589), (189, 0, 188, 0), (309, 0, 307, 308), (364, 0, 362, 363), (313, 0, 312, 0), (360, 0, 359, 11), (317, 0, 316, 1), (321, 0, 320, 2), (325, 0, 324, 3), (349, 0, 348, 9), (353, 0, 352, 10), (329, 0, 328, 4), (333, 0, 332, 5), (337, 0, 336, 6), (341, 0, 340, 7), (345, 0, 344, 8), (382, 0, 381, 0), (457, 0, 455, 456), (56, 0, 55, 0), (273, 0, 271, 272), (305, 0, 303, 304), (414, 0, 412, 413), (422, 0, 420, 421), (426, 0, 424, 425), (430, 0, 428, 429), (522, 0, 520, 521), (526, 0, 524, 525), (530, 0, 528, 529), (534, 0, 532, 533), (539, 0, 537, 538), (543, 0, 541, 542), (552, 0, 550, 551), (556, 0, 554, 555), (564, 0, 562, 563), (569, 0, 567, 568), (577, 0, 575, 576), (582, 0, 580, 581), (595, 0, 593, 594), (599, 0, 597, 598), (603, 0, 601, 602), (611, 0, 609, 610), (621, 0, 619, 620), (276, 1, 275, 0), (585, 1, 584, 0), (626, 0, 625, 0), (681, 1, 680, 0), (734, 1, 733, 0), (719, 1, 718, 0), (704, 1, 703, 0), (688, 1, 687, 0), (753, 1, 752, 0), (815, 0, 814, 33), (727, 0, 726, 23), (701, 0, 700, 19), (847, 0, 846, 36), (851, 0, 850, 37), (742, 0, 741, 25), (678, 0, 677, 16), (674, 0, 672, 673), (697, 0, 696, 18), (693, 0, 692, 17), (685, 0, 683, 684), (799, 0, 798, 31), (716, 0, 715, 21), (723, 0, 722, 22), (712, 0, 711, 20), (766, 0, 765, 26), (731, 0, 730, 24), (708, 0, 706, 707), (775, 0, 774, 28), (779, 0, 778, 29), (783, 0, 782, 30), (771, 0, 770, 27), (738, 0, 736, 737), (746, 0, 744, 745), (750, 0, 748, 749), (757, 0, 755, 756), (761, 0, 759, 760), (787, 0, 785, 786), (791, 0, 789, 790), (795, 0, 793, 794), (807, 0, 806, 32), (803, 0, 801, 802), (811, 0, 809, 810), (823, 0, 822, 34), (827, 0, 826, 35), (819, 0, 817, 818), (831, 0, 829, 830), (835, 0, 833, 834), (839, 0, 837, 838), (843, 0, 841, 842), (855, 0, 853, 854), (860, 0, 858, 859), (864, 0, 862, 863), (868, 0, 866, 867), (872, 0, 870, 871), (614, 1, 613, 0), (356, 1, 355, 0), (367, 1, 366, 0), (372, 1, 371, 0), (0, 0, 0, 0)]
def pl (y : Nat) : Nat × Nat × Nat × Nat := PL.getD y (0, 0, 0, 0)
def LK0 : List (Nat × List Nat × Nat) := [(6, [6], 65), (18, [14, 2, 1], 66), (26, [8, 0], 68), (29, [11, 10], 74), (36, [1, 0, 0], 131), (47, [10, 14], 75), (50, [1, 0, 1], 133), (58, [1, 0, 2], 135), (64, [9, 3, 3], 77), (68, [5, 26, 0], 79), (70, [1, 0, 3], 137), (78, [9, 1, 6], 97), (82, [5, 10, 0], 99), (84, [1, 0, 4], 139), (92, [7], 289), (104, [3, 27, 1], 292), (112, [3, 11, 1], 297), (118, [0, 0, 5], 141), (126, [0, 0, 6], 143), (132, [0, 0, 7], 145), (138, [0, 0, 8], 147), (144, [3, 7, 0], 435), (152, [1, 1, 1], 107), (156, [1, 1, 0], 104), (162, [3, 30, 2], 450), (170, [3, 9, 1], 478), (178, [3, 8, 1], 468), (184, [3, 31, 2], 491), (192, [0, 6, 2], 390), (198, [3, 32, 2], 495), (206, [3, 17, 1], 499), (212, [3, 18, 1], 503), (220, [3, 20, 2], 507), (228, [3, 19, 1], 511), (234, [3, 16, 1], 515), (240, [3, 13, 0], 439), (246, [3, 14, 1], 443), (252, [1, 1, 2], 110), (258, [2, 131, 2], 472), (270, [3, 15, 3], 482)]
def LK1 : List (Nat × List Nat × Nat) := [(6, [6], 102), (18, [1, 1, 0], 103), (30, [1, 1, 1], 106), (36, [1, 1, 2], 109), (42, [1, 1, 3], 112), (48, [1, 1, 4], 114), (54, [7], 301), (66, [0, 1, 5], 116), (74, [2, 22, 2], 447), (82, [3, 21, 2], 486), (90, [3, 14, 1], 490)]
def LK2 : List (Nat × List Nat × Nat) := [(6, [6], 232), (18, [9, 0, 9], 233), (19, [10, 15], 233), (22, [1, 2, 0], 236), (34, [5, 0, 0], 235), (36, [0, 2, 1], 237), (44, [0, 2, 2], 238), (50, [3, 1, 1], 285)]
def LK3 : List (Nat × List Nat × Nat) := [(6, [6], 82), (18, [1, 3, 0], 83), (30, [1, 3, 1], 85), (36, [1, 3, 2], 87), (42, [7], 296), (54, [2, 131, 2], 462), (66, [3, 28, 2], 458), (72, [3, 51, 1], 454), (84, [1, 6, 1], 387), (90, [2, 132, 2], 463)]
def LK4 : List (Nat × List Nat × Nat) := [(6, [6], 173), (18, [1, 4, 0], 174), (30, [0, 4, 1], 177), (38, [13, 255], 591)]
def LK5 : List (Nat × List Nat × Nat) := [(6, [6], 190), (18, [1, 5, 0], 191), (30, [1, 5, 1], 192), (38, [1, 5, 2], 193), (44, [1, 5, 3], 194), (50, [3, 38, 0], 310), (56, [0, 4, 1], 176), (68, [1, 4, 0], 175), (76, [3, 40, 1], 314), (84, [0, 5, 5], 196), (90, [3, 39, 0], 357), (98, [3, 48, 0], 338), (104, [0, 5, 10], 201), (110, [2, 132, 2], 365), (122, [9, 6, 6], 368), (126, [2, 133, 2], 370), (138, [0, 5, 9], 200), (144, [0, 5, 6], 197), (150, [4, 50, 3], 380), (156, [0, 5, 4], 195), (162, [0, 5, 7], 198), (168, [0, 5, 8], 199), (174, [3, 41, 1], 318), (180, [3, 42, 1], 322), (186, [3, 45, 1], 326), (192, [3, 46, 1], 330), (198, [3, 47, 1], 334), (204, [3, 43, 1], 346), (210, [3, 44, 1], 350), (216, [2, 131, 2], 354), (222, [3, 49, 0], 342)]
def LK6 : List (Nat × List Nat × Nat) := [(6, [6], 383), (18, [1, 6, 1], 386), (30, [1, 6, 0], 384), (38, [0, 6, 2], 389), (46, [0, 6, 3], 392), (52, [0, 6, 4], 394), (58, [0, 6, 5], 396)]
def LK7 : List (Nat × List Nat × Nat) := [(2, [6], 57), (14, [9, 0, 9], 60), (15, [10, 15], 60), (18, [5, 0, 0], 62), (20, [1, 7, 0], 247), (32, [1, 7, 1], 248), (38, [9, 4, 2], 168), (42, [5, 33, 0], 170), (44, [1, 7, 2], 249), (52, [9, 5, 11], 185), (56, [5, 35, 0], 187), (58, [1, 7, 3], 250), (66, [9, 2, 3], 227), (70, [4, 23, 0], 229), (72, [1, 7, 4], 251), (80, [1, 7, 5], 252), (88, [1, 7, 6], 253), (96, [2, 76, 2], 274), (104, [14, 3, 0], 277), (112, [14, 4, 0], 279), (118, [3, 24, 1], 281), (126, [1, 0, 0], 132), (132, [3, 36, 1], 306), (140, [0, 5, 10], 202), (148, [1, 0, 1], 134), (156, [3, 37, 0], 361), (164, [0, 4, 1], 178), (170, [1, 0, 4], 140), (178, [0, 1, 5], 117), (188, [3, 12, 3], 415), (196, [1, 0, 3], 138), (204, [1, 3, 0], 84), (214, [1, 3, 2], 88), (220, [1, 3, 1], 86), (226, [3, 3, 0], 431), (234, [3, 5, 0], 464), (240, [12, 99999], 473), (242, [3, 6, 0], 474), (248, [1, 0, 2], 136), (254, [0, 6, 2], 391), (260, [0, 6, 5], 397), (264, [0, 6, 3], 393), (270, [0, 6, 4], 395), (276, [1, 6, 1], 388), (282, [1, 6, 0], 385), (290, [3, 28, 2], 535), (298, [1, 1, 0], 105), (304, [1, 1, 1], 108), (308, [1, 1, 2], 111), (314, [1, 1, 3], 113), (320, [1, 1, 4], 115), (326, [0, 0, 5], 142), (332, [3, 13, 0], 544), (338, [0, 0, 6], 144), (344, [0, 0, 7], 146), (348, [0, 0, 8], 148), (354, [3, 2, 0], 545), (360, [0, 2, 2], 239), (362, [3, 4, 1], 557), (370, [3, 30, 2], 565), (378, [3, 29, 1], 570), (384, [3, 1, 1], 578), (390, [2, 77, 1], 583), (398, [3, 34, 2], 587), (406, [3, 25, 1], 604), (412, [2, 130, 1], 612), (422, [13, 255], 586)]
def LK8 : List (Nat × List Nat × Nat) := [(2, [6], 627), (14, [1, 8, 0], 628), (26, [1, 8, 1], 629), (32, [1, 8, 2], 630), (38, [1, 8, 4], 632), (44, [1, 8, 5], 633), (52, [1, 8, 6], 634), (58, [1, 8, 10], 638), (64, [1, 8, 11], 639), (70, [1, 8, 12], 640), (76, [1, 8, 13], 641), (82, [2, 79, 3], 679), (90, [2, 82, 2], 702), (98, [0, 8, 3], 631), (106, [0, 8, 8], 636), (112, [0, 8, 9], 637), (118, [0, 8, 7], 635), (124, [3, 91, 1], 675), (132, [3, 93, 3], 694), (140, [2, 83, 1], 686), (148, [3, 92, 0], 689), (156, [3, 94, 0], 690), (162, [3, 87, 0], 698), (168, [2, 81, 2], 717), (174, [3, 97, 1], 713), (180, [3, 98, 2], 720), (188, [2, 80, 2], 732), (194, [3, 99, 2], 709), (200, [3, 86, 1], 724), (206, [3, 101, 1], 728), (212, [3, 100, 1], 763), (218, [3, 103, 1], 772), (224, [3, 104, 1], 776), (230, [3, 105, 1], 780), (238, [3, 90, 2], 739), (244, [2, 84, 1], 751), (250, [3, 102, 0], 762), (256, [12, 99999], 767), (258, [3, 106, 0], 768), (264, [3, 96, 2], 796), (270, [3, 115, 1], 804), (276, [3, 85, 1], 812), (282, [3, 118, 1], 820), (290, [3, 119, 0], 824), (296, [3, 88, 0], 844), (302, [3, 89, 0], 848), (308, [13, 255], 856)]
def LK9 : List (Nat × List Nat × Nat) := [(14, [9, 7, 7], 52), (18, [4, 52, 0], 54), (20, [9, 8, 14], 622), (24, [4, 78, 0], 624), (26, [3, 53, 2], 270), (34, [3, 107, 2], 735), (36, [3, 54, 1], 302), (44, [3, 95, 1], 682), (46, [3, 55, 3], 411), (54, [3, 108, 3], 743), (56, [3, 56, 1], 419), (62, [3, 109, 1], 747), (64, [3, 57, 1], 423), (70, [3, 110, 1], 754), (72, [3, 58, 0], 427), (80, [3, 111, 0], 758), (82, [3, 59, 2], 519), (88, [3, 112, 2], 784), (90, [3, 60, 2], 523), (96, [3, 113, 2], 788), (98, [3, 61, 2], 527), (104, [3, 114, 2], 792), (106, [3, 62, 2], 531), (112, [3, 116, 2], 800), (114, [3, 63, 2], 536), (120, [3, 117, 2], 808), (122, [3, 64, 1], 540), (128, [3, 120, 1], 816), (130, [3, 65, 0], 549), (136, [3, 102, 0], 705), (138, [3, 66, 1], 553), (144, [3, 121, 1], 828), (146, [3, 67, 1], 561), (152, [3, 122, 1], 832), (154, [3, 68, 0], 566), (160, [3, 123, 0], 836), (162, [3, 69, 0], 574), (168, [3, 124, 0], 840), (170, [13, 4294967295], 873), (174, [3, 70, 1], 579), (182, [3, 125, 1], 852), (184, [3, 71, 0], 592), (190, [3, 126, 0], 857), (192, [3, 72, 0], 596), (198, [3, 92, 0], 671), (200, [3, 73, 0], 600), (206, [3, 127, 0], 861), (208, [3, 74, 1], 608), (214, [3, 128, 1], 865), (216, [3, 75, 1], 618), (222, [3, 129, 1], 869)]
def LK10 : List (Nat × List Nat × Nat) := [(530, [12, 1431655765], 615), (532, [12, 858993459], 616), (534, [12, 252645135], 617)]
def LK11 : List (Nat × List Nat × Nat) := []
def LK12 : List (Nat × List Nat × Nat) := [(300, [7], 379), (608, [2, 132, 2], 378), (620, [8, 1], 373), (623, [11, 11], 377)]
def LK (c : Nat) : List (Nat × List Nat × Nat) := match c with
  | 0 => LK0
  | 1 => LK1
  | 2 => LK2
  | 3 => LK3
  | 4 => LK4
  | 5 => LK5
  | 6 => LK6
  | 7 => LK7
  | 8 => LK8
  | 9 => LK9
  | 10 => LK10
  | 11 => LK11
  | 12 => LK12
  | _ => []
