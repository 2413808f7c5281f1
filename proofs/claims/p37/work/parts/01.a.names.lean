-- ===== PART A: goes FIRST, ahead of the names: the tables' words, and 'selects' of the private methods out of them =====
/-- a private method of a class that the tables say can be made, by its rows of tables_1 -/
def lw_okq (q : MethodName × Nat) : Prop := (q.1.cls ≠ "java/lang/invoke/MethodHandle" ∧ q.1.cls ≠ "java/lang/invoke/VarHandle") ∧ Cond.instantiable q.1.cls q.2 ∈ tables_1 ∧ Cond.privateMethod q.1 ∈ tables_1 ∧ Cond.instanceMethod q.1 ∈ tables_1
theorem lw_p0 : lw_okq (⟨"EngravedLines", "isColumn", "(I)Z"⟩, 13) := ⟨⟨by decide +kernel, by decide +kernel⟩, List.mem_of_getElem? (i := 17) (by decide +kernel), List.mem_of_getElem? (i := 246) (by decide +kernel), List.mem_of_getElem? (i := 247) (by decide +kernel)⟩
theorem lw_p1 : lw_okq (⟨"EngravedLines", "refuse", "(I)I"⟩, 13) := ⟨⟨by decide +kernel, by decide +kernel⟩, List.mem_of_getElem? (i := 17) (by decide +kernel), List.mem_of_getElem? (i := 263) (by decide +kernel), List.mem_of_getElem? (i := 264) (by decide +kernel)⟩
theorem lw_p2 : lw_okq (⟨"EngravedLines$Tape", "readSign", "()Z"⟩, 5) := ⟨⟨by decide +kernel, by decide +kernel⟩, List.mem_of_getElem? (i := 158) (by decide +kernel), List.mem_of_getElem? (i := 354) (by decide +kernel), List.mem_of_getElem? (i := 355) (by decide +kernel)⟩
theorem lw_p3 : lw_okq (⟨"EngravedLines$Tape", "isNext", "(C)Z"⟩, 5) := ⟨⟨by decide +kernel, by decide +kernel⟩, List.mem_of_getElem? (i := 158) (by decide +kernel), List.mem_of_getElem? (i := 358) (by decide +kernel), List.mem_of_getElem? (i := 359) (by decide +kernel)⟩
theorem lw_p4 : lw_okq (⟨"EngravedLines$Tape", "readNumber", "(II)I"⟩, 5) := ⟨⟨by decide +kernel, by decide +kernel⟩, List.mem_of_getElem? (i := 158) (by decide +kernel), List.mem_of_getElem? (i := 363) (by decide +kernel), List.mem_of_getElem? (i := 364) (by decide +kernel)⟩
theorem lw_p5 : lw_okq (⟨"EngravedLines$Tape", "digit", "()I"⟩, 5) := ⟨⟨by decide +kernel, by decide +kernel⟩, List.mem_of_getElem? (i := 158) (by decide +kernel), List.mem_of_getElem? (i := 367) (by decide +kernel), List.mem_of_getElem? (i := 368) (by decide +kernel)⟩
theorem lw_p6 : lw_okq (⟨"EngravedLines$Tape", "readAdorn", "()I"⟩, 5) := ⟨⟨by decide +kernel, by decide +kernel⟩, List.mem_of_getElem? (i := 158) (by decide +kernel), List.mem_of_getElem? (i := 371) (by decide +kernel), List.mem_of_getElem? (i := 372) (by decide +kernel)⟩
theorem lw_p7 : lw_okq (⟨"EngravedLines$Tape", "keep", "(IIII)V"⟩, 5) := ⟨⟨by decide +kernel, by decide +kernel⟩, List.mem_of_getElem? (i := 158) (by decide +kernel), List.mem_of_getElem? (i := 375) (by decide +kernel), List.mem_of_getElem? (i := 376) (by decide +kernel)⟩
theorem lw_p8 : lw_okq (⟨"EngravedLines", "countNotes", "()I"⟩, 13) := ⟨⟨by decide +kernel, by decide +kernel⟩, List.mem_of_getElem? (i := 17) (by decide +kernel), List.mem_of_getElem? (i := 453) (by decide +kernel), List.mem_of_getElem? (i := 454) (by decide +kernel)⟩
theorem lw_p9 : lw_okq (⟨"EngravedLines", "sumDurations", "()I"⟩, 13) := ⟨⟨by decide +kernel, by decide +kernel⟩, List.mem_of_getElem? (i := 17) (by decide +kernel), List.mem_of_getElem? (i := 457) (by decide +kernel), List.mem_of_getElem? (i := 458) (by decide +kernel)⟩
theorem lw_p10 : lw_okq (⟨"EngravedLines", "isStretch", "(II)Z"⟩, 13) := ⟨⟨by decide +kernel, by decide +kernel⟩, List.mem_of_getElem? (i := 17) (by decide +kernel), List.mem_of_getElem? (i := 498) (by decide +kernel), List.mem_of_getElem? (i := 499) (by decide +kernel)⟩
theorem lw_p11 : lw_okq (⟨"EngravedLines$Stretch", "balance", "()F"⟩, 10) := ⟨⟨by decide +kernel, by decide +kernel⟩, List.mem_of_getElem? (i := 65) (by decide +kernel), List.mem_of_getElem? (i := 519) (by decide +kernel), List.mem_of_getElem? (i := 520) (by decide +kernel)⟩
theorem lw_p12 : lw_okq (⟨"EngravedLines$Stretch", "holdMore", "()Z"⟩, 10) := ⟨⟨by decide +kernel, by decide +kernel⟩, List.mem_of_getElem? (i := 65) (by decide +kernel), List.mem_of_getElem? (i := 529) (by decide +kernel), List.mem_of_getElem? (i := 530) (by decide +kernel)⟩
theorem lw_p13 : lw_okq (⟨"EngravedLines$Stretch", "stretched", "(I)F"⟩, 10) := ⟨⟨by decide +kernel, by decide +kernel⟩, List.mem_of_getElem? (i := 65) (by decide +kernel), List.mem_of_getElem? (i := 533) (by decide +kernel), List.mem_of_getElem? (i := 534) (by decide +kernel)⟩
theorem lw_p14 : lw_okq (⟨"EngravedLines", "findBest", "()V"⟩, 13) := ⟨⟨by decide +kernel, by decide +kernel⟩, List.mem_of_getElem? (i := 17) (by decide +kernel), List.mem_of_getElem? (i := 582) (by decide +kernel), List.mem_of_getElem? (i := 583) (by decide +kernel)⟩
theorem lw_p15 : lw_okq (⟨"EngravedLines$Best", "reach", "(ILEngravedLines$Signs;I)V"⟩, 7) := ⟨⟨by decide +kernel, by decide +kernel⟩, List.mem_of_getElem? (i := 123) (by decide +kernel), List.mem_of_getElem? (i := 593) (by decide +kernel), List.mem_of_getElem? (i := 594) (by decide +kernel)⟩
def lw_privs_1 : List (MethodName × Nat) := [(⟨"EngravedLines", "isColumn", "(I)Z"⟩, 13), (⟨"EngravedLines", "refuse", "(I)I"⟩, 13), (⟨"EngravedLines$Tape", "readSign", "()Z"⟩, 5), (⟨"EngravedLines$Tape", "isNext", "(C)Z"⟩, 5), (⟨"EngravedLines$Tape", "readNumber", "(II)I"⟩, 5), (⟨"EngravedLines$Tape", "digit", "()I"⟩, 5), (⟨"EngravedLines$Tape", "readAdorn", "()I"⟩, 5), (⟨"EngravedLines$Tape", "keep", "(IIII)V"⟩, 5), (⟨"EngravedLines", "countNotes", "()I"⟩, 13), (⟨"EngravedLines", "sumDurations", "()I"⟩, 13), (⟨"EngravedLines", "isStretch", "(II)Z"⟩, 13), (⟨"EngravedLines$Stretch", "balance", "()F"⟩, 10), (⟨"EngravedLines$Stretch", "holdMore", "()Z"⟩, 10), (⟨"EngravedLines$Stretch", "stretched", "(I)F"⟩, 10), (⟨"EngravedLines", "findBest", "()V"⟩, 13), (⟨"EngravedLines$Best", "reach", "(ILEngravedLines$Signs;I)V"⟩, 7)]
theorem lw_r1 : ∀ q ∈ lw_privs_1, lw_okq q := List.forall_mem_cons.mpr ⟨lw_p0, List.forall_mem_cons.mpr ⟨lw_p1, List.forall_mem_cons.mpr ⟨lw_p2, List.forall_mem_cons.mpr ⟨lw_p3, List.forall_mem_cons.mpr ⟨lw_p4, List.forall_mem_cons.mpr ⟨lw_p5, List.forall_mem_cons.mpr ⟨lw_p6, List.forall_mem_cons.mpr ⟨lw_p7, List.forall_mem_cons.mpr ⟨lw_p8, List.forall_mem_cons.mpr ⟨lw_p9, List.forall_mem_cons.mpr ⟨lw_p10, List.forall_mem_cons.mpr ⟨lw_p11, List.forall_mem_cons.mpr ⟨lw_p12, List.forall_mem_cons.mpr ⟨lw_p13, List.forall_mem_cons.mpr ⟨lw_p14, List.forall_mem_cons.mpr ⟨lw_p15, fun _ h => absurd h List.not_mem_nil⟩⟩⟩⟩⟩⟩⟩⟩⟩⟩⟩⟩⟩⟩⟩⟩
theorem lw_p16 : lw_okq (⟨"EngravedLines$Stretch", "sum", "([F)F"⟩, 10) := ⟨⟨by decide +kernel, by decide +kernel⟩, List.mem_of_getElem? (i := 65) (by decide +kernel), List.mem_of_getElem? (i := 603) (by decide +kernel), List.mem_of_getElem? (i := 604) (by decide +kernel)⟩
theorem lw_p17 : lw_okq (⟨"EngravedLines$Best", "traceBack", "(I)V"⟩, 7) := ⟨⟨by decide +kernel, by decide +kernel⟩, List.mem_of_getElem? (i := 123) (by decide +kernel), List.mem_of_getElem? (i := 613) (by decide +kernel), List.mem_of_getElem? (i := 614) (by decide +kernel)⟩
theorem lw_p18 : lw_okq (⟨"EngravedLines", "distance", "(IIII)I"⟩, 13) := ⟨⟨by decide +kernel, by decide +kernel⟩, List.mem_of_getElem? (i := 17) (by decide +kernel), List.mem_of_getElem? (i := 641) (by decide +kernel), List.mem_of_getElem? (i := 642) (by decide +kernel)⟩
theorem lw_p19 : lw_okq (⟨"EngravedLines", "traceLine", "(LEngravedLines$Skyline;II)V"⟩, 13) := ⟨⟨by decide +kernel, by decide +kernel⟩, List.mem_of_getElem? (i := 17) (by decide +kernel), List.mem_of_getElem? (i := 645) (by decide +kernel), List.mem_of_getElem? (i := 646) (by decide +kernel)⟩
theorem lw_p20 : lw_okq (⟨"EngravedLines$Skyline", "ink", "(IIII)V"⟩, 3) := ⟨⟨by decide +kernel, by decide +kernel⟩, List.mem_of_getElem? (i := 107) (by decide +kernel), List.mem_of_getElem? (i := 661) (by decide +kernel), List.mem_of_getElem? (i := 662) (by decide +kernel)⟩
theorem lw_p21 : lw_okq (⟨"EngravedLines", "areNotes", "(II)Z"⟩, 13) := ⟨⟨by decide +kernel, by decide +kernel⟩, List.mem_of_getElem? (i := 17) (by decide +kernel), List.mem_of_getElem? (i := 710) (by decide +kernel), List.mem_of_getElem? (i := 711) (by decide +kernel)⟩
theorem lw_p22 : lw_okq (⟨"EngravedLines", "beamRise", "(II)F"⟩, 13) := ⟨⟨by decide +kernel, by decide +kernel⟩, List.mem_of_getElem? (i := 17) (by decide +kernel), List.mem_of_getElem? (i := 714) (by decide +kernel), List.mem_of_getElem? (i := 715) (by decide +kernel)⟩
theorem lw_p23 : lw_okq (⟨"EngravedLines", "beamSlope", "(II)F"⟩, 13) := ⟨⟨by decide +kernel, by decide +kernel⟩, List.mem_of_getElem? (i := 17) (by decide +kernel), List.mem_of_getElem? (i := 719) (by decide +kernel), List.mem_of_getElem? (i := 720) (by decide +kernel)⟩
theorem lw_p24 : lw_okq (⟨"EngravedLines", "beamGoesUp", "(II)Z"⟩, 13) := ⟨⟨by decide +kernel, by decide +kernel⟩, List.mem_of_getElem? (i := 17) (by decide +kernel), List.mem_of_getElem? (i := 725) (by decide +kernel), List.mem_of_getElem? (i := 726) (by decide +kernel)⟩
theorem lw_p25 : lw_okq (⟨"EngravedLines", "beamLift", "(II)F"⟩, 13) := ⟨⟨by decide +kernel, by decide +kernel⟩, List.mem_of_getElem? (i := 17) (by decide +kernel), List.mem_of_getElem? (i := 729) (by decide +kernel), List.mem_of_getElem? (i := 730) (by decide +kernel)⟩
theorem lw_p26 : lw_okq (⟨"EngravedLines", "slurHeight", "(IIZ)I"⟩, 13) := ⟨⟨by decide +kernel, by decide +kernel⟩, List.mem_of_getElem? (i := 17) (by decide +kernel), List.mem_of_getElem? (i := 755) (by decide +kernel), List.mem_of_getElem? (i := 756) (by decide +kernel)⟩
theorem lw_p27 : lw_okq (⟨"EngravedLines", "inkTowards", "(IZ)I"⟩, 13) := ⟨⟨by decide +kernel, by decide +kernel⟩, List.mem_of_getElem? (i := 17) (by decide +kernel), List.mem_of_getElem? (i := 759) (by decide +kernel), List.mem_of_getElem? (i := 760) (by decide +kernel)⟩
theorem lw_p28 : lw_okq (⟨"EngravedLines", "standsOtherwise", "(I)Z"⟩, 13) := ⟨⟨by decide +kernel, by decide +kernel⟩, List.mem_of_getElem? (i := 17) (by decide +kernel), List.mem_of_getElem? (i := 775) (by decide +kernel), List.mem_of_getElem? (i := 776) (by decide +kernel)⟩
def lw_privs_2 : List (MethodName × Nat) := [(⟨"EngravedLines$Stretch", "sum", "([F)F"⟩, 10), (⟨"EngravedLines$Best", "traceBack", "(I)V"⟩, 7), (⟨"EngravedLines", "distance", "(IIII)I"⟩, 13), (⟨"EngravedLines", "traceLine", "(LEngravedLines$Skyline;II)V"⟩, 13), (⟨"EngravedLines$Skyline", "ink", "(IIII)V"⟩, 3), (⟨"EngravedLines", "areNotes", "(II)Z"⟩, 13), (⟨"EngravedLines", "beamRise", "(II)F"⟩, 13), (⟨"EngravedLines", "beamSlope", "(II)F"⟩, 13), (⟨"EngravedLines", "beamGoesUp", "(II)Z"⟩, 13), (⟨"EngravedLines", "beamLift", "(II)F"⟩, 13), (⟨"EngravedLines", "slurHeight", "(IIZ)I"⟩, 13), (⟨"EngravedLines", "inkTowards", "(IZ)I"⟩, 13), (⟨"EngravedLines", "standsOtherwise", "(I)Z"⟩, 13)]
theorem lw_r2 : ∀ q ∈ lw_privs_2, lw_okq q := List.forall_mem_cons.mpr ⟨lw_p16, List.forall_mem_cons.mpr ⟨lw_p17, List.forall_mem_cons.mpr ⟨lw_p18, List.forall_mem_cons.mpr ⟨lw_p19, List.forall_mem_cons.mpr ⟨lw_p20, List.forall_mem_cons.mpr ⟨lw_p21, List.forall_mem_cons.mpr ⟨lw_p22, List.forall_mem_cons.mpr ⟨lw_p23, List.forall_mem_cons.mpr ⟨lw_p24, List.forall_mem_cons.mpr ⟨lw_p25, List.forall_mem_cons.mpr ⟨lw_p26, List.forall_mem_cons.mpr ⟨lw_p27, List.forall_mem_cons.mpr ⟨lw_p28, fun _ h => absurd h List.not_mem_nil⟩⟩⟩⟩⟩⟩⟩⟩⟩⟩⟩⟩⟩
def lw_privs : List (MethodName × Nat) := lw_privs_1 ++ (lw_privs_2)
def lw_tbl : List Cond := k2_sels lw_privs ++ tables_1
theorem lw_privs_ok : ∀ q ∈ lw_privs, lw_okq q := by
  show ∀ q ∈ lw_privs_1 ++ (lw_privs_2), lw_okq q
  exact List.forall_mem_append.mpr ⟨lw_r1, lw_r2⟩
/-- the streams that the claim lets the run draw from -/
abbrev lw_cs : List Choice := [Jvm.Choice.named "NaN.bits", Jvm.Choice.named "NaN.copy"]
theorem lw_bits : nanBits ∈ lw_cs := by first | decide | exact List.mem_cons_self | simp [lw_cs, nanBits]
def RX0 : String := "EngravedLines$Best"
def TX0 : u_T := fun k => match k with
  | 0 => ("EngravedLines$Best", "before", "[I", true)
  | 1 => ("EngravedLines$Best", "totals", "[F", true)
  | 2 => ("EngravedLines$Best", "starts", "[I", true)
  | 3 => ("EngravedLines$Best", "trial", "LEngravedLines$Stretch;", true)
  | 4 => ("EngravedLines$Best", "lineCount", "I", false)
  | 5 => ("EngravedLines$Best", "isFound", "Z", false)
  | _ => ("EngravedLines$Best", "sum", "F", false)
def tyX0 : Nat → FieldType := fun k => match k with
  | 0 => .array .int
  | 1 => .array .float
  | 2 => .array .int
  | 3 => .object "EngravedLines$Stretch"
  | 4 => .int
  | 5 => .boolean
  | _ => .float
abbrev wsX00 : List Cond := u_ws RX0 TX0 7
theorem nmX0 : ∀ a, a < 7 → ∀ b, b < 7 → a ≠ b → (TX0 a).2.1 ≠ (TX0 b).2.1 := by decide +kernel
theorem tyX0_ok : ∀ k, k < 7 → parseFieldDescriptor (TX0 k).2.2.1 = some (tyX0 k) := by decide +kernel
abbrev cX0_init : ByteArray := prog_2_method_1_code
def yX0_init : MethodName := ⟨RX0, "<init>", "()V"⟩
abbrev cX0_find : ByteArray := prog_2_method_2_code
def yX0_find : MethodName := ⟨RX0, "find", "(LEngravedLines$Signs;II)V"⟩
abbrev cX0_first : ByteArray := prog_2_method_3_code
def yX0_first : MethodName := ⟨RX0, "first", "(I)I"⟩
abbrev cX0_last : ByteArray := prog_2_method_4_code
def yX0_last : MethodName := ⟨RX0, "last", "(I)I"⟩
abbrev cX0_reach : ByteArray := prog_2_method_5_code
def yX0_reach : MethodName := ⟨RX0, "reach", "(ILEngravedLines$Signs;I)V"⟩
abbrev cX0_traceBack : ByteArray := prog_2_method_6_code
def yX0_traceBack : MethodName := ⟨RX0, "traceBack", "(I)V"⟩
def RX1 : String := "EngravedLines$Page"
def TX1 : u_T := fun k => match k with
  | 0 => ("EngravedLines$Page", "columns", "LEngravedLines$Signs;", true)
  | 1 => ("EngravedLines$Page", "columnCount", "I", false)
  | 2 => ("EngravedLines$Page", "lineWidth", "I", false)
  | 3 => ("EngravedLines$Page", "onShelves", "LEngravedLines$Signs;", true)
  | 4 => ("EngravedLines$Page", "shelfKinds", "[I", true)
  | _ => ("EngravedLines$Page", "shelfSizes", "[I", true)
def tyX1 : Nat → FieldType := fun k => match k with
  | 0 => .object "EngravedLines$Signs"
  | 1 => .int
  | 2 => .int
  | 3 => .object "EngravedLines$Signs"
  | 4 => .array .int
  | _ => .array .int
abbrev wsX10 : List Cond := u_ws RX1 TX1 6
theorem nmX1 : ∀ a, a < 6 → ∀ b, b < 6 → a ≠ b → (TX1 a).2.1 ≠ (TX1 b).2.1 := by decide +kernel
theorem tyX1_ok : ∀ k, k < 6 → parseFieldDescriptor (TX1 k).2.2.1 = some (tyX1 k) := by decide +kernel
abbrev cX1_init : ByteArray := prog_3_method_1_code
def yX1_init : MethodName := ⟨RX1, "<init>", "()V"⟩
abbrev cX1_place : ByteArray := prog_3_method_2_code
def yX1_place : MethodName := ⟨RX1, "place", "(II)I"⟩
abbrev cX1_shelfKind : ByteArray := prog_3_method_3_code
def yX1_shelfKind : MethodName := ⟨RX1, "shelfKind", "(I)I"⟩
abbrev cX1_hasPlace : ByteArray := prog_3_method_4_code
def yX1_hasPlace : MethodName := ⟨RX1, "hasPlace", "(II)Z"⟩
abbrev cX1_clearShelf : ByteArray := prog_3_method_5_code
def yX1_clearShelf : MethodName := ⟨RX1, "clearShelf", "(III)V"⟩
abbrev cX1_countOnShelves : ByteArray := prog_3_method_6_code
def yX1_countOnShelves : MethodName := ⟨RX1, "countOnShelves", "()I"⟩
abbrev cX1_become : ByteArray := prog_3_method_7_code
def yX1_become : MethodName := ⟨RX1, "become", "(LEngravedLines$Page;)V"⟩
def RX2 : String := "EngravedLines$Point"
def TX2 : u_T := fun k => match k with
  | _ => ("", "", "", false)
def tyX2 : Nat → FieldType := fun k => match k with
  | _ => .int
abbrev wsX20 : List Cond := u_ws RX2 TX2 0
theorem nmX2 : ∀ a, a < 0 → ∀ b, b < 0 → a ≠ b → (TX2 a).2.1 ≠ (TX2 b).2.1 := by decide +kernel
theorem tyX2_ok : ∀ k, k < 0 → parseFieldDescriptor (TX2 k).2.2.1 = some (tyX2 k) := by decide +kernel
abbrev cX2_encode : ByteArray := prog_4_method_2_code
def yX2_encode : MethodName := ⟨RX2, "encode", "(ID)J"⟩
abbrev cX2_withSign : ByteArray := prog_4_method_4_code
def yX2_withSign : MethodName := ⟨RX2, "withSign", "(IJZ)J"⟩
abbrev cX2_fractionBits : ByteArray := prog_4_method_6_code
def yX2_fractionBits : MethodName := ⟨RX2, "fractionBits", "(I)I"⟩
abbrev cX2_bias : ByteArray := prog_4_method_7_code
def yX2_bias : MethodName := ⟨RX2, "bias", "(I)I"⟩
abbrev cX2_signBit : ByteArray := prog_4_method_8_code
def yX2_signBit : MethodName := ⟨RX2, "signBit", "(I)J"⟩
def RX3 : String := "EngravedLines$Sheets"
def TX3 : u_T := fun k => match k with
  | 0 => ("EngravedLines$Sheets", "sorts", "[I", true)
  | 1 => ("EngravedLines$Sheets", "sizes", "[I", true)
  | _ => ("EngravedLines$Sheets", "numbers", "[J", true)
def tyX3 : Nat → FieldType := fun k => match k with
  | 0 => .array .int
  | 1 => .array .int
  | _ => .array .long
abbrev wsX30 : List Cond := u_ws RX3 TX3 3
theorem nmX3 : ∀ a, a < 3 → ∀ b, b < 3 → a ≠ b → (TX3 a).2.1 ≠ (TX3 b).2.1 := by decide +kernel
theorem tyX3_ok : ∀ k, k < 3 → parseFieldDescriptor (TX3 k).2.2.1 = some (tyX3 k) := by decide +kernel
abbrev cX3_init : ByteArray := prog_5_method_1_code
def yX3_init : MethodName := ⟨RX3, "<init>", "()V"⟩
def RX4 : String := "EngravedLines$Signs"
def TX4 : u_T := fun k => match k with
  | _ => ("EngravedLines$Signs", "parts", "[I", true)
def tyX4 : Nat → FieldType := fun k => match k with
  | _ => .array .int
abbrev wsX40 : List Cond := u_ws RX4 TX4 1
theorem nmX4 : ∀ a, a < 1 → ∀ b, b < 1 → a ≠ b → (TX4 a).2.1 ≠ (TX4 b).2.1 := by decide +kernel
theorem tyX4_ok : ∀ k, k < 1 → parseFieldDescriptor (TX4 k).2.2.1 = some (tyX4 k) := by decide +kernel
abbrev cX4_init : ByteArray := prog_6_method_1_code
def yX4_init : MethodName := ⟨RX4, "<init>", "()V"⟩
abbrev cX4_part : ByteArray := prog_6_method_2_code
def yX4_part : MethodName := ⟨RX4, "part", "(II)I"⟩
abbrev cX4_change : ByteArray := prog_6_method_3_code
def yX4_change : MethodName := ⟨RX4, "change", "(III)V"⟩
abbrev cX4_lay : ByteArray := prog_6_method_4_code
def yX4_lay : MethodName := ⟨RX4, "lay", "(IIIIII)V"⟩
abbrev cX4_clear : ByteArray := prog_6_method_5_code
def yX4_clear : MethodName := ⟨RX4, "clear", "(I)V"⟩
abbrev cX4_isMissing : ByteArray := prog_6_method_6_code
def yX4_isMissing : MethodName := ⟨RX4, "isMissing", "(I)Z"⟩
abbrev cX4_copySign : ByteArray := prog_6_method_7_code
def yX4_copySign : MethodName := ⟨RX4, "copySign", "(ILEngravedLines$Signs;I)V"⟩
abbrev cX4_become : ByteArray := prog_6_method_8_code
def yX4_become : MethodName := ⟨RX4, "become", "(LEngravedLines$Signs;)V"⟩
abbrev cX4_top : ByteArray := prog_6_method_9_code
def yX4_top : MethodName := ⟨RX4, "top", "(I)I"⟩
abbrev cX4_bottom : ByteArray := prog_6_method_10_code
def yX4_bottom : MethodName := ⟨RX4, "bottom", "(I)I"⟩
abbrev cX4_ideal : ByteArray := prog_6_method_11_code
def yX4_ideal : MethodName := ⟨RX4, "ideal", "(I)F"⟩
abbrev cX4_flex : ByteArray := prog_6_method_12_code
def yX4_flex : MethodName := ⟨RX4, "flex", "(IF)F"⟩
abbrev cX4_rod : ByteArray := prog_6_method_13_code
def yX4_rod : MethodName := ⟨RX4, "rod", "(I)F"⟩
def RX5 : String := "EngravedLines$Skyline"
def TX5 : u_T := fun k => match k with
  | 0 => ("EngravedLines$Skyline", "inked", "[Z", true)
  | 1 => ("EngravedLines$Skyline", "uppers", "[I", true)
  | _ => ("EngravedLines$Skyline", "lowers", "[I", true)
def tyX5 : Nat → FieldType := fun k => match k with
  | 0 => .array .boolean
  | 1 => .array .int
  | _ => .array .int
abbrev wsX50 : List Cond := u_ws RX5 TX5 3
theorem nmX5 : ∀ a, a < 3 → ∀ b, b < 3 → a ≠ b → (TX5 a).2.1 ≠ (TX5 b).2.1 := by decide +kernel
theorem tyX5_ok : ∀ k, k < 3 → parseFieldDescriptor (TX5 k).2.2.1 = some (tyX5 k) := by decide +kernel
abbrev cX5_init : ByteArray := prog_7_method_1_code
def yX5_init : MethodName := ⟨RX5, "<init>", "()V"⟩
abbrev cX5_trace : ByteArray := prog_7_method_2_code
def yX5_trace : MethodName := ⟨RX5, "trace", "(LEngravedLines$Signs;LEngravedLines$Stretch;)V"⟩
abbrev cX5_hasInk : ByteArray := prog_7_method_3_code
def yX5_hasInk : MethodName := ⟨RX5, "hasInk", "(I)Z"⟩
abbrev cX5_upper : ByteArray := prog_7_method_4_code
def yX5_upper : MethodName := ⟨RX5, "upper", "(I)I"⟩
abbrev cX5_lower : ByteArray := prog_7_method_5_code
def yX5_lower : MethodName := ⟨RX5, "lower", "(I)I"⟩
abbrev cX5_ink : ByteArray := prog_7_method_6_code
def yX5_ink : MethodName := ⟨RX5, "ink", "(IIII)V"⟩
def RX6 : String := "EngravedLines$Stretch"
def TX6 : u_T := fun k => match k with
  | 0 => ("EngravedLines$Stretch", "ideals", "[F", true)
  | 1 => ("EngravedLines$Stretch", "flexes", "[F", true)
  | 2 => ("EngravedLines$Stretch", "rods", "[F", true)
  | 3 => ("EngravedLines$Stretch", "areHeld", "[Z", true)
  | 4 => ("EngravedLines$Stretch", "lengths", "[F", true)
  | 5 => ("EngravedLines$Stretch", "places", "[F", true)
  | 6 => ("EngravedLines$Stretch", "first", "I", false)
  | 7 => ("EngravedLines$Stretch", "size", "I", false)
  | 8 => ("EngravedLines$Stretch", "lineWidth", "F", false)
  | _ => ("EngravedLines$Stretch", "pull", "F", false)
def tyX6 : Nat → FieldType := fun k => match k with
  | 0 => .array .float
  | 1 => .array .float
  | 2 => .array .float
  | 3 => .array .boolean
  | 4 => .array .float
  | 5 => .array .float
  | 6 => .int
  | 7 => .int
  | 8 => .float
  | _ => .float
abbrev wsX60 : List Cond := u_ws RX6 TX6 10
theorem nmX6 : ∀ a, a < 10 → ∀ b, b < 10 → a ≠ b → (TX6 a).2.1 ≠ (TX6 b).2.1 := by decide +kernel
theorem tyX6_ok : ∀ k, k < 10 → parseFieldDescriptor (TX6 k).2.2.1 = some (tyX6 k) := by decide +kernel
abbrev cX6_init : ByteArray := prog_8_method_1_code
def yX6_init : MethodName := ⟨RX6, "<init>", "()V"⟩
abbrev cX6_take : ByteArray := prog_8_method_2_code
def yX6_take : MethodName := ⟨RX6, "take", "(LEngravedLines$Signs;III)V"⟩
abbrev cX6_fits : ByteArray := prog_8_method_3_code
def yX6_fits : MethodName := ⟨RX6, "fits", "()Z"⟩
abbrev cX6_badness : ByteArray := prog_8_method_4_code
def yX6_badness : MethodName := ⟨RX6, "badness", "()F"⟩
abbrev cX6_settle : ByteArray := prog_8_method_5_code
def yX6_settle : MethodName := ⟨RX6, "settle", "(LEngravedLines$Signs;III)V"⟩
abbrev cX6_heldCount : ByteArray := prog_8_method_6_code
def yX6_heldCount : MethodName := ⟨RX6, "heldCount", "()I"⟩
abbrev cX6_length : ByteArray := prog_8_method_7_code
def yX6_length : MethodName := ⟨RX6, "length", "(I)F"⟩
abbrev cX6_place : ByteArray := prog_8_method_8_code
def yX6_place : MethodName := ⟨RX6, "place", "(I)F"⟩
abbrev cX6_cell : ByteArray := prog_8_method_9_code
def yX6_cell : MethodName := ⟨RX6, "cell", "(I)I"⟩
abbrev cX6_sum : ByteArray := prog_8_method_10_code
def yX6_sum : MethodName := ⟨RX6, "sum", "([F)F"⟩
abbrev cX6_balance : ByteArray := prog_8_method_11_code
def yX6_balance : MethodName := ⟨RX6, "balance", "()F"⟩
abbrev cX6_holdMore : ByteArray := prog_8_method_12_code
def yX6_holdMore : MethodName := ⟨RX6, "holdMore", "()Z"⟩
abbrev cX6_stretched : ByteArray := prog_8_method_13_code
def yX6_stretched : MethodName := ⟨RX6, "stretched", "(I)F"⟩
def RX7 : String := "EngravedLines$Tape"
def TX7 : u_T := fun k => match k with
  | 0 => ("EngravedLines$Tape", "bytes", "[I", true)
  | 1 => ("EngravedLines$Tape", "size", "I", false)
  | 2 => ("EngravedLines$Tape", "signs", "LEngravedLines$Signs;", true)
  | 3 => ("EngravedLines$Tape", "signCount", "I", false)
  | _ => ("EngravedLines$Tape", "next", "I", false)
def tyX7 : Nat → FieldType := fun k => match k with
  | 0 => .array .int
  | 1 => .int
  | 2 => .object "EngravedLines$Signs"
  | 3 => .int
  | _ => .int
abbrev wsX70 : List Cond := u_ws RX7 TX7 5
theorem nmX7 : ∀ a, a < 5 → ∀ b, b < 5 → a ≠ b → (TX7 a).2.1 ≠ (TX7 b).2.1 := by decide +kernel
theorem tyX7_ok : ∀ k, k < 5 → parseFieldDescriptor (TX7 k).2.2.1 = some (tyX7 k) := by decide +kernel
abbrev cX7_init : ByteArray := prog_9_method_1_code
def yX7_init : MethodName := ⟨RX7, "<init>", "()V"⟩
abbrev cX7_append : ByteArray := prog_9_method_2_code
def yX7_append : MethodName := ⟨RX7, "append", "(I)V"⟩
abbrev cX7_readMusic : ByteArray := prog_9_method_3_code
def yX7_readMusic : MethodName := ⟨RX7, "readMusic", "()I"⟩
abbrev cX7_isNext : ByteArray := prog_9_method_4_code
def yX7_isNext : MethodName := ⟨RX7, "isNext", "(C)Z"⟩
abbrev cX7_readSign : ByteArray := prog_9_method_5_code
def yX7_readSign : MethodName := ⟨RX7, "readSign", "()Z"⟩
abbrev cX7_readNumber : ByteArray := prog_9_method_6_code
def yX7_readNumber : MethodName := ⟨RX7, "readNumber", "(II)I"⟩
abbrev cX7_digit : ByteArray := prog_9_method_7_code
def yX7_digit : MethodName := ⟨RX7, "digit", "()I"⟩
abbrev cX7_readAdorn : ByteArray := prog_9_method_8_code
def yX7_readAdorn : MethodName := ⟨RX7, "readAdorn", "()I"⟩
abbrev cX7_keep : ByteArray := prog_9_method_9_code
def yX7_keep : MethodName := ⟨RX7, "keep", "(IIII)V"⟩
def RX8 : String := "EngravedLines"
def TX8 : u_T := fun k => match k with
  | 0 => ("EngravedLines", "now", "LEngravedLines$Page;", true)
  | 1 => ("EngravedLines", "kept", "LEngravedLines$Page;", true)
  | 2 => ("EngravedLines", "hasImage", "Z", false)
  | 3 => ("EngravedLines", "stretch", "LEngravedLines$Stretch;", true)
  | 4 => ("EngravedLines", "otherStretch", "LEngravedLines$Stretch;", true)
  | 5 => ("EngravedLines", "skyline", "LEngravedLines$Skyline;", true)
  | 6 => ("EngravedLines", "nextSkyline", "LEngravedLines$Skyline;", true)
  | 7 => ("EngravedLines", "best", "LEngravedLines$Best;", true)
  | 8 => ("EngravedLines", "otherBest", "LEngravedLines$Best;", true)
  | 9 => ("EngravedLines", "otherColumns", "LEngravedLines$Signs;", true)
  | 10 => ("EngravedLines", "tape", "LEngravedLines$Tape;", true)
  | 11 => ("EngravedLines", "sheets", "LEngravedLines$Sheets;", true)
  | _ => ("EngravedLines", "refusals", "[I", true)
def tyX8 : Nat → FieldType := fun k => match k with
  | 0 => .object "EngravedLines$Page"
  | 1 => .object "EngravedLines$Page"
  | 2 => .boolean
  | 3 => .object "EngravedLines$Stretch"
  | 4 => .object "EngravedLines$Stretch"
  | 5 => .object "EngravedLines$Skyline"
  | 6 => .object "EngravedLines$Skyline"
  | 7 => .object "EngravedLines$Best"
  | 8 => .object "EngravedLines$Best"
  | 9 => .object "EngravedLines$Signs"
  | 10 => .object "EngravedLines$Tape"
  | 11 => .object "EngravedLines$Sheets"
  | _ => .array .int
abbrev wsX80 : List Cond := u_ws RX8 TX8 13
theorem nmX8 : ∀ a, a < 13 → ∀ b, b < 13 → a ≠ b → (TX8 a).2.1 ≠ (TX8 b).2.1 := by decide +kernel
theorem tyX8_ok : ∀ k, k < 13 → parseFieldDescriptor (TX8 k).2.2.1 = some (tyX8 k) := by decide +kernel
abbrev cX8_init : ByteArray := prog_1_method_1_code
def yX8_init : MethodName := ⟨RX8, "<init>", "()V"⟩
abbrev cX8_add : ByteArray := prog_1_method_2_code
def yX8_add : MethodName := ⟨RX8, "add", "(II)I"⟩
abbrev cX8_drop : ByteArray := prog_1_method_3_code
def yX8_drop : MethodName := ⟨RX8, "drop", "()I"⟩
abbrev cX8_set : ByteArray := prog_1_method_4_code
def yX8_set : MethodName := ⟨RX8, "set", "(III)I"⟩
abbrev cX8_of : ByteArray := prog_1_method_5_code
def yX8_of : MethodName := ⟨RX8, "of", "(II)I"⟩
abbrev cX8_spring : ByteArray := prog_1_method_6_code
def yX8_spring : MethodName := ⟨RX8, "spring", "(II)I"⟩
abbrev cX8_width : ByteArray := prog_1_method_7_code
def yX8_width : MethodName := ⟨RX8, "width", "(I)I"⟩
abbrev cX8_force : ByteArray := prog_1_method_8_code
def yX8_force : MethodName := ⟨RX8, "force", "(II)I"⟩
abbrev cX8_held : ByteArray := prog_1_method_9_code
def yX8_held : MethodName := ⟨RX8, "held", "(II)I"⟩
abbrev cX8_at : ByteArray := prog_1_method_10_code
def yX8_at : MethodName := ⟨RX8, "at", "(IIII)I"⟩
abbrev cX8_bad : ByteArray := prog_1_method_11_code
def yX8_bad : MethodName := ⟨RX8, "bad", "(II)I"⟩
abbrev cX8_sky : ByteArray := prog_1_method_12_code
def yX8_sky : MethodName := ⟨RX8, "sky", "(IIII)I"⟩
abbrev cX8_lines : ByteArray := prog_1_method_14_code
def yX8_lines : MethodName := ⟨RX8, "lines", "()I"⟩
abbrev cX8_line : ByteArray := prog_1_method_15_code
def yX8_line : MethodName := ⟨RX8, "line", "(II)I"⟩
abbrev cX8_total : ByteArray := prog_1_method_16_code
def yX8_total : MethodName := ⟨RX8, "total", "()I"⟩
abbrev cX8_moved : ByteArray := prog_1_method_17_code
def yX8_moved : MethodName := ⟨RX8, "moved", "(III)I"⟩
abbrev cX8_beam : ByteArray := prog_1_method_18_code
def yX8_beam : MethodName := ⟨RX8, "beam", "(III)I"⟩
abbrev cX8_slur : ByteArray := prog_1_method_19_code
def yX8_slur : MethodName := ⟨RX8, "slur", "(III)I"⟩
abbrev cX8_feed : ByteArray := prog_1_method_20_code
def yX8_feed : MethodName := ⟨RX8, "feed", "(I)I"⟩
abbrev cX8_music : ByteArray := prog_1_method_21_code
def yX8_music : MethodName := ⟨RX8, "music", "()I"⟩
abbrev cX8_shelf : ByteArray := prog_1_method_22_code
def yX8_shelf : MethodName := ⟨RX8, "shelf", "(III)I"⟩
abbrev cX8_store : ByteArray := prog_1_method_23_code
def yX8_store : MethodName := ⟨RX8, "store", "(III)I"⟩
abbrev cX8_fetch : ByteArray := prog_1_method_24_code
def yX8_fetch : MethodName := ⟨RX8, "fetch", "(III)I"⟩
abbrev cX8_image : ByteArray := prog_1_method_32_code
def yX8_image : MethodName := ⟨RX8, "image", "()I"⟩
abbrev cX8_restore : ByteArray := prog_1_method_33_code
def yX8_restore : MethodName := ⟨RX8, "restore", "()I"⟩
abbrev cX8_count : ByteArray := prog_1_method_34_code
def yX8_count : MethodName := ⟨RX8, "count", "(I)I"⟩
abbrev cX8_refuse : ByteArray := prog_1_method_36_code
def yX8_refuse : MethodName := ⟨RX8, "refuse", "(I)I"⟩
abbrev cX8_isColumn : ByteArray := prog_1_method_38_code
def yX8_isColumn : MethodName := ⟨RX8, "isColumn", "(I)Z"⟩
abbrev cX8_isStretch : ByteArray := prog_1_method_39_code
def yX8_isStretch : MethodName := ⟨RX8, "isStretch", "(II)Z"⟩
abbrev cX8_findBest : ByteArray := prog_1_method_40_code
def yX8_findBest : MethodName := ⟨RX8, "findBest", "()V"⟩
abbrev cX8_traceLine : ByteArray := prog_1_method_41_code
def yX8_traceLine : MethodName := ⟨RX8, "traceLine", "(LEngravedLines$Skyline;II)V"⟩
abbrev cX8_distance : ByteArray := prog_1_method_42_code
def yX8_distance : MethodName := ⟨RX8, "distance", "(IIII)I"⟩
abbrev cX8_standsOtherwise : ByteArray := prog_1_method_43_code
def yX8_standsOtherwise : MethodName := ⟨RX8, "standsOtherwise", "(I)Z"⟩
abbrev cX8_areNotes : ByteArray := prog_1_method_44_code
def yX8_areNotes : MethodName := ⟨RX8, "areNotes", "(II)Z"⟩
abbrev cX8_beamRise : ByteArray := prog_1_method_45_code
def yX8_beamRise : MethodName := ⟨RX8, "beamRise", "(II)F"⟩
abbrev cX8_beamSlope : ByteArray := prog_1_method_46_code
def yX8_beamSlope : MethodName := ⟨RX8, "beamSlope", "(II)F"⟩
abbrev cX8_beamGoesUp : ByteArray := prog_1_method_47_code
def yX8_beamGoesUp : MethodName := ⟨RX8, "beamGoesUp", "(II)Z"⟩
abbrev cX8_beamLift : ByteArray := prog_1_method_48_code
def yX8_beamLift : MethodName := ⟨RX8, "beamLift", "(II)F"⟩
abbrev cX8_slurHeight : ByteArray := prog_1_method_49_code
def yX8_slurHeight : MethodName := ⟨RX8, "slurHeight", "(IIZ)I"⟩
abbrev cX8_inkTowards : ByteArray := prog_1_method_50_code
def yX8_inkTowards : MethodName := ⟨RX8, "inkTowards", "(IZ)I"⟩
abbrev cX8_countNotes : ByteArray := prog_1_method_51_code
def yX8_countNotes : MethodName := ⟨RX8, "countNotes", "()I"⟩
abbrev cX8_sumDurations : ByteArray := prog_1_method_52_code
def yX8_sumDurations : MethodName := ⟨RX8, "sumDurations", "()I"⟩
abbrev cX8_isHeight : ByteArray := prog_1_method_53_code
def yX8_isHeight : MethodName := ⟨RX8, "isHeight", "(I)Z"⟩
abbrev cX8_isWithin : ByteArray := prog_1_method_54_code
def yX8_isWithin : MethodName := ⟨RX8, "isWithin", "(III)Z"⟩
abbrev cX8_isAllowed : ByteArray := prog_1_method_55_code
def yX8_isAllowed : MethodName := ⟨RX8, "isAllowed", "(II)Z"⟩
abbrev cX8_floatBits : ByteArray := prog_1_method_56_code
def yX8_floatBits : MethodName := ⟨RX8, "floatBits", "(F)I"⟩
abbrev cX8_readInt : ByteArray := prog_1_method_57_code
def yX8_readInt : MethodName := ⟨RX8, "readInt", "([II)I"⟩
abbrev cX8_writeInt : ByteArray := prog_1_method_58_code
def yX8_writeInt : MethodName := ⟨RX8, "writeInt", "([III)V"⟩
abbrev cX8_readFloat : ByteArray := prog_1_method_59_code
def yX8_readFloat : MethodName := ⟨RX8, "readFloat", "([FI)F"⟩
abbrev cX8_writeFloat : ByteArray := prog_1_method_60_code
def yX8_writeFloat : MethodName := ⟨RX8, "writeFloat", "([FIF)V"⟩
abbrev cX8_readFlag : ByteArray := prog_1_method_63_code
def yX8_readFlag : MethodName := ⟨RX8, "readFlag", "([ZI)Z"⟩
abbrev cX8_writeFlag : ByteArray := prog_1_method_64_code
def yX8_writeFlag : MethodName := ⟨RX8, "writeFlag", "([ZIZ)V"⟩
abbrev cX8_copy : ByteArray := prog_1_method_65_code
def yX8_copy : MethodName := ⟨RX8, "copy", "([I[I)V"⟩
def RX9 : String := "EngravedLinesModel"
def TX9 : u_T := fun k => match k with
  | _ => ("", "", "", false)
def tyX9 : Nat → FieldType := fun k => match k with
  | _ => .int
abbrev wsX90 : List Cond := u_ws RX9 TX9 0
theorem nmX9 : ∀ a, a < 0 → ∀ b, b < 0 → a ≠ b → (TX9 a).2.1 ≠ (TX9 b).2.1 := by decide +kernel
theorem tyX9_ok : ∀ k, k < 0 → parseFieldDescriptor (TX9 k).2.2.1 = some (tyX9 k) := by decide +kernel
def RJxf58ca : String := "java/lang/Float"
def TJxf58ca : u_T := fun k => match k with
  | _ => ("", "", "", false)
def tyJxf58ca : Nat → FieldType := fun k => match k with
  | _ => .int
abbrev wsJxf58ca0 : List Cond := u_ws RJxf58ca TJxf58ca 0
theorem nmJxf58ca : ∀ a, a < 0 → ∀ b, b < 0 → a ≠ b → (TJxf58ca a).2.1 ≠ (TJxf58ca b).2.1 := by decide +kernel
theorem tyJxf58ca_ok : ∀ k, k < 0 → parseFieldDescriptor (TJxf58ca k).2.2.1 = some (tyJxf58ca k) := by decide +kernel
abbrev cJxf58ca_isNaN_12338 : ByteArray := prog_12_method_6_code
def yJxf58ca_isNaN_12338 : MethodName := ⟨RJxf58ca, "isNaN", "(F)Z"⟩
abbrev cJxf58ca_floatToIntBits_5c35a : ByteArray := prog_12_method_24_code
def yJxf58ca_floatToIntBits_5c35a : MethodName := ⟨RJxf58ca, "floatToIntBits", "(F)I"⟩
def RJ9 : String := "java/lang/Math"
def TJ9 : u_T := fun k => match k with
  | _ => ("", "", "", false)
def tyJ9 : Nat → FieldType := fun k => match k with
  | _ => .int
abbrev wsJ90 : List Cond := u_ws RJ9 TJ9 0
theorem nmJ9 : ∀ a, a < 0 → ∀ b, b < 0 → a ≠ b → (TJ9 a).2.1 ≠ (TJ9 b).2.1 := by decide +kernel
theorem tyJ9_ok : ∀ k, k < 0 → parseFieldDescriptor (TJ9 k).2.2.1 = some (tyJ9 k) := by decide +kernel
abbrev cJ9_abs_f6c48 : ByteArray := prog_13_method_63_code
def yJ9_abs_f6c48 : MethodName := ⟨RJ9, "abs", "(F)F"⟩
abbrev cJ9_max_7cf53 : ByteArray := prog_13_method_65_code
def yJ9_max_7cf53 : MethodName := ⟨RJ9, "max", "(II)I"⟩
abbrev cJ9_min_7cf53 : ByteArray := prog_13_method_69_code
def yJ9_min_7cf53 : MethodName := ⟨RJ9, "min", "(II)I"⟩
abbrev cJ9_min_e70c8 : ByteArray := prog_13_method_71_code
def yJ9_min_e70c8 : MethodName := ⟨RJ9, "min", "(FF)F"⟩
def RJ0 : String := "java/lang/String"
def TJ0 : u_T := fun k => match k with
  | _ => ("", "", "", false)
def tyJ0 : Nat → FieldType := fun k => match k with
  | _ => .int
abbrev wsJ00 : List Cond := u_ws RJ0 TJ0 0
theorem nmJ0 : ∀ a, a < 0 → ∀ b, b < 0 → a ≠ b → (TJ0 a).2.1 ≠ (TJ0 b).2.1 := by decide +kernel
theorem tyJ0_ok : ∀ k, k < 0 → parseFieldDescriptor (TJ0 k).2.2.1 = some (tyJ0 k) := by decide +kernel
abbrev cJ0_length_8abf5 : ByteArray := prog_14_method_54_code
def yJ0_length_8abf5 : MethodName := ⟨RJ0, "length", "()I"⟩
abbrev cJ0_charAt_5068e : ByteArray := prog_14_method_56_code
def yJ0_charAt_5068e : MethodName := ⟨RJ0, "charAt", "(I)C"⟩
abbrev cJ0_coder_7d493 : ByteArray := prog_14_method_152_code
def yJ0_coder_7d493 : MethodName := ⟨RJ0, "coder", "()B"⟩
abbrev cJ0_isLatin1_aae02 : ByteArray := prog_14_method_154_code
def yJ0_isLatin1_aae02 : MethodName := ⟨RJ0, "isLatin1", "()Z"⟩
abbrev cJ0_checkIndex_df160 : ByteArray := prog_14_method_155_code
def yJ0_checkIndex_df160 : MethodName := ⟨RJ0, "checkIndex", "(II)V"⟩
def RJ1 : String := "java/lang/StringLatin1"
def TJ1 : u_T := fun k => match k with
  | _ => ("", "", "", false)
def tyJ1 : Nat → FieldType := fun k => match k with
  | _ => .int
abbrev wsJ10 : List Cond := u_ws RJ1 TJ1 0
theorem nmJ1 : ∀ a, a < 0 → ∀ b, b < 0 → a ≠ b → (TJ1 a).2.1 ≠ (TJ1 b).2.1 := by decide +kernel
theorem tyJ1_ok : ∀ k, k < 0 → parseFieldDescriptor (TJ1 k).2.2.1 = some (tyJ1 k) := by decide +kernel
abbrev cJ1_charAt_3b067 : ByteArray := prog_15_method_2_code
def yJ1_charAt_3b067 : MethodName := ⟨RJ1, "charAt", "([BI)C"⟩
def RJ2 : String := "java/lang/StringUTF16"
def TJ2 : u_T := fun k => match k with
  | _ => ("", "", "", false)
def tyJ2 : Nat → FieldType := fun k => match k with
  | _ => .int
abbrev wsJ20 : List Cond := u_ws RJ2 TJ2 0
theorem nmJ2 : ∀ a, a < 0 → ∀ b, b < 0 → a ≠ b → (TJ2 a).2.1 ≠ (TJ2 b).2.1 := by decide +kernel
theorem tyJ2_ok : ∀ k, k < 0 → parseFieldDescriptor (TJ2 k).2.2.1 = some (tyJ2 k) := by decide +kernel
abbrev cJ2_getChar_3b067 : ByteArray := prog_16_method_5_code
def yJ2_getChar_3b067 : MethodName := ⟨RJ2, "getChar", "([BI)C"⟩
abbrev cJ2_length_9d52b : ByteArray := prog_16_method_6_code
def yJ2_length_9d52b : MethodName := ⟨RJ2, "length", "([B)I"⟩
abbrev cJ2_charAt_3b067 : ByteArray := prog_16_method_83_code
def yJ2_charAt_3b067 : MethodName := ⟨RJ2, "charAt", "([BI)C"⟩
abbrev cJ2_checkIndex_2214a : ByteArray := prog_16_method_91_code
def yJ2_checkIndex_2214a : MethodName := ⟨RJ2, "checkIndex", "(I[B)V"⟩
def RJ3 : String := "jdk/internal/util/Preconditions"
def TJ3 : u_T := fun k => match k with
  | _ => ("", "", "", false)
def tyJ3 : Nat → FieldType := fun k => match k with
  | _ => .int
abbrev wsJ30 : List Cond := u_ws RJ3 TJ3 0
theorem nmJ3 : ∀ a, a < 0 → ∀ b, b < 0 → a ≠ b → (TJ3 a).2.1 ≠ (TJ3 b).2.1 := by decide +kernel
theorem tyJ3_ok : ∀ k, k < 0 → parseFieldDescriptor (TJ3 k).2.2.1 = some (tyJ3 k) := by decide +kernel
abbrev cJ3_checkIndex_8e157 : ByteArray := prog_17_method_11_code
def yJ3_checkIndex_8e157 : MethodName := ⟨RJ3, "checkIndex", "(IILjava/util/function/BiFunction;)I"⟩
def RL : String := "EngravedLinesLaw"
abbrev cL_mod : ByteArray := method_2_code
def yL_mod : MethodName := ⟨RL, "mod", "(II)I"⟩
abbrev cL_cell : ByteArray := method_3_code
def yL_cell : MethodName := ⟨RL, "cell", "([II)I"⟩
abbrev cL_columns : ByteArray := method_7_code
def yL_columns : MethodName := ⟨RL, "columns", "(LEngravedLines;[I[IIII)Z"⟩
abbrev cL_f : ByteArray := method_8_code
def yL_f : MethodName := ⟨RL, "f", "(I)F"⟩
abbrev cL_stretch : ByteArray := method_9_code
def yL_stretch : MethodName := ⟨RL, "stretch", "(LEngravedLines;[III)Z"⟩
abbrev cL_rodOf : ByteArray := method_10_code
def yL_rodOf : MethodName := ⟨RL, "rodOf", "(LEngravedLines;I)F"⟩
abbrev cL_lines : ByteArray := method_11_code
def yL_lines : MethodName := ⟨RL, "lines", "(LEngravedLines;[II)Z"⟩
abbrev cL_apart : ByteArray := method_12_code
def yL_apart : MethodName := ⟨RL, "apart", "(LEngravedLines;IIIII)Z"⟩
abbrev cL_beam : ByteArray := method_13_code
def yL_beam : MethodName := ⟨RL, "beam", "(LEngravedLines;[III)Z"⟩
abbrev cL_slur : ByteArray := method_14_code
def yL_slur : MethodName := ⟨RL, "slur", "(LEngravedLines;II)Z"⟩
abbrev cL_moved : ByteArray := method_15_code
def yL_moved : MethodName := ⟨RL, "moved", "(LEngravedLines;[II)Z"⟩
abbrev cL_law : ByteArray := code
def yL_law : MethodName := ⟨RL, "law", "([I)Z"⟩
abbrev vwCl : List vw_C := [(RX0, TX0, 7), (RX1, TX1, 6), (RX3, TX3, 3), (RX4, TX4, 1), (RX5, TX5, 3), (RX6, TX6, 10), (RX7, TX7, 5), (RX8, TX8, 13)]
/-- the decoded code of a method: pc, instruction, length -/
abbrev pTab : Type := List (Nat × Instr × Nat)
def pTabOk (c : ByteArray) (t : pTab) : Bool := t.all fun q => decide (decode c q.1 = .ok (q.2.1, q.2.2))
