section
-- ===== PART A: goes FIRST, ahead of the names: the tables' words, and 'selects' of the private methods out of them =====
/-- a private method of a class that the tables say can be made, by its rows of tables_1 -/
def lw_okq (q : MethodName × Nat) : Prop := (q.1.cls ≠ "java/lang/invoke/MethodHandle" ∧ q.1.cls ≠ "java/lang/invoke/VarHandle") ∧ Cond.instantiable q.1.cls q.2 ∈ tables_1 ∧ Cond.privateMethod q.1 ∈ tables_1 ∧ Cond.instanceMethod q.1 ∈ tables_1
theorem lw_p0 : lw_okq (⟨"EngravedLines", "refuse", "(I)I"⟩, 13) := ⟨⟨by decide +kernel, by decide +kernel⟩, List.mem_of_getElem? (i := 15) (by decide +kernel), List.mem_of_getElem? (i := 257) (by decide +kernel), List.mem_of_getElem? (i := 258) (by decide +kernel)⟩
theorem lw_p1 : lw_okq (⟨"EngravedLines", "isColumn", "(I)Z"⟩, 13) := ⟨⟨by decide +kernel, by decide +kernel⟩, List.mem_of_getElem? (i := 15) (by decide +kernel), List.mem_of_getElem? (i := 281) (by decide +kernel), List.mem_of_getElem? (i := 282) (by decide +kernel)⟩
theorem lw_p2 : lw_okq (⟨"EngravedLines", "isStretch", "(II)Z"⟩, 13) := ⟨⟨by decide +kernel, by decide +kernel⟩, List.mem_of_getElem? (i := 15) (by decide +kernel), List.mem_of_getElem? (i := 352) (by decide +kernel), List.mem_of_getElem? (i := 353) (by decide +kernel)⟩
theorem lw_p3 : lw_okq (⟨"EngravedLines$Stretch", "balance", "()F"⟩, 10) := ⟨⟨by decide +kernel, by decide +kernel⟩, List.mem_of_getElem? (i := 63) (by decide +kernel), List.mem_of_getElem? (i := 373) (by decide +kernel), List.mem_of_getElem? (i := 374) (by decide +kernel)⟩
theorem lw_p4 : lw_okq (⟨"EngravedLines$Stretch", "holdMore", "()Z"⟩, 10) := ⟨⟨by decide +kernel, by decide +kernel⟩, List.mem_of_getElem? (i := 63) (by decide +kernel), List.mem_of_getElem? (i := 383) (by decide +kernel), List.mem_of_getElem? (i := 384) (by decide +kernel)⟩
theorem lw_p5 : lw_okq (⟨"EngravedLines$Stretch", "stretched", "(I)F"⟩, 10) := ⟨⟨by decide +kernel, by decide +kernel⟩, List.mem_of_getElem? (i := 63) (by decide +kernel), List.mem_of_getElem? (i := 387) (by decide +kernel), List.mem_of_getElem? (i := 388) (by decide +kernel)⟩
theorem lw_p6 : lw_okq (⟨"EngravedLines$Stretch", "sum", "([F)F"⟩, 10) := ⟨⟨by decide +kernel, by decide +kernel⟩, List.mem_of_getElem? (i := 63) (by decide +kernel), List.mem_of_getElem? (i := 425) (by decide +kernel), List.mem_of_getElem? (i := 426) (by decide +kernel)⟩
theorem lw_p7 : lw_okq (⟨"EngravedLines", "traceLine", "(LEngravedLines$Skyline;II)V"⟩, 13) := ⟨⟨by decide +kernel, by decide +kernel⟩, List.mem_of_getElem? (i := 15) (by decide +kernel), List.mem_of_getElem? (i := 438) (by decide +kernel), List.mem_of_getElem? (i := 439) (by decide +kernel)⟩
theorem lw_p8 : lw_okq (⟨"EngravedLines$Skyline", "ink", "(IIII)V"⟩, 3) := ⟨⟨by decide +kernel, by decide +kernel⟩, List.mem_of_getElem? (i := 105) (by decide +kernel), List.mem_of_getElem? (i := 454) (by decide +kernel), List.mem_of_getElem? (i := 455) (by decide +kernel)⟩
theorem lw_p9 : lw_okq (⟨"EngravedLines", "distance", "(IIII)I"⟩, 13) := ⟨⟨by decide +kernel, by decide +kernel⟩, List.mem_of_getElem? (i := 15) (by decide +kernel), List.mem_of_getElem? (i := 483) (by decide +kernel), List.mem_of_getElem? (i := 484) (by decide +kernel)⟩
theorem lw_p10 : lw_okq (⟨"EngravedLines", "findBest", "()V"⟩, 13) := ⟨⟨by decide +kernel, by decide +kernel⟩, List.mem_of_getElem? (i := 15) (by decide +kernel), List.mem_of_getElem? (i := 492) (by decide +kernel), List.mem_of_getElem? (i := 493) (by decide +kernel)⟩
theorem lw_p11 : lw_okq (⟨"EngravedLines$Best", "reach", "(ILEngravedLines$Signs;I)V"⟩, 7) := ⟨⟨by decide +kernel, by decide +kernel⟩, List.mem_of_getElem? (i := 121) (by decide +kernel), List.mem_of_getElem? (i := 503) (by decide +kernel), List.mem_of_getElem? (i := 504) (by decide +kernel)⟩
theorem lw_p12 : lw_okq (⟨"EngravedLines$Best", "traceBack", "(I)V"⟩, 7) := ⟨⟨by decide +kernel, by decide +kernel⟩, List.mem_of_getElem? (i := 121) (by decide +kernel), List.mem_of_getElem? (i := 512) (by decide +kernel), List.mem_of_getElem? (i := 513) (by decide +kernel)⟩
theorem lw_p13 : lw_okq (⟨"EngravedLines", "standsOtherwise", "(I)Z"⟩, 13) := ⟨⟨by decide +kernel, by decide +kernel⟩, List.mem_of_getElem? (i := 15) (by decide +kernel), List.mem_of_getElem? (i := 543) (by decide +kernel), List.mem_of_getElem? (i := 544) (by decide +kernel)⟩
theorem lw_p14 : lw_okq (⟨"EngravedLines", "areNotes", "(II)Z"⟩, 13) := ⟨⟨by decide +kernel, by decide +kernel⟩, List.mem_of_getElem? (i := 15) (by decide +kernel), List.mem_of_getElem? (i := 551) (by decide +kernel), List.mem_of_getElem? (i := 552) (by decide +kernel)⟩
theorem lw_p15 : lw_okq (⟨"EngravedLines", "beamRise", "(II)F"⟩, 13) := ⟨⟨by decide +kernel, by decide +kernel⟩, List.mem_of_getElem? (i := 15) (by decide +kernel), List.mem_of_getElem? (i := 555) (by decide +kernel), List.mem_of_getElem? (i := 556) (by decide +kernel)⟩
def lw_privs_1 : List (MethodName × Nat) := [(⟨"EngravedLines", "refuse", "(I)I"⟩, 13), (⟨"EngravedLines", "isColumn", "(I)Z"⟩, 13), (⟨"EngravedLines", "isStretch", "(II)Z"⟩, 13), (⟨"EngravedLines$Stretch", "balance", "()F"⟩, 10), (⟨"EngravedLines$Stretch", "holdMore", "()Z"⟩, 10), (⟨"EngravedLines$Stretch", "stretched", "(I)F"⟩, 10), (⟨"EngravedLines$Stretch", "sum", "([F)F"⟩, 10), (⟨"EngravedLines", "traceLine", "(LEngravedLines$Skyline;II)V"⟩, 13), (⟨"EngravedLines$Skyline", "ink", "(IIII)V"⟩, 3), (⟨"EngravedLines", "distance", "(IIII)I"⟩, 13), (⟨"EngravedLines", "findBest", "()V"⟩, 13), (⟨"EngravedLines$Best", "reach", "(ILEngravedLines$Signs;I)V"⟩, 7), (⟨"EngravedLines$Best", "traceBack", "(I)V"⟩, 7), (⟨"EngravedLines", "standsOtherwise", "(I)Z"⟩, 13), (⟨"EngravedLines", "areNotes", "(II)Z"⟩, 13), (⟨"EngravedLines", "beamRise", "(II)F"⟩, 13)]
theorem lw_r1 : ∀ q ∈ lw_privs_1, lw_okq q := List.forall_mem_cons.mpr ⟨lw_p0, List.forall_mem_cons.mpr ⟨lw_p1, List.forall_mem_cons.mpr ⟨lw_p2, List.forall_mem_cons.mpr ⟨lw_p3, List.forall_mem_cons.mpr ⟨lw_p4, List.forall_mem_cons.mpr ⟨lw_p5, List.forall_mem_cons.mpr ⟨lw_p6, List.forall_mem_cons.mpr ⟨lw_p7, List.forall_mem_cons.mpr ⟨lw_p8, List.forall_mem_cons.mpr ⟨lw_p9, List.forall_mem_cons.mpr ⟨lw_p10, List.forall_mem_cons.mpr ⟨lw_p11, List.forall_mem_cons.mpr ⟨lw_p12, List.forall_mem_cons.mpr ⟨lw_p13, List.forall_mem_cons.mpr ⟨lw_p14, List.forall_mem_cons.mpr ⟨lw_p15, fun _ h => absurd h List.not_mem_nil⟩⟩⟩⟩⟩⟩⟩⟩⟩⟩⟩⟩⟩⟩⟩⟩
theorem lw_p16 : lw_okq (⟨"EngravedLines", "beamSlope", "(II)F"⟩, 13) := ⟨⟨by decide +kernel, by decide +kernel⟩, List.mem_of_getElem? (i := 15) (by decide +kernel), List.mem_of_getElem? (i := 560) (by decide +kernel), List.mem_of_getElem? (i := 561) (by decide +kernel)⟩
theorem lw_p17 : lw_okq (⟨"EngravedLines", "beamGoesUp", "(II)Z"⟩, 13) := ⟨⟨by decide +kernel, by decide +kernel⟩, List.mem_of_getElem? (i := 15) (by decide +kernel), List.mem_of_getElem? (i := 566) (by decide +kernel), List.mem_of_getElem? (i := 567) (by decide +kernel)⟩
theorem lw_p18 : lw_okq (⟨"EngravedLines", "beamLift", "(II)F"⟩, 13) := ⟨⟨by decide +kernel, by decide +kernel⟩, List.mem_of_getElem? (i := 15) (by decide +kernel), List.mem_of_getElem? (i := 570) (by decide +kernel), List.mem_of_getElem? (i := 571) (by decide +kernel)⟩
theorem lw_p19 : lw_okq (⟨"EngravedLines", "slurHeight", "(IIZ)I"⟩, 13) := ⟨⟨by decide +kernel, by decide +kernel⟩, List.mem_of_getElem? (i := 15) (by decide +kernel), List.mem_of_getElem? (i := 579) (by decide +kernel), List.mem_of_getElem? (i := 580) (by decide +kernel)⟩
theorem lw_p20 : lw_okq (⟨"EngravedLines", "inkTowards", "(IZ)I"⟩, 13) := ⟨⟨by decide +kernel, by decide +kernel⟩, List.mem_of_getElem? (i := 15) (by decide +kernel), List.mem_of_getElem? (i := 583) (by decide +kernel), List.mem_of_getElem? (i := 584) (by decide +kernel)⟩
theorem lw_p21 : lw_okq (⟨"EngravedLines$Tape", "readSign", "()Z"⟩, 5) := ⟨⟨by decide +kernel, by decide +kernel⟩, List.mem_of_getElem? (i := 156) (by decide +kernel), List.mem_of_getElem? (i := 608) (by decide +kernel), List.mem_of_getElem? (i := 609) (by decide +kernel)⟩
theorem lw_p22 : lw_okq (⟨"EngravedLines$Tape", "isNext", "(C)Z"⟩, 5) := ⟨⟨by decide +kernel, by decide +kernel⟩, List.mem_of_getElem? (i := 156) (by decide +kernel), List.mem_of_getElem? (i := 612) (by decide +kernel), List.mem_of_getElem? (i := 613) (by decide +kernel)⟩
theorem lw_p23 : lw_okq (⟨"EngravedLines$Tape", "readNumber", "(II)I"⟩, 5) := ⟨⟨by decide +kernel, by decide +kernel⟩, List.mem_of_getElem? (i := 156) (by decide +kernel), List.mem_of_getElem? (i := 617) (by decide +kernel), List.mem_of_getElem? (i := 618) (by decide +kernel)⟩
theorem lw_p24 : lw_okq (⟨"EngravedLines$Tape", "digit", "()I"⟩, 5) := ⟨⟨by decide +kernel, by decide +kernel⟩, List.mem_of_getElem? (i := 156) (by decide +kernel), List.mem_of_getElem? (i := 621) (by decide +kernel), List.mem_of_getElem? (i := 622) (by decide +kernel)⟩
theorem lw_p25 : lw_okq (⟨"EngravedLines$Tape", "readAdorn", "()I"⟩, 5) := ⟨⟨by decide +kernel, by decide +kernel⟩, List.mem_of_getElem? (i := 156) (by decide +kernel), List.mem_of_getElem? (i := 625) (by decide +kernel), List.mem_of_getElem? (i := 626) (by decide +kernel)⟩
theorem lw_p26 : lw_okq (⟨"EngravedLines$Tape", "keep", "(IIII)V"⟩, 5) := ⟨⟨by decide +kernel, by decide +kernel⟩, List.mem_of_getElem? (i := 156) (by decide +kernel), List.mem_of_getElem? (i := 629) (by decide +kernel), List.mem_of_getElem? (i := 630) (by decide +kernel)⟩
theorem lw_p27 : lw_okq (⟨"EngravedLines$Sheets", "change", "(IIJ)V"⟩, 3) := ⟨⟨by decide +kernel, by decide +kernel⟩, List.mem_of_getElem? (i := 183) (by decide +kernel), List.mem_of_getElem? (i := 691) (by decide +kernel), List.mem_of_getElem? (i := 692) (by decide +kernel)⟩
theorem lw_p28 : lw_okq (⟨"EngravedLines", "refuseLong", "(I)J"⟩, 13) := ⟨⟨by decide +kernel, by decide +kernel⟩, List.mem_of_getElem? (i := 15) (by decide +kernel), List.mem_of_getElem? (i := 721) (by decide +kernel), List.mem_of_getElem? (i := 722) (by decide +kernel)⟩
theorem lw_p29 : lw_okq (⟨"EngravedLines", "countNotes", "()I"⟩, 13) := ⟨⟨by decide +kernel, by decide +kernel⟩, List.mem_of_getElem? (i := 15) (by decide +kernel), List.mem_of_getElem? (i := 788) (by decide +kernel), List.mem_of_getElem? (i := 789) (by decide +kernel)⟩
theorem lw_p30 : lw_okq (⟨"EngravedLines", "sumDurations", "()I"⟩, 13) := ⟨⟨by decide +kernel, by decide +kernel⟩, List.mem_of_getElem? (i := 15) (by decide +kernel), List.mem_of_getElem? (i := 792) (by decide +kernel), List.mem_of_getElem? (i := 793) (by decide +kernel)⟩
theorem lw_p31 : lw_okq (⟨"EngravedLinesModel", "errs", "(I)I"⟩, 33) := ⟨⟨by decide +kernel, by decide +kernel⟩, List.mem_of_getElem? (i := 806) (by decide +kernel), List.mem_of_getElem? (i := 930) (by decide +kernel), List.mem_of_getElem? (i := 931) (by decide +kernel)⟩
def lw_privs_2 : List (MethodName × Nat) := [(⟨"EngravedLines", "beamSlope", "(II)F"⟩, 13), (⟨"EngravedLines", "beamGoesUp", "(II)Z"⟩, 13), (⟨"EngravedLines", "beamLift", "(II)F"⟩, 13), (⟨"EngravedLines", "slurHeight", "(IIZ)I"⟩, 13), (⟨"EngravedLines", "inkTowards", "(IZ)I"⟩, 13), (⟨"EngravedLines$Tape", "readSign", "()Z"⟩, 5), (⟨"EngravedLines$Tape", "isNext", "(C)Z"⟩, 5), (⟨"EngravedLines$Tape", "readNumber", "(II)I"⟩, 5), (⟨"EngravedLines$Tape", "digit", "()I"⟩, 5), (⟨"EngravedLines$Tape", "readAdorn", "()I"⟩, 5), (⟨"EngravedLines$Tape", "keep", "(IIII)V"⟩, 5), (⟨"EngravedLines$Sheets", "change", "(IIJ)V"⟩, 3), (⟨"EngravedLines", "refuseLong", "(I)J"⟩, 13), (⟨"EngravedLines", "countNotes", "()I"⟩, 13), (⟨"EngravedLines", "sumDurations", "()I"⟩, 13), (⟨"EngravedLinesModel", "errs", "(I)I"⟩, 33)]
theorem lw_r2 : ∀ q ∈ lw_privs_2, lw_okq q := List.forall_mem_cons.mpr ⟨lw_p16, List.forall_mem_cons.mpr ⟨lw_p17, List.forall_mem_cons.mpr ⟨lw_p18, List.forall_mem_cons.mpr ⟨lw_p19, List.forall_mem_cons.mpr ⟨lw_p20, List.forall_mem_cons.mpr ⟨lw_p21, List.forall_mem_cons.mpr ⟨lw_p22, List.forall_mem_cons.mpr ⟨lw_p23, List.forall_mem_cons.mpr ⟨lw_p24, List.forall_mem_cons.mpr ⟨lw_p25, List.forall_mem_cons.mpr ⟨lw_p26, List.forall_mem_cons.mpr ⟨lw_p27, List.forall_mem_cons.mpr ⟨lw_p28, List.forall_mem_cons.mpr ⟨lw_p29, List.forall_mem_cons.mpr ⟨lw_p30, List.forall_mem_cons.mpr ⟨lw_p31, fun _ h => absurd h List.not_mem_nil⟩⟩⟩⟩⟩⟩⟩⟩⟩⟩⟩⟩⟩⟩⟩⟩
theorem lw_p32 : lw_okq (⟨"EngravedLinesModel", "comes", "(IIIII)I"⟩, 33) := ⟨⟨by decide +kernel, by decide +kernel⟩, List.mem_of_getElem? (i := 806) (by decide +kernel), List.mem_of_getElem? (i := 936) (by decide +kernel), List.mem_of_getElem? (i := 937) (by decide +kernel)⟩
theorem lw_p33 : lw_okq (⟨"EngravedLinesModel", "sets", "(III)V"⟩, 33) := ⟨⟨by decide +kernel, by decide +kernel⟩, List.mem_of_getElem? (i := 806) (by decide +kernel), List.mem_of_getElem? (i := 940) (by decide +kernel), List.mem_of_getElem? (i := 941) (by decide +kernel)⟩
theorem lw_p34 : lw_okq (⟨"EngravedLinesModel", "isColumn", "(I)Z"⟩, 33) := ⟨⟨by decide +kernel, by decide +kernel⟩, List.mem_of_getElem? (i := 806) (by decide +kernel), List.mem_of_getElem? (i := 953) (by decide +kernel), List.mem_of_getElem? (i := 954) (by decide +kernel)⟩
theorem lw_p35 : lw_okq (⟨"EngravedLinesModel", "its", "(II)I"⟩, 33) := ⟨⟨by decide +kernel, by decide +kernel⟩, List.mem_of_getElem? (i := 806) (by decide +kernel), List.mem_of_getElem? (i := 957) (by decide +kernel), List.mem_of_getElem? (i := 958) (by decide +kernel)⟩
theorem lw_p36 : lw_okq (⟨"EngravedLinesModel", "top", "(I)I"⟩, 33) := ⟨⟨by decide +kernel, by decide +kernel⟩, List.mem_of_getElem? (i := 806) (by decide +kernel), List.mem_of_getElem? (i := 966) (by decide +kernel), List.mem_of_getElem? (i := 967) (by decide +kernel)⟩
theorem lw_p37 : lw_okq (⟨"EngravedLinesModel", "bottom", "(I)I"⟩, 33) := ⟨⟨by decide +kernel, by decide +kernel⟩, List.mem_of_getElem? (i := 806) (by decide +kernel), List.mem_of_getElem? (i := 973) (by decide +kernel), List.mem_of_getElem? (i := 974) (by decide +kernel)⟩
theorem lw_p38 : lw_okq (⟨"EngravedLinesModel", "ideal", "(I)F"⟩, 33) := ⟨⟨by decide +kernel, by decide +kernel⟩, List.mem_of_getElem? (i := 806) (by decide +kernel), List.mem_of_getElem? (i := 981) (by decide +kernel), List.mem_of_getElem? (i := 982) (by decide +kernel)⟩
theorem lw_p39 : lw_okq (⟨"EngravedLinesModel", "flex", "(I)F"⟩, 33) := ⟨⟨by decide +kernel, by decide +kernel⟩, List.mem_of_getElem? (i := 806) (by decide +kernel), List.mem_of_getElem? (i := 987) (by decide +kernel), List.mem_of_getElem? (i := 988) (by decide +kernel)⟩
theorem lw_p40 : lw_okq (⟨"EngravedLinesModel", "rod", "(I)F"⟩, 33) := ⟨⟨by decide +kernel, by decide +kernel⟩, List.mem_of_getElem? (i := 806) (by decide +kernel), List.mem_of_getElem? (i := 992) (by decide +kernel), List.mem_of_getElem? (i := 993) (by decide +kernel)⟩
theorem lw_p41 : lw_okq (⟨"EngravedLinesModel", "isStretch", "(II)Z"⟩, 33) := ⟨⟨by decide +kernel, by decide +kernel⟩, List.mem_of_getElem? (i := 806) (by decide +kernel), List.mem_of_getElem? (i := 1015) (by decide +kernel), List.mem_of_getElem? (i := 1016) (by decide +kernel)⟩
theorem lw_p42 : lw_okq (⟨"EngravedLinesModel", "laysOut", "(II)V"⟩, 33) := ⟨⟨by decide +kernel, by decide +kernel⟩, List.mem_of_getElem? (i := 806) (by decide +kernel), List.mem_of_getElem? (i := 1019) (by decide +kernel), List.mem_of_getElem? (i := 1020) (by decide +kernel)⟩
theorem lw_p43 : lw_okq (⟨"EngravedLinesModel", "forceOf", "(II)V"⟩, 33) := ⟨⟨by decide +kernel, by decide +kernel⟩, List.mem_of_getElem? (i := 806) (by decide +kernel), List.mem_of_getElem? (i := 1023) (by decide +kernel), List.mem_of_getElem? (i := 1024) (by decide +kernel)⟩
theorem lw_p44 : lw_okq (⟨"EngravedLinesModel", "wanted", "(I)F"⟩, 33) := ⟨⟨by decide +kernel, by decide +kernel⟩, List.mem_of_getElem? (i := 806) (by decide +kernel), List.mem_of_getElem? (i := 1027) (by decide +kernel), List.mem_of_getElem? (i := 1028) (by decide +kernel)⟩
theorem lw_p45 : lw_okq (⟨"EngravedLinesModel", "isGood", "(II)Z"⟩, 33) := ⟨⟨by decide +kernel, by decide +kernel⟩, List.mem_of_getElem? (i := 806) (by decide +kernel), List.mem_of_getElem? (i := 1043) (by decide +kernel), List.mem_of_getElem? (i := 1044) (by decide +kernel)⟩
theorem lw_p46 : lw_okq (⟨"EngravedLinesModel", "inks", "(II)V"⟩, 33) := ⟨⟨by decide +kernel, by decide +kernel⟩, List.mem_of_getElem? (i := 806) (by decide +kernel), List.mem_of_getElem? (i := 1053) (by decide +kernel), List.mem_of_getElem? (i := 1054) (by decide +kernel)⟩
theorem lw_p47 : lw_okq (⟨"EngravedLinesModel", "apartOf", "(IIII)I"⟩, 33) := ⟨⟨by decide +kernel, by decide +kernel⟩, List.mem_of_getElem? (i := 806) (by decide +kernel), List.mem_of_getElem? (i := 1061) (by decide +kernel), List.mem_of_getElem? (i := 1062) (by decide +kernel)⟩
def lw_privs_3 : List (MethodName × Nat) := [(⟨"EngravedLinesModel", "comes", "(IIIII)I"⟩, 33), (⟨"EngravedLinesModel", "sets", "(III)V"⟩, 33), (⟨"EngravedLinesModel", "isColumn", "(I)Z"⟩, 33), (⟨"EngravedLinesModel", "its", "(II)I"⟩, 33), (⟨"EngravedLinesModel", "top", "(I)I"⟩, 33), (⟨"EngravedLinesModel", "bottom", "(I)I"⟩, 33), (⟨"EngravedLinesModel", "ideal", "(I)F"⟩, 33), (⟨"EngravedLinesModel", "flex", "(I)F"⟩, 33), (⟨"EngravedLinesModel", "rod", "(I)F"⟩, 33), (⟨"EngravedLinesModel", "isStretch", "(II)Z"⟩, 33), (⟨"EngravedLinesModel", "laysOut", "(II)V"⟩, 33), (⟨"EngravedLinesModel", "forceOf", "(II)V"⟩, 33), (⟨"EngravedLinesModel", "wanted", "(I)F"⟩, 33), (⟨"EngravedLinesModel", "isGood", "(II)Z"⟩, 33), (⟨"EngravedLinesModel", "inks", "(II)V"⟩, 33), (⟨"EngravedLinesModel", "apartOf", "(IIII)I"⟩, 33)]
theorem lw_r3 : ∀ q ∈ lw_privs_3, lw_okq q := List.forall_mem_cons.mpr ⟨lw_p32, List.forall_mem_cons.mpr ⟨lw_p33, List.forall_mem_cons.mpr ⟨lw_p34, List.forall_mem_cons.mpr ⟨lw_p35, List.forall_mem_cons.mpr ⟨lw_p36, List.forall_mem_cons.mpr ⟨lw_p37, List.forall_mem_cons.mpr ⟨lw_p38, List.forall_mem_cons.mpr ⟨lw_p39, List.forall_mem_cons.mpr ⟨lw_p40, List.forall_mem_cons.mpr ⟨lw_p41, List.forall_mem_cons.mpr ⟨lw_p42, List.forall_mem_cons.mpr ⟨lw_p43, List.forall_mem_cons.mpr ⟨lw_p44, List.forall_mem_cons.mpr ⟨lw_p45, List.forall_mem_cons.mpr ⟨lw_p46, List.forall_mem_cons.mpr ⟨lw_p47, fun _ h => absurd h List.not_mem_nil⟩⟩⟩⟩⟩⟩⟩⟩⟩⟩⟩⟩⟩⟩⟩⟩
theorem lw_p48 : lw_okq (⟨"EngravedLinesModel", "breaks", "()Z"⟩, 33) := ⟨⟨by decide +kernel, by decide +kernel⟩, List.mem_of_getElem? (i := 806) (by decide +kernel), List.mem_of_getElem? (i := 1069) (by decide +kernel), List.mem_of_getElem? (i := 1070) (by decide +kernel)⟩
theorem lw_p49 : lw_okq (⟨"EngravedLinesModel", "bestTo", "(I)V"⟩, 33) := ⟨⟨by decide +kernel, by decide +kernel⟩, List.mem_of_getElem? (i := 806) (by decide +kernel), List.mem_of_getElem? (i := 1073) (by decide +kernel), List.mem_of_getElem? (i := 1074) (by decide +kernel)⟩
theorem lw_p50 : lw_okq (⟨"EngravedLinesModel", "isEnd", "(I)Z"⟩, 33) := ⟨⟨by decide +kernel, by decide +kernel⟩, List.mem_of_getElem? (i := 806) (by decide +kernel), List.mem_of_getElem? (i := 1077) (by decide +kernel), List.mem_of_getElem? (i := 1078) (by decide +kernel)⟩
theorem lw_p51 : lw_okq (⟨"EngravedLinesModel", "keepsLines", "()V"⟩, 33) := ⟨⟨by decide +kernel, by decide +kernel⟩, List.mem_of_getElem? (i := 806) (by decide +kernel), List.mem_of_getElem? (i := 1094) (by decide +kernel), List.mem_of_getElem? (i := 1095) (by decide +kernel)⟩
theorem lw_p52 : lw_okq (⟨"EngravedLinesModel", "isAsWas", "(I)Z"⟩, 33) := ⟨⟨by decide +kernel, by decide +kernel⟩, List.mem_of_getElem? (i := 806) (by decide +kernel), List.mem_of_getElem? (i := 1098) (by decide +kernel), List.mem_of_getElem? (i := 1099) (by decide +kernel)⟩
theorem lw_p53 : lw_okq (⟨"EngravedLinesModel", "areNotes", "(II)Z"⟩, 33) := ⟨⟨by decide +kernel, by decide +kernel⟩, List.mem_of_getElem? (i := 806) (by decide +kernel), List.mem_of_getElem? (i := 1107) (by decide +kernel), List.mem_of_getElem? (i := 1108) (by decide +kernel)⟩
theorem lw_p54 : lw_okq (⟨"EngravedLinesModel", "isUp", "(II)Z"⟩, 33) := ⟨⟨by decide +kernel, by decide +kernel⟩, List.mem_of_getElem? (i := 806) (by decide +kernel), List.mem_of_getElem? (i := 1112) (by decide +kernel), List.mem_of_getElem? (i := 1113) (by decide +kernel)⟩
theorem lw_p55 : lw_okq (⟨"EngravedLinesModel", "rise", "(II)F"⟩, 33) := ⟨⟨by decide +kernel, by decide +kernel⟩, List.mem_of_getElem? (i := 806) (by decide +kernel), List.mem_of_getElem? (i := 1116) (by decide +kernel), List.mem_of_getElem? (i := 1117) (by decide +kernel)⟩
theorem lw_p56 : lw_okq (⟨"EngravedLinesModel", "slope", "(II)F"⟩, 33) := ⟨⟨by decide +kernel, by decide +kernel⟩, List.mem_of_getElem? (i := 806) (by decide +kernel), List.mem_of_getElem? (i := 1120) (by decide +kernel), List.mem_of_getElem? (i := 1121) (by decide +kernel)⟩
theorem lw_p57 : lw_okq (⟨"EngravedLinesModel", "lift", "(II)F"⟩, 33) := ⟨⟨by decide +kernel, by decide +kernel⟩, List.mem_of_getElem? (i := 806) (by decide +kernel), List.mem_of_getElem? (i := 1130) (by decide +kernel), List.mem_of_getElem? (i := 1131) (by decide +kernel)⟩
theorem lw_p58 : lw_okq (⟨"EngravedLinesModel", "height", "(III)I"⟩, 33) := ⟨⟨by decide +kernel, by decide +kernel⟩, List.mem_of_getElem? (i := 806) (by decide +kernel), List.mem_of_getElem? (i := 1139) (by decide +kernel), List.mem_of_getElem? (i := 1140) (by decide +kernel)⟩
theorem lw_p59 : lw_okq (⟨"EngravedLinesModel", "ink", "(II)I"⟩, 33) := ⟨⟨by decide +kernel, by decide +kernel⟩, List.mem_of_getElem? (i := 806) (by decide +kernel), List.mem_of_getElem? (i := 1143) (by decide +kernel), List.mem_of_getElem? (i := 1144) (by decide +kernel)⟩
theorem lw_p60 : lw_okq (⟨"EngravedLinesModel", "sign", "()V"⟩, 33) := ⟨⟨by decide +kernel, by decide +kernel⟩, List.mem_of_getElem? (i := 806) (by decide +kernel), List.mem_of_getElem? (i := 1156) (by decide +kernel), List.mem_of_getElem? (i := 1157) (by decide +kernel)⟩
theorem lw_p61 : lw_okq (⟨"EngravedLinesModel", "takes", "(I)Z"⟩, 33) := ⟨⟨by decide +kernel, by decide +kernel⟩, List.mem_of_getElem? (i := 806) (by decide +kernel), List.mem_of_getElem? (i := 1160) (by decide +kernel), List.mem_of_getElem? (i := 1161) (by decide +kernel)⟩
theorem lw_p62 : lw_okq (⟨"EngravedLinesModel", "number", "(II)I"⟩, 33) := ⟨⟨by decide +kernel, by decide +kernel⟩, List.mem_of_getElem? (i := 806) (by decide +kernel), List.mem_of_getElem? (i := 1164) (by decide +kernel), List.mem_of_getElem? (i := 1165) (by decide +kernel)⟩
theorem lw_p63 : lw_okq (⟨"EngravedLinesModel", "isDigit", "()Z"⟩, 33) := ⟨⟨by decide +kernel, by decide +kernel⟩, List.mem_of_getElem? (i := 806) (by decide +kernel), List.mem_of_getElem? (i := 1168) (by decide +kernel), List.mem_of_getElem? (i := 1169) (by decide +kernel)⟩
def lw_privs_4 : List (MethodName × Nat) := [(⟨"EngravedLinesModel", "breaks", "()Z"⟩, 33), (⟨"EngravedLinesModel", "bestTo", "(I)V"⟩, 33), (⟨"EngravedLinesModel", "isEnd", "(I)Z"⟩, 33), (⟨"EngravedLinesModel", "keepsLines", "()V"⟩, 33), (⟨"EngravedLinesModel", "isAsWas", "(I)Z"⟩, 33), (⟨"EngravedLinesModel", "areNotes", "(II)Z"⟩, 33), (⟨"EngravedLinesModel", "isUp", "(II)Z"⟩, 33), (⟨"EngravedLinesModel", "rise", "(II)F"⟩, 33), (⟨"EngravedLinesModel", "slope", "(II)F"⟩, 33), (⟨"EngravedLinesModel", "lift", "(II)F"⟩, 33), (⟨"EngravedLinesModel", "height", "(III)I"⟩, 33), (⟨"EngravedLinesModel", "ink", "(II)I"⟩, 33), (⟨"EngravedLinesModel", "sign", "()V"⟩, 33), (⟨"EngravedLinesModel", "takes", "(I)Z"⟩, 33), (⟨"EngravedLinesModel", "number", "(II)I"⟩, 33), (⟨"EngravedLinesModel", "isDigit", "()Z"⟩, 33)]
theorem lw_r4 : ∀ q ∈ lw_privs_4, lw_okq q := List.forall_mem_cons.mpr ⟨lw_p48, List.forall_mem_cons.mpr ⟨lw_p49, List.forall_mem_cons.mpr ⟨lw_p50, List.forall_mem_cons.mpr ⟨lw_p51, List.forall_mem_cons.mpr ⟨lw_p52, List.forall_mem_cons.mpr ⟨lw_p53, List.forall_mem_cons.mpr ⟨lw_p54, List.forall_mem_cons.mpr ⟨lw_p55, List.forall_mem_cons.mpr ⟨lw_p56, List.forall_mem_cons.mpr ⟨lw_p57, List.forall_mem_cons.mpr ⟨lw_p58, List.forall_mem_cons.mpr ⟨lw_p59, List.forall_mem_cons.mpr ⟨lw_p60, List.forall_mem_cons.mpr ⟨lw_p61, List.forall_mem_cons.mpr ⟨lw_p62, List.forall_mem_cons.mpr ⟨lw_p63, fun _ h => absurd h List.not_mem_nil⟩⟩⟩⟩⟩⟩⟩⟩⟩⟩⟩⟩⟩⟩⟩⟩
theorem lw_p64 : lw_okq (⟨"EngravedLinesModel", "isPlace", "(II)Z"⟩, 33) := ⟨⟨by decide +kernel, by decide +kernel⟩, List.mem_of_getElem? (i := 806) (by decide +kernel), List.mem_of_getElem? (i := 1192) (by decide +kernel), List.mem_of_getElem? (i := 1193) (by decide +kernel)⟩
theorem lw_p65 : lw_okq (⟨"EngravedLinesModel", "isItem", "(II)Z"⟩, 33) := ⟨⟨by decide +kernel, by decide +kernel⟩, List.mem_of_getElem? (i := 806) (by decide +kernel), List.mem_of_getElem? (i := 1216) (by decide +kernel), List.mem_of_getElem? (i := 1217) (by decide +kernel)⟩
theorem lw_p66 : lw_okq (⟨"EngravedLinesModel", "errsLong", "(I)J"⟩, 33) := ⟨⟨by decide +kernel, by decide +kernel⟩, List.mem_of_getElem? (i := 806) (by decide +kernel), List.mem_of_getElem? (i := 1227) (by decide +kernel), List.mem_of_getElem? (i := 1228) (by decide +kernel)⟩
theorem lw_p67 : lw_okq (⟨"EngravedLinesModel", "isNought", "(II)Z"⟩, 33) := ⟨⟨by decide +kernel, by decide +kernel⟩, List.mem_of_getElem? (i := 806) (by decide +kernel), List.mem_of_getElem? (i := 1250) (by decide +kernel), List.mem_of_getElem? (i := 1251) (by decide +kernel)⟩
theorem lw_p68 : lw_okq (⟨"EngravedLinesModel", "notes", "()I"⟩, 33) := ⟨⟨by decide +kernel, by decide +kernel⟩, List.mem_of_getElem? (i := 806) (by decide +kernel), List.mem_of_getElem? (i := 1274) (by decide +kernel), List.mem_of_getElem? (i := 1275) (by decide +kernel)⟩
theorem lw_p69 : lw_okq (⟨"EngravedLinesModel", "durations", "()I"⟩, 33) := ⟨⟨by decide +kernel, by decide +kernel⟩, List.mem_of_getElem? (i := 806) (by decide +kernel), List.mem_of_getElem? (i := 1278) (by decide +kernel), List.mem_of_getElem? (i := 1279) (by decide +kernel)⟩
theorem lw_p70 : lw_okq (⟨"EngravedLinesModel", "shelved", "()I"⟩, 33) := ⟨⟨by decide +kernel, by decide +kernel⟩, List.mem_of_getElem? (i := 806) (by decide +kernel), List.mem_of_getElem? (i := 1282) (by decide +kernel), List.mem_of_getElem? (i := 1283) (by decide +kernel)⟩
def lw_privs_5 : List (MethodName × Nat) := [(⟨"EngravedLinesModel", "isPlace", "(II)Z"⟩, 33), (⟨"EngravedLinesModel", "isItem", "(II)Z"⟩, 33), (⟨"EngravedLinesModel", "errsLong", "(I)J"⟩, 33), (⟨"EngravedLinesModel", "isNought", "(II)Z"⟩, 33), (⟨"EngravedLinesModel", "notes", "()I"⟩, 33), (⟨"EngravedLinesModel", "durations", "()I"⟩, 33), (⟨"EngravedLinesModel", "shelved", "()I"⟩, 33)]
theorem lw_r5 : ∀ q ∈ lw_privs_5, lw_okq q := List.forall_mem_cons.mpr ⟨lw_p64, List.forall_mem_cons.mpr ⟨lw_p65, List.forall_mem_cons.mpr ⟨lw_p66, List.forall_mem_cons.mpr ⟨lw_p67, List.forall_mem_cons.mpr ⟨lw_p68, List.forall_mem_cons.mpr ⟨lw_p69, List.forall_mem_cons.mpr ⟨lw_p70, fun _ h => absurd h List.not_mem_nil⟩⟩⟩⟩⟩⟩⟩
def lw_privs : List (MethodName × Nat) := lw_privs_1 ++ (lw_privs_2 ++ (lw_privs_3 ++ (lw_privs_4 ++ (lw_privs_5))))
def lw_tbl : List Cond := k2_sels lw_privs ++ tables_1
theorem lw_privs_ok : ∀ q ∈ lw_privs, lw_okq q := by
  show ∀ q ∈ lw_privs_1 ++ (lw_privs_2 ++ (lw_privs_3 ++ (lw_privs_4 ++ (lw_privs_5)))), lw_okq q
  exact List.forall_mem_append.mpr ⟨lw_r1, List.forall_mem_append.mpr ⟨lw_r2, List.forall_mem_append.mpr ⟨lw_r3, List.forall_mem_append.mpr ⟨lw_r4, lw_r5⟩⟩⟩⟩
/-- the streams that the claim lets the run draw from -/
abbrev lw_cs : List Choice := [Jvm.Choice.named "NaN.bits"]
theorem lw_bits : nanBits ∈ lw_cs := by first | decide | exact List.mem_cons_self | simp [lw_cs, nanBits]
def RX0 : String := "EngravedLines$Best"
def TX0 : u_T := fun k => match k with
  | 0 => ("EngravedLines$Best", "before", "[I", true)
  | 1 => ("EngravedLines$Best", "totals", "[F", true)
  | 2 => ("EngravedLines$Best", "starts", "[I", true)
  | 3 => ("EngravedLines$Best", "trial", "LEngravedLines$Stretch;", true)
  | 4 => ("EngravedLines$Best", "lineCount", "I", false)
  | 5 => ("EngravedLines$Best", "isFound", "Z", false)
  | _ => ("EngravedLines$Best", "sum", "F", false)
def tyX0 : Nat → FieldType := fun k => match k with
  | 0 => .array .int
  | 1 => .array .float
  | 2 => .array .int
  | 3 => .object "EngravedLines$Stretch"
  | 4 => .int
  | 5 => .boolean
  | _ => .float
abbrev wsX00 : List Cond := u_ws RX0 TX0 7
theorem nmX0 : ∀ a, a < 7 → ∀ b, b < 7 → a ≠ b → (TX0 a).2.1 ≠ (TX0 b).2.1 := by decide +kernel
theorem tyX0_ok : ∀ k, k < 7 → parseFieldDescriptor (TX0 k).2.2.1 = some (tyX0 k) := by decide +kernel
abbrev cX0_init : ByteArray := prog_2_method_1_code
def yX0_init : MethodName := ⟨RX0, "<init>", "()V"⟩
abbrev cX0_find : ByteArray := prog_2_method_2_code
def yX0_find : MethodName := ⟨RX0, "find", "(LEngravedLines$Signs;II)V"⟩
abbrev cX0_first : ByteArray := prog_2_method_3_code
def yX0_first : MethodName := ⟨RX0, "first", "(I)I"⟩
abbrev cX0_last : ByteArray := prog_2_method_4_code
def yX0_last : MethodName := ⟨RX0, "last", "(I)I"⟩
abbrev cX0_reach : ByteArray := prog_2_method_5_code
def yX0_reach : MethodName := ⟨RX0, "reach", "(ILEngravedLines$Signs;I)V"⟩
abbrev cX0_traceBack : ByteArray := prog_2_method_6_code
def yX0_traceBack : MethodName := ⟨RX0, "traceBack", "(I)V"⟩
def RX1 : String := "EngravedLines$Page"
def TX1 : u_T := fun k => match k with
  | 0 => ("EngravedLines$Page", "columns", "LEngravedLines$Signs;", true)
  | 1 => ("EngravedLines$Page", "columnCount", "I", false)
  | 2 => ("EngravedLines$Page", "lineWidth", "I", false)
  | 3 => ("EngravedLines$Page", "onShelves", "LEngravedLines$Signs;", true)
  | 4 => ("EngravedLines$Page", "shelfKinds", "[I", true)
  | _ => ("EngravedLines$Page", "shelfSizes", "[I", true)
def tyX1 : Nat → FieldType := fun k => match k with
  | 0 => .object "EngravedLines$Signs"
  | 1 => .int
  | 2 => .int
  | 3 => .object "EngravedLines$Signs"
  | 4 => .array .int
  | _ => .array .int
abbrev wsX10 : List Cond := u_ws RX1 TX1 6
theorem nmX1 : ∀ a, a < 6 → ∀ b, b < 6 → a ≠ b → (TX1 a).2.1 ≠ (TX1 b).2.1 := by decide +kernel
theorem tyX1_ok : ∀ k, k < 6 → parseFieldDescriptor (TX1 k).2.2.1 = some (tyX1 k) := by decide +kernel
abbrev cX1_init : ByteArray := prog_3_method_1_code
def yX1_init : MethodName := ⟨RX1, "<init>", "()V"⟩
abbrev cX1_place : ByteArray := prog_3_method_2_code
def yX1_place : MethodName := ⟨RX1, "place", "(II)I"⟩
abbrev cX1_shelfKind : ByteArray := prog_3_method_3_code
def yX1_shelfKind : MethodName := ⟨RX1, "shelfKind", "(I)I"⟩
abbrev cX1_hasPlace : ByteArray := prog_3_method_4_code
def yX1_hasPlace : MethodName := ⟨RX1, "hasPlace", "(II)Z"⟩
abbrev cX1_clearShelf : ByteArray := prog_3_method_5_code
def yX1_clearShelf : MethodName := ⟨RX1, "clearShelf", "(III)V"⟩
abbrev cX1_countOnShelves : ByteArray := prog_3_method_6_code
def yX1_countOnShelves : MethodName := ⟨RX1, "countOnShelves", "()I"⟩
abbrev cX1_become : ByteArray := prog_3_method_7_code
def yX1_become : MethodName := ⟨RX1, "become", "(LEngravedLines$Page;)V"⟩
def RX2 : String := "EngravedLines$Point"
def TX2 : u_T := fun k => match k with
  | _ => ("", "", "", false)
def tyX2 : Nat → FieldType := fun k => match k with
  | _ => .int
abbrev wsX20 : List Cond := u_ws RX2 TX2 0
theorem nmX2 : ∀ a, a < 0 → ∀ b, b < 0 → a ≠ b → (TX2 a).2.1 ≠ (TX2 b).2.1 := by decide +kernel
theorem tyX2_ok : ∀ k, k < 0 → parseFieldDescriptor (TX2 k).2.2.1 = some (tyX2 k) := by decide +kernel
abbrev cX2_encode : ByteArray := prog_4_method_2_code
def yX2_encode : MethodName := ⟨RX2, "encode", "(ID)J"⟩
abbrev cX2_size : ByteArray := prog_4_method_3_code
def yX2_size : MethodName := ⟨RX2, "size", "(IJ)D"⟩
abbrev cX2_withSign : ByteArray := prog_4_method_4_code
def yX2_withSign : MethodName := ⟨RX2, "withSign", "(IJZ)J"⟩
abbrev cX2_remainder : ByteArray := prog_4_method_5_code
def yX2_remainder : MethodName := ⟨RX2, "remainder", "(DD)D"⟩
abbrev cX2_fractionBits : ByteArray := prog_4_method_6_code
def yX2_fractionBits : MethodName := ⟨RX2, "fractionBits", "(I)I"⟩
abbrev cX2_bias : ByteArray := prog_4_method_7_code
def yX2_bias : MethodName := ⟨RX2, "bias", "(I)I"⟩
abbrev cX2_signBit : ByteArray := prog_4_method_8_code
def yX2_signBit : MethodName := ⟨RX2, "signBit", "(I)J"⟩
def RX3 : String := "EngravedLines$Sheets"
def TX3 : u_T := fun k => match k with
  | 0 => ("EngravedLines$Sheets", "sorts", "[I", true)
  | 1 => ("EngravedLines$Sheets", "sizes", "[I", true)
  | _ => ("EngravedLines$Sheets", "numbers", "[J", true)
def tyX3 : Nat → FieldType := fun k => match k with
  | 0 => .array .int
  | 1 => .array .int
  | _ => .array .long
abbrev wsX30 : List Cond := u_ws RX3 TX3 3
theorem nmX3 : ∀ a, a < 3 → ∀ b, b < 3 → a ≠ b → (TX3 a).2.1 ≠ (TX3 b).2.1 := by decide +kernel
theorem tyX3_ok : ∀ k, k < 3 → parseFieldDescriptor (TX3 k).2.2.1 = some (tyX3 k) := by decide +kernel
abbrev cX3_init : ByteArray := prog_5_method_1_code
def yX3_init : MethodName := ⟨RX3, "<init>", "()V"⟩
abbrev cX3_sort : ByteArray := prog_5_method_2_code
def yX3_sort : MethodName := ⟨RX3, "sort", "(I)I"⟩
abbrev cX3_hasNumber : ByteArray := prog_5_method_3_code
def yX3_hasNumber : MethodName := ⟨RX3, "hasNumber", "(II)Z"⟩
abbrev cX3_clear : ByteArray := prog_5_method_4_code
def yX3_clear : MethodName := ⟨RX3, "clear", "(III)V"⟩
abbrev cX3_number : ByteArray := prog_5_method_5_code
def yX3_number : MethodName := ⟨RX3, "number", "(II)J"⟩
abbrev cX3_scale : ByteArray := prog_5_method_6_code
def yX3_scale : MethodName := ⟨RX3, "scale", "(IIJI)V"⟩
abbrev cX3_layFloat : ByteArray := prog_5_method_7_code
def yX3_layFloat : MethodName := ⟨RX3, "layFloat", "(IIF)V"⟩
abbrev cX3_asInt : ByteArray := prog_5_method_8_code
def yX3_asInt : MethodName := ⟨RX3, "asInt", "(II)I"⟩
abbrev cX3_isNought : ByteArray := prog_5_method_9_code
def yX3_isNought : MethodName := ⟨RX3, "isNought", "(II)Z"⟩
abbrev cX3_reduce : ByteArray := prog_5_method_10_code
def yX3_reduce : MethodName := ⟨RX3, "reduce", "(III)V"⟩
abbrev cX3_change : ByteArray := prog_5_method_11_code
def yX3_change : MethodName := ⟨RX3, "change", "(IIJ)V"⟩
def RX4 : String := "EngravedLines$Signs"
def TX4 : u_T := fun k => match k with
  | _ => ("EngravedLines$Signs", "parts", "[I", true)
def tyX4 : Nat → FieldType := fun k => match k with
  | _ => .array .int
abbrev wsX40 : List Cond := u_ws RX4 TX4 1
theorem nmX4 : ∀ a, a < 1 → ∀ b, b < 1 → a ≠ b → (TX4 a).2.1 ≠ (TX4 b).2.1 := by decide +kernel
theorem tyX4_ok : ∀ k, k < 1 → parseFieldDescriptor (TX4 k).2.2.1 = some (tyX4 k) := by decide +kernel
abbrev cX4_init : ByteArray := prog_6_method_1_code
def yX4_init : MethodName := ⟨RX4, "<init>", "()V"⟩
abbrev cX4_part : ByteArray := prog_6_method_2_code
def yX4_part : MethodName := ⟨RX4, "part", "(II)I"⟩
abbrev cX4_change : ByteArray := prog_6_method_3_code
def yX4_change : MethodName := ⟨RX4, "change", "(III)V"⟩
abbrev cX4_lay : ByteArray := prog_6_method_4_code
def yX4_lay : MethodName := ⟨RX4, "lay", "(IIIIII)V"⟩
abbrev cX4_clear : ByteArray := prog_6_method_5_code
def yX4_clear : MethodName := ⟨RX4, "clear", "(I)V"⟩
abbrev cX4_isMissing : ByteArray := prog_6_method_6_code
def yX4_isMissing : MethodName := ⟨RX4, "isMissing", "(I)Z"⟩
abbrev cX4_copySign : ByteArray := prog_6_method_7_code
def yX4_copySign : MethodName := ⟨RX4, "copySign", "(ILEngravedLines$Signs;I)V"⟩
abbrev cX4_become : ByteArray := prog_6_method_8_code
def yX4_become : MethodName := ⟨RX4, "become", "(LEngravedLines$Signs;)V"⟩
abbrev cX4_top : ByteArray := prog_6_method_9_code
def yX4_top : MethodName := ⟨RX4, "top", "(I)I"⟩
abbrev cX4_bottom : ByteArray := prog_6_method_10_code
def yX4_bottom : MethodName := ⟨RX4, "bottom", "(I)I"⟩
abbrev cX4_ideal : ByteArray := prog_6_method_11_code
def yX4_ideal : MethodName := ⟨RX4, "ideal", "(I)F"⟩
abbrev cX4_flex : ByteArray := prog_6_method_12_code
def yX4_flex : MethodName := ⟨RX4, "flex", "(IF)F"⟩
abbrev cX4_rod : ByteArray := prog_6_method_13_code
def yX4_rod : MethodName := ⟨RX4, "rod", "(I)F"⟩
def RX5 : String := "EngravedLines$Skyline"
def TX5 : u_T := fun k => match k with
  | 0 => ("EngravedLines$Skyline", "inked", "[Z", true)
  | 1 => ("EngravedLines$Skyline", "uppers", "[I", true)
  | _ => ("EngravedLines$Skyline", "lowers", "[I", true)
def tyX5 : Nat → FieldType := fun k => match k with
  | 0 => .array .boolean
  | 1 => .array .int
  | _ => .array .int
abbrev wsX50 : List Cond := u_ws RX5 TX5 3
theorem nmX5 : ∀ a, a < 3 → ∀ b, b < 3 → a ≠ b → (TX5 a).2.1 ≠ (TX5 b).2.1 := by decide +kernel
theorem tyX5_ok : ∀ k, k < 3 → parseFieldDescriptor (TX5 k).2.2.1 = some (tyX5 k) := by decide +kernel
abbrev cX5_init : ByteArray := prog_7_method_1_code
def yX5_init : MethodName := ⟨RX5, "<init>", "()V"⟩
abbrev cX5_trace : ByteArray := prog_7_method_2_code
def yX5_trace : MethodName := ⟨RX5, "trace", "(LEngravedLines$Signs;LEngravedLines$Stretch;)V"⟩
abbrev cX5_hasInk : ByteArray := prog_7_method_3_code
def yX5_hasInk : MethodName := ⟨RX5, "hasInk", "(I)Z"⟩
abbrev cX5_upper : ByteArray := prog_7_method_4_code
def yX5_upper : MethodName := ⟨RX5, "upper", "(I)I"⟩
abbrev cX5_lower : ByteArray := prog_7_method_5_code
def yX5_lower : MethodName := ⟨RX5, "lower", "(I)I"⟩
abbrev cX5_ink : ByteArray := prog_7_method_6_code
def yX5_ink : MethodName := ⟨RX5, "ink", "(IIII)V"⟩
def RX6 : String := "EngravedLines$Stretch"
def TX6 : u_T := fun k => match k with
  | 0 => ("EngravedLines$Stretch", "ideals", "[F", true)
  | 1 => ("EngravedLines$Stretch", "flexes", "[F", true)
  | 2 => ("EngravedLines$Stretch", "rods", "[F", true)
  | 3 => ("EngravedLines$Stretch", "areHeld", "[Z", true)
  | 4 => ("EngravedLines$Stretch", "lengths", "[F", true)
  | 5 => ("EngravedLines$Stretch", "places", "[F", true)
  | 6 => ("EngravedLines$Stretch", "first", "I", false)
  | 7 => ("EngravedLines$Stretch", "size", "I", false)
  | 8 => ("EngravedLines$Stretch", "lineWidth", "F", false)
  | _ => ("EngravedLines$Stretch", "pull", "F", false)
def tyX6 : Nat → FieldType := fun k => match k with
  | 0 => .array .float
  | 1 => .array .float
  | 2 => .array .float
  | 3 => .array .boolean
  | 4 => .array .float
  | 5 => .array .float
  | 6 => .int
  | 7 => .int
  | 8 => .float
  | _ => .float
abbrev wsX60 : List Cond := u_ws RX6 TX6 10
theorem nmX6 : ∀ a, a < 10 → ∀ b, b < 10 → a ≠ b → (TX6 a).2.1 ≠ (TX6 b).2.1 := by decide +kernel
theorem tyX6_ok : ∀ k, k < 10 → parseFieldDescriptor (TX6 k).2.2.1 = some (tyX6 k) := by decide +kernel
abbrev cX6_init : ByteArray := prog_8_method_1_code
def yX6_init : MethodName := ⟨RX6, "<init>", "()V"⟩
abbrev cX6_take : ByteArray := prog_8_method_2_code
def yX6_take : MethodName := ⟨RX6, "take", "(LEngravedLines$Signs;III)V"⟩
abbrev cX6_fits : ByteArray := prog_8_method_3_code
def yX6_fits : MethodName := ⟨RX6, "fits", "()Z"⟩
abbrev cX6_badness : ByteArray := prog_8_method_4_code
def yX6_badness : MethodName := ⟨RX6, "badness", "()F"⟩
abbrev cX6_settle : ByteArray := prog_8_method_5_code
def yX6_settle : MethodName := ⟨RX6, "settle", "(LEngravedLines$Signs;III)V"⟩
abbrev cX6_heldCount : ByteArray := prog_8_method_6_code
def yX6_heldCount : MethodName := ⟨RX6, "heldCount", "()I"⟩
abbrev cX6_length : ByteArray := prog_8_method_7_code
def yX6_length : MethodName := ⟨RX6, "length", "(I)F"⟩
abbrev cX6_place : ByteArray := prog_8_method_8_code
def yX6_place : MethodName := ⟨RX6, "place", "(I)F"⟩
abbrev cX6_cell : ByteArray := prog_8_method_9_code
def yX6_cell : MethodName := ⟨RX6, "cell", "(I)I"⟩
abbrev cX6_sum : ByteArray := prog_8_method_10_code
def yX6_sum : MethodName := ⟨RX6, "sum", "([F)F"⟩
abbrev cX6_balance : ByteArray := prog_8_method_11_code
def yX6_balance : MethodName := ⟨RX6, "balance", "()F"⟩
abbrev cX6_holdMore : ByteArray := prog_8_method_12_code
def yX6_holdMore : MethodName := ⟨RX6, "holdMore", "()Z"⟩
abbrev cX6_stretched : ByteArray := prog_8_method_13_code
def yX6_stretched : MethodName := ⟨RX6, "stretched", "(I)F"⟩
def RX7 : String := "EngravedLines$Tape"
def TX7 : u_T := fun k => match k with
  | 0 => ("EngravedLines$Tape", "bytes", "[I", true)
  | 1 => ("EngravedLines$Tape", "size", "I", false)
  | 2 => ("EngravedLines$Tape", "signs", "LEngravedLines$Signs;", true)
  | 3 => ("EngravedLines$Tape", "signCount", "I", false)
  | _ => ("EngravedLines$Tape", "next", "I", false)
def tyX7 : Nat → FieldType := fun k => match k with
  | 0 => .array .int
  | 1 => .int
  | 2 => .object "EngravedLines$Signs"
  | 3 => .int
  | _ => .int
abbrev wsX70 : List Cond := u_ws RX7 TX7 5
theorem nmX7 : ∀ a, a < 5 → ∀ b, b < 5 → a ≠ b → (TX7 a).2.1 ≠ (TX7 b).2.1 := by decide +kernel
theorem tyX7_ok : ∀ k, k < 5 → parseFieldDescriptor (TX7 k).2.2.1 = some (tyX7 k) := by decide +kernel
abbrev cX7_init : ByteArray := prog_9_method_1_code
def yX7_init : MethodName := ⟨RX7, "<init>", "()V"⟩
abbrev cX7_append : ByteArray := prog_9_method_2_code
def yX7_append : MethodName := ⟨RX7, "append", "(I)V"⟩
abbrev cX7_readMusic : ByteArray := prog_9_method_3_code
def yX7_readMusic : MethodName := ⟨RX7, "readMusic", "()I"⟩
abbrev cX7_isNext : ByteArray := prog_9_method_4_code
def yX7_isNext : MethodName := ⟨RX7, "isNext", "(C)Z"⟩
abbrev cX7_readSign : ByteArray := prog_9_method_5_code
def yX7_readSign : MethodName := ⟨RX7, "readSign", "()Z"⟩
abbrev cX7_readNumber : ByteArray := prog_9_method_6_code
def yX7_readNumber : MethodName := ⟨RX7, "readNumber", "(II)I"⟩
abbrev cX7_digit : ByteArray := prog_9_method_7_code
def yX7_digit : MethodName := ⟨RX7, "digit", "()I"⟩
abbrev cX7_readAdorn : ByteArray := prog_9_method_8_code
def yX7_readAdorn : MethodName := ⟨RX7, "readAdorn", "()I"⟩
abbrev cX7_keep : ByteArray := prog_9_method_9_code
def yX7_keep : MethodName := ⟨RX7, "keep", "(IIII)V"⟩
def RX8 : String := "EngravedLines"
def TX8 : u_T := fun k => match k with
  | 0 => ("EngravedLines", "now", "LEngravedLines$Page;", true)
  | 1 => ("EngravedLines", "kept", "LEngravedLines$Page;", true)
  | 2 => ("EngravedLines", "hasImage", "Z", false)
  | 3 => ("EngravedLines", "stretch", "LEngravedLines$Stretch;", true)
  | 4 => ("EngravedLines", "otherStretch", "LEngravedLines$Stretch;", true)
  | 5 => ("EngravedLines", "skyline", "LEngravedLines$Skyline;", true)
  | 6 => ("EngravedLines", "nextSkyline", "LEngravedLines$Skyline;", true)
  | 7 => ("EngravedLines", "best", "LEngravedLines$Best;", true)
  | 8 => ("EngravedLines", "otherBest", "LEngravedLines$Best;", true)
  | 9 => ("EngravedLines", "otherColumns", "LEngravedLines$Signs;", true)
  | 10 => ("EngravedLines", "tape", "LEngravedLines$Tape;", true)
  | 11 => ("EngravedLines", "sheets", "LEngravedLines$Sheets;", true)
  | _ => ("EngravedLines", "refusals", "[I", true)
def tyX8 : Nat → FieldType := fun k => match k with
  | 0 => .object "EngravedLines$Page"
  | 1 => .object "EngravedLines$Page"
  | 2 => .boolean
  | 3 => .object "EngravedLines$Stretch"
  | 4 => .object "EngravedLines$Stretch"
  | 5 => .object "EngravedLines$Skyline"
  | 6 => .object "EngravedLines$Skyline"
  | 7 => .object "EngravedLines$Best"
  | 8 => .object "EngravedLines$Best"
  | 9 => .object "EngravedLines$Signs"
  | 10 => .object "EngravedLines$Tape"
  | 11 => .object "EngravedLines$Sheets"
  | _ => .array .int
abbrev wsX80 : List Cond := u_ws RX8 TX8 13
theorem nmX8 : ∀ a, a < 13 → ∀ b, b < 13 → a ≠ b → (TX8 a).2.1 ≠ (TX8 b).2.1 := by decide +kernel
theorem tyX8_ok : ∀ k, k < 13 → parseFieldDescriptor (TX8 k).2.2.1 = some (tyX8 k) := by decide +kernel
abbrev cX8_init : ByteArray := prog_1_method_1_code
def yX8_init : MethodName := ⟨RX8, "<init>", "()V"⟩
abbrev cX8_add : ByteArray := prog_1_method_2_code
def yX8_add : MethodName := ⟨RX8, "add", "(II)I"⟩
abbrev cX8_drop : ByteArray := prog_1_method_3_code
def yX8_drop : MethodName := ⟨RX8, "drop", "()I"⟩
abbrev cX8_set : ByteArray := prog_1_method_4_code
def yX8_set : MethodName := ⟨RX8, "set", "(III)I"⟩
abbrev cX8_of : ByteArray := prog_1_method_5_code
def yX8_of : MethodName := ⟨RX8, "of", "(II)I"⟩
abbrev cX8_spring : ByteArray := prog_1_method_6_code
def yX8_spring : MethodName := ⟨RX8, "spring", "(II)I"⟩
abbrev cX8_width : ByteArray := prog_1_method_7_code
def yX8_width : MethodName := ⟨RX8, "width", "(I)I"⟩
abbrev cX8_force : ByteArray := prog_1_method_8_code
def yX8_force : MethodName := ⟨RX8, "force", "(II)I"⟩
abbrev cX8_held : ByteArray := prog_1_method_9_code
def yX8_held : MethodName := ⟨RX8, "held", "(II)I"⟩
abbrev cX8_at : ByteArray := prog_1_method_10_code
def yX8_at : MethodName := ⟨RX8, "at", "(IIII)I"⟩
abbrev cX8_bad : ByteArray := prog_1_method_11_code
def yX8_bad : MethodName := ⟨RX8, "bad", "(II)I"⟩
abbrev cX8_sky : ByteArray := prog_1_method_12_code
def yX8_sky : MethodName := ⟨RX8, "sky", "(IIII)I"⟩
abbrev cX8_apart : ByteArray := prog_1_method_13_code
def yX8_apart : MethodName := ⟨RX8, "apart", "(IIII)I"⟩
abbrev cX8_lines : ByteArray := prog_1_method_14_code
def yX8_lines : MethodName := ⟨RX8, "lines", "()I"⟩
abbrev cX8_line : ByteArray := prog_1_method_15_code
def yX8_line : MethodName := ⟨RX8, "line", "(II)I"⟩
abbrev cX8_total : ByteArray := prog_1_method_16_code
def yX8_total : MethodName := ⟨RX8, "total", "()I"⟩
abbrev cX8_moved : ByteArray := prog_1_method_17_code
def yX8_moved : MethodName := ⟨RX8, "moved", "(III)I"⟩
abbrev cX8_beam : ByteArray := prog_1_method_18_code
def yX8_beam : MethodName := ⟨RX8, "beam", "(III)I"⟩
abbrev cX8_slur : ByteArray := prog_1_method_19_code
def yX8_slur : MethodName := ⟨RX8, "slur", "(III)I"⟩
abbrev cX8_feed : ByteArray := prog_1_method_20_code
def yX8_feed : MethodName := ⟨RX8, "feed", "(I)I"⟩
abbrev cX8_music : ByteArray := prog_1_method_21_code
def yX8_music : MethodName := ⟨RX8, "music", "()I"⟩
abbrev cX8_shelf : ByteArray := prog_1_method_22_code
def yX8_shelf : MethodName := ⟨RX8, "shelf", "(III)I"⟩
abbrev cX8_store : ByteArray := prog_1_method_23_code
def yX8_store : MethodName := ⟨RX8, "store", "(III)I"⟩
abbrev cX8_fetch : ByteArray := prog_1_method_24_code
def yX8_fetch : MethodName := ⟨RX8, "fetch", "(III)I"⟩
abbrev cX8_comes : ByteArray := prog_1_method_25_code
def yX8_comes : MethodName := ⟨RX8, "comes", "(II)I"⟩
abbrev cX8_sheet : ByteArray := prog_1_method_26_code
def yX8_sheet : MethodName := ⟨RX8, "sheet", "(III)I"⟩
abbrev cX8_put : ByteArray := prog_1_method_27_code
def yX8_put : MethodName := ⟨RX8, "put", "(IIJI)I"⟩
abbrev cX8_bits : ByteArray := prog_1_method_28_code
def yX8_bits : MethodName := ⟨RX8, "bits", "(II)J"⟩
abbrev cX8_cast : ByteArray := prog_1_method_29_code
def yX8_cast : MethodName := ⟨RX8, "cast", "(II)I"⟩
abbrev cX8_rest : ByteArray := prog_1_method_30_code
def yX8_rest : MethodName := ⟨RX8, "rest", "(III)I"⟩
abbrev cX8_lays : ByteArray := prog_1_method_31_code
def yX8_lays : MethodName := ⟨RX8, "lays", "(III)I"⟩
abbrev cX8_image : ByteArray := prog_1_method_32_code
def yX8_image : MethodName := ⟨RX8, "image", "()I"⟩
abbrev cX8_restore : ByteArray := prog_1_method_33_code
def yX8_restore : MethodName := ⟨RX8, "restore", "()I"⟩
abbrev cX8_count : ByteArray := prog_1_method_34_code
def yX8_count : MethodName := ⟨RX8, "count", "(I)I"⟩
abbrev cX8_told : ByteArray := prog_1_method_35_code
def yX8_told : MethodName := ⟨RX8, "told", "(I)I"⟩
abbrev cX8_refuse : ByteArray := prog_1_method_36_code
def yX8_refuse : MethodName := ⟨RX8, "refuse", "(I)I"⟩
abbrev cX8_refuseLong : ByteArray := prog_1_method_37_code
def yX8_refuseLong : MethodName := ⟨RX8, "refuseLong", "(I)J"⟩
abbrev cX8_isColumn : ByteArray := prog_1_method_38_code
def yX8_isColumn : MethodName := ⟨RX8, "isColumn", "(I)Z"⟩
abbrev cX8_isStretch : ByteArray := prog_1_method_39_code
def yX8_isStretch : MethodName := ⟨RX8, "isStretch", "(II)Z"⟩
abbrev cX8_findBest : ByteArray := prog_1_method_40_code
def yX8_findBest : MethodName := ⟨RX8, "findBest", "()V"⟩
abbrev cX8_traceLine : ByteArray := prog_1_method_41_code
def yX8_traceLine : MethodName := ⟨RX8, "traceLine", "(LEngravedLines$Skyline;II)V"⟩
abbrev cX8_distance : ByteArray := prog_1_method_42_code
def yX8_distance : MethodName := ⟨RX8, "distance", "(IIII)I"⟩
abbrev cX8_standsOtherwise : ByteArray := prog_1_method_43_code
def yX8_standsOtherwise : MethodName := ⟨RX8, "standsOtherwise", "(I)Z"⟩
abbrev cX8_areNotes : ByteArray := prog_1_method_44_code
def yX8_areNotes : MethodName := ⟨RX8, "areNotes", "(II)Z"⟩
abbrev cX8_beamRise : ByteArray := prog_1_method_45_code
def yX8_beamRise : MethodName := ⟨RX8, "beamRise", "(II)F"⟩
abbrev cX8_beamSlope : ByteArray := prog_1_method_46_code
def yX8_beamSlope : MethodName := ⟨RX8, "beamSlope", "(II)F"⟩
abbrev cX8_beamGoesUp : ByteArray := prog_1_method_47_code
def yX8_beamGoesUp : MethodName := ⟨RX8, "beamGoesUp", "(II)Z"⟩
abbrev cX8_beamLift : ByteArray := prog_1_method_48_code
def yX8_beamLift : MethodName := ⟨RX8, "beamLift", "(II)F"⟩
abbrev cX8_slurHeight : ByteArray := prog_1_method_49_code
def yX8_slurHeight : MethodName := ⟨RX8, "slurHeight", "(IIZ)I"⟩
abbrev cX8_inkTowards : ByteArray := prog_1_method_50_code
def yX8_inkTowards : MethodName := ⟨RX8, "inkTowards", "(IZ)I"⟩
abbrev cX8_countNotes : ByteArray := prog_1_method_51_code
def yX8_countNotes : MethodName := ⟨RX8, "countNotes", "()I"⟩
abbrev cX8_sumDurations : ByteArray := prog_1_method_52_code
def yX8_sumDurations : MethodName := ⟨RX8, "sumDurations", "()I"⟩
abbrev cX8_isHeight : ByteArray := prog_1_method_53_code
def yX8_isHeight : MethodName := ⟨RX8, "isHeight", "(I)Z"⟩
abbrev cX8_isWithin : ByteArray := prog_1_method_54_code
def yX8_isWithin : MethodName := ⟨RX8, "isWithin", "(III)Z"⟩
abbrev cX8_isAllowed : ByteArray := prog_1_method_55_code
def yX8_isAllowed : MethodName := ⟨RX8, "isAllowed", "(II)Z"⟩
abbrev cX8_floatBits : ByteArray := prog_1_method_56_code
def yX8_floatBits : MethodName := ⟨RX8, "floatBits", "(F)I"⟩
abbrev cX8_readInt : ByteArray := prog_1_method_57_code
def yX8_readInt : MethodName := ⟨RX8, "readInt", "([II)I"⟩
abbrev cX8_writeInt : ByteArray := prog_1_method_58_code
def yX8_writeInt : MethodName := ⟨RX8, "writeInt", "([III)V"⟩
abbrev cX8_readFloat : ByteArray := prog_1_method_59_code
def yX8_readFloat : MethodName := ⟨RX8, "readFloat", "([FI)F"⟩
abbrev cX8_writeFloat : ByteArray := prog_1_method_60_code
def yX8_writeFloat : MethodName := ⟨RX8, "writeFloat", "([FIF)V"⟩
abbrev cX8_readLong : ByteArray := prog_1_method_61_code
def yX8_readLong : MethodName := ⟨RX8, "readLong", "([JI)J"⟩
abbrev cX8_writeLong : ByteArray := prog_1_method_62_code
def yX8_writeLong : MethodName := ⟨RX8, "writeLong", "([JIJ)V"⟩
abbrev cX8_readFlag : ByteArray := prog_1_method_63_code
def yX8_readFlag : MethodName := ⟨RX8, "readFlag", "([ZI)Z"⟩
abbrev cX8_writeFlag : ByteArray := prog_1_method_64_code
def yX8_writeFlag : MethodName := ⟨RX8, "writeFlag", "([ZIZ)V"⟩
abbrev cX8_copy : ByteArray := prog_1_method_65_code
def yX8_copy : MethodName := ⟨RX8, "copy", "([I[I)V"⟩
def RX9 : String := "EngravedLinesModel"
def TX9 : u_T := fun k => match k with
  | 0 => ("EngravedLinesModel", "now", "[I", true)
  | 1 => ("EngravedLinesModel", "kept", "[I", true)
  | 2 => ("EngravedLinesModel", "isKept", "Z", false)
  | 3 => ("EngravedLinesModel", "met", "[I", true)
  | 4 => ("EngravedLinesModel", "force", "F", false)
  | 5 => ("EngravedLinesModel", "heldMany", "I", false)
  | 6 => ("EngravedLinesModel", "isHeld", "[Z", true)
  | 7 => ("EngravedLinesModel", "length", "[F", true)
  | 8 => ("EngravedLinesModel", "at", "[F", true)
  | 9 => ("EngravedLinesModel", "badness", "F", false)
  | 10 => ("EngravedLinesModel", "upper", "[I", true)
  | 11 => ("EngravedLinesModel", "lower", "[I", true)
  | 12 => ("EngravedLinesModel", "aside", "[I", true)
  | 13 => ("EngravedLinesModel", "least", "[F", true)
  | 14 => ("EngravedLinesModel", "from", "[I", true)
  | 15 => ("EngravedLinesModel", "lineMany", "I", false)
  | 16 => ("EngravedLinesModel", "begin", "[I", true)
  | 17 => ("EngravedLinesModel", "end", "[I", true)
  | 18 => ("EngravedLinesModel", "wereMany", "I", false)
  | 19 => ("EngravedLinesModel", "wasBegin", "[I", true)
  | 20 => ("EngravedLinesModel", "wasEnd", "[I", true)
  | 21 => ("EngravedLinesModel", "wasAt", "[F", true)
  | 22 => ("EngravedLinesModel", "tape", "[I", true)
  | 23 => ("EngravedLinesModel", "taped", "I", false)
  | 24 => ("EngravedLinesModel", "place", "I", false)
  | 25 => ("EngravedLinesModel", "good", "Z", false)
  | 26 => ("EngravedLinesModel", "read", "[I", true)
  | 27 => ("EngravedLinesModel", "readMany", "I", false)
  | 28 => ("EngravedLinesModel", "sort", "[I", true)
  | 29 => ("EngravedLinesModel", "size", "[I", true)
  | 30 => ("EngravedLinesModel", "singles", "[F", true)
  | 31 => ("EngravedLinesModel", "doubles", "[D", true)
  | _ => ("EngravedLinesModel", "wholes", "[I", true)
def tyX9 : Nat → FieldType := fun k => match k with
  | 0 => .array .int
  | 1 => .array .int
  | 2 => .boolean
  | 3 => .array .int
  | 4 => .float
  | 5 => .int
  | 6 => .array .boolean
  | 7 => .array .float
  | 8 => .array .float
  | 9 => .float
  | 10 => .array .int
  | 11 => .array .int
  | 12 => .array .int
  | 13 => .array .float
  | 14 => .array .int
  | 15 => .int
  | 16 => .array .int
  | 17 => .array .int
  | 18 => .int
  | 19 => .array .int
  | 20 => .array .int
  | 21 => .array .float
  | 22 => .array .int
  | 23 => .int
  | 24 => .int
  | 25 => .boolean
  | 26 => .array .int
  | 27 => .int
  | 28 => .array .int
  | 29 => .array .int
  | 30 => .array .float
  | 31 => .array .double
  | _ => .array .int
abbrev wsX90 : List Cond := u_ws RX9 TX9 33
theorem nmX9 : ∀ a, a < 33 → ∀ b, b < 33 → a ≠ b → (TX9 a).2.1 ≠ (TX9 b).2.1 := by decide +kernel
theorem tyX9_ok : ∀ k, k < 33 → parseFieldDescriptor (TX9 k).2.2.1 = some (tyX9 k) := by decide +kernel
abbrev cX9_init : ByteArray := prog_11_method_1_code
def yX9_init : MethodName := ⟨RX9, "<init>", "()V"⟩
abbrev cX9_in : ByteArray := prog_11_method_2_code
def yX9_in : MethodName := ⟨RX9, "in", "(JJJ)Z"⟩
abbrev cX9_errs : ByteArray := prog_11_method_3_code
def yX9_errs : MethodName := ⟨RX9, "errs", "(I)I"⟩
abbrev cX9_errsLong : ByteArray := prog_11_method_4_code
def yX9_errsLong : MethodName := ⟨RX9, "errsLong", "(I)J"⟩
abbrev cX9_copy : ByteArray := prog_11_method_5_code
def yX9_copy : MethodName := ⟨RX9, "copy", "([I[I)V"⟩
abbrev cX9_its : ByteArray := prog_11_method_6_code
def yX9_its : MethodName := ⟨RX9, "its", "(II)I"⟩
abbrev cX9_sets : ByteArray := prog_11_method_7_code
def yX9_sets : MethodName := ⟨RX9, "sets", "(III)V"⟩
abbrev cX9_isColumn : ByteArray := prog_11_method_8_code
def yX9_isColumn : MethodName := ⟨RX9, "isColumn", "(I)Z"⟩
abbrev cX9_mayBe : ByteArray := prog_11_method_9_code
def yX9_mayBe : MethodName := ⟨RX9, "mayBe", "(II)Z"⟩
abbrev cX9_comes : ByteArray := prog_11_method_10_code
def yX9_comes : MethodName := ⟨RX9, "comes", "(IIIII)I"⟩
abbrev cX9_add : ByteArray := prog_11_method_11_code
def yX9_add : MethodName := ⟨RX9, "add", "(II)I"⟩
abbrev cX9_drop : ByteArray := prog_11_method_12_code
def yX9_drop : MethodName := ⟨RX9, "drop", "()I"⟩
abbrev cX9_set : ByteArray := prog_11_method_13_code
def yX9_set : MethodName := ⟨RX9, "set", "(III)I"⟩
abbrev cX9_topOf : ByteArray := prog_11_method_14_code
def yX9_topOf : MethodName := ⟨RX9, "topOf", "(III)I"⟩
abbrev cX9_top : ByteArray := prog_11_method_15_code
def yX9_top : MethodName := ⟨RX9, "top", "(I)I"⟩
abbrev cX9_bottom : ByteArray := prog_11_method_16_code
def yX9_bottom : MethodName := ⟨RX9, "bottom", "(I)I"⟩
abbrev cX9_of : ByteArray := prog_11_method_17_code
def yX9_of : MethodName := ⟨RX9, "of", "(II)I"⟩
abbrev cX9_ideal : ByteArray := prog_11_method_18_code
def yX9_ideal : MethodName := ⟨RX9, "ideal", "(I)F"⟩
abbrev cX9_flex : ByteArray := prog_11_method_19_code
def yX9_flex : MethodName := ⟨RX9, "flex", "(I)F"⟩
abbrev cX9_rod : ByteArray := prog_11_method_20_code
def yX9_rod : MethodName := ⟨RX9, "rod", "(I)F"⟩
abbrev cX9_spring : ByteArray := prog_11_method_21_code
def yX9_spring : MethodName := ⟨RX9, "spring", "(II)I"⟩
abbrev cX9_width : ByteArray := prog_11_method_22_code
def yX9_width : MethodName := ⟨RX9, "width", "(I)I"⟩
abbrev cX9_wanted : ByteArray := prog_11_method_23_code
def yX9_wanted : MethodName := ⟨RX9, "wanted", "(I)F"⟩
abbrev cX9_forceOf : ByteArray := prog_11_method_24_code
def yX9_forceOf : MethodName := ⟨RX9, "forceOf", "(II)V"⟩
abbrev cX9_laysOut : ByteArray := prog_11_method_25_code
def yX9_laysOut : MethodName := ⟨RX9, "laysOut", "(II)V"⟩
abbrev cX9_isStretch : ByteArray := prog_11_method_26_code
def yX9_isStretch : MethodName := ⟨RX9, "isStretch", "(II)Z"⟩
abbrev cX9_force : ByteArray := prog_11_method_27_code
def yX9_force : MethodName := ⟨RX9, "force", "(II)I"⟩
abbrev cX9_held : ByteArray := prog_11_method_28_code
def yX9_held : MethodName := ⟨RX9, "held", "(II)I"⟩
abbrev cX9_at : ByteArray := prog_11_method_29_code
def yX9_at : MethodName := ⟨RX9, "at", "(IIII)I"⟩
abbrev cX9_isGood : ByteArray := prog_11_method_30_code
def yX9_isGood : MethodName := ⟨RX9, "isGood", "(II)Z"⟩
abbrev cX9_bad : ByteArray := prog_11_method_31_code
def yX9_bad : MethodName := ⟨RX9, "bad", "(II)I"⟩
abbrev cX9_inks : ByteArray := prog_11_method_32_code
def yX9_inks : MethodName := ⟨RX9, "inks", "(II)V"⟩
abbrev cX9_sky : ByteArray := prog_11_method_33_code
def yX9_sky : MethodName := ⟨RX9, "sky", "(IIII)I"⟩
abbrev cX9_apartOf : ByteArray := prog_11_method_34_code
def yX9_apartOf : MethodName := ⟨RX9, "apartOf", "(IIII)I"⟩
abbrev cX9_apart : ByteArray := prog_11_method_35_code
def yX9_apart : MethodName := ⟨RX9, "apart", "(IIII)I"⟩
abbrev cX9_isEnd : ByteArray := prog_11_method_36_code
def yX9_isEnd : MethodName := ⟨RX9, "isEnd", "(I)Z"⟩
abbrev cX9_bestTo : ByteArray := prog_11_method_37_code
def yX9_bestTo : MethodName := ⟨RX9, "bestTo", "(I)V"⟩
abbrev cX9_breaks : ByteArray := prog_11_method_38_code
def yX9_breaks : MethodName := ⟨RX9, "breaks", "()Z"⟩
abbrev cX9_lines : ByteArray := prog_11_method_39_code
def yX9_lines : MethodName := ⟨RX9, "lines", "()I"⟩
abbrev cX9_line : ByteArray := prog_11_method_40_code
def yX9_line : MethodName := ⟨RX9, "line", "(II)I"⟩
abbrev cX9_total : ByteArray := prog_11_method_41_code
def yX9_total : MethodName := ⟨RX9, "total", "()I"⟩
abbrev cX9_keepsLines : ByteArray := prog_11_method_42_code
def yX9_keepsLines : MethodName := ⟨RX9, "keepsLines", "()V"⟩
abbrev cX9_isAsWas : ByteArray := prog_11_method_43_code
def yX9_isAsWas : MethodName := ⟨RX9, "isAsWas", "(I)Z"⟩
abbrev cX9_moved : ByteArray := prog_11_method_44_code
def yX9_moved : MethodName := ⟨RX9, "moved", "(III)I"⟩
abbrev cX9_whole : ByteArray := prog_11_method_45_code
def yX9_whole : MethodName := ⟨RX9, "whole", "(F)F"⟩
abbrev cX9_rise : ByteArray := prog_11_method_46_code
def yX9_rise : MethodName := ⟨RX9, "rise", "(II)F"⟩
abbrev cX9_slope : ByteArray := prog_11_method_47_code
def yX9_slope : MethodName := ⟨RX9, "slope", "(II)F"⟩
abbrev cX9_isUp : ByteArray := prog_11_method_48_code
def yX9_isUp : MethodName := ⟨RX9, "isUp", "(II)Z"⟩
abbrev cX9_lift : ByteArray := prog_11_method_49_code
def yX9_lift : MethodName := ⟨RX9, "lift", "(II)F"⟩
abbrev cX9_areNotes : ByteArray := prog_11_method_50_code
def yX9_areNotes : MethodName := ⟨RX9, "areNotes", "(II)Z"⟩
abbrev cX9_beam : ByteArray := prog_11_method_51_code
def yX9_beam : MethodName := ⟨RX9, "beam", "(III)I"⟩
abbrev cX9_ink : ByteArray := prog_11_method_52_code
def yX9_ink : MethodName := ⟨RX9, "ink", "(II)I"⟩
abbrev cX9_height : ByteArray := prog_11_method_53_code
def yX9_height : MethodName := ⟨RX9, "height", "(III)I"⟩
abbrev cX9_slur : ByteArray := prog_11_method_54_code
def yX9_slur : MethodName := ⟨RX9, "slur", "(III)I"⟩
abbrev cX9_feed : ByteArray := prog_11_method_55_code
def yX9_feed : MethodName := ⟨RX9, "feed", "(I)I"⟩
abbrev cX9_takes : ByteArray := prog_11_method_56_code
def yX9_takes : MethodName := ⟨RX9, "takes", "(I)Z"⟩
abbrev cX9_isDigit : ByteArray := prog_11_method_57_code
def yX9_isDigit : MethodName := ⟨RX9, "isDigit", "()Z"⟩
abbrev cX9_number : ByteArray := prog_11_method_58_code
def yX9_number : MethodName := ⟨RX9, "number", "(II)I"⟩
abbrev cX9_sign : ByteArray := prog_11_method_59_code
def yX9_sign : MethodName := ⟨RX9, "sign", "()V"⟩
abbrev cX9_music : ByteArray := prog_11_method_60_code
def yX9_music : MethodName := ⟨RX9, "music", "()I"⟩
abbrev cX9_isShelf : ByteArray := prog_11_method_61_code
def yX9_isShelf : MethodName := ⟨RX9, "isShelf", "(I)Z"⟩
abbrev cX9_shelfAt : ByteArray := prog_11_method_62_code
def yX9_shelfAt : MethodName := ⟨RX9, "shelfAt", "(I)I"⟩
abbrev cX9_isPlace : ByteArray := prog_11_method_63_code
def yX9_isPlace : MethodName := ⟨RX9, "isPlace", "(II)Z"⟩
abbrev cX9_placeAt : ByteArray := prog_11_method_64_code
def yX9_placeAt : MethodName := ⟨RX9, "placeAt", "(II)I"⟩
abbrev cX9_shelf : ByteArray := prog_11_method_65_code
def yX9_shelf : MethodName := ⟨RX9, "shelf", "(III)I"⟩
abbrev cX9_store : ByteArray := prog_11_method_66_code
def yX9_store : MethodName := ⟨RX9, "store", "(III)I"⟩
abbrev cX9_fetch : ByteArray := prog_11_method_67_code
def yX9_fetch : MethodName := ⟨RX9, "fetch", "(III)I"⟩
abbrev cX9_comes_ : ByteArray := prog_11_method_68_code
def yX9_comes_ : MethodName := ⟨RX9, "comes", "(II)I"⟩
abbrev cX9_isSheet : ByteArray := prog_11_method_69_code
def yX9_isSheet : MethodName := ⟨RX9, "isSheet", "(I)Z"⟩
abbrev cX9_sheet : ByteArray := prog_11_method_70_code
def yX9_sheet : MethodName := ⟨RX9, "sheet", "(III)I"⟩
abbrev cX9_isItem : ByteArray := prog_11_method_71_code
def yX9_isItem : MethodName := ⟨RX9, "isItem", "(II)Z"⟩
abbrev cX9_narrow : ByteArray := prog_11_method_72_code
def yX9_narrow : MethodName := ⟨RX9, "narrow", "(II)I"⟩
abbrev cX9_put : ByteArray := prog_11_method_73_code
def yX9_put : MethodName := ⟨RX9, "put", "(IIJI)I"⟩
abbrev cX9_bits : ByteArray := prog_11_method_74_code
def yX9_bits : MethodName := ⟨RX9, "bits", "(II)J"⟩
abbrev cX9_cast : ByteArray := prog_11_method_75_code
def yX9_cast : MethodName := ⟨RX9, "cast", "(II)I"⟩
abbrev cX9_isNought : ByteArray := prog_11_method_76_code
def yX9_isNought : MethodName := ⟨RX9, "isNought", "(II)Z"⟩
abbrev cX9_rest : ByteArray := prog_11_method_77_code
def yX9_rest : MethodName := ⟨RX9, "rest", "(III)I"⟩
abbrev cX9_lays : ByteArray := prog_11_method_78_code
def yX9_lays : MethodName := ⟨RX9, "lays", "(III)I"⟩
abbrev cX9_image : ByteArray := prog_11_method_79_code
def yX9_image : MethodName := ⟨RX9, "image", "()I"⟩
abbrev cX9_restore : ByteArray := prog_11_method_80_code
def yX9_restore : MethodName := ⟨RX9, "restore", "()I"⟩
abbrev cX9_notes : ByteArray := prog_11_method_81_code
def yX9_notes : MethodName := ⟨RX9, "notes", "()I"⟩
abbrev cX9_durations : ByteArray := prog_11_method_82_code
def yX9_durations : MethodName := ⟨RX9, "durations", "()I"⟩
abbrev cX9_shelved : ByteArray := prog_11_method_83_code
def yX9_shelved : MethodName := ⟨RX9, "shelved", "()I"⟩
abbrev cX9_count : ByteArray := prog_11_method_84_code
def yX9_count : MethodName := ⟨RX9, "count", "(I)I"⟩
abbrev cX9_told : ByteArray := prog_11_method_85_code
def yX9_told : MethodName := ⟨RX9, "told", "(I)I"⟩
def RJxe99ae : String := "java/lang/Double"
def TJxe99ae : u_T := fun k => match k with
  | _ => ("", "", "", false)
def tyJxe99ae : Nat → FieldType := fun k => match k with
  | _ => .int
abbrev wsJxe99ae0 : List Cond := u_ws RJxe99ae TJxe99ae 0
theorem nmJxe99ae : ∀ a, a < 0 → ∀ b, b < 0 → a ≠ b → (TJxe99ae a).2.1 ≠ (TJxe99ae b).2.1 := by decide +kernel
theorem tyJxe99ae_ok : ∀ k, k < 0 → parseFieldDescriptor (TJxe99ae k).2.2.1 = some (tyJxe99ae k) := by decide +kernel
abbrev cJxe99ae_isNaN_b9ae7 : ByteArray := prog_12_method_6_code
def yJxe99ae_isNaN_b9ae7 : MethodName := ⟨RJxe99ae, "isNaN", "(D)Z"⟩
abbrev cJxe99ae_doubleToLongBits_ccdee : ByteArray := prog_12_method_23_code
def yJxe99ae_doubleToLongBits_ccdee : MethodName := ⟨RJxe99ae, "doubleToLongBits", "(D)J"⟩
def RJxf58ca : String := "java/lang/Float"
def TJxf58ca : u_T := fun k => match k with
  | _ => ("", "", "", false)
def tyJxf58ca : Nat → FieldType := fun k => match k with
  | _ => .int
abbrev wsJxf58ca0 : List Cond := u_ws RJxf58ca TJxf58ca 0
theorem nmJxf58ca : ∀ a, a < 0 → ∀ b, b < 0 → a ≠ b → (TJxf58ca a).2.1 ≠ (TJxf58ca b).2.1 := by decide +kernel
theorem tyJxf58ca_ok : ∀ k, k < 0 → parseFieldDescriptor (TJxf58ca k).2.2.1 = some (tyJxf58ca k) := by decide +kernel
abbrev cJxf58ca_isNaN_12338 : ByteArray := prog_13_method_6_code
def yJxf58ca_isNaN_12338 : MethodName := ⟨RJxf58ca, "isNaN", "(F)Z"⟩
abbrev cJxf58ca_floatToIntBits_5c35a : ByteArray := prog_13_method_24_code
def yJxf58ca_floatToIntBits_5c35a : MethodName := ⟨RJxf58ca, "floatToIntBits", "(F)I"⟩
def RJ9 : String := "java/lang/Math"
def TJ9 : u_T := fun k => match k with
  | _ => ("", "", "", false)
def tyJ9 : Nat → FieldType := fun k => match k with
  | _ => .int
abbrev wsJ90 : List Cond := u_ws RJ9 TJ9 0
theorem nmJ9 : ∀ a, a < 0 → ∀ b, b < 0 → a ≠ b → (TJ9 a).2.1 ≠ (TJ9 b).2.1 := by decide +kernel
theorem tyJ9_ok : ∀ k, k < 0 → parseFieldDescriptor (TJ9 k).2.2.1 = some (tyJ9 k) := by decide +kernel
abbrev cJ9_max_7cf53 : ByteArray := prog_14_method_65_code
def yJ9_max_7cf53 : MethodName := ⟨RJ9, "max", "(II)I"⟩
abbrev cJ9_min_7cf53 : ByteArray := prog_14_method_69_code
def yJ9_min_7cf53 : MethodName := ⟨RJ9, "min", "(II)I"⟩
def RL : String := "EngravedLinesLaw"
abbrev cL_law : ByteArray := code
def yL_law : MethodName := ⟨RL, "law", "([I)Z"⟩
abbrev vwCl : List vw_C := [(RX0, TX0, 7), (RX1, TX1, 6), (RX3, TX3, 3), (RX4, TX4, 1), (RX5, TX5, 3), (RX6, TX6, 10), (RX7, TX7, 5), (RX8, TX8, 13), (RX9, TX9, 33)]
/-- the decoded code of a method: pc, instruction, length -/
abbrev pTab : Type := List (Nat × Instr × Nat)
def pTabOk (c : ByteArray) (t : pTab) : Bool := t.all fun q => decide (decode c q.1 = .ok (q.2.1, q.2.2))
end
section
def tbX0_init : pTab := [(0, .aload_n 0, 1), (1, .invokespecial 3, 3), (4, .aload_n 0, 1), (5, .bipush 33, 2), (7, .newarray .int, 2), (9, .putfield 9, 3), (12, .aload_n 0, 1), (13, .bipush 33, 2), (15, .newarray .float, 2), (17, .putfield 15, 3), (20, .aload_n 0, 1), (21, .bipush 33, 2), (23, .newarray .int, 2), (25, .putfield 19, 3), (28, .aload_n 0, 1), (29, .new 22, 3), (32, .dup, 1), (33, .invokespecial 24, 3), (36, .putfield 25, 3), (39, .aload_n 0, 1), (40, .iconst 0, 1), (41, .putfield 29, 3), (44, .aload_n 0, 1), (45, .iconst 0, 1), (46, .putfield 33, 3), (49, .aload_n 0, 1), (50, .fconst 0, 1), (51, .putfield 37, 3), (54, .return_, 1)]
theorem tbX0_init_ok : pTabOk cX0_init tbX0_init = true := by decide +kernel
def tbX0_find : pTab := [(0, .aload_n 0, 1), (1, .iconst 0, 1), (2, .putfield 33, 3), (5, .aload_n 1, 1), (6, .ifnonnull 4, 3), (9, .return_, 1), (10, .aload_n 0, 1), (11, .getfield 9, 3), (14, .iconst 0, 1), (15, .iconst 0, 1), (16, .invokestatic 41, 3), (19, .aload_n 0, 1), (20, .getfield 15, 3), (23, .iconst 0, 1), (24, .fconst 0, 1), (25, .invokestatic 45, 3), (28, .iconst 1, 1), (29, .istore 4, 2), (31, .iload 4, 2), (33, .iload_n 2, 1), (34, .if_icmp .gt 46, 3), (37, .aload_n 0, 1), (38, .getfield 9, 3), (41, .iload 4, 2), (43, .iconst (-1), 1), (44, .invokestatic 41, 3), (47, .iload 4, 2), (49, .iload_n 2, 1), (50, .if_icmp .eq 16, 3), (53, .aload_n 1, 1), (54, .iload 4, 2), (56, .iconst 1, 1), (57, .isub, 1), (58, .iconst 0, 1), (59, .invokevirtual 49, 3), (62, .iconst 2, 1), (63, .if_icmp .ne 11, 3), (66, .aload_n 0, 1), (67, .iload 4, 2), (69, .aload_n 1, 1), (70, .iload_n 3, 1), (71, .invokevirtual 55, 3), (74, .iinc 4 1, 3), (77, .goto (-46), 3), (80, .aload_n 0, 1), (81, .aload_n 0, 1), (82, .getfield 9, 3), (85, .iload_n 2, 1), (86, .invokestatic 59, 3), (89, .iconst (-1), 1), (90, .if_icmp .eq 7, 3), (93, .iconst 1, 1), (94, .goto 4, 3), (97, .iconst 0, 1), (98, .putfield 33, 3), (101, .aload_n 0, 1), (102, .aload_n 0, 1), (103, .getfield 15, 3), (106, .iload_n 2, 1), (107, .invokestatic 63, 3), (110, .putfield 37, 3), (113, .aload_n 0, 1), (114, .iload_n 2, 1), (115, .invokevirtual 67, 3), (118, .return_, 1)]
theorem tbX0_find_ok : pTabOk cX0_find tbX0_find = true := by decide +kernel
def tbX0_first : pTab := [(0, .aload_n 0, 1), (1, .getfield 19, 3), (4, .iload_n 1, 1), (5, .invokestatic 59, 3), (8, .ireturn, 1)]
theorem tbX0_first_ok : pTabOk cX0_first tbX0_first = true := by decide +kernel
def tbX0_last : pTab := [(0, .aload_n 0, 1), (1, .getfield 19, 3), (4, .iload_n 1, 1), (5, .iconst 1, 1), (6, .iadd, 1), (7, .invokestatic 59, 3), (10, .iconst 1, 1), (11, .isub, 1), (12, .ireturn, 1)]
theorem tbX0_last_ok : pTabOk cX0_last tbX0_last = true := by decide +kernel
def tbX0_reach : pTab := [(0, .iconst 0, 1), (1, .istore 4, 2), (3, .iload 4, 2), (5, .iload_n 1, 1), (6, .if_icmp .ge 117, 3), (9, .aload_n 0, 1), (10, .getfield 9, 3), (13, .iload 4, 2), (15, .invokestatic 59, 3), (18, .iconst (-1), 1), (19, .if_icmp .ne 6, 3), (22, .goto 95, 3), (25, .aload_n 0, 1), (26, .getfield 25, 3), (29, .aload_n 2, 1), (30, .iload 4, 2), (32, .iload_n 1, 1), (33, .iconst 1, 1), (34, .isub, 1), (35, .iload_n 3, 1), (36, .invokevirtual 71, 3), (39, .aload_n 0, 1), (40, .getfield 25, 3), (43, .invokevirtual 75, 3), (46, .ifCond .ne 6, 3), (49, .goto 68, 3), (52, .aload_n 0, 1), (53, .getfield 15, 3), (56, .iload 4, 2), (58, .invokestatic 63, 3), (61, .aload_n 0, 1), (62, .getfield 25, 3), (65, .invokevirtual 79, 3), (68, .fadd, 1), (69, .fstore 5, 2), (71, .aload_n 0, 1), (72, .getfield 9, 3), (75, .iload_n 1, 1), (76, .invokestatic 59, 3), (79, .iconst (-1), 1), (80, .if_icmp .eq 17, 3), (83, .fload 5, 2), (85, .aload_n 0, 1), (86, .getfield 15, 3), (89, .iload_n 1, 1), (90, .invokestatic 63, 3), (93, .fcmp .g, 1), (94, .ifCond .ge 23, 3), (97, .aload_n 0, 1), (98, .getfield 9, 3), (101, .iload_n 1, 1), (102, .iload 4, 2), (104, .invokestatic 41, 3), (107, .aload_n 0, 1), (108, .getfield 15, 3), (111, .iload_n 1, 1), (112, .fload 5, 2), (114, .invokestatic 45, 3), (117, .iinc 4 1, 3), (120, .goto (-117), 3), (123, .return_, 1)]
theorem tbX0_reach_ok : pTabOk cX0_reach tbX0_reach = true := by decide +kernel
def tbX0_traceBack : pTab := [(0, .aload_n 0, 1), (1, .iconst 0, 1), (2, .putfield 29, 3), (5, .aload_n 0, 1), (6, .getfield 33, 3), (9, .ifCond .ne 4, 3), (12, .return_, 1), (13, .iload_n 1, 1), (14, .istore_n 2, 1), (15, .iload_n 2, 1), (16, .ifCond .le 34, 3), (19, .aload_n 0, 1), (20, .getfield 29, 3), (23, .bipush 32, 2), (25, .if_icmp .ge 25, 3), (28, .aload_n 0, 1), (29, .dup, 1), (30, .getfield 29, 3), (33, .iconst 1, 1), (34, .iadd, 1), (35, .putfield 29, 3), (38, .aload_n 0, 1), (39, .getfield 9, 3), (42, .iload_n 2, 1), (43, .invokestatic 59, 3), (46, .istore_n 2, 1), (47, .goto (-32), 3), (50, .iload_n 1, 1), (51, .istore_n 2, 1), (52, .aload_n 0, 1), (53, .getfield 29, 3), (56, .istore_n 3, 1), (57, .iload_n 3, 1), (58, .ifCond .lt 27, 3), (61, .aload_n 0, 1), (62, .getfield 19, 3), (65, .iload_n 3, 1), (66, .iload_n 2, 1), (67, .invokestatic 41, 3), (70, .aload_n 0, 1), (71, .getfield 9, 3), (74, .iload_n 2, 1), (75, .invokestatic 59, 3), (78, .istore_n 2, 1), (79, .iinc 3 (-1), 3), (82, .goto (-25), 3), (85, .return_, 1)]
theorem tbX0_traceBack_ok : pTabOk cX0_traceBack tbX0_traceBack = true := by decide +kernel
def tbX1_init : pTab := [(0, .aload_n 0, 1), (1, .invokespecial 3, 3), (4, .aload_n 0, 1), (5, .new 9, 3), (8, .dup, 1), (9, .invokespecial 11, 3), (12, .putfield 12, 3), (15, .aload_n 0, 1), (16, .iconst 0, 1), (17, .putfield 18, 3), (20, .aload_n 0, 1), (21, .bipush 120, 2), (23, .putfield 22, 3), (26, .aload_n 0, 1), (27, .new 9, 3), (30, .dup, 1), (31, .invokespecial 11, 3), (34, .putfield 25, 3), (37, .aload_n 0, 1), (38, .iconst 3, 1), (39, .newarray .int, 2), (41, .dup, 1), (42, .iconst 0, 1), (43, .iconst (-1), 1), (44, .iastore, 1), (45, .dup, 1), (46, .iconst 1, 1), (47, .iconst (-1), 1), (48, .iastore, 1), (49, .dup, 1), (50, .iconst 2, 1), (51, .iconst (-1), 1), (52, .iastore, 1), (53, .putfield 28, 3), (56, .aload_n 0, 1), (57, .iconst 3, 1), (58, .newarray .int, 2), (60, .dup, 1), (61, .iconst 0, 1), (62, .iconst 0, 1), (63, .iastore, 1), (64, .dup, 1), (65, .iconst 1, 1), (66, .iconst 0, 1), (67, .iastore, 1), (68, .dup, 1), (69, .iconst 2, 1), (70, .iconst 0, 1), (71, .iastore, 1), (72, .putfield 32, 3), (75, .return_, 1)]
theorem tbX1_init_ok : pTabOk cX1_init tbX1_init = true := by decide +kernel
def tbX1_place : pTab := [(0, .iload_n 0, 1), (1, .bipush 12, 2), (3, .imul, 1), (4, .iload_n 1, 1), (5, .iadd, 1), (6, .ireturn, 1)]
theorem tbX1_place_ok : pTabOk cX1_place tbX1_place = true := by decide +kernel
def tbX1_shelfKind : pTab := [(0, .aload_n 0, 1), (1, .getfield 28, 3), (4, .iload_n 1, 1), (5, .invokestatic 35, 3), (8, .ireturn, 1)]
theorem tbX1_shelfKind_ok : pTabOk cX1_shelfKind tbX1_shelfKind = true := by decide +kernel
def tbX1_hasPlace : pTab := [(0, .aload_n 0, 1), (1, .iload_n 1, 1), (2, .invokevirtual 39, 3), (5, .iconst (-1), 1), (6, .if_icmp .eq 23, 3), (9, .iload_n 2, 1), (10, .ifCond .lt 19, 3), (13, .iload_n 2, 1), (14, .aload_n 0, 1), (15, .getfield 32, 3), (18, .iload_n 1, 1), (19, .invokestatic 35, 3), (22, .if_icmp .ge 7, 3), (25, .iconst 1, 1), (26, .goto 4, 3), (29, .iconst 0, 1), (30, .ireturn, 1)]
theorem tbX1_hasPlace_ok : pTabOk cX1_hasPlace tbX1_hasPlace = true := by decide +kernel
def tbX1_clearShelf : pTab := [(0, .aload_n 0, 1), (1, .getfield 28, 3), (4, .iload_n 1, 1), (5, .iload_n 2, 1), (6, .invokestatic 43, 3), (9, .aload_n 0, 1), (10, .getfield 32, 3), (13, .iload_n 1, 1), (14, .iload_n 2, 1), (15, .iconst (-1), 1), (16, .if_icmp .ne 7, 3), (19, .iconst 0, 1), (20, .goto 4, 3), (23, .iload_n 3, 1), (24, .invokestatic 43, 3), (27, .iconst 0, 1), (28, .istore 4, 2), (30, .iload 4, 2), (32, .bipush 12, 2), (34, .if_icmp .ge 22, 3), (37, .aload_n 0, 1), (38, .getfield 25, 3), (41, .iload_n 1, 1), (42, .iload 4, 2), (44, .invokestatic 47, 3), (47, .invokevirtual 51, 3), (50, .iinc 4 1, 3), (53, .goto (-23), 3), (56, .return_, 1)]
theorem tbX1_clearShelf_ok : pTabOk cX1_clearShelf tbX1_clearShelf = true := by decide +kernel
def tbX1_countOnShelves : pTab := [(0, .iconst 0, 1), (1, .istore_n 1, 1), (2, .iconst 0, 1), (3, .istore_n 2, 1), (4, .iload_n 2, 1), (5, .iconst 3, 1), (6, .if_icmp .ge 50, 3), (9, .iconst 0, 1), (10, .istore_n 3, 1), (11, .aload_n 0, 1), (12, .iload_n 2, 1), (13, .iload_n 3, 1), (14, .invokevirtual 55, 3), (17, .ifCond .eq 33, 3), (20, .iload_n 3, 1), (21, .bipush 12, 2), (23, .if_icmp .ge 27, 3), (26, .aload_n 0, 1), (27, .getfield 25, 3), (30, .iload_n 2, 1), (31, .iload_n 3, 1), (32, .invokestatic 47, 3), (35, .invokevirtual 59, 3), (38, .ifCond .ne 6, 3), (41, .iinc 1 1, 3), (44, .iinc 3 1, 3), (47, .goto (-36), 3), (50, .iinc 2 1, 3), (53, .goto (-49), 3), (56, .iload_n 1, 1), (57, .ireturn, 1)]
theorem tbX1_countOnShelves_ok : pTabOk cX1_countOnShelves tbX1_countOnShelves = true := by decide +kernel
def tbX1_become : pTab := [(0, .aload_n 1, 1), (1, .ifnonnull 4, 3), (4, .return_, 1), (5, .aload_n 0, 1), (6, .getfield 12, 3), (9, .aload_n 1, 1), (10, .getfield 12, 3), (13, .invokevirtual 63, 3), (16, .aload_n 0, 1), (17, .aload_n 1, 1), (18, .getfield 18, 3), (21, .putfield 18, 3), (24, .aload_n 0, 1), (25, .aload_n 1, 1), (26, .getfield 22, 3), (29, .putfield 22, 3), (32, .aload_n 0, 1), (33, .getfield 25, 3), (36, .aload_n 1, 1), (37, .getfield 25, 3), (40, .invokevirtual 63, 3), (43, .aload_n 1, 1), (44, .getfield 28, 3), (47, .aload_n 0, 1), (48, .getfield 28, 3), (51, .invokestatic 67, 3), (54, .aload_n 1, 1), (55, .getfield 32, 3), (58, .aload_n 0, 1), (59, .getfield 32, 3), (62, .invokestatic 67, 3), (65, .return_, 1)]
theorem tbX1_become_ok : pTabOk cX1_become tbX1_become = true := by decide +kernel
def tbX2_encode : pTab := [(0, .dload_n 1, 1), (1, .dconst 0, 1), (2, .dcmp .l, 1), (3, .ifCond .ne 5, 3), (6, .lconst 0, 1), (7, .lreturn, 1), (8, .iload_n 0, 1), (9, .invokestatic 9, 3), (12, .istore_n 3, 1), (13, .lconst 1, 1), (14, .iload_n 3, 1), (15, .lshl, 1), (16, .lstore 4, 2), (18, .lload 4, 2), (20, .l2d, 1), (21, .dstore 6, 2), (23, .dload_n 1, 1), (24, .dconst 0, 1), (25, .dcmp .g, 1), (26, .ifCond .ge 8, 3), (29, .dload_n 1, 1), (30, .dneg, 1), (31, .goto 4, 3), (34, .dload_n 1, 1), (35, .dstore 8, 2), (37, .iload_n 3, 1), (38, .istore 10, 2), (40, .iconst 0, 1), (41, .istore 11, 2), (43, .iload 11, 2), (45, .sipush 1100, 3), (48, .if_icmp .ge 32, 3), (51, .dload 8, 2), (53, .dload 6, 2), (55, .ldc2_w 15, 3), (58, .dmul, 1), (59, .dcmp .l, 1), (60, .ifCond .lt 20, 3), (63, .dload 8, 2), (65, .ldc2_w 15, 3), (68, .ddiv, 1), (69, .dstore 8, 2), (71, .iinc 10 1, 3), (74, .iinc 11 1, 3), (77, .goto (-34), 3), (80, .iconst 0, 1), (81, .istore 11, 2), (83, .iload 11, 2), (85, .sipush 1100, 3), (88, .if_icmp .ge 28, 3), (91, .dload 8, 2), (93, .dload 6, 2), (95, .dcmp .g, 1), (96, .ifCond .ge 20, 3), (99, .dload 8, 2), (101, .ldc2_w 15, 3), (104, .dmul, 1), (105, .dstore 8, 2), (107, .iinc 10 (-1), 3), (110, .iinc 11 1, 3), (113, .goto (-30), 3), (116, .iload 10, 2), (118, .iload_n 0, 1), (119, .invokestatic 17, 3), (122, .iadd, 1), (123, .i2l, 1), (124, .iload_n 3, 1), (125, .lshl, 1), (126, .lstore 11, 2), (128, .iload_n 0, 1), (129, .lload 11, 2), (131, .dload 8, 2), (133, .d2l, 1), (134, .lload 4, 2), (136, .lsub, 1), (137, .ladd, 1), (138, .dload_n 1, 1), (139, .dconst 0, 1), (140, .dcmp .g, 1), (141, .ifCond .ge 7, 3), (144, .iconst 1, 1), (145, .goto 4, 3), (148, .iconst 0, 1), (149, .invokestatic 20, 3), (152, .lreturn, 1)]
theorem tbX2_encode_ok : pTabOk cX2_encode tbX2_encode = true := by decide +kernel
def tbX2_size : pTab := [(0, .iload_n 0, 1), (1, .invokestatic 9, 3), (4, .istore_n 3, 1), (5, .lload_n 1, 1), (6, .iload_n 0, 1), (7, .invokestatic 24, 3), (10, .lconst 1, 1), (11, .lsub, 1), (12, .land, 1), (13, .lstore 4, 2), (15, .lload 4, 2), (17, .lconst 0, 1), (18, .lcmp, 1), (19, .ifCond .ne 5, 3), (22, .dconst 0, 1), (23, .dreturn, 1), (24, .lconst 1, 1), (25, .iload_n 3, 1), (26, .lshl, 1), (27, .lstore 6, 2), (29, .lload 6, 2), (31, .lload 4, 2), (33, .lload 6, 2), (35, .lconst 1, 1), (36, .lsub, 1), (37, .land, 1), (38, .ladd, 1), (39, .l2d, 1), (40, .dstore 8, 2), (42, .lload 4, 2), (44, .iload_n 3, 1), (45, .lshr, 1), (46, .l2i, 1), (47, .iload_n 0, 1), (48, .invokestatic 17, 3), (51, .isub, 1), (52, .iload_n 3, 1), (53, .isub, 1), (54, .istore 10, 2), (56, .iconst 0, 1), (57, .istore 11, 2), (59, .iload 11, 2), (61, .sipush 1100, 3), (64, .if_icmp .ge 24, 3), (67, .iload 11, 2), (69, .iload 10, 2), (71, .if_icmp .ge 17, 3), (74, .dload 8, 2), (76, .ldc2_w 15, 3), (79, .dmul, 1), (80, .dstore 8, 2), (82, .iinc 11 1, 3), (85, .goto (-26), 3), (88, .iconst 0, 1), (89, .istore 11, 2), (91, .iload 11, 2), (93, .sipush 1100, 3), (96, .if_icmp .ge 25, 3), (99, .iload 11, 2), (101, .iload 10, 2), (103, .ineg, 1), (104, .if_icmp .ge 17, 3), (107, .dload 8, 2), (109, .ldc2_w 15, 3), (112, .ddiv, 1), (113, .dstore 8, 2), (115, .iinc 11 1, 3), (118, .goto (-27), 3), (121, .dload 8, 2), (123, .dreturn, 1)]
theorem tbX2_size_ok : pTabOk cX2_size tbX2_size = true := by decide +kernel
def tbX2_withSign : pTab := [(0, .iload_n 3, 1), (1, .ifCond .ne 5, 3), (4, .lload_n 1, 1), (5, .lreturn, 1), (6, .lload_n 1, 1), (7, .iload_n 0, 1), (8, .invokestatic 24, 3), (11, .lor, 1), (12, .lstore 4, 2), (14, .iload_n 0, 1), (15, .ifCond .ne 10, 3), (18, .lload 4, 2), (20, .l2i, 1), (21, .i2l, 1), (22, .goto 5, 3), (25, .lload 4, 2), (27, .lreturn, 1)]
theorem tbX2_withSign_ok : pTabOk cX2_withSign tbX2_withSign = true := by decide +kernel
def tbX2_remainder : pTab := [(0, .dload_n 2, 1), (1, .dconst 0, 1), (2, .dcmp .l, 1), (3, .ifCond .gt 5, 3), (6, .dconst 0, 1), (7, .dreturn, 1), (8, .dload_n 2, 1), (9, .dstore 4, 2), (11, .iconst 0, 1), (12, .istore 6, 2), (14, .iload 6, 2), (16, .sipush 1100, 3), (19, .if_icmp .ge 28, 3), (22, .dload 4, 2), (24, .ldc2_w 15, 3), (27, .dmul, 1), (28, .dload_n 0, 1), (29, .dcmp .g, 1), (30, .ifCond .gt 17, 3), (33, .dload 4, 2), (35, .ldc2_w 15, 3), (38, .dmul, 1), (39, .dstore 4, 2), (41, .iinc 6 1, 3), (44, .goto (-30), 3), (47, .dload_n 0, 1), (48, .dstore 7, 2), (50, .iload 6, 2), (52, .istore 9, 2), (54, .iload 9, 2), (56, .ifCond .lt 32, 3), (59, .dload 7, 2), (61, .dload 4, 2), (63, .dcmp .l, 1), (64, .ifCond .lt 10, 3), (67, .dload 7, 2), (69, .dload 4, 2), (71, .dsub, 1), (72, .dstore 7, 2), (74, .dload 4, 2), (76, .ldc2_w 15, 3), (79, .ddiv, 1), (80, .dstore 4, 2), (82, .iinc 9 (-1), 3), (85, .goto (-31), 3), (88, .dload 7, 2), (90, .dreturn, 1)]
theorem tbX2_remainder_ok : pTabOk cX2_remainder tbX2_remainder = true := by decide +kernel
def tbX2_fractionBits : pTab := [(0, .iload_n 0, 1), (1, .ifCond .ne 8, 3), (4, .bipush 23, 2), (6, .goto 5, 3), (9, .bipush 52, 2), (11, .ireturn, 1)]
theorem tbX2_fractionBits_ok : pTabOk cX2_fractionBits tbX2_fractionBits = true := by decide +kernel
def tbX2_bias : pTab := [(0, .iload_n 0, 1), (1, .ifCond .ne 8, 3), (4, .bipush 127, 2), (6, .goto 6, 3), (9, .sipush 1023, 3), (12, .ireturn, 1)]
theorem tbX2_bias_ok : pTabOk cX2_bias tbX2_bias = true := by decide +kernel
def tbX2_signBit : pTab := [(0, .iload_n 0, 1), (1, .ifCond .ne 9, 3), (4, .ldc2_w 28, 3), (7, .goto 6, 3), (10, .ldc2_w 30, 3), (13, .lreturn, 1)]
theorem tbX2_signBit_ok : pTabOk cX2_signBit tbX2_signBit = true := by decide +kernel
def tbX3_init : pTab := [(0, .aload_n 0, 1), (1, .invokespecial 3, 3), (4, .aload_n 0, 1), (5, .iconst 4, 1), (6, .newarray .int, 2), (8, .dup, 1), (9, .iconst 0, 1), (10, .iconst (-1), 1), (11, .iastore, 1), (12, .dup, 1), (13, .iconst 1, 1), (14, .iconst (-1), 1), (15, .iastore, 1), (16, .dup, 1), (17, .iconst 2, 1), (18, .iconst (-1), 1), (19, .iastore, 1), (20, .dup, 1), (21, .iconst 3, 1), (22, .iconst (-1), 1), (23, .iastore, 1), (24, .putfield 9, 3), (27, .aload_n 0, 1), (28, .iconst 4, 1), (29, .newarray .int, 2), (31, .dup, 1), (32, .iconst 0, 1), (33, .iconst 0, 1), (34, .iastore, 1), (35, .dup, 1), (36, .iconst 1, 1), (37, .iconst 0, 1), (38, .iastore, 1), (39, .dup, 1), (40, .iconst 2, 1), (41, .iconst 0, 1), (42, .iastore, 1), (43, .dup, 1), (44, .iconst 3, 1), (45, .iconst 0, 1), (46, .iastore, 1), (47, .putfield 15, 3), (50, .aload_n 0, 1), (51, .sipush 160, 3), (54, .newarray .long, 2), (56, .putfield 18, 3), (59, .return_, 1)]
theorem tbX3_init_ok : pTabOk cX3_init tbX3_init = true := by decide +kernel
def tbX3_sort : pTab := [(0, .aload_n 0, 1), (1, .getfield 9, 3), (4, .iload_n 1, 1), (5, .invokestatic 22, 3), (8, .ireturn, 1)]
theorem tbX3_sort_ok : pTabOk cX3_sort tbX3_sort = true := by decide +kernel
def tbX3_hasNumber : pTab := [(0, .aload_n 0, 1), (1, .iload_n 1, 1), (2, .invokevirtual 26, 3), (5, .iconst (-1), 1), (6, .if_icmp .eq 23, 3), (9, .iload_n 2, 1), (10, .ifCond .lt 19, 3), (13, .iload_n 2, 1), (14, .aload_n 0, 1), (15, .getfield 15, 3), (18, .iload_n 1, 1), (19, .invokestatic 22, 3), (22, .if_icmp .ge 7, 3), (25, .iconst 1, 1), (26, .goto 4, 3), (29, .iconst 0, 1), (30, .ireturn, 1)]
theorem tbX3_hasNumber_ok : pTabOk cX3_hasNumber tbX3_hasNumber = true := by decide +kernel
def tbX3_clear : pTab := [(0, .aload_n 0, 1), (1, .getfield 9, 3), (4, .iload_n 1, 1), (5, .iload_n 2, 1), (6, .invokestatic 30, 3), (9, .aload_n 0, 1), (10, .getfield 15, 3), (13, .iload_n 1, 1), (14, .iload_n 3, 1), (15, .invokestatic 30, 3), (18, .iconst 0, 1), (19, .istore 4, 2), (21, .iload 4, 2), (23, .bipush 40, 2), (25, .if_icmp .ge 17, 3), (28, .aload_n 0, 1), (29, .iload_n 1, 1), (30, .iload 4, 2), (32, .lconst 0, 1), (33, .invokevirtual 34, 3), (36, .iinc 4 1, 3), (39, .goto (-18), 3), (42, .return_, 1)]
theorem tbX3_clear_ok : pTabOk cX3_clear tbX3_clear = true := by decide +kernel
def tbX3_number : pTab := [(0, .aload_n 0, 1), (1, .getfield 18, 3), (4, .iload_n 1, 1), (5, .bipush 40, 2), (7, .imul, 1), (8, .iload_n 2, 1), (9, .iadd, 1), (10, .invokestatic 38, 3), (13, .lreturn, 1)]
theorem tbX3_number_ok : pTabOk cX3_number tbX3_number = true := by decide +kernel
def tbX3_scale : pTab := [(0, .iconst 1, 1), (1, .iload 5, 2), (3, .ishl, 1), (4, .i2d, 1), (5, .dstore 6, 2), (7, .aload_n 0, 1), (8, .iload_n 1, 1), (9, .invokevirtual 26, 3), (12, .tableswitch 78 0 2 #[28, 47, 65], 28), (40, .aload_n 0, 1), (41, .iload_n 1, 1), (42, .iload_n 2, 1), (43, .lload_n 3, 1), (44, .l2f, 1), (45, .dload 6, 2), (47, .d2f, 1), (48, .fdiv, 1), (49, .invokestatic 42, 3), (52, .i2l, 1), (53, .invokevirtual 34, 3), (56, .goto 43, 3), (59, .aload_n 0, 1), (60, .iload_n 1, 1), (61, .iload_n 2, 1), (62, .iconst 1, 1), (63, .lload_n 3, 1), (64, .l2d, 1), (65, .dload 6, 2), (67, .ddiv, 1), (68, .invokestatic 46, 3), (71, .invokevirtual 34, 3), (74, .goto 25, 3), (77, .aload_n 0, 1), (78, .iload_n 1, 1), (79, .iload_n 2, 1), (80, .lload_n 3, 1), (81, .l2i, 1), (82, .i2s, 1), (83, .i2l, 1), (84, .invokevirtual 34, 3), (87, .goto 12, 3), (90, .aload_n 0, 1), (91, .iload_n 1, 1), (92, .iload_n 2, 1), (93, .lload_n 3, 1), (94, .l2i, 1), (95, .i2l, 1), (96, .invokevirtual 34, 3), (99, .return_, 1)]
theorem tbX3_scale_ok : pTabOk cX3_scale tbX3_scale = true := by decide +kernel
def tbX3_layFloat : pTab := [(0, .aload_n 0, 1), (1, .iload_n 1, 1), (2, .invokevirtual 26, 3), (5, .tableswitch 69 0 2 #[27, 41, 56], 27), (32, .aload_n 0, 1), (33, .iload_n 1, 1), (34, .iload_n 2, 1), (35, .fload_n 3, 1), (36, .invokestatic 42, 3), (39, .i2l, 1), (40, .invokevirtual 34, 3), (43, .goto 40, 3), (46, .aload_n 0, 1), (47, .iload_n 1, 1), (48, .iload_n 2, 1), (49, .iconst 1, 1), (50, .fload_n 3, 1), (51, .f2d, 1), (52, .invokestatic 46, 3), (55, .invokevirtual 34, 3), (58, .goto 25, 3), (61, .aload_n 0, 1), (62, .iload_n 1, 1), (63, .iload_n 2, 1), (64, .fload_n 3, 1), (65, .f2i, 1), (66, .i2s, 1), (67, .i2l, 1), (68, .invokevirtual 34, 3), (71, .goto 12, 3), (74, .aload_n 0, 1), (75, .iload_n 1, 1), (76, .iload_n 2, 1), (77, .fload_n 3, 1), (78, .f2i, 1), (79, .i2l, 1), (80, .invokevirtual 34, 3), (83, .return_, 1)]
theorem tbX3_layFloat_ok : pTabOk cX3_layFloat tbX3_layFloat = true := by decide +kernel
def tbX3_asInt : pTab := [(0, .aload_n 0, 1), (1, .iload_n 1, 1), (2, .invokevirtual 26, 3), (5, .istore_n 3, 1), (6, .aload_n 0, 1), (7, .iload_n 1, 1), (8, .iload_n 2, 1), (9, .invokevirtual 52, 3), (12, .lstore 4, 2), (14, .iload_n 3, 1), (15, .iconst 2, 1), (16, .if_icmp .eq 8, 3), (19, .iload_n 3, 1), (20, .iconst 3, 1), (21, .if_icmp .ne 7, 3), (24, .lload 4, 2), (26, .l2i, 1), (27, .ireturn, 1), (28, .iload_n 3, 1), (29, .lload 4, 2), (31, .invokestatic 56, 3), (34, .dstore 6, 2), (36, .lload 4, 2), (38, .lconst 0, 1), (39, .lcmp, 1), (40, .ifCond .ge 10, 3), (43, .dconst 0, 1), (44, .dload 6, 2), (46, .dsub, 1), (47, .goto 5, 3), (50, .dload 6, 2), (52, .d2i, 1), (53, .ireturn, 1)]
theorem tbX3_asInt_ok : pTabOk cX3_asInt tbX3_asInt = true := by decide +kernel
def tbX3_isNought : pTab := [(0, .aload_n 0, 1), (1, .iload_n 1, 1), (2, .invokevirtual 26, 3), (5, .istore_n 3, 1), (6, .aload_n 0, 1), (7, .iload_n 1, 1), (8, .iload_n 2, 1), (9, .invokevirtual 52, 3), (12, .lstore 4, 2), (14, .iload_n 3, 1), (15, .iconst 2, 1), (16, .if_icmp .eq 8, 3), (19, .iload_n 3, 1), (20, .iconst 3, 1), (21, .if_icmp .ne 18, 3), (24, .lload 4, 2), (26, .lconst 0, 1), (27, .lcmp, 1), (28, .ifCond .ne 7, 3), (31, .iconst 1, 1), (32, .goto 23, 3), (35, .iconst 0, 1), (36, .goto 19, 3), (39, .iload_n 3, 1), (40, .lload 4, 2), (42, .invokestatic 56, 3), (45, .dconst 0, 1), (46, .dcmp .l, 1), (47, .ifCond .ne 7, 3), (50, .iconst 1, 1), (51, .goto 4, 3), (54, .iconst 0, 1), (55, .ireturn, 1)]
theorem tbX3_isNought_ok : pTabOk cX3_isNought tbX3_isNought = true := by decide +kernel
def tbX3_reduce : pTab := [(0, .aload_n 0, 1), (1, .iload_n 1, 1), (2, .invokevirtual 26, 3), (5, .istore 4, 2), (7, .aload_n 0, 1), (8, .iload_n 1, 1), (9, .iload_n 2, 1), (10, .invokevirtual 52, 3), (13, .lstore 5, 2), (15, .aload_n 0, 1), (16, .iload_n 1, 1), (17, .iload_n 3, 1), (18, .invokevirtual 52, 3), (21, .lstore 7, 2), (23, .iload 4, 2), (25, .ifCond .eq 9, 3), (28, .iload 4, 2), (30, .iconst 1, 1), (31, .if_icmp .ne 55, 3), (34, .iload 4, 2), (36, .lload 5, 2), (38, .invokestatic 56, 3), (41, .iload 4, 2), (43, .lload 7, 2), (45, .invokestatic 56, 3), (48, .invokestatic 60, 3), (51, .dstore 9, 2), (53, .aload_n 0, 1), (54, .iload_n 1, 1), (55, .iload_n 2, 1), (56, .iload 4, 2), (58, .iload 4, 2), (60, .dload 9, 2), (62, .invokestatic 46, 3), (65, .lload 5, 2), (67, .lconst 0, 1), (68, .lcmp, 1), (69, .ifCond .ge 7, 3), (72, .iconst 1, 1), (73, .goto 4, 3), (76, .iconst 0, 1), (77, .invokestatic 64, 3), (80, .invokevirtual 34, 3), (83, .goto 21, 3), (86, .lload 7, 2), (88, .lconst 0, 1), (89, .lcmp, 1), (90, .ifCond .eq 14, 3), (93, .aload_n 0, 1), (94, .iload_n 1, 1), (95, .iload_n 2, 1), (96, .lload 5, 2), (98, .lload 7, 2), (100, .lrem, 1), (101, .invokevirtual 34, 3), (104, .return_, 1)]
theorem tbX3_reduce_ok : pTabOk cX3_reduce tbX3_reduce = true := by decide +kernel
def tbX3_change : pTab := [(0, .aload_n 0, 1), (1, .getfield 18, 3), (4, .iload_n 1, 1), (5, .bipush 40, 2), (7, .imul, 1), (8, .iload_n 2, 1), (9, .iadd, 1), (10, .lload_n 3, 1), (11, .invokestatic 68, 3), (14, .return_, 1)]
theorem tbX3_change_ok : pTabOk cX3_change tbX3_change = true := by decide +kernel
def tbX4_init : pTab := [(0, .aload_n 0, 1), (1, .invokespecial 3, 3), (4, .aload_n 0, 1), (5, .sipush 180, 3), (8, .newarray .int, 2), (10, .putfield 9, 3), (13, .return_, 1)]
theorem tbX4_init_ok : pTabOk cX4_init tbX4_init = true := by decide +kernel
def tbX4_part : pTab := [(0, .iload_n 1, 1), (1, .iconst 5, 1), (2, .imul, 1), (3, .iload_n 2, 1), (4, .iadd, 1), (5, .istore_n 3, 1), (6, .iload_n 2, 1), (7, .ifCond .lt 30, 3), (10, .iload_n 2, 1), (11, .iconst 5, 1), (12, .if_icmp .ge 25, 3), (15, .iload_n 3, 1), (16, .ifCond .lt 21, 3), (19, .iload_n 3, 1), (20, .aload_n 0, 1), (21, .getfield 9, 3), (24, .arraylength, 1), (25, .if_icmp .ge 12, 3), (28, .aload_n 0, 1), (29, .getfield 9, 3), (32, .iload_n 3, 1), (33, .iaload, 1), (34, .goto 4, 3), (37, .iconst 0, 1), (38, .ireturn, 1)]
theorem tbX4_part_ok : pTabOk cX4_part tbX4_part = true := by decide +kernel
def tbX4_change : pTab := [(0, .iload_n 1, 1), (1, .iconst 5, 1), (2, .imul, 1), (3, .iload_n 2, 1), (4, .iadd, 1), (5, .istore 4, 2), (7, .iload_n 2, 1), (8, .ifCond .lt 31, 3), (11, .iload_n 2, 1), (12, .iconst 5, 1), (13, .if_icmp .ge 26, 3), (16, .iload 4, 2), (18, .ifCond .lt 21, 3), (21, .iload 4, 2), (23, .aload_n 0, 1), (24, .getfield 9, 3), (27, .arraylength, 1), (28, .if_icmp .ge 11, 3), (31, .aload_n 0, 1), (32, .getfield 9, 3), (35, .iload 4, 2), (37, .iload_n 3, 1), (38, .iastore, 1), (39, .return_, 1)]
theorem tbX4_change_ok : pTabOk cX4_change tbX4_change = true := by decide +kernel
def tbX4_lay : pTab := [(0, .aload_n 0, 1), (1, .iload_n 1, 1), (2, .iconst 0, 1), (3, .iload_n 2, 1), (4, .invokevirtual 15, 3), (7, .aload_n 0, 1), (8, .iload_n 1, 1), (9, .iconst 1, 1), (10, .iload_n 3, 1), (11, .invokevirtual 15, 3), (14, .aload_n 0, 1), (15, .iload_n 1, 1), (16, .iconst 2, 1), (17, .iload 4, 2), (19, .invokevirtual 15, 3), (22, .aload_n 0, 1), (23, .iload_n 1, 1), (24, .iconst 3, 1), (25, .iload 5, 2), (27, .invokevirtual 15, 3), (30, .aload_n 0, 1), (31, .iload_n 1, 1), (32, .iconst 4, 1), (33, .iload 6, 2), (35, .invokevirtual 15, 3), (38, .return_, 1)]
theorem tbX4_lay_ok : pTabOk cX4_lay tbX4_lay = true := by decide +kernel
def tbX4_clear : pTab := [(0, .aload_n 0, 1), (1, .iload_n 1, 1), (2, .iconst (-1), 1), (3, .iconst 0, 1), (4, .iconst 0, 1), (5, .iconst 0, 1), (6, .iconst 0, 1), (7, .invokevirtual 19, 3), (10, .return_, 1)]
theorem tbX4_clear_ok : pTabOk cX4_clear tbX4_clear = true := by decide +kernel
def tbX4_isMissing : pTab := [(0, .aload_n 0, 1), (1, .iload_n 1, 1), (2, .iconst 0, 1), (3, .invokevirtual 23, 3), (6, .iconst (-1), 1), (7, .if_icmp .ne 7, 3), (10, .iconst 1, 1), (11, .goto 4, 3), (14, .iconst 0, 1), (15, .ireturn, 1)]
theorem tbX4_isMissing_ok : pTabOk cX4_isMissing tbX4_isMissing = true := by decide +kernel
def tbX4_copySign : pTab := [(0, .aload_n 2, 1), (1, .ifnonnull 4, 3), (4, .return_, 1), (5, .iconst 0, 1), (6, .istore 4, 2), (8, .iload 4, 2), (10, .iconst 5, 1), (11, .if_icmp .ge 23, 3), (14, .aload_n 0, 1), (15, .iload_n 1, 1), (16, .iload 4, 2), (18, .aload_n 2, 1), (19, .iload_n 3, 1), (20, .iload 4, 2), (22, .invokevirtual 23, 3), (25, .invokevirtual 15, 3), (28, .iinc 4 1, 3), (31, .goto (-23), 3), (34, .return_, 1)]
theorem tbX4_copySign_ok : pTabOk cX4_copySign tbX4_copySign = true := by decide +kernel
def tbX4_become : pTab := [(0, .aload_n 1, 1), (1, .ifnull 14, 3), (4, .aload_n 1, 1), (5, .getfield 9, 3), (8, .aload_n 0, 1), (9, .getfield 9, 3), (12, .invokestatic 27, 3), (15, .return_, 1)]
theorem tbX4_become_ok : pTabOk cX4_become tbX4_become = true := by decide +kernel
def tbX4_top : pTab := [(0, .aload_n 0, 1), (1, .iload_n 1, 1), (2, .iconst 2, 1), (3, .invokevirtual 23, 3), (6, .istore_n 2, 1), (7, .aload_n 0, 1), (8, .iload_n 1, 1), (9, .iconst 4, 1), (10, .invokevirtual 23, 3), (13, .istore_n 3, 1), (14, .aload_n 0, 1), (15, .iload_n 1, 1), (16, .iconst 0, 1), (17, .invokevirtual 23, 3), (20, .lookupswitch 49 #[(0, 28), (1, 45)], 28), (48, .iload_n 2, 1), (49, .ifCond .ge 10, 3), (52, .iload_n 2, 1), (53, .bipush 7, 2), (55, .iadd, 1), (56, .goto 6, 3), (59, .iload_n 2, 1), (60, .iconst 1, 1), (61, .iadd, 1), (62, .iload_n 3, 1), (63, .iadd, 1), (64, .ireturn, 1), (65, .iconst 3, 1), (66, .iload_n 3, 1), (67, .iadd, 1), (68, .ireturn, 1), (69, .iconst 4, 1), (70, .iload_n 3, 1), (71, .iadd, 1), (72, .ireturn, 1)]
theorem tbX4_top_ok : pTabOk cX4_top tbX4_top = true := by decide +kernel
def tbX4_bottom : pTab := [(0, .aload_n 0, 1), (1, .iload_n 1, 1), (2, .iconst 2, 1), (3, .invokevirtual 23, 3), (6, .istore_n 2, 1), (7, .aload_n 0, 1), (8, .iload_n 1, 1), (9, .iconst 0, 1), (10, .invokevirtual 23, 3), (13, .lookupswitch 45 #[(0, 27), (1, 42)], 27), (40, .iload_n 2, 1), (41, .ifCond .ge 9, 3), (44, .iload_n 2, 1), (45, .iconst 1, 1), (46, .isub, 1), (47, .goto 7, 3), (50, .iload_n 2, 1), (51, .bipush 7, 2), (53, .isub, 1), (54, .ireturn, 1), (55, .bipush (-3), 2), (57, .ireturn, 1), (58, .bipush (-4), 2), (60, .ireturn, 1)]
theorem tbX4_bottom_ok : pTabOk cX4_bottom tbX4_bottom = true := by decide +kernel
def tbX4_ideal : pTab := [(0, .aload_n 0, 1), (1, .iload_n 1, 1), (2, .iconst 0, 1), (3, .invokevirtual 23, 3), (6, .iconst 2, 1), (7, .if_icmp .ne 6, 3), (10, .ldc 31, 2), (12, .freturn, 1), (13, .aload_n 0, 1), (14, .iload_n 1, 1), (15, .iconst 1, 1), (16, .invokevirtual 23, 3), (19, .istore_n 2, 1), (20, .iconst 0, 1), (21, .istore_n 3, 1), (22, .iconst 1, 1), (23, .istore 4, 2), (25, .iload 4, 2), (27, .bipush 6, 2), (29, .if_icmp .gt 20, 3), (32, .iconst 1, 1), (33, .iload 4, 2), (35, .ishl, 1), (36, .iload_n 2, 1), (37, .if_icmp .gt 6, 3), (40, .iload 4, 2), (42, .istore_n 3, 1), (43, .iinc 4 1, 3), (46, .goto (-21), 3), (49, .iload_n 2, 1), (50, .i2f, 1), (51, .iconst 1, 1), (52, .iload_n 3, 1), (53, .ishl, 1), (54, .i2f, 1), (55, .fdiv, 1), (56, .fconst 1, 1), (57, .fsub, 1), (58, .fstore 4, 2), (60, .ldc 32, 2), (62, .fconst 1, 1), (63, .ldc 33, 2), (65, .iload_n 3, 1), (66, .i2f, 1), (67, .fload 4, 2), (69, .fadd, 1), (70, .fmul, 1), (71, .fadd, 1), (72, .fmul, 1), (73, .freturn, 1)]
theorem tbX4_ideal_ok : pTabOk cX4_ideal tbX4_ideal = true := by decide +kernel
def tbX4_flex : pTab := [(0, .aload_n 0, 1), (1, .iload_n 1, 1), (2, .iconst 0, 1), (3, .invokevirtual 23, 3), (6, .iconst 2, 1), (7, .if_icmp .ne 8, 3), (10, .ldc 34, 2), (12, .goto 7, 3), (15, .ldc 33, 2), (17, .fload_n 2, 1), (18, .fmul, 1), (19, .freturn, 1)]
theorem tbX4_flex_ok : pTabOk cX4_flex tbX4_flex = true := by decide +kernel
def tbX4_rod : pTab := [(0, .aload_n 0, 1), (1, .iload_n 1, 1), (2, .iconst 3, 1), (3, .invokevirtual 23, 3), (6, .iconst 1, 1), (7, .iadd, 1), (8, .i2f, 1), (9, .freturn, 1)]
theorem tbX4_rod_ok : pTabOk cX4_rod tbX4_rod = true := by decide +kernel
def tbX5_init : pTab := [(0, .aload_n 0, 1), (1, .invokespecial 3, 3), (4, .aload_n 0, 1), (5, .sipush 400, 3), (8, .newarray .boolean, 2), (10, .putfield 9, 3), (13, .aload_n 0, 1), (14, .sipush 400, 3), (17, .newarray .int, 2), (19, .putfield 15, 3), (22, .aload_n 0, 1), (23, .sipush 400, 3), (26, .newarray .int, 2), (28, .putfield 19, 3), (31, .return_, 1)]
theorem tbX5_init_ok : pTabOk cX5_init tbX5_init = true := by decide +kernel
def tbX5_trace : pTab := [(0, .iconst 0, 1), (1, .istore_n 3, 1), (2, .iload_n 3, 1), (3, .sipush 400, 3), (6, .if_icmp .ge 18, 3), (9, .aload_n 0, 1), (10, .getfield 9, 3), (13, .iload_n 3, 1), (14, .iconst 0, 1), (15, .invokestatic 22, 3), (18, .iinc 3 1, 3), (21, .goto (-19), 3), (24, .aload_n 1, 1), (25, .ifnull 7, 3), (28, .aload_n 2, 1), (29, .ifnonnull 4, 3), (32, .return_, 1), (33, .iconst 0, 1), (34, .istore_n 3, 1), (35, .iload_n 3, 1), (36, .aload_n 2, 1), (37, .getfield 26, 3), (40, .if_icmp .ge 63, 3), (43, .aload_n 2, 1), (44, .getfield 32, 3), (47, .iload_n 3, 1), (48, .iadd, 1), (49, .istore 4, 2), (51, .aload_n 2, 1), (52, .iload 4, 2), (54, .invokevirtual 35, 3), (57, .istore 5, 2), (59, .iload 5, 2), (61, .aload_n 1, 1), (62, .iload 4, 2), (64, .iconst 3, 1), (65, .invokevirtual 39, 3), (68, .iadd, 1), (69, .sipush 400, 3), (72, .invokestatic 45, 3), (75, .istore 6, 2), (77, .aload_n 0, 1), (78, .iload 5, 2), (80, .iload 6, 2), (82, .aload_n 1, 1), (83, .iload 4, 2), (85, .invokevirtual 50, 3), (88, .aload_n 1, 1), (89, .iload 4, 2), (91, .invokevirtual 53, 3), (94, .invokevirtual 56, 3), (97, .iinc 3 1, 3), (100, .goto (-65), 3), (103, .return_, 1)]
theorem tbX5_trace_ok : pTabOk cX5_trace tbX5_trace = true := by decide +kernel
def tbX5_hasInk : pTab := [(0, .aload_n 0, 1), (1, .getfield 9, 3), (4, .iload_n 1, 1), (5, .invokestatic 60, 3), (8, .ireturn, 1)]
theorem tbX5_hasInk_ok : pTabOk cX5_hasInk tbX5_hasInk = true := by decide +kernel
def tbX5_upper : pTab := [(0, .aload_n 0, 1), (1, .getfield 15, 3), (4, .iload_n 1, 1), (5, .invokestatic 64, 3), (8, .ireturn, 1)]
theorem tbX5_upper_ok : pTabOk cX5_upper tbX5_upper = true := by decide +kernel
def tbX5_lower : pTab := [(0, .aload_n 0, 1), (1, .getfield 19, 3), (4, .iload_n 1, 1), (5, .invokestatic 64, 3), (8, .ireturn, 1)]
theorem tbX5_lower_ok : pTabOk cX5_lower tbX5_lower = true := by decide +kernel
def tbX5_ink : pTab := [(0, .iload_n 1, 1), (1, .istore 5, 2), (3, .iload 5, 2), (5, .iload_n 2, 1), (6, .if_icmp .ge 93, 3), (9, .aload_n 0, 1), (10, .iload 5, 2), (12, .invokevirtual 68, 3), (15, .ifCond .ne 7, 3), (18, .iconst 1, 1), (19, .goto 4, 3), (22, .iconst 0, 1), (23, .istore 6, 2), (25, .aload_n 0, 1), (26, .getfield 15, 3), (29, .iload 5, 2), (31, .iload 6, 2), (33, .ifCond .eq 7, 3), (36, .iload_n 3, 1), (37, .goto 13, 3), (40, .iload_n 3, 1), (41, .aload_n 0, 1), (42, .iload 5, 2), (44, .invokevirtual 72, 3), (47, .invokestatic 75, 3), (50, .invokestatic 78, 3), (53, .aload_n 0, 1), (54, .getfield 19, 3), (57, .iload 5, 2), (59, .iload 6, 2), (61, .ifCond .eq 8, 3), (64, .iload 4, 2), (66, .goto 14, 3), (69, .iload 4, 2), (71, .aload_n 0, 1), (72, .iload 5, 2), (74, .invokevirtual 82, 3), (77, .invokestatic 45, 3), (80, .invokestatic 78, 3), (83, .aload_n 0, 1), (84, .getfield 9, 3), (87, .iload 5, 2), (89, .iconst 1, 1), (90, .invokestatic 22, 3), (93, .iinc 5 1, 3), (96, .goto (-93), 3), (99, .return_, 1)]
theorem tbX5_ink_ok : pTabOk cX5_ink tbX5_ink = true := by decide +kernel
def tbX6_init : pTab := [(0, .aload_n 0, 1), (1, .invokespecial 3, 3), (4, .aload_n 0, 1), (5, .bipush 32, 2), (7, .newarray .float, 2), (9, .putfield 9, 3), (12, .aload_n 0, 1), (13, .bipush 32, 2), (15, .newarray .float, 2), (17, .putfield 15, 3), (20, .aload_n 0, 1), (21, .bipush 32, 2), (23, .newarray .float, 2), (25, .putfield 18, 3), (28, .aload_n 0, 1), (29, .bipush 32, 2), (31, .newarray .boolean, 2), (33, .putfield 21, 3), (36, .aload_n 0, 1), (37, .bipush 32, 2), (39, .newarray .float, 2), (41, .putfield 25, 3), (44, .aload_n 0, 1), (45, .bipush 32, 2), (47, .newarray .float, 2), (49, .putfield 28, 3), (52, .aload_n 0, 1), (53, .iconst 0, 1), (54, .putfield 31, 3), (57, .aload_n 0, 1), (58, .iconst 0, 1), (59, .putfield 35, 3), (62, .aload_n 0, 1), (63, .fconst 0, 1), (64, .putfield 38, 3), (67, .aload_n 0, 1), (68, .fconst 0, 1), (69, .putfield 42, 3), (72, .return_, 1)]
theorem tbX6_init_ok : pTabOk cX6_init tbX6_init = true := by decide +kernel
def tbX6_take : pTab := [(0, .aload_n 0, 1), (1, .iload_n 2, 1), (2, .putfield 31, 3), (5, .aload_n 0, 1), (6, .iconst 0, 1), (7, .putfield 35, 3), (10, .aload_n 0, 1), (11, .iload 4, 2), (13, .i2f, 1), (14, .putfield 38, 3), (17, .aload_n 1, 1), (18, .ifnonnull 4, 3), (21, .return_, 1), (22, .iload_n 2, 1), (23, .istore 5, 2), (25, .iload 5, 2), (27, .iload_n 3, 1), (28, .if_icmp .gt 85, 3), (31, .aload_n 0, 1), (32, .getfield 35, 3), (35, .bipush 32, 2), (37, .if_icmp .ge 76, 3), (40, .aload_n 1, 1), (41, .iload 5, 2), (43, .invokevirtual 45, 3), (46, .fstore 6, 2), (48, .aload_n 0, 1), (49, .getfield 9, 3), (52, .aload_n 0, 1), (53, .getfield 35, 3), (56, .fload 6, 2), (58, .invokestatic 51, 3), (61, .aload_n 0, 1), (62, .getfield 15, 3), (65, .aload_n 0, 1), (66, .getfield 35, 3), (69, .aload_n 1, 1), (70, .iload 5, 2), (72, .fload 6, 2), (74, .invokevirtual 55, 3), (77, .invokestatic 51, 3), (80, .aload_n 0, 1), (81, .getfield 18, 3), (84, .aload_n 0, 1), (85, .getfield 35, 3), (88, .aload_n 1, 1), (89, .iload 5, 2), (91, .invokevirtual 59, 3), (94, .invokestatic 51, 3), (97, .aload_n 0, 1), (98, .dup, 1), (99, .getfield 35, 3), (102, .iconst 1, 1), (103, .iadd, 1), (104, .putfield 35, 3), (107, .iinc 5 1, 3), (110, .goto (-85), 3), (113, .return_, 1)]
theorem tbX6_take_ok : pTabOk cX6_take tbX6_take = true := by decide +kernel
def tbX6_fits : pTab := [(0, .aload_n 0, 1), (1, .aload_n 0, 1), (2, .getfield 18, 3), (5, .invokevirtual 62, 3), (8, .aload_n 0, 1), (9, .getfield 38, 3), (12, .fcmp .g, 1), (13, .ifCond .gt 7, 3), (16, .iconst 1, 1), (17, .goto 4, 3), (20, .iconst 0, 1), (21, .ireturn, 1)]
theorem tbX6_fits_ok : pTabOk cX6_fits tbX6_fits = true := by decide +kernel
def tbX6_badness : pTab := [(0, .aload_n 0, 1), (1, .aload_n 0, 1), (2, .getfield 15, 3), (5, .invokevirtual 62, 3), (8, .fstore_n 1, 1), (9, .fload_n 1, 1), (10, .fconst 0, 1), (11, .fcmp .l, 1), (12, .ifCond .le 21, 3), (15, .aload_n 0, 1), (16, .getfield 38, 3), (19, .aload_n 0, 1), (20, .aload_n 0, 1), (21, .getfield 9, 3), (24, .invokevirtual 62, 3), (27, .fsub, 1), (28, .fload_n 1, 1), (29, .fdiv, 1), (30, .goto 4, 3), (33, .fconst 0, 1), (34, .fstore_n 2, 1), (35, .ldc 66, 2), (37, .fload_n 2, 1), (38, .fmul, 1), (39, .fload_n 2, 1), (40, .fmul, 1), (41, .fstore_n 3, 1), (42, .fload_n 2, 1), (43, .fconst 0, 1), (44, .fcmp .g, 1), (45, .ifCond .ge 9, 3), (48, .fload_n 3, 1), (49, .fconst 2, 1), (50, .fmul, 1), (51, .goto 4, 3), (54, .fload_n 3, 1), (55, .freturn, 1)]
theorem tbX6_badness_ok : pTabOk cX6_badness tbX6_badness = true := by decide +kernel
def tbX6_settle : pTab := [(0, .aload_n 0, 1), (1, .aload_n 1, 1), (2, .iload_n 2, 1), (3, .iload_n 3, 1), (4, .iload 4, 2), (6, .invokevirtual 67, 3), (9, .iconst 0, 1), (10, .istore 5, 2), (12, .iload 5, 2), (14, .aload_n 0, 1), (15, .getfield 35, 3), (18, .if_icmp .ge 19, 3), (21, .aload_n 0, 1), (22, .getfield 21, 3), (25, .iload 5, 2), (27, .iconst 0, 1), (28, .invokestatic 71, 3), (31, .iinc 5 1, 3), (34, .goto (-22), 3), (37, .iconst 0, 1), (38, .istore 5, 2), (40, .iconst 0, 1), (41, .istore 6, 2), (43, .iload 6, 2), (45, .bipush 32, 2), (47, .if_icmp .gt 36, 3), (50, .iload 5, 2), (52, .ifCond .ne 31, 3), (55, .aload_n 0, 1), (56, .aload_n 0, 1), (57, .invokevirtual 75, 3), (60, .putfield 42, 3), (63, .aload_n 0, 1), (64, .invokevirtual 79, 3), (67, .ifCond .ne 7, 3), (70, .iconst 1, 1), (71, .goto 4, 3), (74, .iconst 0, 1), (75, .istore 5, 2), (77, .iinc 6 1, 3), (80, .goto (-37), 3), (83, .fconst 0, 1), (84, .fstore 6, 2), (86, .iconst 0, 1), (87, .istore 7, 2), (89, .iload 7, 2), (91, .aload_n 0, 1), (92, .getfield 35, 3), (95, .if_icmp .ge 73, 3), (98, .aload_n 0, 1), (99, .getfield 25, 3), (102, .iload 7, 2), (104, .aload_n 0, 1), (105, .getfield 21, 3), (108, .iload 7, 2), (110, .invokestatic 83, 3), (113, .ifCond .eq 15, 3), (116, .aload_n 0, 1), (117, .getfield 18, 3), (120, .iload 7, 2), (122, .invokestatic 87, 3), (125, .goto 9, 3), (128, .aload_n 0, 1), (129, .iload 7, 2), (131, .invokevirtual 91, 3), (134, .invokestatic 51, 3), (137, .aload_n 0, 1), (138, .getfield 28, 3), (141, .iload 7, 2), (143, .fload 6, 2), (145, .invokestatic 51, 3), (148, .fload 6, 2), (150, .aload_n 0, 1), (151, .getfield 25, 3), (154, .iload 7, 2), (156, .invokestatic 87, 3), (159, .fadd, 1), (160, .fstore 6, 2), (162, .iinc 7 1, 3), (165, .goto (-76), 3), (168, .return_, 1)]
theorem tbX6_settle_ok : pTabOk cX6_settle tbX6_settle = true := by decide +kernel
def tbX6_heldCount : pTab := [(0, .iconst 0, 1), (1, .istore_n 1, 1), (2, .iconst 0, 1), (3, .istore_n 2, 1), (4, .iload_n 2, 1), (5, .aload_n 0, 1), (6, .getfield 35, 3), (9, .if_icmp .ge 23, 3), (12, .aload_n 0, 1), (13, .getfield 21, 3), (16, .iload_n 2, 1), (17, .invokestatic 83, 3), (20, .ifCond .eq 6, 3), (23, .iinc 1 1, 3), (26, .iinc 2 1, 3), (29, .goto (-25), 3), (32, .iload_n 1, 1), (33, .ireturn, 1)]
theorem tbX6_heldCount_ok : pTabOk cX6_heldCount tbX6_heldCount = true := by decide +kernel
def tbX6_length : pTab := [(0, .aload_n 0, 1), (1, .getfield 25, 3), (4, .iload_n 1, 1), (5, .aload_n 0, 1), (6, .getfield 31, 3), (9, .isub, 1), (10, .invokestatic 87, 3), (13, .freturn, 1)]
theorem tbX6_length_ok : pTabOk cX6_length tbX6_length = true := by decide +kernel
def tbX6_place : pTab := [(0, .aload_n 0, 1), (1, .getfield 28, 3), (4, .iload_n 1, 1), (5, .aload_n 0, 1), (6, .getfield 31, 3), (9, .isub, 1), (10, .invokestatic 87, 3), (13, .freturn, 1)]
theorem tbX6_place_ok : pTabOk cX6_place tbX6_place = true := by decide +kernel
def tbX6_cell : pTab := [(0, .aload_n 0, 1), (1, .iload_n 1, 1), (2, .invokevirtual 94, 3), (5, .f2i, 1), (6, .ireturn, 1)]
theorem tbX6_cell_ok : pTabOk cX6_cell tbX6_cell = true := by decide +kernel
def tbX6_sum : pTab := [(0, .fconst 0, 1), (1, .fstore_n 2, 1), (2, .iconst 0, 1), (3, .istore_n 3, 1), (4, .iload_n 3, 1), (5, .aload_n 0, 1), (6, .getfield 35, 3), (9, .if_icmp .ge 17, 3), (12, .fload_n 2, 1), (13, .aload_n 1, 1), (14, .iload_n 3, 1), (15, .invokestatic 87, 3), (18, .fadd, 1), (19, .fstore_n 2, 1), (20, .iinc 3 1, 3), (23, .goto (-19), 3), (26, .fload_n 2, 1), (27, .freturn, 1)]
theorem tbX6_sum_ok : pTabOk cX6_sum tbX6_sum = true := by decide +kernel
def tbX6_balance : pTab := [(0, .fconst 0, 1), (1, .fstore_n 1, 1), (2, .fconst 0, 1), (3, .fstore_n 2, 1), (4, .fconst 0, 1), (5, .fstore_n 3, 1), (6, .iconst 0, 1), (7, .istore 4, 2), (9, .iload 4, 2), (11, .aload_n 0, 1), (12, .getfield 35, 3), (15, .if_icmp .ge 60, 3), (18, .aload_n 0, 1), (19, .getfield 21, 3), (22, .iload 4, 2), (24, .invokestatic 83, 3), (27, .ifCond .eq 18, 3), (30, .fload_n 1, 1), (31, .aload_n 0, 1), (32, .getfield 18, 3), (35, .iload 4, 2), (37, .invokestatic 87, 3), (40, .fadd, 1), (41, .fstore_n 1, 1), (42, .goto 27, 3), (45, .fload_n 2, 1), (46, .aload_n 0, 1), (47, .getfield 9, 3), (50, .iload 4, 2), (52, .invokestatic 87, 3), (55, .fadd, 1), (56, .fstore_n 2, 1), (57, .fload_n 3, 1), (58, .aload_n 0, 1), (59, .getfield 15, 3), (62, .iload 4, 2), (64, .invokestatic 87, 3), (67, .fadd, 1), (68, .fstore_n 3, 1), (69, .iinc 4 1, 3), (72, .goto (-63), 3), (75, .fload_n 3, 1), (76, .fconst 0, 1), (77, .fcmp .l, 1), (78, .ifCond .le 16, 3), (81, .aload_n 0, 1), (82, .getfield 38, 3), (85, .fload_n 1, 1), (86, .fsub, 1), (87, .fload_n 2, 1), (88, .fsub, 1), (89, .fload_n 3, 1), (90, .fdiv, 1), (91, .goto 4, 3), (94, .fconst 0, 1), (95, .freturn, 1)]
theorem tbX6_balance_ok : pTabOk cX6_balance tbX6_balance = true := by decide +kernel
def tbX6_holdMore : pTab := [(0, .iconst 0, 1), (1, .istore_n 1, 1), (2, .iconst 0, 1), (3, .istore_n 2, 1), (4, .iload_n 2, 1), (5, .aload_n 0, 1), (6, .getfield 35, 3), (9, .if_icmp .ge 48, 3), (12, .aload_n 0, 1), (13, .getfield 21, 3), (16, .iload_n 2, 1), (17, .invokestatic 83, 3), (20, .ifCond .ne 31, 3), (23, .aload_n 0, 1), (24, .iload_n 2, 1), (25, .invokevirtual 91, 3), (28, .aload_n 0, 1), (29, .getfield 18, 3), (32, .iload_n 2, 1), (33, .invokestatic 87, 3), (36, .fcmp .g, 1), (37, .ifCond .ge 14, 3), (40, .aload_n 0, 1), (41, .getfield 21, 3), (44, .iload_n 2, 1), (45, .iconst 1, 1), (46, .invokestatic 71, 3), (49, .iconst 1, 1), (50, .istore_n 1, 1), (51, .iinc 2 1, 3), (54, .goto (-50), 3), (57, .iload_n 1, 1), (58, .ireturn, 1)]
theorem tbX6_holdMore_ok : pTabOk cX6_holdMore tbX6_holdMore = true := by decide +kernel
def tbX6_stretched : pTab := [(0, .aload_n 0, 1), (1, .getfield 9, 3), (4, .iload_n 1, 1), (5, .invokestatic 87, 3), (8, .aload_n 0, 1), (9, .getfield 42, 3), (12, .aload_n 0, 1), (13, .getfield 15, 3), (16, .iload_n 1, 1), (17, .invokestatic 87, 3), (20, .fmul, 1), (21, .fadd, 1), (22, .freturn, 1)]
theorem tbX6_stretched_ok : pTabOk cX6_stretched tbX6_stretched = true := by decide +kernel
def tbX7_init : pTab := [(0, .aload_n 0, 1), (1, .invokespecial 3, 3), (4, .aload_n 0, 1), (5, .sipush 160, 3), (8, .newarray .int, 2), (10, .putfield 9, 3), (13, .aload_n 0, 1), (14, .iconst 0, 1), (15, .putfield 15, 3), (18, .aload_n 0, 1), (19, .new 19, 3), (22, .dup, 1), (23, .invokespecial 21, 3), (26, .putfield 22, 3), (29, .aload_n 0, 1), (30, .iconst 0, 1), (31, .putfield 26, 3), (34, .aload_n 0, 1), (35, .iconst 0, 1), (36, .putfield 29, 3), (39, .return_, 1)]
theorem tbX7_init_ok : pTabOk cX7_init tbX7_init = true := by decide +kernel
def tbX7_append : pTab := [(0, .aload_n 0, 1), (1, .getfield 15, 3), (4, .sipush 160, 3), (7, .if_icmp .ge 25, 3), (10, .aload_n 0, 1), (11, .getfield 9, 3), (14, .aload_n 0, 1), (15, .getfield 15, 3), (18, .iload_n 1, 1), (19, .invokestatic 32, 3), (22, .aload_n 0, 1), (23, .dup, 1), (24, .getfield 15, 3), (27, .iconst 1, 1), (28, .iadd, 1), (29, .putfield 15, 3), (32, .return_, 1)]
theorem tbX7_append_ok : pTabOk cX7_append tbX7_append = true := by decide +kernel
def tbX7_readMusic : pTab := [(0, .aload_n 0, 1), (1, .iconst 0, 1), (2, .putfield 29, 3), (5, .aload_n 0, 1), (6, .iconst 0, 1), (7, .putfield 26, 3), (10, .iconst 0, 1), (11, .istore_n 1, 1), (12, .iload_n 1, 1), (13, .sipush 160, 3), (16, .if_icmp .ge 58, 3), (19, .aload_n 0, 1), (20, .invokevirtual 36, 3), (23, .ifCond .ne 8, 3), (26, .aload_n 0, 1), (27, .getfield 29, 3), (30, .ireturn, 1), (31, .aload_n 0, 1), (32, .getfield 29, 3), (35, .aload_n 0, 1), (36, .getfield 15, 3), (39, .if_icmp .lt 5, 3), (42, .iconst (-1), 1), (43, .ireturn, 1), (44, .aload_n 0, 1), (45, .bipush 32, 2), (47, .invokevirtual 40, 3), (50, .ifCond .ne 8, 3), (53, .aload_n 0, 1), (54, .getfield 29, 3), (57, .ireturn, 1), (58, .aload_n 0, 1), (59, .dup, 1), (60, .getfield 29, 3), (63, .iconst 1, 1), (64, .iadd, 1), (65, .putfield 29, 3), (68, .iinc 1 1, 3), (71, .goto (-59), 3), (74, .aload_n 0, 1), (75, .getfield 29, 3), (78, .ireturn, 1)]
theorem tbX7_readMusic_ok : pTabOk cX7_readMusic tbX7_readMusic = true := by decide +kernel
def tbX7_isNext : pTab := [(0, .aload_n 0, 1), (1, .getfield 29, 3), (4, .aload_n 0, 1), (5, .getfield 15, 3), (8, .if_icmp .ge 22, 3), (11, .aload_n 0, 1), (12, .getfield 9, 3), (15, .aload_n 0, 1), (16, .getfield 29, 3), (19, .invokestatic 44, 3), (22, .iload_n 1, 1), (23, .if_icmp .ne 7, 3), (26, .iconst 1, 1), (27, .goto 4, 3), (30, .iconst 0, 1), (31, .ireturn, 1)]
theorem tbX7_isNext_ok : pTabOk cX7_isNext tbX7_isNext = true := by decide +kernel
def tbX7_readSign : pTab := [(0, .aload_n 0, 1), (1, .bipush 110, 2), (3, .invokevirtual 40, 3), (6, .ifCond .eq 7, 3), (9, .iconst 0, 1), (10, .goto 30, 3), (13, .aload_n 0, 1), (14, .bipush 114, 2), (16, .invokevirtual 40, 3), (19, .ifCond .eq 7, 3), (22, .iconst 1, 1), (23, .goto 17, 3), (26, .aload_n 0, 1), (27, .bipush 98, 2), (29, .invokevirtual 40, 3), (32, .ifCond .eq 7, 3), (35, .iconst 2, 1), (36, .goto 4, 3), (39, .iconst (-1), 1), (40, .istore_n 1, 1), (41, .iload_n 1, 1), (42, .iconst (-1), 1), (43, .if_icmp .ne 5, 3), (46, .iconst 0, 1), (47, .ireturn, 1), (48, .aload_n 0, 1), (49, .dup, 1), (50, .getfield 29, 3), (53, .iconst 1, 1), (54, .iadd, 1), (55, .putfield 29, 3), (58, .iload_n 1, 1), (59, .iconst 2, 1), (60, .if_icmp .ne 7, 3), (63, .iconst 1, 1), (64, .goto 10, 3), (67, .aload_n 0, 1), (68, .iconst 1, 1), (69, .bipush 64, 2), (71, .invokevirtual 48, 3), (74, .istore_n 2, 1), (75, .iload_n 2, 1), (76, .iconst (-1), 1), (77, .if_icmp .ne 5, 3), (80, .iconst 0, 1), (81, .ireturn, 1), (82, .iconst 0, 1), (83, .istore_n 3, 1), (84, .iload_n 1, 1), (85, .ifCond .ne 86, 3), (88, .aload_n 0, 1), (89, .bipush 43, 2), (91, .invokevirtual 40, 3), (94, .ifCond .ne 12, 3), (97, .aload_n 0, 1), (98, .bipush 45, 2), (100, .invokevirtual 40, 3), (103, .ifCond .eq 68, 3), (106, .aload_n 0, 1), (107, .bipush 43, 2), (109, .invokevirtual 40, 3), (112, .istore 4, 2), (114, .aload_n 0, 1), (115, .dup, 1), (116, .getfield 29, 3), (119, .iconst 1, 1), (120, .iadd, 1), (121, .putfield 29, 3), (124, .iload 4, 2), (126, .ifCond .eq 13, 3), (129, .aload_n 0, 1), (130, .iconst 0, 1), (131, .bipush 20, 2), (133, .invokevirtual 48, 3), (136, .goto 10, 3), (139, .aload_n 0, 1), (140, .iconst 1, 1), (141, .bipush 12, 2), (143, .invokevirtual 48, 3), (146, .istore 5, 2), (148, .iload 5, 2), (150, .iconst (-1), 1), (151, .if_icmp .ne 5, 3), (154, .iconst 0, 1), (155, .ireturn, 1), (156, .iload 4, 2), (158, .ifCond .eq 8, 3), (161, .iload 5, 2), (163, .goto 7, 3), (166, .iconst 0, 1), (167, .iload 5, 2), (169, .isub, 1), (170, .istore_n 3, 1), (171, .aload_n 0, 1), (172, .iload_n 1, 1), (173, .iload_n 2, 1), (174, .iload_n 3, 1), (175, .aload_n 0, 1), (176, .invokevirtual 52, 3), (179, .invokevirtual 56, 3), (182, .iconst 1, 1), (183, .ireturn, 1)]
theorem tbX7_readSign_ok : pTabOk cX7_readSign tbX7_readSign = true := by decide +kernel
def tbX7_readNumber : pTab := [(0, .aload_n 0, 1), (1, .invokevirtual 60, 3), (4, .istore_n 3, 1), (5, .iload_n 3, 1), (6, .iconst (-1), 1), (7, .if_icmp .eq 8, 3), (10, .iload_n 3, 1), (11, .iload_n 1, 1), (12, .if_icmp .ge 5, 3), (15, .iconst (-1), 1), (16, .ireturn, 1), (17, .aload_n 0, 1), (18, .dup, 1), (19, .getfield 29, 3), (22, .iconst 1, 1), (23, .iadd, 1), (24, .putfield 29, 3), (27, .iconst 0, 1), (28, .istore 4, 2), (30, .iload 4, 2), (32, .sipush 160, 3), (35, .if_icmp .ge 48, 3), (38, .iload_n 3, 1), (39, .ifCond .le 44, 3), (42, .aload_n 0, 1), (43, .invokevirtual 60, 3), (46, .iconst (-1), 1), (47, .if_icmp .eq 36, 3), (50, .iload_n 3, 1), (51, .bipush 10, 2), (53, .imul, 1), (54, .aload_n 0, 1), (55, .invokevirtual 60, 3), (58, .iadd, 1), (59, .istore_n 3, 1), (60, .iload_n 3, 1), (61, .iload_n 2, 1), (62, .if_icmp .le 5, 3), (65, .iconst (-1), 1), (66, .ireturn, 1), (67, .aload_n 0, 1), (68, .dup, 1), (69, .getfield 29, 3), (72, .iconst 1, 1), (73, .iadd, 1), (74, .putfield 29, 3), (77, .iinc 4 1, 3), (80, .goto (-50), 3), (83, .iload_n 3, 1), (84, .ireturn, 1)]
theorem tbX7_readNumber_ok : pTabOk cX7_readNumber tbX7_readNumber = true := by decide +kernel
def tbX7_digit : pTab := [(0, .aload_n 0, 1), (1, .getfield 29, 3), (4, .aload_n 0, 1), (5, .getfield 15, 3), (8, .if_icmp .ge 17, 3), (11, .aload_n 0, 1), (12, .getfield 9, 3), (15, .aload_n 0, 1), (16, .getfield 29, 3), (19, .invokestatic 44, 3), (22, .goto 4, 3), (25, .iconst 0, 1), (26, .istore_n 1, 1), (27, .iload_n 1, 1), (28, .bipush 48, 2), (30, .if_icmp .lt 16, 3), (33, .iload_n 1, 1), (34, .bipush 57, 2), (36, .if_icmp .gt 10, 3), (39, .iload_n 1, 1), (40, .bipush 48, 2), (42, .isub, 1), (43, .goto 4, 3), (46, .iconst (-1), 1), (47, .ireturn, 1)]
theorem tbX7_digit_ok : pTabOk cX7_digit tbX7_digit = true := by decide +kernel
def tbX7_readAdorn : pTab := [(0, .iconst 0, 1), (1, .istore_n 1, 1), (2, .iload_n 1, 1), (3, .bipush 9, 2), (5, .if_icmp .ge 28, 3), (8, .aload_n 0, 1), (9, .bipush 39, 2), (11, .invokevirtual 40, 3), (14, .ifCond .eq 19, 3), (17, .iinc 1 1, 3), (20, .aload_n 0, 1), (21, .dup, 1), (22, .getfield 29, 3), (25, .iconst 1, 1), (26, .iadd, 1), (27, .putfield 29, 3), (30, .goto (-28), 3), (33, .iload_n 1, 1), (34, .ireturn, 1)]
theorem tbX7_readAdorn_ok : pTabOk cX7_readAdorn tbX7_readAdorn = true := by decide +kernel
end
section
def tbX7_keep : pTab := [(0, .aload_n 0, 1), (1, .getfield 26, 3), (4, .bipush 32, 2), (6, .if_icmp .ge 20, 3), (9, .aload_n 0, 1), (10, .getfield 22, 3), (13, .aload_n 0, 1), (14, .getfield 26, 3), (17, .iload_n 1, 1), (18, .iload_n 2, 1), (19, .iload_n 3, 1), (20, .iconst 2, 1), (21, .iload 4, 2), (23, .invokevirtual 63, 3), (26, .aload_n 0, 1), (27, .dup, 1), (28, .getfield 26, 3), (31, .iconst 1, 1), (32, .iadd, 1), (33, .putfield 26, 3), (36, .return_, 1)]
theorem tbX7_keep_ok : pTabOk cX7_keep tbX7_keep = true := by decide +kernel
def tbX8_init : pTab := [(0, .aload_n 0, 1), (1, .invokespecial 1, 3), (4, .aload_n 0, 1), (5, .new 7, 3), (8, .dup, 1), (9, .invokespecial 9, 3), (12, .putfield 10, 3), (15, .aload_n 0, 1), (16, .new 7, 3), (19, .dup, 1), (20, .invokespecial 9, 3), (23, .putfield 16, 3), (26, .aload_n 0, 1), (27, .iconst 0, 1), (28, .putfield 19, 3), (31, .aload_n 0, 1), (32, .new 23, 3), (35, .dup, 1), (36, .invokespecial 25, 3), (39, .putfield 26, 3), (42, .aload_n 0, 1), (43, .new 23, 3), (46, .dup, 1), (47, .invokespecial 25, 3), (50, .putfield 30, 3), (53, .aload_n 0, 1), (54, .new 33, 3), (57, .dup, 1), (58, .invokespecial 35, 3), (61, .putfield 36, 3), (64, .aload_n 0, 1), (65, .new 33, 3), (68, .dup, 1), (69, .invokespecial 35, 3), (72, .putfield 40, 3), (75, .aload_n 0, 1), (76, .new 43, 3), (79, .dup, 1), (80, .invokespecial 45, 3), (83, .putfield 46, 3), (86, .aload_n 0, 1), (87, .new 43, 3), (90, .dup, 1), (91, .invokespecial 45, 3), (94, .putfield 50, 3), (97, .aload_n 0, 1), (98, .new 53, 3), (101, .dup, 1), (102, .invokespecial 55, 3), (105, .putfield 56, 3), (108, .aload_n 0, 1), (109, .new 60, 3), (112, .dup, 1), (113, .invokespecial 62, 3), (116, .putfield 63, 3), (119, .aload_n 0, 1), (120, .new 67, 3), (123, .dup, 1), (124, .invokespecial 69, 3), (127, .putfield 70, 3), (130, .aload_n 0, 1), (131, .bipush 8, 2), (133, .newarray .int, 2), (135, .putfield 74, 3), (138, .return_, 1)]
theorem tbX8_init_ok : pTabOk cX8_init tbX8_init = true := by decide +kernel
def tbX8_add : pTab := [(0, .iconst 0, 1), (1, .iload_n 1, 1), (2, .invokestatic 78, 3), (5, .ifCond .eq 11, 3), (8, .iconst 1, 1), (9, .iload_n 2, 1), (10, .invokestatic 78, 3), (13, .ifCond .ne 9, 3), (16, .aload_n 0, 1), (17, .iconst 1, 1), (18, .invokevirtual 82, 3), (21, .ireturn, 1), (22, .aload_n 0, 1), (23, .getfield 10, 3), (26, .getfield 86, 3), (29, .bipush 32, 2), (31, .if_icmp .lt 9, 3), (34, .aload_n 0, 1), (35, .iconst 4, 1), (36, .invokevirtual 82, 3), (39, .ireturn, 1), (40, .aload_n 0, 1), (41, .getfield 10, 3), (44, .getfield 86, 3), (47, .istore_n 3, 1), (48, .aload_n 0, 1), (49, .getfield 10, 3), (52, .getfield 90, 3), (55, .iload_n 3, 1), (56, .iload_n 1, 1), (57, .iload_n 2, 1), (58, .iconst 0, 1), (59, .iconst 2, 1), (60, .iconst 0, 1), (61, .invokevirtual 93, 3), (64, .aload_n 0, 1), (65, .getfield 10, 3), (68, .iload_n 3, 1), (69, .iconst 1, 1), (70, .iadd, 1), (71, .putfield 86, 3), (74, .iload_n 3, 1), (75, .ireturn, 1)]
theorem tbX8_add_ok : pTabOk cX8_add tbX8_add = true := by decide +kernel
def tbX8_drop : pTab := [(0, .aload_n 0, 1), (1, .getfield 10, 3), (4, .getfield 86, 3), (7, .ifCond .gt 9, 3), (10, .aload_n 0, 1), (11, .iconst 2, 1), (12, .invokevirtual 82, 3), (15, .ireturn, 1), (16, .aload_n 0, 1), (17, .getfield 10, 3), (20, .dup, 1), (21, .getfield 86, 3), (24, .iconst 1, 1), (25, .isub, 1), (26, .putfield 86, 3), (29, .aload_n 0, 1), (30, .getfield 10, 3), (33, .getfield 86, 3), (36, .ireturn, 1)]
theorem tbX8_drop_ok : pTabOk cX8_drop tbX8_drop = true := by decide +kernel
def tbX8_set : pTab := [(0, .aload_n 0, 1), (1, .iload_n 1, 1), (2, .invokevirtual 97, 3), (5, .ifCond .eq 20, 3), (8, .iload_n 2, 1), (9, .iconst 0, 1), (10, .iconst 4, 1), (11, .invokestatic 101, 3), (14, .ifCond .eq 11, 3), (17, .iload_n 2, 1), (18, .iload_n 3, 1), (19, .invokestatic 78, 3), (22, .ifCond .ne 9, 3), (25, .aload_n 0, 1), (26, .iconst 1, 1), (27, .invokevirtual 82, 3), (30, .ireturn, 1), (31, .aload_n 0, 1), (32, .getfield 10, 3), (35, .getfield 90, 3), (38, .iload_n 1, 1), (39, .iload_n 2, 1), (40, .invokevirtual 105, 3), (43, .istore 4, 2), (45, .aload_n 0, 1), (46, .getfield 10, 3), (49, .getfield 90, 3), (52, .iload_n 1, 1), (53, .iload_n 2, 1), (54, .iload_n 3, 1), (55, .invokevirtual 109, 3), (58, .iload 4, 2), (60, .ireturn, 1)]
theorem tbX8_set_ok : pTabOk cX8_set tbX8_set = true := by decide +kernel
def tbX8_of : pTab := [(0, .aload_n 0, 1), (1, .iload_n 1, 1), (2, .invokevirtual 97, 3), (5, .ifCond .eq 13, 3), (8, .iload_n 2, 1), (9, .iconst 0, 1), (10, .bipush 6, 2), (12, .invokestatic 101, 3), (15, .ifCond .ne 9, 3), (18, .aload_n 0, 1), (19, .iconst 1, 1), (20, .invokevirtual 82, 3), (23, .ireturn, 1), (24, .iload_n 2, 1), (25, .iconst 5, 1), (26, .if_icmp .ge 16, 3), (29, .aload_n 0, 1), (30, .getfield 10, 3), (33, .getfield 90, 3), (36, .iload_n 1, 1), (37, .iload_n 2, 1), (38, .invokevirtual 105, 3), (41, .ireturn, 1), (42, .iload_n 2, 1), (43, .iconst 5, 1), (44, .if_icmp .ne 17, 3), (47, .aload_n 0, 1), (48, .getfield 10, 3), (51, .getfield 90, 3), (54, .iload_n 1, 1), (55, .invokevirtual 113, 3), (58, .goto 14, 3), (61, .aload_n 0, 1), (62, .getfield 10, 3), (65, .getfield 90, 3), (68, .iload_n 1, 1), (69, .invokevirtual 116, 3), (72, .ireturn, 1)]
theorem tbX8_of_ok : pTabOk cX8_of tbX8_of = true := by decide +kernel
def tbX8_spring : pTab := [(0, .aload_n 0, 1), (1, .iload_n 1, 1), (2, .invokevirtual 97, 3), (5, .ifCond .eq 12, 3), (8, .iload_n 2, 1), (9, .iconst 0, 1), (10, .iconst 2, 1), (11, .invokestatic 101, 3), (14, .ifCond .ne 9, 3), (17, .aload_n 0, 1), (18, .iconst 1, 1), (19, .invokevirtual 82, 3), (22, .ireturn, 1), (23, .iload_n 2, 1), (24, .lookupswitch 69 #[(0, 28), (1, 43)], 28), (52, .aload_n 0, 1), (53, .getfield 10, 3), (56, .getfield 90, 3), (59, .iload_n 1, 1), (60, .invokevirtual 119, 3), (63, .invokestatic 123, 3), (66, .ireturn, 1), (67, .aload_n 0, 1), (68, .getfield 10, 3), (71, .getfield 90, 3), (74, .iload_n 1, 1), (75, .aload_n 0, 1), (76, .getfield 10, 3), (79, .getfield 90, 3), (82, .iload_n 1, 1), (83, .invokevirtual 119, 3), (86, .invokevirtual 127, 3), (89, .invokestatic 123, 3), (92, .ireturn, 1), (93, .aload_n 0, 1), (94, .getfield 10, 3), (97, .getfield 90, 3), (100, .iload_n 1, 1), (101, .invokevirtual 131, 3), (104, .invokestatic 123, 3), (107, .ireturn, 1)]
theorem tbX8_spring_ok : pTabOk cX8_spring tbX8_spring = true := by decide +kernel
def tbX8_width : pTab := [(0, .iload_n 1, 1), (1, .bipush 20, 2), (3, .sipush 380, 3), (6, .invokestatic 101, 3), (9, .ifCond .ne 9, 3), (12, .aload_n 0, 1), (13, .iconst 1, 1), (14, .invokevirtual 82, 3), (17, .ireturn, 1), (18, .aload_n 0, 1), (19, .getfield 10, 3), (22, .getfield 134, 3), (25, .istore_n 2, 1), (26, .aload_n 0, 1), (27, .getfield 10, 3), (30, .iload_n 1, 1), (31, .putfield 134, 3), (34, .iload_n 2, 1), (35, .ireturn, 1)]
theorem tbX8_width_ok : pTabOk cX8_width tbX8_width = true := by decide +kernel
def tbX8_force : pTab := [(0, .aload_n 0, 1), (1, .iload_n 1, 1), (2, .iload_n 2, 1), (3, .invokevirtual 137, 3), (6, .ifCond .ne 9, 3), (9, .aload_n 0, 1), (10, .iconst 1, 1), (11, .invokevirtual 82, 3), (14, .ireturn, 1), (15, .aload_n 0, 1), (16, .getfield 26, 3), (19, .aload_n 0, 1), (20, .getfield 10, 3), (23, .getfield 90, 3), (26, .iload_n 1, 1), (27, .iload_n 2, 1), (28, .aload_n 0, 1), (29, .getfield 10, 3), (32, .getfield 134, 3), (35, .invokevirtual 140, 3), (38, .aload_n 0, 1), (39, .getfield 26, 3), (42, .getfield 144, 3), (45, .invokestatic 123, 3), (48, .ireturn, 1)]
theorem tbX8_force_ok : pTabOk cX8_force tbX8_force = true := by decide +kernel
def tbX8_held : pTab := [(0, .aload_n 0, 1), (1, .iload_n 1, 1), (2, .iload_n 2, 1), (3, .invokevirtual 137, 3), (6, .ifCond .ne 9, 3), (9, .aload_n 0, 1), (10, .iconst 1, 1), (11, .invokevirtual 82, 3), (14, .ireturn, 1), (15, .aload_n 0, 1), (16, .getfield 26, 3), (19, .aload_n 0, 1), (20, .getfield 10, 3), (23, .getfield 90, 3), (26, .iload_n 1, 1), (27, .iload_n 2, 1), (28, .aload_n 0, 1), (29, .getfield 10, 3), (32, .getfield 134, 3), (35, .invokevirtual 140, 3), (38, .aload_n 0, 1), (39, .getfield 26, 3), (42, .invokevirtual 148, 3), (45, .ireturn, 1)]
theorem tbX8_held_ok : pTabOk cX8_held tbX8_held = true := by decide +kernel
def tbX8_at : pTab := [(0, .aload_n 0, 1), (1, .iload_n 1, 1), (2, .iload_n 2, 1), (3, .invokevirtual 137, 3), (6, .ifCond .eq 22, 3), (9, .iload_n 3, 1), (10, .iload_n 1, 1), (11, .iload_n 2, 1), (12, .invokestatic 101, 3), (15, .ifCond .eq 13, 3), (18, .iload 4, 2), (20, .iconst 0, 1), (21, .iconst 2, 1), (22, .invokestatic 101, 3), (25, .ifCond .ne 9, 3), (28, .aload_n 0, 1), (29, .iconst 1, 1), (30, .invokevirtual 82, 3), (33, .ireturn, 1), (34, .aload_n 0, 1), (35, .getfield 26, 3), (38, .aload_n 0, 1), (39, .getfield 10, 3), (42, .getfield 90, 3), (45, .iload_n 1, 1), (46, .iload_n 2, 1), (47, .aload_n 0, 1), (48, .getfield 10, 3), (51, .getfield 134, 3), (54, .invokevirtual 140, 3), (57, .iload 4, 2), (59, .lookupswitch 49 #[(0, 25), (1, 37)], 25), (84, .aload_n 0, 1), (85, .getfield 26, 3), (88, .iload_n 3, 1), (89, .invokevirtual 152, 3), (92, .invokestatic 123, 3), (95, .ireturn, 1), (96, .aload_n 0, 1), (97, .getfield 26, 3), (100, .iload_n 3, 1), (101, .invokevirtual 155, 3), (104, .invokestatic 123, 3), (107, .ireturn, 1), (108, .aload_n 0, 1), (109, .getfield 26, 3), (112, .iload_n 3, 1), (113, .invokevirtual 158, 3), (116, .ireturn, 1)]
theorem tbX8_at_ok : pTabOk cX8_at tbX8_at = true := by decide +kernel
def tbX8_bad : pTab := [(0, .aload_n 0, 1), (1, .iload_n 1, 1), (2, .iload_n 2, 1), (3, .invokevirtual 137, 3), (6, .ifCond .ne 9, 3), (9, .aload_n 0, 1), (10, .iconst 1, 1), (11, .invokevirtual 82, 3), (14, .ireturn, 1), (15, .aload_n 0, 1), (16, .getfield 26, 3), (19, .aload_n 0, 1), (20, .getfield 10, 3), (23, .getfield 90, 3), (26, .iload_n 1, 1), (27, .iload_n 2, 1), (28, .aload_n 0, 1), (29, .getfield 10, 3), (32, .getfield 134, 3), (35, .invokevirtual 161, 3), (38, .aload_n 0, 1), (39, .getfield 26, 3), (42, .invokevirtual 164, 3), (45, .ifCond .ne 9, 3), (48, .aload_n 0, 1), (49, .iconst 2, 1), (50, .invokevirtual 82, 3), (53, .ireturn, 1), (54, .aload_n 0, 1), (55, .getfield 26, 3), (58, .invokevirtual 168, 3), (61, .invokestatic 123, 3), (64, .ireturn, 1)]
theorem tbX8_bad_ok : pTabOk cX8_bad tbX8_bad = true := by decide +kernel
def tbX8_sky : pTab := [(0, .aload_n 0, 1), (1, .iload_n 1, 1), (2, .iload_n 2, 1), (3, .invokevirtual 137, 3), (6, .ifCond .eq 24, 3), (9, .iload_n 3, 1), (10, .iconst 0, 1), (11, .iconst 1, 1), (12, .invokestatic 101, 3), (15, .ifCond .eq 15, 3), (18, .iload 4, 2), (20, .iconst 0, 1), (21, .sipush 399, 3), (24, .invokestatic 101, 3), (27, .ifCond .ne 9, 3), (30, .aload_n 0, 1), (31, .iconst 1, 1), (32, .invokevirtual 82, 3), (35, .ireturn, 1), (36, .aload_n 0, 1), (37, .aload_n 0, 1), (38, .getfield 36, 3), (41, .iload_n 1, 1), (42, .iload_n 2, 1), (43, .invokevirtual 172, 3), (46, .aload_n 0, 1), (47, .getfield 36, 3), (50, .iload 4, 2), (52, .invokevirtual 176, 3), (55, .ifCond .ne 9, 3), (58, .aload_n 0, 1), (59, .iconst 2, 1), (60, .invokevirtual 82, 3), (63, .ireturn, 1), (64, .iload_n 3, 1), (65, .ifCond .ne 15, 3), (68, .aload_n 0, 1), (69, .getfield 36, 3), (72, .iload 4, 2), (74, .invokevirtual 179, 3), (77, .goto 12, 3), (80, .aload_n 0, 1), (81, .getfield 36, 3), (84, .iload 4, 2), (86, .invokevirtual 182, 3), (89, .ireturn, 1)]
theorem tbX8_sky_ok : pTabOk cX8_sky tbX8_sky = true := by decide +kernel
def tbX8_apart : pTab := [(0, .aload_n 0, 1), (1, .iload_n 1, 1), (2, .iload_n 2, 1), (3, .invokevirtual 137, 3), (6, .ifCond .eq 13, 3), (9, .aload_n 0, 1), (10, .iload_n 3, 1), (11, .iload 4, 2), (13, .invokevirtual 137, 3), (16, .ifCond .ne 9, 3), (19, .aload_n 0, 1), (20, .iconst 1, 1), (21, .invokevirtual 82, 3), (24, .ireturn, 1), (25, .aload_n 0, 1), (26, .iload_n 1, 1), (27, .iload_n 2, 1), (28, .iload_n 3, 1), (29, .iload 4, 2), (31, .invokevirtual 185, 3), (34, .ireturn, 1)]
theorem tbX8_apart_ok : pTabOk cX8_apart tbX8_apart = true := by decide +kernel
def tbX8_lines : pTab := [(0, .aload_n 0, 1), (1, .invokevirtual 189, 3), (4, .aload_n 0, 1), (5, .getfield 46, 3), (8, .getfield 192, 3), (11, .ifCond .eq 13, 3), (14, .aload_n 0, 1), (15, .getfield 46, 3), (18, .getfield 195, 3), (21, .goto 8, 3), (24, .aload_n 0, 1), (25, .iconst 2, 1), (26, .invokevirtual 82, 3), (29, .ireturn, 1)]
theorem tbX8_lines_ok : pTabOk cX8_lines tbX8_lines = true := by decide +kernel
def tbX8_line : pTab := [(0, .aload_n 0, 1), (1, .invokevirtual 189, 3), (4, .aload_n 0, 1), (5, .getfield 46, 3), (8, .getfield 192, 3), (11, .ifCond .ne 9, 3), (14, .aload_n 0, 1), (15, .iconst 2, 1), (16, .invokevirtual 82, 3), (19, .ireturn, 1), (20, .iload_n 2, 1), (21, .iconst 0, 1), (22, .iconst 3, 1), (23, .invokestatic 101, 3), (26, .ifCond .eq 29, 3), (29, .iload_n 1, 1), (30, .iconst 0, 1), (31, .aload_n 0, 1), (32, .getfield 46, 3), (35, .getfield 195, 3), (38, .iload_n 2, 1), (39, .iconst 3, 1), (40, .if_icmp .ne 7, 3), (43, .iconst 2, 1), (44, .goto 4, 3), (47, .iconst 1, 1), (48, .isub, 1), (49, .invokestatic 101, 3), (52, .ifCond .ne 9, 3), (55, .aload_n 0, 1), (56, .iconst 1, 1), (57, .invokevirtual 82, 3), (60, .ireturn, 1), (61, .aload_n 0, 1), (62, .getfield 46, 3), (65, .iload_n 1, 1), (66, .invokevirtual 198, 3), (69, .istore_n 3, 1), (70, .aload_n 0, 1), (71, .getfield 46, 3), (74, .iload_n 1, 1), (75, .invokevirtual 201, 3), (78, .istore 4, 2), (80, .iload_n 2, 1), (81, .tableswitch 66 0 2 #[27, 29, 32], 27), (108, .iload_n 3, 1), (109, .ireturn, 1), (110, .iload 4, 2), (112, .ireturn, 1), (113, .aload_n 0, 1), (114, .getfield 26, 3), (117, .aload_n 0, 1), (118, .getfield 10, 3), (121, .getfield 90, 3), (124, .iload_n 3, 1), (125, .iload 4, 2), (127, .aload_n 0, 1), (128, .getfield 10, 3), (131, .getfield 134, 3), (134, .invokevirtual 140, 3), (137, .aload_n 0, 1), (138, .getfield 26, 3), (141, .iload 4, 2), (143, .invokevirtual 158, 3), (146, .ireturn, 1), (147, .aload_n 0, 1), (148, .iload_n 3, 1), (149, .iload 4, 2), (151, .aload_n 0, 1), (152, .getfield 46, 3), (155, .iload_n 1, 1), (156, .iconst 1, 1), (157, .iadd, 1), (158, .invokevirtual 198, 3), (161, .aload_n 0, 1), (162, .getfield 46, 3), (165, .iload_n 1, 1), (166, .iconst 1, 1), (167, .iadd, 1), (168, .invokevirtual 201, 3), (171, .invokevirtual 185, 3), (174, .ireturn, 1)]
theorem tbX8_line_ok : pTabOk cX8_line tbX8_line = true := by decide +kernel
def tbX8_total : pTab := [(0, .aload_n 0, 1), (1, .invokevirtual 189, 3), (4, .aload_n 0, 1), (5, .getfield 46, 3), (8, .getfield 192, 3), (11, .ifCond .eq 16, 3), (14, .aload_n 0, 1), (15, .getfield 46, 3), (18, .getfield 204, 3), (21, .invokestatic 123, 3), (24, .goto 8, 3), (27, .aload_n 0, 1), (28, .iconst 2, 1), (29, .invokevirtual 82, 3), (32, .ireturn, 1)]
theorem tbX8_total_ok : pTabOk cX8_total tbX8_total = true := by decide +kernel
def tbX8_moved : pTab := [(0, .iload_n 3, 1), (1, .ifCond .ne 7, 3), (4, .iconst 1, 1), (5, .goto 4, 3), (8, .iconst 0, 1), (9, .istore 4, 2), (11, .aload_n 0, 1), (12, .iload_n 1, 1), (13, .invokevirtual 97, 3), (16, .ifCond .eq 24, 3), (19, .iconst 2, 1), (20, .iload_n 2, 1), (21, .invokestatic 78, 3), (24, .ifCond .eq 16, 3), (27, .iload 4, 2), (29, .ifCond .ne 17, 3), (32, .iconst 1, 1), (33, .iload_n 3, 1), (34, .invokestatic 78, 3), (37, .ifCond .ne 9, 3), (40, .aload_n 0, 1), (41, .iconst 1, 1), (42, .invokevirtual 82, 3), (45, .ireturn, 1), (46, .aload_n 0, 1), (47, .getfield 56, 3), (50, .aload_n 0, 1), (51, .getfield 10, 3), (54, .getfield 90, 3), (57, .invokevirtual 207, 3), (60, .aload_n 0, 1), (61, .getfield 56, 3), (64, .iload_n 1, 1), (65, .iconst 2, 1), (66, .iload_n 2, 1), (67, .invokevirtual 109, 3), (70, .iload 4, 2), (72, .ifCond .ne 13, 3), (75, .aload_n 0, 1), (76, .getfield 56, 3), (79, .iload_n 1, 1), (80, .iconst 1, 1), (81, .iload_n 3, 1), (82, .invokevirtual 109, 3), (85, .aload_n 0, 1), (86, .invokevirtual 189, 3), (89, .aload_n 0, 1), (90, .getfield 50, 3), (93, .aload_n 0, 1), (94, .getfield 56, 3), (97, .aload_n 0, 1), (98, .getfield 10, 3), (101, .getfield 86, 3), (104, .aload_n 0, 1), (105, .getfield 10, 3), (108, .getfield 134, 3), (111, .invokevirtual 211, 3), (114, .aload_n 0, 1), (115, .getfield 46, 3), (118, .getfield 192, 3), (121, .ifCond .eq 13, 3), (124, .aload_n 0, 1), (125, .getfield 50, 3), (128, .getfield 192, 3), (131, .ifCond .ne 9, 3), (134, .aload_n 0, 1), (135, .iconst 2, 1), (136, .invokevirtual 82, 3), (139, .ireturn, 1), (140, .iconst 0, 1), (141, .istore 5, 2), (143, .iconst 0, 1), (144, .istore 6, 2), (146, .iload 6, 2), (148, .aload_n 0, 1), (149, .getfield 46, 3), (152, .getfield 195, 3), (155, .if_icmp .ge 21, 3), (158, .aload_n 0, 1), (159, .iload 6, 2), (161, .invokevirtual 215, 3), (164, .ifCond .eq 6, 3), (167, .iinc 5 1, 3), (170, .iinc 6 1, 3), (173, .goto (-27), 3), (176, .iload 5, 2), (178, .ireturn, 1)]
theorem tbX8_moved_ok : pTabOk cX8_moved tbX8_moved = true := by decide +kernel
def tbX8_beam : pTab := [(0, .aload_n 0, 1), (1, .iload_n 1, 1), (2, .iload_n 2, 1), (3, .invokevirtual 137, 3), (6, .ifCond .eq 12, 3), (9, .iload_n 3, 1), (10, .iconst 0, 1), (11, .iconst 3, 1), (12, .invokestatic 101, 3), (15, .ifCond .ne 9, 3), (18, .aload_n 0, 1), (19, .iconst 1, 1), (20, .invokevirtual 82, 3), (23, .ireturn, 1), (24, .iload_n 1, 1), (25, .iload_n 2, 1), (26, .if_icmp .ne 9, 3), (29, .aload_n 0, 1), (30, .iconst 3, 1), (31, .invokevirtual 82, 3), (34, .ireturn, 1), (35, .aload_n 0, 1), (36, .iload_n 1, 1), (37, .iload_n 2, 1), (38, .invokevirtual 218, 3), (41, .ifCond .ne 9, 3), (44, .aload_n 0, 1), (45, .iconst 5, 1), (46, .invokevirtual 82, 3), (49, .ireturn, 1), (50, .aload_n 0, 1), (51, .getfield 26, 3), (54, .aload_n 0, 1), (55, .getfield 10, 3), (58, .getfield 90, 3), (61, .iload_n 1, 1), (62, .iload_n 2, 1), (63, .aload_n 0, 1), (64, .getfield 10, 3), (67, .getfield 134, 3), (70, .invokevirtual 140, 3), (73, .iload_n 3, 1), (74, .tableswitch 61 0 2 #[26, 36, 46], 26), (100, .aload_n 0, 1), (101, .iload_n 1, 1), (102, .iload_n 2, 1), (103, .invokevirtual 221, 3), (106, .invokestatic 123, 3), (109, .ireturn, 1), (110, .aload_n 0, 1), (111, .iload_n 1, 1), (112, .iload_n 2, 1), (113, .invokevirtual 225, 3), (116, .invokestatic 123, 3), (119, .ireturn, 1), (120, .aload_n 0, 1), (121, .iload_n 1, 1), (122, .iload_n 2, 1), (123, .invokevirtual 228, 3), (126, .ifCond .eq 7, 3), (129, .iconst 1, 1), (130, .goto 4, 3), (133, .iconst 0, 1), (134, .ireturn, 1), (135, .aload_n 0, 1), (136, .iload_n 1, 1), (137, .iload_n 2, 1), (138, .invokevirtual 231, 3), (141, .invokestatic 123, 3), (144, .ireturn, 1)]
theorem tbX8_beam_ok : pTabOk cX8_beam tbX8_beam = true := by decide +kernel
def tbX8_slur : pTab := [(0, .aload_n 0, 1), (1, .iload_n 1, 1), (2, .iload_n 2, 1), (3, .invokevirtual 137, 3), (6, .ifCond .eq 12, 3), (9, .iload_n 3, 1), (10, .iconst 0, 1), (11, .iconst 3, 1), (12, .invokestatic 101, 3), (15, .ifCond .ne 9, 3), (18, .aload_n 0, 1), (19, .iconst 1, 1), (20, .invokevirtual 82, 3), (23, .ireturn, 1), (24, .iload_n 2, 1), (25, .iload_n 1, 1), (26, .isub, 1), (27, .iconst 2, 1), (28, .if_icmp .ge 9, 3), (31, .aload_n 0, 1), (32, .iconst 3, 1), (33, .invokevirtual 82, 3), (36, .ireturn, 1), (37, .aload_n 0, 1), (38, .iload_n 1, 1), (39, .iload_n 2, 1), (40, .iconst 1, 1), (41, .invokevirtual 234, 3), (44, .istore 4, 2), (46, .aload_n 0, 1), (47, .iload_n 1, 1), (48, .iload_n 2, 1), (49, .iconst 0, 1), (50, .invokevirtual 234, 3), (53, .istore 5, 2), (55, .iload 5, 2), (57, .iload 4, 2), (59, .if_icmp .ge 7, 3), (62, .iconst 1, 1), (63, .goto 4, 3), (66, .iconst 0, 1), (67, .istore 6, 2), (69, .iload_n 3, 1), (70, .ifCond .ne 30, 3), (73, .iload 4, 2), (75, .invokestatic 238, 3), (78, .ifCond .ne 11, 3), (81, .iload 5, 2), (83, .invokestatic 238, 3), (86, .ifCond .eq 8, 3), (89, .iload 6, 2), (91, .goto 8, 3), (94, .aload_n 0, 1), (95, .iconst 2, 1), (96, .invokevirtual 82, 3), (99, .ireturn, 1), (100, .iload_n 3, 1), (101, .iconst 2, 1), (102, .if_icmp .eq 13, 3), (105, .iload_n 3, 1), (106, .iconst 1, 1), (107, .if_icmp .ne 13, 3), (110, .iload 6, 2), (112, .ifCond .ne 8, 3), (115, .iload 4, 2), (117, .goto 5, 3), (120, .iload 5, 2), (122, .istore 7, 2), (124, .iload 7, 2), (126, .invokestatic 238, 3), (129, .ifCond .eq 8, 3), (132, .iload 7, 2), (134, .goto 8, 3), (137, .aload_n 0, 1), (138, .iconst 2, 1), (139, .invokevirtual 82, 3), (142, .ireturn, 1)]
theorem tbX8_slur_ok : pTabOk cX8_slur tbX8_slur = true := by decide +kernel
def tbX8_feed : pTab := [(0, .iload_n 1, 1), (1, .iconst 0, 1), (2, .sipush 255, 3), (5, .invokestatic 101, 3), (8, .ifCond .ne 9, 3), (11, .aload_n 0, 1), (12, .iconst 1, 1), (13, .invokevirtual 82, 3), (16, .ireturn, 1), (17, .aload_n 0, 1), (18, .getfield 63, 3), (21, .getfield 241, 3), (24, .sipush 160, 3), (27, .if_icmp .lt 9, 3), (30, .aload_n 0, 1), (31, .iconst 4, 1), (32, .invokevirtual 82, 3), (35, .ireturn, 1), (36, .aload_n 0, 1), (37, .getfield 63, 3), (40, .iload_n 1, 1), (41, .invokevirtual 244, 3), (44, .aload_n 0, 1), (45, .getfield 63, 3), (48, .getfield 241, 3), (51, .ireturn, 1)]
theorem tbX8_feed_ok : pTabOk cX8_feed tbX8_feed = true := by decide +kernel
def tbX8_music : pTab := [(0, .aload_n 0, 1), (1, .getfield 63, 3), (4, .invokevirtual 248, 3), (7, .istore_n 1, 1), (8, .iload_n 1, 1), (9, .iconst (-1), 1), (10, .if_icmp .eq 16, 3), (13, .aload_n 0, 1), (14, .getfield 63, 3), (17, .iconst 0, 1), (18, .putfield 241, 3), (21, .bipush (-10), 2), (23, .iload_n 1, 1), (24, .isub, 1), (25, .ireturn, 1), (26, .aload_n 0, 1), (27, .getfield 63, 3), (30, .getfield 251, 3), (33, .bipush 32, 2), (35, .if_icmp .le 9, 3), (38, .aload_n 0, 1), (39, .iconst 4, 1), (40, .invokevirtual 82, 3), (43, .ireturn, 1), (44, .aload_n 0, 1), (45, .getfield 63, 3), (48, .iconst 0, 1), (49, .putfield 241, 3), (52, .aload_n 0, 1), (53, .getfield 10, 3), (56, .getfield 90, 3), (59, .aload_n 0, 1), (60, .getfield 63, 3), (63, .getfield 254, 3), (66, .invokevirtual 207, 3), (69, .aload_n 0, 1), (70, .getfield 10, 3), (73, .aload_n 0, 1), (74, .getfield 63, 3), (77, .getfield 251, 3), (80, .putfield 86, 3), (83, .aload_n 0, 1), (84, .getfield 10, 3), (87, .getfield 86, 3), (90, .ireturn, 1)]
theorem tbX8_music_ok : pTabOk cX8_music tbX8_music = true := by decide +kernel
def tbX8_shelf : pTab := [(0, .iload_n 2, 1), (1, .iconst (-1), 1), (2, .if_icmp .eq 11, 3), (5, .iconst 0, 1), (6, .iload_n 2, 1), (7, .invokestatic 78, 3), (10, .ifCond .eq 7, 3), (13, .iconst 1, 1), (14, .goto 4, 3), (17, .iconst 0, 1), (18, .istore 4, 2), (20, .iload_n 1, 1), (21, .iconst 0, 1), (22, .iconst 2, 1), (23, .invokestatic 101, 3), (26, .ifCond .eq 18, 3), (29, .iload 4, 2), (31, .ifCond .eq 13, 3), (34, .iload_n 3, 1), (35, .iconst 0, 1), (36, .bipush 12, 2), (38, .invokestatic 101, 3), (41, .ifCond .ne 9, 3), (44, .aload_n 0, 1), (45, .iconst 1, 1), (46, .invokevirtual 82, 3), (49, .ireturn, 1), (50, .aload_n 0, 1), (51, .getfield 10, 3), (54, .iload_n 1, 1), (55, .iload_n 2, 1), (56, .iload_n 3, 1), (57, .invokevirtual 257, 3), (60, .iconst 1, 1), (61, .ireturn, 1)]
theorem tbX8_shelf_ok : pTabOk cX8_shelf tbX8_shelf = true := by decide +kernel
def tbX8_store : pTab := [(0, .iload_n 1, 1), (1, .iconst 0, 1), (2, .iconst 2, 1), (3, .invokestatic 101, 3), (6, .ifCond .eq 11, 3), (9, .aload_n 0, 1), (10, .iload_n 3, 1), (11, .invokevirtual 97, 3), (14, .ifCond .ne 9, 3), (17, .aload_n 0, 1), (18, .iconst 1, 1), (19, .invokevirtual 82, 3), (22, .ireturn, 1), (23, .aload_n 0, 1), (24, .getfield 10, 3), (27, .iload_n 1, 1), (28, .iload_n 2, 1), (29, .invokevirtual 260, 3), (32, .ifCond .ne 10, 3), (35, .aload_n 0, 1), (36, .bipush 7, 2), (38, .invokevirtual 82, 3), (41, .ireturn, 1), (42, .aload_n 0, 1), (43, .getfield 10, 3), (46, .iload_n 1, 1), (47, .invokevirtual 263, 3), (50, .aload_n 0, 1), (51, .getfield 10, 3), (54, .getfield 90, 3), (57, .iload_n 3, 1), (58, .iconst 0, 1), (59, .invokevirtual 105, 3), (62, .if_icmp .eq 9, 3), (65, .aload_n 0, 1), (66, .iconst 5, 1), (67, .invokevirtual 82, 3), (70, .ireturn, 1), (71, .aload_n 0, 1), (72, .getfield 10, 3), (75, .getfield 266, 3), (78, .iload_n 1, 1), (79, .iload_n 2, 1), (80, .invokestatic 269, 3), (83, .aload_n 0, 1), (84, .getfield 10, 3), (87, .getfield 90, 3), (90, .iload_n 3, 1), (91, .invokevirtual 271, 3), (94, .iconst 1, 1), (95, .ireturn, 1)]
theorem tbX8_store_ok : pTabOk cX8_store tbX8_store = true := by decide +kernel
def tbX8_fetch : pTab := [(0, .iload_n 1, 1), (1, .iconst 0, 1), (2, .iconst 2, 1), (3, .invokestatic 101, 3), (6, .ifCond .eq 12, 3), (9, .iload_n 3, 1), (10, .iconst 0, 1), (11, .iconst 3, 1), (12, .invokestatic 101, 3), (15, .ifCond .ne 9, 3), (18, .aload_n 0, 1), (19, .iconst 1, 1), (20, .invokevirtual 82, 3), (23, .ireturn, 1), (24, .aload_n 0, 1), (25, .getfield 10, 3), (28, .iload_n 1, 1), (29, .iload_n 2, 1), (30, .invokevirtual 260, 3), (33, .ifCond .ne 10, 3), (36, .aload_n 0, 1), (37, .bipush 7, 2), (39, .invokevirtual 82, 3), (42, .ireturn, 1), (43, .iload_n 1, 1), (44, .iload_n 2, 1), (45, .invokestatic 269, 3), (48, .istore 4, 2), (50, .aload_n 0, 1), (51, .getfield 10, 3), (54, .getfield 266, 3), (57, .iload 4, 2), (59, .invokevirtual 275, 3), (62, .ifCond .eq 9, 3), (65, .aload_n 0, 1), (66, .iconst 2, 1), (67, .invokevirtual 82, 3), (70, .ireturn, 1), (71, .iload_n 3, 1), (72, .iconst 3, 1), (73, .if_icmp .ne 18, 3), (76, .aload_n 0, 1), (77, .getfield 10, 3), (80, .getfield 266, 3), (83, .iload 4, 2), (85, .invokevirtual 113, 3), (88, .goto 16, 3), (91, .aload_n 0, 1), (92, .getfield 10, 3), (95, .getfield 266, 3), (98, .iload 4, 2), (100, .iload_n 3, 1), (101, .invokevirtual 105, 3), (104, .ireturn, 1)]
theorem tbX8_fetch_ok : pTabOk cX8_fetch tbX8_fetch = true := by decide +kernel
def tbX8_comes : pTab := [(0, .iload_n 1, 1), (1, .iconst 0, 1), (2, .iconst 2, 1), (3, .invokestatic 101, 3), (6, .ifCond .ne 9, 3), (9, .aload_n 0, 1), (10, .iconst 1, 1), (11, .invokevirtual 82, 3), (14, .ireturn, 1), (15, .aload_n 0, 1), (16, .getfield 10, 3), (19, .iload_n 1, 1), (20, .iload_n 2, 1), (21, .invokevirtual 260, 3), (24, .ifCond .ne 10, 3), (27, .aload_n 0, 1), (28, .bipush 7, 2), (30, .invokevirtual 82, 3), (33, .ireturn, 1), (34, .iload_n 1, 1), (35, .iload_n 2, 1), (36, .invokestatic 269, 3), (39, .istore_n 3, 1), (40, .aload_n 0, 1), (41, .getfield 10, 3), (44, .getfield 266, 3), (47, .iload_n 3, 1), (48, .invokevirtual 275, 3), (51, .ifCond .eq 9, 3), (54, .aload_n 0, 1), (55, .iconst 2, 1), (56, .invokevirtual 82, 3), (59, .ireturn, 1), (60, .aload_n 0, 1), (61, .getfield 10, 3), (64, .getfield 86, 3), (67, .bipush 32, 2), (69, .if_icmp .lt 9, 3), (72, .aload_n 0, 1), (73, .iconst 4, 1), (74, .invokevirtual 82, 3), (77, .ireturn, 1), (78, .aload_n 0, 1), (79, .getfield 10, 3), (82, .getfield 86, 3), (85, .istore 4, 2), (87, .aload_n 0, 1), (88, .getfield 10, 3), (91, .getfield 90, 3), (94, .iload 4, 2), (96, .aload_n 0, 1), (97, .getfield 10, 3), (100, .getfield 266, 3), (103, .iload_n 3, 1), (104, .invokevirtual 271, 3), (107, .aload_n 0, 1), (108, .getfield 10, 3), (111, .iload 4, 2), (113, .iconst 1, 1), (114, .iadd, 1), (115, .putfield 86, 3), (118, .iload 4, 2), (120, .ireturn, 1)]
theorem tbX8_comes_ok : pTabOk cX8_comes tbX8_comes = true := by decide +kernel
def tbX8_sheet : pTab := [(0, .iload_n 1, 1), (1, .iconst 0, 1), (2, .iconst 3, 1), (3, .invokestatic 101, 3), (6, .ifCond .eq 12, 3), (9, .iload_n 2, 1), (10, .iconst (-1), 1), (11, .iconst 3, 1), (12, .invokestatic 101, 3), (15, .ifCond .ne 9, 3), (18, .aload_n 0, 1), (19, .iconst 1, 1), (20, .invokevirtual 82, 3), (23, .ireturn, 1), (24, .iload_n 2, 1), (25, .iconst (-1), 1), (26, .if_icmp .ne 15, 3), (29, .aload_n 0, 1), (30, .getfield 70, 3), (33, .iload_n 1, 1), (34, .iconst (-1), 1), (35, .iconst 0, 1), (36, .invokevirtual 278, 3), (39, .iconst 1, 1), (40, .ireturn, 1), (41, .iload_n 3, 1), (42, .ifCond .ge 9, 3), (45, .aload_n 0, 1), (46, .iconst 3, 1), (47, .invokevirtual 82, 3), (50, .ireturn, 1), (51, .iload_n 3, 1), (52, .bipush 40, 2), (54, .if_icmp .le 9, 3), (57, .aload_n 0, 1), (58, .iconst 1, 1), (59, .invokevirtual 82, 3), (62, .ireturn, 1), (63, .aload_n 0, 1), (64, .getfield 70, 3), (67, .iload_n 1, 1), (68, .iload_n 2, 1), (69, .iload_n 3, 1), (70, .invokevirtual 278, 3), (73, .iconst 1, 1), (74, .ireturn, 1)]
theorem tbX8_sheet_ok : pTabOk cX8_sheet tbX8_sheet = true := by decide +kernel
def tbX8_put : pTab := [(0, .iload_n 1, 1), (1, .iconst 0, 1), (2, .iconst 3, 1), (3, .invokestatic 101, 3), (6, .ifCond .eq 14, 3), (9, .iload 5, 2), (11, .iconst 0, 1), (12, .bipush 20, 2), (14, .invokestatic 101, 3), (17, .ifCond .ne 9, 3), (20, .aload_n 0, 1), (21, .iconst 1, 1), (22, .invokevirtual 82, 3), (25, .ireturn, 1), (26, .aload_n 0, 1), (27, .getfield 70, 3), (30, .iload_n 1, 1), (31, .iload_n 2, 1), (32, .invokevirtual 281, 3), (35, .ifCond .ne 10, 3), (38, .aload_n 0, 1), (39, .bipush 7, 2), (41, .invokevirtual 82, 3), (44, .ireturn, 1), (45, .aload_n 0, 1), (46, .getfield 70, 3), (49, .iload_n 1, 1), (50, .iload_n 2, 1), (51, .lload_n 3, 1), (52, .iload 5, 2), (54, .invokevirtual 284, 3), (57, .iconst 1, 1), (58, .ireturn, 1)]
theorem tbX8_put_ok : pTabOk cX8_put tbX8_put = true := by decide +kernel
def tbX8_bits : pTab := [(0, .iload_n 1, 1), (1, .iconst 0, 1), (2, .iconst 3, 1), (3, .invokestatic 101, 3), (6, .ifCond .ne 9, 3), (9, .aload_n 0, 1), (10, .iconst 1, 1), (11, .invokevirtual 288, 3), (14, .lreturn, 1), (15, .aload_n 0, 1), (16, .getfield 70, 3), (19, .iload_n 1, 1), (20, .iload_n 2, 1), (21, .invokevirtual 281, 3), (24, .ifCond .ne 10, 3), (27, .aload_n 0, 1), (28, .bipush 7, 2), (30, .invokevirtual 288, 3), (33, .lreturn, 1), (34, .aload_n 0, 1), (35, .getfield 70, 3), (38, .iload_n 1, 1), (39, .iload_n 2, 1), (40, .invokevirtual 292, 3), (43, .lreturn, 1)]
theorem tbX8_bits_ok : pTabOk cX8_bits tbX8_bits = true := by decide +kernel
def tbX8_cast : pTab := [(0, .iload_n 1, 1), (1, .iconst 0, 1), (2, .iconst 3, 1), (3, .invokestatic 101, 3), (6, .ifCond .ne 9, 3), (9, .aload_n 0, 1), (10, .iconst 1, 1), (11, .invokevirtual 82, 3), (14, .ireturn, 1), (15, .aload_n 0, 1), (16, .getfield 70, 3), (19, .iload_n 1, 1), (20, .iload_n 2, 1), (21, .invokevirtual 281, 3), (24, .ifCond .ne 10, 3), (27, .aload_n 0, 1), (28, .bipush 7, 2), (30, .invokevirtual 82, 3), (33, .ireturn, 1), (34, .aload_n 0, 1), (35, .getfield 70, 3), (38, .iload_n 1, 1), (39, .iload_n 2, 1), (40, .invokevirtual 296, 3), (43, .ireturn, 1)]
theorem tbX8_cast_ok : pTabOk cX8_cast tbX8_cast = true := by decide +kernel
def tbX8_rest : pTab := [(0, .iload_n 1, 1), (1, .iconst 0, 1), (2, .iconst 3, 1), (3, .invokestatic 101, 3), (6, .ifCond .ne 9, 3), (9, .aload_n 0, 1), (10, .iconst 1, 1), (11, .invokevirtual 82, 3), (14, .ireturn, 1), (15, .aload_n 0, 1), (16, .getfield 70, 3), (19, .iload_n 1, 1), (20, .iload_n 2, 1), (21, .invokevirtual 281, 3), (24, .ifCond .eq 15, 3), (27, .aload_n 0, 1), (28, .getfield 70, 3), (31, .iload_n 1, 1), (32, .iload_n 3, 1), (33, .invokevirtual 281, 3), (36, .ifCond .ne 10, 3), (39, .aload_n 0, 1), (40, .bipush 7, 2), (42, .invokevirtual 82, 3), (45, .ireturn, 1), (46, .aload_n 0, 1), (47, .getfield 70, 3), (50, .iload_n 1, 1), (51, .iload_n 3, 1), (52, .invokevirtual 299, 3), (55, .ifCond .eq 10, 3), (58, .aload_n 0, 1), (59, .bipush 6, 2), (61, .invokevirtual 82, 3), (64, .ireturn, 1), (65, .aload_n 0, 1), (66, .getfield 70, 3), (69, .iload_n 1, 1), (70, .iload_n 2, 1), (71, .iload_n 3, 1), (72, .invokevirtual 302, 3), (75, .iconst 1, 1), (76, .ireturn, 1)]
theorem tbX8_rest_ok : pTabOk cX8_rest tbX8_rest = true := by decide +kernel
def tbX8_lays : pTab := [(0, .iload_n 1, 1), (1, .iconst 0, 1), (2, .iconst 3, 1), (3, .invokestatic 101, 3), (6, .ifCond .eq 12, 3), (9, .aload_n 0, 1), (10, .iload_n 2, 1), (11, .iload_n 3, 1), (12, .invokevirtual 137, 3), (15, .ifCond .ne 9, 3), (18, .aload_n 0, 1), (19, .iconst 1, 1), (20, .invokevirtual 82, 3), (23, .ireturn, 1), (24, .aload_n 0, 1), (25, .getfield 70, 3), (28, .iload_n 1, 1), (29, .invokevirtual 305, 3), (32, .iconst (-1), 1), (33, .if_icmp .ne 10, 3), (36, .aload_n 0, 1), (37, .bipush 7, 2), (39, .invokevirtual 82, 3), (42, .ireturn, 1), (43, .aload_n 0, 1), (44, .getfield 26, 3), (47, .aload_n 0, 1), (48, .getfield 10, 3), (51, .getfield 90, 3), (54, .iload_n 2, 1), (55, .iload_n 3, 1), (56, .aload_n 0, 1), (57, .getfield 10, 3), (60, .getfield 134, 3), (63, .invokevirtual 140, 3), (66, .iconst 0, 1), (67, .istore 4, 2), (69, .iload_n 2, 1), (70, .istore 5, 2), (72, .iload 5, 2), (74, .iload_n 3, 1), (75, .if_icmp .gt 44, 3), (78, .aload_n 0, 1), (79, .getfield 70, 3), (82, .iload_n 1, 1), (83, .iload 4, 2), (85, .invokevirtual 281, 3), (88, .ifCond .eq 31, 3), (91, .aload_n 0, 1), (92, .getfield 70, 3), (95, .iload_n 1, 1), (96, .iload 4, 2), (98, .aload_n 0, 1), (99, .getfield 26, 3), (102, .iload 5, 2), (104, .invokevirtual 155, 3), (107, .invokevirtual 308, 3), (110, .iinc 4 1, 3), (113, .iinc 5 1, 3), (116, .goto (-44), 3), (119, .iload 4, 2), (121, .ireturn, 1)]
theorem tbX8_lays_ok : pTabOk cX8_lays tbX8_lays = true := by decide +kernel
def tbX8_image : pTab := [(0, .aload_n 0, 1), (1, .getfield 16, 3), (4, .aload_n 0, 1), (5, .getfield 10, 3), (8, .invokevirtual 312, 3), (11, .aload_n 0, 1), (12, .iconst 1, 1), (13, .putfield 19, 3), (16, .aload_n 0, 1), (17, .getfield 16, 3), (20, .getfield 86, 3), (23, .ireturn, 1)]
theorem tbX8_image_ok : pTabOk cX8_image tbX8_image = true := by decide +kernel
def tbX8_restore : pTab := [(0, .aload_n 0, 1), (1, .getfield 19, 3), (4, .ifCond .ne 9, 3), (7, .aload_n 0, 1), (8, .iconst 2, 1), (9, .invokevirtual 82, 3), (12, .ireturn, 1), (13, .aload_n 0, 1), (14, .getfield 10, 3), (17, .aload_n 0, 1), (18, .getfield 16, 3), (21, .invokevirtual 312, 3), (24, .aload_n 0, 1), (25, .getfield 10, 3), (28, .getfield 86, 3), (31, .ireturn, 1)]
theorem tbX8_restore_ok : pTabOk cX8_restore tbX8_restore = true := by decide +kernel
def tbX8_count : pTab := [(0, .iload_n 1, 1), (1, .tableswitch 81 0 5 #[39, 47, 55, 63, 68, 73], 39), (40, .aload_n 0, 1), (41, .getfield 10, 3), (44, .getfield 86, 3), (47, .ireturn, 1), (48, .aload_n 0, 1), (49, .getfield 10, 3), (52, .getfield 134, 3), (55, .ireturn, 1), (56, .aload_n 0, 1), (57, .getfield 63, 3), (60, .getfield 241, 3), (63, .ireturn, 1), (64, .aload_n 0, 1), (65, .invokevirtual 315, 3), (68, .ireturn, 1), (69, .aload_n 0, 1), (70, .invokevirtual 318, 3), (73, .ireturn, 1), (74, .aload_n 0, 1), (75, .getfield 10, 3), (78, .invokevirtual 321, 3), (81, .ireturn, 1), (82, .aload_n 0, 1), (83, .iconst 1, 1), (84, .invokevirtual 82, 3), (87, .ireturn, 1)]
theorem tbX8_count_ok : pTabOk cX8_count tbX8_count = true := by decide +kernel
def tbX8_told : pTab := [(0, .iload_n 1, 1), (1, .iconst 1, 1), (2, .bipush 7, 2), (4, .invokestatic 101, 3), (7, .ifCond .eq 14, 3), (10, .aload_n 0, 1), (11, .getfield 74, 3), (14, .iload_n 1, 1), (15, .invokestatic 324, 3), (18, .goto 8, 3), (21, .aload_n 0, 1), (22, .iconst 1, 1), (23, .invokevirtual 82, 3), (26, .ireturn, 1)]
theorem tbX8_told_ok : pTabOk cX8_told tbX8_told = true := by decide +kernel
def tbX8_refuse : pTab := [(0, .aload_n 0, 1), (1, .getfield 74, 3), (4, .iload_n 1, 1), (5, .aload_n 0, 1), (6, .getfield 74, 3), (9, .iload_n 1, 1), (10, .invokestatic 324, 3), (13, .iconst 1, 1), (14, .iadd, 1), (15, .invokestatic 328, 3), (18, .ldc_w 332, 3), (21, .iload_n 1, 1), (22, .isub, 1), (23, .ireturn, 1)]
theorem tbX8_refuse_ok : pTabOk cX8_refuse tbX8_refuse = true := by decide +kernel
def tbX8_refuseLong : pTab := [(0, .aload_n 0, 1), (1, .iload_n 1, 1), (2, .invokevirtual 82, 3), (5, .pop, 1), (6, .ldc2_w 333, 3), (9, .iload_n 1, 1), (10, .i2l, 1), (11, .lsub, 1), (12, .lreturn, 1)]
theorem tbX8_refuseLong_ok : pTabOk cX8_refuseLong tbX8_refuseLong = true := by decide +kernel
def tbX8_isColumn : pTab := [(0, .iload_n 1, 1), (1, .ifCond .lt 18, 3), (4, .iload_n 1, 1), (5, .aload_n 0, 1), (6, .getfield 10, 3), (9, .getfield 86, 3), (12, .if_icmp .ge 7, 3), (15, .iconst 1, 1), (16, .goto 4, 3), (19, .iconst 0, 1), (20, .ireturn, 1)]
theorem tbX8_isColumn_ok : pTabOk cX8_isColumn tbX8_isColumn = true := by decide +kernel
def tbX8_isStretch : pTab := [(0, .iload_n 1, 1), (1, .ifCond .lt 23, 3), (4, .iload_n 1, 1), (5, .iload_n 2, 1), (6, .if_icmp .gt 18, 3), (9, .iload_n 2, 1), (10, .aload_n 0, 1), (11, .getfield 10, 3), (14, .getfield 86, 3), (17, .if_icmp .ge 7, 3), (20, .iconst 1, 1), (21, .goto 4, 3), (24, .iconst 0, 1), (25, .ireturn, 1)]
theorem tbX8_isStretch_ok : pTabOk cX8_isStretch tbX8_isStretch = true := by decide +kernel
def tbX8_findBest : pTab := [(0, .aload_n 0, 1), (1, .getfield 46, 3), (4, .aload_n 0, 1), (5, .getfield 10, 3), (8, .getfield 90, 3), (11, .aload_n 0, 1), (12, .getfield 10, 3), (15, .getfield 86, 3), (18, .aload_n 0, 1), (19, .getfield 10, 3), (22, .getfield 134, 3), (25, .invokevirtual 211, 3), (28, .return_, 1)]
theorem tbX8_findBest_ok : pTabOk cX8_findBest tbX8_findBest = true := by decide +kernel
def tbX8_traceLine : pTab := [(0, .aload_n 1, 1), (1, .ifnonnull 4, 3), (4, .return_, 1), (5, .aload_n 0, 1), (6, .getfield 26, 3), (9, .aload_n 0, 1), (10, .getfield 10, 3), (13, .getfield 90, 3), (16, .iload_n 2, 1), (17, .iload_n 3, 1), (18, .aload_n 0, 1), (19, .getfield 10, 3), (22, .getfield 134, 3), (25, .invokevirtual 140, 3), (28, .aload_n 1, 1), (29, .aload_n 0, 1), (30, .getfield 10, 3), (33, .getfield 90, 3), (36, .aload_n 0, 1), (37, .getfield 26, 3), (40, .invokevirtual 335, 3), (43, .return_, 1)]
theorem tbX8_traceLine_ok : pTabOk cX8_traceLine tbX8_traceLine = true := by decide +kernel
def tbX8_distance : pTab := [(0, .aload_n 0, 1), (1, .aload_n 0, 1), (2, .getfield 36, 3), (5, .iload_n 1, 1), (6, .iload_n 2, 1), (7, .invokevirtual 172, 3), (10, .aload_n 0, 1), (11, .aload_n 0, 1), (12, .getfield 40, 3), (15, .iload_n 3, 1), (16, .iload 4, 2), (18, .invokevirtual 172, 3), (21, .bipush 8, 2), (23, .istore 5, 2), (25, .iconst 0, 1), (26, .istore 6, 2), (28, .iload 6, 2), (30, .sipush 400, 3), (33, .if_icmp .ge 61, 3), (36, .aload_n 0, 1), (37, .getfield 36, 3), (40, .iload 6, 2), (42, .invokevirtual 176, 3), (45, .ifCond .eq 43, 3), (48, .aload_n 0, 1), (49, .getfield 40, 3), (52, .iload 6, 2), (54, .invokevirtual 176, 3), (57, .ifCond .eq 31, 3), (60, .iload 5, 2), (62, .aload_n 0, 1), (63, .getfield 40, 3), (66, .iload 6, 2), (68, .invokevirtual 179, 3), (71, .aload_n 0, 1), (72, .getfield 36, 3), (75, .iload 6, 2), (77, .invokevirtual 182, 3), (80, .isub, 1), (81, .iconst 2, 1), (82, .iadd, 1), (83, .invokestatic 339, 3), (86, .istore 5, 2), (88, .iinc 6 1, 3), (91, .goto (-63), 3), (94, .iload 5, 2), (96, .ireturn, 1)]
theorem tbX8_distance_ok : pTabOk cX8_distance tbX8_distance = true := by decide +kernel
def tbX8_standsOtherwise : pTab := [(0, .aload_n 0, 1), (1, .getfield 46, 3), (4, .iload_n 1, 1), (5, .invokevirtual 198, 3), (8, .istore_n 2, 1), (9, .aload_n 0, 1), (10, .getfield 46, 3), (13, .iload_n 1, 1), (14, .invokevirtual 201, 3), (17, .istore_n 3, 1), (18, .iload_n 1, 1), (19, .aload_n 0, 1), (20, .getfield 50, 3), (23, .getfield 195, 3), (26, .if_icmp .ge 27, 3), (29, .iload_n 2, 1), (30, .aload_n 0, 1), (31, .getfield 50, 3), (34, .iload_n 1, 1), (35, .invokevirtual 198, 3), (38, .if_icmp .ne 15, 3), (41, .iload_n 3, 1), (42, .aload_n 0, 1), (43, .getfield 50, 3), (46, .iload_n 1, 1), (47, .invokevirtual 201, 3), (50, .if_icmp .eq 5, 3), (53, .iconst 1, 1), (54, .ireturn, 1), (55, .aload_n 0, 1), (56, .getfield 26, 3), (59, .aload_n 0, 1), (60, .getfield 10, 3), (63, .getfield 90, 3), (66, .iload_n 2, 1), (67, .iload_n 3, 1), (68, .aload_n 0, 1), (69, .getfield 10, 3), (72, .getfield 134, 3), (75, .invokevirtual 140, 3), (78, .aload_n 0, 1), (79, .getfield 30, 3), (82, .aload_n 0, 1), (83, .getfield 56, 3), (86, .iload_n 2, 1), (87, .iload_n 3, 1), (88, .aload_n 0, 1), (89, .getfield 10, 3), (92, .getfield 134, 3), (95, .invokevirtual 140, 3), (98, .iload_n 2, 1), (99, .istore 4, 2), (101, .iload 4, 2), (103, .iload_n 3, 1), (104, .if_icmp .gt 33, 3), (107, .aload_n 0, 1), (108, .getfield 26, 3), (111, .iload 4, 2), (113, .invokevirtual 155, 3), (116, .aload_n 0, 1), (117, .getfield 30, 3), (120, .iload 4, 2), (122, .invokevirtual 155, 3), (125, .fcmp .l, 1), (126, .ifCond .eq 5, 3), (129, .iconst 1, 1), (130, .ireturn, 1), (131, .iinc 4 1, 3), (134, .goto (-33), 3), (137, .iconst 0, 1), (138, .ireturn, 1)]
theorem tbX8_standsOtherwise_ok : pTabOk cX8_standsOtherwise tbX8_standsOtherwise = true := by decide +kernel
def tbX8_areNotes : pTab := [(0, .iload_n 1, 1), (1, .istore_n 3, 1), (2, .iload_n 3, 1), (3, .iload_n 2, 1), (4, .if_icmp .gt 26, 3), (7, .aload_n 0, 1), (8, .getfield 10, 3), (11, .getfield 90, 3), (14, .iload_n 3, 1), (15, .iconst 0, 1), (16, .invokevirtual 105, 3), (19, .ifCond .eq 5, 3), (22, .iconst 0, 1), (23, .ireturn, 1), (24, .iinc 3 1, 3), (27, .goto (-25), 3), (30, .iconst 1, 1), (31, .ireturn, 1)]
theorem tbX8_areNotes_ok : pTabOk cX8_areNotes tbX8_areNotes = true := by decide +kernel
def tbX8_beamRise : pTab := [(0, .aload_n 0, 1), (1, .getfield 10, 3), (4, .getfield 90, 3), (7, .iload_n 2, 1), (8, .iconst 2, 1), (9, .invokevirtual 105, 3), (12, .aload_n 0, 1), (13, .getfield 10, 3), (16, .getfield 90, 3), (19, .iload_n 1, 1), (20, .iconst 2, 1), (21, .invokevirtual 105, 3), (24, .isub, 1), (25, .istore_n 3, 1), (26, .aload_n 0, 1), (27, .getfield 26, 3), (30, .iload_n 2, 1), (31, .invokevirtual 155, 3), (34, .fstore 4, 2), (36, .fload 4, 2), (38, .fconst 0, 1), (39, .fcmp .l, 1), (40, .ifCond .le 15, 3), (43, .iload_n 3, 1), (44, .i2f, 1), (45, .ldc_w 344, 3), (48, .fmul, 1), (49, .fload 4, 2), (51, .fdiv, 1), (52, .goto 4, 3), (55, .fconst 0, 1), (56, .freturn, 1)]
theorem tbX8_beamRise_ok : pTabOk cX8_beamRise tbX8_beamRise = true := by decide +kernel
def tbX8_beamSlope : pTab := [(0, .aload_n 0, 1), (1, .iload_n 1, 1), (2, .iload_n 2, 1), (3, .invokevirtual 221, 3), (6, .ldc_w 345, 3), (9, .fmul, 1), (10, .ldc_w 344, 3), (13, .fadd, 1), (14, .fstore_n 3, 1), (15, .fload_n 3, 1), (16, .f2i, 1), (17, .istore 4, 2), (19, .iload 4, 2), (21, .i2f, 1), (22, .fload_n 3, 1), (23, .fcmp .l, 1), (24, .ifCond .le 6, 3), (27, .iinc 4 (-1), 3), (30, .iload 4, 2), (32, .i2f, 1), (33, .ldc_w 345, 3), (36, .fdiv, 1), (37, .fstore 5, 2), (39, .fload 5, 2), (41, .ldc_w 346, 3), (44, .fcmp .g, 1), (45, .ifCond .ge 7, 3), (48, .ldc_w 346, 3), (51, .freturn, 1), (52, .fload 5, 2), (54, .ldc_w 344, 3), (57, .fcmp .l, 1), (58, .ifCond .le 9, 3), (61, .ldc_w 344, 3), (64, .goto 5, 3), (67, .fload 5, 2), (69, .freturn, 1)]
theorem tbX8_beamSlope_ok : pTabOk cX8_beamSlope tbX8_beamSlope = true := by decide +kernel
def tbX8_beamGoesUp : pTab := [(0, .iconst 0, 1), (1, .istore_n 3, 1), (2, .iload_n 1, 1), (3, .istore 4, 2), (5, .iload 4, 2), (7, .iload_n 2, 1), (8, .if_icmp .gt 25, 3), (11, .iload_n 3, 1), (12, .aload_n 0, 1), (13, .getfield 10, 3), (16, .getfield 90, 3), (19, .iload 4, 2), (21, .iconst 2, 1), (22, .invokevirtual 105, 3), (25, .iadd, 1), (26, .istore_n 3, 1), (27, .iinc 4 1, 3), (30, .goto (-25), 3), (33, .iload_n 3, 1), (34, .ifCond .ge 7, 3), (37, .iconst 1, 1), (38, .goto 4, 3), (41, .iconst 0, 1), (42, .ireturn, 1)]
theorem tbX8_beamGoesUp_ok : pTabOk cX8_beamGoesUp tbX8_beamGoesUp = true := by decide +kernel
def tbX8_beamLift : pTab := [(0, .aload_n 0, 1), (1, .iload_n 1, 1), (2, .iload_n 2, 1), (3, .invokevirtual 228, 3), (6, .istore_n 3, 1), (7, .aload_n 0, 1), (8, .iload_n 1, 1), (9, .iload_n 2, 1), (10, .invokevirtual 225, 3), (13, .fstore 4, 2), (15, .iload_n 3, 1), (16, .ifCond .eq 8, 3), (19, .fload 4, 2), (21, .goto 7, 3), (24, .fconst 0, 1), (25, .fload 4, 2), (27, .fsub, 1), (28, .fstore 5, 2), (30, .fconst 0, 1), (31, .fstore 6, 2), (33, .iload_n 1, 1), (34, .istore 7, 2), (36, .iload 7, 2), (38, .iload_n 2, 1), (39, .if_icmp .gt 91, 3), (42, .aload_n 0, 1), (43, .getfield 10, 3), (46, .getfield 90, 3), (49, .iload 7, 2), (51, .iconst 2, 1), (52, .invokevirtual 105, 3), (55, .i2f, 1), (56, .fstore 8, 2), (58, .iload_n 3, 1), (59, .ifCond .eq 8, 3), (62, .fload 8, 2), (64, .goto 7, 3), (67, .fconst 0, 1), (68, .fload 8, 2), (70, .fsub, 1), (71, .fstore 9, 2), (73, .fload 9, 2), (75, .fload 5, 2), (77, .aload_n 0, 1), (78, .getfield 26, 3), (81, .iload 7, 2), (83, .invokevirtual 155, 3), (86, .aload_n 0, 1), (87, .getfield 26, 3), (90, .iload_n 2, 1), (91, .invokevirtual 155, 3), (94, .fsub, 1), (95, .fmul, 1), (96, .fconst 2, 1), (97, .fmul, 1), (98, .fsub, 1), (99, .fstore 10, 2), (101, .iload 7, 2), (103, .iload_n 1, 1), (104, .if_icmp .eq 11, 3), (107, .fload 10, 2), (109, .fload 6, 2), (111, .fcmp .l, 1), (112, .ifCond .le 8, 3), (115, .fload 10, 2), (117, .goto 5, 3), (120, .fload 6, 2), (122, .fstore 6, 2), (124, .iinc 7 1, 3), (127, .goto (-91), 3), (130, .fload 6, 2), (132, .ldc_w 347, 3), (135, .fadd, 1), (136, .freturn, 1)]
theorem tbX8_beamLift_ok : pTabOk cX8_beamLift tbX8_beamLift = true := by decide +kernel
def tbX8_slurHeight : pTab := [(0, .aload_n 0, 1), (1, .iload_n 1, 1), (2, .iload_n 3, 1), (3, .invokevirtual 348, 3), (6, .aload_n 0, 1), (7, .iload_n 2, 1), (8, .iload_n 3, 1), (9, .invokevirtual 348, 3), (12, .invokestatic 339, 3), (15, .istore 4, 2), (17, .iload_n 2, 1), (18, .iload_n 1, 1), (19, .isub, 1), (20, .iconst 1, 1), (21, .isub, 1), (22, .istore 5, 2), (24, .iconst 0, 1), (25, .istore 6, 2), (27, .iconst 1, 1), (28, .istore 7, 2), (30, .iload 7, 2), (32, .iload 5, 2), (34, .if_icmp .gt 54, 3), (37, .iconst 2, 1), (38, .iload 7, 2), (40, .iload 5, 2), (42, .iconst 1, 1), (43, .iadd, 1), (44, .iload 7, 2), (46, .isub, 1), (47, .invokestatic 352, 3), (50, .imul, 1), (51, .bipush 6, 2), (53, .invokestatic 352, 3), (56, .istore 8, 2), (58, .iload 6, 2), (60, .aload_n 0, 1), (61, .iload_n 1, 1), (62, .iload 7, 2), (64, .iadd, 1), (65, .iload_n 3, 1), (66, .invokevirtual 348, 3), (69, .iconst 1, 1), (70, .iadd, 1), (71, .iload 4, 2), (73, .isub, 1), (74, .iload 8, 2), (76, .isub, 1), (77, .invokestatic 339, 3), (80, .istore 6, 2), (82, .iinc 7 1, 3), (85, .goto (-55), 3), (88, .iload 6, 2), (90, .ireturn, 1)]
theorem tbX8_slurHeight_ok : pTabOk cX8_slurHeight tbX8_slurHeight = true := by decide +kernel
def tbX8_inkTowards : pTab := [(0, .iload_n 2, 1), (1, .ifCond .eq 17, 3), (4, .aload_n 0, 1), (5, .getfield 10, 3), (8, .getfield 90, 3), (11, .iload_n 1, 1), (12, .invokevirtual 113, 3), (15, .goto 16, 3), (18, .iconst 0, 1), (19, .aload_n 0, 1), (20, .getfield 10, 3), (23, .getfield 90, 3), (26, .iload_n 1, 1), (27, .invokevirtual 116, 3), (30, .isub, 1), (31, .ireturn, 1)]
theorem tbX8_inkTowards_ok : pTabOk cX8_inkTowards tbX8_inkTowards = true := by decide +kernel
def tbX8_countNotes : pTab := [(0, .iconst 0, 1), (1, .istore_n 1, 1), (2, .iconst 0, 1), (3, .istore_n 2, 1), (4, .iload_n 2, 1), (5, .aload_n 0, 1), (6, .getfield 10, 3), (9, .getfield 86, 3), (12, .if_icmp .ge 27, 3), (15, .aload_n 0, 1), (16, .getfield 10, 3), (19, .getfield 90, 3), (22, .iload_n 2, 1), (23, .iconst 0, 1), (24, .invokevirtual 105, 3), (27, .ifCond .ne 6, 3), (30, .iinc 1 1, 3), (33, .iinc 2 1, 3), (36, .goto (-32), 3), (39, .iload_n 1, 1), (40, .ireturn, 1)]
theorem tbX8_countNotes_ok : pTabOk cX8_countNotes tbX8_countNotes = true := by decide +kernel
def tbX8_sumDurations : pTab := [(0, .iconst 0, 1), (1, .istore_n 1, 1), (2, .iconst 0, 1), (3, .istore_n 2, 1), (4, .iload_n 2, 1), (5, .aload_n 0, 1), (6, .getfield 10, 3), (9, .getfield 86, 3), (12, .if_icmp .ge 40, 3), (15, .aload_n 0, 1), (16, .getfield 10, 3), (19, .getfield 90, 3), (22, .iload_n 2, 1), (23, .iconst 0, 1), (24, .invokevirtual 105, 3), (27, .iconst 2, 1), (28, .if_icmp .eq 18, 3), (31, .iload_n 1, 1), (32, .aload_n 0, 1), (33, .getfield 10, 3), (36, .getfield 90, 3), (39, .iload_n 2, 1), (40, .iconst 1, 1), (41, .invokevirtual 105, 3), (44, .iadd, 1), (45, .istore_n 1, 1), (46, .iinc 2 1, 3), (49, .goto (-45), 3), (52, .iload_n 1, 1), (53, .ireturn, 1)]
theorem tbX8_sumDurations_ok : pTabOk cX8_sumDurations tbX8_sumDurations = true := by decide +kernel
def tbX8_isHeight : pTab := [(0, .iload_n 0, 1), (1, .iconst 0, 1), (2, .bipush 40, 2), (4, .invokestatic 101, 3), (7, .ireturn, 1)]
theorem tbX8_isHeight_ok : pTabOk cX8_isHeight tbX8_isHeight = true := by decide +kernel
def tbX8_isWithin : pTab := [(0, .iload_n 0, 1), (1, .iload_n 1, 1), (2, .if_icmp .lt 12, 3), (5, .iload_n 0, 1), (6, .iload_n 2, 1), (7, .if_icmp .gt 7, 3), (10, .iconst 1, 1), (11, .goto 4, 3), (14, .iconst 0, 1), (15, .ireturn, 1)]
theorem tbX8_isWithin_ok : pTabOk cX8_isWithin tbX8_isWithin = true := by decide +kernel
def tbX8_isAllowed : pTab := [(0, .iload_n 1, 1), (1, .getstatic 355, 3), (4, .iload_n 0, 1), (5, .invokestatic 324, 3), (8, .getstatic 358, 3), (11, .iload_n 0, 1), (12, .invokestatic 324, 3), (15, .invokestatic 101, 3), (18, .ireturn, 1)]
theorem tbX8_isAllowed_ok : pTabOk cX8_isAllowed tbX8_isAllowed = true := by decide +kernel
def tbX8_floatBits : pTab := [(0, .iconst 0, 1), (1, .fload_n 0, 1), (2, .f2d, 1), (3, .invokestatic 361, 3), (6, .l2i, 1), (7, .ireturn, 1)]
theorem tbX8_floatBits_ok : pTabOk cX8_floatBits tbX8_floatBits = true := by decide +kernel
def tbX8_readInt : pTab := [(0, .aload_n 0, 1), (1, .ifnull 19, 3), (4, .iload_n 1, 1), (5, .ifCond .lt 15, 3), (8, .iload_n 1, 1), (9, .aload_n 0, 1), (10, .arraylength, 1), (11, .if_icmp .ge 9, 3), (14, .aload_n 0, 1), (15, .iload_n 1, 1), (16, .iaload, 1), (17, .goto 4, 3), (20, .iconst 0, 1), (21, .ireturn, 1)]
theorem tbX8_readInt_ok : pTabOk cX8_readInt tbX8_readInt = true := by decide +kernel
def tbX8_writeInt : pTab := [(0, .aload_n 0, 1), (1, .ifnull 17, 3), (4, .iload_n 1, 1), (5, .ifCond .lt 13, 3), (8, .iload_n 1, 1), (9, .aload_n 0, 1), (10, .arraylength, 1), (11, .if_icmp .ge 7, 3), (14, .aload_n 0, 1), (15, .iload_n 1, 1), (16, .iload_n 2, 1), (17, .iastore, 1), (18, .return_, 1)]
theorem tbX8_writeInt_ok : pTabOk cX8_writeInt tbX8_writeInt = true := by decide +kernel
def tbX8_readFloat : pTab := [(0, .aload_n 0, 1), (1, .ifnull 19, 3), (4, .iload_n 1, 1), (5, .ifCond .lt 15, 3), (8, .iload_n 1, 1), (9, .aload_n 0, 1), (10, .arraylength, 1), (11, .if_icmp .ge 9, 3), (14, .aload_n 0, 1), (15, .iload_n 1, 1), (16, .faload, 1), (17, .goto 4, 3), (20, .fconst 0, 1), (21, .freturn, 1)]
theorem tbX8_readFloat_ok : pTabOk cX8_readFloat tbX8_readFloat = true := by decide +kernel
def tbX8_writeFloat : pTab := [(0, .aload_n 0, 1), (1, .ifnull 17, 3), (4, .iload_n 1, 1), (5, .ifCond .lt 13, 3), (8, .iload_n 1, 1), (9, .aload_n 0, 1), (10, .arraylength, 1), (11, .if_icmp .ge 7, 3), (14, .aload_n 0, 1), (15, .iload_n 1, 1), (16, .fload_n 2, 1), (17, .fastore, 1), (18, .return_, 1)]
theorem tbX8_writeFloat_ok : pTabOk cX8_writeFloat tbX8_writeFloat = true := by decide +kernel
def tbX8_readLong : pTab := [(0, .aload_n 0, 1), (1, .ifnull 19, 3), (4, .iload_n 1, 1), (5, .ifCond .lt 15, 3), (8, .iload_n 1, 1), (9, .aload_n 0, 1), (10, .arraylength, 1), (11, .if_icmp .ge 9, 3), (14, .aload_n 0, 1), (15, .iload_n 1, 1), (16, .laload, 1), (17, .goto 4, 3), (20, .lconst 0, 1), (21, .lreturn, 1)]
theorem tbX8_readLong_ok : pTabOk cX8_readLong tbX8_readLong = true := by decide +kernel
end
section
def tbX8_writeLong : pTab := [(0, .aload_n 0, 1), (1, .ifnull 17, 3), (4, .iload_n 1, 1), (5, .ifCond .lt 13, 3), (8, .iload_n 1, 1), (9, .aload_n 0, 1), (10, .arraylength, 1), (11, .if_icmp .ge 7, 3), (14, .aload_n 0, 1), (15, .iload_n 1, 1), (16, .lload_n 2, 1), (17, .lastore, 1), (18, .return_, 1)]
theorem tbX8_writeLong_ok : pTabOk cX8_writeLong tbX8_writeLong = true := by decide +kernel
def tbX8_readFlag : pTab := [(0, .aload_n 0, 1), (1, .ifnull 23, 3), (4, .iload_n 1, 1), (5, .ifCond .lt 19, 3), (8, .iload_n 1, 1), (9, .aload_n 0, 1), (10, .arraylength, 1), (11, .if_icmp .ge 13, 3), (14, .aload_n 0, 1), (15, .iload_n 1, 1), (16, .baload, 1), (17, .ifCond .eq 7, 3), (20, .iconst 1, 1), (21, .goto 4, 3), (24, .iconst 0, 1), (25, .ireturn, 1)]
theorem tbX8_readFlag_ok : pTabOk cX8_readFlag tbX8_readFlag = true := by decide +kernel
def tbX8_writeFlag : pTab := [(0, .aload_n 0, 1), (1, .ifnull 17, 3), (4, .iload_n 1, 1), (5, .ifCond .lt 13, 3), (8, .iload_n 1, 1), (9, .aload_n 0, 1), (10, .arraylength, 1), (11, .if_icmp .ge 7, 3), (14, .aload_n 0, 1), (15, .iload_n 1, 1), (16, .iload_n 2, 1), (17, .bastore, 1), (18, .return_, 1)]
theorem tbX8_writeFlag_ok : pTabOk cX8_writeFlag tbX8_writeFlag = true := by decide +kernel
def tbX8_copy : pTab := [(0, .aload_n 0, 1), (1, .ifnull 7, 3), (4, .aload_n 1, 1), (5, .ifnonnull 4, 3), (8, .return_, 1), (9, .iconst 0, 1), (10, .istore_n 2, 1), (11, .iload_n 2, 1), (12, .aload_n 0, 1), (13, .arraylength, 1), (14, .if_icmp .ge 21, 3), (17, .iload_n 2, 1), (18, .aload_n 1, 1), (19, .arraylength, 1), (20, .if_icmp .ge 15, 3), (23, .aload_n 1, 1), (24, .iload_n 2, 1), (25, .aload_n 0, 1), (26, .iload_n 2, 1), (27, .iaload, 1), (28, .iastore, 1), (29, .iinc 2 1, 3), (32, .goto (-21), 3), (35, .return_, 1)]
theorem tbX8_copy_ok : pTabOk cX8_copy tbX8_copy = true := by decide +kernel
def tbX9_init : pTab := [(0, .aload_n 0, 1), (1, .invokespecial 3, 3), (4, .aload_n 0, 1), (5, .sipush 348, 3), (8, .newarray .int, 2), (10, .putfield 9, 3), (13, .aload_n 0, 1), (14, .sipush 348, 3), (17, .newarray .int, 2), (19, .putfield 13, 3), (22, .aload_n 0, 1), (23, .bipush 8, 2), (25, .newarray .int, 2), (27, .putfield 16, 3), (30, .aload_n 0, 1), (31, .bipush 32, 2), (33, .newarray .boolean, 2), (35, .putfield 19, 3), (38, .aload_n 0, 1), (39, .bipush 32, 2), (41, .newarray .float, 2), (43, .putfield 23, 3), (46, .aload_n 0, 1), (47, .bipush 32, 2), (49, .newarray .float, 2), (51, .putfield 27, 3), (54, .aload_n 0, 1), (55, .sipush 400, 3), (58, .newarray .int, 2), (60, .putfield 30, 3), (63, .aload_n 0, 1), (64, .sipush 400, 3), (67, .newarray .int, 2), (69, .putfield 33, 3), (72, .aload_n 0, 1), (73, .sipush 400, 3), (76, .newarray .int, 2), (78, .putfield 36, 3), (81, .aload_n 0, 1), (82, .bipush 33, 2), (84, .newarray .float, 2), (86, .putfield 39, 3), (89, .aload_n 0, 1), (90, .bipush 33, 2), (92, .newarray .int, 2), (94, .putfield 42, 3), (97, .aload_n 0, 1), (98, .bipush 33, 2), (100, .newarray .int, 2), (102, .putfield 45, 3), (105, .aload_n 0, 1), (106, .bipush 33, 2), (108, .newarray .int, 2), (110, .putfield 48, 3), (113, .aload_n 0, 1), (114, .bipush 33, 2), (116, .newarray .int, 2), (118, .putfield 51, 3), (121, .aload_n 0, 1), (122, .bipush 33, 2), (124, .newarray .int, 2), (126, .putfield 54, 3), (129, .aload_n 0, 1), (130, .bipush 32, 2), (132, .newarray .float, 2), (134, .putfield 57, 3), (137, .aload_n 0, 1), (138, .sipush 160, 3), (141, .newarray .int, 2), (143, .putfield 60, 3), (146, .aload_n 0, 1), (147, .sipush 800, 3), (150, .newarray .int, 2), (152, .putfield 63, 3), (155, .aload_n 0, 1), (156, .iconst 4, 1), (157, .newarray .int, 2), (159, .dup, 1), (160, .iconst 0, 1), (161, .iconst (-1), 1), (162, .iastore, 1), (163, .dup, 1), (164, .iconst 1, 1), (165, .iconst (-1), 1), (166, .iastore, 1), (167, .dup, 1), (168, .iconst 2, 1), (169, .iconst (-1), 1), (170, .iastore, 1), (171, .dup, 1), (172, .iconst 3, 1), (173, .iconst (-1), 1), (174, .iastore, 1), (175, .putfield 66, 3), (178, .aload_n 0, 1), (179, .iconst 4, 1), (180, .newarray .int, 2), (182, .putfield 69, 3), (185, .aload_n 0, 1), (186, .sipush 160, 3), (189, .newarray .float, 2), (191, .putfield 72, 3), (194, .aload_n 0, 1), (195, .sipush 160, 3), (198, .newarray .double, 2), (200, .putfield 75, 3), (203, .aload_n 0, 1), (204, .sipush 160, 3), (207, .newarray .int, 2), (209, .putfield 79, 3), (212, .aload_n 0, 1), (213, .getfield 9, 3), (216, .iconst 1, 1), (217, .bipush 120, 2), (219, .iastore, 1), (220, .iconst 0, 1), (221, .istore_n 1, 1), (222, .iload_n 1, 1), (223, .iconst 3, 1), (224, .if_icmp .ge 23, 3), (227, .aload_n 0, 1), (228, .getfield 9, 3), (231, .sipush 162, 3), (234, .bipush 62, 2), (236, .iload_n 1, 1), (237, .imul, 1), (238, .iadd, 1), (239, .iconst (-1), 1), (240, .iastore, 1), (241, .iinc 1 1, 3), (244, .goto (-22), 3), (247, .return_, 1)]
theorem tbX9_init_ok : pTabOk cX9_init tbX9_init = true := by decide +kernel
def tbX9_in : pTab := [(0, .lload_n 0, 1), (1, .lload_n 2, 1), (2, .lcmp, 1), (3, .ifCond .lt 14, 3), (6, .lload_n 0, 1), (7, .lload 4, 2), (9, .lcmp, 1), (10, .ifCond .gt 7, 3), (13, .iconst 1, 1), (14, .goto 4, 3), (17, .iconst 0, 1), (18, .ireturn, 1)]
theorem tbX9_in_ok : pTabOk cX9_in tbX9_in = true := by decide +kernel
def tbX9_errs : pTab := [(0, .aload_n 0, 1), (1, .getfield 16, 3), (4, .ldc 82, 2), (6, .iload_n 1, 1), (7, .isub, 1), (8, .dup2, 1), (9, .iaload, 1), (10, .iconst 1, 1), (11, .iadd, 1), (12, .iastore, 1), (13, .iload_n 1, 1), (14, .ireturn, 1)]
theorem tbX9_errs_ok : pTabOk cX9_errs tbX9_errs = true := by decide +kernel
def tbX9_errsLong : pTab := [(0, .aload_n 0, 1), (1, .getfield 16, 3), (4, .ldc 82, 2), (6, .iload_n 1, 1), (7, .isub, 1), (8, .dup2, 1), (9, .iaload, 1), (10, .iconst 1, 1), (11, .iadd, 1), (12, .iastore, 1), (13, .ldc2_w 83, 3), (16, .iload_n 1, 1), (17, .ldc 82, 2), (19, .isub, 1), (20, .i2l, 1), (21, .ladd, 1), (22, .lreturn, 1)]
theorem tbX9_errsLong_ok : pTabOk cX9_errsLong tbX9_errsLong = true := by decide +kernel
def tbX9_copy : pTab := [(0, .iconst 0, 1), (1, .istore_n 2, 1), (2, .iload_n 2, 1), (3, .sipush 348, 3), (6, .if_icmp .ge 15, 3), (9, .aload_n 1, 1), (10, .iload_n 2, 1), (11, .aload_n 0, 1), (12, .iload_n 2, 1), (13, .iaload, 1), (14, .iastore, 1), (15, .iinc 2 1, 3), (18, .goto (-16), 3), (21, .return_, 1)]
theorem tbX9_copy_ok : pTabOk cX9_copy tbX9_copy = true := by decide +kernel
def tbX9_its : pTab := [(0, .aload_n 0, 1), (1, .getfield 9, 3), (4, .iconst 2, 1), (5, .iconst 5, 1), (6, .iload_n 1, 1), (7, .imul, 1), (8, .iadd, 1), (9, .iload_n 2, 1), (10, .iadd, 1), (11, .iaload, 1), (12, .ireturn, 1)]
theorem tbX9_its_ok : pTabOk cX9_its tbX9_its = true := by decide +kernel
def tbX9_sets : pTab := [(0, .aload_n 0, 1), (1, .getfield 9, 3), (4, .iconst 2, 1), (5, .iconst 5, 1), (6, .iload_n 1, 1), (7, .imul, 1), (8, .iadd, 1), (9, .iload_n 2, 1), (10, .iadd, 1), (11, .iload_n 3, 1), (12, .iastore, 1), (13, .return_, 1)]
theorem tbX9_sets_ok : pTabOk cX9_sets tbX9_sets = true := by decide +kernel
def tbX9_isColumn : pTab := [(0, .iload_n 1, 1), (1, .i2l, 1), (2, .lconst 0, 1), (3, .aload_n 0, 1), (4, .getfield 9, 3), (7, .iconst 0, 1), (8, .iaload, 1), (9, .iconst 1, 1), (10, .isub, 1), (11, .i2l, 1), (12, .invokestatic 85, 3), (15, .ireturn, 1)]
theorem tbX9_isColumn_ok : pTabOk cX9_isColumn tbX9_isColumn = true := by decide +kernel
def tbX9_mayBe : pTab := [(0, .iload_n 0, 1), (1, .tableswitch 87 0 4 #[35, 45, 55, 67, 77], 35), (36, .iload_n 1, 1), (37, .i2l, 1), (38, .lconst 0, 1), (39, .ldc2_w 89, 3), (42, .invokestatic 85, 3), (45, .ireturn, 1), (46, .iload_n 1, 1), (47, .i2l, 1), (48, .lconst 1, 1), (49, .ldc2_w 91, 3), (52, .invokestatic 85, 3), (55, .ireturn, 1), (56, .iload_n 1, 1), (57, .i2l, 1), (58, .ldc2_w 93, 3), (61, .ldc2_w 95, 3), (64, .invokestatic 85, 3), (67, .ireturn, 1), (68, .iload_n 1, 1), (69, .i2l, 1), (70, .lconst 1, 1), (71, .ldc2_w 97, 3), (74, .invokestatic 85, 3), (77, .ireturn, 1), (78, .iload_n 1, 1), (79, .i2l, 1), (80, .lconst 0, 1), (81, .ldc2_w 99, 3), (84, .invokestatic 85, 3), (87, .ireturn, 1), (88, .iconst 0, 1), (89, .ireturn, 1)]
theorem tbX9_mayBe_ok : pTabOk cX9_mayBe tbX9_mayBe = true := by decide +kernel
def tbX9_comes : pTab := [(0, .aload_n 0, 1), (1, .getfield 9, 3), (4, .iconst 0, 1), (5, .iaload, 1), (6, .istore 6, 2), (8, .aload_n 0, 1), (9, .getfield 9, 3), (12, .iconst 0, 1), (13, .dup2, 1), (14, .iaload, 1), (15, .iconst 1, 1), (16, .iadd, 1), (17, .iastore, 1), (18, .aload_n 0, 1), (19, .iload 6, 2), (21, .iconst 0, 1), (22, .iload_n 1, 1), (23, .invokevirtual 101, 3), (26, .aload_n 0, 1), (27, .iload 6, 2), (29, .iconst 1, 1), (30, .iload_n 2, 1), (31, .invokevirtual 101, 3), (34, .aload_n 0, 1), (35, .iload 6, 2), (37, .iconst 2, 1), (38, .iload_n 3, 1), (39, .invokevirtual 101, 3), (42, .aload_n 0, 1), (43, .iload 6, 2), (45, .iconst 3, 1), (46, .iload 4, 2), (48, .invokevirtual 101, 3), (51, .aload_n 0, 1), (52, .iload 6, 2), (54, .iconst 4, 1), (55, .iload 5, 2), (57, .invokevirtual 101, 3), (60, .iload 6, 2), (62, .ireturn, 1)]
theorem tbX9_comes_ok : pTabOk cX9_comes tbX9_comes = true := by decide +kernel
def tbX9_add : pTab := [(0, .iconst 0, 1), (1, .iload_n 1, 1), (2, .invokestatic 105, 3), (5, .ifCond .eq 11, 3), (8, .iconst 1, 1), (9, .iload_n 2, 1), (10, .invokestatic 105, 3), (13, .ifCond .ne 10, 3), (16, .aload_n 0, 1), (17, .ldc 109, 2), (19, .invokevirtual 110, 3), (22, .ireturn, 1), (23, .aload_n 0, 1), (24, .getfield 9, 3), (27, .iconst 0, 1), (28, .iaload, 1), (29, .bipush 32, 2), (31, .if_icmp .ne 12, 3), (34, .aload_n 0, 1), (35, .ldc 114, 2), (37, .invokevirtual 110, 3), (40, .goto 12, 3), (43, .aload_n 0, 1), (44, .iload_n 1, 1), (45, .iload_n 2, 1), (46, .iconst 0, 1), (47, .iconst 2, 1), (48, .iconst 0, 1), (49, .invokevirtual 115, 3), (52, .ireturn, 1)]
theorem tbX9_add_ok : pTabOk cX9_add tbX9_add = true := by decide +kernel
def tbX9_drop : pTab := [(0, .aload_n 0, 1), (1, .getfield 9, 3), (4, .iconst 0, 1), (5, .iaload, 1), (6, .ifCond .ne 10, 3), (9, .aload_n 0, 1), (10, .ldc 119, 2), (12, .invokevirtual 110, 3), (15, .ireturn, 1), (16, .aload_n 0, 1), (17, .getfield 9, 3), (20, .iconst 0, 1), (21, .dup2, 1), (22, .iaload, 1), (23, .iconst 1, 1), (24, .isub, 1), (25, .iastore, 1), (26, .aload_n 0, 1), (27, .getfield 9, 3), (30, .iconst 0, 1), (31, .iaload, 1), (32, .ireturn, 1)]
theorem tbX9_drop_ok : pTabOk cX9_drop tbX9_drop = true := by decide +kernel
def tbX9_set : pTab := [(0, .aload_n 0, 1), (1, .iload_n 1, 1), (2, .invokevirtual 120, 3), (5, .ifCond .eq 11, 3), (8, .iload_n 2, 1), (9, .iload_n 3, 1), (10, .invokestatic 105, 3), (13, .ifCond .ne 10, 3), (16, .aload_n 0, 1), (17, .ldc 109, 2), (19, .invokevirtual 110, 3), (22, .ireturn, 1), (23, .aload_n 0, 1), (24, .iload_n 1, 1), (25, .iload_n 2, 1), (26, .invokevirtual 124, 3), (29, .istore 4, 2), (31, .aload_n 0, 1), (32, .iload_n 1, 1), (33, .iload_n 2, 1), (34, .iload_n 3, 1), (35, .invokevirtual 101, 3), (38, .iload 4, 2), (40, .ireturn, 1)]
theorem tbX9_set_ok : pTabOk cX9_set tbX9_set = true := by decide +kernel
def tbX9_topOf : pTab := [(0, .iload_n 0, 1), (1, .iconst 2, 1), (2, .if_icmp .ne 7, 3), (5, .iconst 4, 1), (6, .goto 26, 3), (9, .iload_n 0, 1), (10, .iconst 1, 1), (11, .if_icmp .ne 7, 3), (14, .iconst 3, 1), (15, .goto 17, 3), (18, .iload_n 1, 1), (19, .ifCond .ge 10, 3), (22, .iload_n 1, 1), (23, .bipush 7, 2), (25, .iadd, 1), (26, .goto 6, 3), (29, .iload_n 1, 1), (30, .iconst 1, 1), (31, .iadd, 1), (32, .iload_n 2, 1), (33, .iadd, 1), (34, .ireturn, 1)]
theorem tbX9_topOf_ok : pTabOk cX9_topOf tbX9_topOf = true := by decide +kernel
def tbX9_top : pTab := [(0, .aload_n 0, 1), (1, .iload_n 1, 1), (2, .iconst 0, 1), (3, .invokevirtual 124, 3), (6, .aload_n 0, 1), (7, .iload_n 1, 1), (8, .iconst 2, 1), (9, .invokevirtual 124, 3), (12, .aload_n 0, 1), (13, .iload_n 1, 1), (14, .iconst 4, 1), (15, .invokevirtual 124, 3), (18, .invokestatic 128, 3), (21, .ireturn, 1)]
theorem tbX9_top_ok : pTabOk cX9_top tbX9_top = true := by decide +kernel
def tbX9_bottom : pTab := [(0, .aload_n 0, 1), (1, .iload_n 1, 1), (2, .iconst 2, 1), (3, .invokevirtual 124, 3), (6, .istore_n 2, 1), (7, .aload_n 0, 1), (8, .iload_n 1, 1), (9, .iconst 0, 1), (10, .invokevirtual 124, 3), (13, .iconst 2, 1), (14, .if_icmp .ne 8, 3), (17, .bipush (-4), 2), (19, .goto 32, 3), (22, .aload_n 0, 1), (23, .iload_n 1, 1), (24, .iconst 0, 1), (25, .invokevirtual 124, 3), (28, .iconst 1, 1), (29, .if_icmp .ne 8, 3), (32, .bipush (-3), 2), (34, .goto 17, 3), (37, .iload_n 2, 1), (38, .ifCond .ge 9, 3), (41, .iload_n 2, 1), (42, .iconst 1, 1), (43, .isub, 1), (44, .goto 7, 3), (47, .iload_n 2, 1), (48, .bipush 7, 2), (50, .isub, 1), (51, .ireturn, 1)]
theorem tbX9_bottom_ok : pTabOk cX9_bottom tbX9_bottom = true := by decide +kernel
def tbX9_of : pTab := [(0, .aload_n 0, 1), (1, .iload_n 1, 1), (2, .invokevirtual 120, 3), (5, .ifCond .eq 15, 3), (8, .iload_n 2, 1), (9, .i2l, 1), (10, .lconst 0, 1), (11, .ldc2_w 132, 3), (14, .invokestatic 85, 3), (17, .ifCond .ne 10, 3), (20, .aload_n 0, 1), (21, .ldc 109, 2), (23, .invokevirtual 110, 3), (26, .ireturn, 1), (27, .iload_n 2, 1), (28, .iconst 5, 1), (29, .if_icmp .ge 12, 3), (32, .aload_n 0, 1), (33, .iload_n 1, 1), (34, .iload_n 2, 1), (35, .invokevirtual 124, 3), (38, .goto 21, 3), (41, .iload_n 2, 1), (42, .iconst 5, 1), (43, .if_icmp .ne 11, 3), (46, .aload_n 0, 1), (47, .iload_n 1, 1), (48, .invokevirtual 134, 3), (51, .goto 8, 3), (54, .aload_n 0, 1), (55, .iload_n 1, 1), (56, .invokevirtual 137, 3), (59, .ireturn, 1)]
theorem tbX9_of_ok : pTabOk cX9_of tbX9_of = true := by decide +kernel
def tbX9_ideal : pTab := [(0, .aload_n 0, 1), (1, .iload_n 1, 1), (2, .iconst 0, 1), (3, .invokevirtual 124, 3), (6, .iconst 2, 1), (7, .if_icmp .ne 6, 3), (10, .ldc 140, 2), (12, .freturn, 1), (13, .iconst 0, 1), (14, .istore_n 2, 1), (15, .iconst 1, 1), (16, .istore_n 3, 1), (17, .iconst 2, 1), (18, .iload_n 3, 1), (19, .imul, 1), (20, .aload_n 0, 1), (21, .iload_n 1, 1), (22, .iconst 1, 1), (23, .invokevirtual 124, 3), (26, .if_icmp .gt 13, 3), (29, .iload_n 3, 1), (30, .iconst 2, 1), (31, .imul, 1), (32, .istore_n 3, 1), (33, .iinc 2 1, 3), (36, .goto (-19), 3), (39, .aload_n 0, 1), (40, .iload_n 1, 1), (41, .iconst 1, 1), (42, .invokevirtual 124, 3), (45, .i2f, 1), (46, .iload_n 3, 1), (47, .i2f, 1), (48, .fdiv, 1), (49, .fstore 4, 2), (51, .fload 4, 2), (53, .fconst 1, 1), (54, .fsub, 1), (55, .fstore 4, 2), (57, .iload_n 2, 1), (58, .i2f, 1), (59, .fload 4, 2), (61, .fadd, 1), (62, .fstore 5, 2), (64, .fload 5, 2), (66, .fconst 2, 1), (67, .fdiv, 1), (68, .fstore 5, 2), (70, .fconst 1, 1), (71, .fload 5, 2), (73, .fadd, 1), (74, .fstore 5, 2), (76, .ldc 141, 2), (78, .fload 5, 2), (80, .fmul, 1), (81, .freturn, 1)]
theorem tbX9_ideal_ok : pTabOk cX9_ideal tbX9_ideal = true := by decide +kernel
def tbX9_flex : pTab := [(0, .aload_n 0, 1), (1, .iload_n 1, 1), (2, .iconst 0, 1), (3, .invokevirtual 124, 3), (6, .iconst 2, 1), (7, .if_icmp .ne 8, 3), (10, .ldc 142, 2), (12, .goto 10, 3), (15, .aload_n 0, 1), (16, .iload_n 1, 1), (17, .invokevirtual 143, 3), (20, .fconst 2, 1), (21, .fdiv, 1), (22, .freturn, 1)]
theorem tbX9_flex_ok : pTabOk cX9_flex tbX9_flex = true := by decide +kernel
def tbX9_rod : pTab := [(0, .aload_n 0, 1), (1, .iload_n 1, 1), (2, .iconst 3, 1), (3, .invokevirtual 124, 3), (6, .i2f, 1), (7, .fconst 1, 1), (8, .fadd, 1), (9, .freturn, 1)]
theorem tbX9_rod_ok : pTabOk cX9_rod tbX9_rod = true := by decide +kernel
def tbX9_spring : pTab := [(0, .aload_n 0, 1), (1, .iload_n 1, 1), (2, .invokevirtual 120, 3), (5, .ifCond .eq 15, 3), (8, .iload_n 2, 1), (9, .i2l, 1), (10, .lconst 0, 1), (11, .ldc2_w 89, 3), (14, .invokestatic 85, 3), (17, .ifCond .ne 10, 3), (20, .aload_n 0, 1), (21, .ldc 109, 2), (23, .invokevirtual 110, 3), (26, .ireturn, 1), (27, .iload_n 2, 1), (28, .ifCond .ne 11, 3), (31, .aload_n 0, 1), (32, .iload_n 1, 1), (33, .invokevirtual 143, 3), (36, .goto 21, 3), (39, .iload_n 2, 1), (40, .iconst 1, 1), (41, .if_icmp .ne 11, 3), (44, .aload_n 0, 1), (45, .iload_n 1, 1), (46, .invokevirtual 147, 3), (49, .goto 8, 3), (52, .aload_n 0, 1), (53, .iload_n 1, 1), (54, .invokevirtual 150, 3), (57, .invokestatic 153, 3), (60, .ireturn, 1)]
theorem tbX9_spring_ok : pTabOk cX9_spring tbX9_spring = true := by decide +kernel
def tbX9_width : pTab := [(0, .iload_n 1, 1), (1, .i2l, 1), (2, .ldc2_w 95, 3), (5, .ldc2_w 159, 3), (8, .invokestatic 85, 3), (11, .ifCond .ne 10, 3), (14, .aload_n 0, 1), (15, .ldc 109, 2), (17, .invokevirtual 110, 3), (20, .ireturn, 1), (21, .aload_n 0, 1), (22, .getfield 9, 3), (25, .iconst 1, 1), (26, .iaload, 1), (27, .istore_n 2, 1), (28, .aload_n 0, 1), (29, .getfield 9, 3), (32, .iconst 1, 1), (33, .iload_n 1, 1), (34, .iastore, 1), (35, .iload_n 2, 1), (36, .ireturn, 1)]
theorem tbX9_width_ok : pTabOk cX9_width tbX9_width = true := by decide +kernel
def tbX9_wanted : pTab := [(0, .aload_n 0, 1), (1, .getfield 161, 3), (4, .aload_n 0, 1), (5, .iload_n 1, 1), (6, .invokevirtual 147, 3), (9, .fmul, 1), (10, .fstore_n 2, 1), (11, .aload_n 0, 1), (12, .iload_n 1, 1), (13, .invokevirtual 143, 3), (16, .fload_n 2, 1), (17, .fadd, 1), (18, .freturn, 1)]
theorem tbX9_wanted_ok : pTabOk cX9_wanted tbX9_wanted = true := by decide +kernel
def tbX9_forceOf : pTab := [(0, .aload_n 0, 1), (1, .fconst 0, 1), (2, .putfield 161, 3), (5, .aload_n 0, 1), (6, .getfield 165, 3), (9, .iload_n 2, 1), (10, .iload_n 1, 1), (11, .isub, 1), (12, .iconst 1, 1), (13, .iadd, 1), (14, .if_icmp .ne 4, 3), (17, .return_, 1), (18, .fconst 0, 1), (19, .fstore_n 3, 1), (20, .fconst 0, 1), (21, .fstore 4, 2), (23, .fconst 0, 1), (24, .fstore 5, 2), (26, .iload_n 1, 1), (27, .istore 6, 2), (29, .iload 6, 2), (31, .iload_n 2, 1), (32, .if_icmp .gt 53, 3), (35, .aload_n 0, 1), (36, .getfield 19, 3), (39, .iload 6, 2), (41, .baload, 1), (42, .ifCond .eq 15, 3), (45, .fload_n 3, 1), (46, .aload_n 0, 1), (47, .iload 6, 2), (49, .invokevirtual 150, 3), (52, .fadd, 1), (53, .fstore_n 3, 1), (54, .goto 25, 3), (57, .fload 4, 2), (59, .aload_n 0, 1), (60, .iload 6, 2), (62, .invokevirtual 143, 3), (65, .fadd, 1), (66, .fstore 4, 2), (68, .fload 5, 2), (70, .aload_n 0, 1), (71, .iload 6, 2), (73, .invokevirtual 147, 3), (76, .fadd, 1), (77, .fstore 5, 2), (79, .iinc 6 1, 3), (82, .goto (-53), 3), (85, .aload_n 0, 1), (86, .getfield 9, 3), (89, .iconst 1, 1), (90, .iaload, 1), (91, .i2f, 1), (92, .fload_n 3, 1), (93, .fsub, 1), (94, .fstore 6, 2), (96, .fload 6, 2), (98, .fload 4, 2), (100, .fsub, 1), (101, .fstore 6, 2), (103, .aload_n 0, 1), (104, .fload 6, 2), (106, .fload 5, 2), (108, .fdiv, 1), (109, .putfield 161, 3), (112, .return_, 1)]
theorem tbX9_forceOf_ok : pTabOk cX9_forceOf tbX9_forceOf = true := by decide +kernel
def tbX9_laysOut : pTab := [(0, .aload_n 0, 1), (1, .iconst 0, 1), (2, .putfield 165, 3), (5, .iload_n 1, 1), (6, .istore_n 3, 1), (7, .iload_n 3, 1), (8, .iload_n 2, 1), (9, .if_icmp .gt 16, 3), (12, .aload_n 0, 1), (13, .getfield 19, 3), (16, .iload_n 3, 1), (17, .iconst 0, 1), (18, .bastore, 1), (19, .iinc 3 1, 3), (22, .goto (-15), 3), (25, .iconst 1, 1), (26, .istore_n 3, 1), (27, .iload_n 3, 1), (28, .ifCond .eq 75, 3), (31, .aload_n 0, 1), (32, .iload_n 1, 1), (33, .iload_n 2, 1), (34, .invokevirtual 169, 3), (37, .iconst 0, 1), (38, .istore_n 3, 1), (39, .iload_n 1, 1), (40, .istore 4, 2), (42, .iload 4, 2), (44, .iload_n 2, 1), (45, .if_icmp .gt 55, 3), (48, .aload_n 0, 1), (49, .getfield 19, 3), (52, .iload 4, 2), (54, .baload, 1), (55, .ifCond .ne 39, 3), (58, .aload_n 0, 1), (59, .iload 4, 2), (61, .invokevirtual 173, 3), (64, .aload_n 0, 1), (65, .iload 4, 2), (67, .invokevirtual 150, 3), (70, .fcmp .g, 1), (71, .ifCond .ge 23, 3), (74, .aload_n 0, 1), (75, .getfield 19, 3), (78, .iload 4, 2), (80, .iconst 1, 1), (81, .bastore, 1), (82, .aload_n 0, 1), (83, .dup, 1), (84, .getfield 165, 3), (87, .iconst 1, 1), (88, .iadd, 1), (89, .putfield 165, 3), (92, .iconst 1, 1), (93, .istore_n 3, 1), (94, .iinc 4 1, 3), (97, .goto (-55), 3), (100, .goto (-73), 3), (103, .fconst 0, 1), (104, .fstore 4, 2), (106, .iload_n 1, 1), (107, .istore 5, 2), (109, .iload 5, 2), (111, .iload_n 2, 1), (112, .if_icmp .gt 62, 3), (115, .aload_n 0, 1), (116, .getfield 23, 3), (119, .iload 5, 2), (121, .aload_n 0, 1), (122, .getfield 19, 3), (125, .iload 5, 2), (127, .baload, 1), (128, .ifCond .eq 12, 3), (131, .aload_n 0, 1), (132, .iload 5, 2), (134, .invokevirtual 150, 3), (137, .goto 9, 3), (140, .aload_n 0, 1), (141, .iload 5, 2), (143, .invokevirtual 173, 3), (146, .fastore, 1), (147, .aload_n 0, 1), (148, .getfield 27, 3), (151, .iload 5, 2), (153, .fload 4, 2), (155, .fastore, 1), (156, .fload 4, 2), (158, .aload_n 0, 1), (159, .getfield 23, 3), (162, .iload 5, 2), (164, .faload, 1), (165, .fadd, 1), (166, .fstore 4, 2), (168, .iinc 5 1, 3), (171, .goto (-62), 3), (174, .return_, 1)]
theorem tbX9_laysOut_ok : pTabOk cX9_laysOut tbX9_laysOut = true := by decide +kernel
def tbX9_isStretch : pTab := [(0, .iload_n 1, 1), (1, .ifCond .lt 22, 3), (4, .iload_n 1, 1), (5, .iload_n 2, 1), (6, .if_icmp .gt 17, 3), (9, .iload_n 2, 1), (10, .aload_n 0, 1), (11, .getfield 9, 3), (14, .iconst 0, 1), (15, .iaload, 1), (16, .if_icmp .ge 7, 3), (19, .iconst 1, 1), (20, .goto 4, 3), (23, .iconst 0, 1), (24, .ireturn, 1)]
theorem tbX9_isStretch_ok : pTabOk cX9_isStretch tbX9_isStretch = true := by decide +kernel
def tbX9_force : pTab := [(0, .aload_n 0, 1), (1, .iload_n 1, 1), (2, .iload_n 2, 1), (3, .invokevirtual 176, 3), (6, .ifCond .ne 10, 3), (9, .aload_n 0, 1), (10, .ldc 109, 2), (12, .invokevirtual 110, 3), (15, .ireturn, 1), (16, .aload_n 0, 1), (17, .iload_n 1, 1), (18, .iload_n 2, 1), (19, .invokevirtual 179, 3), (22, .aload_n 0, 1), (23, .getfield 161, 3), (26, .invokestatic 153, 3), (29, .ireturn, 1)]
theorem tbX9_force_ok : pTabOk cX9_force tbX9_force = true := by decide +kernel
def tbX9_held : pTab := [(0, .aload_n 0, 1), (1, .iload_n 1, 1), (2, .iload_n 2, 1), (3, .invokevirtual 176, 3), (6, .ifCond .ne 10, 3), (9, .aload_n 0, 1), (10, .ldc 109, 2), (12, .invokevirtual 110, 3), (15, .ireturn, 1), (16, .aload_n 0, 1), (17, .iload_n 1, 1), (18, .iload_n 2, 1), (19, .invokevirtual 179, 3), (22, .aload_n 0, 1), (23, .getfield 165, 3), (26, .ireturn, 1)]
theorem tbX9_held_ok : pTabOk cX9_held tbX9_held = true := by decide +kernel
def tbX9_at : pTab := [(0, .aload_n 0, 1), (1, .iload_n 1, 1), (2, .iload_n 2, 1), (3, .invokevirtual 176, 3), (6, .ifCond .eq 28, 3), (9, .iload_n 3, 1), (10, .i2l, 1), (11, .iload_n 1, 1), (12, .i2l, 1), (13, .iload_n 2, 1), (14, .i2l, 1), (15, .invokestatic 85, 3), (18, .ifCond .eq 16, 3), (21, .iload 4, 2), (23, .i2l, 1), (24, .lconst 0, 1), (25, .ldc2_w 89, 3), (28, .invokestatic 85, 3), (31, .ifCond .ne 10, 3), (34, .aload_n 0, 1), (35, .ldc 109, 2), (37, .invokevirtual 110, 3), (40, .ireturn, 1), (41, .aload_n 0, 1), (42, .iload_n 1, 1), (43, .iload_n 2, 1), (44, .invokevirtual 179, 3), (47, .iload 4, 2), (49, .iconst 2, 1), (50, .if_icmp .ne 13, 3), (53, .aload_n 0, 1), (54, .getfield 27, 3), (57, .iload_n 3, 1), (58, .faload, 1), (59, .f2i, 1), (60, .goto 26, 3), (63, .iload 4, 2), (65, .ifCond .ne 12, 3), (68, .aload_n 0, 1), (69, .getfield 23, 3), (72, .iload_n 3, 1), (73, .faload, 1), (74, .goto 9, 3), (77, .aload_n 0, 1), (78, .getfield 27, 3), (81, .iload_n 3, 1), (82, .faload, 1), (83, .invokestatic 153, 3), (86, .ireturn, 1)]
theorem tbX9_at_ok : pTabOk cX9_at tbX9_at = true := by decide +kernel
def tbX9_isGood : pTab := [(0, .fconst 0, 1), (1, .fstore_n 3, 1), (2, .fconst 0, 1), (3, .fstore 4, 2), (5, .fconst 0, 1), (6, .fstore 5, 2), (8, .iload_n 1, 1), (9, .istore 6, 2), (11, .iload 6, 2), (13, .iload_n 2, 1), (14, .if_icmp .gt 40, 3), (17, .fload_n 3, 1), (18, .aload_n 0, 1), (19, .iload 6, 2), (21, .invokevirtual 150, 3), (24, .fadd, 1), (25, .fstore_n 3, 1), (26, .fload 4, 2), (28, .aload_n 0, 1), (29, .iload 6, 2), (31, .invokevirtual 143, 3), (34, .fadd, 1), (35, .fstore 4, 2), (37, .fload 5, 2), (39, .aload_n 0, 1), (40, .iload 6, 2), (42, .invokevirtual 147, 3), (45, .fadd, 1), (46, .fstore 5, 2), (48, .iinc 6 1, 3), (51, .goto (-40), 3), (54, .fload_n 3, 1), (55, .aload_n 0, 1), (56, .getfield 9, 3), (59, .iconst 1, 1), (60, .iaload, 1), (61, .i2f, 1), (62, .fcmp .l, 1), (63, .ifCond .le 5, 3), (66, .iconst 0, 1), (67, .ireturn, 1), (68, .aload_n 0, 1), (69, .getfield 9, 3), (72, .iconst 1, 1), (73, .iaload, 1), (74, .i2f, 1), (75, .fload 4, 2), (77, .fsub, 1), (78, .fstore 6, 2), (80, .fload 6, 2), (82, .fload 5, 2), (84, .fdiv, 1), (85, .fstore 6, 2), (87, .aload_n 0, 1), (88, .ldc 182, 2), (90, .fload 6, 2), (92, .fmul, 1), (93, .putfield 183, 3), (96, .aload_n 0, 1), (97, .aload_n 0, 1), (98, .getfield 183, 3), (101, .fload 6, 2), (103, .fmul, 1), (104, .putfield 183, 3), (107, .aload_n 0, 1), (108, .fload 6, 2), (110, .fconst 0, 1), (111, .fcmp .g, 1), (112, .ifCond .ge 12, 3), (115, .aload_n 0, 1), (116, .getfield 183, 3), (119, .fconst 2, 1), (120, .fmul, 1), (121, .goto 7, 3), (124, .aload_n 0, 1), (125, .getfield 183, 3), (128, .putfield 183, 3), (131, .iconst 1, 1), (132, .ireturn, 1)]
theorem tbX9_isGood_ok : pTabOk cX9_isGood tbX9_isGood = true := by decide +kernel
def tbX9_bad : pTab := [(0, .aload_n 0, 1), (1, .iload_n 1, 1), (2, .iload_n 2, 1), (3, .invokevirtual 176, 3), (6, .ifCond .ne 10, 3), (9, .aload_n 0, 1), (10, .ldc 109, 2), (12, .invokevirtual 110, 3), (15, .ireturn, 1), (16, .aload_n 0, 1), (17, .iload_n 1, 1), (18, .iload_n 2, 1), (19, .invokevirtual 186, 3), (22, .ifCond .eq 13, 3), (25, .aload_n 0, 1), (26, .getfield 183, 3), (29, .invokestatic 153, 3), (32, .goto 9, 3), (35, .aload_n 0, 1), (36, .ldc 119, 2), (38, .invokevirtual 110, 3), (41, .ireturn, 1)]
theorem tbX9_bad_ok : pTabOk cX9_bad tbX9_bad = true := by decide +kernel
def tbX9_inks : pTab := [(0, .aload_n 0, 1), (1, .iload_n 1, 1), (2, .iload_n 2, 1), (3, .invokevirtual 179, 3), (6, .iconst 0, 1), (7, .istore_n 3, 1), (8, .iload_n 3, 1), (9, .sipush 400, 3), (12, .if_icmp .ge 27, 3), (15, .aload_n 0, 1), (16, .getfield 30, 3), (19, .iload_n 3, 1), (20, .sipush (-1000), 3), (23, .iastore, 1), (24, .aload_n 0, 1), (25, .getfield 33, 3), (28, .iload_n 3, 1), (29, .sipush (-1000), 3), (32, .iastore, 1), (33, .iinc 3 1, 3), (36, .goto (-28), 3), (39, .iload_n 1, 1), (40, .istore_n 3, 1), (41, .iload_n 3, 1), (42, .iload_n 2, 1), (43, .if_icmp .gt 150, 3), (46, .aload_n 0, 1), (47, .getfield 27, 3), (50, .iload_n 3, 1), (51, .faload, 1), (52, .f2i, 1), (53, .istore 4, 2), (55, .iload 4, 2), (57, .istore 5, 2), (59, .iload 5, 2), (61, .iload 4, 2), (63, .aload_n 0, 1), (64, .iload_n 3, 1), (65, .iconst 3, 1), (66, .invokevirtual 124, 3), (69, .iadd, 1), (70, .if_icmp .ge 117, 3), (73, .iload 5, 2), (75, .sipush 400, 3), (78, .if_icmp .ge 109, 3), (81, .aload_n 0, 1), (82, .getfield 30, 3), (85, .iload 5, 2), (87, .aload_n 0, 1), (88, .getfield 30, 3), (91, .iload 5, 2), (93, .iaload, 1), (94, .sipush (-1000), 3), (97, .if_icmp .eq 18, 3), (100, .aload_n 0, 1), (101, .iload_n 3, 1), (102, .invokevirtual 134, 3), (105, .aload_n 0, 1), (106, .getfield 30, 3), (109, .iload 5, 2), (111, .iaload, 1), (112, .if_icmp .le 11, 3), (115, .aload_n 0, 1), (116, .iload_n 3, 1), (117, .invokevirtual 134, 3), (120, .goto 10, 3), (123, .aload_n 0, 1), (124, .getfield 30, 3), (127, .iload 5, 2), (129, .iaload, 1), (130, .iastore, 1), (131, .aload_n 0, 1), (132, .getfield 33, 3), (135, .iload 5, 2), (137, .aload_n 0, 1), (138, .getfield 33, 3), (141, .iload 5, 2), (143, .iaload, 1), (144, .sipush (-1000), 3), (147, .if_icmp .eq 18, 3), (150, .aload_n 0, 1), (151, .iload_n 3, 1), (152, .invokevirtual 137, 3), (155, .aload_n 0, 1), (156, .getfield 33, 3), (159, .iload 5, 2), (161, .iaload, 1), (162, .if_icmp .ge 11, 3), (165, .aload_n 0, 1), (166, .iload_n 3, 1), (167, .invokevirtual 137, 3), (170, .goto 10, 3), (173, .aload_n 0, 1), (174, .getfield 33, 3), (177, .iload 5, 2), (179, .iaload, 1), (180, .iastore, 1), (181, .iinc 5 1, 3), (184, .goto (-125), 3), (187, .iinc 3 1, 3), (190, .goto (-149), 3), (193, .return_, 1)]
theorem tbX9_inks_ok : pTabOk cX9_inks tbX9_inks = true := by decide +kernel
def tbX9_sky : pTab := [(0, .aload_n 0, 1), (1, .iload_n 1, 1), (2, .iload_n 2, 1), (3, .invokevirtual 176, 3), (6, .ifCond .eq 26, 3), (9, .iload_n 3, 1), (10, .i2l, 1), (11, .lconst 0, 1), (12, .lconst 1, 1), (13, .invokestatic 85, 3), (16, .ifCond .eq 16, 3), (19, .iload 4, 2), (21, .i2l, 1), (22, .lconst 0, 1), (23, .ldc2_w 189, 3), (26, .invokestatic 85, 3), (29, .ifCond .ne 10, 3), (32, .aload_n 0, 1), (33, .ldc 109, 2), (35, .invokevirtual 110, 3), (38, .ireturn, 1), (39, .aload_n 0, 1), (40, .iload_n 1, 1), (41, .iload_n 2, 1), (42, .invokevirtual 191, 3), (45, .iload_n 3, 1), (46, .ifCond .ne 13, 3), (49, .aload_n 0, 1), (50, .getfield 30, 3), (53, .iload 4, 2), (55, .iaload, 1), (56, .goto 10, 3), (59, .aload_n 0, 1), (60, .getfield 33, 3), (63, .iload 4, 2), (65, .iaload, 1), (66, .istore 5, 2), (68, .iload 5, 2), (70, .sipush (-1000), 3), (73, .if_icmp .ne 12, 3), (76, .aload_n 0, 1), (77, .ldc 119, 2), (79, .invokevirtual 110, 3), (82, .goto 5, 3), (85, .iload 5, 2), (87, .ireturn, 1)]
theorem tbX9_sky_ok : pTabOk cX9_sky tbX9_sky = true := by decide +kernel
def tbX9_apartOf : pTab := [(0, .aload_n 0, 1), (1, .iload_n 1, 1), (2, .iload_n 2, 1), (3, .invokevirtual 191, 3), (6, .iconst 0, 1), (7, .istore 5, 2), (9, .iload 5, 2), (11, .sipush 400, 3), (14, .if_icmp .ge 23, 3), (17, .aload_n 0, 1), (18, .getfield 36, 3), (21, .iload 5, 2), (23, .aload_n 0, 1), (24, .getfield 33, 3), (27, .iload 5, 2), (29, .iaload, 1), (30, .iastore, 1), (31, .iinc 5 1, 3), (34, .goto (-25), 3), (37, .aload_n 0, 1), (38, .iload_n 3, 1), (39, .iload 4, 2), (41, .invokevirtual 191, 3), (44, .bipush 8, 2), (46, .istore 5, 2), (48, .iconst 0, 1), (49, .istore 6, 2), (51, .iload 6, 2), (53, .sipush 400, 3), (56, .if_icmp .ge 76, 3), (59, .aload_n 0, 1), (60, .getfield 36, 3), (63, .iload 6, 2), (65, .iaload, 1), (66, .sipush (-1000), 3), (69, .if_icmp .eq 57, 3), (72, .aload_n 0, 1), (73, .getfield 30, 3), (76, .iload 6, 2), (78, .iaload, 1), (79, .sipush (-1000), 3), (82, .if_icmp .eq 44, 3), (85, .aload_n 0, 1), (86, .getfield 30, 3), (89, .iload 6, 2), (91, .iaload, 1), (92, .aload_n 0, 1), (93, .getfield 36, 3), (96, .iload 6, 2), (98, .iaload, 1), (99, .isub, 1), (100, .iconst 2, 1), (101, .iadd, 1), (102, .iload 5, 2), (104, .if_icmp .le 22, 3), (107, .aload_n 0, 1), (108, .getfield 30, 3), (111, .iload 6, 2), (113, .iaload, 1), (114, .aload_n 0, 1), (115, .getfield 36, 3), (118, .iload 6, 2), (120, .iaload, 1), (121, .isub, 1), (122, .iconst 2, 1), (123, .iadd, 1), (124, .istore 5, 2), (126, .iinc 6 1, 3), (129, .goto (-78), 3), (132, .iload 5, 2), (134, .ireturn, 1)]
theorem tbX9_apartOf_ok : pTabOk cX9_apartOf tbX9_apartOf = true := by decide +kernel
def tbX9_apart : pTab := [(0, .aload_n 0, 1), (1, .iload_n 1, 1), (2, .iload_n 2, 1), (3, .invokevirtual 176, 3), (6, .ifCond .eq 25, 3), (9, .aload_n 0, 1), (10, .iload_n 3, 1), (11, .iload 4, 2), (13, .invokevirtual 176, 3), (16, .ifCond .eq 15, 3), (19, .aload_n 0, 1), (20, .iload_n 1, 1), (21, .iload_n 2, 1), (22, .iload_n 3, 1), (23, .iload 4, 2), (25, .invokevirtual 194, 3), (28, .goto 9, 3), (31, .aload_n 0, 1), (32, .ldc 109, 2), (34, .invokevirtual 110, 3), (37, .ireturn, 1)]
theorem tbX9_apart_ok : pTabOk cX9_apart tbX9_apart = true := by decide +kernel
def tbX9_isEnd : pTab := [(0, .iload_n 1, 1), (1, .aload_n 0, 1), (2, .getfield 9, 3), (5, .iconst 0, 1), (6, .iaload, 1), (7, .if_icmp .eq 15, 3), (10, .aload_n 0, 1), (11, .iload_n 1, 1), (12, .iconst 1, 1), (13, .isub, 1), (14, .iconst 0, 1), (15, .invokevirtual 124, 3), (18, .iconst 2, 1), (19, .if_icmp .ne 7, 3), (22, .iconst 1, 1), (23, .goto 4, 3), (26, .iconst 0, 1), (27, .ireturn, 1)]
theorem tbX9_isEnd_ok : pTabOk cX9_isEnd tbX9_isEnd = true := by decide +kernel
def tbX9_bestTo : pTab := [(0, .aload_n 0, 1), (1, .getfield 42, 3), (4, .iload_n 1, 1), (5, .iconst (-1), 1), (6, .iastore, 1), (7, .aload_n 0, 1), (8, .iload_n 1, 1), (9, .invokevirtual 198, 3), (12, .ifCond .ne 4, 3), (15, .return_, 1), (16, .iconst 0, 1), (17, .istore_n 2, 1), (18, .iload_n 2, 1), (19, .iload_n 1, 1), (20, .if_icmp .ge 82, 3), (23, .iload_n 2, 1), (24, .ifCond .le 12, 3), (27, .aload_n 0, 1), (28, .getfield 42, 3), (31, .iload_n 2, 1), (32, .iaload, 1), (33, .ifCond .lt 63, 3), (36, .aload_n 0, 1), (37, .iload_n 2, 1), (38, .iload_n 1, 1), (39, .iconst 1, 1), (40, .isub, 1), (41, .invokevirtual 186, 3), (44, .ifCond .ne 6, 3), (47, .goto 49, 3), (50, .aload_n 0, 1), (51, .getfield 39, 3), (54, .iload_n 2, 1), (55, .faload, 1), (56, .aload_n 0, 1), (57, .getfield 183, 3), (60, .fadd, 1), (61, .fstore_n 3, 1), (62, .aload_n 0, 1), (63, .getfield 42, 3), (66, .iload_n 1, 1), (67, .iaload, 1), (68, .ifCond .lt 14, 3), (71, .fload_n 3, 1), (72, .aload_n 0, 1), (73, .getfield 39, 3), (76, .iload_n 1, 1), (77, .faload, 1), (78, .fcmp .g, 1), (79, .ifCond .ge 17, 3), (82, .aload_n 0, 1), (83, .getfield 39, 3), (86, .iload_n 1, 1), (87, .fload_n 3, 1), (88, .fastore, 1), (89, .aload_n 0, 1), (90, .getfield 42, 3), (93, .iload_n 1, 1), (94, .iload_n 2, 1), (95, .iastore, 1), (96, .iinc 2 1, 3), (99, .goto (-81), 3), (102, .return_, 1)]
theorem tbX9_bestTo_ok : pTabOk cX9_bestTo tbX9_bestTo = true := by decide +kernel
def tbX9_breaks : pTab := [(0, .aload_n 0, 1), (1, .getfield 9, 3), (4, .iconst 0, 1), (5, .iaload, 1), (6, .istore_n 1, 1), (7, .aload_n 0, 1), (8, .getfield 39, 3), (11, .iconst 0, 1), (12, .fconst 0, 1), (13, .fastore, 1), (14, .aload_n 0, 1), (15, .iconst 0, 1), (16, .putfield 201, 3), (19, .iconst 1, 1), (20, .istore_n 2, 1), (21, .iload_n 2, 1), (22, .iload_n 1, 1), (23, .if_icmp .gt 14, 3), (26, .aload_n 0, 1), (27, .iload_n 2, 1), (28, .invokevirtual 204, 3), (31, .iinc 2 1, 3), (34, .goto (-13), 3), (37, .iload_n 1, 1), (38, .ifCond .le 14, 3), (41, .aload_n 0, 1), (42, .getfield 42, 3), (45, .iload_n 1, 1), (46, .iaload, 1), (47, .ifCond .ge 5, 3), (50, .iconst 0, 1), (51, .ireturn, 1), (52, .iload_n 1, 1), (53, .istore_n 2, 1), (54, .iload_n 2, 1), (55, .ifCond .le 23, 3), (58, .aload_n 0, 1), (59, .dup, 1), (60, .getfield 201, 3), (63, .iconst 1, 1), (64, .iadd, 1), (65, .putfield 201, 3), (68, .aload_n 0, 1), (69, .getfield 42, 3), (72, .iload_n 2, 1), (73, .iaload, 1), (74, .istore_n 2, 1), (75, .goto (-21), 3), (78, .aload_n 0, 1), (79, .getfield 201, 3), (82, .istore_n 2, 1), (83, .iload_n 1, 1), (84, .istore_n 3, 1), (85, .iload_n 3, 1), (86, .ifCond .le 37, 3), (89, .iinc 2 (-1), 3), (92, .aload_n 0, 1), (93, .getfield 45, 3), (96, .iload_n 2, 1), (97, .aload_n 0, 1), (98, .getfield 42, 3), (101, .iload_n 3, 1), (102, .iaload, 1), (103, .iastore, 1), (104, .aload_n 0, 1), (105, .getfield 48, 3), (108, .iload_n 2, 1), (109, .iload_n 3, 1), (110, .iconst 1, 1), (111, .isub, 1), (112, .iastore, 1), (113, .aload_n 0, 1), (114, .getfield 42, 3), (117, .iload_n 3, 1), (118, .iaload, 1), (119, .istore_n 3, 1), (120, .goto (-35), 3), (123, .iconst 1, 1), (124, .ireturn, 1)]
theorem tbX9_breaks_ok : pTabOk cX9_breaks tbX9_breaks = true := by decide +kernel
def tbX9_lines : pTab := [(0, .aload_n 0, 1), (1, .invokevirtual 208, 3), (4, .ifCond .eq 10, 3), (7, .aload_n 0, 1), (8, .getfield 201, 3), (11, .goto 9, 3), (14, .aload_n 0, 1), (15, .ldc 119, 2), (17, .invokevirtual 110, 3), (20, .ireturn, 1)]
theorem tbX9_lines_ok : pTabOk cX9_lines tbX9_lines = true := by decide +kernel
def tbX9_line : pTab := [(0, .aload_n 0, 1), (1, .invokevirtual 208, 3), (4, .ifCond .ne 10, 3), (7, .aload_n 0, 1), (8, .ldc 119, 2), (10, .invokevirtual 110, 3), (13, .ireturn, 1), (14, .iload_n 1, 1), (15, .i2l, 1), (16, .lconst 0, 1), (17, .aload_n 0, 1), (18, .getfield 201, 3), (21, .iconst 1, 1), (22, .isub, 1), (23, .i2l, 1), (24, .invokestatic 85, 3), (27, .ifCond .eq 30, 3), (30, .iload_n 2, 1), (31, .i2l, 1), (32, .lconst 0, 1), (33, .ldc2_w 212, 3), (36, .invokestatic 85, 3), (39, .ifCond .eq 18, 3), (42, .iload_n 2, 1), (43, .iconst 3, 1), (44, .if_icmp .ne 20, 3), (47, .iload_n 1, 1), (48, .aload_n 0, 1), (49, .getfield 201, 3), (52, .iconst 1, 1), (53, .isub, 1), (54, .if_icmp .ne 10, 3), (57, .aload_n 0, 1), (58, .ldc 109, 2), (60, .invokevirtual 110, 3), (63, .ireturn, 1), (64, .iload_n 2, 1), (65, .iconst 2, 1), (66, .if_icmp .ge 23, 3), (69, .iload_n 2, 1), (70, .ifCond .ne 12, 3), (73, .aload_n 0, 1), (74, .getfield 45, 3), (77, .iload_n 1, 1), (78, .iaload, 1), (79, .goto 9, 3), (82, .aload_n 0, 1), (83, .getfield 48, 3), (86, .iload_n 1, 1), (87, .iaload, 1), (88, .ireturn, 1), (89, .iload_n 2, 1), (90, .iconst 3, 1), (91, .if_icmp .ne 36, 3), (94, .aload_n 0, 1), (95, .aload_n 0, 1), (96, .getfield 45, 3), (99, .iload_n 1, 1), (100, .iaload, 1), (101, .aload_n 0, 1), (102, .getfield 48, 3), (105, .iload_n 1, 1), (106, .iaload, 1), (107, .aload_n 0, 1), (108, .getfield 45, 3), (111, .iload_n 1, 1), (112, .iconst 1, 1), (113, .iadd, 1), (114, .iaload, 1), (115, .aload_n 0, 1), (116, .getfield 48, 3), (119, .iload_n 1, 1), (120, .iconst 1, 1), (121, .iadd, 1), (122, .iaload, 1), (123, .invokevirtual 194, 3), (126, .ireturn, 1), (127, .aload_n 0, 1), (128, .aload_n 0, 1), (129, .getfield 45, 3), (132, .iload_n 1, 1), (133, .iaload, 1), (134, .aload_n 0, 1), (135, .getfield 48, 3), (138, .iload_n 1, 1), (139, .iaload, 1), (140, .invokevirtual 179, 3), (143, .aload_n 0, 1), (144, .getfield 27, 3), (147, .aload_n 0, 1), (148, .getfield 48, 3), (151, .iload_n 1, 1), (152, .iaload, 1), (153, .faload, 1), (154, .f2i, 1), (155, .ireturn, 1)]
theorem tbX9_line_ok : pTabOk cX9_line tbX9_line = true := by decide +kernel
def tbX9_total : pTab := [(0, .aload_n 0, 1), (1, .invokevirtual 208, 3), (4, .ifCond .ne 10, 3), (7, .aload_n 0, 1), (8, .ldc 119, 2), (10, .invokevirtual 110, 3), (13, .ireturn, 1), (14, .aload_n 0, 1), (15, .getfield 39, 3), (18, .aload_n 0, 1), (19, .getfield 9, 3), (22, .iconst 0, 1), (23, .iaload, 1), (24, .faload, 1), (25, .invokestatic 153, 3), (28, .ireturn, 1)]
theorem tbX9_total_ok : pTabOk cX9_total tbX9_total = true := by decide +kernel
def tbX9_keepsLines : pTab := [(0, .aload_n 0, 1), (1, .aload_n 0, 1), (2, .getfield 201, 3), (5, .putfield 214, 3), (8, .iconst 0, 1), (9, .istore_n 1, 1), (10, .iload_n 1, 1), (11, .aload_n 0, 1), (12, .getfield 201, 3), (15, .if_icmp .ge 84, 3), (18, .aload_n 0, 1), (19, .getfield 51, 3), (22, .iload_n 1, 1), (23, .aload_n 0, 1), (24, .getfield 45, 3), (27, .iload_n 1, 1), (28, .iaload, 1), (29, .iastore, 1), (30, .aload_n 0, 1), (31, .getfield 54, 3), (34, .iload_n 1, 1), (35, .aload_n 0, 1), (36, .getfield 48, 3), (39, .iload_n 1, 1), (40, .iaload, 1), (41, .iastore, 1), (42, .aload_n 0, 1), (43, .aload_n 0, 1), (44, .getfield 45, 3), (47, .iload_n 1, 1), (48, .iaload, 1), (49, .aload_n 0, 1), (50, .getfield 48, 3), (53, .iload_n 1, 1), (54, .iaload, 1), (55, .invokevirtual 179, 3), (58, .aload_n 0, 1), (59, .getfield 45, 3), (62, .iload_n 1, 1), (63, .iaload, 1), (64, .istore_n 2, 1), (65, .iload_n 2, 1), (66, .aload_n 0, 1), (67, .getfield 48, 3), (70, .iload_n 1, 1), (71, .iaload, 1), (72, .if_icmp .gt 21, 3), (75, .aload_n 0, 1), (76, .getfield 57, 3), (79, .iload_n 2, 1), (80, .aload_n 0, 1), (81, .getfield 27, 3), (84, .iload_n 2, 1), (85, .faload, 1), (86, .fastore, 1), (87, .iinc 2 1, 3), (90, .goto (-25), 3), (93, .iinc 1 1, 3), (96, .goto (-86), 3), (99, .return_, 1)]
theorem tbX9_keepsLines_ok : pTabOk cX9_keepsLines tbX9_keepsLines = true := by decide +kernel
def tbX9_isAsWas : pTab := [(0, .iload_n 1, 1), (1, .aload_n 0, 1), (2, .getfield 201, 3), (5, .if_icmp .ge 33, 3), (8, .aload_n 0, 1), (9, .getfield 45, 3), (12, .iload_n 1, 1), (13, .iaload, 1), (14, .aload_n 0, 1), (15, .getfield 51, 3), (18, .iload_n 1, 1), (19, .iaload, 1), (20, .if_icmp .ne 18, 3), (23, .aload_n 0, 1), (24, .getfield 48, 3), (27, .iload_n 1, 1), (28, .iaload, 1), (29, .aload_n 0, 1), (30, .getfield 54, 3), (33, .iload_n 1, 1), (34, .iaload, 1), (35, .if_icmp .eq 5, 3), (38, .iconst 0, 1), (39, .ireturn, 1), (40, .aload_n 0, 1), (41, .aload_n 0, 1), (42, .getfield 45, 3), (45, .iload_n 1, 1), (46, .iaload, 1), (47, .aload_n 0, 1), (48, .getfield 48, 3), (51, .iload_n 1, 1), (52, .iaload, 1), (53, .invokevirtual 179, 3), (56, .aload_n 0, 1), (57, .getfield 45, 3), (60, .iload_n 1, 1), (61, .iaload, 1), (62, .istore_n 2, 1), (63, .iload_n 2, 1), (64, .aload_n 0, 1), (65, .getfield 48, 3), (68, .iload_n 1, 1), (69, .iaload, 1), (70, .if_icmp .gt 27, 3), (73, .aload_n 0, 1), (74, .getfield 27, 3), (77, .iload_n 2, 1), (78, .faload, 1), (79, .aload_n 0, 1), (80, .getfield 57, 3), (83, .iload_n 2, 1), (84, .faload, 1), (85, .fcmp .l, 1), (86, .ifCond .eq 5, 3), (89, .iconst 0, 1), (90, .ireturn, 1), (91, .iinc 2 1, 3), (94, .goto (-31), 3), (97, .iconst 1, 1), (98, .ireturn, 1)]
theorem tbX9_isAsWas_ok : pTabOk cX9_isAsWas tbX9_isAsWas = true := by decide +kernel
def tbX9_moved : pTab := [(0, .aload_n 0, 1), (1, .iload_n 1, 1), (2, .invokevirtual 120, 3), (5, .ifCond .eq 23, 3), (8, .iconst 2, 1), (9, .iload_n 2, 1), (10, .invokestatic 105, 3), (13, .ifCond .eq 15, 3), (16, .iload_n 3, 1), (17, .i2l, 1), (18, .lconst 0, 1), (19, .ldc2_w 91, 3), (22, .invokestatic 85, 3), (25, .ifCond .ne 10, 3), (28, .aload_n 0, 1), (29, .ldc 109, 2), (31, .invokevirtual 110, 3), (34, .ireturn, 1), (35, .aload_n 0, 1), (36, .invokevirtual 208, 3), (39, .ifCond .ne 10, 3), (42, .aload_n 0, 1), (43, .ldc 119, 2), (45, .invokevirtual 110, 3), (48, .ireturn, 1), (49, .aload_n 0, 1), (50, .invokevirtual 217, 3), (53, .aload_n 0, 1), (54, .iload_n 1, 1), (55, .iconst 2, 1), (56, .invokevirtual 124, 3), (59, .istore 4, 2), (61, .aload_n 0, 1), (62, .iload_n 1, 1), (63, .iconst 1, 1), (64, .invokevirtual 124, 3), (67, .istore 5, 2), (69, .aload_n 0, 1), (70, .iload_n 1, 1), (71, .iconst 2, 1), (72, .iload_n 2, 1), (73, .invokevirtual 101, 3), (76, .aload_n 0, 1), (77, .iload_n 1, 1), (78, .iconst 1, 1), (79, .iload_n 3, 1), (80, .ifCond .ne 8, 3), (83, .iload 5, 2), (85, .goto 4, 3), (88, .iload_n 3, 1), (89, .invokevirtual 101, 3), (92, .aload_n 0, 1), (93, .invokevirtual 208, 3), (96, .istore 6, 2), (98, .iconst 0, 1), (99, .istore 7, 2), (101, .iconst 0, 1), (102, .istore 8, 2), (104, .iload 8, 2), (106, .aload_n 0, 1), (107, .getfield 214, 3), (110, .if_icmp .ge 33, 3), (113, .iload 6, 2), (115, .ifCond .eq 28, 3), (118, .iload 7, 2), (120, .aload_n 0, 1), (121, .iload 8, 2), (123, .invokevirtual 220, 3), (126, .ifCond .eq 7, 3), (129, .iconst 0, 1), (130, .goto 4, 3), (133, .iconst 1, 1), (134, .iadd, 1), (135, .istore 7, 2), (137, .iinc 8 1, 3), (140, .goto (-36), 3), (143, .aload_n 0, 1), (144, .iload_n 1, 1), (145, .iconst 2, 1), (146, .iload 4, 2), (148, .invokevirtual 101, 3), (151, .aload_n 0, 1), (152, .iload_n 1, 1), (153, .iconst 1, 1), (154, .iload 5, 2), (156, .invokevirtual 101, 3), (159, .iload 6, 2), (161, .ifCond .eq 8, 3), (164, .iload 7, 2), (166, .goto 9, 3), (169, .aload_n 0, 1), (170, .ldc 119, 2), (172, .invokevirtual 110, 3), (175, .ireturn, 1)]
theorem tbX9_moved_ok : pTabOk cX9_moved tbX9_moved = true := by decide +kernel
def tbX9_whole : pTab := [(0, .fload_n 0, 1), (1, .f2i, 1), (2, .istore_n 1, 1), (3, .iload_n 1, 1), (4, .i2f, 1), (5, .fload_n 0, 1), (6, .fcmp .l, 1), (7, .ifCond .le 10, 3), (10, .iload_n 1, 1), (11, .iconst 1, 1), (12, .isub, 1), (13, .i2f, 1), (14, .goto 5, 3), (17, .iload_n 1, 1), (18, .i2f, 1), (19, .freturn, 1)]
theorem tbX9_whole_ok : pTabOk cX9_whole tbX9_whole = true := by decide +kernel
def tbX9_rise : pTab := [(0, .aload_n 0, 1), (1, .iload_n 2, 1), (2, .iconst 2, 1), (3, .invokevirtual 124, 3), (6, .aload_n 0, 1), (7, .iload_n 1, 1), (8, .iconst 2, 1), (9, .invokevirtual 124, 3), (12, .isub, 1), (13, .i2f, 1), (14, .fconst 2, 1), (15, .fdiv, 1), (16, .fstore_n 3, 1), (17, .fload_n 3, 1), (18, .aload_n 0, 1), (19, .getfield 27, 3), (22, .iload_n 2, 1), (23, .faload, 1), (24, .fdiv, 1), (25, .freturn, 1)]
theorem tbX9_rise_ok : pTabOk cX9_rise tbX9_rise = true := by decide +kernel
def tbX9_slope : pTab := [(0, .aload_n 0, 1), (1, .iload_n 1, 1), (2, .iload_n 2, 1), (3, .invokevirtual 223, 3), (6, .ldc 227, 2), (8, .fmul, 1), (9, .fstore_n 3, 1), (10, .fload_n 3, 1), (11, .ldc 228, 2), (13, .fadd, 1), (14, .fstore_n 3, 1), (15, .fload_n 3, 1), (16, .invokestatic 229, 3), (19, .ldc 227, 2), (21, .fdiv, 1), (22, .fstore_n 3, 1), (23, .fload_n 3, 1), (24, .ldc 233, 2), (26, .fcmp .g, 1), (27, .ifCond .ge 8, 3), (30, .ldc 233, 2), (32, .goto 16, 3), (35, .fload_n 3, 1), (36, .ldc 228, 2), (38, .fcmp .l, 1), (39, .ifCond .le 8, 3), (42, .ldc 228, 2), (44, .goto 4, 3), (47, .fload_n 3, 1), (48, .freturn, 1)]
theorem tbX9_slope_ok : pTabOk cX9_slope tbX9_slope = true := by decide +kernel
def tbX9_isUp : pTab := [(0, .iconst 0, 1), (1, .istore_n 3, 1), (2, .iload_n 1, 1), (3, .istore 4, 2), (5, .iload 4, 2), (7, .iload_n 2, 1), (8, .if_icmp .gt 19, 3), (11, .iload_n 3, 1), (12, .aload_n 0, 1), (13, .iload 4, 2), (15, .iconst 2, 1), (16, .invokevirtual 124, 3), (19, .iadd, 1), (20, .istore_n 3, 1), (21, .iinc 4 1, 3), (24, .goto (-19), 3), (27, .iload_n 3, 1), (28, .ifCond .ge 7, 3), (31, .iconst 1, 1), (32, .goto 4, 3), (35, .iconst 0, 1), (36, .ireturn, 1)]
theorem tbX9_isUp_ok : pTabOk cX9_isUp tbX9_isUp = true := by decide +kernel
def tbX9_lift : pTab := [(0, .aload_n 0, 1), (1, .iload_n 1, 1), (2, .iload_n 2, 1), (3, .invokevirtual 234, 3), (6, .istore_n 3, 1), (7, .aload_n 0, 1), (8, .iload_n 1, 1), (9, .iload_n 2, 1), (10, .invokevirtual 237, 3), (13, .fstore 4, 2), (15, .iload_n 3, 1), (16, .ifCond .eq 8, 3), (19, .fload 4, 2), (21, .goto 7, 3), (24, .fconst 0, 1), (25, .fload 4, 2), (27, .fsub, 1), (28, .fstore 4, 2), (30, .fconst 0, 1), (31, .fstore 5, 2), (33, .iload_n 1, 1), (34, .istore 6, 2), (36, .iload 6, 2), (38, .iload_n 2, 1), (39, .if_icmp .gt 93, 3), (42, .aload_n 0, 1), (43, .iload 6, 2), (45, .iconst 2, 1), (46, .invokevirtual 124, 3), (49, .i2f, 1), (50, .fstore 7, 2), (52, .iload_n 3, 1), (53, .ifCond .eq 8, 3), (56, .fload 7, 2), (58, .goto 7, 3), (61, .fconst 0, 1), (62, .fload 7, 2), (64, .fsub, 1), (65, .fstore 7, 2), (67, .aload_n 0, 1), (68, .getfield 27, 3), (71, .iload 6, 2), (73, .faload, 1), (74, .aload_n 0, 1), (75, .getfield 27, 3), (78, .iload_n 2, 1), (79, .faload, 1), (80, .fsub, 1), (81, .fstore 8, 2), (83, .fload 4, 2), (85, .fload 8, 2), (87, .fmul, 1), (88, .fstore 8, 2), (90, .fload 8, 2), (92, .fconst 2, 1), (93, .fmul, 1), (94, .fstore 8, 2), (96, .fload 7, 2), (98, .fload 8, 2), (100, .fsub, 1), (101, .fstore 9, 2), (103, .iload 6, 2), (105, .iload_n 1, 1), (106, .if_icmp .eq 11, 3), (109, .fload 9, 2), (111, .fload 5, 2), (113, .fcmp .l, 1), (114, .ifCond .le 8, 3), (117, .fload 9, 2), (119, .goto 5, 3), (122, .fload 5, 2), (124, .fstore 5, 2), (126, .iinc 6 1, 3), (129, .goto (-93), 3), (132, .fload 5, 2), (134, .ldc 240, 2), (136, .fadd, 1), (137, .freturn, 1)]
theorem tbX9_lift_ok : pTabOk cX9_lift tbX9_lift = true := by decide +kernel
def tbX9_areNotes : pTab := [(0, .iload_n 1, 1), (1, .istore_n 3, 1), (2, .iload_n 3, 1), (3, .iload_n 2, 1), (4, .if_icmp .gt 20, 3), (7, .aload_n 0, 1), (8, .iload_n 3, 1), (9, .iconst 0, 1), (10, .invokevirtual 124, 3), (13, .ifCond .eq 5, 3), (16, .iconst 0, 1), (17, .ireturn, 1), (18, .iinc 3 1, 3), (21, .goto (-19), 3), (24, .iconst 1, 1), (25, .ireturn, 1)]
theorem tbX9_areNotes_ok : pTabOk cX9_areNotes tbX9_areNotes = true := by decide +kernel
def tbX9_beam : pTab := [(0, .aload_n 0, 1), (1, .iload_n 1, 1), (2, .iload_n 2, 1), (3, .invokevirtual 176, 3), (6, .ifCond .eq 15, 3), (9, .iload_n 3, 1), (10, .i2l, 1), (11, .lconst 0, 1), (12, .ldc2_w 212, 3), (15, .invokestatic 85, 3), (18, .ifCond .ne 10, 3), (21, .aload_n 0, 1), (22, .ldc 109, 2), (24, .invokevirtual 110, 3), (27, .ireturn, 1), (28, .iload_n 1, 1), (29, .iload_n 2, 1), (30, .if_icmp .ne 10, 3), (33, .aload_n 0, 1), (34, .ldc 241, 2), (36, .invokevirtual 110, 3), (39, .ireturn, 1), (40, .aload_n 0, 1), (41, .iload_n 1, 1), (42, .iload_n 2, 1), (43, .invokevirtual 242, 3), (46, .ifCond .ne 10, 3), (49, .aload_n 0, 1), (50, .ldc 245, 2), (52, .invokevirtual 110, 3), (55, .ireturn, 1), (56, .aload_n 0, 1), (57, .iload_n 1, 1), (58, .iload_n 2, 1), (59, .invokevirtual 179, 3), (62, .iload_n 3, 1), (63, .iconst 2, 1), (64, .if_icmp .ne 20, 3), (67, .aload_n 0, 1), (68, .iload_n 1, 1), (69, .iload_n 2, 1), (70, .invokevirtual 234, 3), (73, .ifCond .eq 7, 3), (76, .iconst 1, 1), (77, .goto 43, 3), (80, .iconst 0, 1), (81, .goto 39, 3), (84, .iload_n 3, 1), (85, .ifCond .ne 12, 3), (88, .aload_n 0, 1), (89, .iload_n 1, 1), (90, .iload_n 2, 1), (91, .invokevirtual 223, 3), (94, .goto 23, 3), (97, .iload_n 3, 1), (98, .iconst 1, 1), (99, .if_icmp .ne 12, 3), (102, .aload_n 0, 1), (103, .iload_n 1, 1), (104, .iload_n 2, 1), (105, .invokevirtual 237, 3), (108, .goto 9, 3), (111, .aload_n 0, 1), (112, .iload_n 1, 1), (113, .iload_n 2, 1), (114, .invokevirtual 246, 3), (117, .invokestatic 153, 3), (120, .ireturn, 1)]
theorem tbX9_beam_ok : pTabOk cX9_beam tbX9_beam = true := by decide +kernel
end
section
def tbX9_ink : pTab := [(0, .iload_n 2, 1), (1, .ifCond .ne 11, 3), (4, .aload_n 0, 1), (5, .iload_n 1, 1), (6, .invokevirtual 134, 3), (9, .goto 9, 3), (12, .aload_n 0, 1), (13, .iload_n 1, 1), (14, .invokevirtual 137, 3), (17, .ineg, 1), (18, .ireturn, 1)]
theorem tbX9_ink_ok : pTabOk cX9_ink tbX9_ink = true := by decide +kernel
def tbX9_height : pTab := [(0, .aload_n 0, 1), (1, .iload_n 1, 1), (2, .iload_n 3, 1), (3, .invokevirtual 249, 3), (6, .aload_n 0, 1), (7, .iload_n 2, 1), (8, .iload_n 3, 1), (9, .invokevirtual 249, 3), (12, .if_icmp .le 12, 3), (15, .aload_n 0, 1), (16, .iload_n 1, 1), (17, .iload_n 3, 1), (18, .invokevirtual 249, 3), (21, .goto 9, 3), (24, .aload_n 0, 1), (25, .iload_n 2, 1), (26, .iload_n 3, 1), (27, .invokevirtual 249, 3), (30, .istore 4, 2), (32, .iconst 0, 1), (33, .istore 5, 2), (35, .iload_n 2, 1), (36, .iload_n 1, 1), (37, .isub, 1), (38, .iconst 1, 1), (39, .isub, 1), (40, .istore 6, 2), (42, .iconst 1, 1), (43, .istore 7, 2), (45, .iload 7, 2), (47, .iload 6, 2), (49, .if_icmp .gt 90, 3), (52, .iload 7, 2), (54, .iload 6, 2), (56, .iconst 1, 1), (57, .iadd, 1), (58, .iload 7, 2), (60, .isub, 1), (61, .if_icmp .ge 8, 3), (64, .iload 7, 2), (66, .goto 10, 3), (69, .iload 6, 2), (71, .iconst 1, 1), (72, .iadd, 1), (73, .iload 7, 2), (75, .isub, 1), (76, .istore 8, 2), (78, .iconst 2, 1), (79, .iload 8, 2), (81, .imul, 1), (82, .bipush 6, 2), (84, .if_icmp .le 8, 3), (87, .bipush 6, 2), (89, .goto 7, 3), (92, .iconst 2, 1), (93, .iload 8, 2), (95, .imul, 1), (96, .istore 9, 2), (98, .aload_n 0, 1), (99, .iload_n 1, 1), (100, .iload 7, 2), (102, .iadd, 1), (103, .iload_n 3, 1), (104, .invokevirtual 249, 3), (107, .iconst 1, 1), (108, .iadd, 1), (109, .iload 4, 2), (111, .isub, 1), (112, .iload 9, 2), (114, .isub, 1), (115, .istore 10, 2), (117, .iload 10, 2), (119, .iload 5, 2), (121, .if_icmp .le 8, 3), (124, .iload 10, 2), (126, .goto 5, 3), (129, .iload 5, 2), (131, .istore 5, 2), (133, .iinc 7 1, 3), (136, .goto (-91), 3), (139, .iload 5, 2), (141, .bipush 40, 2), (143, .if_icmp .le 7, 3), (146, .iconst (-1), 1), (147, .goto 5, 3), (150, .iload 5, 2), (152, .ireturn, 1)]
theorem tbX9_height_ok : pTabOk cX9_height tbX9_height = true := by decide +kernel
def tbX9_slur : pTab := [(0, .aload_n 0, 1), (1, .iload_n 1, 1), (2, .iload_n 2, 1), (3, .invokevirtual 176, 3), (6, .ifCond .eq 15, 3), (9, .iload_n 3, 1), (10, .i2l, 1), (11, .lconst 0, 1), (12, .ldc2_w 212, 3), (15, .invokestatic 85, 3), (18, .ifCond .ne 10, 3), (21, .aload_n 0, 1), (22, .ldc 109, 2), (24, .invokevirtual 110, 3), (27, .ireturn, 1), (28, .iload_n 2, 1), (29, .iload_n 1, 1), (30, .isub, 1), (31, .iconst 2, 1), (32, .if_icmp .ge 10, 3), (35, .aload_n 0, 1), (36, .ldc 241, 2), (38, .invokevirtual 110, 3), (41, .ireturn, 1), (42, .aload_n 0, 1), (43, .iload_n 1, 1), (44, .iload_n 2, 1), (45, .iconst 0, 1), (46, .invokevirtual 252, 3), (49, .istore 4, 2), (51, .aload_n 0, 1), (52, .iload_n 1, 1), (53, .iload_n 2, 1), (54, .iconst 1, 1), (55, .invokevirtual 252, 3), (58, .istore 5, 2), (60, .iload 4, 2), (62, .ifCond .lt 19, 3), (65, .iload 5, 2), (67, .ifCond .lt 10, 3), (70, .iload 4, 2), (72, .iload 5, 2), (74, .if_icmp .gt 7, 3), (77, .iconst 0, 1), (78, .goto 4, 3), (81, .iconst 1, 1), (82, .istore 6, 2), (84, .iload_n 3, 1), (85, .iconst 2, 1), (86, .if_icmp .ne 8, 3), (89, .iload 4, 2), (91, .goto 25, 3), (94, .iload_n 3, 1), (95, .iconst 3, 1), (96, .if_icmp .ne 8, 3), (99, .iload 5, 2), (101, .goto 15, 3), (104, .iload 6, 2), (106, .ifCond .ne 8, 3), (109, .iload 4, 2), (111, .goto 5, 3), (114, .iload 5, 2), (116, .istore 7, 2), (118, .iload 7, 2), (120, .ifCond .ge 10, 3), (123, .aload_n 0, 1), (124, .ldc 119, 2), (126, .invokevirtual 110, 3), (129, .ireturn, 1), (130, .iload_n 3, 1), (131, .ifCond .ne 8, 3), (134, .iload 6, 2), (136, .goto 5, 3), (139, .iload 7, 2), (141, .ireturn, 1)]
theorem tbX9_slur_ok : pTabOk cX9_slur tbX9_slur = true := by decide +kernel
def tbX9_feed : pTab := [(0, .iload_n 1, 1), (1, .i2l, 1), (2, .lconst 0, 1), (3, .ldc2_w 255, 3), (6, .invokestatic 85, 3), (9, .ifCond .ne 10, 3), (12, .aload_n 0, 1), (13, .ldc 109, 2), (15, .invokevirtual 110, 3), (18, .ireturn, 1), (19, .aload_n 0, 1), (20, .getfield 257, 3), (23, .sipush 160, 3), (26, .if_icmp .ne 10, 3), (29, .aload_n 0, 1), (30, .ldc 114, 2), (32, .invokevirtual 110, 3), (35, .ireturn, 1), (36, .aload_n 0, 1), (37, .getfield 60, 3), (40, .aload_n 0, 1), (41, .getfield 257, 3), (44, .iload_n 1, 1), (45, .iastore, 1), (46, .aload_n 0, 1), (47, .dup, 1), (48, .getfield 257, 3), (51, .iconst 1, 1), (52, .iadd, 1), (53, .putfield 257, 3), (56, .aload_n 0, 1), (57, .getfield 257, 3), (60, .ireturn, 1)]
theorem tbX9_feed_ok : pTabOk cX9_feed tbX9_feed = true := by decide +kernel
def tbX9_takes : pTab := [(0, .aload_n 0, 1), (1, .getfield 260, 3), (4, .ifCond .eq 31, 3), (7, .aload_n 0, 1), (8, .getfield 264, 3), (11, .aload_n 0, 1), (12, .getfield 257, 3), (15, .if_icmp .ge 20, 3), (18, .aload_n 0, 1), (19, .getfield 60, 3), (22, .aload_n 0, 1), (23, .getfield 264, 3), (26, .iaload, 1), (27, .iload_n 1, 1), (28, .if_icmp .ne 7, 3), (31, .iconst 1, 1), (32, .goto 4, 3), (35, .iconst 0, 1), (36, .istore_n 2, 1), (37, .aload_n 0, 1), (38, .dup, 1), (39, .getfield 264, 3), (42, .iload_n 2, 1), (43, .ifCond .eq 7, 3), (46, .iconst 1, 1), (47, .goto 4, 3), (50, .iconst 0, 1), (51, .iadd, 1), (52, .putfield 264, 3), (55, .iload_n 2, 1), (56, .ireturn, 1)]
theorem tbX9_takes_ok : pTabOk cX9_takes tbX9_takes = true := by decide +kernel
def tbX9_isDigit : pTab := [(0, .aload_n 0, 1), (1, .getfield 264, 3), (4, .aload_n 0, 1), (5, .getfield 257, 3), (8, .if_icmp .ge 29, 3), (11, .aload_n 0, 1), (12, .getfield 60, 3), (15, .aload_n 0, 1), (16, .getfield 264, 3), (19, .iaload, 1), (20, .i2l, 1), (21, .ldc2_w 267, 3), (24, .ldc2_w 269, 3), (27, .invokestatic 85, 3), (30, .ifCond .eq 7, 3), (33, .iconst 1, 1), (34, .goto 4, 3), (37, .iconst 0, 1), (38, .ireturn, 1)]
theorem tbX9_isDigit_ok : pTabOk cX9_isDigit tbX9_isDigit = true := by decide +kernel
def tbX9_number : pTab := [(0, .aload_n 0, 1), (1, .aload_n 0, 1), (2, .getfield 260, 3), (5, .ifCond .eq 38, 3), (8, .aload_n 0, 1), (9, .invokevirtual 271, 3), (12, .ifCond .eq 31, 3), (15, .aload_n 0, 1), (16, .getfield 60, 3), (19, .aload_n 0, 1), (20, .getfield 264, 3), (23, .iaload, 1), (24, .bipush 48, 2), (26, .isub, 1), (27, .iload_n 1, 1), (28, .ifCond .le 7, 3), (31, .iconst 1, 1), (32, .goto 4, 3), (35, .iconst 0, 1), (36, .if_icmp .lt 7, 3), (39, .iconst 1, 1), (40, .goto 4, 3), (43, .iconst 0, 1), (44, .putfield 260, 3), (47, .iconst 0, 1), (48, .istore_n 3, 1), (49, .iconst 1, 1), (50, .istore 4, 2), (52, .aload_n 0, 1), (53, .getfield 260, 3), (56, .ifCond .eq 78, 3), (59, .aload_n 0, 1), (60, .invokevirtual 271, 3), (63, .ifCond .eq 71, 3), (66, .iload 4, 2), (68, .ifCond .ne 7, 3), (71, .iload_n 3, 1), (72, .ifCond .le 62, 3), (75, .bipush 10, 2), (77, .iload_n 3, 1), (78, .imul, 1), (79, .aload_n 0, 1), (80, .getfield 60, 3), (83, .aload_n 0, 1), (84, .getfield 264, 3), (87, .iaload, 1), (88, .iadd, 1), (89, .bipush 48, 2), (91, .isub, 1), (92, .istore_n 3, 1), (93, .aload_n 0, 1), (94, .iload_n 3, 1), (95, .iload_n 2, 1), (96, .if_icmp .gt 7, 3), (99, .iconst 1, 1), (100, .goto 4, 3), (103, .iconst 0, 1), (104, .putfield 260, 3), (107, .aload_n 0, 1), (108, .dup, 1), (109, .getfield 264, 3), (112, .aload_n 0, 1), (113, .getfield 260, 3), (116, .ifCond .eq 7, 3), (119, .iconst 1, 1), (120, .goto 4, 3), (123, .iconst 0, 1), (124, .iadd, 1), (125, .putfield 264, 3), (128, .iconst 0, 1), (129, .istore 4, 2), (131, .goto (-79), 3), (134, .iload_n 3, 1), (135, .ireturn, 1)]
theorem tbX9_number_ok : pTabOk cX9_number tbX9_number = true := by decide +kernel
def tbX9_sign : pTab := [(0, .iconst 5, 1), (1, .aload_n 0, 1), (2, .getfield 274, 3), (5, .imul, 1), (6, .istore_n 1, 1), (7, .aload_n 0, 1), (8, .getfield 63, 3), (11, .iload_n 1, 1), (12, .iconst 0, 1), (13, .iadd, 1), (14, .iconst 2, 1), (15, .iastore, 1), (16, .aload_n 0, 1), (17, .getfield 63, 3), (20, .iload_n 1, 1), (21, .iconst 1, 1), (22, .iadd, 1), (23, .iconst 1, 1), (24, .iastore, 1), (25, .aload_n 0, 1), (26, .getfield 63, 3), (29, .iload_n 1, 1), (30, .iconst 2, 1), (31, .iadd, 1), (32, .iconst 0, 1), (33, .iastore, 1), (34, .aload_n 0, 1), (35, .getfield 63, 3), (38, .iload_n 1, 1), (39, .iconst 3, 1), (40, .iadd, 1), (41, .iconst 2, 1), (42, .iastore, 1), (43, .aload_n 0, 1), (44, .bipush 110, 2), (46, .invokevirtual 277, 3), (49, .istore_n 2, 1), (50, .iload_n 2, 1), (51, .ifCond .ne 12, 3), (54, .aload_n 0, 1), (55, .bipush 114, 2), (57, .invokevirtual 277, 3), (60, .ifCond .eq 98, 3), (63, .aload_n 0, 1), (64, .getfield 63, 3), (67, .iload_n 1, 1), (68, .iconst 0, 1), (69, .iadd, 1), (70, .iload_n 2, 1), (71, .ifCond .eq 7, 3), (74, .iconst 0, 1), (75, .goto 4, 3), (78, .iconst 1, 1), (79, .iastore, 1), (80, .aload_n 0, 1), (81, .getfield 63, 3), (84, .iload_n 1, 1), (85, .iconst 1, 1), (86, .iadd, 1), (87, .aload_n 0, 1), (88, .iconst 1, 1), (89, .bipush 64, 2), (91, .invokevirtual 280, 3), (94, .iastore, 1), (95, .iload_n 2, 1), (96, .ifCond .eq 30, 3), (99, .aload_n 0, 1), (100, .bipush 43, 2), (102, .invokevirtual 277, 3), (105, .ifCond .eq 21, 3), (108, .aload_n 0, 1), (109, .getfield 63, 3), (112, .iload_n 1, 1), (113, .iconst 2, 1), (114, .iadd, 1), (115, .aload_n 0, 1), (116, .iconst 0, 1), (117, .bipush 20, 2), (119, .invokevirtual 280, 3), (122, .iastore, 1), (123, .goto 60, 3), (126, .iload_n 2, 1), (127, .ifCond .eq 56, 3), (130, .aload_n 0, 1), (131, .bipush 45, 2), (133, .invokevirtual 277, 3), (136, .ifCond .eq 47, 3), (139, .aload_n 0, 1), (140, .getfield 63, 3), (143, .iload_n 1, 1), (144, .iconst 2, 1), (145, .iadd, 1), (146, .aload_n 0, 1), (147, .iconst 1, 1), (148, .bipush 12, 2), (150, .invokevirtual 280, 3), (153, .ineg, 1), (154, .iastore, 1), (155, .goto 28, 3), (158, .aload_n 0, 1), (159, .aload_n 0, 1), (160, .getfield 260, 3), (163, .ifCond .eq 16, 3), (166, .aload_n 0, 1), (167, .bipush 98, 2), (169, .invokevirtual 277, 3), (172, .ifCond .eq 7, 3), (175, .iconst 1, 1), (176, .goto 4, 3), (179, .iconst 0, 1), (180, .putfield 260, 3), (183, .iconst 0, 1), (184, .istore_n 3, 1), (185, .iload_n 3, 1), (186, .bipush 9, 2), (188, .if_icmp .ge 18, 3), (191, .aload_n 0, 1), (192, .bipush 39, 2), (194, .invokevirtual 277, 3), (197, .ifCond .eq 9, 3), (200, .iinc 3 1, 3), (203, .goto (-18), 3), (206, .aload_n 0, 1), (207, .getfield 63, 3), (210, .iload_n 1, 1), (211, .iconst 4, 1), (212, .iadd, 1), (213, .iload_n 3, 1), (214, .iastore, 1), (215, .aload_n 0, 1), (216, .dup, 1), (217, .getfield 274, 3), (220, .iconst 1, 1), (221, .iadd, 1), (222, .putfield 274, 3), (225, .return_, 1)]
theorem tbX9_sign_ok : pTabOk cX9_sign tbX9_sign = true := by decide +kernel
def tbX9_music : pTab := [(0, .aload_n 0, 1), (1, .iconst 0, 1), (2, .putfield 264, 3), (5, .aload_n 0, 1), (6, .iconst 1, 1), (7, .putfield 260, 3), (10, .aload_n 0, 1), (11, .iconst 0, 1), (12, .putfield 274, 3), (15, .aload_n 0, 1), (16, .invokevirtual 283, 3), (19, .aload_n 0, 1), (20, .bipush 32, 2), (22, .invokevirtual 277, 3), (25, .ifCond .eq 10, 3), (28, .aload_n 0, 1), (29, .invokevirtual 283, 3), (32, .goto (-13), 3), (35, .aload_n 0, 1), (36, .getfield 260, 3), (39, .ifCond .eq 14, 3), (42, .aload_n 0, 1), (43, .getfield 264, 3), (46, .aload_n 0, 1), (47, .getfield 257, 3), (50, .if_icmp .ge 16, 3), (53, .aload_n 0, 1), (54, .iconst 0, 1), (55, .putfield 257, 3), (58, .bipush (-10), 2), (60, .aload_n 0, 1), (61, .getfield 264, 3), (64, .isub, 1), (65, .ireturn, 1), (66, .aload_n 0, 1), (67, .getfield 274, 3), (70, .bipush 32, 2), (72, .if_icmp .le 10, 3), (75, .aload_n 0, 1), (76, .ldc 114, 2), (78, .invokevirtual 110, 3), (81, .ireturn, 1), (82, .aload_n 0, 1), (83, .iconst 0, 1), (84, .putfield 257, 3), (87, .aload_n 0, 1), (88, .getfield 9, 3), (91, .iconst 0, 1), (92, .iconst 0, 1), (93, .iastore, 1), (94, .iconst 0, 1), (95, .istore_n 1, 1), (96, .iload_n 1, 1), (97, .aload_n 0, 1), (98, .getfield 274, 3), (101, .if_icmp .ge 53, 3), (104, .aload_n 0, 1), (105, .aload_n 0, 1), (106, .getfield 63, 3), (109, .iconst 5, 1), (110, .iload_n 1, 1), (111, .imul, 1), (112, .iaload, 1), (113, .aload_n 0, 1), (114, .getfield 63, 3), (117, .iconst 5, 1), (118, .iload_n 1, 1), (119, .imul, 1), (120, .iconst 1, 1), (121, .iadd, 1), (122, .iaload, 1), (123, .aload_n 0, 1), (124, .getfield 63, 3), (127, .iconst 5, 1), (128, .iload_n 1, 1), (129, .imul, 1), (130, .iconst 2, 1), (131, .iadd, 1), (132, .iaload, 1), (133, .iconst 2, 1), (134, .aload_n 0, 1), (135, .getfield 63, 3), (138, .iconst 5, 1), (139, .iload_n 1, 1), (140, .imul, 1), (141, .iconst 4, 1), (142, .iadd, 1), (143, .iaload, 1), (144, .invokevirtual 115, 3), (147, .istore_n 2, 1), (148, .iinc 1 1, 3), (151, .goto (-55), 3), (154, .aload_n 0, 1), (155, .getfield 274, 3), (158, .ireturn, 1)]
theorem tbX9_music_ok : pTabOk cX9_music tbX9_music = true := by decide +kernel
def tbX9_isShelf : pTab := [(0, .iload_n 0, 1), (1, .i2l, 1), (2, .lconst 0, 1), (3, .ldc2_w 89, 3), (6, .invokestatic 85, 3), (9, .ireturn, 1)]
theorem tbX9_isShelf_ok : pTabOk cX9_isShelf tbX9_isShelf = true := by decide +kernel
def tbX9_shelfAt : pTab := [(0, .sipush 162, 3), (3, .bipush 62, 2), (5, .iload_n 0, 1), (6, .imul, 1), (7, .iadd, 1), (8, .ireturn, 1)]
theorem tbX9_shelfAt_ok : pTabOk cX9_shelfAt tbX9_shelfAt = true := by decide +kernel
def tbX9_isPlace : pTab := [(0, .aload_n 0, 1), (1, .getfield 9, 3), (4, .iload_n 1, 1), (5, .invokestatic 286, 3), (8, .iaload, 1), (9, .ifCond .lt 30, 3), (12, .iload_n 2, 1), (13, .i2l, 1), (14, .lconst 0, 1), (15, .aload_n 0, 1), (16, .getfield 9, 3), (19, .iload_n 1, 1), (20, .invokestatic 286, 3), (23, .iconst 1, 1), (24, .iadd, 1), (25, .iaload, 1), (26, .iconst 1, 1), (27, .isub, 1), (28, .i2l, 1), (29, .invokestatic 85, 3), (32, .ifCond .eq 7, 3), (35, .iconst 1, 1), (36, .goto 4, 3), (39, .iconst 0, 1), (40, .ireturn, 1)]
theorem tbX9_isPlace_ok : pTabOk cX9_isPlace tbX9_isPlace = true := by decide +kernel
def tbX9_placeAt : pTab := [(0, .iload_n 0, 1), (1, .invokestatic 286, 3), (4, .iconst 2, 1), (5, .iadd, 1), (6, .iconst 5, 1), (7, .iload_n 1, 1), (8, .imul, 1), (9, .iadd, 1), (10, .ireturn, 1)]
theorem tbX9_placeAt_ok : pTabOk cX9_placeAt tbX9_placeAt = true := by decide +kernel
def tbX9_shelf : pTab := [(0, .iload_n 1, 1), (1, .invokestatic 289, 3), (4, .ifCond .eq 29, 3), (7, .iload_n 2, 1), (8, .i2l, 1), (9, .ldc2_w 292, 3), (12, .ldc2_w 89, 3), (15, .invokestatic 85, 3), (18, .ifCond .eq 15, 3), (21, .iload_n 3, 1), (22, .i2l, 1), (23, .lconst 0, 1), (24, .ldc2_w 97, 3), (27, .invokestatic 85, 3), (30, .ifCond .ne 10, 3), (33, .aload_n 0, 1), (34, .ldc 109, 2), (36, .invokevirtual 110, 3), (39, .ireturn, 1), (40, .aload_n 0, 1), (41, .getfield 9, 3), (44, .iload_n 1, 1), (45, .invokestatic 286, 3), (48, .iload_n 2, 1), (49, .iastore, 1), (50, .aload_n 0, 1), (51, .getfield 9, 3), (54, .iload_n 1, 1), (55, .invokestatic 286, 3), (58, .iconst 1, 1), (59, .iadd, 1), (60, .iload_n 2, 1), (61, .ifCond .ge 7, 3), (64, .iconst 0, 1), (65, .goto 4, 3), (68, .iload_n 3, 1), (69, .iastore, 1), (70, .iconst 0, 1), (71, .istore 4, 2), (73, .iload 4, 2), (75, .bipush 12, 2), (77, .if_icmp .ge 21, 3), (80, .aload_n 0, 1), (81, .getfield 9, 3), (84, .iload_n 1, 1), (85, .iload 4, 2), (87, .invokestatic 294, 3), (90, .iconst (-1), 1), (91, .iastore, 1), (92, .iinc 4 1, 3), (95, .goto (-22), 3), (98, .iconst 1, 1), (99, .ireturn, 1)]
theorem tbX9_shelf_ok : pTabOk cX9_shelf tbX9_shelf = true := by decide +kernel
def tbX9_store : pTab := [(0, .iload_n 1, 1), (1, .invokestatic 289, 3), (4, .ifCond .eq 11, 3), (7, .aload_n 0, 1), (8, .iload_n 3, 1), (9, .invokevirtual 120, 3), (12, .ifCond .ne 10, 3), (15, .aload_n 0, 1), (16, .ldc 109, 2), (18, .invokevirtual 110, 3), (21, .ireturn, 1), (22, .aload_n 0, 1), (23, .iload_n 1, 1), (24, .iload_n 2, 1), (25, .invokevirtual 297, 3), (28, .ifCond .ne 11, 3), (31, .aload_n 0, 1), (32, .ldc_w 300, 3), (35, .invokevirtual 110, 3), (38, .ireturn, 1), (39, .aload_n 0, 1), (40, .getfield 9, 3), (43, .iload_n 1, 1), (44, .invokestatic 286, 3), (47, .iaload, 1), (48, .aload_n 0, 1), (49, .iload_n 3, 1), (50, .iconst 0, 1), (51, .invokevirtual 124, 3), (54, .if_icmp .eq 10, 3), (57, .aload_n 0, 1), (58, .ldc 245, 2), (60, .invokevirtual 110, 3), (63, .ireturn, 1), (64, .iconst 0, 1), (65, .istore 4, 2), (67, .iload 4, 2), (69, .iconst 5, 1), (70, .if_icmp .ge 29, 3), (73, .aload_n 0, 1), (74, .getfield 9, 3), (77, .iload_n 1, 1), (78, .iload_n 2, 1), (79, .invokestatic 294, 3), (82, .iload 4, 2), (84, .iadd, 1), (85, .aload_n 0, 1), (86, .iload_n 3, 1), (87, .iload 4, 2), (89, .invokevirtual 124, 3), (92, .iastore, 1), (93, .iinc 4 1, 3), (96, .goto (-29), 3), (99, .iconst 1, 1), (100, .ireturn, 1)]
theorem tbX9_store_ok : pTabOk cX9_store tbX9_store = true := by decide +kernel
def tbX9_fetch : pTab := [(0, .iload_n 1, 1), (1, .invokestatic 289, 3), (4, .ifCond .eq 15, 3), (7, .iload_n 3, 1), (8, .i2l, 1), (9, .lconst 0, 1), (10, .ldc2_w 212, 3), (13, .invokestatic 85, 3), (16, .ifCond .ne 10, 3), (19, .aload_n 0, 1), (20, .ldc 109, 2), (22, .invokevirtual 110, 3), (25, .ireturn, 1), (26, .aload_n 0, 1), (27, .iload_n 1, 1), (28, .iload_n 2, 1), (29, .invokevirtual 297, 3), (32, .ifCond .ne 11, 3), (35, .aload_n 0, 1), (36, .ldc_w 300, 3), (39, .invokevirtual 110, 3), (42, .ireturn, 1), (43, .iload_n 1, 1), (44, .iload_n 2, 1), (45, .invokestatic 294, 3), (48, .istore 4, 2), (50, .aload_n 0, 1), (51, .getfield 9, 3), (54, .iload 4, 2), (56, .iaload, 1), (57, .ifCond .ge 10, 3), (60, .aload_n 0, 1), (61, .ldc 119, 2), (63, .invokevirtual 110, 3), (66, .ireturn, 1), (67, .iload_n 3, 1), (68, .iconst 3, 1), (69, .if_icmp .ge 15, 3), (72, .aload_n 0, 1), (73, .getfield 9, 3), (76, .iload 4, 2), (78, .iload_n 3, 1), (79, .iadd, 1), (80, .iaload, 1), (81, .goto 31, 3), (84, .aload_n 0, 1), (85, .getfield 9, 3), (88, .iload 4, 2), (90, .iaload, 1), (91, .aload_n 0, 1), (92, .getfield 9, 3), (95, .iload 4, 2), (97, .iconst 2, 1), (98, .iadd, 1), (99, .iaload, 1), (100, .aload_n 0, 1), (101, .getfield 9, 3), (104, .iload 4, 2), (106, .iconst 4, 1), (107, .iadd, 1), (108, .iaload, 1), (109, .invokestatic 128, 3), (112, .ireturn, 1)]
theorem tbX9_fetch_ok : pTabOk cX9_fetch tbX9_fetch = true := by decide +kernel
def tbX9_comes_ : pTab := [(0, .iload_n 1, 1), (1, .invokestatic 289, 3), (4, .ifCond .ne 10, 3), (7, .aload_n 0, 1), (8, .ldc 109, 2), (10, .invokevirtual 110, 3), (13, .ireturn, 1), (14, .aload_n 0, 1), (15, .iload_n 1, 1), (16, .iload_n 2, 1), (17, .invokevirtual 297, 3), (20, .ifCond .ne 11, 3), (23, .aload_n 0, 1), (24, .ldc_w 300, 3), (27, .invokevirtual 110, 3), (30, .ireturn, 1), (31, .iload_n 1, 1), (32, .iload_n 2, 1), (33, .invokestatic 294, 3), (36, .istore_n 3, 1), (37, .aload_n 0, 1), (38, .getfield 9, 3), (41, .iload_n 3, 1), (42, .iaload, 1), (43, .ifCond .ge 10, 3), (46, .aload_n 0, 1), (47, .ldc 119, 2), (49, .invokevirtual 110, 3), (52, .ireturn, 1), (53, .aload_n 0, 1), (54, .getfield 9, 3), (57, .iconst 0, 1), (58, .iaload, 1), (59, .bipush 32, 2), (61, .if_icmp .ne 12, 3), (64, .aload_n 0, 1), (65, .ldc 114, 2), (67, .invokevirtual 110, 3), (70, .goto 45, 3), (73, .aload_n 0, 1), (74, .aload_n 0, 1), (75, .getfield 9, 3), (78, .iload_n 3, 1), (79, .iaload, 1), (80, .aload_n 0, 1), (81, .getfield 9, 3), (84, .iload_n 3, 1), (85, .iconst 1, 1), (86, .iadd, 1), (87, .iaload, 1), (88, .aload_n 0, 1), (89, .getfield 9, 3), (92, .iload_n 3, 1), (93, .iconst 2, 1), (94, .iadd, 1), (95, .iaload, 1), (96, .aload_n 0, 1), (97, .getfield 9, 3), (100, .iload_n 3, 1), (101, .iconst 3, 1), (102, .iadd, 1), (103, .iaload, 1), (104, .aload_n 0, 1), (105, .getfield 9, 3), (108, .iload_n 3, 1), (109, .iconst 4, 1), (110, .iadd, 1), (111, .iaload, 1), (112, .invokevirtual 115, 3), (115, .ireturn, 1)]
theorem tbX9_comes__ok : pTabOk cX9_comes_ tbX9_comes_ = true := by decide +kernel
def tbX9_isSheet : pTab := [(0, .iload_n 0, 1), (1, .i2l, 1), (2, .lconst 0, 1), (3, .ldc2_w 212, 3), (6, .invokestatic 85, 3), (9, .ireturn, 1)]
theorem tbX9_isSheet_ok : pTabOk cX9_isSheet tbX9_isSheet = true := by decide +kernel
def tbX9_sheet : pTab := [(0, .iload_n 1, 1), (1, .invokestatic 301, 3), (4, .ifCond .eq 17, 3), (7, .iload_n 2, 1), (8, .i2l, 1), (9, .ldc2_w 292, 3), (12, .ldc2_w 212, 3), (15, .invokestatic 85, 3), (18, .ifCond .ne 10, 3), (21, .aload_n 0, 1), (22, .ldc 109, 2), (24, .invokevirtual 110, 3), (27, .ireturn, 1), (28, .iload_n 2, 1), (29, .ifCond .lt 14, 3), (32, .iload_n 3, 1), (33, .ifCond .ge 10, 3), (36, .aload_n 0, 1), (37, .ldc 241, 2), (39, .invokevirtual 110, 3), (42, .ireturn, 1), (43, .iload_n 2, 1), (44, .ifCond .lt 16, 3), (47, .iload_n 3, 1), (48, .bipush 40, 2), (50, .if_icmp .le 10, 3), (53, .aload_n 0, 1), (54, .ldc 109, 2), (56, .invokevirtual 110, 3), (59, .ireturn, 1), (60, .aload_n 0, 1), (61, .getfield 66, 3), (64, .iload_n 1, 1), (65, .iload_n 2, 1), (66, .iastore, 1), (67, .aload_n 0, 1), (68, .getfield 69, 3), (71, .iload_n 1, 1), (72, .iload_n 2, 1), (73, .ifCond .ge 7, 3), (76, .iconst 0, 1), (77, .goto 4, 3), (80, .iload_n 3, 1), (81, .iastore, 1), (82, .bipush 40, 2), (84, .iload_n 1, 1), (85, .imul, 1), (86, .istore 4, 2), (88, .iload 4, 2), (90, .bipush 40, 2), (92, .iload_n 1, 1), (93, .imul, 1), (94, .bipush 40, 2), (96, .iadd, 1), (97, .if_icmp .ge 33, 3), (100, .aload_n 0, 1), (101, .getfield 72, 3), (104, .iload 4, 2), (106, .fconst 0, 1), (107, .fastore, 1), (108, .aload_n 0, 1), (109, .getfield 75, 3), (112, .iload 4, 2), (114, .dconst 0, 1), (115, .dastore, 1), (116, .aload_n 0, 1), (117, .getfield 79, 3), (120, .iload 4, 2), (122, .iconst 0, 1), (123, .iastore, 1), (124, .iinc 4 1, 3), (127, .goto (-39), 3), (130, .iconst 1, 1), (131, .ireturn, 1)]
theorem tbX9_sheet_ok : pTabOk cX9_sheet tbX9_sheet = true := by decide +kernel
def tbX9_isItem : pTab := [(0, .aload_n 0, 1), (1, .getfield 66, 3), (4, .iload_n 1, 1), (5, .iaload, 1), (6, .ifCond .lt 25, 3), (9, .iload_n 2, 1), (10, .i2l, 1), (11, .lconst 0, 1), (12, .aload_n 0, 1), (13, .getfield 69, 3), (16, .iload_n 1, 1), (17, .iaload, 1), (18, .iconst 1, 1), (19, .isub, 1), (20, .i2l, 1), (21, .invokestatic 85, 3), (24, .ifCond .eq 7, 3), (27, .iconst 1, 1), (28, .goto 4, 3), (31, .iconst 0, 1), (32, .ireturn, 1)]
theorem tbX9_isItem_ok : pTabOk cX9_isItem tbX9_isItem = true := by decide +kernel
def tbX9_narrow : pTab := [(0, .iload_n 0, 1), (1, .iconst 2, 1), (2, .if_icmp .ne 8, 3), (5, .iload_n 1, 1), (6, .i2s, 1), (7, .goto 4, 3), (10, .iload_n 1, 1), (11, .ireturn, 1)]
theorem tbX9_narrow_ok : pTabOk cX9_narrow tbX9_narrow = true := by decide +kernel
def tbX9_put : pTab := [(0, .iload_n 1, 1), (1, .invokestatic 301, 3), (4, .ifCond .eq 16, 3), (7, .iload 5, 2), (9, .i2l, 1), (10, .lconst 0, 1), (11, .ldc2_w 95, 3), (14, .invokestatic 85, 3), (17, .ifCond .ne 10, 3), (20, .aload_n 0, 1), (21, .ldc 109, 2), (23, .invokevirtual 110, 3), (26, .ireturn, 1), (27, .aload_n 0, 1), (28, .iload_n 1, 1), (29, .iload_n 2, 1), (30, .invokevirtual 304, 3), (33, .ifCond .ne 11, 3), (36, .aload_n 0, 1), (37, .ldc_w 300, 3), (40, .invokevirtual 110, 3), (43, .ireturn, 1), (44, .bipush 40, 2), (46, .iload_n 1, 1), (47, .imul, 1), (48, .iload_n 2, 1), (49, .iadd, 1), (50, .istore 6, 2), (52, .aload_n 0, 1), (53, .getfield 66, 3), (56, .iload_n 1, 1), (57, .iaload, 1), (58, .ifCond .ne 25, 3), (61, .lload_n 3, 1), (62, .l2f, 1), (63, .fstore 7, 2), (65, .aload_n 0, 1), (66, .getfield 72, 3), (69, .iload 6, 2), (71, .fload 7, 2), (73, .iconst 1, 1), (74, .iload 5, 2), (76, .ishl, 1), (77, .i2f, 1), (78, .fdiv, 1), (79, .fastore, 1), (80, .goto 53, 3), (83, .aload_n 0, 1), (84, .getfield 66, 3), (87, .iload_n 1, 1), (88, .iaload, 1), (89, .iconst 1, 1), (90, .if_icmp .ne 25, 3), (93, .lload_n 3, 1), (94, .l2d, 1), (95, .dstore 7, 2), (97, .aload_n 0, 1), (98, .getfield 75, 3), (101, .iload 6, 2), (103, .dload 7, 2), (105, .iconst 1, 1), (106, .iload 5, 2), (108, .ishl, 1), (109, .i2d, 1), (110, .ddiv, 1), (111, .dastore, 1), (112, .goto 21, 3), (115, .aload_n 0, 1), (116, .getfield 79, 3), (119, .iload 6, 2), (121, .aload_n 0, 1), (122, .getfield 66, 3), (125, .iload_n 1, 1), (126, .iaload, 1), (127, .lload_n 3, 1), (128, .l2i, 1), (129, .invokestatic 307, 3), (132, .iastore, 1), (133, .iconst 1, 1), (134, .ireturn, 1)]
theorem tbX9_put_ok : pTabOk cX9_put tbX9_put = true := by decide +kernel
def tbX9_bits : pTab := [(0, .iload_n 1, 1), (1, .invokestatic 301, 3), (4, .ifCond .ne 10, 3), (7, .aload_n 0, 1), (8, .ldc 109, 2), (10, .invokevirtual 310, 3), (13, .lreturn, 1), (14, .aload_n 0, 1), (15, .iload_n 1, 1), (16, .iload_n 2, 1), (17, .invokevirtual 304, 3), (20, .ifCond .ne 11, 3), (23, .aload_n 0, 1), (24, .ldc_w 300, 3), (27, .invokevirtual 310, 3), (30, .lreturn, 1), (31, .bipush 40, 2), (33, .iload_n 1, 1), (34, .imul, 1), (35, .iload_n 2, 1), (36, .iadd, 1), (37, .istore_n 3, 1), (38, .aload_n 0, 1), (39, .getfield 66, 3), (42, .iload_n 1, 1), (43, .iaload, 1), (44, .ifCond .ne 16, 3), (47, .aload_n 0, 1), (48, .getfield 72, 3), (51, .iload_n 3, 1), (52, .faload, 1), (53, .invokestatic 153, 3), (56, .i2l, 1), (57, .goto 32, 3), (60, .aload_n 0, 1), (61, .getfield 66, 3), (64, .iload_n 1, 1), (65, .iaload, 1), (66, .iconst 1, 1), (67, .if_icmp .ne 15, 3), (70, .aload_n 0, 1), (71, .getfield 75, 3), (74, .iload_n 3, 1), (75, .daload, 1), (76, .invokestatic 314, 3), (79, .goto 10, 3), (82, .aload_n 0, 1), (83, .getfield 79, 3), (86, .iload_n 3, 1), (87, .iaload, 1), (88, .i2l, 1), (89, .lreturn, 1)]
theorem tbX9_bits_ok : pTabOk cX9_bits tbX9_bits = true := by decide +kernel
def tbX9_cast : pTab := [(0, .iload_n 1, 1), (1, .invokestatic 301, 3), (4, .ifCond .ne 10, 3), (7, .aload_n 0, 1), (8, .ldc 109, 2), (10, .invokevirtual 110, 3), (13, .ireturn, 1), (14, .aload_n 0, 1), (15, .iload_n 1, 1), (16, .iload_n 2, 1), (17, .invokevirtual 304, 3), (20, .ifCond .ne 11, 3), (23, .aload_n 0, 1), (24, .ldc_w 300, 3), (27, .invokevirtual 110, 3), (30, .ireturn, 1), (31, .bipush 40, 2), (33, .iload_n 1, 1), (34, .imul, 1), (35, .iload_n 2, 1), (36, .iadd, 1), (37, .istore_n 3, 1), (38, .aload_n 0, 1), (39, .getfield 66, 3), (42, .iload_n 1, 1), (43, .iaload, 1), (44, .ifCond .ne 13, 3), (47, .aload_n 0, 1), (48, .getfield 72, 3), (51, .iload_n 3, 1), (52, .faload, 1), (53, .f2i, 1), (54, .goto 29, 3), (57, .aload_n 0, 1), (58, .getfield 66, 3), (61, .iload_n 1, 1), (62, .iaload, 1), (63, .iconst 1, 1), (64, .if_icmp .ne 13, 3), (67, .aload_n 0, 1), (68, .getfield 75, 3), (71, .iload_n 3, 1), (72, .daload, 1), (73, .d2i, 1), (74, .goto 9, 3), (77, .aload_n 0, 1), (78, .getfield 79, 3), (81, .iload_n 3, 1), (82, .iaload, 1), (83, .ireturn, 1)]
theorem tbX9_cast_ok : pTabOk cX9_cast tbX9_cast = true := by decide +kernel
def tbX9_isNought : pTab := [(0, .aload_n 0, 1), (1, .getfield 66, 3), (4, .iload_n 1, 1), (5, .iaload, 1), (6, .ifCond .ne 22, 3), (9, .aload_n 0, 1), (10, .getfield 72, 3), (13, .iload_n 2, 1), (14, .faload, 1), (15, .fconst 0, 1), (16, .fcmp .l, 1), (17, .ifCond .ne 7, 3), (20, .iconst 1, 1), (21, .goto 50, 3), (24, .iconst 0, 1), (25, .goto 46, 3), (28, .aload_n 0, 1), (29, .getfield 66, 3), (32, .iload_n 1, 1), (33, .iaload, 1), (34, .iconst 1, 1), (35, .if_icmp .ne 22, 3), (38, .aload_n 0, 1), (39, .getfield 75, 3), (42, .iload_n 2, 1), (43, .daload, 1), (44, .dconst 0, 1), (45, .dcmp .l, 1), (46, .ifCond .ne 7, 3), (49, .iconst 1, 1), (50, .goto 21, 3), (53, .iconst 0, 1), (54, .goto 17, 3), (57, .aload_n 0, 1), (58, .getfield 79, 3), (61, .iload_n 2, 1), (62, .iaload, 1), (63, .ifCond .ne 7, 3), (66, .iconst 1, 1), (67, .goto 4, 3), (70, .iconst 0, 1), (71, .ireturn, 1)]
theorem tbX9_isNought_ok : pTabOk cX9_isNought tbX9_isNought = true := by decide +kernel
def tbX9_rest : pTab := [(0, .iload_n 1, 1), (1, .invokestatic 301, 3), (4, .ifCond .ne 10, 3), (7, .aload_n 0, 1), (8, .ldc 109, 2), (10, .invokevirtual 110, 3), (13, .ireturn, 1), (14, .aload_n 0, 1), (15, .iload_n 1, 1), (16, .iload_n 2, 1), (17, .invokevirtual 304, 3), (20, .ifCond .eq 12, 3), (23, .aload_n 0, 1), (24, .iload_n 1, 1), (25, .iload_n 3, 1), (26, .invokevirtual 304, 3), (29, .ifCond .ne 11, 3), (32, .aload_n 0, 1), (33, .ldc_w 300, 3), (36, .invokevirtual 110, 3), (39, .ireturn, 1), (40, .bipush 40, 2), (42, .iload_n 1, 1), (43, .imul, 1), (44, .iload_n 2, 1), (45, .iadd, 1), (46, .istore 4, 2), (48, .bipush 40, 2), (50, .iload_n 1, 1), (51, .imul, 1), (52, .iload_n 3, 1), (53, .iadd, 1), (54, .istore 5, 2), (56, .aload_n 0, 1), (57, .iload_n 1, 1), (58, .iload 5, 2), (60, .invokevirtual 320, 3), (63, .ifCond .eq 11, 3), (66, .aload_n 0, 1), (67, .ldc_w 323, 3), (70, .invokevirtual 110, 3), (73, .ireturn, 1), (74, .aload_n 0, 1), (75, .getfield 66, 3), (78, .iload_n 1, 1), (79, .iaload, 1), (80, .ifCond .ne 28, 3), (83, .aload_n 0, 1), (84, .getfield 72, 3), (87, .iload 4, 2), (89, .aload_n 0, 1), (90, .getfield 72, 3), (93, .iload 4, 2), (95, .faload, 1), (96, .aload_n 0, 1), (97, .getfield 72, 3), (100, .iload 5, 2), (102, .faload, 1), (103, .frem, 1), (104, .fastore, 1), (105, .goto 60, 3), (108, .aload_n 0, 1), (109, .getfield 66, 3), (112, .iload_n 1, 1), (113, .iaload, 1), (114, .iconst 1, 1), (115, .if_icmp .ne 28, 3), (118, .aload_n 0, 1), (119, .getfield 75, 3), (122, .iload 4, 2), (124, .aload_n 0, 1), (125, .getfield 75, 3), (128, .iload 4, 2), (130, .daload, 1), (131, .aload_n 0, 1), (132, .getfield 75, 3), (135, .iload 5, 2), (137, .daload, 1), (138, .drem, 1), (139, .dastore, 1), (140, .goto 25, 3), (143, .aload_n 0, 1), (144, .getfield 79, 3), (147, .iload 4, 2), (149, .aload_n 0, 1), (150, .getfield 79, 3), (153, .iload 4, 2), (155, .iaload, 1), (156, .aload_n 0, 1), (157, .getfield 79, 3), (160, .iload 5, 2), (162, .iaload, 1), (163, .irem, 1), (164, .iastore, 1), (165, .iconst 1, 1), (166, .ireturn, 1)]
theorem tbX9_rest_ok : pTabOk cX9_rest tbX9_rest = true := by decide +kernel
def tbX9_lays : pTab := [(0, .iload_n 1, 1), (1, .invokestatic 301, 3), (4, .ifCond .eq 12, 3), (7, .aload_n 0, 1), (8, .iload_n 2, 1), (9, .iload_n 3, 1), (10, .invokevirtual 176, 3), (13, .ifCond .ne 10, 3), (16, .aload_n 0, 1), (17, .ldc 109, 2), (19, .invokevirtual 110, 3), (22, .ireturn, 1), (23, .aload_n 0, 1), (24, .getfield 66, 3), (27, .iload_n 1, 1), (28, .iaload, 1), (29, .ifCond .ge 11, 3), (32, .aload_n 0, 1), (33, .ldc_w 300, 3), (36, .invokevirtual 110, 3), (39, .ireturn, 1), (40, .aload_n 0, 1), (41, .iload_n 2, 1), (42, .iload_n 3, 1), (43, .invokevirtual 179, 3), (46, .iconst 0, 1), (47, .istore 4, 2), (49, .iload 4, 2), (51, .aload_n 0, 1), (52, .getfield 69, 3), (55, .iload_n 1, 1), (56, .iaload, 1), (57, .if_icmp .ge 110, 3), (60, .iload_n 2, 1), (61, .iload 4, 2), (63, .iadd, 1), (64, .iload_n 3, 1), (65, .if_icmp .gt 102, 3), (68, .bipush 40, 2), (70, .iload_n 1, 1), (71, .imul, 1), (72, .iload 4, 2), (74, .iadd, 1), (75, .istore 5, 2), (77, .aload_n 0, 1), (78, .getfield 66, 3), (81, .iload_n 1, 1), (82, .iaload, 1), (83, .ifCond .ne 22, 3), (86, .aload_n 0, 1), (87, .getfield 72, 3), (90, .iload 5, 2), (92, .aload_n 0, 1), (93, .getfield 27, 3), (96, .iload_n 2, 1), (97, .iload 4, 2), (99, .iadd, 1), (100, .faload, 1), (101, .fastore, 1), (102, .goto 59, 3), (105, .aload_n 0, 1), (106, .getfield 66, 3), (109, .iload_n 1, 1), (110, .iaload, 1), (111, .iconst 1, 1), (112, .if_icmp .ne 23, 3), (115, .aload_n 0, 1), (116, .getfield 75, 3), (119, .iload 5, 2), (121, .aload_n 0, 1), (122, .getfield 27, 3), (125, .iload_n 2, 1), (126, .iload 4, 2), (128, .iadd, 1), (129, .faload, 1), (130, .f2d, 1), (131, .dastore, 1), (132, .goto 29, 3), (135, .aload_n 0, 1), (136, .getfield 79, 3), (139, .iload 5, 2), (141, .aload_n 0, 1), (142, .getfield 66, 3), (145, .iload_n 1, 1), (146, .iaload, 1), (147, .aload_n 0, 1), (148, .getfield 27, 3), (151, .iload_n 2, 1), (152, .iload 4, 2), (154, .iadd, 1), (155, .faload, 1), (156, .f2i, 1), (157, .invokestatic 307, 3), (160, .iastore, 1), (161, .iinc 4 1, 3), (164, .goto (-115), 3), (167, .iload 4, 2), (169, .ireturn, 1)]
theorem tbX9_lays_ok : pTabOk cX9_lays tbX9_lays = true := by decide +kernel
def tbX9_image : pTab := [(0, .aload_n 0, 1), (1, .getfield 9, 3), (4, .aload_n 0, 1), (5, .getfield 13, 3), (8, .invokestatic 324, 3), (11, .aload_n 0, 1), (12, .iconst 1, 1), (13, .putfield 328, 3), (16, .aload_n 0, 1), (17, .getfield 9, 3), (20, .iconst 0, 1), (21, .iaload, 1), (22, .ireturn, 1)]
theorem tbX9_image_ok : pTabOk cX9_image tbX9_image = true := by decide +kernel
def tbX9_restore : pTab := [(0, .aload_n 0, 1), (1, .getfield 328, 3), (4, .ifCond .ne 10, 3), (7, .aload_n 0, 1), (8, .ldc 119, 2), (10, .invokevirtual 110, 3), (13, .ireturn, 1), (14, .aload_n 0, 1), (15, .getfield 13, 3), (18, .aload_n 0, 1), (19, .getfield 9, 3), (22, .invokestatic 324, 3), (25, .aload_n 0, 1), (26, .getfield 9, 3), (29, .iconst 0, 1), (30, .iaload, 1), (31, .ireturn, 1)]
theorem tbX9_restore_ok : pTabOk cX9_restore tbX9_restore = true := by decide +kernel
def tbX9_notes : pTab := [(0, .iconst 0, 1), (1, .istore_n 1, 1), (2, .iconst 0, 1), (3, .istore_n 2, 1), (4, .iload_n 2, 1), (5, .aload_n 0, 1), (6, .getfield 9, 3), (9, .iconst 0, 1), (10, .iaload, 1), (11, .if_icmp .ge 26, 3), (14, .iload_n 1, 1), (15, .aload_n 0, 1), (16, .iload_n 2, 1), (17, .iconst 0, 1), (18, .invokevirtual 124, 3), (21, .ifCond .ne 7, 3), (24, .iconst 1, 1), (25, .goto 4, 3), (28, .iconst 0, 1), (29, .iadd, 1), (30, .istore_n 1, 1), (31, .iinc 2 1, 3), (34, .goto (-30), 3), (37, .iload_n 1, 1), (38, .ireturn, 1)]
theorem tbX9_notes_ok : pTabOk cX9_notes tbX9_notes = true := by decide +kernel
def tbX9_durations : pTab := [(0, .iconst 0, 1), (1, .istore_n 1, 1), (2, .iconst 0, 1), (3, .istore_n 2, 1), (4, .iload_n 2, 1), (5, .aload_n 0, 1), (6, .getfield 9, 3), (9, .iconst 0, 1), (10, .iaload, 1), (11, .if_icmp .ge 32, 3), (14, .iload_n 1, 1), (15, .aload_n 0, 1), (16, .iload_n 2, 1), (17, .iconst 0, 1), (18, .invokevirtual 124, 3), (21, .iconst 2, 1), (22, .if_icmp .ne 7, 3), (25, .iconst 0, 1), (26, .goto 9, 3), (29, .aload_n 0, 1), (30, .iload_n 2, 1), (31, .iconst 1, 1), (32, .invokevirtual 124, 3), (35, .iadd, 1), (36, .istore_n 1, 1), (37, .iinc 2 1, 3), (40, .goto (-36), 3), (43, .iload_n 1, 1), (44, .ireturn, 1)]
theorem tbX9_durations_ok : pTabOk cX9_durations tbX9_durations = true := by decide +kernel
def tbX9_shelved : pTab := [(0, .iconst 0, 1), (1, .istore_n 1, 1), (2, .iconst 0, 1), (3, .istore_n 2, 1), (4, .iload_n 2, 1), (5, .iconst 3, 1), (6, .if_icmp .ge 53, 3), (9, .iconst 0, 1), (10, .istore_n 3, 1), (11, .iload_n 3, 1), (12, .bipush 12, 2), (14, .if_icmp .ge 39, 3), (17, .iload_n 1, 1), (18, .aload_n 0, 1), (19, .iload_n 2, 1), (20, .iload_n 3, 1), (21, .invokevirtual 297, 3), (24, .ifCond .eq 20, 3), (27, .aload_n 0, 1), (28, .getfield 9, 3), (31, .iload_n 2, 1), (32, .iload_n 3, 1), (33, .invokestatic 294, 3), (36, .iaload, 1), (37, .ifCond .lt 7, 3), (40, .iconst 1, 1), (41, .goto 4, 3), (44, .iconst 0, 1), (45, .iadd, 1), (46, .istore_n 1, 1), (47, .iinc 3 1, 3), (50, .goto (-39), 3), (53, .iinc 2 1, 3), (56, .goto (-52), 3), (59, .iload_n 1, 1), (60, .ireturn, 1)]
theorem tbX9_shelved_ok : pTabOk cX9_shelved tbX9_shelved = true := by decide +kernel
def tbX9_count : pTab := [(0, .iload_n 1, 1), (1, .tableswitch 73 0 5 #[39, 46, 53, 58, 63, 68], 39), (40, .aload_n 0, 1), (41, .getfield 9, 3), (44, .iconst 0, 1), (45, .iaload, 1), (46, .ireturn, 1), (47, .aload_n 0, 1), (48, .getfield 9, 3), (51, .iconst 1, 1), (52, .iaload, 1), (53, .ireturn, 1), (54, .aload_n 0, 1), (55, .getfield 257, 3), (58, .ireturn, 1), (59, .aload_n 0, 1), (60, .invokevirtual 331, 3), (63, .ireturn, 1), (64, .aload_n 0, 1), (65, .invokevirtual 335, 3), (68, .ireturn, 1), (69, .aload_n 0, 1), (70, .invokevirtual 338, 3), (73, .ireturn, 1), (74, .aload_n 0, 1), (75, .ldc 109, 2), (77, .invokevirtual 110, 3), (80, .ireturn, 1)]
theorem tbX9_count_ok : pTabOk cX9_count tbX9_count = true := by decide +kernel
def tbX9_told : pTab := [(0, .iload_n 1, 1), (1, .i2l, 1), (2, .lconst 1, 1), (3, .ldc2_w 341, 3), (6, .invokestatic 85, 3), (9, .ifCond .eq 12, 3), (12, .aload_n 0, 1), (13, .getfield 16, 3), (16, .iload_n 1, 1), (17, .iaload, 1), (18, .goto 9, 3), (21, .aload_n 0, 1), (22, .ldc 109, 2), (24, .invokevirtual 110, 3), (27, .ireturn, 1)]
theorem tbX9_told_ok : pTabOk cX9_told tbX9_told = true := by decide +kernel
def tbJxe99ae_isNaN_b9ae7 : pTab := [(0, .dload_n 0, 1), (1, .dload_n 0, 1), (2, .dcmp .l, 1), (3, .ifCond .eq 7, 3), (6, .iconst 1, 1), (7, .goto 4, 3), (10, .iconst 0, 1), (11, .ireturn, 1)]
theorem tbJxe99ae_isNaN_b9ae7_ok : pTabOk cJxe99ae_isNaN_b9ae7 tbJxe99ae_isNaN_b9ae7 = true := by decide +kernel
def tbJxe99ae_doubleToLongBits_ccdee : pTab := [(0, .dload_n 0, 1), (1, .invokestatic 122, 3), (4, .ifCond .ne 8, 3), (7, .dload_n 0, 1), (8, .invokestatic 134, 3), (11, .lreturn, 1), (12, .ldc2_w 137, 3), (15, .lreturn, 1)]
theorem tbJxe99ae_doubleToLongBits_ccdee_ok : pTabOk cJxe99ae_doubleToLongBits_ccdee tbJxe99ae_doubleToLongBits_ccdee = true := by decide +kernel
def tbJxf58ca_isNaN_12338 : pTab := [(0, .fload_n 0, 1), (1, .fload_n 0, 1), (2, .fcmp .l, 1), (3, .ifCond .eq 7, 3), (6, .iconst 1, 1), (7, .goto 4, 3), (10, .iconst 0, 1), (11, .ireturn, 1)]
theorem tbJxf58ca_isNaN_12338_ok : pTabOk cJxf58ca_isNaN_12338 tbJxf58ca_isNaN_12338 = true := by decide +kernel
def tbJxf58ca_floatToIntBits_5c35a : pTab := [(0, .fload_n 0, 1), (1, .invokestatic 59, 3), (4, .ifCond .ne 8, 3), (7, .fload_n 0, 1), (8, .invokestatic 74, 3), (11, .ireturn, 1), (12, .ldc 77, 2), (14, .ireturn, 1)]
theorem tbJxf58ca_floatToIntBits_5c35a_ok : pTabOk cJxf58ca_floatToIntBits_5c35a tbJxf58ca_floatToIntBits_5c35a = true := by decide +kernel
def tbJ9_max_7cf53 : pTab := [(0, .iload_n 0, 1), (1, .iload_n 1, 1), (2, .if_icmp .lt 7, 3), (5, .iload_n 0, 1), (6, .goto 4, 3), (9, .iload_n 1, 1), (10, .ireturn, 1)]
theorem tbJ9_max_7cf53_ok : pTabOk cJ9_max_7cf53 tbJ9_max_7cf53 = true := by decide +kernel
def tbJ9_min_7cf53 : pTab := [(0, .iload_n 0, 1), (1, .iload_n 1, 1), (2, .if_icmp .gt 7, 3), (5, .iload_n 0, 1), (6, .goto 4, 3), (9, .iload_n 1, 1), (10, .ireturn, 1)]
theorem tbJ9_min_7cf53_ok : pTabOk cJ9_min_7cf53 tbJ9_min_7cf53 = true := by decide +kernel
end
section
def tbL_law_0 : pTab := [(0, .new 7, 3), (3, .dup, 1), (4, .invokespecial 9, 3), (7, .astore_n 1, 1), (8, .new 10, 3), (11, .dup, 1), (12, .invokespecial 12, 3), (15, .astore_n 2, 1), (16, .iconst 0, 1), (17, .istore_n 3, 1), (18, .iload_n 3, 1), (19, .aload_n 0, 1), (20, .arraylength, 1), (21, .bipush 6, 2), (23, .isub, 1), (24, .if_icmp .gt 1339, 3), (27, .aload_n 0, 1), (28, .iload_n 3, 1), (29, .iaload, 1), (30, .bipush 63, 2), (32, .iand, 1), (33, .tableswitch 1324 0 33 #[151, 184, 197, 240, 273, 306, 329, 362, 395, 448, 481, 534, 587, 600, 633, 646, 689, 732, 775, 798, 811, 854, 897, 940, 973, 1016, 1099, 1133, 1166, 1209, 1252, 1265, 1278, 1301], 151), (184, .aload_n 1, 1), (185, .aload_n 0, 1), (186, .iload_n 3, 1), (187, .iconst 1, 1), (188, .iadd, 1), (189, .iaload, 1), (190, .aload_n 0, 1), (191, .iload_n 3, 1), (192, .iconst 2, 1), (193, .iadd, 1), (194, .iaload, 1), (195, .invokevirtual 13, 3), (198, .aload_n 2, 1), (199, .aload_n 0, 1), (200, .iload_n 3, 1), (201, .iconst 1, 1), (202, .iadd, 1), (203, .iaload, 1), (204, .aload_n 0, 1), (205, .iload_n 3, 1), (206, .iconst 2, 1), (207, .iadd, 1), (208, .iaload, 1), (209, .invokevirtual 17, 3), (212, .if_icmp .eq 1145, 3), (215, .iconst 0, 1), (216, .ireturn, 1), (217, .aload_n 1, 1)]
theorem tbL_law_0_ok : pTabOk cL_law tbL_law_0 = true := by decide +kernel
def tbL_law_1 : pTab := [(218, .invokevirtual 18, 3), (221, .aload_n 2, 1), (222, .invokevirtual 22, 3), (225, .if_icmp .eq 1132, 3), (228, .iconst 0, 1), (229, .ireturn, 1), (230, .aload_n 1, 1), (231, .aload_n 0, 1), (232, .iload_n 3, 1), (233, .iconst 1, 1), (234, .iadd, 1), (235, .iaload, 1), (236, .aload_n 0, 1), (237, .iload_n 3, 1), (238, .iconst 2, 1), (239, .iadd, 1), (240, .iaload, 1), (241, .aload_n 0, 1), (242, .iload_n 3, 1), (243, .iconst 3, 1), (244, .iadd, 1), (245, .iaload, 1), (246, .invokevirtual 23, 3), (249, .aload_n 2, 1), (250, .aload_n 0, 1), (251, .iload_n 3, 1), (252, .iconst 1, 1), (253, .iadd, 1), (254, .iaload, 1), (255, .aload_n 0, 1), (256, .iload_n 3, 1), (257, .iconst 2, 1), (258, .iadd, 1), (259, .iaload, 1), (260, .aload_n 0, 1), (261, .iload_n 3, 1), (262, .iconst 3, 1), (263, .iadd, 1), (264, .iaload, 1), (265, .invokevirtual 27, 3), (268, .if_icmp .eq 1089, 3), (271, .iconst 0, 1), (272, .ireturn, 1), (273, .aload_n 1, 1), (274, .aload_n 0, 1), (275, .iload_n 3, 1), (276, .iconst 1, 1), (277, .iadd, 1), (278, .iaload, 1), (279, .aload_n 0, 1)]
theorem tbL_law_1_ok : pTabOk cL_law tbL_law_1 = true := by decide +kernel
def tbL_law_2 : pTab := [(280, .iload_n 3, 1), (281, .iconst 2, 1), (282, .iadd, 1), (283, .iaload, 1), (284, .invokevirtual 28, 3), (287, .aload_n 2, 1), (288, .aload_n 0, 1), (289, .iload_n 3, 1), (290, .iconst 1, 1), (291, .iadd, 1), (292, .iaload, 1), (293, .aload_n 0, 1), (294, .iload_n 3, 1), (295, .iconst 2, 1), (296, .iadd, 1), (297, .iaload, 1), (298, .invokevirtual 31, 3), (301, .if_icmp .eq 1056, 3), (304, .iconst 0, 1), (305, .ireturn, 1), (306, .aload_n 1, 1), (307, .aload_n 0, 1), (308, .iload_n 3, 1), (309, .iconst 1, 1), (310, .iadd, 1), (311, .iaload, 1), (312, .aload_n 0, 1), (313, .iload_n 3, 1), (314, .iconst 2, 1), (315, .iadd, 1), (316, .iaload, 1), (317, .invokevirtual 32, 3), (320, .aload_n 2, 1), (321, .aload_n 0, 1), (322, .iload_n 3, 1), (323, .iconst 1, 1), (324, .iadd, 1), (325, .iaload, 1), (326, .aload_n 0, 1), (327, .iload_n 3, 1), (328, .iconst 2, 1), (329, .iadd, 1), (330, .iaload, 1), (331, .invokevirtual 35, 3), (334, .if_icmp .eq 1023, 3), (337, .iconst 0, 1), (338, .ireturn, 1), (339, .aload_n 1, 1), (340, .aload_n 0, 1), (341, .iload_n 3, 1)]
theorem tbL_law_2_ok : pTabOk cL_law tbL_law_2 = true := by decide +kernel
def tbL_law_3 : pTab := [(342, .iconst 1, 1), (343, .iadd, 1), (344, .iaload, 1), (345, .invokevirtual 36, 3), (348, .aload_n 2, 1), (349, .aload_n 0, 1), (350, .iload_n 3, 1), (351, .iconst 1, 1), (352, .iadd, 1), (353, .iaload, 1), (354, .invokevirtual 40, 3), (357, .if_icmp .eq 1000, 3), (360, .iconst 0, 1), (361, .ireturn, 1), (362, .aload_n 1, 1), (363, .aload_n 0, 1), (364, .iload_n 3, 1), (365, .iconst 1, 1), (366, .iadd, 1), (367, .iaload, 1), (368, .aload_n 0, 1), (369, .iload_n 3, 1), (370, .iconst 2, 1), (371, .iadd, 1), (372, .iaload, 1), (373, .invokevirtual 41, 3), (376, .aload_n 2, 1), (377, .aload_n 0, 1), (378, .iload_n 3, 1), (379, .iconst 1, 1), (380, .iadd, 1), (381, .iaload, 1), (382, .aload_n 0, 1), (383, .iload_n 3, 1), (384, .iconst 2, 1), (385, .iadd, 1), (386, .iaload, 1), (387, .invokevirtual 44, 3), (390, .if_icmp .eq 967, 3), (393, .iconst 0, 1), (394, .ireturn, 1), (395, .aload_n 1, 1), (396, .aload_n 0, 1), (397, .iload_n 3, 1), (398, .iconst 1, 1), (399, .iadd, 1), (400, .iaload, 1), (401, .aload_n 0, 1), (402, .iload_n 3, 1), (403, .iconst 2, 1)]
theorem tbL_law_3_ok : pTabOk cL_law tbL_law_3 = true := by decide +kernel
def tbL_law_4 : pTab := [(404, .iadd, 1), (405, .iaload, 1), (406, .invokevirtual 45, 3), (409, .aload_n 2, 1), (410, .aload_n 0, 1), (411, .iload_n 3, 1), (412, .iconst 1, 1), (413, .iadd, 1), (414, .iaload, 1), (415, .aload_n 0, 1), (416, .iload_n 3, 1), (417, .iconst 2, 1), (418, .iadd, 1), (419, .iaload, 1), (420, .invokevirtual 48, 3), (423, .if_icmp .eq 934, 3), (426, .iconst 0, 1), (427, .ireturn, 1), (428, .aload_n 1, 1), (429, .aload_n 0, 1), (430, .iload_n 3, 1), (431, .iconst 1, 1), (432, .iadd, 1), (433, .iaload, 1), (434, .aload_n 0, 1), (435, .iload_n 3, 1), (436, .iconst 2, 1), (437, .iadd, 1), (438, .iaload, 1), (439, .aload_n 0, 1), (440, .iload_n 3, 1), (441, .iconst 3, 1), (442, .iadd, 1), (443, .iaload, 1), (444, .aload_n 0, 1), (445, .iload_n 3, 1), (446, .iconst 4, 1), (447, .iadd, 1), (448, .iaload, 1), (449, .invokevirtual 49, 3), (452, .aload_n 2, 1), (453, .aload_n 0, 1), (454, .iload_n 3, 1), (455, .iconst 1, 1), (456, .iadd, 1), (457, .iaload, 1), (458, .aload_n 0, 1), (459, .iload_n 3, 1), (460, .iconst 2, 1), (461, .iadd, 1)]
theorem tbL_law_4_ok : pTabOk cL_law tbL_law_4 = true := by decide +kernel
def tbL_law_5 : pTab := [(462, .iaload, 1), (463, .aload_n 0, 1), (464, .iload_n 3, 1), (465, .iconst 3, 1), (466, .iadd, 1), (467, .iaload, 1), (468, .aload_n 0, 1), (469, .iload_n 3, 1), (470, .iconst 4, 1), (471, .iadd, 1), (472, .iaload, 1), (473, .invokevirtual 53, 3), (476, .if_icmp .eq 881, 3), (479, .iconst 0, 1), (480, .ireturn, 1), (481, .aload_n 1, 1), (482, .aload_n 0, 1), (483, .iload_n 3, 1), (484, .iconst 1, 1), (485, .iadd, 1), (486, .iaload, 1), (487, .aload_n 0, 1), (488, .iload_n 3, 1), (489, .iconst 2, 1), (490, .iadd, 1), (491, .iaload, 1), (492, .invokevirtual 54, 3), (495, .aload_n 2, 1), (496, .aload_n 0, 1), (497, .iload_n 3, 1), (498, .iconst 1, 1), (499, .iadd, 1), (500, .iaload, 1), (501, .aload_n 0, 1), (502, .iload_n 3, 1), (503, .iconst 2, 1), (504, .iadd, 1), (505, .iaload, 1), (506, .invokevirtual 57, 3), (509, .if_icmp .eq 848, 3), (512, .iconst 0, 1), (513, .ireturn, 1), (514, .aload_n 1, 1), (515, .aload_n 0, 1), (516, .iload_n 3, 1), (517, .iconst 1, 1), (518, .iadd, 1), (519, .iaload, 1), (520, .aload_n 0, 1), (521, .iload_n 3, 1)]
theorem tbL_law_5_ok : pTabOk cL_law tbL_law_5 = true := by decide +kernel
def tbL_law_6 : pTab := [(522, .iconst 2, 1), (523, .iadd, 1), (524, .iaload, 1), (525, .aload_n 0, 1), (526, .iload_n 3, 1), (527, .iconst 3, 1), (528, .iadd, 1), (529, .iaload, 1), (530, .aload_n 0, 1), (531, .iload_n 3, 1), (532, .iconst 4, 1), (533, .iadd, 1), (534, .iaload, 1), (535, .invokevirtual 58, 3), (538, .aload_n 2, 1), (539, .aload_n 0, 1), (540, .iload_n 3, 1), (541, .iconst 1, 1), (542, .iadd, 1), (543, .iaload, 1), (544, .aload_n 0, 1), (545, .iload_n 3, 1), (546, .iconst 2, 1), (547, .iadd, 1), (548, .iaload, 1), (549, .aload_n 0, 1), (550, .iload_n 3, 1), (551, .iconst 3, 1), (552, .iadd, 1), (553, .iaload, 1), (554, .aload_n 0, 1), (555, .iload_n 3, 1), (556, .iconst 4, 1), (557, .iadd, 1), (558, .iaload, 1), (559, .invokevirtual 61, 3), (562, .if_icmp .eq 795, 3), (565, .iconst 0, 1), (566, .ireturn, 1), (567, .aload_n 1, 1), (568, .aload_n 0, 1), (569, .iload_n 3, 1), (570, .iconst 1, 1), (571, .iadd, 1), (572, .iaload, 1), (573, .aload_n 0, 1), (574, .iload_n 3, 1), (575, .iconst 2, 1), (576, .iadd, 1), (577, .iaload, 1)]
theorem tbL_law_6_ok : pTabOk cL_law tbL_law_6 = true := by decide +kernel
end
section
def tbL_law_7 : pTab := [(578, .aload_n 0, 1), (579, .iload_n 3, 1), (580, .iconst 3, 1), (581, .iadd, 1), (582, .iaload, 1), (583, .aload_n 0, 1), (584, .iload_n 3, 1), (585, .iconst 4, 1), (586, .iadd, 1), (587, .iaload, 1), (588, .invokevirtual 62, 3), (591, .aload_n 2, 1), (592, .aload_n 0, 1), (593, .iload_n 3, 1), (594, .iconst 1, 1), (595, .iadd, 1), (596, .iaload, 1), (597, .aload_n 0, 1), (598, .iload_n 3, 1), (599, .iconst 2, 1), (600, .iadd, 1), (601, .iaload, 1), (602, .aload_n 0, 1), (603, .iload_n 3, 1), (604, .iconst 3, 1), (605, .iadd, 1), (606, .iaload, 1), (607, .aload_n 0, 1), (608, .iload_n 3, 1), (609, .iconst 4, 1), (610, .iadd, 1), (611, .iaload, 1), (612, .invokevirtual 65, 3), (615, .if_icmp .eq 742, 3), (618, .iconst 0, 1), (619, .ireturn, 1), (620, .aload_n 1, 1), (621, .invokevirtual 66, 3), (624, .aload_n 2, 1), (625, .invokevirtual 69, 3), (628, .if_icmp .eq 729, 3), (631, .iconst 0, 1), (632, .ireturn, 1), (633, .aload_n 1, 1), (634, .aload_n 0, 1), (635, .iload_n 3, 1), (636, .iconst 1, 1), (637, .iadd, 1), (638, .iaload, 1), (639, .aload_n 0, 1)]
theorem tbL_law_7_ok : pTabOk cL_law tbL_law_7 = true := by decide +kernel
def tbL_law_8 : pTab := [(640, .iload_n 3, 1), (641, .iconst 2, 1), (642, .iadd, 1), (643, .iaload, 1), (644, .invokevirtual 70, 3), (647, .aload_n 2, 1), (648, .aload_n 0, 1), (649, .iload_n 3, 1), (650, .iconst 1, 1), (651, .iadd, 1), (652, .iaload, 1), (653, .aload_n 0, 1), (654, .iload_n 3, 1), (655, .iconst 2, 1), (656, .iadd, 1), (657, .iaload, 1), (658, .invokevirtual 73, 3), (661, .if_icmp .eq 696, 3), (664, .iconst 0, 1), (665, .ireturn, 1), (666, .aload_n 1, 1), (667, .invokevirtual 74, 3), (670, .aload_n 2, 1), (671, .invokevirtual 77, 3), (674, .if_icmp .eq 683, 3), (677, .iconst 0, 1), (678, .ireturn, 1), (679, .aload_n 1, 1), (680, .aload_n 0, 1), (681, .iload_n 3, 1), (682, .iconst 1, 1), (683, .iadd, 1), (684, .iaload, 1), (685, .aload_n 0, 1), (686, .iload_n 3, 1), (687, .iconst 2, 1), (688, .iadd, 1), (689, .iaload, 1), (690, .aload_n 0, 1), (691, .iload_n 3, 1), (692, .iconst 3, 1), (693, .iadd, 1), (694, .iaload, 1), (695, .invokevirtual 78, 3), (698, .aload_n 2, 1), (699, .aload_n 0, 1), (700, .iload_n 3, 1), (701, .iconst 1, 1), (702, .iadd, 1), (703, .iaload, 1)]
theorem tbL_law_8_ok : pTabOk cL_law tbL_law_8 = true := by decide +kernel
def tbL_law_9 : pTab := [(704, .aload_n 0, 1), (705, .iload_n 3, 1), (706, .iconst 2, 1), (707, .iadd, 1), (708, .iaload, 1), (709, .aload_n 0, 1), (710, .iload_n 3, 1), (711, .iconst 3, 1), (712, .iadd, 1), (713, .iaload, 1), (714, .invokevirtual 81, 3), (717, .if_icmp .eq 640, 3), (720, .iconst 0, 1), (721, .ireturn, 1), (722, .aload_n 1, 1), (723, .aload_n 0, 1), (724, .iload_n 3, 1), (725, .iconst 1, 1), (726, .iadd, 1), (727, .iaload, 1), (728, .aload_n 0, 1), (729, .iload_n 3, 1), (730, .iconst 2, 1), (731, .iadd, 1), (732, .iaload, 1), (733, .aload_n 0, 1), (734, .iload_n 3, 1), (735, .iconst 3, 1), (736, .iadd, 1), (737, .iaload, 1), (738, .invokevirtual 82, 3), (741, .aload_n 2, 1), (742, .aload_n 0, 1), (743, .iload_n 3, 1), (744, .iconst 1, 1), (745, .iadd, 1), (746, .iaload, 1), (747, .aload_n 0, 1), (748, .iload_n 3, 1), (749, .iconst 2, 1), (750, .iadd, 1), (751, .iaload, 1), (752, .aload_n 0, 1), (753, .iload_n 3, 1), (754, .iconst 3, 1), (755, .iadd, 1), (756, .iaload, 1), (757, .invokevirtual 85, 3), (760, .if_icmp .eq 597, 3), (763, .iconst 0, 1)]
theorem tbL_law_9_ok : pTabOk cL_law tbL_law_9 = true := by decide +kernel
def tbL_law_10 : pTab := [(764, .ireturn, 1), (765, .aload_n 1, 1), (766, .aload_n 0, 1), (767, .iload_n 3, 1), (768, .iconst 1, 1), (769, .iadd, 1), (770, .iaload, 1), (771, .aload_n 0, 1), (772, .iload_n 3, 1), (773, .iconst 2, 1), (774, .iadd, 1), (775, .iaload, 1), (776, .aload_n 0, 1), (777, .iload_n 3, 1), (778, .iconst 3, 1), (779, .iadd, 1), (780, .iaload, 1), (781, .invokevirtual 86, 3), (784, .aload_n 2, 1), (785, .aload_n 0, 1), (786, .iload_n 3, 1), (787, .iconst 1, 1), (788, .iadd, 1), (789, .iaload, 1), (790, .aload_n 0, 1), (791, .iload_n 3, 1), (792, .iconst 2, 1), (793, .iadd, 1), (794, .iaload, 1), (795, .aload_n 0, 1), (796, .iload_n 3, 1), (797, .iconst 3, 1), (798, .iadd, 1), (799, .iaload, 1), (800, .invokevirtual 89, 3), (803, .if_icmp .eq 554, 3), (806, .iconst 0, 1), (807, .ireturn, 1), (808, .aload_n 1, 1), (809, .aload_n 0, 1), (810, .iload_n 3, 1), (811, .iconst 1, 1), (812, .iadd, 1), (813, .iaload, 1), (814, .invokevirtual 90, 3), (817, .aload_n 2, 1), (818, .aload_n 0, 1), (819, .iload_n 3, 1), (820, .iconst 1, 1), (821, .iadd, 1)]
theorem tbL_law_10_ok : pTabOk cL_law tbL_law_10 = true := by decide +kernel
def tbL_law_11 : pTab := [(822, .iaload, 1), (823, .invokevirtual 93, 3), (826, .if_icmp .eq 531, 3), (829, .iconst 0, 1), (830, .ireturn, 1), (831, .aload_n 1, 1), (832, .invokevirtual 94, 3), (835, .aload_n 2, 1), (836, .invokevirtual 97, 3), (839, .if_icmp .eq 518, 3), (842, .iconst 0, 1), (843, .ireturn, 1), (844, .aload_n 1, 1), (845, .aload_n 0, 1), (846, .iload_n 3, 1), (847, .iconst 1, 1), (848, .iadd, 1), (849, .iaload, 1), (850, .aload_n 0, 1), (851, .iload_n 3, 1), (852, .iconst 2, 1), (853, .iadd, 1), (854, .iaload, 1), (855, .aload_n 0, 1), (856, .iload_n 3, 1), (857, .iconst 3, 1), (858, .iadd, 1), (859, .iaload, 1), (860, .invokevirtual 98, 3), (863, .aload_n 2, 1), (864, .aload_n 0, 1), (865, .iload_n 3, 1), (866, .iconst 1, 1), (867, .iadd, 1), (868, .iaload, 1), (869, .aload_n 0, 1), (870, .iload_n 3, 1), (871, .iconst 2, 1), (872, .iadd, 1), (873, .iaload, 1), (874, .aload_n 0, 1), (875, .iload_n 3, 1), (876, .iconst 3, 1), (877, .iadd, 1), (878, .iaload, 1), (879, .invokevirtual 101, 3), (882, .if_icmp .eq 475, 3), (885, .iconst 0, 1), (886, .ireturn, 1), (887, .aload_n 1, 1)]
theorem tbL_law_11_ok : pTabOk cL_law tbL_law_11 = true := by decide +kernel
def tbL_law_12 : pTab := [(888, .aload_n 0, 1), (889, .iload_n 3, 1), (890, .iconst 1, 1), (891, .iadd, 1), (892, .iaload, 1), (893, .aload_n 0, 1), (894, .iload_n 3, 1), (895, .iconst 2, 1), (896, .iadd, 1), (897, .iaload, 1), (898, .aload_n 0, 1), (899, .iload_n 3, 1), (900, .iconst 3, 1), (901, .iadd, 1), (902, .iaload, 1), (903, .invokevirtual 102, 3), (906, .aload_n 2, 1), (907, .aload_n 0, 1), (908, .iload_n 3, 1), (909, .iconst 1, 1), (910, .iadd, 1), (911, .iaload, 1), (912, .aload_n 0, 1), (913, .iload_n 3, 1), (914, .iconst 2, 1), (915, .iadd, 1), (916, .iaload, 1), (917, .aload_n 0, 1), (918, .iload_n 3, 1), (919, .iconst 3, 1), (920, .iadd, 1), (921, .iaload, 1), (922, .invokevirtual 105, 3), (925, .if_icmp .eq 432, 3), (928, .iconst 0, 1), (929, .ireturn, 1), (930, .aload_n 1, 1), (931, .aload_n 0, 1), (932, .iload_n 3, 1), (933, .iconst 1, 1), (934, .iadd, 1), (935, .iaload, 1), (936, .aload_n 0, 1), (937, .iload_n 3, 1), (938, .iconst 2, 1), (939, .iadd, 1), (940, .iaload, 1), (941, .aload_n 0, 1), (942, .iload_n 3, 1), (943, .iconst 3, 1)]
theorem tbL_law_12_ok : pTabOk cL_law tbL_law_12 = true := by decide +kernel
def tbL_law_13 : pTab := [(944, .iadd, 1), (945, .iaload, 1), (946, .invokevirtual 106, 3), (949, .aload_n 2, 1), (950, .aload_n 0, 1), (951, .iload_n 3, 1), (952, .iconst 1, 1), (953, .iadd, 1), (954, .iaload, 1), (955, .aload_n 0, 1), (956, .iload_n 3, 1), (957, .iconst 2, 1), (958, .iadd, 1), (959, .iaload, 1), (960, .aload_n 0, 1), (961, .iload_n 3, 1), (962, .iconst 3, 1), (963, .iadd, 1), (964, .iaload, 1), (965, .invokevirtual 109, 3), (968, .if_icmp .eq 389, 3), (971, .iconst 0, 1), (972, .ireturn, 1), (973, .aload_n 1, 1), (974, .aload_n 0, 1), (975, .iload_n 3, 1), (976, .iconst 1, 1), (977, .iadd, 1), (978, .iaload, 1), (979, .aload_n 0, 1), (980, .iload_n 3, 1), (981, .iconst 2, 1), (982, .iadd, 1), (983, .iaload, 1), (984, .invokevirtual 110, 3), (987, .aload_n 2, 1), (988, .aload_n 0, 1), (989, .iload_n 3, 1), (990, .iconst 1, 1), (991, .iadd, 1), (992, .iaload, 1), (993, .aload_n 0, 1), (994, .iload_n 3, 1), (995, .iconst 2, 1), (996, .iadd, 1), (997, .iaload, 1), (998, .invokevirtual 113, 3), (1001, .if_icmp .eq 356, 3), (1004, .iconst 0, 1), (1005, .ireturn, 1)]
theorem tbL_law_13_ok : pTabOk cL_law tbL_law_13 = true := by decide +kernel
end
section
def tbL_law_14 : pTab := [(1006, .aload_n 1, 1), (1007, .aload_n 0, 1), (1008, .iload_n 3, 1), (1009, .iconst 1, 1), (1010, .iadd, 1), (1011, .iaload, 1), (1012, .aload_n 0, 1), (1013, .iload_n 3, 1), (1014, .iconst 2, 1), (1015, .iadd, 1), (1016, .iaload, 1), (1017, .aload_n 0, 1), (1018, .iload_n 3, 1), (1019, .iconst 3, 1), (1020, .iadd, 1), (1021, .iaload, 1), (1022, .invokevirtual 114, 3), (1025, .aload_n 2, 1), (1026, .aload_n 0, 1), (1027, .iload_n 3, 1), (1028, .iconst 1, 1), (1029, .iadd, 1), (1030, .iaload, 1), (1031, .aload_n 0, 1), (1032, .iload_n 3, 1), (1033, .iconst 2, 1), (1034, .iadd, 1), (1035, .iaload, 1), (1036, .aload_n 0, 1), (1037, .iload_n 3, 1), (1038, .iconst 3, 1), (1039, .iadd, 1), (1040, .iaload, 1), (1041, .invokevirtual 117, 3), (1044, .if_icmp .eq 313, 3), (1047, .iconst 0, 1), (1048, .ireturn, 1), (1049, .aload_n 1, 1), (1050, .aload_n 0, 1), (1051, .iload_n 3, 1), (1052, .iconst 1, 1), (1053, .iadd, 1), (1054, .iaload, 1), (1055, .aload_n 0, 1), (1056, .iload_n 3, 1), (1057, .iconst 2, 1), (1058, .iadd, 1), (1059, .iaload, 1), (1060, .aload_n 0, 1), (1061, .iload_n 3, 1)]
theorem tbL_law_14_ok : pTabOk cL_law tbL_law_14 = true := by decide +kernel
def tbL_law_15 : pTab := [(1062, .iconst 3, 1), (1063, .iadd, 1), (1064, .iaload, 1), (1065, .i2l, 1), (1066, .bipush 32, 2), (1068, .lshl, 1), (1069, .aload_n 0, 1), (1070, .iload_n 3, 1), (1071, .iconst 4, 1), (1072, .iadd, 1), (1073, .iaload, 1), (1074, .i2l, 1), (1075, .ldc2_w 118, 3), (1078, .land, 1), (1079, .lor, 1), (1080, .aload_n 0, 1), (1081, .iload_n 3, 1), (1082, .iconst 5, 1), (1083, .iadd, 1), (1084, .iaload, 1), (1085, .invokevirtual 120, 3), (1088, .aload_n 2, 1), (1089, .aload_n 0, 1), (1090, .iload_n 3, 1), (1091, .iconst 1, 1), (1092, .iadd, 1), (1093, .iaload, 1), (1094, .aload_n 0, 1), (1095, .iload_n 3, 1), (1096, .iconst 2, 1), (1097, .iadd, 1), (1098, .iaload, 1), (1099, .aload_n 0, 1), (1100, .iload_n 3, 1), (1101, .iconst 3, 1), (1102, .iadd, 1), (1103, .iaload, 1), (1104, .i2l, 1), (1105, .bipush 32, 2), (1107, .lshl, 1), (1108, .aload_n 0, 1), (1109, .iload_n 3, 1), (1110, .iconst 4, 1), (1111, .iadd, 1), (1112, .iaload, 1), (1113, .i2l, 1), (1114, .ldc2_w 118, 3), (1117, .land, 1), (1118, .lor, 1), (1119, .aload_n 0, 1)]
theorem tbL_law_15_ok : pTabOk cL_law tbL_law_15 = true := by decide +kernel
def tbL_law_16 : pTab := [(1120, .iload_n 3, 1), (1121, .iconst 5, 1), (1122, .iadd, 1), (1123, .iaload, 1), (1124, .invokevirtual 124, 3), (1127, .if_icmp .eq 230, 3), (1130, .iconst 0, 1), (1131, .ireturn, 1), (1132, .aload_n 1, 1), (1133, .aload_n 0, 1), (1134, .iload_n 3, 1), (1135, .iconst 1, 1), (1136, .iadd, 1), (1137, .iaload, 1), (1138, .aload_n 0, 1), (1139, .iload_n 3, 1), (1140, .iconst 2, 1), (1141, .iadd, 1), (1142, .iaload, 1), (1143, .invokevirtual 125, 3), (1146, .aload_n 2, 1), (1147, .aload_n 0, 1), (1148, .iload_n 3, 1), (1149, .iconst 1, 1), (1150, .iadd, 1), (1151, .iaload, 1), (1152, .aload_n 0, 1), (1153, .iload_n 3, 1), (1154, .iconst 2, 1), (1155, .iadd, 1), (1156, .iaload, 1), (1157, .invokevirtual 129, 3), (1160, .lcmp, 1), (1161, .ifCond .eq 196, 3), (1164, .iconst 0, 1), (1165, .ireturn, 1), (1166, .aload_n 1, 1), (1167, .aload_n 0, 1), (1168, .iload_n 3, 1), (1169, .iconst 1, 1), (1170, .iadd, 1), (1171, .iaload, 1), (1172, .aload_n 0, 1), (1173, .iload_n 3, 1), (1174, .iconst 2, 1), (1175, .iadd, 1), (1176, .iaload, 1), (1177, .invokevirtual 130, 3), (1180, .aload_n 2, 1), (1181, .aload_n 0, 1)]
theorem tbL_law_16_ok : pTabOk cL_law tbL_law_16 = true := by decide +kernel
def tbL_law_17 : pTab := [(1182, .iload_n 3, 1), (1183, .iconst 1, 1), (1184, .iadd, 1), (1185, .iaload, 1), (1186, .aload_n 0, 1), (1187, .iload_n 3, 1), (1188, .iconst 2, 1), (1189, .iadd, 1), (1190, .iaload, 1), (1191, .invokevirtual 133, 3), (1194, .if_icmp .eq 163, 3), (1197, .iconst 0, 1), (1198, .ireturn, 1), (1199, .aload_n 1, 1), (1200, .aload_n 0, 1), (1201, .iload_n 3, 1), (1202, .iconst 1, 1), (1203, .iadd, 1), (1204, .iaload, 1), (1205, .aload_n 0, 1), (1206, .iload_n 3, 1), (1207, .iconst 2, 1), (1208, .iadd, 1), (1209, .iaload, 1), (1210, .aload_n 0, 1), (1211, .iload_n 3, 1), (1212, .iconst 3, 1), (1213, .iadd, 1), (1214, .iaload, 1), (1215, .invokevirtual 134, 3), (1218, .aload_n 2, 1), (1219, .aload_n 0, 1), (1220, .iload_n 3, 1), (1221, .iconst 1, 1), (1222, .iadd, 1), (1223, .iaload, 1), (1224, .aload_n 0, 1), (1225, .iload_n 3, 1), (1226, .iconst 2, 1), (1227, .iadd, 1), (1228, .iaload, 1), (1229, .aload_n 0, 1), (1230, .iload_n 3, 1), (1231, .iconst 3, 1), (1232, .iadd, 1), (1233, .iaload, 1), (1234, .invokevirtual 137, 3), (1237, .if_icmp .eq 120, 3), (1240, .iconst 0, 1), (1241, .ireturn, 1)]
theorem tbL_law_17_ok : pTabOk cL_law tbL_law_17 = true := by decide +kernel
def tbL_law_18 : pTab := [(1242, .aload_n 1, 1), (1243, .aload_n 0, 1), (1244, .iload_n 3, 1), (1245, .iconst 1, 1), (1246, .iadd, 1), (1247, .iaload, 1), (1248, .aload_n 0, 1), (1249, .iload_n 3, 1), (1250, .iconst 2, 1), (1251, .iadd, 1), (1252, .iaload, 1), (1253, .aload_n 0, 1), (1254, .iload_n 3, 1), (1255, .iconst 3, 1), (1256, .iadd, 1), (1257, .iaload, 1), (1258, .invokevirtual 138, 3), (1261, .aload_n 2, 1), (1262, .aload_n 0, 1), (1263, .iload_n 3, 1), (1264, .iconst 1, 1), (1265, .iadd, 1), (1266, .iaload, 1), (1267, .aload_n 0, 1), (1268, .iload_n 3, 1), (1269, .iconst 2, 1), (1270, .iadd, 1), (1271, .iaload, 1), (1272, .aload_n 0, 1), (1273, .iload_n 3, 1), (1274, .iconst 3, 1), (1275, .iadd, 1), (1276, .iaload, 1), (1277, .invokevirtual 141, 3), (1280, .if_icmp .eq 77, 3), (1283, .iconst 0, 1), (1284, .ireturn, 1), (1285, .aload_n 1, 1), (1286, .invokevirtual 142, 3), (1289, .aload_n 2, 1), (1290, .invokevirtual 145, 3), (1293, .if_icmp .eq 64, 3), (1296, .iconst 0, 1), (1297, .ireturn, 1), (1298, .aload_n 1, 1), (1299, .invokevirtual 146, 3), (1302, .aload_n 2, 1), (1303, .invokevirtual 149, 3), (1306, .if_icmp .eq 51, 3), (1309, .iconst 0, 1)]
theorem tbL_law_18_ok : pTabOk cL_law tbL_law_18 = true := by decide +kernel
def tbL_law_19 : pTab := [(1310, .ireturn, 1), (1311, .aload_n 1, 1), (1312, .aload_n 0, 1), (1313, .iload_n 3, 1), (1314, .iconst 1, 1), (1315, .iadd, 1), (1316, .iaload, 1), (1317, .invokevirtual 150, 3), (1320, .aload_n 2, 1), (1321, .aload_n 0, 1), (1322, .iload_n 3, 1), (1323, .iconst 1, 1), (1324, .iadd, 1), (1325, .iaload, 1), (1326, .invokevirtual 153, 3), (1329, .if_icmp .eq 28, 3), (1332, .iconst 0, 1), (1333, .ireturn, 1), (1334, .aload_n 1, 1), (1335, .aload_n 0, 1), (1336, .iload_n 3, 1), (1337, .iconst 1, 1), (1338, .iadd, 1), (1339, .iaload, 1), (1340, .invokevirtual 154, 3), (1343, .aload_n 2, 1), (1344, .aload_n 0, 1), (1345, .iload_n 3, 1), (1346, .iconst 1, 1), (1347, .iadd, 1), (1348, .iaload, 1), (1349, .invokevirtual 157, 3), (1352, .if_icmp .eq 5, 3), (1355, .iconst 0, 1), (1356, .ireturn, 1), (1357, .iinc 3 6, 3), (1360, .goto (-1342), 3), (1363, .iconst 1, 1), (1364, .ireturn, 1)]
theorem tbL_law_19_ok : pTabOk cL_law tbL_law_19 = true := by decide +kernel
theorem pTabOk_app {c : ByteArray} {a b : pTab} (ha : pTabOk c a = true) (hb : pTabOk c b = true) : pTabOk c (a ++ b) = true := by unfold pTabOk at *; rw [List.all_append, ha, hb]; rfl
def tbL_law : pTab := tbL_law_0 ++ (tbL_law_1 ++ (tbL_law_2 ++ (tbL_law_3 ++ (tbL_law_4 ++ (tbL_law_5 ++ (tbL_law_6 ++ (tbL_law_7 ++ (tbL_law_8 ++ (tbL_law_9 ++ (tbL_law_10 ++ (tbL_law_11 ++ (tbL_law_12 ++ (tbL_law_13 ++ (tbL_law_14 ++ (tbL_law_15 ++ (tbL_law_16 ++ (tbL_law_17 ++ (tbL_law_18 ++ (tbL_law_19)))))))))))))))))))
theorem tbL_law_ok : pTabOk cL_law tbL_law = true := pTabOk_app tbL_law_0_ok (pTabOk_app tbL_law_1_ok (pTabOk_app tbL_law_2_ok (pTabOk_app tbL_law_3_ok (pTabOk_app tbL_law_4_ok (pTabOk_app tbL_law_5_ok (pTabOk_app tbL_law_6_ok (pTabOk_app tbL_law_7_ok (pTabOk_app tbL_law_8_ok (pTabOk_app tbL_law_9_ok (pTabOk_app tbL_law_10_ok (pTabOk_app tbL_law_11_ok (pTabOk_app tbL_law_12_ok (pTabOk_app tbL_law_13_ok (pTabOk_app tbL_law_14_ok (pTabOk_app tbL_law_15_ok (pTabOk_app tbL_law_16_ok (pTabOk_app tbL_law_17_ok (pTabOk_app tbL_law_18_ok (tbL_law_19_ok)))))))))))))))))))
end
section
/-! THE PURE MACHINE: the program's cells by their order (a reference is the number of a cell), a list of shapes and four rows of contents;
    'pWP' says of a method at a pc that it comes to its end; one rule an instruction, each proved from the kit's row once for all. -/
/-- a shape: an array (type 0 int, 1 float, 2 boolean, 3 long, 4 double; length), or an object (class, its fields: 0 an int, 1 a float, 2 null, r + 3 the cell r) -/
abbrev PSh : Type := (Nat × Nat) ⊕ (Nat × List Nat)
/-- contents by cell and place: ints (booleans too), floats, longs, doubles -/
abbrev PSt : Type := (Nat → Nat → Int32) × (Nat → Nat → UInt32) × (Nat → Nat → Int64) × (Nat → Nat → UInt64)
abbrev PL : Type := List (Option Value)
abbrev PQ : Type := Option Value → List PSh → PSt → Prop
/-- a method: name, code, locals, return type, table -/
abbrev PM : Type := MethodName × ByteArray × Nat × Option FieldType × pTab
def pTr (ad : Nat → Nat) (v : Value) : Value := match v with
  | .ref r => .ref (ad r)
  | v => v
theorem pTr_cat (ad : Nat → Nat) (v : Value) : (pTr ad v).category = v.category := by cases v <;> rfl
def pFv (S : PSt) (k j : Nat) (f : Nat) : Value := match f with
  | 0 => .int (S.1 k j)
  | 1 => .float (S.2.1 k j)
  | 2 => .null
  | r + 3 => .ref r
def pArr (S : PSt) (k : Nat) (t : Nat) : (Nat → Int32) ⊕ (Nat → Int64) ⊕ (Nat → UInt32) ⊕ (Nat → UInt64) ⊕ (Nat → Option Nat) := match t with
  | 0 => .inl (S.1 k)
  | 1 => .inr (.inr (.inl (S.2.1 k)))
  | 2 => .inl (S.1 k)
  | 3 => .inr (.inl (S.2.2.1 k))
  | _ => .inr (.inr (.inr (.inl (S.2.2.2 k))))
def pEl (tc ad : Nat → Nat) (S : PSt) (k : Nat) (e : PSh) : va_E := match e with
  | .inl q => .inl (tc q.1, q.2, pArr S k q.1)
  | .inr q => .inr (q.1, q.2.mapIdx fun j f => pTr ad (pFv S k j f))
def pW (tc ad : Nat → Nat) (sh : List PSh) (S : PSt) : va_W := sh.mapIdx fun k e => (ad k, pEl tc ad S k e)
theorem pW_at {tc ad : Nat → Nat} {sh : List PSh} {S : PSt} {k : Nat} {e : PSh} (h : sh[k]? = some e) : (pW tc ad sh S)[k]? = some (ad k, pEl tc ad S k e) := by
  unfold pW
  rw [List.getElem?_mapIdx, h]
  rfl
theorem pW_of {tc ad : Nat → Nat} {sh : List PSh} {S : PSt} {k : Nat} {q : Nat × va_E} (h : (pW tc ad sh S)[k]? = some q) : ∃ e, sh[k]? = some e ∧ q = (ad k, pEl tc ad S k e) := by
  unfold pW at h
  rw [List.getElem?_mapIdx] at h
  cases he : sh[k]? with
  | none => rw [he] at h; cases h
  | some e => rw [he] at h; exact ⟨e, rfl, (Option.some.inj h).symm⟩
def pU {α : Type} (f : Nat → Nat → α) (k j : Nat) (x : α) : Nat → Nat → α := fun a b => if a = k ∧ b = j then x else f a b
def pSI (S : PSt) (k j : Nat) (x : Int32) : PSt := (pU S.1 k j x, S.2)
def pSF (S : PSt) (k j : Nat) (x : UInt32) : PSt := (S.1, pU S.2.1 k j x, S.2.2)
def pSJ (S : PSt) (k j : Nat) (x : Int64) : PSt := (S.1, S.2.1, pU S.2.2.1 k j x, S.2.2.2)
def pSD (S : PSt) (k j : Nat) (x : UInt64) : PSt := (S.1, S.2.1, S.2.2.1, pU S.2.2.2 k j x)
theorem pU_ne {α : Type} {f : Nat → Nat → α} {k j a : Nat} {x : α} (h : a ≠ k) : pU f k j x a = f a := by
  funext b
  simp [pU, h]
/-- contents that agree at a cell tell the same of it -/
theorem pEl_same {tc ad : Nat → Nat} {S S' : PSt} {k : Nat} (h1 : S'.1 k = S.1 k) (h2 : S'.2.1 k = S.2.1 k) (h3 : S'.2.2.1 k = S.2.2.1 k) (h4 : S'.2.2.2 k = S.2.2.2 k) (e : PSh) : pEl tc ad S' k e = pEl tc ad S k e := by
  cases e with
  | inl q =>
    obtain ⟨t, n⟩ := q
    show Sum.inl (tc t, n, pArr S' k t) = Sum.inl (tc t, n, pArr S k t)
    have : pArr S' k t = pArr S k t := by
      unfold pArr
      split <;> simp only [h1, h2, h3, h4]
    rw [this]
  | inr q =>
    obtain ⟨c, fs⟩ := q
    show Sum.inr (c, fs.mapIdx fun j f => pTr ad (pFv S' k j f)) = Sum.inr (c, fs.mapIdx fun j f => pTr ad (pFv S k j f))
    have : ∀ j f, pFv S' k j f = pFv S k j f := by
      intro j f
      unfold pFv
      split <;> simp only [h1, h2]
    simp only [this]
theorem pW_set {tc ad : Nat → Nat} {sh : List PSh} {S S' : PSt} {k : Nat} {e : PSh} {el : va_E} (h : sh[k]? = some e) (hel : pEl tc ad S' k e = el) (ho : ∀ a, a ≠ k → S'.1 a = S.1 a ∧ S'.2.1 a = S.2.1 a ∧ S'.2.2.1 a = S.2.2.1 a ∧ S'.2.2.2 a = S.2.2.2 a) :
    (pW tc ad sh S).set k (ad k, el) = pW tc ad sh S' := by
  apply List.ext_getElem?
  intro i
  have hk : k < sh.length := (List.getElem?_eq_some_iff.mp h).1
  by_cases hi : i = k
  · subst hi
    rw [pW_at h, hel, List.getElem?_set_self (by unfold pW; rw [List.length_mapIdx]; exact hk)]
  · rw [List.getElem?_set_ne (fun q => hi q.symm)]
    unfold pW
    rw [List.getElem?_mapIdx, List.getElem?_mapIdx]
    cases hs : sh[i]? with
    | none => rfl
    | some e2 =>
      obtain ⟨a1, a2, a3, a4⟩ := ho i hi
      show some (ad i, pEl tc ad S i e2) = some (ad i, pEl tc ad S' i e2)
      rw [pEl_same a1 a2 a3 a4]
/-- the shape changes at a cell: a reference comes to a field -/
theorem pW_setSh {tc ad : Nat → Nat} {sh : List PSh} {S : PSt} {k : Nat} {e e' : PSh} {el : va_E} (h : sh[k]? = some e) (hel : pEl tc ad S k e' = el) :
    (pW tc ad sh S).set k (ad k, el) = pW tc ad (sh.set k e') S := by
  apply List.ext_getElem?
  intro i
  have hk : k < sh.length := (List.getElem?_eq_some_iff.mp h).1
  by_cases hi : i = k
  · subst hi
    rw [pW_at (e := e') (by rw [List.getElem?_set_self hk]), hel, List.getElem?_set_self (by unfold pW; rw [List.length_mapIdx]; exact hk)]
  · rw [List.getElem?_set_ne (fun q => hi q.symm)]
    unfold pW
    rw [List.getElem?_mapIdx, List.getElem?_mapIdx, List.getElem?_set_ne (fun q => hi q.symm)]
/-- a cell comes behind the last one -/
theorem pW_push {tc ad ad' : Nat → Nat} {sh : List PSh} {S S' : PSt} {q : Nat} {e : PSh} {el : va_E} (hq : ad' sh.length = q) (hel : pEl tc ad' S' sh.length e = el) (ha : ∀ k, k < sh.length → ad' k = ad k)
    (hr : ∀ (k c : Nat) (fs : List Nat), sh[k]? = some (.inr (c, fs)) → ∀ r, r + 3 ∈ fs → ad' r = ad r)
    (ho : ∀ a, a ≠ sh.length → S'.1 a = S.1 a ∧ S'.2.1 a = S.2.1 a ∧ S'.2.2.1 a = S.2.2.1 a ∧ S'.2.2.2 a = S.2.2.2 a) :
    pW tc ad sh S ++ [(q, el)] = pW tc ad' (sh ++ [e]) S' := by
  apply List.ext_getElem?
  intro i
  have hl : (pW tc ad sh S).length = sh.length := by unfold pW; rw [List.length_mapIdx]
  by_cases hi : i < sh.length
  · rw [List.getElem?_append_left (by rw [hl]; exact hi)]
    unfold pW
    rw [List.getElem?_mapIdx, List.getElem?_mapIdx, List.getElem?_append_left hi]
    cases hs : sh[i]? with
    | none => rfl
    | some e2 =>
      obtain ⟨a1, a2, a3, a4⟩ := ho i (by omega)
      show some (ad i, pEl tc ad S i e2) = some (ad' i, pEl tc ad' S' i e2)
      rw [pEl_same a1 a2 a3 a4, ha i hi]
      cases e2 with
      | inl q => rfl
      | inr q =>
        obtain ⟨c, fs⟩ := q
        have : (fs.mapIdx fun j f => pTr ad (pFv S i j f)) = (fs.mapIdx fun j f => pTr ad' (pFv S i j f)) := by
          apply List.ext_getElem?
          intro j
          rw [List.getElem?_mapIdx, List.getElem?_mapIdx]
          cases hf : fs[j]? with
          | none => rfl
          | some f =>
            have hm := List.mem_of_getElem? hf
            match f, hm with
            | 0, _ => rfl
            | 1, _ => rfl
            | 2, _ => rfl
            | r + 3, hm => show some (Value.ref (ad r)) = some (Value.ref (ad' r)); rw [hr i c fs hs r hm]
        show some (ad i, Sum.inr (c, _)) = some (ad i, Sum.inr (c, _))
        rw [this]
  · by_cases hi2 : i = sh.length
    · subst hi2
      rw [List.getElem?_append_right (by rw [hl]; exact Nat.le_refl _), hl, Nat.sub_self, pW_at (e := e) (by rw [List.getElem?_append_right (Nat.le_refl _), Nat.sub_self]; rfl), hq, hel]
      rfl
    · rw [List.getElem?_eq_none (by rw [List.length_append, hl]; simp; omega), List.getElem?_eq_none (by unfold pW; rw [List.length_mapIdx, List.length_append]; simp; omega)]
/-- references in shapes are of cells that there are -/
def pShOk (sh : List PSh) : Prop := ∀ (k c : Nat) (fs : List Nat), sh[k]? = some (.inr (c, fs)) → ∀ r, r + 3 ∈ fs → r < sh.length
def pNoR (n : Nat) (v : Value) : Bool := match v with
  | .ref r => r != n
  | _ => true
def pNoL (n : Nat) (o : Option Value) : Bool := match o with
  | some v => pNoR n v
  | none => true
def pAdd (ad : Nat → Nat) (n q : Nat) : Nat → Nat := fun k => if k = n then q else ad k
theorem pTr_add {ad : Nat → Nat} {n q : Nat} {v : Value} (h : pNoR n v = true) : pTr (pAdd ad n q) v = pTr ad v := by
  cases v <;> try rfl
  rename_i r
  have : r ≠ n := by simpa [pNoR] using h
  simp [pTr, pAdd, this]
theorem pTr_adds {ad : Nat → Nat} {n q : Nat} {st : List Value} (h : st.all (pNoR n) = true) : st.map (pTr (pAdd ad n q)) = st.map (pTr ad) := by
  apply List.map_congr_left
  intro v hv
  exact pTr_add (List.all_eq_true.mp h v hv)
/-- the locals as the kit's list -/
def pAs (ad : Nat → Nat) (L : PL) : List (Nat × Value) := (L.zipIdx).filterMap fun q => q.1.map fun v => (q.2, pTr ad v)
theorem pAs_mem {ad : Nat → Nat} {L : PL} {j : Nat} {w : Value} : (j, w) ∈ pAs ad L ↔ ∃ v, L[j]? = some (some v) ∧ w = pTr ad v := by
  unfold pAs
  rw [List.mem_filterMap]
  constructor
  · rintro ⟨⟨o, i⟩, h1, h2⟩
    rw [List.mem_zipIdx_iff_getElem?] at h1
    cases o with
    | none => cases h2
    | some v =>
      have h3 : (i, pTr ad v) = (j, w) := Option.some.inj h2
      cases h3
      exact ⟨v, h1, rfl⟩
  · rintro ⟨v, h1, rfl⟩
    exact ⟨(some v, j), List.mem_zipIdx_iff_getElem?.mpr h1, rfl⟩
theorem pAs_add {ad : Nat → Nat} {n q : Nat} {L : PL} (h : L.all (pNoL n) = true) {ls : Array Slot} {nL : Nat} (hl : lv_has ls nL (pAs ad L)) : lv_has ls nL (pAs (pAdd ad n q) L) := by
  refine ⟨hl.1, hl.2.1, fun p hp => ?_⟩
  obtain ⟨j, w⟩ := p
  obtain ⟨v, h1, rfl⟩ := pAs_mem.mp hp
  have h2 := List.all_eq_true.mp h _ (List.mem_of_getElem? h1)
  rw [pTr_add h2]
  exact hl.2.2 (j, pTr ad v) (pAs_mem.mpr ⟨v, h1, rfl⟩)
def pLd (L : PL) (i : Nat) : Option Value := L.getD i none
theorem pLd_at {ad : Nat → Nat} {L : PL} {ls : Array Slot} {nL i : Nat} {v : Value} (h : lv_has ls nL (pAs ad L)) (hv : pLd L i = some v) : ls[i]? = some (.val (pTr ad v)) := by
  refine h.2.2 (i, pTr ad v) (pAs_mem.mpr ⟨v, ?_, rfl⟩)
  unfold pLd at hv
  rw [List.getD_eq_getElem?_getD] at hv
  cases hL : L[i]? with
  | none => rw [hL] at hv; cases hv
  | some o => rw [hL] at hv; exact congrArg some hv
/-- a wide value just ahead is lost -/
def pKl (L : PL) (i : Nat) : PL := match i with
  | 0 => L
  | j + 1 => match pLd L j with
    | some v => if v.category = 2 then L.set j none else L
    | none => L
def pS1 (L : PL) (i : Nat) (v : Value) : PL := (pKl L i).set i (some v)
def pS2 (L : PL) (i : Nat) (v : Value) : PL := ((pKl L i).set i (some v)).set (i + 1) none
theorem pKl_at {L : PL} {i j : Nat} {w : Value} (h : (pKl L i)[j]? = some (some w)) : L[j]? = some (some w) ∧ ¬ (j + 1 = i ∧ w.category = 2) := by
  unfold pKl at h
  cases i with
  | zero => exact ⟨h, fun q => by omega⟩
  | succ i =>
    dsimp only at h
    have hset : ∀ {M : PL}, (M.set i none)[j]? = some (some w) → M[j]? = some (some w) ∧ j ≠ i := by
      intro M hM
      by_cases hj : j = i
      · subst hj
        rw [List.getElem?_set] at hM
        split at hM
        · split at hM <;> cases hM
        · rename_i hne; exact absurd rfl hne
      · rw [List.getElem?_set_ne (fun q => hj q.symm)] at hM
        exact ⟨hM, hj⟩
    cases hv : pLd L i with
    | none =>
      rw [hv] at h
      refine ⟨h, fun q => ?_⟩
      have e : j = i := by omega
      subst e
      unfold pLd at hv
      rw [List.getD_eq_getElem?_getD, h] at hv
      cases hv
    | some v =>
      rw [hv] at h
      dsimp only at h
      split at h
      · exact ⟨(hset h).1, fun q => (hset h).2 (by omega)⟩
      · rename_i hc
        refine ⟨h, fun q => ?_⟩
        have e : j = i := by omega
        subst e
        unfold pLd at hv
        rw [List.getD_eq_getElem?_getD, h] at hv
        cases hv
        exact hc q.2
theorem pS1_has {ad : Nat → Nat} {L : PL} {i : Nat} {v : Value} {ls : Array Slot} {nL : Nat} (h : lv_has ls nL ((i, pTr ad v) :: (pAs ad L).filter (fun q => !(q.1 == i) && !(q.1 + 1 == i && q.2.category == 2)))) : lv_has ls nL (pAs ad (pS1 L i v)) := by
  refine ⟨h.1, h.2.1, fun p hp => h.2.2 p ?_⟩
  obtain ⟨j, w⟩ := p
  obtain ⟨x, h1, rfl⟩ := pAs_mem.mp hp
  unfold pS1 at h1
  by_cases hj : j = i
  · subst hj
    rw [List.getElem?_set] at h1
    split at h1
    · split at h1
      · cases h1; exact List.mem_cons_self
      · cases h1
    · rename_i hne; exact absurd rfl hne
  · rw [List.getElem?_set_ne (fun q => hj q.symm)] at h1
    obtain ⟨h2, h3⟩ := pKl_at h1
    refine List.mem_cons_of_mem _ (List.mem_filter.mpr ⟨pAs_mem.mpr ⟨x, h2, rfl⟩, ?_⟩)
    simp only [pTr_cat, Bool.and_eq_true, Bool.not_eq_true', beq_eq_false_iff_ne, ne_eq, Bool.and_eq_false_iff]
    refine ⟨hj, ?_⟩
    by_cases e : j + 1 = i
    · exact Or.inr fun q => h3 ⟨e, q⟩
    · exact Or.inl e
theorem pS2_has {ad : Nat → Nat} {L : PL} {i : Nat} {v : Value} {ls : Array Slot} {nL : Nat} (h : lv_has ls nL ((i, pTr ad v) :: (pAs ad L).filter (fun q => !(q.1 == i) && (!(q.1 == i + 1) && !(q.1 + 1 == i && q.2.category == 2))))) : lv_has ls nL (pAs ad (pS2 L i v)) := by
  refine ⟨h.1, h.2.1, fun p hp => h.2.2 p ?_⟩
  obtain ⟨j, w⟩ := p
  obtain ⟨x, h1, rfl⟩ := pAs_mem.mp hp
  unfold pS2 at h1
  by_cases hj1 : j = i + 1
  · subst hj1
    rw [List.getElem?_set] at h1
    split at h1
    · split at h1 <;> cases h1
    · rename_i hne; exact absurd rfl hne
  rw [List.getElem?_set_ne (fun q => hj1 q.symm)] at h1
  by_cases hj : j = i
  · subst hj
    rw [List.getElem?_set] at h1
    split at h1
    · split at h1
      · cases h1; exact List.mem_cons_self
      · cases h1
    · rename_i hne; exact absurd rfl hne
  · rw [List.getElem?_set_ne (fun q => hj q.symm)] at h1
    obtain ⟨h2, h3⟩ := pKl_at h1
    refine List.mem_cons_of_mem _ (List.mem_filter.mpr ⟨pAs_mem.mpr ⟨x, h2, rfl⟩, ?_⟩)
    simp only [pTr_cat, Bool.and_eq_true, Bool.not_eq_true', beq_eq_false_iff_ne, ne_eq, Bool.and_eq_false_iff]
    refine ⟨hj, hj1, ?_⟩
    by_cases e : j + 1 = i
    · exact Or.inr fun q => h3 ⟨e, q⟩
    · exact Or.inl e
/-- forgetting locals -/
theorem pAs_weak {ad : Nat → Nat} {L L' : PL} {ls : Array Slot} {nL : Nat} (hw : ∀ (i : Nat) (v : Value), L'[i]? = some (some v) → L[i]? = some (some v)) (h : lv_has ls nL (pAs ad L)) : lv_has ls nL (pAs ad L') := by
  refine ⟨h.1, h.2.1, fun p hp => h.2.2 p ?_⟩
  obtain ⟨j, w⟩ := p
  obtain ⟨x, h1, rfl⟩ := pAs_mem.mp hp
  exact pAs_mem.mpr ⟨x, hw j x h1, rfl⟩
/-! the words -/
def pGood : List Cond := lw_tbl.filter goodWord
def pIsNest (w : Cond) : Bool := match w with
  | .fieldLinkNest _ _ _ _ _ _ => true
  | .methodLinkNest _ _ _ _ => true
  | _ => false
def pNest : List Cond := lw_tbl.filter pIsNest
theorem pGood_in {w : Cond} (i : Nat) (h : lw_tbl[i]? = some w) (hg : goodWord w = true) : w ∈ pGood := List.mem_filter.mpr ⟨List.mem_of_getElem? h, hg⟩
theorem pNest_in {w : Cond} (i : Nat) (h : lw_tbl[i]? = some w) (hg : pIsNest w = true) : w ∈ pNest := List.mem_filter.mpr ⟨List.mem_of_getElem? h, hg⟩
theorem pGood_ok {ws : List Cond} (h : ∀ w ∈ ws, w ∈ pGood) : GoodIn pGood ws := fun w hw => ⟨h w hw, good_of_word (List.mem_filter.mp (h w hw)).2⟩
theorem pNest_warm {s U : State} (hW : s.WarmedH U.vm) {w : Cond} (hw : w ∈ pNest) (h : va_Nw w s) : va_Nw w U := by
  have := (List.mem_filter.mp hw).2
  unfold pIsNest at this
  split at this
  · exact va_Nw.warmF hW h
  · exact va_Nw.warmM hW h
  · cases this
theorem pNest_tab {w : Cond} (hw : w ∈ pNest) : w.onTables = true := by
  have := (List.mem_filter.mp hw).2
  unfold pIsNest at this
  split at this
  · rfl
  · rfl
  · cases this
def pTys (tc : Nat → ClassId) : List (ClassId × FieldType) := [(tc 0, .int), (tc 1, .float), (tc 2, .boolean), (tc 3, .long), (tc 4, .double)]
def pKK (D : va_G) (tc : Nat → ClassId) (U : State) : Prop := va_K D vwCl (pTys tc) U ∧ ∀ w ∈ pNest, va_Nw w U
theorem pKK.moved {D : va_G} {tc : Nat → ClassId} {s U : State} (hW : s.WarmedH U.vm) (h : pKK D tc s) : pKK D tc U := ⟨va_K.moved hW.alike h.1, fun w hw => pNest_warm hW hw (h.2 w hw)⟩
theorem pKK.same {D : va_G} {tc : Nat → ClassId} {s U : State} (hv : s.vm = U.vm) (h : pKK D tc s) : pKK D tc U := ⟨va_K.moved (by rw [hv]; exact Vm.Alike.refl _) h.1, fun w hw => va_Nw.same (pNest_tab hw) hv (h.2 w hw)⟩
/-- the arrays that nobody writes: the script (1000), LEAST, MOST -/
def pRoC (X : Nat × (Nat → Int32)) (j : Nat) : Nat × (Nat → Int32) := match j with
  | 0 => X
  | 1 => (5, fun k => ([0, 1, -12, 1, 0] : List Int32).getD k 0)
  | _ => (5, fun k => ([2, 64, 20, 12, 9] : List Int32).getD k 0)
def pRO (ad : Nat → Nat) (X : Nat × (Nat → Int32)) (A : Nat → Prop) (U : State) (H : Heap) : Prop :=
  (∀ j, j < 3 → ad (1000 + j) < H.size ∧ ¬ A (ad (1000 + j)) ∧ va_X (ad (1000 + j)) (pRoC X j).1 (pRoC X j).2 U H) ∧
  va_Z "EngravedLines" "LEAST" "[I" (.ref (ad 1001)) A U H ∧ va_Z "EngravedLines" "MOST" "[I" (.ref (ad 1002)) A U H
theorem pRO.moved {ad : Nat → Nat} {X : Nat × (Nat → Int32)} {A : Nat → Prop} {u U : State} {H : Heap} (hvm : u.vm.Alike U.vm) (h : pRO ad X A u H) : pRO ad X A U H :=
  ⟨fun j hj => ⟨(h.1 j hj).1, (h.1 j hj).2.1, (h.1 j hj).2.2.moved hvm⟩, va_Z.moved hvm h.2.1, va_Z.moved hvm h.2.2⟩
theorem pRO.kept {ad : Nat → Nat} {X : Nat × (Nat → Int32)} {A : Nat → Prop} {U : State} {H H1 : Heap} (h : pRO ad X A U H) (hz : H.size ≤ H1.size) (hq : ∀ a : Nat, a < H.size → ¬ A a → H1[a]? = H[a]?) : pRO ad X A U H1 :=
  ⟨fun j hj => ⟨Nat.lt_of_lt_of_le (h.1 j hj).1 hz, (h.1 j hj).2.1, (h.1 j hj).2.2.kept (hq _ (h.1 j hj).1 (h.1 j hj).2.1)⟩, h.2.1.kept hq, h.2.2.kept hq⟩
theorem pRO.narrow {ad : Nat → Nat} {X : Nat × (Nat → Int32)} {A B : Nat → Prop} {U : State} {H : Heap} (h : pRO ad X A U H) (hAB : ∀ q, B q → A q) : pRO ad X B U H :=
  ⟨fun j hj => ⟨(h.1 j hj).1, fun q => (h.1 j hj).2.1 (hAB _ q), (h.1 j hj).2.2⟩, h.2.1.narrow hAB, h.2.2.narrow hAB⟩
theorem pRO.ads {ad ad' : Nat → Nat} {X : Nat × (Nat → Int32)} {A : Nat → Prop} {U : State} {H : Heap} (he : ∀ k, 1000 ≤ k → ad' k = ad k) (h : pRO ad X A U H) : pRO ad' X A U H := by
  refine ⟨fun j hj => ?_, ?_, ?_⟩
  · rw [he (1000 + j) (by omega)]; exact h.1 j hj
  · rw [he 1001 (by omega)]; exact h.2.1
  · rw [he 1002 (by omega)]; exact h.2.2
/-! contracts and walks -/
def pRoom (d mc ms : Nat) : Room := { frames := d, cells := mc, slots := ms, locals := 39 * d }
def pWs (M : PM) : List Cond := .code M.1 M.2.1 M.2.2.1 M.2.2.2.1 :: pGood
def pPc (av : List Value) (D : va_G) (tc ad : Nat → Nat) (X : Nat × (Nat → Int32)) (sh : List PSh) (S : PSt) (sz : Nat) : Array Value → State → Prop := fun v U =>
  v = (av.map (pTr ad)).toArray ∧ U.heap.size = sz ∧ va_P D vwCl (pW tc ad sh S) U.heap ∧ pKK D tc U ∧ va_D (fun _ => True) (pW tc ad sh S) ∧ pRO ad X (va_A (pW tc ad sh S) sz) U U.heap
def pQc (A : Nat → Prop) (D : va_G) (tc ad : Nat → Nat) (n0 : Nat) (Q : PQ) : Array Value → State → Outcome → State → Prop := fun _ st o t =>
  (∃ (r : Option Value) (sh : List PSh) (S : PSt) (ad' : Nat → Nat), (∀ k, ¬ (n0 ≤ k ∧ k < sh.length) → ad' k = ad k) ∧ n0 ≤ sh.length ∧ sh.length < 1000 ∧ pShOk sh ∧ o = .returned (r.map (pTr ad')) ∧ Q r sh S ∧ va_P D vwCl (pW tc ad' sh S) t.heap ∧ va_D A (pW tc ad' sh S)) ∧ va_F A st t
/-- the contract of a method: from the arguments av, the shapes sh, the contents S it returns, with Q; calls that stand open below it: d -/
def pSpec (M : PM) (d mc ms : Nat) (av : List Value) (X : Nat × (Nat → Int32)) (sh : List PSh) (S : PSt) (Q : PQ) : Prop :=
  sh.length < 1000 → pShOk sh → ∀ (l : Launch) (D : va_G) (tc ad : Nat → Nat) (sz : Nat), Met l M.1 (pWs M) (pRoom d mc ms) (pPc av D tc ad X sh S sz) (pQc (va_A (pW tc ad sh S) sz) D tc ad sh.length Q) mc ms (va_A (pW tc ad sh S) sz)
def pCtx (M : PM) (p : Program) (s : State) (m : MethodId) (args : Array Value) (meth : Method) (c : Code) : Prop :=
  p.tables.exec = Jvm.exec ∧ c.code = M.2.1 ∧ c.maxLocals = M.2.2.1 ∧ meth.sig.returnType = M.2.2.2.1 ∧ s.vm.findClass M.1.cls = some m.cls ∧ meth.locks = false ∧ (M.1.name = "<init>" → meth.name = "<init>") ∧ ∀ w ∈ pGood, w.before args s = true
/-- what moves on: addresses, the world, the locals -/
def pNow (n0 nL : Nat) (D : va_G) (tc ad0 ad : Nat → Nat) (A : Nat → Prop) (s : State) (H : Heap) (locs : List Loc) (ls : Array Slot) (L : PL) (sh : List PSh) (S : PSt) : Prop :=
  (∀ k, ¬ (n0 ≤ k ∧ k < sh.length) → ad k = ad0 k) ∧ n0 ≤ sh.length ∧ sh.length < 1000 ∧ pShOk sh ∧ va_P D vwCl (pW tc ad sh S) H ∧ va_D A (pW tc ad sh S) ∧ va_S A s.heap H locs ∧ lv_has ls nL (pAs ad L)
/-- the method goes on from pc with the locals L, the stack st, cells and slots made so far, and comes to its end with Q -/
def pWP (M : PM) (d mc ms n0 : Nat) (X : Nat × (Nat → Int32)) (Q : PQ) (pc : Nat) (L : PL) (st : List Value) (kc ks : Nat) (sh : List PSh) (S : PSt) : Prop :=
  ∀ (p : Program) (l : Launch) (e : Env) (R : Room) (s : State) (m : MethodId) (args : Array Value) (below : List Frame) (meth : Method) (c : Code) (D : va_G) (tc ad0 : Nat → Nat) (A : Nat → Prop),
    pTabOk M.2.1 M.2.2.2.2 = true → pCtx M p s m args meth c → (d ≤ R.frames ∧ 39 * d ≤ R.locals ∧ mc ≤ R.cells ∧ ms ≤ R.slots) → pKK D tc s → pRO ad0 X A s s.heap → (∀ q, s.heap.size ≤ q → A q) →
    ∀ (ad : Nat → Nat) (H : Heap) (locs : List Loc) (ls : Array Slot), pNow n0 M.2.2.1 D tc ad0 ad A s H locs ls L sh S →
      W p l e R s m args below meth c H locs kc ks (MQ below (pQc A D tc ad0 n0 Q) args s mc ms A) (F0 m pc ls (st.map (pTr ad)))
end
section
/-! rules of the pure machine: written by wip/whole/gen/rules.py -/
def pLook (t : pTab) (pc : Nat) : Option (Instr × Nat) := (t.find? fun q => q.1 == pc).map fun q => q.2
theorem pLook_ok {c : ByteArray} {t : pTab} {pc len : Nat} {i : Instr} (ht : pTabOk c t = true) (h : pLook t pc = some (i, len)) : decode c pc = .ok (i, len) := by
  unfold pLook at h
  cases hf : t.find? (fun q => q.1 == pc) with
  | none => rw [hf] at h; cases h
  | some q =>
    rw [hf] at h
    have h1 : q.2 = (i, len) := Option.some.inj h
    have h2 : q.1 = pc := by simpa using List.find?_some hf
    have h3 := List.all_eq_true.mp ht q (List.mem_of_find?_eq_some hf)
    have h4 := of_decide_eq_true h3
    rw [h2, h1] at h4
    exact h4
theorem pNow.st {n0 nL : Nat} {D : va_G} {tc ad0 ad : Nat → Nat} {A : Nat → Prop} {s : State} {H : Heap} {locs : List Loc} {ls ls' : Array Slot} {L L' : PL} {sh : List PSh} {S : PSt} (h : pNow n0 nL D tc ad0 ad A s H locs ls L sh S) (hl : lv_has ls' nL (pAs ad L')) : pNow n0 nL D tc ad0 ad A s H locs ls' L' sh S :=
  ⟨h.1, h.2.1, h.2.2.1, h.2.2.2.1, h.2.2.2.2.1, h.2.2.2.2.2.1, h.2.2.2.2.2.2.1, hl⟩
theorem pNow.ls {n0 nL : Nat} {D : va_G} {tc ad0 ad : Nat → Nat} {A : Nat → Prop} {s : State} {H : Heap} {locs : List Loc} {ls : Array Slot} {L : PL} {sh : List PSh} {S : PSt} (h : pNow n0 nL D tc ad0 ad A s H locs ls L sh S) : lv_has ls nL (pAs ad L) := h.2.2.2.2.2.2.2
section PR
variable {M : PM} {d mc ms n0 : Nat} {X : Nat × (Nat → Int32)} {Q : PQ} {pc : Nat} {L : PL} {st : List Value} {kc ks : Nat} {sh : List PSh} {S : PSt}
theorem pr_iconst {n : Int} (hi : pLook M.2.2.2.2 pc = some (.iconst n, 1)) (k : pWP M d mc ms n0 X Q (pc + 1) L (.int (Int32.ofInt n) :: st) kc ks sh S) : pWP M d mc ms n0 X Q pc L st kc ks sh S := by
  intro p l e R s m args below meth c D tc ad0 A hT hC hR hK hO hA ad H locs ls hN
  exact lv_iconst hC.1 hC.2.1 (pLook_ok hT hi) rfl (k p l e R s m args below meth c D tc ad0 A hT hC hR hK hO hA ad H locs ls hN)
theorem pr_bipush {n : Int} (hi : pLook M.2.2.2.2 pc = some (.bipush n, 2)) (k : pWP M d mc ms n0 X Q (pc + 2) L (.int (Int8.ofInt n).toInt32 :: st) kc ks sh S) : pWP M d mc ms n0 X Q pc L st kc ks sh S := by
  intro p l e R s m args below meth c D tc ad0 A hT hC hR hK hO hA ad H locs ls hN
  exact lv_bipush hC.1 hC.2.1 (pLook_ok hT hi) rfl (k p l e R s m args below meth c D tc ad0 A hT hC hR hK hO hA ad H locs ls hN)
theorem pr_sipush {n : Int} (hi : pLook M.2.2.2.2 pc = some (.sipush n, 3)) (k : pWP M d mc ms n0 X Q (pc + 3) L (.int (Int16.ofInt n).toInt32 :: st) kc ks sh S) : pWP M d mc ms n0 X Q pc L st kc ks sh S := by
  intro p l e R s m args below meth c D tc ad0 A hT hC hR hK hO hA ad H locs ls hN
  exact lv_sipush hC.1 hC.2.1 (pLook_ok hT hi) rfl (k p l e R s m args below meth c D tc ad0 A hT hC hR hK hO hA ad H locs ls hN)
theorem pr_lconst {n : Fin 2} (hi : pLook M.2.2.2.2 pc = some (.lconst n, 1)) (k : pWP M d mc ms n0 X Q (pc + 1) L (.long (Int64.ofNat (n : Nat)) :: st) kc ks sh S) : pWP M d mc ms n0 X Q pc L st kc ks sh S := by
  intro p l e R s m args below meth c D tc ad0 A hT hC hR hK hO hA ad H locs ls hN
  exact lv_lconst hC.1 hC.2.1 (pLook_ok hT hi) rfl (k p l e R s m args below meth c D tc ad0 A hT hC hR hK hO hA ad H locs ls hN)
theorem pr_fconst0  (hi : pLook M.2.2.2.2 pc = some (.fconst 0, 1)) (k : pWP M d mc ms n0 X Q (pc + 1) L (.float FP.fconst0 :: st) kc ks sh S) : pWP M d mc ms n0 X Q pc L st kc ks sh S := by
  intro p l e R s m args below meth c D tc ad0 A hT hC hR hK hO hA ad H locs ls hN
  exact lv_fconst0 hC.1 hC.2.1 (pLook_ok hT hi)  (k p l e R s m args below meth c D tc ad0 A hT hC hR hK hO hA ad H locs ls hN)
theorem pr_fconst1  (hi : pLook M.2.2.2.2 pc = some (.fconst 1, 1)) (k : pWP M d mc ms n0 X Q (pc + 1) L (.float FP.fconst1 :: st) kc ks sh S) : pWP M d mc ms n0 X Q pc L st kc ks sh S := by
  intro p l e R s m args below meth c D tc ad0 A hT hC hR hK hO hA ad H locs ls hN
  exact lv_fconst1 hC.1 hC.2.1 (pLook_ok hT hi)  (k p l e R s m args below meth c D tc ad0 A hT hC hR hK hO hA ad H locs ls hN)
theorem pr_fconst2  (hi : pLook M.2.2.2.2 pc = some (.fconst 2, 1)) (k : pWP M d mc ms n0 X Q (pc + 1) L (.float FP.fconst2 :: st) kc ks sh S) : pWP M d mc ms n0 X Q pc L st kc ks sh S := by
  intro p l e R s m args below meth c D tc ad0 A hT hC hR hK hO hA ad H locs ls hN
  exact lv_fconst2 hC.1 hC.2.1 (pLook_ok hT hi)  (k p l e R s m args below meth c D tc ad0 A hT hC hR hK hO hA ad H locs ls hN)
theorem pr_dconst0  (hi : pLook M.2.2.2.2 pc = some (.dconst 0, 1)) (k : pWP M d mc ms n0 X Q (pc + 1) L (.double FP.dconst0 :: st) kc ks sh S) : pWP M d mc ms n0 X Q pc L st kc ks sh S := by
  intro p l e R s m args below meth c D tc ad0 A hT hC hR hK hO hA ad H locs ls hN
  exact lv_dconst0 hC.1 hC.2.1 (pLook_ok hT hi)  (k p l e R s m args below meth c D tc ad0 A hT hC hR hK hO hA ad H locs ls hN)
theorem pr_dconst1  (hi : pLook M.2.2.2.2 pc = some (.dconst 1, 1)) (k : pWP M d mc ms n0 X Q (pc + 1) L (.double FP.dconst1 :: st) kc ks sh S) : pWP M d mc ms n0 X Q pc L st kc ks sh S := by
  intro p l e R s m args below meth c D tc ad0 A hT hC hR hK hO hA ad H locs ls hN
  exact lv_dconst1 hC.1 hC.2.1 (pLook_ok hT hi)  (k p l e R s m args below meth c D tc ad0 A hT hC hR hK hO hA ad H locs ls hN)
theorem pr_iload_n {j : Fin 4} {x : Int32} (hi : pLook M.2.2.2.2 pc = some (.iload_n j, 1)) (hl : pLd L (j : Nat) = some (.int x)) (k : pWP M d mc ms n0 X Q (pc + 1) L (.int x :: st) kc ks sh S) : pWP M d mc ms n0 X Q pc L st kc ks sh S := by
  intro p l e R s m args below meth c D tc ad0 A hT hC hR hK hO hA ad H locs ls hN
  exact lv_iload_n hC.1 hC.2.1 (pLook_ok hT hi) rfl (pLd_at hN.ls hl) (k p l e R s m args below meth c D tc ad0 A hT hC hR hK hO hA ad H locs ls hN)
theorem pr_iload {j : Nat} {x : Int32} (hi : pLook M.2.2.2.2 pc = some (.iload j, 2)) (hl : pLd L j = some (.int x)) (k : pWP M d mc ms n0 X Q (pc + 2) L (.int x :: st) kc ks sh S) : pWP M d mc ms n0 X Q pc L st kc ks sh S := by
  intro p l e R s m args below meth c D tc ad0 A hT hC hR hK hO hA ad H locs ls hN
  exact lv_iload hC.1 hC.2.1 (pLook_ok hT hi) (pLd_at hN.ls hl) (k p l e R s m args below meth c D tc ad0 A hT hC hR hK hO hA ad H locs ls hN)
theorem pr_lload_n {j : Fin 4} {x : Int64} (hi : pLook M.2.2.2.2 pc = some (.lload_n j, 1)) (hl : pLd L (j : Nat) = some (.long x)) (k : pWP M d mc ms n0 X Q (pc + 1) L (.long x :: st) kc ks sh S) : pWP M d mc ms n0 X Q pc L st kc ks sh S := by
  intro p l e R s m args below meth c D tc ad0 A hT hC hR hK hO hA ad H locs ls hN
  exact lv_lload_n hC.1 hC.2.1 (pLook_ok hT hi) rfl (pLd_at hN.ls hl) (k p l e R s m args below meth c D tc ad0 A hT hC hR hK hO hA ad H locs ls hN)
theorem pr_lload {j : Nat} {x : Int64} (hi : pLook M.2.2.2.2 pc = some (.lload j, 2)) (hl : pLd L j = some (.long x)) (k : pWP M d mc ms n0 X Q (pc + 2) L (.long x :: st) kc ks sh S) : pWP M d mc ms n0 X Q pc L st kc ks sh S := by
  intro p l e R s m args below meth c D tc ad0 A hT hC hR hK hO hA ad H locs ls hN
  exact lv_lload hC.1 hC.2.1 (pLook_ok hT hi) (pLd_at hN.ls hl) (k p l e R s m args below meth c D tc ad0 A hT hC hR hK hO hA ad H locs ls hN)
theorem pr_fload_n {j : Fin 4} {x : UInt32} (hi : pLook M.2.2.2.2 pc = some (.fload_n j, 1)) (hl : pLd L (j : Nat) = some (.float x)) (k : pWP M d mc ms n0 X Q (pc + 1) L (.float x :: st) kc ks sh S) : pWP M d mc ms n0 X Q pc L st kc ks sh S := by
  intro p l e R s m args below meth c D tc ad0 A hT hC hR hK hO hA ad H locs ls hN
  exact lv_fload_n hC.1 hC.2.1 (pLook_ok hT hi) rfl (pLd_at hN.ls hl) (k p l e R s m args below meth c D tc ad0 A hT hC hR hK hO hA ad H locs ls hN)
theorem pr_fload {j : Nat} {x : UInt32} (hi : pLook M.2.2.2.2 pc = some (.fload j, 2)) (hl : pLd L j = some (.float x)) (k : pWP M d mc ms n0 X Q (pc + 2) L (.float x :: st) kc ks sh S) : pWP M d mc ms n0 X Q pc L st kc ks sh S := by
  intro p l e R s m args below meth c D tc ad0 A hT hC hR hK hO hA ad H locs ls hN
  exact lv_fload hC.1 hC.2.1 (pLook_ok hT hi) (pLd_at hN.ls hl) (k p l e R s m args below meth c D tc ad0 A hT hC hR hK hO hA ad H locs ls hN)
theorem pr_dload_n {j : Fin 4} {x : UInt64} (hi : pLook M.2.2.2.2 pc = some (.dload_n j, 1)) (hl : pLd L (j : Nat) = some (.double x)) (k : pWP M d mc ms n0 X Q (pc + 1) L (.double x :: st) kc ks sh S) : pWP M d mc ms n0 X Q pc L st kc ks sh S := by
  intro p l e R s m args below meth c D tc ad0 A hT hC hR hK hO hA ad H locs ls hN
  exact lv_dload_n hC.1 hC.2.1 (pLook_ok hT hi) rfl (pLd_at hN.ls hl) (k p l e R s m args below meth c D tc ad0 A hT hC hR hK hO hA ad H locs ls hN)
theorem pr_dload {j : Nat} {x : UInt64} (hi : pLook M.2.2.2.2 pc = some (.dload j, 2)) (hl : pLd L j = some (.double x)) (k : pWP M d mc ms n0 X Q (pc + 2) L (.double x :: st) kc ks sh S) : pWP M d mc ms n0 X Q pc L st kc ks sh S := by
  intro p l e R s m args below meth c D tc ad0 A hT hC hR hK hO hA ad H locs ls hN
  exact lv_dload hC.1 hC.2.1 (pLook_ok hT hi) (pLd_at hN.ls hl) (k p l e R s m args below meth c D tc ad0 A hT hC hR hK hO hA ad H locs ls hN)
theorem pr_aload_n {j : Fin 4} {x : Nat} (hi : pLook M.2.2.2.2 pc = some (.aload_n j, 1)) (hl : pLd L (j : Nat) = some (.ref x)) (k : pWP M d mc ms n0 X Q (pc + 1) L (.ref x :: st) kc ks sh S) : pWP M d mc ms n0 X Q pc L st kc ks sh S := by
  intro p l e R s m args below meth c D tc ad0 A hT hC hR hK hO hA ad H locs ls hN
  exact lv_aload_n hC.1 hC.2.1 (pLook_ok hT hi) rfl (pLd_at hN.ls hl) (k p l e R s m args below meth c D tc ad0 A hT hC hR hK hO hA ad H locs ls hN)
theorem pr_aload {j : Nat} {x : Nat} (hi : pLook M.2.2.2.2 pc = some (.aload j, 2)) (hl : pLd L j = some (.ref x)) (k : pWP M d mc ms n0 X Q (pc + 2) L (.ref x :: st) kc ks sh S) : pWP M d mc ms n0 X Q pc L st kc ks sh S := by
  intro p l e R s m args below meth c D tc ad0 A hT hC hR hK hO hA ad H locs ls hN
  exact lv_aload hC.1 hC.2.1 (pLook_ok hT hi) (pLd_at hN.ls hl) (k p l e R s m args below meth c D tc ad0 A hT hC hR hK hO hA ad H locs ls hN)
theorem pr_istore_n {j : Fin 4} {x : Int32} (hi : pLook M.2.2.2.2 pc = some (.istore_n j, 1)) (hj : (j : Nat) < M.2.2.1) (k : pWP M d mc ms n0 X Q (pc + 1) (pS1 L (j : Nat) (.int x)) st kc ks sh S) : pWP M d mc ms n0 X Q pc L (.int x :: st) kc ks sh S := by
  intro p l e R s m args below meth c D tc ad0 A hT hC hR hK hO hA ad H locs ls hN
  exact lv_istore_n hC.1 hC.2.1 (pLook_ok hT hi) rfl hN.ls hj rfl (fun ls2 h2 => k p l e R s m args below meth c D tc ad0 A hT hC hR hK hO hA ad H locs ls2 (hN.st (pS1_has (v := .int x) h2)))
theorem pr_istore {j : Nat} {x : Int32} (hi : pLook M.2.2.2.2 pc = some (.istore j, 2)) (hj : j < M.2.2.1) (k : pWP M d mc ms n0 X Q (pc + 2) (pS1 L j (.int x)) st kc ks sh S) : pWP M d mc ms n0 X Q pc L (.int x :: st) kc ks sh S := by
  intro p l e R s m args below meth c D tc ad0 A hT hC hR hK hO hA ad H locs ls hN
  exact lv_istore hC.1 hC.2.1 (pLook_ok hT hi)  hN.ls hj rfl (fun ls2 h2 => k p l e R s m args below meth c D tc ad0 A hT hC hR hK hO hA ad H locs ls2 (hN.st (pS1_has (v := .int x) h2)))
theorem pr_lstore_n {j : Fin 4} {x : Int64} (hi : pLook M.2.2.2.2 pc = some (.lstore_n j, 1)) (hj : (j : Nat) + 1 < M.2.2.1) (k : pWP M d mc ms n0 X Q (pc + 1) (pS2 L (j : Nat) (.long x)) st kc ks sh S) : pWP M d mc ms n0 X Q pc L (.long x :: st) kc ks sh S := by
  intro p l e R s m args below meth c D tc ad0 A hT hC hR hK hO hA ad H locs ls hN
  exact lv_lstore_n hC.1 hC.2.1 (pLook_ok hT hi) rfl hN.ls hj rfl (fun ls2 h2 => k p l e R s m args below meth c D tc ad0 A hT hC hR hK hO hA ad H locs ls2 (hN.st (pS2_has (v := .long x) h2)))
theorem pr_lstore {j : Nat} {x : Int64} (hi : pLook M.2.2.2.2 pc = some (.lstore j, 2)) (hj : j + 1 < M.2.2.1) (k : pWP M d mc ms n0 X Q (pc + 2) (pS2 L j (.long x)) st kc ks sh S) : pWP M d mc ms n0 X Q pc L (.long x :: st) kc ks sh S := by
  intro p l e R s m args below meth c D tc ad0 A hT hC hR hK hO hA ad H locs ls hN
  exact lv_lstore hC.1 hC.2.1 (pLook_ok hT hi)  hN.ls hj rfl (fun ls2 h2 => k p l e R s m args below meth c D tc ad0 A hT hC hR hK hO hA ad H locs ls2 (hN.st (pS2_has (v := .long x) h2)))
theorem pr_fstore_n {j : Fin 4} {x : UInt32} (hi : pLook M.2.2.2.2 pc = some (.fstore_n j, 1)) (hj : (j : Nat) < M.2.2.1) (k : pWP M d mc ms n0 X Q (pc + 1) (pS1 L (j : Nat) (.float x)) st kc ks sh S) : pWP M d mc ms n0 X Q pc L (.float x :: st) kc ks sh S := by
  intro p l e R s m args below meth c D tc ad0 A hT hC hR hK hO hA ad H locs ls hN
  exact lv_fstore_n hC.1 hC.2.1 (pLook_ok hT hi) rfl hN.ls hj rfl (fun ls2 h2 => k p l e R s m args below meth c D tc ad0 A hT hC hR hK hO hA ad H locs ls2 (hN.st (pS1_has (v := .float x) h2)))
theorem pr_fstore {j : Nat} {x : UInt32} (hi : pLook M.2.2.2.2 pc = some (.fstore j, 2)) (hj : j < M.2.2.1) (k : pWP M d mc ms n0 X Q (pc + 2) (pS1 L j (.float x)) st kc ks sh S) : pWP M d mc ms n0 X Q pc L (.float x :: st) kc ks sh S := by
  intro p l e R s m args below meth c D tc ad0 A hT hC hR hK hO hA ad H locs ls hN
  exact lv_fstore hC.1 hC.2.1 (pLook_ok hT hi)  hN.ls hj rfl (fun ls2 h2 => k p l e R s m args below meth c D tc ad0 A hT hC hR hK hO hA ad H locs ls2 (hN.st (pS1_has (v := .float x) h2)))
theorem pr_dstore_n {j : Fin 4} {x : UInt64} (hi : pLook M.2.2.2.2 pc = some (.dstore_n j, 1)) (hj : (j : Nat) + 1 < M.2.2.1) (k : pWP M d mc ms n0 X Q (pc + 1) (pS2 L (j : Nat) (.double x)) st kc ks sh S) : pWP M d mc ms n0 X Q pc L (.double x :: st) kc ks sh S := by
  intro p l e R s m args below meth c D tc ad0 A hT hC hR hK hO hA ad H locs ls hN
  exact lv_dstore_n hC.1 hC.2.1 (pLook_ok hT hi) rfl hN.ls hj rfl (fun ls2 h2 => k p l e R s m args below meth c D tc ad0 A hT hC hR hK hO hA ad H locs ls2 (hN.st (pS2_has (v := .double x) h2)))
theorem pr_dstore {j : Nat} {x : UInt64} (hi : pLook M.2.2.2.2 pc = some (.dstore j, 2)) (hj : j + 1 < M.2.2.1) (k : pWP M d mc ms n0 X Q (pc + 2) (pS2 L j (.double x)) st kc ks sh S) : pWP M d mc ms n0 X Q pc L (.double x :: st) kc ks sh S := by
  intro p l e R s m args below meth c D tc ad0 A hT hC hR hK hO hA ad H locs ls hN
  exact lv_dstore hC.1 hC.2.1 (pLook_ok hT hi)  hN.ls hj rfl (fun ls2 h2 => k p l e R s m args below meth c D tc ad0 A hT hC hR hK hO hA ad H locs ls2 (hN.st (pS2_has (v := .double x) h2)))
theorem pr_astore_n {j : Fin 4} {x : Nat} (hi : pLook M.2.2.2.2 pc = some (.astore_n j, 1)) (hj : (j : Nat) < M.2.2.1) (k : pWP M d mc ms n0 X Q (pc + 1) (pS1 L (j : Nat) (.ref x)) st kc ks sh S) : pWP M d mc ms n0 X Q pc L (.ref x :: st) kc ks sh S := by
  intro p l e R s m args below meth c D tc ad0 A hT hC hR hK hO hA ad H locs ls hN
  exact lv_astore_n hC.1 hC.2.1 (pLook_ok hT hi) rfl hN.ls hj rfl (fun ls2 h2 => k p l e R s m args below meth c D tc ad0 A hT hC hR hK hO hA ad H locs ls2 (hN.st (pS1_has (v := .ref x) h2)))
theorem pr_astore {j : Nat} {x : Nat} (hi : pLook M.2.2.2.2 pc = some (.astore j, 2)) (hj : j < M.2.2.1) (k : pWP M d mc ms n0 X Q (pc + 2) (pS1 L j (.ref x)) st kc ks sh S) : pWP M d mc ms n0 X Q pc L (.ref x :: st) kc ks sh S := by
  intro p l e R s m args below meth c D tc ad0 A hT hC hR hK hO hA ad H locs ls hN
  exact lv_astore hC.1 hC.2.1 (pLook_ok hT hi)  hN.ls hj rfl (fun ls2 h2 => k p l e R s m args below meth c D tc ad0 A hT hC hR hK hO hA ad H locs ls2 (hN.st (pS1_has (v := .ref x) h2)))
theorem pr_iinc {j : Nat} {n : Int} {x : Int32} (hi : pLook M.2.2.2.2 pc = some (.iinc j n, 3)) (hj : j < M.2.2.1) (hl : pLd L j = some (.int x)) (k : pWP M d mc ms n0 X Q (pc + 3) (pS1 L j (.int (x + Int32.ofInt n))) st kc ks sh S) : pWP M d mc ms n0 X Q pc L st kc ks sh S := by
  intro p l e R s m args below meth c D tc ad0 A hT hC hR hK hO hA ad H locs ls hN
  have hm : (j, Value.int x) ∈ pAs ad L := pAs_mem.mpr ⟨.int x, by
    unfold pLd at hl
    rw [List.getD_eq_getElem?_getD] at hl
    cases hL : L[j]? with
    | none => rw [hL] at hl; cases hl
    | some o => rw [hL] at hl; exact congrArg some hl, rfl⟩
  obtain ⟨i9, h9⟩ := List.getElem?_of_mem hm
  exact lv_iinc hC.1 hC.2.1 (pLook_ok hT hi) hN.ls h9 rfl hj rfl (fun ls2 h2 => k p l e R s m args below meth c D tc ad0 A hT hC hR hK hO hA ad H locs ls2 (hN.st (pS1_has (v := .int _) h2)))
theorem pr_iadd  {x : Int32} {y : Int32} (hi : pLook M.2.2.2.2 pc = some (.iadd, 1)) (k : pWP M d mc ms n0 X Q (pc + 1) L (.int (x + y) :: st) kc ks sh S) : pWP M d mc ms n0 X Q pc L (.int y :: .int x :: st) kc ks sh S := by
  intro p l e R s m args below meth c D tc ad0 A hT hC hR hK hO hA ad H locs ls hN
  exact lv_iadd hC.1 hC.2.1 (pLook_ok hT hi)  (k p l e R s m args below meth c D tc ad0 A hT hC hR hK hO hA ad H locs ls hN)
theorem pr_isub  {x : Int32} {y : Int32} (hi : pLook M.2.2.2.2 pc = some (.isub, 1)) (k : pWP M d mc ms n0 X Q (pc + 1) L (.int (x - y) :: st) kc ks sh S) : pWP M d mc ms n0 X Q pc L (.int y :: .int x :: st) kc ks sh S := by
  intro p l e R s m args below meth c D tc ad0 A hT hC hR hK hO hA ad H locs ls hN
  exact lv_isub hC.1 hC.2.1 (pLook_ok hT hi)  (k p l e R s m args below meth c D tc ad0 A hT hC hR hK hO hA ad H locs ls hN)
theorem pr_imul  {x : Int32} {y : Int32} (hi : pLook M.2.2.2.2 pc = some (.imul, 1)) (k : pWP M d mc ms n0 X Q (pc + 1) L (.int (x * y) :: st) kc ks sh S) : pWP M d mc ms n0 X Q pc L (.int y :: .int x :: st) kc ks sh S := by
  intro p l e R s m args below meth c D tc ad0 A hT hC hR hK hO hA ad H locs ls hN
  exact lv_imul hC.1 hC.2.1 (pLook_ok hT hi)  (k p l e R s m args below meth c D tc ad0 A hT hC hR hK hO hA ad H locs ls hN)
theorem pr_iand  {x : Int32} {y : Int32} (hi : pLook M.2.2.2.2 pc = some (.iand, 1)) (k : pWP M d mc ms n0 X Q (pc + 1) L (.int (x &&& y) :: st) kc ks sh S) : pWP M d mc ms n0 X Q pc L (.int y :: .int x :: st) kc ks sh S := by
  intro p l e R s m args below meth c D tc ad0 A hT hC hR hK hO hA ad H locs ls hN
  exact lv_iand hC.1 hC.2.1 (pLook_ok hT hi)  (k p l e R s m args below meth c D tc ad0 A hT hC hR hK hO hA ad H locs ls hN)
theorem pr_ineg  {x : Int32} (hi : pLook M.2.2.2.2 pc = some (.ineg, 1)) (k : pWP M d mc ms n0 X Q (pc + 1) L (.int (-x) :: st) kc ks sh S) : pWP M d mc ms n0 X Q pc L (.int x :: st) kc ks sh S := by
  intro p l e R s m args below meth c D tc ad0 A hT hC hR hK hO hA ad H locs ls hN
  exact lv_ineg hC.1 hC.2.1 (pLook_ok hT hi)  (k p l e R s m args below meth c D tc ad0 A hT hC hR hK hO hA ad H locs ls hN)
theorem pr_ishl  {x : Int32} {y : Int32} (hi : pLook M.2.2.2.2 pc = some (.ishl, 1)) (k : pWP M d mc ms n0 X Q (pc + 1) L (.int (x <<< (y &&& 31)) :: st) kc ks sh S) : pWP M d mc ms n0 X Q pc L (.int y :: .int x :: st) kc ks sh S := by
  intro p l e R s m args below meth c D tc ad0 A hT hC hR hK hO hA ad H locs ls hN
  exact lv_ishl hC.1 hC.2.1 (pLook_ok hT hi)  (k p l e R s m args below meth c D tc ad0 A hT hC hR hK hO hA ad H locs ls hN)
theorem pr_ladd  {x : Int64} {y : Int64} (hi : pLook M.2.2.2.2 pc = some (.ladd, 1)) (k : pWP M d mc ms n0 X Q (pc + 1) L (.long (x + y) :: st) kc ks sh S) : pWP M d mc ms n0 X Q pc L (.long y :: .long x :: st) kc ks sh S := by
  intro p l e R s m args below meth c D tc ad0 A hT hC hR hK hO hA ad H locs ls hN
  exact lv_ladd hC.1 hC.2.1 (pLook_ok hT hi)  (k p l e R s m args below meth c D tc ad0 A hT hC hR hK hO hA ad H locs ls hN)
theorem pr_lsub  {x : Int64} {y : Int64} (hi : pLook M.2.2.2.2 pc = some (.lsub, 1)) (k : pWP M d mc ms n0 X Q (pc + 1) L (.long (x - y) :: st) kc ks sh S) : pWP M d mc ms n0 X Q pc L (.long y :: .long x :: st) kc ks sh S := by
  intro p l e R s m args below meth c D tc ad0 A hT hC hR hK hO hA ad H locs ls hN
  exact lv_lsub hC.1 hC.2.1 (pLook_ok hT hi)  (k p l e R s m args below meth c D tc ad0 A hT hC hR hK hO hA ad H locs ls hN)
theorem pr_land  {x : Int64} {y : Int64} (hi : pLook M.2.2.2.2 pc = some (.land, 1)) (k : pWP M d mc ms n0 X Q (pc + 1) L (.long (x &&& y) :: st) kc ks sh S) : pWP M d mc ms n0 X Q pc L (.long y :: .long x :: st) kc ks sh S := by
  intro p l e R s m args below meth c D tc ad0 A hT hC hR hK hO hA ad H locs ls hN
  exact lv_land hC.1 hC.2.1 (pLook_ok hT hi)  (k p l e R s m args below meth c D tc ad0 A hT hC hR hK hO hA ad H locs ls hN)
theorem pr_lor  {x : Int64} {y : Int64} (hi : pLook M.2.2.2.2 pc = some (.lor, 1)) (k : pWP M d mc ms n0 X Q (pc + 1) L (.long (x ||| y) :: st) kc ks sh S) : pWP M d mc ms n0 X Q pc L (.long y :: .long x :: st) kc ks sh S := by
  intro p l e R s m args below meth c D tc ad0 A hT hC hR hK hO hA ad H locs ls hN
  exact lv_lor hC.1 hC.2.1 (pLook_ok hT hi)  (k p l e R s m args below meth c D tc ad0 A hT hC hR hK hO hA ad H locs ls hN)
theorem pr_lshl  {x : Int64} {y : Int32} (hi : pLook M.2.2.2.2 pc = some (.lshl, 1)) (k : pWP M d mc ms n0 X Q (pc + 1) L (.long (x <<< (y.toInt64 &&& 63)) :: st) kc ks sh S) : pWP M d mc ms n0 X Q pc L (.int y :: .long x :: st) kc ks sh S := by
  intro p l e R s m args below meth c D tc ad0 A hT hC hR hK hO hA ad H locs ls hN
  exact lv_lshl hC.1 hC.2.1 (pLook_ok hT hi) rfl (k p l e R s m args below meth c D tc ad0 A hT hC hR hK hO hA ad H locs ls hN)
theorem pr_lshr  {x : Int64} {y : Int32} (hi : pLook M.2.2.2.2 pc = some (.lshr, 1)) (k : pWP M d mc ms n0 X Q (pc + 1) L (.long (x >>> (y.toInt64 &&& 63)) :: st) kc ks sh S) : pWP M d mc ms n0 X Q pc L (.int y :: .long x :: st) kc ks sh S := by
  intro p l e R s m args below meth c D tc ad0 A hT hC hR hK hO hA ad H locs ls hN
  exact lv_lshr hC.1 hC.2.1 (pLook_ok hT hi) rfl (k p l e R s m args below meth c D tc ad0 A hT hC hR hK hO hA ad H locs ls hN)
theorem pr_i2l  {x : Int32} (hi : pLook M.2.2.2.2 pc = some (.i2l, 1)) (k : pWP M d mc ms n0 X Q (pc + 1) L (.long x.toInt64 :: st) kc ks sh S) : pWP M d mc ms n0 X Q pc L (.int x :: st) kc ks sh S := by
  intro p l e R s m args below meth c D tc ad0 A hT hC hR hK hO hA ad H locs ls hN
  exact lv_i2l hC.1 hC.2.1 (pLook_ok hT hi) rfl (k p l e R s m args below meth c D tc ad0 A hT hC hR hK hO hA ad H locs ls hN)
theorem pr_l2i  {x : Int64} (hi : pLook M.2.2.2.2 pc = some (.l2i, 1)) (k : pWP M d mc ms n0 X Q (pc + 1) L (.int x.toInt32 :: st) kc ks sh S) : pWP M d mc ms n0 X Q pc L (.long x :: st) kc ks sh S := by
  intro p l e R s m args below meth c D tc ad0 A hT hC hR hK hO hA ad H locs ls hN
  exact lv_l2i hC.1 hC.2.1 (pLook_ok hT hi) rfl (k p l e R s m args below meth c D tc ad0 A hT hC hR hK hO hA ad H locs ls hN)
theorem pr_i2s  {x : Int32} (hi : pLook M.2.2.2.2 pc = some (.i2s, 1)) (k : pWP M d mc ms n0 X Q (pc + 1) L (.int x.toInt16.toInt32 :: st) kc ks sh S) : pWP M d mc ms n0 X Q pc L (.int x :: st) kc ks sh S := by
  intro p l e R s m args below meth c D tc ad0 A hT hC hR hK hO hA ad H locs ls hN
  exact lv_i2s hC.1 hC.2.1 (pLook_ok hT hi) rfl (k p l e R s m args below meth c D tc ad0 A hT hC hR hK hO hA ad H locs ls hN)
theorem pr_i2f  {x : Int32} (hi : pLook M.2.2.2.2 pc = some (.i2f, 1)) (k : pWP M d mc ms n0 X Q (pc + 1) L (.float (FP.i2f x) :: st) kc ks sh S) : pWP M d mc ms n0 X Q pc L (.int x :: st) kc ks sh S := by
  intro p l e R s m args below meth c D tc ad0 A hT hC hR hK hO hA ad H locs ls hN
  exact lv_i2f hC.1 hC.2.1 (pLook_ok hT hi)  (k p l e R s m args below meth c D tc ad0 A hT hC hR hK hO hA ad H locs ls hN)
theorem pr_l2f  {x : Int64} (hi : pLook M.2.2.2.2 pc = some (.l2f, 1)) (k : pWP M d mc ms n0 X Q (pc + 1) L (.float (FP.l2f x) :: st) kc ks sh S) : pWP M d mc ms n0 X Q pc L (.long x :: st) kc ks sh S := by
  intro p l e R s m args below meth c D tc ad0 A hT hC hR hK hO hA ad H locs ls hN
  exact lv_l2f hC.1 hC.2.1 (pLook_ok hT hi)  (k p l e R s m args below meth c D tc ad0 A hT hC hR hK hO hA ad H locs ls hN)
theorem pr_f2i  {x : UInt32} (hi : pLook M.2.2.2.2 pc = some (.f2i, 1)) (k : pWP M d mc ms n0 X Q (pc + 1) L (.int (FP.f2i x) :: st) kc ks sh S) : pWP M d mc ms n0 X Q pc L (.float x :: st) kc ks sh S := by
  intro p l e R s m args below meth c D tc ad0 A hT hC hR hK hO hA ad H locs ls hN
  exact lv_f2i hC.1 hC.2.1 (pLook_ok hT hi)  (k p l e R s m args below meth c D tc ad0 A hT hC hR hK hO hA ad H locs ls hN)
theorem pr_i2d  {x : Int32} (hi : pLook M.2.2.2.2 pc = some (.i2d, 1)) (k : pWP M d mc ms n0 X Q (pc + 1) L (.double (FP.i2d x) :: st) kc ks sh S) : pWP M d mc ms n0 X Q pc L (.int x :: st) kc ks sh S := by
  intro p l e R s m args below meth c D tc ad0 A hT hC hR hK hO hA ad H locs ls hN
  exact lv_i2d hC.1 hC.2.1 (pLook_ok hT hi)  (k p l e R s m args below meth c D tc ad0 A hT hC hR hK hO hA ad H locs ls hN)
theorem pr_l2d  {x : Int64} (hi : pLook M.2.2.2.2 pc = some (.l2d, 1)) (k : pWP M d mc ms n0 X Q (pc + 1) L (.double (FP.l2d x) :: st) kc ks sh S) : pWP M d mc ms n0 X Q pc L (.long x :: st) kc ks sh S := by
  intro p l e R s m args below meth c D tc ad0 A hT hC hR hK hO hA ad H locs ls hN
  exact lv_l2d hC.1 hC.2.1 (pLook_ok hT hi)  (k p l e R s m args below meth c D tc ad0 A hT hC hR hK hO hA ad H locs ls hN)
theorem pr_d2i  {x : UInt64} (hi : pLook M.2.2.2.2 pc = some (.d2i, 1)) (k : pWP M d mc ms n0 X Q (pc + 1) L (.int (FP.d2i x) :: st) kc ks sh S) : pWP M d mc ms n0 X Q pc L (.double x :: st) kc ks sh S := by
  intro p l e R s m args below meth c D tc ad0 A hT hC hR hK hO hA ad H locs ls hN
  exact lv_d2i hC.1 hC.2.1 (pLook_ok hT hi)  (k p l e R s m args below meth c D tc ad0 A hT hC hR hK hO hA ad H locs ls hN)
theorem pr_d2l  {x : UInt64} (hi : pLook M.2.2.2.2 pc = some (.d2l, 1)) (k : pWP M d mc ms n0 X Q (pc + 1) L (.long (FP.d2l x) :: st) kc ks sh S) : pWP M d mc ms n0 X Q pc L (.double x :: st) kc ks sh S := by
  intro p l e R s m args below meth c D tc ad0 A hT hC hR hK hO hA ad H locs ls hN
  exact lv_d2l hC.1 hC.2.1 (pLook_ok hT hi)  (k p l e R s m args below meth c D tc ad0 A hT hC hR hK hO hA ad H locs ls hN)
theorem pr_dneg  {x : UInt64} (hi : pLook M.2.2.2.2 pc = some (.dneg, 1)) (k : pWP M d mc ms n0 X Q (pc + 1) L (.double (FP.dneg x) :: st) kc ks sh S) : pWP M d mc ms n0 X Q pc L (.double x :: st) kc ks sh S := by
  intro p l e R s m args below meth c D tc ad0 A hT hC hR hK hO hA ad H locs ls hN
  exact lv_dneg hC.1 hC.2.1 (pLook_ok hT hi)  (k p l e R s m args below meth c D tc ad0 A hT hC hR hK hO hA ad H locs ls hN)
theorem pr_fcmp {op : CmpOp} {x : UInt32} {y : UInt32} (hi : pLook M.2.2.2.2 pc = some (.fcmp op, 1)) (k : pWP M d mc ms n0 X Q (pc + 1) L (.int (Op.cmpValue (FP.fcmp x y) op) :: st) kc ks sh S) : pWP M d mc ms n0 X Q pc L (.float y :: .float x :: st) kc ks sh S := by
  intro p l e R s m args below meth c D tc ad0 A hT hC hR hK hO hA ad H locs ls hN
  exact lv_fcmp hC.1 hC.2.1 (pLook_ok hT hi)  (k p l e R s m args below meth c D tc ad0 A hT hC hR hK hO hA ad H locs ls hN)
theorem pr_dcmp {op : CmpOp} {x : UInt64} {y : UInt64} (hi : pLook M.2.2.2.2 pc = some (.dcmp op, 1)) (k : pWP M d mc ms n0 X Q (pc + 1) L (.int (Op.cmpValue (FP.dcmp x y) op) :: st) kc ks sh S) : pWP M d mc ms n0 X Q pc L (.double y :: .double x :: st) kc ks sh S := by
  intro p l e R s m args below meth c D tc ad0 A hT hC hR hK hO hA ad H locs ls hN
  exact lv_dcmp hC.1 hC.2.1 (pLook_ok hT hi)  (k p l e R s m args below meth c D tc ad0 A hT hC hR hK hO hA ad H locs ls hN)
theorem pr_dup {v : Value} (hi : pLook M.2.2.2.2 pc = some (.dup, 1)) (hv : v.category = 1) (k : pWP M d mc ms n0 X Q (pc + 1) L (v :: v :: st) kc ks sh S) : pWP M d mc ms n0 X Q pc L (v :: st) kc ks sh S := by
  intro p l e R s m args below meth c D tc ad0 A hT hC hR hK hO hA ad H locs ls hN
  exact lv_dup hC.1 hC.2.1 (pLook_ok hT hi) (by rw [pTr_cat]; exact hv) (k p l e R s m args below meth c D tc ad0 A hT hC hR hK hO hA ad H locs ls hN)
theorem pr_pop {v : Value} (hi : pLook M.2.2.2.2 pc = some (.pop, 1)) (hv : v.category = 1) (k : pWP M d mc ms n0 X Q (pc + 1) L st kc ks sh S) : pWP M d mc ms n0 X Q pc L (v :: st) kc ks sh S := by
  intro p l e R s m args below meth c D tc ad0 A hT hC hR hK hO hA ad H locs ls hN
  exact lv_pop hC.1 hC.2.1 (pLook_ok hT hi) (by rw [pTr_cat]; exact hv) (k p l e R s m args below meth c D tc ad0 A hT hC hR hK hO hA ad H locs ls hN)
theorem pr_dup2 {v w : Value} (hi : pLook M.2.2.2.2 pc = some (.dup2, 1)) (hv : v.category = 1) (hw : w.category = 1) (k : pWP M d mc ms n0 X Q (pc + 1) L (v :: w :: v :: w :: st) kc ks sh S) : pWP M d mc ms n0 X Q pc L (v :: w :: st) kc ks sh S := by
  intro p l e R s m args below meth c D tc ad0 A hT hC hR hK hO hA ad H locs ls hN
  exact lv_dup2_11 hC.1 hC.2.1 (pLook_ok hT hi) (by rw [pTr_cat]; exact hv) (by rw [pTr_cat]; exact hw) (k p l e R s m args below meth c D tc ad0 A hT hC hR hK hO hA ad H locs ls hN)
theorem pr_lcmp {x y : Int64} (hi : pLook M.2.2.2.2 pc = some (.lcmp, 1)) (k : pWP M d mc ms n0 X Q (pc + 1) L (.int (lg_cmp x y) :: st) kc ks sh S) : pWP M d mc ms n0 X Q pc L (.long y :: .long x :: st) kc ks sh S := by
  intro p l e R s m args below meth c D tc ad0 A hT hC hR hK hO hA ad H locs ls hN
  exact W.lcmp hC.1 hC.2.1 (pLook_ok hT hi) (k p l e R s m args below meth c D tc ad0 A hT hC hR hK hO hA ad H locs ls hN)
theorem pr_fadd {x y : UInt32} (hi : pLook M.2.2.2.2 pc = some (.fadd, 1)) (hne : vf_n32 (FP.fadd x y)) (k : pWP M d mc ms n0 X Q (pc + 1) L (.float (FP.fadd x y) :: st) kc ks sh S) : pWP M d mc ms n0 X Q pc L (.float y :: .float x :: st) kc ks sh S := by
  intro p l e R s m args below meth c D tc ad0 A hT hC hR hK hO hA ad H locs ls hN
  exact lv_fadd hC.1 hC.2.1 (pLook_ok hT hi) hne (k p l e R s m args below meth c D tc ad0 A hT hC hR hK hO hA ad H locs ls hN)
theorem pr_fsub {x y : UInt32} (hi : pLook M.2.2.2.2 pc = some (.fsub, 1)) (hne : vf_n32 (FP.fsub x y)) (k : pWP M d mc ms n0 X Q (pc + 1) L (.float (FP.fsub x y) :: st) kc ks sh S) : pWP M d mc ms n0 X Q pc L (.float y :: .float x :: st) kc ks sh S := by
  intro p l e R s m args below meth c D tc ad0 A hT hC hR hK hO hA ad H locs ls hN
  exact lv_fsub hC.1 hC.2.1 (pLook_ok hT hi) hne (k p l e R s m args below meth c D tc ad0 A hT hC hR hK hO hA ad H locs ls hN)
theorem pr_fmul {x y : UInt32} (hi : pLook M.2.2.2.2 pc = some (.fmul, 1)) (hne : vf_n32 (FP.fmul x y)) (k : pWP M d mc ms n0 X Q (pc + 1) L (.float (FP.fmul x y) :: st) kc ks sh S) : pWP M d mc ms n0 X Q pc L (.float y :: .float x :: st) kc ks sh S := by
  intro p l e R s m args below meth c D tc ad0 A hT hC hR hK hO hA ad H locs ls hN
  exact lv_fmul hC.1 hC.2.1 (pLook_ok hT hi) hne (k p l e R s m args below meth c D tc ad0 A hT hC hR hK hO hA ad H locs ls hN)
theorem pr_fdiv {x y : UInt32} (hi : pLook M.2.2.2.2 pc = some (.fdiv, 1)) (hne : vf_n32 (FP.fdiv x y)) (k : pWP M d mc ms n0 X Q (pc + 1) L (.float (FP.fdiv x y) :: st) kc ks sh S) : pWP M d mc ms n0 X Q pc L (.float y :: .float x :: st) kc ks sh S := by
  intro p l e R s m args below meth c D tc ad0 A hT hC hR hK hO hA ad H locs ls hN
  exact lv_fdiv hC.1 hC.2.1 (pLook_ok hT hi) hne (k p l e R s m args below meth c D tc ad0 A hT hC hR hK hO hA ad H locs ls hN)
theorem pr_frem {x y : UInt32} (hi : pLook M.2.2.2.2 pc = some (.frem, 1)) (hne : vf_n32 (FP.frem x y)) (k : pWP M d mc ms n0 X Q (pc + 1) L (.float (FP.frem x y) :: st) kc ks sh S) : pWP M d mc ms n0 X Q pc L (.float y :: .float x :: st) kc ks sh S := by
  intro p l e R s m args below meth c D tc ad0 A hT hC hR hK hO hA ad H locs ls hN
  exact lv_frem hC.1 hC.2.1 (pLook_ok hT hi) hne (k p l e R s m args below meth c D tc ad0 A hT hC hR hK hO hA ad H locs ls hN)
theorem pr_dadd {x y : UInt64} (hi : pLook M.2.2.2.2 pc = some (.dadd, 1)) (hne : vf_n64 (FP.dadd x y)) (k : pWP M d mc ms n0 X Q (pc + 1) L (.double (FP.dadd x y) :: st) kc ks sh S) : pWP M d mc ms n0 X Q pc L (.double y :: .double x :: st) kc ks sh S := by
  intro p l e R s m args below meth c D tc ad0 A hT hC hR hK hO hA ad H locs ls hN
  exact lv_dadd hC.1 hC.2.1 (pLook_ok hT hi) hne (k p l e R s m args below meth c D tc ad0 A hT hC hR hK hO hA ad H locs ls hN)
theorem pr_dsub {x y : UInt64} (hi : pLook M.2.2.2.2 pc = some (.dsub, 1)) (hne : vf_n64 (FP.dsub x y)) (k : pWP M d mc ms n0 X Q (pc + 1) L (.double (FP.dsub x y) :: st) kc ks sh S) : pWP M d mc ms n0 X Q pc L (.double y :: .double x :: st) kc ks sh S := by
  intro p l e R s m args below meth c D tc ad0 A hT hC hR hK hO hA ad H locs ls hN
  exact lv_dsub hC.1 hC.2.1 (pLook_ok hT hi) hne (k p l e R s m args below meth c D tc ad0 A hT hC hR hK hO hA ad H locs ls hN)
theorem pr_dmul {x y : UInt64} (hi : pLook M.2.2.2.2 pc = some (.dmul, 1)) (hne : vf_n64 (FP.dmul x y)) (k : pWP M d mc ms n0 X Q (pc + 1) L (.double (FP.dmul x y) :: st) kc ks sh S) : pWP M d mc ms n0 X Q pc L (.double y :: .double x :: st) kc ks sh S := by
  intro p l e R s m args below meth c D tc ad0 A hT hC hR hK hO hA ad H locs ls hN
  exact lv_dmul hC.1 hC.2.1 (pLook_ok hT hi) hne (k p l e R s m args below meth c D tc ad0 A hT hC hR hK hO hA ad H locs ls hN)
theorem pr_ddiv {x y : UInt64} (hi : pLook M.2.2.2.2 pc = some (.ddiv, 1)) (hne : vf_n64 (FP.ddiv x y)) (k : pWP M d mc ms n0 X Q (pc + 1) L (.double (FP.ddiv x y) :: st) kc ks sh S) : pWP M d mc ms n0 X Q pc L (.double y :: .double x :: st) kc ks sh S := by
  intro p l e R s m args below meth c D tc ad0 A hT hC hR hK hO hA ad H locs ls hN
  exact lv_ddiv hC.1 hC.2.1 (pLook_ok hT hi) hne (k p l e R s m args below meth c D tc ad0 A hT hC hR hK hO hA ad H locs ls hN)
theorem pr_drem {x y : UInt64} (hi : pLook M.2.2.2.2 pc = some (.drem, 1)) (hne : vf_n64 (FP.drem x y)) (k : pWP M d mc ms n0 X Q (pc + 1) L (.double (FP.drem x y) :: st) kc ks sh S) : pWP M d mc ms n0 X Q pc L (.double y :: .double x :: st) kc ks sh S := by
  intro p l e R s m args below meth c D tc ad0 A hT hC hR hK hO hA ad H locs ls hN
  exact lv_drem hC.1 hC.2.1 (pLook_ok hT hi) hne (k p l e R s m args below meth c D tc ad0 A hT hC hR hK hO hA ad H locs ls hN)
theorem pr_f2d {x : UInt32} (hi : pLook M.2.2.2.2 pc = some (.f2d, 1)) (hne : vf_n64 (FP.f2d x)) (k : pWP M d mc ms n0 X Q (pc + 1) L (.double (FP.f2d x) :: st) kc ks sh S) : pWP M d mc ms n0 X Q pc L (.float x :: st) kc ks sh S := by
  intro p l e R s m args below meth c D tc ad0 A hT hC hR hK hO hA ad H locs ls hN
  exact lv_f2d hC.1 hC.2.1 (pLook_ok hT hi) hne (k p l e R s m args below meth c D tc ad0 A hT hC hR hK hO hA ad H locs ls hN)
theorem pr_d2f {x : UInt64} (hi : pLook M.2.2.2.2 pc = some (.d2f, 1)) (hne : vf_n32 (FP.d2f x)) (k : pWP M d mc ms n0 X Q (pc + 1) L (.float (FP.d2f x) :: st) kc ks sh S) : pWP M d mc ms n0 X Q pc L (.double x :: st) kc ks sh S := by
  intro p l e R s m args below meth c D tc ad0 A hT hC hR hK hO hA ad H locs ls hN
  exact lv_d2f hC.1 hC.2.1 (pLook_ok hT hi) hne (k p l e R s m args below meth c D tc ad0 A hT hC hR hK hO hA ad H locs ls hN)
theorem pr_irem {x y : Int32} (hi : pLook M.2.2.2.2 pc = some (.irem, 1)) (hne : ¬ y = 0) (k : pWP M d mc ms n0 X Q (pc + 1) L (.int (x - x / y * y) :: st) kc ks sh S) : pWP M d mc ms n0 X Q pc L (.int y :: .int x :: st) kc ks sh S := by
  intro p l e R s m args below meth c D tc ad0 A hT hC hR hK hO hA ad H locs ls hN
  exact lv_irem hC.1 hC.2.1 (pLook_ok hT hi) hne (k p l e R s m args below meth c D tc ad0 A hT hC hR hK hO hA ad H locs ls hN)
theorem pr_lrem {x y : Int64} (hi : pLook M.2.2.2.2 pc = some (.lrem, 1)) (hne : ¬ y = 0) (k : pWP M d mc ms n0 X Q (pc + 1) L (.long (x - x / y * y) :: st) kc ks sh S) : pWP M d mc ms n0 X Q pc L (.long y :: .long x :: st) kc ks sh S := by
  intro p l e R s m args below meth c D tc ad0 A hT hC hR hK hO hA ad H locs ls hN
  exact lv_lrem hC.1 hC.2.1 (pLook_ok hT hi) hne (k p l e R s m args below meth c D tc ad0 A hT hC hR hK hO hA ad H locs ls hN)
theorem pr_if_eq {x : Int32} {off : Int} (tgt : Nat) (hi : pLook M.2.2.2.2 pc = some (.ifCond .eq off, 3)) (ht : (pc : Int) + off = (tgt : Int)) (k1 : x = 0 → pWP M d mc ms n0 X Q tgt L st kc ks sh S) (k2 : ¬ (x = 0) → pWP M d mc ms n0 X Q (pc + 3) L st kc ks sh S) : pWP M d mc ms n0 X Q pc L (.int x :: st) kc ks sh S := by
  intro p l e R s m args below meth c D tc ad0 A hT hC hR hK hO hA ad H locs ls hN
  exact lv_if_eq hC.1 hC.2.1 (pLook_ok hT hi) ht (fun h => k1 h p l e R s m args below meth c D tc ad0 A hT hC hR hK hO hA ad H locs ls hN) (fun h => k2 h p l e R s m args below meth c D tc ad0 A hT hC hR hK hO hA ad H locs ls hN)
theorem pr_icmp_eq {x y : Int32} {off : Int} (tgt : Nat) (hi : pLook M.2.2.2.2 pc = some (.if_icmp .eq off, 3)) (ht : (pc : Int) + off = (tgt : Int)) (k1 : x = y → pWP M d mc ms n0 X Q tgt L st kc ks sh S) (k2 : ¬ (x = y) → pWP M d mc ms n0 X Q (pc + 3) L st kc ks sh S) : pWP M d mc ms n0 X Q pc L (.int y :: .int x :: st) kc ks sh S := by
  intro p l e R s m args below meth c D tc ad0 A hT hC hR hK hO hA ad H locs ls hN
  exact lv_icmp_eq hC.1 hC.2.1 (pLook_ok hT hi) ht (fun h => k1 h p l e R s m args below meth c D tc ad0 A hT hC hR hK hO hA ad H locs ls hN) (fun h => k2 h p l e R s m args below meth c D tc ad0 A hT hC hR hK hO hA ad H locs ls hN)
theorem pr_if_ne {x : Int32} {off : Int} (tgt : Nat) (hi : pLook M.2.2.2.2 pc = some (.ifCond .ne off, 3)) (ht : (pc : Int) + off = (tgt : Int)) (k1 : ¬ x = 0 → pWP M d mc ms n0 X Q tgt L st kc ks sh S) (k2 : x = 0 → pWP M d mc ms n0 X Q (pc + 3) L st kc ks sh S) : pWP M d mc ms n0 X Q pc L (.int x :: st) kc ks sh S := by
  intro p l e R s m args below meth c D tc ad0 A hT hC hR hK hO hA ad H locs ls hN
  exact lv_if_ne hC.1 hC.2.1 (pLook_ok hT hi) ht (fun h => k1 h p l e R s m args below meth c D tc ad0 A hT hC hR hK hO hA ad H locs ls hN) (fun h => k2 h p l e R s m args below meth c D tc ad0 A hT hC hR hK hO hA ad H locs ls hN)
theorem pr_icmp_ne {x y : Int32} {off : Int} (tgt : Nat) (hi : pLook M.2.2.2.2 pc = some (.if_icmp .ne off, 3)) (ht : (pc : Int) + off = (tgt : Int)) (k1 : ¬ x = y → pWP M d mc ms n0 X Q tgt L st kc ks sh S) (k2 : x = y → pWP M d mc ms n0 X Q (pc + 3) L st kc ks sh S) : pWP M d mc ms n0 X Q pc L (.int y :: .int x :: st) kc ks sh S := by
  intro p l e R s m args below meth c D tc ad0 A hT hC hR hK hO hA ad H locs ls hN
  exact lv_icmp_ne hC.1 hC.2.1 (pLook_ok hT hi) ht (fun h => k1 h p l e R s m args below meth c D tc ad0 A hT hC hR hK hO hA ad H locs ls hN) (fun h => k2 h p l e R s m args below meth c D tc ad0 A hT hC hR hK hO hA ad H locs ls hN)
theorem pr_if_lt {x : Int32} {off : Int} (tgt : Nat) (hi : pLook M.2.2.2.2 pc = some (.ifCond .lt off, 3)) (ht : (pc : Int) + off = (tgt : Int)) (k1 : x < 0 → pWP M d mc ms n0 X Q tgt L st kc ks sh S) (k2 : ¬ (x < 0) → pWP M d mc ms n0 X Q (pc + 3) L st kc ks sh S) : pWP M d mc ms n0 X Q pc L (.int x :: st) kc ks sh S := by
  intro p l e R s m args below meth c D tc ad0 A hT hC hR hK hO hA ad H locs ls hN
  exact lv_if_lt hC.1 hC.2.1 (pLook_ok hT hi) ht (fun h => k1 h p l e R s m args below meth c D tc ad0 A hT hC hR hK hO hA ad H locs ls hN) (fun h => k2 h p l e R s m args below meth c D tc ad0 A hT hC hR hK hO hA ad H locs ls hN)
theorem pr_icmp_lt {x y : Int32} {off : Int} (tgt : Nat) (hi : pLook M.2.2.2.2 pc = some (.if_icmp .lt off, 3)) (ht : (pc : Int) + off = (tgt : Int)) (k1 : x < y → pWP M d mc ms n0 X Q tgt L st kc ks sh S) (k2 : ¬ (x < y) → pWP M d mc ms n0 X Q (pc + 3) L st kc ks sh S) : pWP M d mc ms n0 X Q pc L (.int y :: .int x :: st) kc ks sh S := by
  intro p l e R s m args below meth c D tc ad0 A hT hC hR hK hO hA ad H locs ls hN
  exact lv_icmp_lt hC.1 hC.2.1 (pLook_ok hT hi) ht (fun h => k1 h p l e R s m args below meth c D tc ad0 A hT hC hR hK hO hA ad H locs ls hN) (fun h => k2 h p l e R s m args below meth c D tc ad0 A hT hC hR hK hO hA ad H locs ls hN)
theorem pr_if_ge {x : Int32} {off : Int} (tgt : Nat) (hi : pLook M.2.2.2.2 pc = some (.ifCond .ge off, 3)) (ht : (pc : Int) + off = (tgt : Int)) (k1 : 0 ≤ x → pWP M d mc ms n0 X Q tgt L st kc ks sh S) (k2 : ¬ (0 ≤ x) → pWP M d mc ms n0 X Q (pc + 3) L st kc ks sh S) : pWP M d mc ms n0 X Q pc L (.int x :: st) kc ks sh S := by
  intro p l e R s m args below meth c D tc ad0 A hT hC hR hK hO hA ad H locs ls hN
  exact lv_if_ge hC.1 hC.2.1 (pLook_ok hT hi) ht (fun h => k1 h p l e R s m args below meth c D tc ad0 A hT hC hR hK hO hA ad H locs ls hN) (fun h => k2 h p l e R s m args below meth c D tc ad0 A hT hC hR hK hO hA ad H locs ls hN)
theorem pr_icmp_ge {x y : Int32} {off : Int} (tgt : Nat) (hi : pLook M.2.2.2.2 pc = some (.if_icmp .ge off, 3)) (ht : (pc : Int) + off = (tgt : Int)) (k1 : y ≤ x → pWP M d mc ms n0 X Q tgt L st kc ks sh S) (k2 : ¬ (y ≤ x) → pWP M d mc ms n0 X Q (pc + 3) L st kc ks sh S) : pWP M d mc ms n0 X Q pc L (.int y :: .int x :: st) kc ks sh S := by
  intro p l e R s m args below meth c D tc ad0 A hT hC hR hK hO hA ad H locs ls hN
  exact lv_icmp_ge hC.1 hC.2.1 (pLook_ok hT hi) ht (fun h => k1 h p l e R s m args below meth c D tc ad0 A hT hC hR hK hO hA ad H locs ls hN) (fun h => k2 h p l e R s m args below meth c D tc ad0 A hT hC hR hK hO hA ad H locs ls hN)
theorem pr_if_gt {x : Int32} {off : Int} (tgt : Nat) (hi : pLook M.2.2.2.2 pc = some (.ifCond .gt off, 3)) (ht : (pc : Int) + off = (tgt : Int)) (k1 : 0 < x → pWP M d mc ms n0 X Q tgt L st kc ks sh S) (k2 : ¬ (0 < x) → pWP M d mc ms n0 X Q (pc + 3) L st kc ks sh S) : pWP M d mc ms n0 X Q pc L (.int x :: st) kc ks sh S := by
  intro p l e R s m args below meth c D tc ad0 A hT hC hR hK hO hA ad H locs ls hN
  exact lv_if_gt hC.1 hC.2.1 (pLook_ok hT hi) ht (fun h => k1 h p l e R s m args below meth c D tc ad0 A hT hC hR hK hO hA ad H locs ls hN) (fun h => k2 h p l e R s m args below meth c D tc ad0 A hT hC hR hK hO hA ad H locs ls hN)
theorem pr_icmp_gt {x y : Int32} {off : Int} (tgt : Nat) (hi : pLook M.2.2.2.2 pc = some (.if_icmp .gt off, 3)) (ht : (pc : Int) + off = (tgt : Int)) (k1 : y < x → pWP M d mc ms n0 X Q tgt L st kc ks sh S) (k2 : ¬ (y < x) → pWP M d mc ms n0 X Q (pc + 3) L st kc ks sh S) : pWP M d mc ms n0 X Q pc L (.int y :: .int x :: st) kc ks sh S := by
  intro p l e R s m args below meth c D tc ad0 A hT hC hR hK hO hA ad H locs ls hN
  exact lv_icmp_gt hC.1 hC.2.1 (pLook_ok hT hi) ht (fun h => k1 h p l e R s m args below meth c D tc ad0 A hT hC hR hK hO hA ad H locs ls hN) (fun h => k2 h p l e R s m args below meth c D tc ad0 A hT hC hR hK hO hA ad H locs ls hN)
theorem pr_if_le {x : Int32} {off : Int} (tgt : Nat) (hi : pLook M.2.2.2.2 pc = some (.ifCond .le off, 3)) (ht : (pc : Int) + off = (tgt : Int)) (k1 : x ≤ 0 → pWP M d mc ms n0 X Q tgt L st kc ks sh S) (k2 : ¬ (x ≤ 0) → pWP M d mc ms n0 X Q (pc + 3) L st kc ks sh S) : pWP M d mc ms n0 X Q pc L (.int x :: st) kc ks sh S := by
  intro p l e R s m args below meth c D tc ad0 A hT hC hR hK hO hA ad H locs ls hN
  exact lv_if_le hC.1 hC.2.1 (pLook_ok hT hi) ht (fun h => k1 h p l e R s m args below meth c D tc ad0 A hT hC hR hK hO hA ad H locs ls hN) (fun h => k2 h p l e R s m args below meth c D tc ad0 A hT hC hR hK hO hA ad H locs ls hN)
theorem pr_icmp_le {x y : Int32} {off : Int} (tgt : Nat) (hi : pLook M.2.2.2.2 pc = some (.if_icmp .le off, 3)) (ht : (pc : Int) + off = (tgt : Int)) (k1 : x ≤ y → pWP M d mc ms n0 X Q tgt L st kc ks sh S) (k2 : ¬ (x ≤ y) → pWP M d mc ms n0 X Q (pc + 3) L st kc ks sh S) : pWP M d mc ms n0 X Q pc L (.int y :: .int x :: st) kc ks sh S := by
  intro p l e R s m args below meth c D tc ad0 A hT hC hR hK hO hA ad H locs ls hN
  exact lv_icmp_le hC.1 hC.2.1 (pLook_ok hT hi) ht (fun h => k1 h p l e R s m args below meth c D tc ad0 A hT hC hR hK hO hA ad H locs ls hN) (fun h => k2 h p l e R s m args below meth c D tc ad0 A hT hC hR hK hO hA ad H locs ls hN)
theorem pr_goto {off : Int} (tgt : Nat) (hi : pLook M.2.2.2.2 pc = some (.goto off, 3)) (ht : (pc : Int) + off = (tgt : Int)) (k : pWP M d mc ms n0 X Q tgt L st kc ks sh S) : pWP M d mc ms n0 X Q pc L st kc ks sh S := by
  intro p l e R s m args below meth c D tc ad0 A hT hC hR hK hO hA ad H locs ls hN
  exact lv_goto hC.1 hC.2.1 (pLook_ok hT hi) ht (k p l e R s m args below meth c D tc ad0 A hT hC hR hK hO hA ad H locs ls hN)
theorem pr_ifnull {x : Nat} {off : Int} (hi : pLook M.2.2.2.2 pc = some (.ifnull off, 3)) (k : pWP M d mc ms n0 X Q (pc + 3) L st kc ks sh S) : pWP M d mc ms n0 X Q pc L (.ref x :: st) kc ks sh S := by
  intro p l e R s m args below meth c D tc ad0 A hT hC hR hK hO hA ad H locs ls hN
  exact lv_ifnull hC.1 hC.2.1 (pLook_ok hT hi) (k p l e R s m args below meth c D tc ad0 A hT hC hR hK hO hA ad H locs ls hN)
theorem pr_ifnonnull {x : Nat} {off : Int} (tgt : Nat) (hi : pLook M.2.2.2.2 pc = some (.ifnonnull off, 3)) (ht : (pc : Int) + off = (tgt : Int)) (k : pWP M d mc ms n0 X Q tgt L st kc ks sh S) : pWP M d mc ms n0 X Q pc L (.ref x :: st) kc ks sh S := by
  intro p l e R s m args below meth c D tc ad0 A hT hC hR hK hO hA ad H locs ls hN
  exact lv_ifnonnull hC.1 hC.2.1 (pLook_ok hT hi) ht (k p l e R s m args below meth c D tc ad0 A hT hC hR hK hO hA ad H locs ls hN)
theorem pr_tableOut {dflt lo hi9 : Int} {offs : Array Int} {len : Nat} {x : Int32} (tgt : Nat) (hi : pLook M.2.2.2.2 pc = some (.tableswitch dflt lo hi9 offs, len)) (h : x.toInt < lo ∨ hi9 < x.toInt) (ht : (pc : Int) + dflt = (tgt : Int)) (k : pWP M d mc ms n0 X Q tgt L st kc ks sh S) : pWP M d mc ms n0 X Q pc L (.int x :: st) kc ks sh S := by
  intro p l e R s m args below meth c D tc ad0 A hT hC hR hK hO hA ad H locs ls hN
  exact lv_tableOut hC.1 hC.2.1 (pLook_ok hT hi) h ht (k p l e R s m args below meth c D tc ad0 A hT hC hR hK hO hA ad H locs ls hN)
theorem pr_tableIn {dflt lo hi9 : Int} {offs : Array Int} {len : Nat} {x : Int32} {off : Int} (tgt : Nat) (hi : pLook M.2.2.2.2 pc = some (.tableswitch dflt lo hi9 offs, len)) (h1 : ¬ x.toInt < lo) (h2 : ¬ hi9 < x.toInt) (ho : offs[(x.toInt - lo).toNat]? = some off) (ht : (pc : Int) + off = (tgt : Int)) (k : pWP M d mc ms n0 X Q tgt L st kc ks sh S) : pWP M d mc ms n0 X Q pc L (.int x :: st) kc ks sh S := by
  intro p l e R s m args below meth c D tc ad0 A hT hC hR hK hO hA ad H locs ls hN
  exact lv_tableIn hC.1 hC.2.1 (pLook_ok hT hi) h1 h2 ho ht (k p l e R s m args below meth c D tc ad0 A hT hC hR hK hO hA ad H locs ls hN)
theorem pr_lookup {dflt : Int} {ps : Array (Int × Int)} {len : Nat} {x : Int32} {off : Int} (tgt : Nat) (hi : pLook M.2.2.2.2 pc = some (.lookupswitch dflt ps, len)) (hp : (ps.toList.zip (ps.toList.drop 1)).all (fun (a, next) => a.1 < next.1) = true) (ho : Op.lookupswitch.offset ps.toList dflt x.toInt = off) (ht : (pc : Int) + off = (tgt : Int)) (k : pWP M d mc ms n0 X Q tgt L st kc ks sh S) : pWP M d mc ms n0 X Q pc L (.int x :: st) kc ks sh S := by
  intro p l e R s m args below meth c D tc ad0 A hT hC hR hK hO hA ad H locs ls hN
  exact lv_lookup hC.1 hC.2.1 (pLook_ok hT hi) hp ho ht (k p l e R s m args below meth c D tc ad0 A hT hC hR hK hO hA ad H locs ls hN)
end PR
end
section
/-! rules of the pure machine: fields, arrays, constants, ends, calls -/
def pTyp (c : Nat) : Nat → FieldType := match c with
  | 0 => tyX0
  | 1 => tyX1
  | 2 => tyX3
  | 3 => tyX4
  | 4 => tyX5
  | 5 => tyX6
  | 6 => tyX7
  | 7 => tyX8
  | _ => tyX9
/-- a field site: in the class own the pool's entry idx is field j of the class c -/
def pFL (own : String) (idx c j : Nat) : Prop := ∃ (C : String) (T : u_T) (N : Nat), vwCl[c]? = some (C, T, N) ∧ j < N ∧
  (Cond.fieldLink own idx (T j).1 (T j).2.1 (T j).2.2.1 ∈ pGood ∨ ∃ h, Cond.fieldLinkNest own idx (T j).1 (T j).2.1 (T j).2.2.1 h ∈ pNest)
def pClOk (c : Nat) (q : vw_C) : Prop := (∀ w ∈ u_ws q.1 q.2.1 q.2.2, w ∈ pGood) ∧ (∀ k, k < q.2.2 → parseFieldDescriptor (q.2.1 k).2.2.1 = some (pTyp c k)) ∧ (∀ a, a < q.2.2 → ∀ b, b < q.2.2 → a ≠ b → (q.2.1 a).2.1 ≠ (q.2.1 b).2.1) ∧ (∀ a, a < q.2.2 → (q.2.1 a).1 = q.1)
theorem pCl0 : pClOk 0 (RX0, TX0, 7) := ⟨by decide +kernel, tyX0_ok, nmX0, by decide +kernel⟩
theorem pCl1 : pClOk 1 (RX1, TX1, 6) := ⟨by decide +kernel, tyX1_ok, nmX1, by decide +kernel⟩
theorem pCl2 : pClOk 2 (RX3, TX3, 3) := ⟨by decide +kernel, tyX3_ok, nmX3, by decide +kernel⟩
theorem pCl3 : pClOk 3 (RX4, TX4, 1) := ⟨by decide +kernel, tyX4_ok, nmX4, by decide +kernel⟩
theorem pCl4 : pClOk 4 (RX5, TX5, 3) := ⟨by decide +kernel, tyX5_ok, nmX5, by decide +kernel⟩
theorem pCl5 : pClOk 5 (RX6, TX6, 10) := ⟨by decide +kernel, tyX6_ok, nmX6, by decide +kernel⟩
theorem pCl6 : pClOk 6 (RX7, TX7, 5) := ⟨by decide +kernel, tyX7_ok, nmX7, by decide +kernel⟩
theorem pCl7 : pClOk 7 (RX8, TX8, 13) := ⟨by decide +kernel, tyX8_ok, nmX8, by decide +kernel⟩
theorem pCl8 : pClOk 8 (RX9, TX9, 33) := ⟨by decide +kernel, tyX9_ok, nmX9, by decide +kernel⟩
theorem pCl {c : Nat} {q : vw_C} (h : vwCl[c]? = some q) : pClOk c q := by
  match c, h with
  | 0, h => cases h; exact pCl0
  | 1, h => cases h; exact pCl1
  | 2, h => cases h; exact pCl2
  | 3, h => cases h; exact pCl3
  | 4, h => cases h; exact pCl4
  | 5, h => cases h; exact pCl5
  | 6, h => cases h; exact pCl6
  | 7, h => cases h; exact pCl7
  | 8, h => cases h; exact pCl8
  | n + 9, h => cases h
theorem pNow.hP {n0 nL : Nat} {D : va_G} {tc ad0 ad : Nat → Nat} {A : Nat → Prop} {s : State} {H : Heap} {locs : List Loc} {ls : Array Slot} {L : PL} {sh : List PSh} {S : PSt} (h : pNow n0 nL D tc ad0 ad A s H locs ls L sh S) : va_P D vwCl (pW tc ad sh S) H := h.2.2.2.2.1
theorem pNow.hD {n0 nL : Nat} {D : va_G} {tc ad0 ad : Nat → Nat} {A : Nat → Prop} {s : State} {H : Heap} {locs : List Loc} {ls : Array Slot} {L : PL} {sh : List PSh} {S : PSt} (h : pNow n0 nL D tc ad0 ad A s H locs ls L sh S) : va_D A (pW tc ad sh S) := h.2.2.2.2.2.1
theorem pNow.hS {n0 nL : Nat} {D : va_G} {tc ad0 ad : Nat → Nat} {A : Nat → Prop} {s : State} {H : Heap} {locs : List Loc} {ls : Array Slot} {L : PL} {sh : List PSh} {S : PSt} (h : pNow n0 nL D tc ad0 ad A s H locs ls L sh S) : va_S A s.heap H locs := h.2.2.2.2.2.2.1
theorem pNow.wr {n0 nL : Nat} {D : va_G} {tc ad0 ad : Nat → Nat} {A : Nat → Prop} {s : State} {H H1 : Heap} {locs locs1 : List Loc} {ls : Array Slot} {L : PL} {sh : List PSh} {S S' : PSt} (h : pNow n0 nL D tc ad0 ad A s H locs ls L sh S) (hP : va_P D vwCl (pW tc ad sh S') H1) (hD : va_D A (pW tc ad sh S')) (hS : va_S A s.heap H1 locs1) : pNow n0 nL D tc ad0 ad A s H1 locs1 ls L sh S' :=
  ⟨h.1, h.2.1, h.2.2.1, h.2.2.2.1, hP, hD, hS, h.2.2.2.2.2.2.2⟩
section PH
variable {M : PM} {d mc ms n0 : Nat} {X : Nat × (Nat → Int32)} {Q : PQ} {pc : Nat} {L : PL} {st : List Value} {kc ks : Nat} {sh : List PSh} {S : PSt}
theorem pr_get {a c j idx f : Nat} {fs : List Nat} {v : Value} (hi : pLook M.2.2.2.2 pc = some (.getfield idx, 3)) (hF : pFL M.1.cls idx c j) (hs : sh[a]? = some (.inr (c, fs))) (hf : fs[j]? = some f) (hv : pFv S a j f = v) (k : pWP M d mc ms n0 X Q (pc + 3) L (v :: st) kc ks sh S) : pWP M d mc ms n0 X Q pc L (.ref a :: st) kc ks sh S := by
  intro p l e R s m args below meth c1 D tc ad0 A hT hC hR hK hO hA ad H locs ls hN
  obtain ⟨C, T, N, h1, h2, h3⟩ := hF
  obtain ⟨g1, g2, g3, g4⟩ := pCl h1
  have hts := hC.2.2.2.2.2.2.2
  have hv2 : (fs.mapIdx fun j f => pTr ad (pFv S a j f))[j]? = some (pTr ad v) := by rw [List.getElem?_mapIdx, hf, ← hv]; rfl
  have kk := k p l e R s m args below meth c1 D tc ad0 A hT hC hR hK hO hA ad H locs ls hN
  rcases h3 with h3 | ⟨host, h3⟩
  · exact va_get (D := D) (ci := c) (C := C) (T := T) (N := N) hC.1 hC.2.1 hts g1 hC.2.2.2.2.1 hK.1 hN.hP a (pW_at hs) h1 j h2 (hts _ h3) (fun _ h9 => h9) hv2 (pLook_ok hT hi) kk
  · exact va_getN (D := D) (ci := c) (C := C) (T := T) (N := N) hC.1 hC.2.1 hts g1 hC.2.2.2.2.1 hK.1 hN.hP a (pW_at hs) h1 j h2 (va_Nw.use (pNest_tab h3) (hK.2 _ h3)) (fun _ h9 => h9) hv2 (pLook_ok hT hi) kk
/-- a field is written: the contents change, or the shape (a reference); S2, sh2: what comes -/
theorem pr_put0 {a c j idx : Nat} {fs : List Nat} {v : Value} {sh2 : List PSh} {S2 : PSt} (hi : pLook M.2.2.2.2 pc = some (.putfield idx, 3)) (hF : pFL M.1.cls idx c j) (hs : sh[a]? = some (.inr (c, fs)))
    (hj : j < fs.length) (hfin : ∀ q, vwCl[c]? = some q → (q.2.1 j).2.2.2 = false ∨ ((q.2.1 j).2.2.2 = true ∧ q.1 = M.1.cls ∧ M.1.name = "<init>" ∧ Cond.fieldLink M.1.cls idx (q.2.1 j).1 (q.2.1 j).2.1 (q.2.1 j).2.2.1 ∈ pGood))
    (hn : ∀ ad : Nat → Nat, narrow (pTyp c j) (pTr ad v) = pTr ad v) (hfit : ∀ ad : Nat → Nat, fits (pTyp c j) (pTr ad v) = true)
    (hw : ∀ tc ad : Nat → Nat, (pW tc ad sh S).set a (ad a, .inr (c, (fs.mapIdx fun j f => pTr ad (pFv S a j f)).set j (pTr ad v))) = pW tc ad sh2 S2) (hl2 : sh2.length = sh.length) (hok : pShOk sh → pShOk sh2)
    (k : pWP M d mc ms n0 X Q (pc + 3) L st kc ks sh2 S2) : pWP M d mc ms n0 X Q pc L (v :: .ref a :: st) kc ks sh S := by
  intro p l e R s m args below meth c1 D tc ad0 A hT hC hR hK hO hA ad H locs ls hN
  obtain ⟨C, T, N, h1, h2, h3⟩ := hF
  obtain ⟨g1, g2, g3, g4⟩ := pCl h1
  have hts := hC.2.2.2.2.2.2.2
  have kk : ∀ (H1 : Heap) (locs1 : List Loc), va_P D vwCl ((pW tc ad sh S).set a (ad a, .inr (c, (fs.mapIdx fun j f => pTr ad (pFv S a j f)).set j (pTr ad v)))) H1 → va_D A ((pW tc ad sh S).set a (ad a, .inr (c, (fs.mapIdx fun j f => pTr ad (pFv S a j f)).set j (pTr ad v)))) → va_S A s.heap H1 locs1 → W p l e R s m args below meth c1 H1 locs1 kc ks (MQ below (pQc A D tc ad0 n0 Q) args s mc ms A) (F0 m (pc + 3) ls (st.map (pTr ad))) := by
    intro H1 locs1 hP hD hS
    rw [hw] at hP hD
    refine k p l e R s m args below meth c1 D tc ad0 A hT hC hR hK hO hA ad H1 locs1 ls ⟨?_, ?_, ?_, hok hN.2.2.2.1, hP, hD, hS, hN.ls⟩
    · rw [hl2]; exact hN.1
    · rw [hl2]; exact hN.2.1
    · rw [hl2]; exact hN.2.2.1
  have hjl : j < (fs.mapIdx fun j f => pTr ad (pFv S a j f)).length := by rw [List.length_mapIdx]; exact hj
  rcases hfin _ h1 with hf | ⟨hf, hc, hin, h3'⟩
  · rcases h3 with h3 | ⟨host, h3⟩
    · exact va_put (D := D) (ci := c) (C := C) (T := T) (N := N) hC.1 hC.2.1 hts g1 (pTyp c) g2 g3 hC.2.2.2.2.1 hK.1 hN.hP hN.hD hN.hS a (pW_at hs) h1 j h2 (hts _ h3) (fun _ h9 => h9) hf (g2 j h2) (hn ad) (hfit ad) hjl (pLook_ok hT hi) kk
    · exact va_putN (D := D) (ci := c) (C := C) (T := T) (N := N) hC.1 hC.2.1 hts g1 (pTyp c) g2 g3 hC.2.2.2.2.1 hK.1 hN.hP hN.hD hN.hS a (pW_at hs) h1 j h2 (va_Nw.use (pNest_tab h3) (hK.2 _ h3)) (fun _ h9 => h9) hf (g2 j h2) (hn ad) (hfit ad) hjl (pLook_ok hT hi) kk
  · exact va_putF (D := D) (ci := c) (C := C) (T := T) (N := N) hC.1 hC.2.1 hts g1 (pTyp c) g2 g3 hC.2.2.2.2.1 hK.1 hN.hP hN.hD hN.hS a (pW_at hs) h1 j h2 (hts _ h3') (fun _ h9 => h9) hf (hC.2.2.2.2.2.2.1 hin) ((g4 j h2).trans hc) (g2 j h2) (hn ad) (hfit ad) hjl (pLook_ok hT hi) kk
theorem pFs_set {ad : Nat → Nat} {S S' : PSt} {a j : Nat} {fs : List Nat} {v : Value} {f : Nat} (hf : fs[j]? = some f) (hv : pFv S' a j f = v) (ho : ∀ i g, i ≠ j → pFv S' a i g = pFv S a i g) :
    (fs.mapIdx fun j f => pTr ad (pFv S a j f)).set j (pTr ad v) = fs.mapIdx fun j f => pTr ad (pFv S' a j f) := by
  have hj : j < fs.length := (List.getElem?_eq_some_iff.mp hf).1
  apply List.ext_getElem?
  intro i
  by_cases hi : i = j
  · subst hi
    rw [List.getElem?_set_self (by rw [List.length_mapIdx]; exact hj), List.getElem?_mapIdx, hf, ← hv]
    rfl
  · rw [List.getElem?_set_ne (fun q => hi q.symm), List.getElem?_mapIdx, List.getElem?_mapIdx]
    cases hg : fs[i]? with
    | none => rfl
    | some g => show some (pTr ad (pFv S a i g)) = some (pTr ad (pFv S' a i g)); rw [ho i g hi]
theorem pr_putI {a c j idx : Nat} {fs : List Nat} {x : Int32} (hi : pLook M.2.2.2.2 pc = some (.putfield idx, 3)) (hF : pFL M.1.cls idx c j) (hs : sh[a]? = some (.inr (c, fs))) (hf : fs[j]? = some 0)
    (hfin : ∀ q, vwCl[c]? = some q → (q.2.1 j).2.2.2 = false ∨ ((q.2.1 j).2.2.2 = true ∧ q.1 = M.1.cls ∧ M.1.name = "<init>" ∧ Cond.fieldLink M.1.cls idx (q.2.1 j).1 (q.2.1 j).2.1 (q.2.1 j).2.2.1 ∈ pGood))
    (hn : narrow (pTyp c j) (.int x) = .int x) (hfit : fits (pTyp c j) (.int x) = true) (k : pWP M d mc ms n0 X Q (pc + 3) L st kc ks sh (pSI S a j x)) : pWP M d mc ms n0 X Q pc L (.int x :: .ref a :: st) kc ks sh S := by
  refine pr_put0 (v := .int x) hi hF hs (List.getElem?_eq_some_iff.mp hf).1 hfin (fun _ => hn) (fun _ => hfit) (fun tc ad => ?_) rfl (fun h => h) k
  rw [pFs_set (S' := pSI S a j x) hf (by simp [pFv, pSI, pU]) (fun i g hig => by unfold pFv; split <;> simp [pSI, pU, hig])]
  exact pW_set hs rfl (fun b hb => ⟨pU_ne hb, rfl, rfl, rfl⟩)
theorem pr_putF {a c j idx : Nat} {fs : List Nat} {x : UInt32} (hi : pLook M.2.2.2.2 pc = some (.putfield idx, 3)) (hF : pFL M.1.cls idx c j) (hs : sh[a]? = some (.inr (c, fs))) (hf : fs[j]? = some 1)
    (hfin : ∀ q, vwCl[c]? = some q → (q.2.1 j).2.2.2 = false ∨ ((q.2.1 j).2.2.2 = true ∧ q.1 = M.1.cls ∧ M.1.name = "<init>" ∧ Cond.fieldLink M.1.cls idx (q.2.1 j).1 (q.2.1 j).2.1 (q.2.1 j).2.2.1 ∈ pGood))
    (hn : narrow (pTyp c j) (.float x) = .float x) (hfit : fits (pTyp c j) (.float x) = true) (k : pWP M d mc ms n0 X Q (pc + 3) L st kc ks sh (pSF S a j x)) : pWP M d mc ms n0 X Q pc L (.float x :: .ref a :: st) kc ks sh S := by
  refine pr_put0 (v := .float x) hi hF hs (List.getElem?_eq_some_iff.mp hf).1 hfin (fun _ => hn) (fun _ => hfit) (fun tc ad => ?_) rfl (fun h => h) k
  rw [pFs_set (S' := pSF S a j x) hf (by simp [pFv, pSF, pU]) (fun i g hig => by unfold pFv; split <;> simp [pSF, pU, hig])]
  exact pW_set hs rfl (fun b hb => ⟨rfl, pU_ne hb, rfl, rfl⟩)
/-- a reference comes to a field (a constructor's) -/
theorem pr_putR {a c j idx r : Nat} {fs : List Nat} (hi : pLook M.2.2.2.2 pc = some (.putfield idx, 3)) (hF : pFL M.1.cls idx c j) (hs : sh[a]? = some (.inr (c, fs))) (hj : j < fs.length)
    (hfin : ∀ q, vwCl[c]? = some q → (q.2.1 j).2.2.2 = false ∨ ((q.2.1 j).2.2.2 = true ∧ q.1 = M.1.cls ∧ M.1.name = "<init>" ∧ Cond.fieldLink M.1.cls idx (q.2.1 j).1 (q.2.1 j).2.1 (q.2.1 j).2.2.1 ∈ pGood))
    (hn : ∀ b : Nat, narrow (pTyp c j) (.ref b) = .ref b) (hfit : ∀ b : Nat, fits (pTyp c j) (.ref b) = true) (hr : r < sh.length) (k : pWP M d mc ms n0 X Q (pc + 3) L st kc ks (sh.set a (.inr (c, fs.set j (r + 3)))) S) : pWP M d mc ms n0 X Q pc L (.ref r :: .ref a :: st) kc ks sh S := by
  refine pr_put0 (v := .ref r) hi hF hs hj hfin (fun ad => hn (ad r)) (fun ad => hfit (ad r)) (fun tc ad => ?_) (List.length_set ..) (fun h => ?_) k
  · refine pW_setSh hs ?_
    show Sum.inr (c, (fs.set j (r + 3)).mapIdx fun j f => pTr ad (pFv S a j f)) = Sum.inr (c, _)
    have : ((fs.set j (r + 3)).mapIdx fun j f => pTr ad (pFv S a j f)) = (fs.mapIdx fun j f => pTr ad (pFv S a j f)).set j (.ref (ad r)) := by
      apply List.ext_getElem?
      intro i
      by_cases hij : i = j
      · subst hij
        rw [List.getElem?_mapIdx, List.getElem?_set_self hj, List.getElem?_set_self (by rw [List.length_mapIdx]; exact hj)]
        rfl
      · rw [List.getElem?_mapIdx, List.getElem?_set_ne (fun q => hij q.symm), List.getElem?_set_ne (fun q => hij q.symm), List.getElem?_mapIdx]
    rw [this]
    rfl
  · intro k9 c9 fs9 h9 r9 hr9
    rw [List.length_set]
    by_cases hk : k9 = a
    · subst hk
      rw [List.getElem?_set_self (List.getElem?_eq_some_iff.mp hs).1] at h9
      cases h9
      rcases List.mem_or_eq_of_mem_set hr9 with q | q
      · exact h _ _ _ hs r9 q
      · have : r9 = r := by omega
        rw [this]; exact hr
    · rw [List.getElem?_set_ne (fun q => hk q.symm)] at h9
      exact h _ _ _ h9 r9 hr9
end PH
end
section
/-! arrays, constants: written by wip/whole/gen/arrays.py -/
section PA
variable {M : PM} {d mc ms n0 : Nat} {X : Nat × (Nat → Int32)} {Q : PQ} {pc : Nat} {L : PL} {st : List Value} {kc ks : Nat} {sh : List PSh} {S : PSt}
theorem pr_iald {a n : Nat} {i : Int32} (hi : pLook M.2.2.2.2 pc = some (.iaload, 1)) (hs : sh[a]? = some (.inl (0, n))) (hin : vp_in i n) (k : pWP M d mc ms n0 X Q (pc + 1) L (.int (S.1 a i.toNatClampNeg) :: st) kc ks sh S) : pWP M d mc ms n0 X Q pc L (.int i :: .ref a :: st) kc ks sh S := by
  intro p l e R s m args below meth c D tc ad0 A hT hC hR hK hO hA ad H locs ls hN
  exact va_iald (D := D) (cA := tc 0) (n := n) (f := S.1 a) hC.1 hC.2.1 hK.1 hN.hP a 0 (pW_at hs) rfl hin (pLook_ok hT hi) (k p l e R s m args below meth c D tc ad0 A hT hC hR hK hO hA ad H locs ls hN)
theorem pr_fald {a n : Nat} {i : Int32} (hi : pLook M.2.2.2.2 pc = some (.faload, 1)) (hs : sh[a]? = some (.inl (1, n))) (hin : vp_in i n) (k : pWP M d mc ms n0 X Q (pc + 1) L (.float (S.2.1 a i.toNatClampNeg) :: st) kc ks sh S) : pWP M d mc ms n0 X Q pc L (.int i :: .ref a :: st) kc ks sh S := by
  intro p l e R s m args below meth c D tc ad0 A hT hC hR hK hO hA ad H locs ls hN
  exact va_fald (D := D) (cA := tc 1) (n := n) (f := S.2.1 a) hC.1 hC.2.1 hK.1 hN.hP a 1 (pW_at hs) rfl hin (pLook_ok hT hi) (k p l e R s m args below meth c D tc ad0 A hT hC hR hK hO hA ad H locs ls hN)
theorem pr_zald {a n : Nat} {i : Int32} (hi : pLook M.2.2.2.2 pc = some (.baload, 1)) (hs : sh[a]? = some (.inl (2, n))) (hin : vp_in i n) (k : pWP M d mc ms n0 X Q (pc + 1) L (.int (S.1 a i.toNatClampNeg) :: st) kc ks sh S) : pWP M d mc ms n0 X Q pc L (.int i :: .ref a :: st) kc ks sh S := by
  intro p l e R s m args below meth c D tc ad0 A hT hC hR hK hO hA ad H locs ls hN
  exact va_zald (D := D) (cA := tc 2) (n := n) (f := S.1 a) hC.1 hC.2.1 hK.1 hN.hP a 2 (pW_at hs) rfl hin (pLook_ok hT hi) (k p l e R s m args below meth c D tc ad0 A hT hC hR hK hO hA ad H locs ls hN)
theorem pr_lald {a n : Nat} {i : Int32} (hi : pLook M.2.2.2.2 pc = some (.laload, 1)) (hs : sh[a]? = some (.inl (3, n))) (hin : vp_in i n) (k : pWP M d mc ms n0 X Q (pc + 1) L (.long (S.2.2.1 a i.toNatClampNeg) :: st) kc ks sh S) : pWP M d mc ms n0 X Q pc L (.int i :: .ref a :: st) kc ks sh S := by
  intro p l e R s m args below meth c D tc ad0 A hT hC hR hK hO hA ad H locs ls hN
  exact va_lald (D := D) (cA := tc 3) (n := n) (f := S.2.2.1 a) hC.1 hC.2.1 hK.1 hN.hP a 3 (pW_at hs) rfl hin (pLook_ok hT hi) (k p l e R s m args below meth c D tc ad0 A hT hC hR hK hO hA ad H locs ls hN)
theorem pr_dald {a n : Nat} {i : Int32} (hi : pLook M.2.2.2.2 pc = some (.daload, 1)) (hs : sh[a]? = some (.inl (4, n))) (hin : vp_in i n) (k : pWP M d mc ms n0 X Q (pc + 1) L (.double (S.2.2.2 a i.toNatClampNeg) :: st) kc ks sh S) : pWP M d mc ms n0 X Q pc L (.int i :: .ref a :: st) kc ks sh S := by
  intro p l e R s m args below meth c D tc ad0 A hT hC hR hK hO hA ad H locs ls hN
  exact va_dald (D := D) (cA := tc 4) (n := n) (f := S.2.2.2 a) hC.1 hC.2.1 hK.1 hN.hP a 4 (pW_at hs) rfl hin (pLook_ok hT hi) (k p l e R s m args below meth c D tc ad0 A hT hC hR hK hO hA ad H locs ls hN)
theorem pr_ialdR {j : Nat} {i : Int32} (hj : j < 3) (hi : pLook M.2.2.2.2 pc = some (.iaload, 1)) (hin : vp_in i (pRoC X j).1) (k : pWP M d mc ms n0 X Q (pc + 1) L (.int ((pRoC X j).2 i.toNatClampNeg) :: st) kc ks sh S) : pWP M d mc ms n0 X Q pc L (.int i :: .ref (1000 + j) :: st) kc ks sh S := by
  intro p l e R s m args below meth c D tc ad0 A hT hC hR hK hO hA ad H locs ls hN
  have ea : ad (1000 + j) = ad0 (1000 + j) := hN.1 _ (fun q => by have := hN.2.2.1; omega)
  obtain ⟨o1, o2, o3⟩ := hO.1 j hj
  rw [← ea] at o1 o2 o3
  exact va_sld hC.1 hC.2.1 o3 o1 o2 hN.hS hin (pLook_ok hT hi) (k p l e R s m args below meth c D tc ad0 A hT hC hR hK hO hA ad H locs ls hN)
theorem pr_alen {a t n : Nat} (hi : pLook M.2.2.2.2 pc = some (.arraylength, 1)) (hs : sh[a]? = some (.inl (t, n))) (ht : t < 5) (k : pWP M d mc ms n0 X Q (pc + 1) L (.int (Int32.ofNat n) :: st) kc ks sh S) : pWP M d mc ms n0 X Q pc L (.ref a :: st) kc ks sh S := by
  intro p l e R s m args below meth c D tc ad0 A hT hC hR hK hO hA ad H locs ls hN
  have hty : ∃ ty, (pTys tc)[t]? = some (tc t, ty) := by
    match t, ht with
    | 0, _ => exact ⟨_, rfl⟩
    | 1, _ => exact ⟨_, rfl⟩
    | 2, _ => exact ⟨_, rfl⟩
    | 3, _ => exact ⟨_, rfl⟩
    | 4, _ => exact ⟨_, rfl⟩
  obtain ⟨ty, hty⟩ := hty
  exact va_alen (D := D) (cA := tc t) (x := (n, pArr S a t)) hC.1 hC.2.1 hK.1 hN.hP a t (pW_at hs) hty rfl (pLook_ok hT hi) (k p l e R s m args below meth c D tc ad0 A hT hC hR hK hO hA ad H locs ls hN)
theorem pr_alenR {j : Nat} (hj : j < 3) (hi : pLook M.2.2.2.2 pc = some (.arraylength, 1)) (k : pWP M d mc ms n0 X Q (pc + 1) L (.int (Int32.ofNat (pRoC X j).1) :: st) kc ks sh S) : pWP M d mc ms n0 X Q pc L (.ref (1000 + j) :: st) kc ks sh S := by
  intro p l e R s m args below meth c D tc ad0 A hT hC hR hK hO hA ad H locs ls hN
  have ea : ad (1000 + j) = ad0 (1000 + j) := hN.1 _ (fun q => by have := hN.2.2.1; omega)
  obtain ⟨o1, o2, o3⟩ := hO.1 j hj
  rw [← ea] at o1 o2 o3
  exact va_slen hC.1 hC.2.1 o3 o1 o2 hN.hS (pLook_ok hT hi) (k p l e R s m args below meth c D tc ad0 A hT hC hR hK hO hA ad H locs ls hN)
theorem pr_iast {a n : Nat} {i : Int32} {x : Int32} (hi : pLook M.2.2.2.2 pc = some (.iastore, 1)) (hs : sh[a]? = some (.inl (0, n))) (hin : vp_in i n) (k : pWP M d mc ms n0 X Q (pc + 1) L st kc ks sh (pSI S a i.toNatClampNeg x)) : pWP M d mc ms n0 X Q pc L (.int x :: .int i :: .ref a :: st) kc ks sh S := by
  intro p l e9 R s m args below meth c D tc ad0 A hT hC hR hK hO hA ad H locs ls hN
  have e : (pW tc ad sh S).set a (ad a, .inl (tc 0, n, .inl (upd (S.1 a) i.toNatClampNeg x))) = pW tc ad sh (pSI S a i.toNatClampNeg x) := by
    refine pW_set hs ?_ (fun b hb => ⟨pU_ne hb, rfl, rfl, rfl⟩)
    show Sum.inl (tc 0, n, pArr (pSI S a i.toNatClampNeg x) a 0) = Sum.inl (tc 0, n, _)
    congr 3
    first | (show Sum.inl _ = Sum.inl _; congr 1; funext b; simp [pSI, pU, upd]; done) | (simp only [pArr]; congr; funext b; simp [pSI, pU, upd, vf_upd, vp_updL]; done)
  refine va_iast (D := D) (cA := tc 0) (n := n) (f := S.1 a) hC.1 hC.2.1 hK.1 hN.hP hN.hD hN.hS a 0 (pW_at hs) rfl hin (pLook_ok hT hi) (fun H1 locs1 hP hD hS => ?_)
  rw [e] at hP hD
  exact k p l e9 R s m args below meth c D tc ad0 A hT hC hR hK hO hA ad H1 locs1 ls (hN.wr hP hD hS)
theorem pr_fast {a n : Nat} {i : Int32} {x : UInt32} (hi : pLook M.2.2.2.2 pc = some (.fastore, 1)) (hs : sh[a]? = some (.inl (1, n))) (hin : vp_in i n) (k : pWP M d mc ms n0 X Q (pc + 1) L st kc ks sh (pSF S a i.toNatClampNeg x)) : pWP M d mc ms n0 X Q pc L (.float x :: .int i :: .ref a :: st) kc ks sh S := by
  intro p l e9 R s m args below meth c D tc ad0 A hT hC hR hK hO hA ad H locs ls hN
  have e : (pW tc ad sh S).set a (ad a, .inl (tc 1, n, .inr (.inr (.inl (vf_upd (S.2.1 a) i.toNatClampNeg x))))) = pW tc ad sh (pSF S a i.toNatClampNeg x) := by
    refine pW_set hs ?_ (fun b hb => ⟨rfl, pU_ne hb, rfl, rfl⟩)
    show Sum.inl (tc 1, n, pArr (pSF S a i.toNatClampNeg x) a 1) = Sum.inl (tc 1, n, _)
    congr 3
    first | (show Sum.inl _ = Sum.inl _; congr 1; funext b; simp [pSF, pU, upd]; done) | (simp only [pArr]; congr; funext b; simp [pSF, pU, upd, vf_upd, vp_updL]; done)
  refine va_fast (D := D) (cA := tc 1) (n := n) (f := S.2.1 a) hC.1 hC.2.1 hK.1 hN.hP hN.hD hN.hS a 1 (pW_at hs) rfl hin (pLook_ok hT hi) (fun H1 locs1 hP hD hS => ?_)
  rw [e] at hP hD
  exact k p l e9 R s m args below meth c D tc ad0 A hT hC hR hK hO hA ad H1 locs1 ls (hN.wr hP hD hS)
theorem pr_zast {a n : Nat} {i : Int32} {x : Int32} (hi : pLook M.2.2.2.2 pc = some (.bastore, 1)) (hs : sh[a]? = some (.inl (2, n))) (hin : vp_in i n) (hx : vp_nar .boolean x = x) (k : pWP M d mc ms n0 X Q (pc + 1) L st kc ks sh (pSI S a i.toNatClampNeg x)) : pWP M d mc ms n0 X Q pc L (.int x :: .int i :: .ref a :: st) kc ks sh S := by
  intro p l e9 R s m args below meth c D tc ad0 A hT hC hR hK hO hA ad H locs ls hN
  have e : (pW tc ad sh S).set a (ad a, .inl (tc 2, n, .inl (upd (S.1 a) i.toNatClampNeg (vp_nar .boolean x)))) = pW tc ad sh (pSI S a i.toNatClampNeg x) := by
    refine pW_set hs ?_ (fun b hb => ⟨pU_ne hb, rfl, rfl, rfl⟩)
    show Sum.inl (tc 2, n, pArr (pSI S a i.toNatClampNeg x) a 2) = Sum.inl (tc 2, n, _)
    congr 3
    first | (show Sum.inl _ = Sum.inl _; congr 1; funext b; simp [pSI, pU, upd, hx]; done) | (simp only [pArr]; congr; funext b; simp [pSI, pU, upd, vf_upd, vp_updL, hx]; done)
  refine va_zast (D := D) (cA := tc 2) (n := n) (f := S.1 a) hC.1 hC.2.1 hK.1 hN.hP hN.hD hN.hS a 2 (pW_at hs) rfl hin (pLook_ok hT hi) (fun H1 locs1 hP hD hS => ?_)
  rw [e] at hP hD
  exact k p l e9 R s m args below meth c D tc ad0 A hT hC hR hK hO hA ad H1 locs1 ls (hN.wr hP hD hS)
theorem pr_last {a n : Nat} {i : Int32} {x : Int64} (hi : pLook M.2.2.2.2 pc = some (.lastore, 1)) (hs : sh[a]? = some (.inl (3, n))) (hin : vp_in i n) (k : pWP M d mc ms n0 X Q (pc + 1) L st kc ks sh (pSJ S a i.toNatClampNeg x)) : pWP M d mc ms n0 X Q pc L (.long x :: .int i :: .ref a :: st) kc ks sh S := by
  intro p l e9 R s m args below meth c D tc ad0 A hT hC hR hK hO hA ad H locs ls hN
  have e : (pW tc ad sh S).set a (ad a, .inl (tc 3, n, .inr (.inl (vp_updL (S.2.2.1 a) i.toNatClampNeg x)))) = pW tc ad sh (pSJ S a i.toNatClampNeg x) := by
    refine pW_set hs ?_ (fun b hb => ⟨rfl, rfl, pU_ne hb, rfl⟩)
    show Sum.inl (tc 3, n, pArr (pSJ S a i.toNatClampNeg x) a 3) = Sum.inl (tc 3, n, _)
    congr 3
    first | (show Sum.inl _ = Sum.inl _; congr 1; funext b; simp [pSJ, pU, upd]; done) | (simp only [pArr]; congr; funext b; simp [pSJ, pU, upd, vf_upd, vp_updL]; done)
  refine va_last (D := D) (cA := tc 3) (n := n) (f := S.2.2.1 a) hC.1 hC.2.1 hK.1 hN.hP hN.hD hN.hS a 3 (pW_at hs) rfl hin (pLook_ok hT hi) (fun H1 locs1 hP hD hS => ?_)
  rw [e] at hP hD
  exact k p l e9 R s m args below meth c D tc ad0 A hT hC hR hK hO hA ad H1 locs1 ls (hN.wr hP hD hS)
theorem pr_dast {a n : Nat} {i : Int32} {x : UInt64} (hi : pLook M.2.2.2.2 pc = some (.dastore, 1)) (hs : sh[a]? = some (.inl (4, n))) (hin : vp_in i n) (k : pWP M d mc ms n0 X Q (pc + 1) L st kc ks sh (pSD S a i.toNatClampNeg x)) : pWP M d mc ms n0 X Q pc L (.double x :: .int i :: .ref a :: st) kc ks sh S := by
  intro p l e9 R s m args below meth c D tc ad0 A hT hC hR hK hO hA ad H locs ls hN
  have e : (pW tc ad sh S).set a (ad a, .inl (tc 4, n, .inr (.inr (.inr (.inl (vf_upd (S.2.2.2 a) i.toNatClampNeg x)))))) = pW tc ad sh (pSD S a i.toNatClampNeg x) := by
    refine pW_set hs ?_ (fun b hb => ⟨rfl, rfl, rfl, pU_ne hb⟩)
    show Sum.inl (tc 4, n, pArr (pSD S a i.toNatClampNeg x) a 4) = Sum.inl (tc 4, n, _)
    congr 3
    first | (show Sum.inl _ = Sum.inl _; congr 1; funext b; simp [pSD, pU, upd]; done) | (simp only [pArr]; congr; funext b; simp [pSD, pU, upd, vf_upd, vp_updL]; done)
  refine va_dast (D := D) (cA := tc 4) (n := n) (f := S.2.2.2 a) hC.1 hC.2.1 hK.1 hN.hP hN.hD hN.hS a 4 (pW_at hs) rfl hin (pLook_ok hT hi) (fun H1 locs1 hP hD hS => ?_)
  rw [e] at hP hD
  exact k p l e9 R s m args below meth c D tc ad0 A hT hC hR hK hO hA ad H1 locs1 ls (hN.wr hP hD hS)
theorem pr_ldc {idx : Nat} {v : Int32} (hi : pLook M.2.2.2.2 pc = some (.ldc idx, 2)) (hc : Cond.constant M.1.cls idx v ∈ pGood) (k : pWP M d mc ms n0 X Q (pc + 2) L (.int v :: st) kc ks sh S) : pWP M d mc ms n0 X Q pc L st kc ks sh S := by
  intro p l e R s m args below meth c D tc ad0 A hT hC hR hK hO hA ad H locs ls hN
  exact lv_ldc hC.1 hC.2.1 hC.2.2.2.2.1 (hC.2.2.2.2.2.2.2 _ hc) (pLook_ok hT hi) (k p l e R s m args below meth c D tc ad0 A hT hC hR hK hO hA ad H locs ls hN)
theorem pr_ldcf {idx : Nat} {v : UInt32} (hi : pLook M.2.2.2.2 pc = some (.ldc idx, 2)) (hc : Cond.constantFloat M.1.cls idx v ∈ pGood) (k : pWP M d mc ms n0 X Q (pc + 2) L (.float v :: st) kc ks sh S) : pWP M d mc ms n0 X Q pc L st kc ks sh S := by
  intro p l e R s m args below meth c D tc ad0 A hT hC hR hK hO hA ad H locs ls hN
  exact lv_ldcf hC.1 hC.2.1 hC.2.2.2.2.1 (hC.2.2.2.2.2.2.2 _ hc) (pLook_ok hT hi) (k p l e R s m args below meth c D tc ad0 A hT hC hR hK hO hA ad H locs ls hN)
theorem pr_ldcw {idx : Nat} {v : Int32} (hi : pLook M.2.2.2.2 pc = some (.ldc_w idx, 3)) (hc : Cond.constant M.1.cls idx v ∈ pGood) (k : pWP M d mc ms n0 X Q (pc + 3) L (.int v :: st) kc ks sh S) : pWP M d mc ms n0 X Q pc L st kc ks sh S := by
  intro p l e R s m args below meth c D tc ad0 A hT hC hR hK hO hA ad H locs ls hN
  exact lv_ldcw hC.1 hC.2.1 hC.2.2.2.2.1 (hC.2.2.2.2.2.2.2 _ hc) (pLook_ok hT hi) (k p l e R s m args below meth c D tc ad0 A hT hC hR hK hO hA ad H locs ls hN)
end PA
section PAW
variable {p : Program} {l : Launch} {e : Env} {R : Room} {s : State} {m : MethodId} {args : Array Value} {below : List Frame} {meth : Method} {c : Code} {H : Heap} {locs : List Loc} {cells slots : Nat} {Q : State → Prop} {cc : ByteArray} {pc : Nat} {ls : Array Slot} {rest : List Value}
theorem pw_ldcwf0 {T : State} (X : Stand p l e R s m args below meth c T locs cells slots) (hexec : p.tables.exec = Jvm.exec) {own : String} {index : Nat} {b : UInt32} (hown : s.vm.findClass own = some m.cls)
    (hconst : (Cond.constantFloat own index b).before args s = true) {g : JFrame} (hg : g.method = m) (hdg : decode c.code g.pc = .ok (.ldc_w index, 3)) :
    ∀ target, Steps p.tables e below (T.setTop { g with pc := g.pc + 3, stack := .float b :: g.stack }) target → Steps p.tables e below (T.setTop g) target := by
  obtain ⟨k, cf, hk, hcf, hcp⟩ := Cond.constantFloat_spec hown hconst
  obtain ⟨k2, hk2, he⟩ := X.warmed.alike.2.2 _ _ hk
  intro target hrest
  subst hg
  jvm_step X.here [hexec, hdg, ldc_w.wp_float (s := T) (f := g) X.here.top hk2 (by rw [he]; exact hcf) hcp]
  exact hrest
theorem pw_ldcwf (hexec : p.tables.exec = Jvm.exec) (hb : c.code = cc) {own : String} {index : Nat} {v : UInt32} (hown : s.vm.findClass own = some m.cls) (hconst : (Jvm.Cond.constantFloat own index v).before args s = true) (hdg : decode cc pc = .ok (.ldc_w index, 3)) (k : W p l e R s m args below meth c H locs cells slots Q (F0 m (pc + 3) ls (.float v :: rest))) : W p l e R s m args below meth c H locs cells slots Q (F0 m pc ls rest) := by
  intro T hT X
  obtain ⟨t, a, b⟩ := k T hT X
  exact ⟨t, pw_ldcwf0 X hexec hown hconst (g := F0 m pc ls rest) rfl (by rw [hb]; exact hdg) t a, b⟩
end PAW
section PB
variable {M : PM} {d mc ms n0 : Nat} {X : Nat × (Nat → Int32)} {Q : PQ} {pc : Nat} {L : PL} {st : List Value} {kc ks : Nat} {sh : List PSh} {S : PSt}
theorem pr_ldcwf {idx : Nat} {v : UInt32} (hi : pLook M.2.2.2.2 pc = some (.ldc_w idx, 3)) (hc : Cond.constantFloat M.1.cls idx v ∈ pGood) (k : pWP M d mc ms n0 X Q (pc + 3) L (.float v :: st) kc ks sh S) : pWP M d mc ms n0 X Q pc L st kc ks sh S := by
  intro p l e R s m args below meth c D tc ad0 A hT hC hR hK hO hA ad H locs ls hN
  exact pw_ldcwf hC.1 hC.2.1 hC.2.2.2.2.1 (hC.2.2.2.2.2.2.2 _ hc) (pLook_ok hT hi) (k p l e R s m args below meth c D tc ad0 A hT hC hR hK hO hA ad H locs ls hN)
theorem pr_ldc2 {idx : Nat} {v : Int64} (hi : pLook M.2.2.2.2 pc = some (.ldc2_w idx, 3)) (hc : Cond.constantLong M.1.cls idx v ∈ pGood) (k : pWP M d mc ms n0 X Q (pc + 3) L (.long v :: st) kc ks sh S) : pWP M d mc ms n0 X Q pc L st kc ks sh S := by
  intro p l e R s m args below meth c D tc ad0 A hT hC hR hK hO hA ad H locs ls hN
  exact lv_ldc2 hC.1 hC.2.1 hC.2.2.2.2.1 (hC.2.2.2.2.2.2.2 _ hc) (pLook_ok hT hi) (k p l e R s m args below meth c D tc ad0 A hT hC hR hK hO hA ad H locs ls hN)
theorem pr_ldc2d {idx : Nat} {v : UInt64} (hi : pLook M.2.2.2.2 pc = some (.ldc2_w idx, 3)) (hc : Cond.constantDouble M.1.cls idx v ∈ pGood) (k : pWP M d mc ms n0 X Q (pc + 3) L (.double v :: st) kc ks sh S) : pWP M d mc ms n0 X Q pc L st kc ks sh S := by
  intro p l e R s m args below meth c D tc ad0 A hT hC hR hK hO hA ad H locs ls hN
  exact lv_ldc2d hC.1 hC.2.1 hC.2.2.2.2.1 (hC.2.2.2.2.2.2.2 _ hc) (pLook_ok hT hi) (k p l e R s m args below meth c D tc ad0 A hT hC hR hK hO hA ad H locs ls hN)
theorem pr_getsLEAST {idx : Nat} (hi : pLook M.2.2.2.2 pc = some (.getstatic idx, 3)) (hc : Cond.fieldLink M.1.cls idx "EngravedLines" "LEAST" "[I" ∈ pGood) (k : pWP M d mc ms n0 X Q (pc + 3) L (.ref 1001 :: st) kc ks sh S) : pWP M d mc ms n0 X Q pc L st kc ks sh S := by
  intro p l e R s m args below meth c D tc ad0 A hT hC hR hK hO hA ad H locs ls hN
  have ea : ad 1001 = ad0 1001 := hN.1 _ (fun q => by have := hN.2.2.1; omega)
  have hZ := hO.2.1
  rw [← ea] at hZ
  exact va_gets hC.1 hC.2.1 hZ hN.hS hC.2.2.2.2.1 (hC.2.2.2.2.2.2.2 _ hc) (fun _ h9 => h9) (pLook_ok hT hi) (k p l e R s m args below meth c D tc ad0 A hT hC hR hK hO hA ad H locs ls hN)
theorem pr_getsMOST {idx : Nat} (hi : pLook M.2.2.2.2 pc = some (.getstatic idx, 3)) (hc : Cond.fieldLink M.1.cls idx "EngravedLines" "MOST" "[I" ∈ pGood) (k : pWP M d mc ms n0 X Q (pc + 3) L (.ref 1002 :: st) kc ks sh S) : pWP M d mc ms n0 X Q pc L st kc ks sh S := by
  intro p l e R s m args below meth c D tc ad0 A hT hC hR hK hO hA ad H locs ls hN
  have ea : ad 1002 = ad0 1002 := hN.1 _ (fun q => by have := hN.2.2.1; omega)
  have hZ := hO.2.2
  rw [← ea] at hZ
  exact va_gets hC.1 hC.2.1 hZ hN.hS hC.2.2.2.2.1 (hC.2.2.2.2.2.2.2 _ hc) (fun _ h9 => h9) (pLook_ok hT hi) (k p l e R s m args below meth c D tc ad0 A hT hC hR hK hO hA ad H locs ls hN)
theorem pr_forget {L2 : PL} (hw : ∀ (i : Nat) (v : Value), L2[i]? = some (some v) → L[i]? = some (some v)) (k : pWP M d mc ms n0 X Q pc L2 st kc ks sh S) : pWP M d mc ms n0 X Q pc L st kc ks sh S := by
  intro p l e R s m args below meth c D tc ad0 A hT hC hR hK hO hA ad H locs ls hN
  exact k p l e R s m args below meth c D tc ad0 A hT hC hR hK hO hA ad H locs ls (hN.st (pAs_weak hw hN.ls))
theorem pr_post {Q2 : PQ} (hq : ∀ r sh2 S2, Q2 r sh2 S2 → Q r sh2 S2) (k : pWP M d mc ms n0 X Q2 pc L st kc ks sh S) : pWP M d mc ms n0 X Q pc L st kc ks sh S := by
  intro p l e R s m args below meth c D tc ad0 A hT hC hR hK hO hA ad H locs ls hN
  intro T hT9 X9
  obtain ⟨t, a1, o, b1, b2, ⟨⟨r, sh3, S3, ad3, c1, c2, c3, c4, c5, c6, c7⟩, b3⟩, b4⟩ := k p l e R s m args below meth c D tc ad0 A hT hC hR hK hO hA ad H locs ls hN T hT9 X9
  exact ⟨t, a1, o, b1, b2, ⟨⟨r, sh3, S3, ad3, c1, c2, c3, c4, c5, hq _ _ _ c6, c7⟩, b3⟩, b4⟩
theorem pr_lret {x : Int64} (hi : pLook M.2.2.2.2 pc = some (.lreturn, 1)) (hr : M.2.2.2.1 = some .long) (hk : kc ≤ mc ∧ ks ≤ ms) (hq : Q (some (.long x)) sh S) : pWP M d mc ms n0 X Q pc L [.long x] kc ks sh S := by
  intro p l e R s m args below meth c D tc ad0 A hT hC hR hK hO hA ad H locs ls hN
  refine W.widen hk.1 hk.2 ?_
  exact W.lret hC.1 hC.2.1 (hC.2.2.2.1.trans hr) (fun t ht _ => ⟨⟨some (.long x), sh, S, ad, hN.1, hN.2.1, hN.2.2.1, hN.2.2.2.1, rfl, hq, by rw [ht]; exact hN.hP, hN.hD⟩, hN.hS.F ht⟩) hN.hS.2.2 (pLook_ok hT hi) hC.2.2.2.2.2.1
theorem pr_fret {x : UInt32} (hi : pLook M.2.2.2.2 pc = some (.freturn, 1)) (hr : M.2.2.2.1 = some .float) (hk : kc ≤ mc ∧ ks ≤ ms) (hq : Q (some (.float x)) sh S) : pWP M d mc ms n0 X Q pc L [.float x] kc ks sh S := by
  intro p l e R s m args below meth c D tc ad0 A hT hC hR hK hO hA ad H locs ls hN
  refine W.widen hk.1 hk.2 ?_
  exact W.fret hC.1 hC.2.1 (hC.2.2.2.1.trans hr) (fun t ht _ => ⟨⟨some (.float x), sh, S, ad, hN.1, hN.2.1, hN.2.2.1, hN.2.2.2.1, rfl, hq, by rw [ht]; exact hN.hP, hN.hD⟩, hN.hS.F ht⟩) hN.hS.2.2 (pLook_ok hT hi) hC.2.2.2.2.2.1
theorem pr_dret {x : UInt64} (hi : pLook M.2.2.2.2 pc = some (.dreturn, 1)) (hr : M.2.2.2.1 = some .double) (hk : kc ≤ mc ∧ ks ≤ ms) (hq : Q (some (.double x)) sh S) : pWP M d mc ms n0 X Q pc L [.double x] kc ks sh S := by
  intro p l e R s m args below meth c D tc ad0 A hT hC hR hK hO hA ad H locs ls hN
  refine W.widen hk.1 hk.2 ?_
  exact W.dret hC.1 hC.2.1 (hC.2.2.2.1.trans hr) (fun t ht _ => ⟨⟨some (.double x), sh, S, ad, hN.1, hN.2.1, hN.2.2.1, hN.2.2.2.1, rfl, hq, by rw [ht]; exact hN.hP, hN.hD⟩, hN.hS.F ht⟩) hN.hS.2.2 (pLook_ok hT hi) hC.2.2.2.2.2.1
theorem pr_iret {x : Int32} (hi : pLook M.2.2.2.2 pc = some (.ireturn, 1)) (hr : M.2.2.2.1 = some .int) (hk : kc ≤ mc ∧ ks ≤ ms) (hq : Q (some (.int x)) sh S) : pWP M d mc ms n0 X Q pc L [.int x] kc ks sh S := by
  intro p l e R s m args below meth c D tc ad0 A hT hC hR hK hO hA ad H locs ls hN
  refine W.widen hk.1 hk.2 ?_
  exact W.iret hC.1 hC.2.1 (hC.2.2.2.1.trans hr) (fun t ht _ => ⟨⟨some (.int x), sh, S, ad, hN.1, hN.2.1, hN.2.2.1, hN.2.2.2.1, rfl, hq, by rw [ht]; exact hN.hP, hN.hD⟩, hN.hS.F ht⟩) hN.hS.2.2 (pLook_ok hT hi) hC.2.2.2.2.2.1
theorem pr_zret {x : Int32} {ty : FieldType} (hi : pLook M.2.2.2.2 pc = some (.ireturn, 1)) (hr : M.2.2.2.1 = some ty) (hn : narrow ty (.int x) = .int x) (hk : kc ≤ mc ∧ ks ≤ ms) (hq : Q (some (.int x)) sh S) : pWP M d mc ms n0 X Q pc L [.int x] kc ks sh S := by
  intro p l e R s m args below meth c D tc ad0 A hT hC hR hK hO hA ad H locs ls hN
  refine W.widen hk.1 hk.2 ?_
  exact W.zret hC.1 hC.2.1 (hC.2.2.2.1.trans hr) hn (fun t ht _ => ⟨⟨some (.int x), sh, S, ad, hN.1, hN.2.1, hN.2.2.1, hN.2.2.2.1, rfl, hq, by rw [ht]; exact hN.hP, hN.hD⟩, hN.hS.F ht⟩) hN.hS.2.2 (pLook_ok hT hi) hC.2.2.2.2.2.1
theorem pr_vret (hi : pLook M.2.2.2.2 pc = some (.return_, 1)) (hr : M.2.2.2.1 = none) (hk : kc ≤ mc ∧ ks ≤ ms) (hq : Q none sh S) : pWP M d mc ms n0 X Q pc L [] kc ks sh S := by
  intro p l e R s m args below meth c D tc ad0 A hT hC hR hK hO hA ad H locs ls hN
  refine W.widen hk.1 hk.2 ?_
  exact W.vret hC.1 hC.2.1 (hC.2.2.2.1.trans hr) (fun t ht _ => ⟨⟨none, sh, S, ad, hN.1, hN.2.1, hN.2.2.1, hN.2.2.2.1, rfl, hq, by rw [ht]; exact hN.hP, hN.hD⟩, hN.hS.F ht⟩) hN.hS.2.2 (pLook_ok hT hi) hC.2.2.2.2.2.1
end PB
end
section
/-! the pure machine: a contract from a walk, calls -/
/-- the locals at a method's entry -/
def pArgs (av : List Value) : PL := match av with
  | [] => []
  | v :: vs => if v.category = 2 then some v :: none :: pArgs vs else some v :: pArgs vs
def pL0 (n : Nat) (av : List Value) : PL := pArgs av ++ List.replicate (n - (pArgs av).length) none
theorem pArgs_in (ad : Nat → Nat) : ∀ (av : List Value) (i j : Nat) (v : Value), (pArgs av)[j]? = some (some v) → (i + j, pTr ad v) ∈ lv_args i (av.map (pTr ad)) := by
  intro av
  induction av with
  | nil => intro i j v h; cases h
  | cons w vs ih =>
    intro i j v h
    show (i + j, pTr ad v) ∈ (i, pTr ad w) :: lv_args (if (pTr ad w).category = 2 then i + 2 else i + 1) (vs.map (pTr ad))
    rw [pTr_cat]
    unfold pArgs at h
    by_cases hc : w.category = 2
    · rw [if_pos hc] at h ⊢
      match j, h with
      | 0, h => cases h; exact List.mem_cons_self
      | 1, h => cases h
      | j + 2, h =>
        have := ih (i + 2) j v h
        rw [show i + (j + 2) = i + 2 + j by omega]
        exact List.mem_cons_of_mem _ this
    · rw [if_neg hc] at h ⊢
      match j, h with
      | 0, h => cases h; exact List.mem_cons_self
      | j + 1, h =>
        have := ih (i + 1) j v h
        rw [show i + (j + 1) = i + 1 + j by omega]
        exact List.mem_cons_of_mem _ this
theorem pArgs_len (ad : Nat → Nat) (av : List Value) : (lg_sl (av.map (pTr ad))).length = (pArgs av).length := by
  induction av with
  | nil => rfl
  | cons w vs ih =>
    unfold lg_sl at ih ⊢
    rw [List.map_cons, List.flatMap_cons, List.length_append, ih]
    have e : pArgs (w :: vs) = if w.category = 2 then some w :: none :: pArgs vs else some w :: pArgs vs := rfl
    rw [e, pTr_cat]
    by_cases hc : w.category = 2
    · rw [if_pos hc, if_pos hc]; simp; omega
    · rw [if_neg hc, if_neg hc]; simp; omega
theorem pSpec.of {M : PM} {d mc ms : Nat} {av : List Value} {X : Nat × (Nat → Int32)} {sh : List PSh} {S : PSt} {Q : PQ} (hy : plainName M.1.cls = true) (hT : pTabOk M.2.1 M.2.2.2.2 = true) (ha : (pArgs av).length ≤ M.2.2.1)
    (h : pWP M d mc ms sh.length X Q 0 (pL0 M.2.2.1 av) [] 0 0 sh S) : pSpec M d mc ms av X sh S Q := by
  intro h1000 hok l D tc ad sz
  refine Met.ofW (cc := M.2.1) (maxL := M.2.2.1) (ret := M.2.2.2.1) hy rfl ?_
  intro p e s m args below meth c s₁ B hml hv
  obtain ⟨rfl, hsz, hP, hK, hD0, hO⟩ := hv
  have hts := atoms_spec (ws := pWs M) B.pre
  subst hsz
  rw [lg_entry_eq]
  have hl := lv_entry (av.map (pTr ad)) (n := M.2.2.1) (by rw [pArgs_len]; exact ha)
  have hC : pCtx M p s m (av.map (pTr ad)).toArray meth c := ⟨B.exec, B.bytes, hml, B.returns, findClass_of_methodNamed B.named, B.notSynchronized, fun hi => (name_of_methodNamed B.named B.method).1.trans hi, fun w hw => hts w (List.mem_cons_of_mem _ hw)⟩
  refine h p l e _ s m _ below meth c D tc ad (va_A (pW tc ad sh S) s.heap.size) hT hC ⟨Nat.le_refl _, Nat.le_refl _, Nat.le_refl _, Nat.le_refl _⟩ hK hO (fun q hq => Or.inr hq) ad s.heap [] _ ⟨fun _ _ => rfl, Nat.le_refl _, h1000, hok, hP, hD0.self, va_S.rf, ?_⟩
  refine ⟨hl.1, hl.2.1, fun q hq => hl.2.2 q ?_⟩
  obtain ⟨j, w⟩ := q
  obtain ⟨v, h1, rfl⟩ := pAs_mem.mp hq
  have h2 : (pArgs av)[j]? = some (some v) := by
    unfold pL0 at h1
    by_cases hj : j < (pArgs av).length
    · rw [List.getElem?_append_left hj] at h1; exact h1
    · rw [List.getElem?_append_right (by omega), List.getElem?_replicate] at h1
      split at h1 <;> cases h1
  have h3 := pArgs_in ad av 0 j v h2
  rwa [Nat.zero_add] at h3
/-- what a callee must be among the words -/
def pCallee (M : PM) (n : Nat) : Prop := (M.1.cls ≠ "java/lang/invoke/MethodHandle" ∧ M.1.cls ≠ "java/lang/invoke/VarHandle" ∧ (parseMethodDescriptor M.1.desc).map (fun d => d.parameters.length) = some n) ∧ Cond.code M.1 M.2.1 M.2.2.1 M.2.2.2.1 ∈ pGood ∧ Cond.initialized M.1.cls ∈ pGood ∧ M.2.2.1 ≤ 20
/-- a call site: in the class own the pool's entry idx is the method M -/
def pML (own : String) (idx : Nat) (M : PM) : Prop := Cond.methodLink own idx M.1 ∈ pGood ∨ ∃ h, Cond.methodLinkNest own idx M.1 h ∈ pNest
theorem pWs_good {M : PM} {n : Nat} (h : pCallee M n) : GoodIn pGood (pWs M) := pGood_ok fun w hw => by
  rcases List.mem_cons.mp hw with rfl | hw
  · exact h.2.1
  · exact hw
theorem pPc_blind {av : List Value} {D : va_G} {tc ad : Nat → Nat} {X : Nat × (Nat → Int32)} {sh : List PSh} {S : PSt} {sz : Nat} : FrameBlind (pPc av D tc ad X sh S sz) := fun a U g mk q => by
  obtain ⟨q0, q1, qP, qK, qD, qO⟩ := q
  exact ⟨q0, q1, qP, pKK.same (s := U) (U := U.calling g mk a) rfl qK, qD, pRO.moved (U := U.calling g mk a) (Vm.Alike.refl U.vm) qO⟩
theorem pA_in {tc ad : Nat → Nat} {sh : List PSh} {S : PSt} {A : Nat → Prop} {s : State} {H : Heap} {locs : List Loc} (hD : va_D A (pW tc ad sh S)) (hS : va_S A s.heap H locs) (hA : ∀ q, s.heap.size ≤ q → A q) : ∀ q, va_A (pW tc ad sh S) H.size q → A q := by
  intro q h
  rcases h with ⟨k, e, h⟩ | h
  · exact hD.2 k (q, e) h
  · exact hA q (Nat.le_trans hS.1 h)
theorem pPc_at {av : List Value} {n0 nL : Nat} {D : va_G} {tc ad0 ad : Nat → Nat} {X : Nat × (Nat → Int32)} {A : Nat → Prop} {s : State} {H : Heap} {locs : List Loc} {ls : Array Slot} {L : PL} {sh : List PSh} {S : PSt} (hN : pNow n0 nL D tc ad0 ad A s H locs ls L sh S) (hK : pKK D tc s) (hO : pRO ad0 X A s s.heap) (hA : ∀ q, s.heap.size ≤ q → A q) :
    ∀ U : State, U.heap = H → s.WarmedH U.vm → pPc av D tc ad X sh S H.size (av.map (pTr ad)).toArray U := by
  intro U hU hW
  refine ⟨rfl, by rw [hU], by rw [hU]; exact hN.hP, hK.moved hW, hN.hD.weaken (fun _ _ _ _ => trivial), ?_⟩
  rw [hU]
  have h1 : pRO ad X A s s.heap := pRO.ads (fun k hk => hN.1 k (fun q => by have := hN.2.2.1; omega)) hO
  exact ((h1.kept hN.hS.1 hN.hS.2.1).moved hW.alike).narrow (pA_in hN.hD hN.hS hA)
/-- behind a call: the callee's end is the caller's next state -/
theorem pr_back {M : PM} {d mc ms n0 : Nat} {X : Nat × (Nat → Int32)} {Q Q1 : PQ} {pc kc ks mc1 ms1 : Nat} {L : PL} {st rest : List Value} {sh : List PSh} {S : PSt} {p : Program} {l : Launch} {e : Env} {R : Room} {s : State} {m : MethodId} {args : Array Value} {below : List Frame} {meth : Method} {c : Code} {D : va_G} {tc ad0 : Nat → Nat} {A : Nat → Prop} {ad : Nat → Nat} {H : Heap} {locs : List Loc} {ls : Array Slot} {a9 : Array Value}
    (hT : pTabOk M.2.1 M.2.2.2.2 = true) (hC : pCtx M p s m args meth c) (hR : d ≤ R.frames ∧ 39 * d ≤ R.locals ∧ mc ≤ R.cells ∧ ms ≤ R.slots) (hK : pKK D tc s) (hO : pRO ad0 X A s s.heap) (hA : ∀ q, s.heap.size ≤ q → A q) (hN : pNow n0 M.2.2.1 D tc ad0 ad A s H locs ls L sh S)
    (hrun : va_Run p l e R s m args below meth c H locs kc ks mc1 ms1 (F0 m pc ls st) (rest.map (pTr ad)) (pQc (va_A (pW tc ad sh S) H.size) D tc ad sh.length Q1 a9) (va_A (pW tc ad sh S) H.size))
    (hsame : ∀ r sh2 S2, Q1 r sh2 S2 → (∀ ad2 : Nat → Nat, (∀ k, ¬ (sh.length ≤ k ∧ k < sh2.length) → ad2 k = ad k) → rest.map (pTr ad2) = rest.map (pTr ad) ∧ ∀ (j : Nat) (v : Value), L[j]? = some (some v) → pTr ad2 v = pTr ad v))
    (k : ∀ r sh2 S2, Q1 r sh2 S2 → pWP M d mc ms n0 X Q (pc + 3) L (r.toList ++ rest) (kc + mc1) (ks + ms1) sh2 S2) : W p l e R s m args below meth c H locs kc ks (MQ below (pQc A D tc ad0 n0 Q) args s mc ms A) (F0 m pc ls st) := by
  intro T hT9 X9
  obtain ⟨v, st₀, t, T', L9, h0, X', hL, e1, e2, ⟨⟨r, sh2, S2, ad2, hag, hn, h1000, hok, hv, hq, hP1, hD1⟩, hz, hk⟩, hst⟩ := hrun T hT9 X9
  cases hv
  rw [h0] at hz hk
  have hAin := pA_in hN.hD hN.hS hA
  have hS2 : va_S A s.heap T'.heap (locs ++ L9) := ⟨Nat.le_trans hN.hS.1 (by rw [e1]; exact hz), fun q h1 h2 => by rw [e1, hk q (Nat.lt_of_lt_of_le h1 hN.hS.1) (fun z => h2 (hAin q z))]; exact hN.hS.2.1 q h1 h2, fun q hq => by
      rcases List.mem_append.mp hq with h | h
      · exact hN.hS.2.2 q h
      · exact hAin _ (hL q h)⟩
  obtain ⟨hr1, hr2⟩ := hsame r sh2 S2 hq ad2 hag
  have hls : lv_has ls M.2.2.1 (pAs ad2 L) := by
    refine ⟨hN.ls.1, hN.ls.2.1, fun q hq9 => ?_⟩
    obtain ⟨j, w⟩ := q
    obtain ⟨v, h1, rfl⟩ := pAs_mem.mp hq9
    rw [hr2 j v h1]
    exact hN.ls.2.2 (j, pTr ad v) (pAs_mem.mpr ⟨v, h1, rfl⟩)
  have hN2 : pNow n0 M.2.2.1 D tc ad0 ad2 A s T'.heap (locs ++ L9) ls L sh2 S2 := by
    refine ⟨fun k hk9 => ?_, Nat.le_trans hN.2.1 hn, h1000, hok, by rw [e1]; exact hP1, hD1.weaken (fun k q _ h => hAin q.1 h), hS2, hls⟩
    have a1 : ad2 k = ad k := hag k (fun q => hk9 ⟨Nat.le_trans hN.2.1 q.1, q.2⟩)
    rw [a1]
    exact hN.1 k (fun q => hk9 ⟨q.1, Nat.lt_of_lt_of_le q.2 hn⟩)
  obtain ⟨t2, a1, b1⟩ := k r sh2 S2 hq p l e R s m args below meth c D tc ad0 A hT hC hR hK hO hA ad2 T'.heap (locs ++ L9) ls hN2 T' rfl X'
  refine ⟨t2, hst t2 ?_, b1⟩
  have he : (r.map (pTr ad2)).toList ++ rest.map (pTr ad) = (r.toList ++ rest).map (pTr ad2) := by
    rw [List.map_append, hr1]
    cases r <;> rfl
  show Steps p.tables e below (T'.setTop { F0 m pc ls st with pc := pc + 3, stack := (r.map (pTr ad2)).toList ++ rest.map (pTr ad) }) t2
  rw [he]
  exact a1
theorem pCat {ad : Nat → Nat} {rest : List Value} (h : (rest.map fun v => v.category).sum ≤ 8) : ((rest.map (pTr ad)).map fun v => v.category).sum ≤ 8 := by
  have : (rest.map (pTr ad)).map (fun v => v.category) = rest.map (fun v => v.category) := by
    rw [List.map_map]
    exact List.map_congr_left fun v _ => pTr_cat ad v
  rw [this]
  exact h
section PCALL
variable {M M1 : PM} {d d1 mc ms n0 : Nat} {X : Nat × (Nat → Int32)} {Q Q1 : PQ} {pc : Nat} {L : PL} {rest : List Value} {kc ks mc1 ms1 : Nat} {sh : List PSh} {S : PSt} {idx n : Nat} {as : List Value}
/-- a static call -/
theorem pr_callS (hi : pLook M.2.2.2.2 pc = some (.invokestatic idx, 3)) (hce : pCallee M1 n) (hml : pML M.1.cls idx M1) (hst : Cond.static M1.1 ∈ pGood) (hn : as.length = n) (hd : d1 + 1 ≤ d) (hcat : (rest.map fun v => v.category).sum ≤ 8) (hm : kc + mc1 ≤ mc ∧ ks + ms1 ≤ ms)
    (hsp : pSpec M1 d1 mc1 ms1 as X sh S Q1)
    (hsame : ∀ r sh2 S2, Q1 r sh2 S2 → (∀ ad ad2 : Nat → Nat, (∀ k, ¬ (sh.length ≤ k ∧ k < sh2.length) → ad2 k = ad k) → rest.map (pTr ad2) = rest.map (pTr ad) ∧ ∀ (j : Nat) (v : Value), L[j]? = some (some v) → pTr ad2 v = pTr ad v))
    (k : ∀ r sh2 S2, Q1 r sh2 S2 → pWP M d mc ms n0 X Q (pc + 3) L (r.toList ++ rest) (kc + mc1) (ks + ms1) sh2 S2) : pWP M d mc ms n0 X Q pc L (as.reverse ++ rest) kc ks sh S := by
  intro p l e R s m args below meth c D tc ad0 A hT hC hR hK hO hA ad H locs ls hN
  have hts := hC.2.2.2.2.2.2.2
  have hM := hsp hN.2.2.1 hN.2.2.2.1 l D tc ad H.size
  have hfix : CallFix p m c M.2.1 M.2.2.1 s args pGood M.1.cls := ⟨hC.1, hC.2.1, hC.2.2.1, hC.2.2.2.2.1, hts⟩
  have hRm : (pRoom d1 mc1 ms1).frames + 1 ≤ R.frames ∧ 8 + (M1.2.2.1 + 11) + (pRoom d1 mc1 ms1).locals ≤ R.locals := by
    refine ⟨Nat.le_trans hd hR.1, ?_⟩
    show 8 + (M1.2.2.1 + 11) + 39 * d1 ≤ R.locals
    have h20 := hce.2.2.2
    have := hR.2.1
    omega
  have hstk : (as.reverse ++ rest).map (pTr ad) = (as.map (pTr ad)).reverse ++ rest.map (pTr ad) := by rw [List.map_append, List.map_reverse]
  have hf : kc + mc1 ≤ R.cells ∧ ks + ms1 ≤ R.slots := ⟨Nat.le_trans hm.1 hR.2.2.1, Nat.le_trans hm.2 hR.2.2.2⟩
  have hlen : (as.map (pTr ad)).length = n := by rw [List.length_map]; exact hn
  rcases hml with hml | ⟨host, hml⟩
  · exact pr_back hT hC hR hK hO hA hN (va_runS hfix hM ⟨callB_of n hts (pWs_good hce) rfl rfl rfl (hts _ hce.2.2.1) (hts _ hml) hce.1 hRm, hts _ hst⟩ ⟨pPc_blind, pPc_at hN hK hO hA⟩ rfl hlen hN.ls.1 hstk (lv_room (pCat hcat)) (pLook_ok hT hi) hf) (fun r sh2 S2 h ad2 ha => hsame r sh2 S2 h ad ad2 ha) k
  · exact pr_back hT hC hR hK hO hA hN (va_runSN hfix hM ⟨va_cnB n hts (pWs_good hce) rfl rfl rfl (hK.2 _ hml) (hts _ hce.2.2.1) hce.1 hRm, hts _ hst, trivial⟩ ⟨pPc_blind, pPc_at hN hK hO hA⟩ rfl hlen hN.ls.1 hstk (lv_room (pCat hcat)) (pLook_ok hT hi) hf) (fun r sh2 S2 h ad2 ha => hsame r sh2 S2 h ad ad2 ha) k
/-- a call of an object's method -/
theorem pr_callV {b cI : Nat} {fs : List Nat} {qc : vw_C} (hi : pLook M.2.2.2.2 pc = some (.invokevirtual idx, 3)) (hce : pCallee M1 n) (hml : pML M.1.cls idx M1) (hin : Cond.instanceMethod M1.1 ∈ pGood) (hse : Cond.selects M1.1.cls M1.1 M1.1 ∈ pGood) (hb : sh[b]? = some (.inr (cI, fs))) (hcl : vwCl[cI]? = some qc) (hqc : qc.1 = M1.1.cls) (hn : as.length = n) (hd : d1 + 1 ≤ d) (hcat : (rest.map fun v => v.category).sum ≤ 8) (hm : kc + mc1 ≤ mc ∧ ks + ms1 ≤ ms)
    (hsp : pSpec M1 d1 mc1 ms1 (.ref b :: as) X sh S Q1)
    (hsame : ∀ r sh2 S2, Q1 r sh2 S2 → (∀ ad ad2 : Nat → Nat, (∀ k, ¬ (sh.length ≤ k ∧ k < sh2.length) → ad2 k = ad k) → rest.map (pTr ad2) = rest.map (pTr ad) ∧ ∀ (j : Nat) (v : Value), L[j]? = some (some v) → pTr ad2 v = pTr ad v))
    (k : ∀ r sh2 S2, Q1 r sh2 S2 → pWP M d mc ms n0 X Q (pc + 3) L (r.toList ++ rest) (kc + mc1) (ks + ms1) sh2 S2) : pWP M d mc ms n0 X Q pc L (as.reverse ++ .ref b :: rest) kc ks sh S := by
  intro p l e R s m args below meth c D tc ad0 A hT hC hR hK hO hA ad H locs ls hN
  have hts := hC.2.2.2.2.2.2.2
  have hM := hsp hN.2.2.1 hN.2.2.2.1 l D tc ad H.size
  have hfix : CallFix p m c M.2.1 M.2.2.1 s args pGood M.1.cls := ⟨hC.1, hC.2.1, hC.2.2.1, hC.2.2.2.2.1, hts⟩
  have hRm : (pRoom d1 mc1 ms1).frames + 1 ≤ R.frames ∧ 8 + (M1.2.2.1 + 11) + (pRoom d1 mc1 ms1).locals ≤ R.locals := by
    refine ⟨Nat.le_trans hd hR.1, ?_⟩
    show 8 + (M1.2.2.1 + 11) + 39 * d1 ≤ R.locals
    have h20 := hce.2.2.2
    have := hR.2.1
    omega
  have hstk : (as.reverse ++ .ref b :: rest).map (pTr ad) = (as.map (pTr ad)).reverse ++ .ref (ad b) :: rest.map (pTr ad) := by rw [List.map_append, List.map_reverse]; rfl
  have hf : kc + mc1 ≤ R.cells ∧ ks + ms1 ≤ R.slots := ⟨Nat.le_trans hm.1 hR.2.2.1, Nat.le_trans hm.2 hR.2.2.2⟩
  have hlen : (as.map (pTr ad)).length = n := by rw [List.length_map]; exact hn
  have hpv : PreV s H M1.1.cls (ad b) (pPc (.ref b :: as) D tc ad X sh S H.size) (as.map (pTr ad)) := ⟨pPc_blind, by rw [← hqc]; exact va_recv hK.1 hN.hP hcl (pW_at hb), pPc_at (av := .ref b :: as) hN hK hO hA⟩
  rcases hml with hml | ⟨host, hml⟩
  · exact pr_back hT hC hR hK hO hA hN (va_runV hfix hM ⟨callB_of n hts (pWs_good hce) rfl rfl rfl (hts _ hce.2.2.1) (hts _ hml) hce.1 hRm, hts _ hin, hts _ hse⟩ hpv rfl hlen hN.ls.1 hstk (lv_room (pCat hcat)) (pLook_ok hT hi) hf) (fun r sh2 S2 h ad2 ha => hsame r sh2 S2 h ad ad2 ha) k
  · exact pr_back hT hC hR hK hO hA hN (va_runVN hfix hM ⟨va_cnB n hts (pWs_good hce) rfl rfl rfl (hK.2 _ hml) (hts _ hce.2.2.1) hce.1 hRm, hts _ hin, hts _ hse⟩ hpv rfl hlen hN.ls.1 hstk (lv_room (pCat hcat)) (pLook_ok hT hi) hf) (fun r sh2 S2 h ad2 ha => hsame r sh2 S2 h ad ad2 ha) k
/-- a constructor's call -/
theorem pr_callI {b : Nat} (hi : pLook M.2.2.2.2 pc = some (.invokespecial idx, 3)) (hce : pCallee M1 n) (hml : pML M.1.cls idx M1) (hin : Cond.instanceMethod M1.1 ∈ pGood) (hnm : M1.1.name = "<init>") (hrt : M1.2.2.2.1 = none) (hn : as.length = n) (hd : d1 + 1 ≤ d) (hcat : (rest.map fun v => v.category).sum ≤ 8) (hm : kc + mc1 ≤ mc ∧ ks + ms1 ≤ ms)
    (hsp : pSpec M1 d1 mc1 ms1 (.ref b :: as) X sh S Q1)
    (hsame : ∀ r sh2 S2, Q1 r sh2 S2 → (∀ ad ad2 : Nat → Nat, (∀ k, ¬ (sh.length ≤ k ∧ k < sh2.length) → ad2 k = ad k) → rest.map (pTr ad2) = rest.map (pTr ad) ∧ ∀ (j : Nat) (v : Value), L[j]? = some (some v) → pTr ad2 v = pTr ad v))
    (k : ∀ r sh2 S2, Q1 r sh2 S2 → pWP M d mc ms n0 X Q (pc + 3) L (r.toList ++ rest) (kc + mc1) (ks + ms1) sh2 S2) : pWP M d mc ms n0 X Q pc L (as.reverse ++ .ref b :: rest) kc ks sh S := by
  intro p l e R s m args below meth c D tc ad0 A hT hC hR hK hO hA ad H locs ls hN
  have hts := hC.2.2.2.2.2.2.2
  have hM := hsp hN.2.2.1 hN.2.2.2.1 l D tc ad H.size
  have hfix : CallFix p m c M.2.1 M.2.2.1 s args pGood M.1.cls := ⟨hC.1, hC.2.1, hC.2.2.1, hC.2.2.2.2.1, hts⟩
  have hRm : (pRoom d1 mc1 ms1).frames + 1 ≤ R.frames ∧ 8 + (M1.2.2.1 + 11) + (pRoom d1 mc1 ms1).locals ≤ R.locals := by
    refine ⟨Nat.le_trans hd hR.1, ?_⟩
    show 8 + (M1.2.2.1 + 11) + 39 * d1 ≤ R.locals
    have h20 := hce.2.2.2
    have := hR.2.1
    omega
  have hstk : (as.reverse ++ .ref b :: rest).map (pTr ad) = (as.map (pTr ad)).reverse ++ .ref (ad b) :: rest.map (pTr ad) := by rw [List.map_append, List.map_reverse]; rfl
  have hf : kc + mc1 ≤ R.cells ∧ ks + ms1 ≤ R.slots := ⟨Nat.le_trans hm.1 hR.2.2.1, Nat.le_trans hm.2 hR.2.2.2⟩
  have hlen : (as.map (pTr ad)).length = n := by rw [List.length_map]; exact hn
  have hps : PreS s H (pPc (.ref b :: as) D tc ad X sh S H.size) (.ref (ad b) :: as.map (pTr ad)) := ⟨pPc_blind, pPc_at (av := .ref b :: as) hN hK hO hA⟩
  have hgd : pWs M1 = Cond.code M1.1 M1.2.1 M1.2.2.1 none :: pGood := by unfold pWs; rw [hrt]
  rcases hml with hml | ⟨host, hml⟩
  · exact pr_back hT hC hR hK hO hA hN (va_runI hfix hM ⟨callB_of n hts (pWs_good hce) hgd rfl rfl (hts _ hce.2.2.1) (hts _ hml) hce.1 hRm, hnm, hts _ hin⟩ hps rfl hlen hN.ls.1 hstk (lv_room (pCat hcat)) (pLook_ok hT hi) hf) (fun r sh2 S2 h ad2 ha => hsame r sh2 S2 h ad ad2 ha) k
  · exact pr_back hT hC hR hK hO hA hN (va_runIN hfix hM ⟨va_cnB n hts (pWs_good hce) hgd rfl rfl (hK.2 _ hml) (hts _ hce.2.2.1) hce.1 hRm, hnm, hts _ hin⟩ hps rfl hlen hN.ls.1 hstk (lv_room (pCat hcat)) (pLook_ok hT hi) hf) (fun r sh2 S2 h ad2 ha => hsame r sh2 S2 h ad ad2 ha) k
/-- a callee that makes nothing leaves all addresses -/
theorem pSame0 {sh2 : List PSh} (h : sh2.length = sh.length) : ∀ ad ad2 : Nat → Nat, (∀ k, ¬ (sh.length ≤ k ∧ k < sh2.length) → ad2 k = ad k) → rest.map (pTr ad2) = rest.map (pTr ad) ∧ ∀ (j : Nat) (v : Value), L[j]? = some (some v) → pTr ad2 v = pTr ad v := by
  intro ad ad2 ha
  have : ad2 = ad := funext fun k => ha k (by omega)
  rw [this]
  exact ⟨rfl, fun _ _ _ => rfl⟩
def pOld (n : Nat) (v : Value) : Bool := match v with
  | .ref r => decide (r < n) || decide (1000 ≤ r)
  | _ => true
def pOldL (n : Nat) (o : Option Value) : Bool := match o with
  | some v => pOld n v
  | none => true
theorem pSameN {sh2 : List PSh} (h2 : sh2.length < 1000) (hr : rest.all (pOld sh.length) = true) (hL : L.all (pOldL sh.length) = true) : ∀ ad ad2 : Nat → Nat, (∀ k, ¬ (sh.length ≤ k ∧ k < sh2.length) → ad2 k = ad k) → rest.map (pTr ad2) = rest.map (pTr ad) ∧ ∀ (j : Nat) (v : Value), L[j]? = some (some v) → pTr ad2 v = pTr ad v := by
  intro ad ad2 ha
  have key : ∀ v : Value, pOld sh.length v = true → pTr ad2 v = pTr ad v := by
    intro v hv
    cases v <;> try rfl
    rename_i r
    simp only [pOld, Bool.or_eq_true, decide_eq_true_eq] at hv
    show Value.ref (ad2 r) = Value.ref (ad r)
    have hne : ¬ (sh.length ≤ r ∧ r < sh2.length) := fun q => hv.elim (fun h => absurd q.1 (Nat.not_le.mpr h)) (fun h => absurd (Nat.lt_trans q.2 h2) (Nat.not_lt.mpr h))
    rw [ha r hne]
  refine ⟨List.map_congr_left fun v hv => key v (List.all_eq_true.mp hr v hv), fun j v hj => key v ?_⟩
  exact List.all_eq_true.mp hL _ (List.mem_of_getElem? hj)
end PCALL
end
section
/-! the pure machine: cells that are made, the JDK's own -/
def pSZ (S : PSt) (n : Nat) : PSt := (fun a b => if a = n then 0 else S.1 a b, fun a b => if a = n then 0 else S.2.1 a b, fun a b => if a = n then 0 else S.2.2.1 a b, fun a b => if a = n then 0 else S.2.2.2 a b)
theorem pSZ_ne {S : PSt} {n a : Nat} (h : a ≠ n) : (pSZ S n).1 a = S.1 a ∧ (pSZ S n).2.1 a = S.2.1 a ∧ (pSZ S n).2.2.1 a = S.2.2.1 a ∧ (pSZ S n).2.2.2 a = S.2.2.2 a := by
  simp [pSZ, h]
def pDef (f : Nat) : Value := match f with
  | 0 => .int 0
  | 1 => .float 0
  | _ => .null
theorem pDef_eq {ad : Nat → Nat} {S : PSt} {n j f : Nat} (h : f ≤ 2) : pTr ad (pFv (pSZ S n) n j f) = pDef f := by
  match f, h with
  | 0, _ => simp [pFv, pSZ, pDef, pTr]
  | 1, _ => simp [pFv, pSZ, pDef, pTr]
  | 2, _ => rfl
theorem pNow.grow {n0 nL : Nat} {D : va_G} {tc ad0 ad : Nat → Nat} {A : Nat → Prop} {s : State} {H H1 : Heap} {locs locs1 : List Loc} {ls : Array Slot} {L : PL} {sh : List PSh} {S : PSt} {e : PSh} {q : Nat} {el : va_E} (h : pNow n0 nL D tc ad0 ad A s H locs ls L sh S) (hlen : sh.length + 1 < 1000) (hL : L.all (pNoL sh.length) = true)
    (hel : pEl tc (pAdd ad sh.length q) (pSZ S sh.length) sh.length e = el) (hok : ∀ c fs, e = .inr (c, fs) → ∀ f ∈ fs, f ≤ 2) (hP : va_P D vwCl (pW tc ad sh S ++ [(q, el)]) H1) (hD : va_D A (pW tc ad sh S ++ [(q, el)])) (hS : va_S A s.heap H1 locs1) :
    pNow n0 nL D tc ad0 (pAdd ad sh.length q) A s H1 locs1 ls L (sh ++ [e]) (pSZ S sh.length) := by
  have ep : pW tc ad sh S ++ [(q, el)] = pW tc (pAdd ad sh.length q) (sh ++ [e]) (pSZ S sh.length) := by
    refine pW_push (by simp [pAdd]) hel (fun k hk => by simp [pAdd]; omega) (fun k c fs hk r hr => ?_) (fun a ha => pSZ_ne ha)
    have := h.2.2.2.1 k c fs hk r hr
    simp [pAdd]
    omega
  rw [ep] at hP hD
  refine ⟨fun k hk => ?_, ?_, ?_, ?_, hP, hD, hS, pAs_add hL h.ls⟩
  · rw [List.length_append] at hk
    have h1 := h.2.1
    have hk2 : k ≠ sh.length := fun q => hk ⟨by omega, by rw [q]; simp⟩
    have : pAdd ad sh.length q k = ad k := by simp [pAdd, hk2]
    rw [this]
    exact h.1 k (fun q => hk ⟨q.1, by have := q.2; simp; omega⟩)
  · rw [List.length_append]; have := h.2.1; simp; omega
  · rw [List.length_append]; simp; omega
  · intro k c fs hk r hr
    rw [List.length_append]
    by_cases hk2 : k < sh.length
    · rw [List.getElem?_append_left hk2] at hk
      have := h.2.2.2.1 k c fs hk r hr
      simp; omega
    · rw [List.getElem?_append_right (by omega)] at hk
      have hk3 : k - sh.length = 0 := by
        cases hz : k - sh.length with
        | zero => rfl
        | succ z => rw [hz] at hk; cases hk
      rw [hk3] at hk
      have he : e = .inr (c, fs) := Option.some.inj hk
      have := hok c fs he _ hr
      omega
section PMADE
variable {M : PM} {d mc ms n0 : Nat} {X : Nat × (Nat → Int32)} {Q : PQ} {pc : Nat} {L : PL} {st : List Value} {kc ks : Nat} {sh : List PSh} {S : PSt}
theorem pr_new {idx cI : Nat} {qc : vw_C} {fs : List Nat} (hi : pLook M.2.2.2.2 pc = some (.new idx, 3)) (hcl : vwCl[cI]? = some qc) (hlink : Cond.classLink M.1.cls idx qc.1 ∈ pGood) (hinst : Cond.instantiable qc.1 qc.2.2 ∈ pGood) (hini : Cond.initialized qc.1 ∈ pGood) (hfs : ∀ j, j < qc.2.2 → defaultValue (pTyp cI j) = vp_V (fs.map pDef) j) (h2 : ∀ f ∈ fs, f ≤ 2)
    (hlen : sh.length + 1 < 1000) (hst : st.all (pNoR sh.length) = true) (hL : L.all (pNoL sh.length) = true) (hm : kc + 1 ≤ mc ∧ ks + qc.2.2 ≤ ms)
    (k : pWP M d mc ms n0 X Q (pc + 3) L (.ref sh.length :: st) (kc + 1) (ks + qc.2.2) (sh ++ [.inr (cI, fs)]) (pSZ S sh.length)) : pWP M d mc ms n0 X Q pc L st kc ks sh S := by
  intro p l e R s m args below meth c D tc ad0 A hT hC hR hK hO hA ad H locs ls hN
  obtain ⟨C, T, N⟩ := qc
  obtain ⟨g1, g2, g3, g4⟩ := pCl hcl
  have hts := hC.2.2.2.2.2.2.2
  refine va_new (D := D) (ci := cI) (fs := fs.map pDef) (C := C) (T := T) (N := N) hC.1 hC.2.1 hts g1 (pTyp cI) g2 hC.2.2.2.2.1 (hts _ hlink) (hts _ hinst) (hts _ hini) hK.1 hN.hP hN.hD hN.hS hA hcl hfs (Nat.le_trans hm.1 hR.2.2.1) (Nat.le_trans hm.2 hR.2.2.2) (pLook_ok hT hi) (fun q H1 hP hD hS => ?_)
  have hel : pEl tc (pAdd ad sh.length q) (pSZ S sh.length) sh.length (.inr (cI, fs)) = .inr (cI, fs.map pDef) := by
    show Sum.inr (cI, fs.mapIdx fun j f => pTr (pAdd ad sh.length q) (pFv (pSZ S sh.length) sh.length j f)) = Sum.inr (cI, fs.map pDef)
    have : (fs.mapIdx fun j f => pTr (pAdd ad sh.length q) (pFv (pSZ S sh.length) sh.length j f)) = fs.map pDef := by
      apply List.ext_getElem?
      intro i
      rw [List.getElem?_mapIdx, List.getElem?_map]
      cases hf : fs[i]? with
      | none => rfl
      | some f => exact congrArg some (pDef_eq (h2 f (List.mem_of_getElem? hf)))
    rw [this]
  have kk := k p l e R s m args below meth c D tc ad0 A hT hC hR hK hO hA (pAdd ad sh.length q) H1 locs ls (hN.grow hlen hL hel (fun c9 fs9 he => by cases he; exact h2) hP hD hS)
  rw [List.map_cons, pTr_adds hst] at kk
  have e1 : pTr (pAdd ad sh.length q) (.ref sh.length) = .ref q := by simp [pTr, pAdd]
  rw [e1] at kk
  exact kk
theorem pr_objInit {idx a : Nat} (hi : pLook M.2.2.2.2 pc = some (.invokespecial idx, 3)) (h1 : Cond.methodLink M.1.cls idx Lib.objectInit ∈ pGood) (h2 : Cond.instanceMethod Lib.objectInit ∈ pGood) (h3 : Cond.code Lib.objectInit ⟨#[0xb1]⟩ 1 none ∈ pGood) (hd : 1 ≤ d) (hcat : (st.map fun v => v.category).sum ≤ 8)
    (k : pWP M d mc ms n0 X Q (pc + 3) L st kc ks sh S) : pWP M d mc ms n0 X Q pc L (.ref a :: st) kc ks sh S := by
  intro p l e R s m args below meth c D tc ad0 A hT hC hR hK hO hA ad H locs ls hN
  have hts := hC.2.2.2.2.2.2.2
  have hr := hR.1
  have hr2 := hR.2.1
  refine W.objInit hC.1 hC.2.1 hC.2.2.2.2.1 (hts _ h1) (hts _ h2) (hts _ h3) rfl (hN.ls.1.trans hC.2.2.1.symm) rfl (pLook_ok hT hi) (by omega) (by have := lv_room (m := m) (pc := pc) (ls := ls) (rest := List.map (pTr ad) (Value.ref a :: st)) (pCat (ad := ad) hcat); omega) ?_
  exact k p l e R s m args below meth c D tc ad0 A hT hC hR hK hO hA ad H locs ls hN
theorem pr_max {idx : Nat} {x y : Int32} (hi : pLook M.2.2.2.2 pc = some (.invokestatic idx, 3)) (h1 : Cond.methodLink M.1.cls idx Lib.Math.max.name ∈ pGood) (h2 : Cond.static Lib.Math.max.name ∈ pGood) (h3 : Cond.initialized "java/lang/Math" ∈ pGood) (h4 : Cond.code Lib.Math.max.name Lib.Math.max.code 2 (some .int) ∈ pGood) (hd : 1 ≤ d) (hm : kc ≤ mc ∧ ks ≤ ms) (hcat : (st.map fun v => v.category).sum ≤ 8)
    (k : pWP M d mc ms n0 X Q (pc + 3) L (.int (if x < y then y else x) :: st) kc ks sh S) : pWP M d mc ms n0 X Q pc L (.int y :: .int x :: st) kc ks sh S := by
  intro p l e R s m args below meth c D tc ad0 A hT hC hR hK hO hA ad H locs ls hN
  have hts := hC.2.2.2.2.2.2.2
  have hr := hR.1
  have hr2 := hR.2.1
  have hc9 := pCat (ad := ad) hcat
  exact va_mmax hC.1 hC.2.1 (hC.2.2.1.trans hN.ls.1.symm) hC.2.2.2.2.1 (hts _ h1) (hts _ h2) (hts _ h3) (hts _ h4) (by omega) (by omega) (Nat.le_trans hm.1 hR.2.2.1) (Nat.le_trans hm.2 hR.2.2.2) (pLook_ok hT hi) (k p l e R s m args below meth c D tc ad0 A hT hC hR hK hO hA ad H locs ls hN)
theorem pr_min {idx : Nat} {x y : Int32} (hi : pLook M.2.2.2.2 pc = some (.invokestatic idx, 3)) (h1 : Cond.methodLink M.1.cls idx Lib.Math.min.name ∈ pGood) (h2 : Cond.static Lib.Math.min.name ∈ pGood) (h3 : Cond.initialized "java/lang/Math" ∈ pGood) (h4 : Cond.code Lib.Math.min.name Lib.Math.min.code 2 (some .int) ∈ pGood) (hd : 1 ≤ d) (hm : kc ≤ mc ∧ ks ≤ ms) (hcat : (st.map fun v => v.category).sum ≤ 8)
    (k : pWP M d mc ms n0 X Q (pc + 3) L (.int (if y < x then y else x) :: st) kc ks sh S) : pWP M d mc ms n0 X Q pc L (.int y :: .int x :: st) kc ks sh S := by
  intro p l e R s m args below meth c D tc ad0 A hT hC hR hK hO hA ad H locs ls hN
  have hts := hC.2.2.2.2.2.2.2
  have hr := hR.1
  have hr2 := hR.2.1
  have hc9 := pCat (ad := ad) hcat
  exact va_mmin hC.1 hC.2.1 (hC.2.2.1.trans hN.ls.1.symm) hC.2.2.2.2.1 (hts _ h1) (hts _ h2) (hts _ h3) (hts _ h4) (by omega) (by omega) (Nat.le_trans hm.1 hR.2.2.1) (Nat.le_trans hm.2 hR.2.2.2) (pLook_ok hT hi) (k p l e R s m args below meth c D tc ad0 A hT hC hR hK hO hA ad H locs ls hN)
theorem pr_rawF {idx : Nat} {x : UInt32} (hi : pLook M.2.2.2.2 pc = some (.invokestatic idx, 3)) (h1 : Cond.methodLink M.1.cls idx ⟨"java/lang/Float", "floatToRawIntBits", "(F)I"⟩ ∈ pGood) (h2 : Cond.native ⟨"java/lang/Float", "floatToRawIntBits", "(F)I"⟩ ∈ pGood) (h3 : Cond.static ⟨"java/lang/Float", "floatToRawIntBits", "(F)I"⟩ ∈ pGood) (h4 : Cond.initialized "java/lang/Float" ∈ pGood) (hd : 1 ≤ d) (hcat : (st.map fun v => v.category).sum ≤ 8)
    (k : pWP M d mc ms n0 X Q (pc + 3) L (.int x.toInt32 :: st) kc ks sh S) : pWP M d mc ms n0 X Q pc L (.float x :: st) kc ks sh S := by
  intro p l e R s m args below meth c D tc ad0 A hT hC hR hK hO hA ad H locs ls hN
  have hts := hC.2.2.2.2.2.2.2
  have hr := hR.1
  have hr2 := hR.2.1
  have hc9 := pCat (ad := ad) hcat
  exact vn_f2i hC.1 hC.2.1 (hC.2.2.1.trans hN.ls.1.symm) hC.2.2.2.2.1 (hts _ h1) (hts _ h2) (hts _ h3) (hts _ h4) (by omega) (by omega) (pLook_ok hT hi) (k p l e R s m args below meth c D tc ad0 A hT hC hR hK hO hA ad H locs ls hN)
theorem pr_rawD {idx : Nat} {x : UInt64} (hi : pLook M.2.2.2.2 pc = some (.invokestatic idx, 3)) (h1 : Cond.methodLink M.1.cls idx ⟨"java/lang/Double", "doubleToRawLongBits", "(D)J"⟩ ∈ pGood) (h2 : Cond.native ⟨"java/lang/Double", "doubleToRawLongBits", "(D)J"⟩ ∈ pGood) (h3 : Cond.static ⟨"java/lang/Double", "doubleToRawLongBits", "(D)J"⟩ ∈ pGood) (h4 : Cond.initialized "java/lang/Double" ∈ pGood) (hd : 1 ≤ d) (hcat : (st.map fun v => v.category).sum ≤ 8)
    (k : pWP M d mc ms n0 X Q (pc + 3) L (.long x.toInt64 :: st) kc ks sh S) : pWP M d mc ms n0 X Q pc L (.double x :: st) kc ks sh S := by
  intro p l e R s m args below meth c D tc ad0 A hT hC hR hK hO hA ad H locs ls hN
  have hts := hC.2.2.2.2.2.2.2
  have hr := hR.1
  have hr2 := hR.2.1
  have hc9 := pCat (ad := ad) hcat
  exact vn_d2l hC.1 hC.2.1 (hC.2.2.1.trans hN.ls.1.symm) hC.2.2.2.2.1 (hts _ h1) (hts _ h2) (hts _ h3) (hts _ h4) (by omega) (by omega) (pLook_ok hT hi) (k p l e R s m args below meth c D tc ad0 A hT hC hR hK hO hA ad H locs ls hN)
theorem pr_newa0 {x : Int32} {n : Nat} (hi : pLook M.2.2.2.2 pc = some (.newarray .int, 2)) (hac : Cond.arrayClass .int ∈ pGood) (hx : ¬ x < 0) (hn : x.toNatClampNeg = n) (hb : n * 8 ≤ 536870912) (hlen : sh.length + 1 < 1000) (hst : st.all (pNoR sh.length) = true) (hL : L.all (pNoL sh.length) = true) (hm : kc + 1 ≤ mc ∧ ks + n ≤ ms)
    (k : pWP M d mc ms n0 X Q (pc + 2) L (.ref sh.length :: st) (kc + 1) (ks + n) (sh ++ [.inl (0, n)]) (pSZ S sh.length)) : pWP M d mc ms n0 X Q pc L (.int x :: st) kc ks sh S := by
  intro p l e R s m args below meth c D tc ad0 A hT hC hR hK hO hA ad H locs ls hN
  have hts := hC.2.2.2.2.2.2.2
  refine va_newa (atype := .int) (ty := .int) (D := D) (tys := pTys tc) (N' := n) (a0 := (n, .inl (fun _ => 0))) hC.1 hC.2.1 (hts _ hac) rfl hK.1 hN.hP hN.hD hN.hS hA (fun cA => rfl) hx hn (Nat.le_trans (Nat.mul_le_mul_left n (by decide)) hb) (Nat.le_trans hm.1 hR.2.2.1) (Nat.le_trans hm.2 hR.2.2.2) (pLook_ok hT hi) (fun q cA H1 hK2 hP hD hS => ?_)
  have a1 : va_RA s cA .int := (hK2.2 5 (cA, .int) rfl).2
  have a2 : va_RA s (tc 0) .int := (hK.1.2 0 (tc 0, .int) rfl).2
  have ec : cA = tc 0 := Option.some.inj ((show s.vm.findClass _ = some cA from a1).symm.trans (show s.vm.findClass _ = some (tc 0) from a2))
  subst ec
  have hel : pEl tc (pAdd ad sh.length q) (pSZ S sh.length) sh.length (.inl (0, n)) = .inl (tc 0, n, .inl (fun _ => 0)) := by
    show Sum.inl (tc 0, n, pArr (pSZ S sh.length) sh.length 0) = Sum.inl (tc 0, n, _)
    have : pArr (pSZ S sh.length) sh.length 0 = .inl (fun _ => 0) := by simp [pArr, pSZ]
    rw [this]
  have kk := k p l e R s m args below meth c D tc ad0 A hT hC hR hK hO hA (pAdd ad sh.length q) H1 locs ls (hN.grow hlen hL hel (fun c9 fs9 he => by cases he) hP hD hS)
  rw [List.map_cons, pTr_adds hst] at kk
  have e1 : pTr (pAdd ad sh.length q) (.ref sh.length) = .ref q := by simp [pTr, pAdd]
  rw [e1] at kk
  exact kk
theorem pr_newa1 {x : Int32} {n : Nat} (hi : pLook M.2.2.2.2 pc = some (.newarray .float, 2)) (hac : Cond.arrayClass .float ∈ pGood) (hx : ¬ x < 0) (hn : x.toNatClampNeg = n) (hb : n * 8 ≤ 536870912) (hlen : sh.length + 1 < 1000) (hst : st.all (pNoR sh.length) = true) (hL : L.all (pNoL sh.length) = true) (hm : kc + 1 ≤ mc ∧ ks + n ≤ ms)
    (k : pWP M d mc ms n0 X Q (pc + 2) L (.ref sh.length :: st) (kc + 1) (ks + n) (sh ++ [.inl (1, n)]) (pSZ S sh.length)) : pWP M d mc ms n0 X Q pc L (.int x :: st) kc ks sh S := by
  intro p l e R s m args below meth c D tc ad0 A hT hC hR hK hO hA ad H locs ls hN
  have hts := hC.2.2.2.2.2.2.2
  refine va_newa (atype := .float) (ty := .float) (D := D) (tys := pTys tc) (N' := n) (a0 := (n, .inr (.inr (.inl (fun _ => 0))))) hC.1 hC.2.1 (hts _ hac) rfl hK.1 hN.hP hN.hD hN.hS hA (fun cA => rfl) hx hn (Nat.le_trans (Nat.mul_le_mul_left n (by decide)) hb) (Nat.le_trans hm.1 hR.2.2.1) (Nat.le_trans hm.2 hR.2.2.2) (pLook_ok hT hi) (fun q cA H1 hK2 hP hD hS => ?_)
  have a1 : va_RA s cA .float := (hK2.2 5 (cA, .float) rfl).2
  have a2 : va_RA s (tc 1) .float := (hK.1.2 1 (tc 1, .float) rfl).2
  have ec : cA = tc 1 := Option.some.inj ((show s.vm.findClass _ = some cA from a1).symm.trans (show s.vm.findClass _ = some (tc 1) from a2))
  subst ec
  have hel : pEl tc (pAdd ad sh.length q) (pSZ S sh.length) sh.length (.inl (1, n)) = .inl (tc 1, n, .inr (.inr (.inl (fun _ => 0)))) := by
    show Sum.inl (tc 1, n, pArr (pSZ S sh.length) sh.length 1) = Sum.inl (tc 1, n, _)
    have : pArr (pSZ S sh.length) sh.length 1 = .inr (.inr (.inl (fun _ => 0))) := by simp [pArr, pSZ]
    rw [this]
  have kk := k p l e R s m args below meth c D tc ad0 A hT hC hR hK hO hA (pAdd ad sh.length q) H1 locs ls (hN.grow hlen hL hel (fun c9 fs9 he => by cases he) hP hD hS)
  rw [List.map_cons, pTr_adds hst] at kk
  have e1 : pTr (pAdd ad sh.length q) (.ref sh.length) = .ref q := by simp [pTr, pAdd]
  rw [e1] at kk
  exact kk
theorem pr_newa2 {x : Int32} {n : Nat} (hi : pLook M.2.2.2.2 pc = some (.newarray .boolean, 2)) (hac : Cond.arrayClass .boolean ∈ pGood) (hx : ¬ x < 0) (hn : x.toNatClampNeg = n) (hb : n * 8 ≤ 536870912) (hlen : sh.length + 1 < 1000) (hst : st.all (pNoR sh.length) = true) (hL : L.all (pNoL sh.length) = true) (hm : kc + 1 ≤ mc ∧ ks + n ≤ ms)
    (k : pWP M d mc ms n0 X Q (pc + 2) L (.ref sh.length :: st) (kc + 1) (ks + n) (sh ++ [.inl (2, n)]) (pSZ S sh.length)) : pWP M d mc ms n0 X Q pc L (.int x :: st) kc ks sh S := by
  intro p l e R s m args below meth c D tc ad0 A hT hC hR hK hO hA ad H locs ls hN
  have hts := hC.2.2.2.2.2.2.2
  refine va_newa (atype := .boolean) (ty := .boolean) (D := D) (tys := pTys tc) (N' := n) (a0 := (n, .inl (fun _ => 0))) hC.1 hC.2.1 (hts _ hac) rfl hK.1 hN.hP hN.hD hN.hS hA (fun cA => rfl) hx hn (Nat.le_trans (Nat.mul_le_mul_left n (by decide)) hb) (Nat.le_trans hm.1 hR.2.2.1) (Nat.le_trans hm.2 hR.2.2.2) (pLook_ok hT hi) (fun q cA H1 hK2 hP hD hS => ?_)
  have a1 : va_RA s cA .boolean := (hK2.2 5 (cA, .boolean) rfl).2
  have a2 : va_RA s (tc 2) .boolean := (hK.1.2 2 (tc 2, .boolean) rfl).2
  have ec : cA = tc 2 := Option.some.inj ((show s.vm.findClass _ = some cA from a1).symm.trans (show s.vm.findClass _ = some (tc 2) from a2))
  subst ec
  have hel : pEl tc (pAdd ad sh.length q) (pSZ S sh.length) sh.length (.inl (2, n)) = .inl (tc 2, n, .inl (fun _ => 0)) := by
    show Sum.inl (tc 2, n, pArr (pSZ S sh.length) sh.length 2) = Sum.inl (tc 2, n, _)
    have : pArr (pSZ S sh.length) sh.length 2 = .inl (fun _ => 0) := by simp [pArr, pSZ]
    rw [this]
  have kk := k p l e R s m args below meth c D tc ad0 A hT hC hR hK hO hA (pAdd ad sh.length q) H1 locs ls (hN.grow hlen hL hel (fun c9 fs9 he => by cases he) hP hD hS)
  rw [List.map_cons, pTr_adds hst] at kk
  have e1 : pTr (pAdd ad sh.length q) (.ref sh.length) = .ref q := by simp [pTr, pAdd]
  rw [e1] at kk
  exact kk
theorem pr_newa3 {x : Int32} {n : Nat} (hi : pLook M.2.2.2.2 pc = some (.newarray .long, 2)) (hac : Cond.arrayClass .long ∈ pGood) (hx : ¬ x < 0) (hn : x.toNatClampNeg = n) (hb : n * 8 ≤ 536870912) (hlen : sh.length + 1 < 1000) (hst : st.all (pNoR sh.length) = true) (hL : L.all (pNoL sh.length) = true) (hm : kc + 1 ≤ mc ∧ ks + n ≤ ms)
    (k : pWP M d mc ms n0 X Q (pc + 2) L (.ref sh.length :: st) (kc + 1) (ks + n) (sh ++ [.inl (3, n)]) (pSZ S sh.length)) : pWP M d mc ms n0 X Q pc L (.int x :: st) kc ks sh S := by
  intro p l e R s m args below meth c D tc ad0 A hT hC hR hK hO hA ad H locs ls hN
  have hts := hC.2.2.2.2.2.2.2
  refine va_newa (atype := .long) (ty := .long) (D := D) (tys := pTys tc) (N' := n) (a0 := (n, .inr (.inl (fun _ => 0)))) hC.1 hC.2.1 (hts _ hac) rfl hK.1 hN.hP hN.hD hN.hS hA (fun cA => rfl) hx hn (Nat.le_trans (Nat.mul_le_mul_left n (by decide)) hb) (Nat.le_trans hm.1 hR.2.2.1) (Nat.le_trans hm.2 hR.2.2.2) (pLook_ok hT hi) (fun q cA H1 hK2 hP hD hS => ?_)
  have a1 : va_RA s cA .long := (hK2.2 5 (cA, .long) rfl).2
  have a2 : va_RA s (tc 3) .long := (hK.1.2 3 (tc 3, .long) rfl).2
  have ec : cA = tc 3 := Option.some.inj ((show s.vm.findClass _ = some cA from a1).symm.trans (show s.vm.findClass _ = some (tc 3) from a2))
  subst ec
  have hel : pEl tc (pAdd ad sh.length q) (pSZ S sh.length) sh.length (.inl (3, n)) = .inl (tc 3, n, .inr (.inl (fun _ => 0))) := by
    show Sum.inl (tc 3, n, pArr (pSZ S sh.length) sh.length 3) = Sum.inl (tc 3, n, _)
    have : pArr (pSZ S sh.length) sh.length 3 = .inr (.inl (fun _ => 0)) := by simp [pArr, pSZ]
    rw [this]
  have kk := k p l e R s m args below meth c D tc ad0 A hT hC hR hK hO hA (pAdd ad sh.length q) H1 locs ls (hN.grow hlen hL hel (fun c9 fs9 he => by cases he) hP hD hS)
  rw [List.map_cons, pTr_adds hst] at kk
  have e1 : pTr (pAdd ad sh.length q) (.ref sh.length) = .ref q := by simp [pTr, pAdd]
  rw [e1] at kk
  exact kk
theorem pr_newa4 {x : Int32} {n : Nat} (hi : pLook M.2.2.2.2 pc = some (.newarray .double, 2)) (hac : Cond.arrayClass .double ∈ pGood) (hx : ¬ x < 0) (hn : x.toNatClampNeg = n) (hb : n * 8 ≤ 536870912) (hlen : sh.length + 1 < 1000) (hst : st.all (pNoR sh.length) = true) (hL : L.all (pNoL sh.length) = true) (hm : kc + 1 ≤ mc ∧ ks + n ≤ ms)
    (k : pWP M d mc ms n0 X Q (pc + 2) L (.ref sh.length :: st) (kc + 1) (ks + n) (sh ++ [.inl (4, n)]) (pSZ S sh.length)) : pWP M d mc ms n0 X Q pc L (.int x :: st) kc ks sh S := by
  intro p l e R s m args below meth c D tc ad0 A hT hC hR hK hO hA ad H locs ls hN
  have hts := hC.2.2.2.2.2.2.2
  refine va_newa (atype := .double) (ty := .double) (D := D) (tys := pTys tc) (N' := n) (a0 := (n, .inr (.inr (.inr (.inl (fun _ => 0)))))) hC.1 hC.2.1 (hts _ hac) rfl hK.1 hN.hP hN.hD hN.hS hA (fun cA => rfl) hx hn (Nat.le_trans (Nat.mul_le_mul_left n (by decide)) hb) (Nat.le_trans hm.1 hR.2.2.1) (Nat.le_trans hm.2 hR.2.2.2) (pLook_ok hT hi) (fun q cA H1 hK2 hP hD hS => ?_)
  have a1 : va_RA s cA .double := (hK2.2 5 (cA, .double) rfl).2
  have a2 : va_RA s (tc 4) .double := (hK.1.2 4 (tc 4, .double) rfl).2
  have ec : cA = tc 4 := Option.some.inj ((show s.vm.findClass _ = some cA from a1).symm.trans (show s.vm.findClass _ = some (tc 4) from a2))
  subst ec
  have hel : pEl tc (pAdd ad sh.length q) (pSZ S sh.length) sh.length (.inl (4, n)) = .inl (tc 4, n, .inr (.inr (.inr (.inl (fun _ => 0))))) := by
    show Sum.inl (tc 4, n, pArr (pSZ S sh.length) sh.length 4) = Sum.inl (tc 4, n, _)
    have : pArr (pSZ S sh.length) sh.length 4 = .inr (.inr (.inr (.inl (fun _ => 0)))) := by simp [pArr, pSZ]
    rw [this]
  have kk := k p l e R s m args below meth c D tc ad0 A hT hC hR hK hO hA (pAdd ad sh.length q) H1 locs ls (hN.grow hlen hL hel (fun c9 fs9 he => by cases he) hP hD hS)
  rw [List.map_cons, pTr_adds hst] at kk
  have e1 : pTr (pAdd ad sh.length q) (.ref sh.length) = .ref q := by simp [pTr, pAdd]
  rw [e1] at kk
  exact kk
end PMADE
end
section
/-! sites: written by wip/whole/gen/sites.py; a word by its place in lw_tbl -/
theorem se_X8_refuse : Cond.selects RX8 yX8_refuse yX8_refuse ∈ pGood := pGood_in 0 (by decide +kernel) (by decide +kernel)
theorem se_X8_isColumn : Cond.selects RX8 yX8_isColumn yX8_isColumn ∈ pGood := pGood_in 1 (by decide +kernel) (by decide +kernel)
theorem se_X8_isStretch : Cond.selects RX8 yX8_isStretch yX8_isStretch ∈ pGood := pGood_in 2 (by decide +kernel) (by decide +kernel)
theorem se_X6_balance : Cond.selects RX6 yX6_balance yX6_balance ∈ pGood := pGood_in 3 (by decide +kernel) (by decide +kernel)
theorem se_X6_holdMore : Cond.selects RX6 yX6_holdMore yX6_holdMore ∈ pGood := pGood_in 4 (by decide +kernel) (by decide +kernel)
theorem se_X6_stretched : Cond.selects RX6 yX6_stretched yX6_stretched ∈ pGood := pGood_in 5 (by decide +kernel) (by decide +kernel)
theorem se_X6_sum : Cond.selects RX6 yX6_sum yX6_sum ∈ pGood := pGood_in 6 (by decide +kernel) (by decide +kernel)
theorem se_X8_traceLine : Cond.selects RX8 yX8_traceLine yX8_traceLine ∈ pGood := pGood_in 7 (by decide +kernel) (by decide +kernel)
theorem se_X5_ink : Cond.selects RX5 yX5_ink yX5_ink ∈ pGood := pGood_in 8 (by decide +kernel) (by decide +kernel)
theorem se_X8_distance : Cond.selects RX8 yX8_distance yX8_distance ∈ pGood := pGood_in 9 (by decide +kernel) (by decide +kernel)
theorem se_X8_findBest : Cond.selects RX8 yX8_findBest yX8_findBest ∈ pGood := pGood_in 10 (by decide +kernel) (by decide +kernel)
theorem se_X0_reach : Cond.selects RX0 yX0_reach yX0_reach ∈ pGood := pGood_in 11 (by decide +kernel) (by decide +kernel)
theorem se_X0_traceBack : Cond.selects RX0 yX0_traceBack yX0_traceBack ∈ pGood := pGood_in 12 (by decide +kernel) (by decide +kernel)
theorem se_X8_standsOtherwise : Cond.selects RX8 yX8_standsOtherwise yX8_standsOtherwise ∈ pGood := pGood_in 13 (by decide +kernel) (by decide +kernel)
theorem se_X8_areNotes : Cond.selects RX8 yX8_areNotes yX8_areNotes ∈ pGood := pGood_in 14 (by decide +kernel) (by decide +kernel)
theorem se_X8_beamRise : Cond.selects RX8 yX8_beamRise yX8_beamRise ∈ pGood := pGood_in 15 (by decide +kernel) (by decide +kernel)
theorem se_X8_beamSlope : Cond.selects RX8 yX8_beamSlope yX8_beamSlope ∈ pGood := pGood_in 16 (by decide +kernel) (by decide +kernel)
theorem se_X8_beamGoesUp : Cond.selects RX8 yX8_beamGoesUp yX8_beamGoesUp ∈ pGood := pGood_in 17 (by decide +kernel) (by decide +kernel)
theorem se_X8_beamLift : Cond.selects RX8 yX8_beamLift yX8_beamLift ∈ pGood := pGood_in 18 (by decide +kernel) (by decide +kernel)
theorem se_X8_slurHeight : Cond.selects RX8 yX8_slurHeight yX8_slurHeight ∈ pGood := pGood_in 19 (by decide +kernel) (by decide +kernel)
theorem se_X8_inkTowards : Cond.selects RX8 yX8_inkTowards yX8_inkTowards ∈ pGood := pGood_in 20 (by decide +kernel) (by decide +kernel)
theorem se_X7_readSign : Cond.selects RX7 yX7_readSign yX7_readSign ∈ pGood := pGood_in 21 (by decide +kernel) (by decide +kernel)
theorem se_X7_isNext : Cond.selects RX7 yX7_isNext yX7_isNext ∈ pGood := pGood_in 22 (by decide +kernel) (by decide +kernel)
theorem se_X7_readNumber : Cond.selects RX7 yX7_readNumber yX7_readNumber ∈ pGood := pGood_in 23 (by decide +kernel) (by decide +kernel)
theorem se_X7_digit : Cond.selects RX7 yX7_digit yX7_digit ∈ pGood := pGood_in 24 (by decide +kernel) (by decide +kernel)
theorem se_X7_readAdorn : Cond.selects RX7 yX7_readAdorn yX7_readAdorn ∈ pGood := pGood_in 25 (by decide +kernel) (by decide +kernel)
theorem se_X7_keep : Cond.selects RX7 yX7_keep yX7_keep ∈ pGood := pGood_in 26 (by decide +kernel) (by decide +kernel)
theorem se_X3_change : Cond.selects RX3 yX3_change yX3_change ∈ pGood := pGood_in 27 (by decide +kernel) (by decide +kernel)
theorem se_X8_refuseLong : Cond.selects RX8 yX8_refuseLong yX8_refuseLong ∈ pGood := pGood_in 28 (by decide +kernel) (by decide +kernel)
theorem se_X8_countNotes : Cond.selects RX8 yX8_countNotes yX8_countNotes ∈ pGood := pGood_in 29 (by decide +kernel) (by decide +kernel)
theorem se_X8_sumDurations : Cond.selects RX8 yX8_sumDurations yX8_sumDurations ∈ pGood := pGood_in 30 (by decide +kernel) (by decide +kernel)
theorem se_X9_errs : Cond.selects RX9 yX9_errs yX9_errs ∈ pGood := pGood_in 31 (by decide +kernel) (by decide +kernel)
theorem se_X9_comes : Cond.selects RX9 yX9_comes yX9_comes ∈ pGood := pGood_in 32 (by decide +kernel) (by decide +kernel)
theorem se_X9_sets : Cond.selects RX9 yX9_sets yX9_sets ∈ pGood := pGood_in 33 (by decide +kernel) (by decide +kernel)
theorem se_X9_isColumn : Cond.selects RX9 yX9_isColumn yX9_isColumn ∈ pGood := pGood_in 34 (by decide +kernel) (by decide +kernel)
theorem se_X9_its : Cond.selects RX9 yX9_its yX9_its ∈ pGood := pGood_in 35 (by decide +kernel) (by decide +kernel)
theorem se_X9_top : Cond.selects RX9 yX9_top yX9_top ∈ pGood := pGood_in 36 (by decide +kernel) (by decide +kernel)
theorem se_X9_bottom : Cond.selects RX9 yX9_bottom yX9_bottom ∈ pGood := pGood_in 37 (by decide +kernel) (by decide +kernel)
theorem se_X9_ideal : Cond.selects RX9 yX9_ideal yX9_ideal ∈ pGood := pGood_in 38 (by decide +kernel) (by decide +kernel)
theorem se_X9_flex : Cond.selects RX9 yX9_flex yX9_flex ∈ pGood := pGood_in 39 (by decide +kernel) (by decide +kernel)
theorem se_X9_rod : Cond.selects RX9 yX9_rod yX9_rod ∈ pGood := pGood_in 40 (by decide +kernel) (by decide +kernel)
theorem se_X9_isStretch : Cond.selects RX9 yX9_isStretch yX9_isStretch ∈ pGood := pGood_in 41 (by decide +kernel) (by decide +kernel)
theorem se_X9_laysOut : Cond.selects RX9 yX9_laysOut yX9_laysOut ∈ pGood := pGood_in 42 (by decide +kernel) (by decide +kernel)
theorem se_X9_forceOf : Cond.selects RX9 yX9_forceOf yX9_forceOf ∈ pGood := pGood_in 43 (by decide +kernel) (by decide +kernel)
theorem se_X9_wanted : Cond.selects RX9 yX9_wanted yX9_wanted ∈ pGood := pGood_in 44 (by decide +kernel) (by decide +kernel)
theorem se_X9_isGood : Cond.selects RX9 yX9_isGood yX9_isGood ∈ pGood := pGood_in 45 (by decide +kernel) (by decide +kernel)
theorem se_X9_inks : Cond.selects RX9 yX9_inks yX9_inks ∈ pGood := pGood_in 46 (by decide +kernel) (by decide +kernel)
theorem se_X9_apartOf : Cond.selects RX9 yX9_apartOf yX9_apartOf ∈ pGood := pGood_in 47 (by decide +kernel) (by decide +kernel)
theorem se_X9_breaks : Cond.selects RX9 yX9_breaks yX9_breaks ∈ pGood := pGood_in 48 (by decide +kernel) (by decide +kernel)
theorem se_X9_bestTo : Cond.selects RX9 yX9_bestTo yX9_bestTo ∈ pGood := pGood_in 49 (by decide +kernel) (by decide +kernel)
theorem se_X9_isEnd : Cond.selects RX9 yX9_isEnd yX9_isEnd ∈ pGood := pGood_in 50 (by decide +kernel) (by decide +kernel)
theorem se_X9_keepsLines : Cond.selects RX9 yX9_keepsLines yX9_keepsLines ∈ pGood := pGood_in 51 (by decide +kernel) (by decide +kernel)
theorem se_X9_isAsWas : Cond.selects RX9 yX9_isAsWas yX9_isAsWas ∈ pGood := pGood_in 52 (by decide +kernel) (by decide +kernel)
theorem se_X9_areNotes : Cond.selects RX9 yX9_areNotes yX9_areNotes ∈ pGood := pGood_in 53 (by decide +kernel) (by decide +kernel)
theorem se_X9_isUp : Cond.selects RX9 yX9_isUp yX9_isUp ∈ pGood := pGood_in 54 (by decide +kernel) (by decide +kernel)
theorem se_X9_rise : Cond.selects RX9 yX9_rise yX9_rise ∈ pGood := pGood_in 55 (by decide +kernel) (by decide +kernel)
theorem se_X9_slope : Cond.selects RX9 yX9_slope yX9_slope ∈ pGood := pGood_in 56 (by decide +kernel) (by decide +kernel)
theorem se_X9_lift : Cond.selects RX9 yX9_lift yX9_lift ∈ pGood := pGood_in 57 (by decide +kernel) (by decide +kernel)
theorem se_X9_height : Cond.selects RX9 yX9_height yX9_height ∈ pGood := pGood_in 58 (by decide +kernel) (by decide +kernel)
theorem se_X9_ink : Cond.selects RX9 yX9_ink yX9_ink ∈ pGood := pGood_in 59 (by decide +kernel) (by decide +kernel)
theorem se_X9_sign : Cond.selects RX9 yX9_sign yX9_sign ∈ pGood := pGood_in 60 (by decide +kernel) (by decide +kernel)
theorem se_X9_takes : Cond.selects RX9 yX9_takes yX9_takes ∈ pGood := pGood_in 61 (by decide +kernel) (by decide +kernel)
theorem se_X9_number : Cond.selects RX9 yX9_number yX9_number ∈ pGood := pGood_in 62 (by decide +kernel) (by decide +kernel)
theorem se_X9_isDigit : Cond.selects RX9 yX9_isDigit yX9_isDigit ∈ pGood := pGood_in 63 (by decide +kernel) (by decide +kernel)
theorem se_X9_isPlace : Cond.selects RX9 yX9_isPlace yX9_isPlace ∈ pGood := pGood_in 64 (by decide +kernel) (by decide +kernel)
theorem se_X9_isItem : Cond.selects RX9 yX9_isItem yX9_isItem ∈ pGood := pGood_in 65 (by decide +kernel) (by decide +kernel)
theorem se_X9_errsLong : Cond.selects RX9 yX9_errsLong yX9_errsLong ∈ pGood := pGood_in 66 (by decide +kernel) (by decide +kernel)
theorem se_X9_isNought : Cond.selects RX9 yX9_isNought yX9_isNought ∈ pGood := pGood_in 67 (by decide +kernel) (by decide +kernel)
theorem se_X9_notes : Cond.selects RX9 yX9_notes yX9_notes ∈ pGood := pGood_in 68 (by decide +kernel) (by decide +kernel)
theorem se_X9_durations : Cond.selects RX9 yX9_durations yX9_durations ∈ pGood := pGood_in 69 (by decide +kernel) (by decide +kernel)
theorem se_X9_shelved : Cond.selects RX9 yX9_shelved yX9_shelved ∈ pGood := pGood_in 70 (by decide +kernel) (by decide +kernel)
theorem in_L : Cond.initialized RL ∈ pGood := pGood_in 71 (by decide +kernel) (by decide +kernel)
theorem in_X8 : Cond.initialized RX8 ∈ pGood := pGood_in 72 (by decide +kernel) (by decide +kernel)
theorem in_X1 : Cond.initialized RX1 ∈ pGood := pGood_in 73 (by decide +kernel) (by decide +kernel)
theorem in_X4 : Cond.initialized RX4 ∈ pGood := pGood_in 74 (by decide +kernel) (by decide +kernel)
theorem in_X6 : Cond.initialized RX6 ∈ pGood := pGood_in 75 (by decide +kernel) (by decide +kernel)
theorem in_X5 : Cond.initialized RX5 ∈ pGood := pGood_in 76 (by decide +kernel) (by decide +kernel)
theorem in_X0 : Cond.initialized RX0 ∈ pGood := pGood_in 77 (by decide +kernel) (by decide +kernel)
theorem in_X7 : Cond.initialized RX7 ∈ pGood := pGood_in 78 (by decide +kernel) (by decide +kernel)
theorem in_X3 : Cond.initialized RX3 ∈ pGood := pGood_in 79 (by decide +kernel) (by decide +kernel)
theorem in_X9 : Cond.initialized RX9 ∈ pGood := pGood_in 80 (by decide +kernel) (by decide +kernel)
theorem in_X2 : Cond.initialized RX2 ∈ pGood := pGood_in 81 (by decide +kernel) (by decide +kernel)
theorem in_Jxf58ca : Cond.initialized RJxf58ca ∈ pGood := pGood_in 82 (by decide +kernel) (by decide +kernel)
theorem in_J9 : Cond.initialized RJ9 ∈ pGood := pGood_in 83 (by decide +kernel) (by decide +kernel)
theorem in_Jxe99ae : Cond.initialized RJxe99ae ∈ pGood := pGood_in 84 (by decide +kernel) (by decide +kernel)
theorem cl_L_7 : Cond.classLink RL 7 RX8 ∈ pGood := pGood_in 85 (by decide +kernel) (by decide +kernel)
theorem ib_X8 : Cond.instantiable RX8 13 ∈ pGood := pGood_in 86 (by decide +kernel) (by decide +kernel)
theorem im_X8_init : Cond.instanceMethod yX8_init ∈ pGood := pGood_in 88 (by decide +kernel) (by decide +kernel)
def mX8_init : PM := (yX8_init, cX8_init, 1, none, tbX8_init)
theorem co_X8_init : Cond.code mX8_init.1 mX8_init.2.1 mX8_init.2.2.1 mX8_init.2.2.2.1 ∈ pGood := pGood_in 89 (by decide +kernel) (by decide +kernel)
theorem tk_X8_init : pTabOk mX8_init.2.1 mX8_init.2.2.2.2 = true := tbX8_init_ok
theorem ml_X8_1 : Cond.methodLink RX8 1 Lib.objectInit ∈ pGood := pGood_in 90 (by decide +kernel) (by decide +kernel)
theorem im_Obj_init : Cond.instanceMethod Lib.objectInit ∈ pGood := pGood_in 91 (by decide +kernel) (by decide +kernel)
theorem co_Obj_init : Cond.code Lib.objectInit ⟨#[0xb1]⟩ 1 none ∈ pGood := pGood_in 92 (by decide +kernel) (by decide +kernel)
theorem cl_X8_7 : Cond.classLink RX8 7 RX1 ∈ pGood := pGood_in 93 (by decide +kernel) (by decide +kernel)
theorem ib_X1 : Cond.instantiable RX1 6 ∈ pGood := pGood_in 94 (by decide +kernel) (by decide +kernel)
theorem im_X1_init : Cond.instanceMethod yX1_init ∈ pGood := pGood_in 96 (by decide +kernel) (by decide +kernel)
def mX1_init : PM := (yX1_init, cX1_init, 1, none, tbX1_init)
theorem co_X1_init : Cond.code mX1_init.1 mX1_init.2.1 mX1_init.2.2.1 mX1_init.2.2.2.1 ∈ pGood := pGood_in 97 (by decide +kernel) (by decide +kernel)
theorem tk_X1_init : pTabOk mX1_init.2.1 mX1_init.2.2.2.2 = true := tbX1_init_ok
theorem ml_X1_3 : Cond.methodLink RX1 3 Lib.objectInit ∈ pGood := pGood_in 98 (by decide +kernel) (by decide +kernel)
theorem cl_X1_9 : Cond.classLink RX1 9 RX4 ∈ pGood := pGood_in 99 (by decide +kernel) (by decide +kernel)
theorem ib_X4 : Cond.instantiable RX4 1 ∈ pGood := pGood_in 100 (by decide +kernel) (by decide +kernel)
theorem im_X4_init : Cond.instanceMethod yX4_init ∈ pGood := pGood_in 102 (by decide +kernel) (by decide +kernel)
def mX4_init : PM := (yX4_init, cX4_init, 1, none, tbX4_init)
theorem co_X4_init : Cond.code mX4_init.1 mX4_init.2.1 mX4_init.2.2.1 mX4_init.2.2.2.1 ∈ pGood := pGood_in 103 (by decide +kernel) (by decide +kernel)
theorem tk_X4_init : pTabOk mX4_init.2.1 mX4_init.2.2.2.2 = true := tbX4_init_ok
theorem ml_X4_3 : Cond.methodLink RX4 3 Lib.objectInit ∈ pGood := pGood_in 104 (by decide +kernel) (by decide +kernel)
theorem fl_X4_9 : pFL RX4 9 3 0 := ⟨RX4, TX4, 1, rfl, by decide, Or.inl (pGood_in 105 (by decide +kernel) (by decide +kernel))⟩
theorem ff_X4_9 : Cond.fieldLink RX4 9 (TX4 0).1 (TX4 0).2.1 (TX4 0).2.2.1 ∈ pGood := pGood_in 105 (by decide +kernel) (by decide +kernel)
theorem ac_int : Cond.arrayClass .int ∈ pGood := pGood_in 109 (by decide +kernel) (by decide +kernel)
theorem fl_X1_12 : pFL RX1 12 1 0 := ⟨RX1, TX1, 6, rfl, by decide, Or.inl (pGood_in 110 (by decide +kernel) (by decide +kernel))⟩
theorem ff_X1_12 : Cond.fieldLink RX1 12 (TX1 0).1 (TX1 0).2.1 (TX1 0).2.2.1 ∈ pGood := pGood_in 110 (by decide +kernel) (by decide +kernel)
theorem fl_X8_90 : pFL RX8 90 1 0 := ⟨RX1, TX1, 6, rfl, by decide, Or.inr ⟨"EngravedLines", pNest_in 111 (by decide +kernel) (by decide +kernel)⟩⟩
theorem fl_X1_18 : pFL RX1 18 1 1 := ⟨RX1, TX1, 6, rfl, by decide, Or.inl (pGood_in 112 (by decide +kernel) (by decide +kernel))⟩
theorem fl_X8_86 : pFL RX8 86 1 1 := ⟨RX1, TX1, 6, rfl, by decide, Or.inr ⟨"EngravedLines", pNest_in 113 (by decide +kernel) (by decide +kernel)⟩⟩
theorem fl_X1_22 : pFL RX1 22 1 2 := ⟨RX1, TX1, 6, rfl, by decide, Or.inl (pGood_in 114 (by decide +kernel) (by decide +kernel))⟩
theorem fl_X8_134 : pFL RX8 134 1 2 := ⟨RX1, TX1, 6, rfl, by decide, Or.inr ⟨"EngravedLines", pNest_in 115 (by decide +kernel) (by decide +kernel)⟩⟩
theorem fl_X1_25 : pFL RX1 25 1 3 := ⟨RX1, TX1, 6, rfl, by decide, Or.inl (pGood_in 116 (by decide +kernel) (by decide +kernel))⟩
theorem ff_X1_25 : Cond.fieldLink RX1 25 (TX1 3).1 (TX1 3).2.1 (TX1 3).2.2.1 ∈ pGood := pGood_in 116 (by decide +kernel) (by decide +kernel)
theorem fl_X8_266 : pFL RX8 266 1 3 := ⟨RX1, TX1, 6, rfl, by decide, Or.inr ⟨"EngravedLines", pNest_in 117 (by decide +kernel) (by decide +kernel)⟩⟩
theorem fl_X1_28 : pFL RX1 28 1 4 := ⟨RX1, TX1, 6, rfl, by decide, Or.inl (pGood_in 118 (by decide +kernel) (by decide +kernel))⟩
theorem ff_X1_28 : Cond.fieldLink RX1 28 (TX1 4).1 (TX1 4).2.1 (TX1 4).2.2.1 ∈ pGood := pGood_in 118 (by decide +kernel) (by decide +kernel)
theorem fl_X1_32 : pFL RX1 32 1 5 := ⟨RX1, TX1, 6, rfl, by decide, Or.inl (pGood_in 119 (by decide +kernel) (by decide +kernel))⟩
theorem ff_X1_32 : Cond.fieldLink RX1 32 (TX1 5).1 (TX1 5).2.1 (TX1 5).2.2.1 ∈ pGood := pGood_in 119 (by decide +kernel) (by decide +kernel)
theorem cl_X8_23 : Cond.classLink RX8 23 RX6 ∈ pGood := pGood_in 133 (by decide +kernel) (by decide +kernel)
theorem ib_X6 : Cond.instantiable RX6 10 ∈ pGood := pGood_in 134 (by decide +kernel) (by decide +kernel)
theorem im_X6_init : Cond.instanceMethod yX6_init ∈ pGood := pGood_in 136 (by decide +kernel) (by decide +kernel)
def mX6_init : PM := (yX6_init, cX6_init, 1, none, tbX6_init)
theorem co_X6_init : Cond.code mX6_init.1 mX6_init.2.1 mX6_init.2.2.1 mX6_init.2.2.2.1 ∈ pGood := pGood_in 137 (by decide +kernel) (by decide +kernel)
theorem tk_X6_init : pTabOk mX6_init.2.1 mX6_init.2.2.2.2 = true := tbX6_init_ok
theorem ml_X6_3 : Cond.methodLink RX6 3 Lib.objectInit ∈ pGood := pGood_in 138 (by decide +kernel) (by decide +kernel)
theorem fl_X6_9 : pFL RX6 9 5 0 := ⟨RX6, TX6, 10, rfl, by decide, Or.inl (pGood_in 139 (by decide +kernel) (by decide +kernel))⟩
theorem ff_X6_9 : Cond.fieldLink RX6 9 (TX6 0).1 (TX6 0).2.1 (TX6 0).2.2.1 ∈ pGood := pGood_in 139 (by decide +kernel) (by decide +kernel)
theorem fl_X6_15 : pFL RX6 15 5 1 := ⟨RX6, TX6, 10, rfl, by decide, Or.inl (pGood_in 140 (by decide +kernel) (by decide +kernel))⟩
theorem ff_X6_15 : Cond.fieldLink RX6 15 (TX6 1).1 (TX6 1).2.1 (TX6 1).2.2.1 ∈ pGood := pGood_in 140 (by decide +kernel) (by decide +kernel)
theorem fl_X6_18 : pFL RX6 18 5 2 := ⟨RX6, TX6, 10, rfl, by decide, Or.inl (pGood_in 141 (by decide +kernel) (by decide +kernel))⟩
theorem ff_X6_18 : Cond.fieldLink RX6 18 (TX6 2).1 (TX6 2).2.1 (TX6 2).2.2.1 ∈ pGood := pGood_in 141 (by decide +kernel) (by decide +kernel)
theorem fl_X6_21 : pFL RX6 21 5 3 := ⟨RX6, TX6, 10, rfl, by decide, Or.inl (pGood_in 142 (by decide +kernel) (by decide +kernel))⟩
theorem ff_X6_21 : Cond.fieldLink RX6 21 (TX6 3).1 (TX6 3).2.1 (TX6 3).2.2.1 ∈ pGood := pGood_in 142 (by decide +kernel) (by decide +kernel)
theorem fl_X6_25 : pFL RX6 25 5 4 := ⟨RX6, TX6, 10, rfl, by decide, Or.inl (pGood_in 143 (by decide +kernel) (by decide +kernel))⟩
theorem ff_X6_25 : Cond.fieldLink RX6 25 (TX6 4).1 (TX6 4).2.1 (TX6 4).2.2.1 ∈ pGood := pGood_in 143 (by decide +kernel) (by decide +kernel)
theorem fl_X6_28 : pFL RX6 28 5 5 := ⟨RX6, TX6, 10, rfl, by decide, Or.inl (pGood_in 144 (by decide +kernel) (by decide +kernel))⟩
theorem ff_X6_28 : Cond.fieldLink RX6 28 (TX6 5).1 (TX6 5).2.1 (TX6 5).2.2.1 ∈ pGood := pGood_in 144 (by decide +kernel) (by decide +kernel)
theorem fl_X6_31 : pFL RX6 31 5 6 := ⟨RX6, TX6, 10, rfl, by decide, Or.inl (pGood_in 145 (by decide +kernel) (by decide +kernel))⟩
theorem fl_X5_32 : pFL RX5 32 5 6 := ⟨RX6, TX6, 10, rfl, by decide, Or.inr ⟨"EngravedLines", pNest_in 146 (by decide +kernel) (by decide +kernel)⟩⟩
theorem fl_X6_35 : pFL RX6 35 5 7 := ⟨RX6, TX6, 10, rfl, by decide, Or.inl (pGood_in 147 (by decide +kernel) (by decide +kernel))⟩
theorem fl_X5_26 : pFL RX5 26 5 7 := ⟨RX6, TX6, 10, rfl, by decide, Or.inr ⟨"EngravedLines", pNest_in 148 (by decide +kernel) (by decide +kernel)⟩⟩
theorem fl_X6_38 : pFL RX6 38 5 8 := ⟨RX6, TX6, 10, rfl, by decide, Or.inl (pGood_in 149 (by decide +kernel) (by decide +kernel))⟩
theorem fl_X6_42 : pFL RX6 42 5 9 := ⟨RX6, TX6, 10, rfl, by decide, Or.inl (pGood_in 150 (by decide +kernel) (by decide +kernel))⟩
theorem fl_X8_144 : pFL RX8 144 5 9 := ⟨RX6, TX6, 10, rfl, by decide, Or.inr ⟨"EngravedLines", pNest_in 151 (by decide +kernel) (by decide +kernel)⟩⟩
theorem ac_float : Cond.arrayClass .float ∈ pGood := pGood_in 173 (by decide +kernel) (by decide +kernel)
theorem ac_boolean : Cond.arrayClass .boolean ∈ pGood := pGood_in 174 (by decide +kernel) (by decide +kernel)
theorem cl_X8_33 : Cond.classLink RX8 33 RX5 ∈ pGood := pGood_in 175 (by decide +kernel) (by decide +kernel)
theorem ib_X5 : Cond.instantiable RX5 3 ∈ pGood := pGood_in 176 (by decide +kernel) (by decide +kernel)
theorem im_X5_init : Cond.instanceMethod yX5_init ∈ pGood := pGood_in 178 (by decide +kernel) (by decide +kernel)
def mX5_init : PM := (yX5_init, cX5_init, 1, none, tbX5_init)
theorem co_X5_init : Cond.code mX5_init.1 mX5_init.2.1 mX5_init.2.2.1 mX5_init.2.2.2.1 ∈ pGood := pGood_in 179 (by decide +kernel) (by decide +kernel)
theorem tk_X5_init : pTabOk mX5_init.2.1 mX5_init.2.2.2.2 = true := tbX5_init_ok
theorem ml_X5_3 : Cond.methodLink RX5 3 Lib.objectInit ∈ pGood := pGood_in 180 (by decide +kernel) (by decide +kernel)
theorem fl_X5_9 : pFL RX5 9 4 0 := ⟨RX5, TX5, 3, rfl, by decide, Or.inl (pGood_in 181 (by decide +kernel) (by decide +kernel))⟩
theorem ff_X5_9 : Cond.fieldLink RX5 9 (TX5 0).1 (TX5 0).2.1 (TX5 0).2.2.1 ∈ pGood := pGood_in 181 (by decide +kernel) (by decide +kernel)
theorem fl_X5_15 : pFL RX5 15 4 1 := ⟨RX5, TX5, 3, rfl, by decide, Or.inl (pGood_in 182 (by decide +kernel) (by decide +kernel))⟩
theorem ff_X5_15 : Cond.fieldLink RX5 15 (TX5 1).1 (TX5 1).2.1 (TX5 1).2.2.1 ∈ pGood := pGood_in 182 (by decide +kernel) (by decide +kernel)
theorem fl_X5_19 : pFL RX5 19 4 2 := ⟨RX5, TX5, 3, rfl, by decide, Or.inl (pGood_in 183 (by decide +kernel) (by decide +kernel))⟩
theorem ff_X5_19 : Cond.fieldLink RX5 19 (TX5 2).1 (TX5 2).2.1 (TX5 2).2.2.1 ∈ pGood := pGood_in 183 (by decide +kernel) (by decide +kernel)
theorem cl_X8_43 : Cond.classLink RX8 43 RX0 ∈ pGood := pGood_in 191 (by decide +kernel) (by decide +kernel)
theorem ib_X0 : Cond.instantiable RX0 7 ∈ pGood := pGood_in 192 (by decide +kernel) (by decide +kernel)
theorem im_X0_init : Cond.instanceMethod yX0_init ∈ pGood := pGood_in 194 (by decide +kernel) (by decide +kernel)
def mX0_init : PM := (yX0_init, cX0_init, 1, none, tbX0_init)
theorem co_X0_init : Cond.code mX0_init.1 mX0_init.2.1 mX0_init.2.2.1 mX0_init.2.2.2.1 ∈ pGood := pGood_in 195 (by decide +kernel) (by decide +kernel)
theorem tk_X0_init : pTabOk mX0_init.2.1 mX0_init.2.2.2.2 = true := tbX0_init_ok
theorem ml_X0_3 : Cond.methodLink RX0 3 Lib.objectInit ∈ pGood := pGood_in 196 (by decide +kernel) (by decide +kernel)
theorem cl_X0_22 : Cond.classLink RX0 22 RX6 ∈ pGood := pGood_in 197 (by decide +kernel) (by decide +kernel)
theorem fl_X0_9 : pFL RX0 9 0 0 := ⟨RX0, TX0, 7, rfl, by decide, Or.inl (pGood_in 199 (by decide +kernel) (by decide +kernel))⟩
theorem ff_X0_9 : Cond.fieldLink RX0 9 (TX0 0).1 (TX0 0).2.1 (TX0 0).2.2.1 ∈ pGood := pGood_in 199 (by decide +kernel) (by decide +kernel)
theorem fl_X0_15 : pFL RX0 15 0 1 := ⟨RX0, TX0, 7, rfl, by decide, Or.inl (pGood_in 200 (by decide +kernel) (by decide +kernel))⟩
theorem ff_X0_15 : Cond.fieldLink RX0 15 (TX0 1).1 (TX0 1).2.1 (TX0 1).2.2.1 ∈ pGood := pGood_in 200 (by decide +kernel) (by decide +kernel)
theorem fl_X0_19 : pFL RX0 19 0 2 := ⟨RX0, TX0, 7, rfl, by decide, Or.inl (pGood_in 201 (by decide +kernel) (by decide +kernel))⟩
theorem ff_X0_19 : Cond.fieldLink RX0 19 (TX0 2).1 (TX0 2).2.1 (TX0 2).2.2.1 ∈ pGood := pGood_in 201 (by decide +kernel) (by decide +kernel)
theorem fl_X0_25 : pFL RX0 25 0 3 := ⟨RX0, TX0, 7, rfl, by decide, Or.inl (pGood_in 202 (by decide +kernel) (by decide +kernel))⟩
theorem ff_X0_25 : Cond.fieldLink RX0 25 (TX0 3).1 (TX0 3).2.1 (TX0 3).2.2.1 ∈ pGood := pGood_in 202 (by decide +kernel) (by decide +kernel)
theorem fl_X0_29 : pFL RX0 29 0 4 := ⟨RX0, TX0, 7, rfl, by decide, Or.inl (pGood_in 203 (by decide +kernel) (by decide +kernel))⟩
theorem fl_X8_195 : pFL RX8 195 0 4 := ⟨RX0, TX0, 7, rfl, by decide, Or.inr ⟨"EngravedLines", pNest_in 204 (by decide +kernel) (by decide +kernel)⟩⟩
theorem fl_X0_33 : pFL RX0 33 0 5 := ⟨RX0, TX0, 7, rfl, by decide, Or.inl (pGood_in 205 (by decide +kernel) (by decide +kernel))⟩
theorem fl_X8_192 : pFL RX8 192 0 5 := ⟨RX0, TX0, 7, rfl, by decide, Or.inr ⟨"EngravedLines", pNest_in 206 (by decide +kernel) (by decide +kernel)⟩⟩
theorem fl_X0_37 : pFL RX0 37 0 6 := ⟨RX0, TX0, 7, rfl, by decide, Or.inl (pGood_in 207 (by decide +kernel) (by decide +kernel))⟩
theorem fl_X8_204 : pFL RX8 204 0 6 := ⟨RX0, TX0, 7, rfl, by decide, Or.inr ⟨"EngravedLines", pNest_in 208 (by decide +kernel) (by decide +kernel)⟩⟩
theorem cl_X8_53 : Cond.classLink RX8 53 RX4 ∈ pGood := pGood_in 224 (by decide +kernel) (by decide +kernel)
theorem cl_X8_60 : Cond.classLink RX8 60 RX7 ∈ pGood := pGood_in 226 (by decide +kernel) (by decide +kernel)
theorem ib_X7 : Cond.instantiable RX7 5 ∈ pGood := pGood_in 227 (by decide +kernel) (by decide +kernel)
theorem im_X7_init : Cond.instanceMethod yX7_init ∈ pGood := pGood_in 229 (by decide +kernel) (by decide +kernel)
def mX7_init : PM := (yX7_init, cX7_init, 1, none, tbX7_init)
theorem co_X7_init : Cond.code mX7_init.1 mX7_init.2.1 mX7_init.2.2.1 mX7_init.2.2.2.1 ∈ pGood := pGood_in 230 (by decide +kernel) (by decide +kernel)
theorem tk_X7_init : pTabOk mX7_init.2.1 mX7_init.2.2.2.2 = true := tbX7_init_ok
theorem ml_X7_3 : Cond.methodLink RX7 3 Lib.objectInit ∈ pGood := pGood_in 231 (by decide +kernel) (by decide +kernel)
theorem cl_X7_19 : Cond.classLink RX7 19 RX4 ∈ pGood := pGood_in 232 (by decide +kernel) (by decide +kernel)
theorem fl_X7_9 : pFL RX7 9 6 0 := ⟨RX7, TX7, 5, rfl, by decide, Or.inl (pGood_in 234 (by decide +kernel) (by decide +kernel))⟩
theorem ff_X7_9 : Cond.fieldLink RX7 9 (TX7 0).1 (TX7 0).2.1 (TX7 0).2.2.1 ∈ pGood := pGood_in 234 (by decide +kernel) (by decide +kernel)
theorem fl_X7_15 : pFL RX7 15 6 1 := ⟨RX7, TX7, 5, rfl, by decide, Or.inl (pGood_in 235 (by decide +kernel) (by decide +kernel))⟩
theorem fl_X8_241 : pFL RX8 241 6 1 := ⟨RX7, TX7, 5, rfl, by decide, Or.inr ⟨"EngravedLines", pNest_in 236 (by decide +kernel) (by decide +kernel)⟩⟩
theorem fl_X7_22 : pFL RX7 22 6 2 := ⟨RX7, TX7, 5, rfl, by decide, Or.inl (pGood_in 237 (by decide +kernel) (by decide +kernel))⟩
theorem ff_X7_22 : Cond.fieldLink RX7 22 (TX7 2).1 (TX7 2).2.1 (TX7 2).2.2.1 ∈ pGood := pGood_in 237 (by decide +kernel) (by decide +kernel)
theorem fl_X8_254 : pFL RX8 254 6 2 := ⟨RX7, TX7, 5, rfl, by decide, Or.inr ⟨"EngravedLines", pNest_in 238 (by decide +kernel) (by decide +kernel)⟩⟩
theorem fl_X7_26 : pFL RX7 26 6 3 := ⟨RX7, TX7, 5, rfl, by decide, Or.inl (pGood_in 239 (by decide +kernel) (by decide +kernel))⟩
theorem fl_X8_251 : pFL RX8 251 6 3 := ⟨RX7, TX7, 5, rfl, by decide, Or.inr ⟨"EngravedLines", pNest_in 240 (by decide +kernel) (by decide +kernel)⟩⟩
theorem fl_X7_29 : pFL RX7 29 6 4 := ⟨RX7, TX7, 5, rfl, by decide, Or.inl (pGood_in 241 (by decide +kernel) (by decide +kernel))⟩
theorem cl_X8_67 : Cond.classLink RX8 67 RX3 ∈ pGood := pGood_in 253 (by decide +kernel) (by decide +kernel)
theorem ib_X3 : Cond.instantiable RX3 3 ∈ pGood := pGood_in 254 (by decide +kernel) (by decide +kernel)
theorem im_X3_init : Cond.instanceMethod yX3_init ∈ pGood := pGood_in 256 (by decide +kernel) (by decide +kernel)
def mX3_init : PM := (yX3_init, cX3_init, 1, none, tbX3_init)
theorem co_X3_init : Cond.code mX3_init.1 mX3_init.2.1 mX3_init.2.2.1 mX3_init.2.2.2.1 ∈ pGood := pGood_in 257 (by decide +kernel) (by decide +kernel)
theorem tk_X3_init : pTabOk mX3_init.2.1 mX3_init.2.2.2.2 = true := tbX3_init_ok
theorem ml_X3_3 : Cond.methodLink RX3 3 Lib.objectInit ∈ pGood := pGood_in 258 (by decide +kernel) (by decide +kernel)
theorem fl_X3_9 : pFL RX3 9 2 0 := ⟨RX3, TX3, 3, rfl, by decide, Or.inl (pGood_in 259 (by decide +kernel) (by decide +kernel))⟩
theorem ff_X3_9 : Cond.fieldLink RX3 9 (TX3 0).1 (TX3 0).2.1 (TX3 0).2.2.1 ∈ pGood := pGood_in 259 (by decide +kernel) (by decide +kernel)
theorem fl_X3_15 : pFL RX3 15 2 1 := ⟨RX3, TX3, 3, rfl, by decide, Or.inl (pGood_in 260 (by decide +kernel) (by decide +kernel))⟩
theorem ff_X3_15 : Cond.fieldLink RX3 15 (TX3 1).1 (TX3 1).2.1 (TX3 1).2.2.1 ∈ pGood := pGood_in 260 (by decide +kernel) (by decide +kernel)
theorem fl_X3_18 : pFL RX3 18 2 2 := ⟨RX3, TX3, 3, rfl, by decide, Or.inl (pGood_in 261 (by decide +kernel) (by decide +kernel))⟩
theorem ff_X3_18 : Cond.fieldLink RX3 18 (TX3 2).1 (TX3 2).2.1 (TX3 2).2.2.1 ∈ pGood := pGood_in 261 (by decide +kernel) (by decide +kernel)
theorem ac_long : Cond.arrayClass .long ∈ pGood := pGood_in 269 (by decide +kernel) (by decide +kernel)
theorem fl_X8_10 : pFL RX8 10 7 0 := ⟨RX8, TX8, 13, rfl, by decide, Or.inl (pGood_in 270 (by decide +kernel) (by decide +kernel))⟩
theorem ff_X8_10 : Cond.fieldLink RX8 10 (TX8 0).1 (TX8 0).2.1 (TX8 0).2.2.1 ∈ pGood := pGood_in 270 (by decide +kernel) (by decide +kernel)
theorem fl_X8_16 : pFL RX8 16 7 1 := ⟨RX8, TX8, 13, rfl, by decide, Or.inl (pGood_in 271 (by decide +kernel) (by decide +kernel))⟩
theorem ff_X8_16 : Cond.fieldLink RX8 16 (TX8 1).1 (TX8 1).2.1 (TX8 1).2.2.1 ∈ pGood := pGood_in 271 (by decide +kernel) (by decide +kernel)
theorem fl_X8_19 : pFL RX8 19 7 2 := ⟨RX8, TX8, 13, rfl, by decide, Or.inl (pGood_in 272 (by decide +kernel) (by decide +kernel))⟩
theorem fl_X8_26 : pFL RX8 26 7 3 := ⟨RX8, TX8, 13, rfl, by decide, Or.inl (pGood_in 273 (by decide +kernel) (by decide +kernel))⟩
theorem ff_X8_26 : Cond.fieldLink RX8 26 (TX8 3).1 (TX8 3).2.1 (TX8 3).2.2.1 ∈ pGood := pGood_in 273 (by decide +kernel) (by decide +kernel)
theorem fl_X8_30 : pFL RX8 30 7 4 := ⟨RX8, TX8, 13, rfl, by decide, Or.inl (pGood_in 274 (by decide +kernel) (by decide +kernel))⟩
theorem ff_X8_30 : Cond.fieldLink RX8 30 (TX8 4).1 (TX8 4).2.1 (TX8 4).2.2.1 ∈ pGood := pGood_in 274 (by decide +kernel) (by decide +kernel)
theorem fl_X8_36 : pFL RX8 36 7 5 := ⟨RX8, TX8, 13, rfl, by decide, Or.inl (pGood_in 275 (by decide +kernel) (by decide +kernel))⟩
theorem ff_X8_36 : Cond.fieldLink RX8 36 (TX8 5).1 (TX8 5).2.1 (TX8 5).2.2.1 ∈ pGood := pGood_in 275 (by decide +kernel) (by decide +kernel)
theorem fl_X8_40 : pFL RX8 40 7 6 := ⟨RX8, TX8, 13, rfl, by decide, Or.inl (pGood_in 276 (by decide +kernel) (by decide +kernel))⟩
theorem ff_X8_40 : Cond.fieldLink RX8 40 (TX8 6).1 (TX8 6).2.1 (TX8 6).2.2.1 ∈ pGood := pGood_in 276 (by decide +kernel) (by decide +kernel)
theorem fl_X8_46 : pFL RX8 46 7 7 := ⟨RX8, TX8, 13, rfl, by decide, Or.inl (pGood_in 277 (by decide +kernel) (by decide +kernel))⟩
theorem ff_X8_46 : Cond.fieldLink RX8 46 (TX8 7).1 (TX8 7).2.1 (TX8 7).2.2.1 ∈ pGood := pGood_in 277 (by decide +kernel) (by decide +kernel)
theorem fl_X8_50 : pFL RX8 50 7 8 := ⟨RX8, TX8, 13, rfl, by decide, Or.inl (pGood_in 278 (by decide +kernel) (by decide +kernel))⟩
theorem ff_X8_50 : Cond.fieldLink RX8 50 (TX8 8).1 (TX8 8).2.1 (TX8 8).2.2.1 ∈ pGood := pGood_in 278 (by decide +kernel) (by decide +kernel)
theorem fl_X8_56 : pFL RX8 56 7 9 := ⟨RX8, TX8, 13, rfl, by decide, Or.inl (pGood_in 279 (by decide +kernel) (by decide +kernel))⟩
theorem ff_X8_56 : Cond.fieldLink RX8 56 (TX8 9).1 (TX8 9).2.1 (TX8 9).2.2.1 ∈ pGood := pGood_in 279 (by decide +kernel) (by decide +kernel)
theorem fl_X8_63 : pFL RX8 63 7 10 := ⟨RX8, TX8, 13, rfl, by decide, Or.inl (pGood_in 280 (by decide +kernel) (by decide +kernel))⟩
theorem ff_X8_63 : Cond.fieldLink RX8 63 (TX8 10).1 (TX8 10).2.1 (TX8 10).2.2.1 ∈ pGood := pGood_in 280 (by decide +kernel) (by decide +kernel)
theorem fl_X8_70 : pFL RX8 70 7 11 := ⟨RX8, TX8, 13, rfl, by decide, Or.inl (pGood_in 281 (by decide +kernel) (by decide +kernel))⟩
theorem ff_X8_70 : Cond.fieldLink RX8 70 (TX8 11).1 (TX8 11).2.1 (TX8 11).2.2.1 ∈ pGood := pGood_in 281 (by decide +kernel) (by decide +kernel)
theorem fl_X8_74 : pFL RX8 74 7 12 := ⟨RX8, TX8, 13, rfl, by decide, Or.inl (pGood_in 282 (by decide +kernel) (by decide +kernel))⟩
theorem ff_X8_74 : Cond.fieldLink RX8 74 (TX8 12).1 (TX8 12).2.1 (TX8 12).2.2.1 ∈ pGood := pGood_in 282 (by decide +kernel) (by decide +kernel)
theorem im_X8_add : Cond.instanceMethod yX8_add ∈ pGood := pGood_in 311 (by decide +kernel) (by decide +kernel)
theorem se_X8_add : Cond.selects RX8 yX8_add yX8_add ∈ pGood := pGood_in 312 (by decide +kernel) (by decide +kernel)
def mX8_add : PM := (yX8_add, cX8_add, 4, (some .int), tbX8_add)
theorem co_X8_add : Cond.code mX8_add.1 mX8_add.2.1 mX8_add.2.2.1 mX8_add.2.2.2.1 ∈ pGood := pGood_in 313 (by decide +kernel) (by decide +kernel)
theorem tk_X8_add : pTabOk mX8_add.2.1 mX8_add.2.2.2.2 = true := tbX8_add_ok
theorem st_X8_isAllowed : Cond.static yX8_isAllowed ∈ pGood := pGood_in 315 (by decide +kernel) (by decide +kernel)
def mX8_isAllowed : PM := (yX8_isAllowed, cX8_isAllowed, 2, (some .boolean), tbX8_isAllowed)
theorem co_X8_isAllowed : Cond.code mX8_isAllowed.1 mX8_isAllowed.2.1 mX8_isAllowed.2.2.1 mX8_isAllowed.2.2.2.1 ∈ pGood := pGood_in 316 (by decide +kernel) (by decide +kernel)
theorem tk_X8_isAllowed : pTabOk mX8_isAllowed.2.1 mX8_isAllowed.2.2.2.2 = true := tbX8_isAllowed_ok
theorem fl_X8_355 : Cond.fieldLink RX8 355 "EngravedLines" "LEAST" "[I" ∈ pGood := pGood_in 317 (by decide +kernel) (by decide +kernel)
theorem st_X8_readInt : Cond.static yX8_readInt ∈ pGood := pGood_in 320 (by decide +kernel) (by decide +kernel)
def mX8_readInt : PM := (yX8_readInt, cX8_readInt, 2, (some .int), tbX8_readInt)
theorem co_X8_readInt : Cond.code mX8_readInt.1 mX8_readInt.2.1 mX8_readInt.2.2.1 mX8_readInt.2.2.2.1 ∈ pGood := pGood_in 321 (by decide +kernel) (by decide +kernel)
theorem tk_X8_readInt : pTabOk mX8_readInt.2.1 mX8_readInt.2.2.2.2 = true := tbX8_readInt_ok
theorem fl_X8_358 : Cond.fieldLink RX8 358 "EngravedLines" "MOST" "[I" ∈ pGood := pGood_in 322 (by decide +kernel) (by decide +kernel)
theorem st_X8_isWithin : Cond.static yX8_isWithin ∈ pGood := pGood_in 325 (by decide +kernel) (by decide +kernel)
def mX8_isWithin : PM := (yX8_isWithin, cX8_isWithin, 3, (some .boolean), tbX8_isWithin)
theorem co_X8_isWithin : Cond.code mX8_isWithin.1 mX8_isWithin.2.1 mX8_isWithin.2.2.1 mX8_isWithin.2.2.2.1 ∈ pGood := pGood_in 326 (by decide +kernel) (by decide +kernel)
theorem tk_X8_isWithin : pTabOk mX8_isWithin.2.1 mX8_isWithin.2.2.2.2 = true := tbX8_isWithin_ok
theorem im_X8_refuse : Cond.instanceMethod yX8_refuse ∈ pGood := pGood_in 329 (by decide +kernel) (by decide +kernel)
def mX8_refuse : PM := (yX8_refuse, cX8_refuse, 2, (some .int), tbX8_refuse)
theorem co_X8_refuse : Cond.code mX8_refuse.1 mX8_refuse.2.1 mX8_refuse.2.2.1 mX8_refuse.2.2.2.1 ∈ pGood := pGood_in 330 (by decide +kernel) (by decide +kernel)
theorem tk_X8_refuse : pTabOk mX8_refuse.2.1 mX8_refuse.2.2.2.2 = true := tbX8_refuse_ok
theorem st_X8_writeInt : Cond.static yX8_writeInt ∈ pGood := pGood_in 332 (by decide +kernel) (by decide +kernel)
def mX8_writeInt : PM := (yX8_writeInt, cX8_writeInt, 3, none, tbX8_writeInt)
theorem co_X8_writeInt : Cond.code mX8_writeInt.1 mX8_writeInt.2.1 mX8_writeInt.2.2.1 mX8_writeInt.2.2.2.1 ∈ pGood := pGood_in 333 (by decide +kernel) (by decide +kernel)
theorem tk_X8_writeInt : pTabOk mX8_writeInt.2.1 mX8_writeInt.2.2.2.2 = true := tbX8_writeInt_ok
theorem kc_X8_332 : Cond.constant RX8 332 (-2147483000) ∈ pGood := pGood_in 334 (by decide +kernel) (by decide +kernel)
theorem im_X4_lay : Cond.instanceMethod yX4_lay ∈ pGood := pGood_in 336 (by decide +kernel) (by decide +kernel)
theorem se_X4_lay : Cond.selects RX4 yX4_lay yX4_lay ∈ pGood := pGood_in 337 (by decide +kernel) (by decide +kernel)
def mX4_lay : PM := (yX4_lay, cX4_lay, 7, none, tbX4_lay)
theorem co_X4_lay : Cond.code mX4_lay.1 mX4_lay.2.1 mX4_lay.2.2.1 mX4_lay.2.2.2.1 ∈ pGood := pGood_in 338 (by decide +kernel) (by decide +kernel)
theorem tk_X4_lay : pTabOk mX4_lay.2.1 mX4_lay.2.2.2.2 = true := tbX4_lay_ok
theorem im_X4_change : Cond.instanceMethod yX4_change ∈ pGood := pGood_in 340 (by decide +kernel) (by decide +kernel)
theorem se_X4_change : Cond.selects RX4 yX4_change yX4_change ∈ pGood := pGood_in 341 (by decide +kernel) (by decide +kernel)
def mX4_change : PM := (yX4_change, cX4_change, 5, none, tbX4_change)
theorem co_X4_change : Cond.code mX4_change.1 mX4_change.2.1 mX4_change.2.2.1 mX4_change.2.2.2.1 ∈ pGood := pGood_in 342 (by decide +kernel) (by decide +kernel)
theorem tk_X4_change : pTabOk mX4_change.2.1 mX4_change.2.2.2.2 = true := tbX4_change_ok
theorem im_X8_drop : Cond.instanceMethod yX8_drop ∈ pGood := pGood_in 344 (by decide +kernel) (by decide +kernel)
theorem se_X8_drop : Cond.selects RX8 yX8_drop yX8_drop ∈ pGood := pGood_in 345 (by decide +kernel) (by decide +kernel)
def mX8_drop : PM := (yX8_drop, cX8_drop, 1, (some .int), tbX8_drop)
theorem co_X8_drop : Cond.code mX8_drop.1 mX8_drop.2.1 mX8_drop.2.2.1 mX8_drop.2.2.2.1 ∈ pGood := pGood_in 346 (by decide +kernel) (by decide +kernel)
theorem tk_X8_drop : pTabOk mX8_drop.2.1 mX8_drop.2.2.2.2 = true := tbX8_drop_ok
theorem im_X8_set : Cond.instanceMethod yX8_set ∈ pGood := pGood_in 348 (by decide +kernel) (by decide +kernel)
theorem se_X8_set : Cond.selects RX8 yX8_set yX8_set ∈ pGood := pGood_in 349 (by decide +kernel) (by decide +kernel)
def mX8_set : PM := (yX8_set, cX8_set, 5, (some .int), tbX8_set)
theorem co_X8_set : Cond.code mX8_set.1 mX8_set.2.1 mX8_set.2.2.1 mX8_set.2.2.2.1 ∈ pGood := pGood_in 350 (by decide +kernel) (by decide +kernel)
theorem tk_X8_set : pTabOk mX8_set.2.1 mX8_set.2.2.2.2 = true := tbX8_set_ok
theorem im_X8_isColumn : Cond.instanceMethod yX8_isColumn ∈ pGood := pGood_in 353 (by decide +kernel) (by decide +kernel)
def mX8_isColumn : PM := (yX8_isColumn, cX8_isColumn, 2, (some .boolean), tbX8_isColumn)
theorem co_X8_isColumn : Cond.code mX8_isColumn.1 mX8_isColumn.2.1 mX8_isColumn.2.2.1 mX8_isColumn.2.2.2.1 ∈ pGood := pGood_in 354 (by decide +kernel) (by decide +kernel)
theorem tk_X8_isColumn : pTabOk mX8_isColumn.2.1 mX8_isColumn.2.2.2.2 = true := tbX8_isColumn_ok
theorem im_X4_part : Cond.instanceMethod yX4_part ∈ pGood := pGood_in 356 (by decide +kernel) (by decide +kernel)
theorem se_X4_part : Cond.selects RX4 yX4_part yX4_part ∈ pGood := pGood_in 357 (by decide +kernel) (by decide +kernel)
def mX4_part : PM := (yX4_part, cX4_part, 4, (some .int), tbX4_part)
theorem co_X4_part : Cond.code mX4_part.1 mX4_part.2.1 mX4_part.2.2.1 mX4_part.2.2.2.1 ∈ pGood := pGood_in 358 (by decide +kernel) (by decide +kernel)
theorem tk_X4_part : pTabOk mX4_part.2.1 mX4_part.2.2.2.2 = true := tbX4_part_ok
theorem im_X8_of : Cond.instanceMethod yX8_of ∈ pGood := pGood_in 361 (by decide +kernel) (by decide +kernel)
theorem se_X8_of : Cond.selects RX8 yX8_of yX8_of ∈ pGood := pGood_in 362 (by decide +kernel) (by decide +kernel)
def mX8_of : PM := (yX8_of, cX8_of, 3, (some .int), tbX8_of)
theorem co_X8_of : Cond.code mX8_of.1 mX8_of.2.1 mX8_of.2.2.1 mX8_of.2.2.2.1 ∈ pGood := pGood_in 363 (by decide +kernel) (by decide +kernel)
theorem tk_X8_of : pTabOk mX8_of.2.1 mX8_of.2.2.2.2 = true := tbX8_of_ok
theorem im_X4_top : Cond.instanceMethod yX4_top ∈ pGood := pGood_in 365 (by decide +kernel) (by decide +kernel)
theorem se_X4_top : Cond.selects RX4 yX4_top yX4_top ∈ pGood := pGood_in 366 (by decide +kernel) (by decide +kernel)
def mX4_top : PM := (yX4_top, cX4_top, 4, (some .int), tbX4_top)
theorem co_X4_top : Cond.code mX4_top.1 mX4_top.2.1 mX4_top.2.2.1 mX4_top.2.2.2.1 ∈ pGood := pGood_in 367 (by decide +kernel) (by decide +kernel)
theorem tk_X4_top : pTabOk mX4_top.2.1 mX4_top.2.2.2.2 = true := tbX4_top_ok
theorem im_X4_bottom : Cond.instanceMethod yX4_bottom ∈ pGood := pGood_in 370 (by decide +kernel) (by decide +kernel)
theorem se_X4_bottom : Cond.selects RX4 yX4_bottom yX4_bottom ∈ pGood := pGood_in 371 (by decide +kernel) (by decide +kernel)
def mX4_bottom : PM := (yX4_bottom, cX4_bottom, 3, (some .int), tbX4_bottom)
theorem co_X4_bottom : Cond.code mX4_bottom.1 mX4_bottom.2.1 mX4_bottom.2.2.1 mX4_bottom.2.2.2.1 ∈ pGood := pGood_in 372 (by decide +kernel) (by decide +kernel)
theorem tk_X4_bottom : pTabOk mX4_bottom.2.1 mX4_bottom.2.2.2.2 = true := tbX4_bottom_ok
theorem im_X8_spring : Cond.instanceMethod yX8_spring ∈ pGood := pGood_in 374 (by decide +kernel) (by decide +kernel)
theorem se_X8_spring : Cond.selects RX8 yX8_spring yX8_spring ∈ pGood := pGood_in 375 (by decide +kernel) (by decide +kernel)
def mX8_spring : PM := (yX8_spring, cX8_spring, 3, (some .int), tbX8_spring)
theorem co_X8_spring : Cond.code mX8_spring.1 mX8_spring.2.1 mX8_spring.2.2.1 mX8_spring.2.2.2.1 ∈ pGood := pGood_in 376 (by decide +kernel) (by decide +kernel)
theorem tk_X8_spring : pTabOk mX8_spring.2.1 mX8_spring.2.2.2.2 = true := tbX8_spring_ok
theorem im_X4_ideal : Cond.instanceMethod yX4_ideal ∈ pGood := pGood_in 378 (by decide +kernel) (by decide +kernel)
theorem se_X4_ideal : Cond.selects RX4 yX4_ideal yX4_ideal ∈ pGood := pGood_in 379 (by decide +kernel) (by decide +kernel)
def mX4_ideal : PM := (yX4_ideal, cX4_ideal, 5, (some .float), tbX4_ideal)
theorem co_X4_ideal : Cond.code mX4_ideal.1 mX4_ideal.2.1 mX4_ideal.2.2.1 mX4_ideal.2.2.2.1 ∈ pGood := pGood_in 380 (by decide +kernel) (by decide +kernel)
theorem tk_X4_ideal : pTabOk mX4_ideal.2.1 mX4_ideal.2.2.2.2 = true := tbX4_ideal_ok
theorem kc_X4_31 : Cond.constantFloat RX4 31 1077936128 ∈ pGood := pGood_in 381 (by decide +kernel) (by decide +kernel)
theorem kc_X4_32 : Cond.constantFloat RX4 32 1086324736 ∈ pGood := pGood_in 382 (by decide +kernel) (by decide +kernel)
theorem kc_X4_33 : Cond.constantFloat RX4 33 1056964608 ∈ pGood := pGood_in 383 (by decide +kernel) (by decide +kernel)
theorem st_X8_floatBits : Cond.static yX8_floatBits ∈ pGood := pGood_in 385 (by decide +kernel) (by decide +kernel)
def mX8_floatBits : PM := (yX8_floatBits, cX8_floatBits, 1, (some .int), tbX8_floatBits)
theorem co_X8_floatBits : Cond.code mX8_floatBits.1 mX8_floatBits.2.1 mX8_floatBits.2.2.1 mX8_floatBits.2.2.2.1 ∈ pGood := pGood_in 386 (by decide +kernel) (by decide +kernel)
theorem tk_X8_floatBits : pTabOk mX8_floatBits.2.1 mX8_floatBits.2.2.2.2 = true := tbX8_floatBits_ok
theorem st_X2_encode : Cond.static yX2_encode ∈ pGood := pGood_in 388 (by decide +kernel) (by decide +kernel)
def mX2_encode : PM := (yX2_encode, cX2_encode, 13, (some .long), tbX2_encode)
theorem co_X2_encode : Cond.code mX2_encode.1 mX2_encode.2.1 mX2_encode.2.2.1 mX2_encode.2.2.2.1 ∈ pGood := pGood_in 389 (by decide +kernel) (by decide +kernel)
theorem tk_X2_encode : pTabOk mX2_encode.2.1 mX2_encode.2.2.2.2 = true := tbX2_encode_ok
theorem st_X2_fractionBits : Cond.static yX2_fractionBits ∈ pGood := pGood_in 391 (by decide +kernel) (by decide +kernel)
def mX2_fractionBits : PM := (yX2_fractionBits, cX2_fractionBits, 1, (some .int), tbX2_fractionBits)
theorem co_X2_fractionBits : Cond.code mX2_fractionBits.1 mX2_fractionBits.2.1 mX2_fractionBits.2.2.1 mX2_fractionBits.2.2.2.1 ∈ pGood := pGood_in 392 (by decide +kernel) (by decide +kernel)
theorem tk_X2_fractionBits : pTabOk mX2_fractionBits.2.1 mX2_fractionBits.2.2.2.2 = true := tbX2_fractionBits_ok
theorem kc_X2_15 : Cond.constantDouble RX2 15 4611686018427387904 ∈ pGood := pGood_in 393 (by decide +kernel) (by decide +kernel)
theorem st_X2_bias : Cond.static yX2_bias ∈ pGood := pGood_in 395 (by decide +kernel) (by decide +kernel)
def mX2_bias : PM := (yX2_bias, cX2_bias, 1, (some .int), tbX2_bias)
theorem co_X2_bias : Cond.code mX2_bias.1 mX2_bias.2.1 mX2_bias.2.2.1 mX2_bias.2.2.2.1 ∈ pGood := pGood_in 396 (by decide +kernel) (by decide +kernel)
theorem tk_X2_bias : pTabOk mX2_bias.2.1 mX2_bias.2.2.2.2 = true := tbX2_bias_ok
theorem st_X2_withSign : Cond.static yX2_withSign ∈ pGood := pGood_in 398 (by decide +kernel) (by decide +kernel)
def mX2_withSign : PM := (yX2_withSign, cX2_withSign, 6, (some .long), tbX2_withSign)
theorem co_X2_withSign : Cond.code mX2_withSign.1 mX2_withSign.2.1 mX2_withSign.2.2.1 mX2_withSign.2.2.2.1 ∈ pGood := pGood_in 399 (by decide +kernel) (by decide +kernel)
theorem tk_X2_withSign : pTabOk mX2_withSign.2.1 mX2_withSign.2.2.2.2 = true := tbX2_withSign_ok
theorem st_X2_signBit : Cond.static yX2_signBit ∈ pGood := pGood_in 401 (by decide +kernel) (by decide +kernel)
def mX2_signBit : PM := (yX2_signBit, cX2_signBit, 1, (some .long), tbX2_signBit)
theorem co_X2_signBit : Cond.code mX2_signBit.1 mX2_signBit.2.1 mX2_signBit.2.2.1 mX2_signBit.2.2.2.1 ∈ pGood := pGood_in 402 (by decide +kernel) (by decide +kernel)
theorem tk_X2_signBit : pTabOk mX2_signBit.2.1 mX2_signBit.2.2.2.2 = true := tbX2_signBit_ok
theorem kc_X2_28 : Cond.constantLong RX2 28 2147483648 ∈ pGood := pGood_in 403 (by decide +kernel) (by decide +kernel)
theorem kc_X2_30 : Cond.constantLong RX2 30 (-9223372036854775808) ∈ pGood := pGood_in 404 (by decide +kernel) (by decide +kernel)
theorem im_X4_flex : Cond.instanceMethod yX4_flex ∈ pGood := pGood_in 406 (by decide +kernel) (by decide +kernel)
theorem se_X4_flex : Cond.selects RX4 yX4_flex yX4_flex ∈ pGood := pGood_in 407 (by decide +kernel) (by decide +kernel)
def mX4_flex : PM := (yX4_flex, cX4_flex, 3, (some .float), tbX4_flex)
theorem co_X4_flex : Cond.code mX4_flex.1 mX4_flex.2.1 mX4_flex.2.2.1 mX4_flex.2.2.2.1 ∈ pGood := pGood_in 408 (by decide +kernel) (by decide +kernel)
theorem tk_X4_flex : pTabOk mX4_flex.2.1 mX4_flex.2.2.2.2 = true := tbX4_flex_ok
theorem kc_X4_34 : Cond.constantFloat RX4 34 1048576000 ∈ pGood := pGood_in 409 (by decide +kernel) (by decide +kernel)
theorem im_X4_rod : Cond.instanceMethod yX4_rod ∈ pGood := pGood_in 411 (by decide +kernel) (by decide +kernel)
theorem se_X4_rod : Cond.selects RX4 yX4_rod yX4_rod ∈ pGood := pGood_in 412 (by decide +kernel) (by decide +kernel)
def mX4_rod : PM := (yX4_rod, cX4_rod, 2, (some .float), tbX4_rod)
theorem co_X4_rod : Cond.code mX4_rod.1 mX4_rod.2.1 mX4_rod.2.2.1 mX4_rod.2.2.2.1 ∈ pGood := pGood_in 413 (by decide +kernel) (by decide +kernel)
theorem tk_X4_rod : pTabOk mX4_rod.2.1 mX4_rod.2.2.2.2 = true := tbX4_rod_ok
theorem im_X8_width : Cond.instanceMethod yX8_width ∈ pGood := pGood_in 415 (by decide +kernel) (by decide +kernel)
theorem se_X8_width : Cond.selects RX8 yX8_width yX8_width ∈ pGood := pGood_in 416 (by decide +kernel) (by decide +kernel)
def mX8_width : PM := (yX8_width, cX8_width, 3, (some .int), tbX8_width)
theorem co_X8_width : Cond.code mX8_width.1 mX8_width.2.1 mX8_width.2.2.1 mX8_width.2.2.2.1 ∈ pGood := pGood_in 417 (by decide +kernel) (by decide +kernel)
theorem tk_X8_width : pTabOk mX8_width.2.1 mX8_width.2.2.2.2 = true := tbX8_width_ok
theorem im_X8_force : Cond.instanceMethod yX8_force ∈ pGood := pGood_in 419 (by decide +kernel) (by decide +kernel)
theorem se_X8_force : Cond.selects RX8 yX8_force yX8_force ∈ pGood := pGood_in 420 (by decide +kernel) (by decide +kernel)
def mX8_force : PM := (yX8_force, cX8_force, 3, (some .int), tbX8_force)
theorem co_X8_force : Cond.code mX8_force.1 mX8_force.2.1 mX8_force.2.2.1 mX8_force.2.2.2.1 ∈ pGood := pGood_in 421 (by decide +kernel) (by decide +kernel)
theorem tk_X8_force : pTabOk mX8_force.2.1 mX8_force.2.2.2.2 = true := tbX8_force_ok
theorem im_X8_isStretch : Cond.instanceMethod yX8_isStretch ∈ pGood := pGood_in 424 (by decide +kernel) (by decide +kernel)
def mX8_isStretch : PM := (yX8_isStretch, cX8_isStretch, 3, (some .boolean), tbX8_isStretch)
theorem co_X8_isStretch : Cond.code mX8_isStretch.1 mX8_isStretch.2.1 mX8_isStretch.2.2.1 mX8_isStretch.2.2.2.1 ∈ pGood := pGood_in 425 (by decide +kernel) (by decide +kernel)
theorem tk_X8_isStretch : pTabOk mX8_isStretch.2.1 mX8_isStretch.2.2.2.2 = true := tbX8_isStretch_ok
theorem im_X6_settle : Cond.instanceMethod yX6_settle ∈ pGood := pGood_in 427 (by decide +kernel) (by decide +kernel)
theorem se_X6_settle : Cond.selects RX6 yX6_settle yX6_settle ∈ pGood := pGood_in 428 (by decide +kernel) (by decide +kernel)
def mX6_settle : PM := (yX6_settle, cX6_settle, 8, none, tbX6_settle)
theorem co_X6_settle : Cond.code mX6_settle.1 mX6_settle.2.1 mX6_settle.2.2.1 mX6_settle.2.2.2.1 ∈ pGood := pGood_in 429 (by decide +kernel) (by decide +kernel)
theorem tk_X6_settle : pTabOk mX6_settle.2.1 mX6_settle.2.2.2.2 = true := tbX6_settle_ok
theorem im_X6_take : Cond.instanceMethod yX6_take ∈ pGood := pGood_in 431 (by decide +kernel) (by decide +kernel)
theorem se_X6_take : Cond.selects RX6 yX6_take yX6_take ∈ pGood := pGood_in 432 (by decide +kernel) (by decide +kernel)
def mX6_take : PM := (yX6_take, cX6_take, 7, none, tbX6_take)
theorem co_X6_take : Cond.code mX6_take.1 mX6_take.2.1 mX6_take.2.2.1 mX6_take.2.2.2.1 ∈ pGood := pGood_in 433 (by decide +kernel) (by decide +kernel)
theorem tk_X6_take : pTabOk mX6_take.2.1 mX6_take.2.2.2.2 = true := tbX6_take_ok
theorem st_X8_writeFloat : Cond.static yX8_writeFloat ∈ pGood := pGood_in 436 (by decide +kernel) (by decide +kernel)
def mX8_writeFloat : PM := (yX8_writeFloat, cX8_writeFloat, 3, none, tbX8_writeFloat)
theorem co_X8_writeFloat : Cond.code mX8_writeFloat.1 mX8_writeFloat.2.1 mX8_writeFloat.2.2.1 mX8_writeFloat.2.2.2.1 ∈ pGood := pGood_in 437 (by decide +kernel) (by decide +kernel)
theorem tk_X8_writeFloat : pTabOk mX8_writeFloat.2.1 mX8_writeFloat.2.2.2.2 = true := tbX8_writeFloat_ok
theorem st_X8_writeFlag : Cond.static yX8_writeFlag ∈ pGood := pGood_in 441 (by decide +kernel) (by decide +kernel)
def mX8_writeFlag : PM := (yX8_writeFlag, cX8_writeFlag, 3, none, tbX8_writeFlag)
theorem co_X8_writeFlag : Cond.code mX8_writeFlag.1 mX8_writeFlag.2.1 mX8_writeFlag.2.2.1 mX8_writeFlag.2.2.2.1 ∈ pGood := pGood_in 442 (by decide +kernel) (by decide +kernel)
theorem tk_X8_writeFlag : pTabOk mX8_writeFlag.2.1 mX8_writeFlag.2.2.2.2 = true := tbX8_writeFlag_ok
theorem im_X6_balance : Cond.instanceMethod yX6_balance ∈ pGood := pGood_in 445 (by decide +kernel) (by decide +kernel)
def mX6_balance : PM := (yX6_balance, cX6_balance, 5, (some .float), tbX6_balance)
theorem co_X6_balance : Cond.code mX6_balance.1 mX6_balance.2.1 mX6_balance.2.2.1 mX6_balance.2.2.2.1 ∈ pGood := pGood_in 446 (by decide +kernel) (by decide +kernel)
theorem tk_X6_balance : pTabOk mX6_balance.2.1 mX6_balance.2.2.2.2 = true := tbX6_balance_ok
theorem st_X8_readFlag : Cond.static yX8_readFlag ∈ pGood := pGood_in 448 (by decide +kernel) (by decide +kernel)
def mX8_readFlag : PM := (yX8_readFlag, cX8_readFlag, 2, (some .boolean), tbX8_readFlag)
theorem co_X8_readFlag : Cond.code mX8_readFlag.1 mX8_readFlag.2.1 mX8_readFlag.2.2.1 mX8_readFlag.2.2.2.1 ∈ pGood := pGood_in 449 (by decide +kernel) (by decide +kernel)
theorem tk_X8_readFlag : pTabOk mX8_readFlag.2.1 mX8_readFlag.2.2.2.2 = true := tbX8_readFlag_ok
theorem st_X8_readFloat : Cond.static yX8_readFloat ∈ pGood := pGood_in 451 (by decide +kernel) (by decide +kernel)
def mX8_readFloat : PM := (yX8_readFloat, cX8_readFloat, 2, (some .float), tbX8_readFloat)
theorem co_X8_readFloat : Cond.code mX8_readFloat.1 mX8_readFloat.2.1 mX8_readFloat.2.2.1 mX8_readFloat.2.2.2.1 ∈ pGood := pGood_in 452 (by decide +kernel) (by decide +kernel)
theorem tk_X8_readFloat : pTabOk mX8_readFloat.2.1 mX8_readFloat.2.2.2.2 = true := tbX8_readFloat_ok
theorem im_X6_holdMore : Cond.instanceMethod yX6_holdMore ∈ pGood := pGood_in 455 (by decide +kernel) (by decide +kernel)
def mX6_holdMore : PM := (yX6_holdMore, cX6_holdMore, 3, (some .boolean), tbX6_holdMore)
theorem co_X6_holdMore : Cond.code mX6_holdMore.1 mX6_holdMore.2.1 mX6_holdMore.2.2.1 mX6_holdMore.2.2.2.1 ∈ pGood := pGood_in 456 (by decide +kernel) (by decide +kernel)
theorem tk_X6_holdMore : pTabOk mX6_holdMore.2.1 mX6_holdMore.2.2.2.2 = true := tbX6_holdMore_ok
theorem im_X6_stretched : Cond.instanceMethod yX6_stretched ∈ pGood := pGood_in 459 (by decide +kernel) (by decide +kernel)
def mX6_stretched : PM := (yX6_stretched, cX6_stretched, 2, (some .float), tbX6_stretched)
theorem co_X6_stretched : Cond.code mX6_stretched.1 mX6_stretched.2.1 mX6_stretched.2.2.1 mX6_stretched.2.2.2.1 ∈ pGood := pGood_in 460 (by decide +kernel) (by decide +kernel)
theorem tk_X6_stretched : pTabOk mX6_stretched.2.1 mX6_stretched.2.2.2.2 = true := tbX6_stretched_ok
theorem im_X8_held : Cond.instanceMethod yX8_held ∈ pGood := pGood_in 462 (by decide +kernel) (by decide +kernel)
theorem se_X8_held : Cond.selects RX8 yX8_held yX8_held ∈ pGood := pGood_in 463 (by decide +kernel) (by decide +kernel)
def mX8_held : PM := (yX8_held, cX8_held, 3, (some .int), tbX8_held)
theorem co_X8_held : Cond.code mX8_held.1 mX8_held.2.1 mX8_held.2.2.1 mX8_held.2.2.2.1 ∈ pGood := pGood_in 464 (by decide +kernel) (by decide +kernel)
theorem tk_X8_held : pTabOk mX8_held.2.1 mX8_held.2.2.2.2 = true := tbX8_held_ok
theorem im_X6_heldCount : Cond.instanceMethod yX6_heldCount ∈ pGood := pGood_in 466 (by decide +kernel) (by decide +kernel)
theorem se_X6_heldCount : Cond.selects RX6 yX6_heldCount yX6_heldCount ∈ pGood := pGood_in 467 (by decide +kernel) (by decide +kernel)
def mX6_heldCount : PM := (yX6_heldCount, cX6_heldCount, 3, (some .int), tbX6_heldCount)
theorem co_X6_heldCount : Cond.code mX6_heldCount.1 mX6_heldCount.2.1 mX6_heldCount.2.2.1 mX6_heldCount.2.2.2.1 ∈ pGood := pGood_in 468 (by decide +kernel) (by decide +kernel)
theorem tk_X6_heldCount : pTabOk mX6_heldCount.2.1 mX6_heldCount.2.2.2.2 = true := tbX6_heldCount_ok
theorem im_X8_at : Cond.instanceMethod yX8_at ∈ pGood := pGood_in 470 (by decide +kernel) (by decide +kernel)
theorem se_X8_at : Cond.selects RX8 yX8_at yX8_at ∈ pGood := pGood_in 471 (by decide +kernel) (by decide +kernel)
def mX8_at : PM := (yX8_at, cX8_at, 5, (some .int), tbX8_at)
theorem co_X8_at : Cond.code mX8_at.1 mX8_at.2.1 mX8_at.2.2.1 mX8_at.2.2.2.1 ∈ pGood := pGood_in 472 (by decide +kernel) (by decide +kernel)
theorem tk_X8_at : pTabOk mX8_at.2.1 mX8_at.2.2.2.2 = true := tbX8_at_ok
theorem im_X6_length : Cond.instanceMethod yX6_length ∈ pGood := pGood_in 474 (by decide +kernel) (by decide +kernel)
theorem se_X6_length : Cond.selects RX6 yX6_length yX6_length ∈ pGood := pGood_in 475 (by decide +kernel) (by decide +kernel)
def mX6_length : PM := (yX6_length, cX6_length, 2, (some .float), tbX6_length)
theorem co_X6_length : Cond.code mX6_length.1 mX6_length.2.1 mX6_length.2.2.1 mX6_length.2.2.2.1 ∈ pGood := pGood_in 476 (by decide +kernel) (by decide +kernel)
theorem tk_X6_length : pTabOk mX6_length.2.1 mX6_length.2.2.2.2 = true := tbX6_length_ok
theorem im_X6_place : Cond.instanceMethod yX6_place ∈ pGood := pGood_in 478 (by decide +kernel) (by decide +kernel)
theorem se_X6_place : Cond.selects RX6 yX6_place yX6_place ∈ pGood := pGood_in 479 (by decide +kernel) (by decide +kernel)
def mX6_place : PM := (yX6_place, cX6_place, 2, (some .float), tbX6_place)
theorem co_X6_place : Cond.code mX6_place.1 mX6_place.2.1 mX6_place.2.2.1 mX6_place.2.2.2.1 ∈ pGood := pGood_in 480 (by decide +kernel) (by decide +kernel)
theorem tk_X6_place : pTabOk mX6_place.2.1 mX6_place.2.2.2.2 = true := tbX6_place_ok
theorem im_X6_cell : Cond.instanceMethod yX6_cell ∈ pGood := pGood_in 482 (by decide +kernel) (by decide +kernel)
theorem se_X6_cell : Cond.selects RX6 yX6_cell yX6_cell ∈ pGood := pGood_in 483 (by decide +kernel) (by decide +kernel)
def mX6_cell : PM := (yX6_cell, cX6_cell, 2, (some .int), tbX6_cell)
theorem co_X6_cell : Cond.code mX6_cell.1 mX6_cell.2.1 mX6_cell.2.2.1 mX6_cell.2.2.2.1 ∈ pGood := pGood_in 484 (by decide +kernel) (by decide +kernel)
theorem tk_X6_cell : pTabOk mX6_cell.2.1 mX6_cell.2.2.2.2 = true := tbX6_cell_ok
theorem im_X8_bad : Cond.instanceMethod yX8_bad ∈ pGood := pGood_in 487 (by decide +kernel) (by decide +kernel)
theorem se_X8_bad : Cond.selects RX8 yX8_bad yX8_bad ∈ pGood := pGood_in 488 (by decide +kernel) (by decide +kernel)
def mX8_bad : PM := (yX8_bad, cX8_bad, 3, (some .int), tbX8_bad)
theorem co_X8_bad : Cond.code mX8_bad.1 mX8_bad.2.1 mX8_bad.2.2.1 mX8_bad.2.2.2.1 ∈ pGood := pGood_in 489 (by decide +kernel) (by decide +kernel)
theorem tk_X8_bad : pTabOk mX8_bad.2.1 mX8_bad.2.2.2.2 = true := tbX8_bad_ok
theorem im_X6_fits : Cond.instanceMethod yX6_fits ∈ pGood := pGood_in 492 (by decide +kernel) (by decide +kernel)
theorem se_X6_fits : Cond.selects RX6 yX6_fits yX6_fits ∈ pGood := pGood_in 493 (by decide +kernel) (by decide +kernel)
def mX6_fits : PM := (yX6_fits, cX6_fits, 1, (some .boolean), tbX6_fits)
theorem co_X6_fits : Cond.code mX6_fits.1 mX6_fits.2.1 mX6_fits.2.2.1 mX6_fits.2.2.2.1 ∈ pGood := pGood_in 494 (by decide +kernel) (by decide +kernel)
theorem tk_X6_fits : pTabOk mX6_fits.2.1 mX6_fits.2.2.2.2 = true := tbX6_fits_ok
theorem im_X6_sum : Cond.instanceMethod yX6_sum ∈ pGood := pGood_in 497 (by decide +kernel) (by decide +kernel)
def mX6_sum : PM := (yX6_sum, cX6_sum, 4, (some .float), tbX6_sum)
theorem co_X6_sum : Cond.code mX6_sum.1 mX6_sum.2.1 mX6_sum.2.2.1 mX6_sum.2.2.2.1 ∈ pGood := pGood_in 498 (by decide +kernel) (by decide +kernel)
theorem tk_X6_sum : pTabOk mX6_sum.2.1 mX6_sum.2.2.2.2 = true := tbX6_sum_ok
theorem im_X6_badness : Cond.instanceMethod yX6_badness ∈ pGood := pGood_in 500 (by decide +kernel) (by decide +kernel)
theorem se_X6_badness : Cond.selects RX6 yX6_badness yX6_badness ∈ pGood := pGood_in 501 (by decide +kernel) (by decide +kernel)
def mX6_badness : PM := (yX6_badness, cX6_badness, 4, (some .float), tbX6_badness)
theorem co_X6_badness : Cond.code mX6_badness.1 mX6_badness.2.1 mX6_badness.2.2.1 mX6_badness.2.2.2.1 ∈ pGood := pGood_in 502 (by decide +kernel) (by decide +kernel)
theorem tk_X6_badness : pTabOk mX6_badness.2.1 mX6_badness.2.2.2.2 = true := tbX6_badness_ok
theorem kc_X6_66 : Cond.constantFloat RX6 66 1120403456 ∈ pGood := pGood_in 503 (by decide +kernel) (by decide +kernel)
theorem im_X8_sky : Cond.instanceMethod yX8_sky ∈ pGood := pGood_in 505 (by decide +kernel) (by decide +kernel)
theorem se_X8_sky : Cond.selects RX8 yX8_sky yX8_sky ∈ pGood := pGood_in 506 (by decide +kernel) (by decide +kernel)
def mX8_sky : PM := (yX8_sky, cX8_sky, 5, (some .int), tbX8_sky)
theorem co_X8_sky : Cond.code mX8_sky.1 mX8_sky.2.1 mX8_sky.2.2.1 mX8_sky.2.2.2.1 ∈ pGood := pGood_in 507 (by decide +kernel) (by decide +kernel)
theorem tk_X8_sky : pTabOk mX8_sky.2.1 mX8_sky.2.2.2.2 = true := tbX8_sky_ok
theorem im_X8_traceLine : Cond.instanceMethod yX8_traceLine ∈ pGood := pGood_in 510 (by decide +kernel) (by decide +kernel)
def mX8_traceLine : PM := (yX8_traceLine, cX8_traceLine, 4, none, tbX8_traceLine)
theorem co_X8_traceLine : Cond.code mX8_traceLine.1 mX8_traceLine.2.1 mX8_traceLine.2.2.1 mX8_traceLine.2.2.2.1 ∈ pGood := pGood_in 511 (by decide +kernel) (by decide +kernel)
theorem tk_X8_traceLine : pTabOk mX8_traceLine.2.1 mX8_traceLine.2.2.2.2 = true := tbX8_traceLine_ok
theorem im_X5_trace : Cond.instanceMethod yX5_trace ∈ pGood := pGood_in 513 (by decide +kernel) (by decide +kernel)
theorem se_X5_trace : Cond.selects RX5 yX5_trace yX5_trace ∈ pGood := pGood_in 514 (by decide +kernel) (by decide +kernel)
def mX5_trace : PM := (yX5_trace, cX5_trace, 7, none, tbX5_trace)
theorem co_X5_trace : Cond.code mX5_trace.1 mX5_trace.2.1 mX5_trace.2.2.1 mX5_trace.2.2.2.1 ∈ pGood := pGood_in 515 (by decide +kernel) (by decide +kernel)
theorem tk_X5_trace : pTabOk mX5_trace.2.1 mX5_trace.2.2.2.2 = true := tbX5_trace_ok
theorem ml_X5_45 : Cond.methodLink RX5 45 Lib.Math.min.name ∈ pGood := pGood_in 519 (by decide +kernel) (by decide +kernel)
theorem st_J9_min_7cf53 : Cond.static Lib.Math.min.name ∈ pGood := pGood_in 520 (by decide +kernel) (by decide +kernel)
theorem co_Math_min : Cond.code Lib.Math.min.name Lib.Math.min.code 2 (some .int) ∈ pGood := pGood_in 521 (by decide +kernel) (by decide +kernel)
theorem im_X5_ink : Cond.instanceMethod yX5_ink ∈ pGood := pGood_in 526 (by decide +kernel) (by decide +kernel)
def mX5_ink : PM := (yX5_ink, cX5_ink, 7, none, tbX5_ink)
theorem co_X5_ink : Cond.code mX5_ink.1 mX5_ink.2.1 mX5_ink.2.2.1 mX5_ink.2.2.2.1 ∈ pGood := pGood_in 527 (by decide +kernel) (by decide +kernel)
theorem tk_X5_ink : pTabOk mX5_ink.2.1 mX5_ink.2.2.2.2 = true := tbX5_ink_ok
theorem im_X5_hasInk : Cond.instanceMethod yX5_hasInk ∈ pGood := pGood_in 529 (by decide +kernel) (by decide +kernel)
theorem se_X5_hasInk : Cond.selects RX5 yX5_hasInk yX5_hasInk ∈ pGood := pGood_in 530 (by decide +kernel) (by decide +kernel)
def mX5_hasInk : PM := (yX5_hasInk, cX5_hasInk, 2, (some .boolean), tbX5_hasInk)
theorem co_X5_hasInk : Cond.code mX5_hasInk.1 mX5_hasInk.2.1 mX5_hasInk.2.2.1 mX5_hasInk.2.2.2.1 ∈ pGood := pGood_in 531 (by decide +kernel) (by decide +kernel)
theorem tk_X5_hasInk : pTabOk mX5_hasInk.2.1 mX5_hasInk.2.2.2.2 = true := tbX5_hasInk_ok
theorem im_X5_upper : Cond.instanceMethod yX5_upper ∈ pGood := pGood_in 534 (by decide +kernel) (by decide +kernel)
theorem se_X5_upper : Cond.selects RX5 yX5_upper yX5_upper ∈ pGood := pGood_in 535 (by decide +kernel) (by decide +kernel)
def mX5_upper : PM := (yX5_upper, cX5_upper, 2, (some .int), tbX5_upper)
theorem co_X5_upper : Cond.code mX5_upper.1 mX5_upper.2.1 mX5_upper.2.2.1 mX5_upper.2.2.2.1 ∈ pGood := pGood_in 536 (by decide +kernel) (by decide +kernel)
theorem tk_X5_upper : pTabOk mX5_upper.2.1 mX5_upper.2.2.2.2 = true := tbX5_upper_ok
theorem ml_X5_75 : Cond.methodLink RX5 75 Lib.Math.max.name ∈ pGood := pGood_in 538 (by decide +kernel) (by decide +kernel)
theorem st_J9_max_7cf53 : Cond.static Lib.Math.max.name ∈ pGood := pGood_in 539 (by decide +kernel) (by decide +kernel)
theorem co_Math_max : Cond.code Lib.Math.max.name Lib.Math.max.code 2 (some .int) ∈ pGood := pGood_in 540 (by decide +kernel) (by decide +kernel)
theorem im_X5_lower : Cond.instanceMethod yX5_lower ∈ pGood := pGood_in 543 (by decide +kernel) (by decide +kernel)
theorem se_X5_lower : Cond.selects RX5 yX5_lower yX5_lower ∈ pGood := pGood_in 544 (by decide +kernel) (by decide +kernel)
def mX5_lower : PM := (yX5_lower, cX5_lower, 2, (some .int), tbX5_lower)
theorem co_X5_lower : Cond.code mX5_lower.1 mX5_lower.2.1 mX5_lower.2.2.1 mX5_lower.2.2.2.1 ∈ pGood := pGood_in 545 (by decide +kernel) (by decide +kernel)
theorem tk_X5_lower : pTabOk mX5_lower.2.1 mX5_lower.2.2.2.2 = true := tbX5_lower_ok
theorem im_X8_apart : Cond.instanceMethod yX8_apart ∈ pGood := pGood_in 550 (by decide +kernel) (by decide +kernel)
theorem se_X8_apart : Cond.selects RX8 yX8_apart yX8_apart ∈ pGood := pGood_in 551 (by decide +kernel) (by decide +kernel)
def mX8_apart : PM := (yX8_apart, cX8_apart, 5, (some .int), tbX8_apart)
theorem co_X8_apart : Cond.code mX8_apart.1 mX8_apart.2.1 mX8_apart.2.2.1 mX8_apart.2.2.2.1 ∈ pGood := pGood_in 552 (by decide +kernel) (by decide +kernel)
theorem tk_X8_apart : pTabOk mX8_apart.2.1 mX8_apart.2.2.2.2 = true := tbX8_apart_ok
theorem im_X8_distance : Cond.instanceMethod yX8_distance ∈ pGood := pGood_in 555 (by decide +kernel) (by decide +kernel)
def mX8_distance : PM := (yX8_distance, cX8_distance, 7, (some .int), tbX8_distance)
theorem co_X8_distance : Cond.code mX8_distance.1 mX8_distance.2.1 mX8_distance.2.2.1 mX8_distance.2.2.2.1 ∈ pGood := pGood_in 556 (by decide +kernel) (by decide +kernel)
theorem tk_X8_distance : pTabOk mX8_distance.2.1 mX8_distance.2.2.2.2 = true := tbX8_distance_ok
theorem ml_X8_339 : Cond.methodLink RX8 339 Lib.Math.max.name ∈ pGood := pGood_in 557 (by decide +kernel) (by decide +kernel)
theorem im_X8_lines : Cond.instanceMethod yX8_lines ∈ pGood := pGood_in 559 (by decide +kernel) (by decide +kernel)
theorem se_X8_lines : Cond.selects RX8 yX8_lines yX8_lines ∈ pGood := pGood_in 560 (by decide +kernel) (by decide +kernel)
def mX8_lines : PM := (yX8_lines, cX8_lines, 1, (some .int), tbX8_lines)
theorem co_X8_lines : Cond.code mX8_lines.1 mX8_lines.2.1 mX8_lines.2.2.1 mX8_lines.2.2.2.1 ∈ pGood := pGood_in 561 (by decide +kernel) (by decide +kernel)
theorem tk_X8_lines : pTabOk mX8_lines.2.1 mX8_lines.2.2.2.2 = true := tbX8_lines_ok
theorem im_X8_findBest : Cond.instanceMethod yX8_findBest ∈ pGood := pGood_in 564 (by decide +kernel) (by decide +kernel)
def mX8_findBest : PM := (yX8_findBest, cX8_findBest, 1, none, tbX8_findBest)
theorem co_X8_findBest : Cond.code mX8_findBest.1 mX8_findBest.2.1 mX8_findBest.2.2.1 mX8_findBest.2.2.2.1 ∈ pGood := pGood_in 565 (by decide +kernel) (by decide +kernel)
theorem tk_X8_findBest : pTabOk mX8_findBest.2.1 mX8_findBest.2.2.2.2 = true := tbX8_findBest_ok
theorem im_X0_find : Cond.instanceMethod yX0_find ∈ pGood := pGood_in 567 (by decide +kernel) (by decide +kernel)
theorem se_X0_find : Cond.selects RX0 yX0_find yX0_find ∈ pGood := pGood_in 568 (by decide +kernel) (by decide +kernel)
def mX0_find : PM := (yX0_find, cX0_find, 5, none, tbX0_find)
theorem co_X0_find : Cond.code mX0_find.1 mX0_find.2.1 mX0_find.2.2.1 mX0_find.2.2.2.1 ∈ pGood := pGood_in 569 (by decide +kernel) (by decide +kernel)
theorem tk_X0_find : pTabOk mX0_find.2.1 mX0_find.2.2.2.2 = true := tbX0_find_ok
theorem im_X0_reach : Cond.instanceMethod yX0_reach ∈ pGood := pGood_in 575 (by decide +kernel) (by decide +kernel)
def mX0_reach : PM := (yX0_reach, cX0_reach, 6, none, tbX0_reach)
theorem co_X0_reach : Cond.code mX0_reach.1 mX0_reach.2.1 mX0_reach.2.2.1 mX0_reach.2.2.2.1 ∈ pGood := pGood_in 576 (by decide +kernel) (by decide +kernel)
theorem tk_X0_reach : pTabOk mX0_reach.2.1 mX0_reach.2.2.2.2 = true := tbX0_reach_ok
theorem im_X0_traceBack : Cond.instanceMethod yX0_traceBack ∈ pGood := pGood_in 584 (by decide +kernel) (by decide +kernel)
def mX0_traceBack : PM := (yX0_traceBack, cX0_traceBack, 4, none, tbX0_traceBack)
theorem co_X0_traceBack : Cond.code mX0_traceBack.1 mX0_traceBack.2.1 mX0_traceBack.2.2.1 mX0_traceBack.2.2.2.1 ∈ pGood := pGood_in 585 (by decide +kernel) (by decide +kernel)
theorem tk_X0_traceBack : pTabOk mX0_traceBack.2.1 mX0_traceBack.2.2.2.2 = true := tbX0_traceBack_ok
theorem im_X8_line : Cond.instanceMethod yX8_line ∈ pGood := pGood_in 587 (by decide +kernel) (by decide +kernel)
theorem se_X8_line : Cond.selects RX8 yX8_line yX8_line ∈ pGood := pGood_in 588 (by decide +kernel) (by decide +kernel)
def mX8_line : PM := (yX8_line, cX8_line, 5, (some .int), tbX8_line)
theorem co_X8_line : Cond.code mX8_line.1 mX8_line.2.1 mX8_line.2.2.1 mX8_line.2.2.2.1 ∈ pGood := pGood_in 589 (by decide +kernel) (by decide +kernel)
theorem tk_X8_line : pTabOk mX8_line.2.1 mX8_line.2.2.2.2 = true := tbX8_line_ok
theorem im_X0_first : Cond.instanceMethod yX0_first ∈ pGood := pGood_in 591 (by decide +kernel) (by decide +kernel)
theorem se_X0_first : Cond.selects RX0 yX0_first yX0_first ∈ pGood := pGood_in 592 (by decide +kernel) (by decide +kernel)
def mX0_first : PM := (yX0_first, cX0_first, 2, (some .int), tbX0_first)
theorem co_X0_first : Cond.code mX0_first.1 mX0_first.2.1 mX0_first.2.2.1 mX0_first.2.2.2.1 ∈ pGood := pGood_in 593 (by decide +kernel) (by decide +kernel)
theorem tk_X0_first : pTabOk mX0_first.2.1 mX0_first.2.2.2.2 = true := tbX0_first_ok
theorem im_X0_last : Cond.instanceMethod yX0_last ∈ pGood := pGood_in 595 (by decide +kernel) (by decide +kernel)
theorem se_X0_last : Cond.selects RX0 yX0_last yX0_last ∈ pGood := pGood_in 596 (by decide +kernel) (by decide +kernel)
def mX0_last : PM := (yX0_last, cX0_last, 2, (some .int), tbX0_last)
theorem co_X0_last : Cond.code mX0_last.1 mX0_last.2.1 mX0_last.2.2.1 mX0_last.2.2.2.1 ∈ pGood := pGood_in 597 (by decide +kernel) (by decide +kernel)
theorem tk_X0_last : pTabOk mX0_last.2.1 mX0_last.2.2.2.2 = true := tbX0_last_ok
theorem im_X8_total : Cond.instanceMethod yX8_total ∈ pGood := pGood_in 599 (by decide +kernel) (by decide +kernel)
theorem se_X8_total : Cond.selects RX8 yX8_total yX8_total ∈ pGood := pGood_in 600 (by decide +kernel) (by decide +kernel)
def mX8_total : PM := (yX8_total, cX8_total, 1, (some .int), tbX8_total)
theorem co_X8_total : Cond.code mX8_total.1 mX8_total.2.1 mX8_total.2.2.1 mX8_total.2.2.2.1 ∈ pGood := pGood_in 601 (by decide +kernel) (by decide +kernel)
theorem tk_X8_total : pTabOk mX8_total.2.1 mX8_total.2.2.2.2 = true := tbX8_total_ok
theorem im_X8_moved : Cond.instanceMethod yX8_moved ∈ pGood := pGood_in 603 (by decide +kernel) (by decide +kernel)
theorem se_X8_moved : Cond.selects RX8 yX8_moved yX8_moved ∈ pGood := pGood_in 604 (by decide +kernel) (by decide +kernel)
def mX8_moved : PM := (yX8_moved, cX8_moved, 7, (some .int), tbX8_moved)
theorem co_X8_moved : Cond.code mX8_moved.1 mX8_moved.2.1 mX8_moved.2.2.1 mX8_moved.2.2.2.1 ∈ pGood := pGood_in 605 (by decide +kernel) (by decide +kernel)
theorem tk_X8_moved : pTabOk mX8_moved.2.1 mX8_moved.2.2.2.2 = true := tbX8_moved_ok
theorem im_X4_become : Cond.instanceMethod yX4_become ∈ pGood := pGood_in 607 (by decide +kernel) (by decide +kernel)
theorem se_X4_become : Cond.selects RX4 yX4_become yX4_become ∈ pGood := pGood_in 608 (by decide +kernel) (by decide +kernel)
def mX4_become : PM := (yX4_become, cX4_become, 2, none, tbX4_become)
theorem co_X4_become : Cond.code mX4_become.1 mX4_become.2.1 mX4_become.2.2.1 mX4_become.2.2.2.1 ∈ pGood := pGood_in 609 (by decide +kernel) (by decide +kernel)
theorem tk_X4_become : pTabOk mX4_become.2.1 mX4_become.2.2.2.2 = true := tbX4_become_ok
theorem st_X8_copy : Cond.static yX8_copy ∈ pGood := pGood_in 611 (by decide +kernel) (by decide +kernel)
def mX8_copy : PM := (yX8_copy, cX8_copy, 3, none, tbX8_copy)
theorem co_X8_copy : Cond.code mX8_copy.1 mX8_copy.2.1 mX8_copy.2.2.1 mX8_copy.2.2.2.1 ∈ pGood := pGood_in 612 (by decide +kernel) (by decide +kernel)
theorem tk_X8_copy : pTabOk mX8_copy.2.1 mX8_copy.2.2.2.2 = true := tbX8_copy_ok
theorem im_X8_standsOtherwise : Cond.instanceMethod yX8_standsOtherwise ∈ pGood := pGood_in 615 (by decide +kernel) (by decide +kernel)
def mX8_standsOtherwise : PM := (yX8_standsOtherwise, cX8_standsOtherwise, 5, (some .boolean), tbX8_standsOtherwise)
theorem co_X8_standsOtherwise : Cond.code mX8_standsOtherwise.1 mX8_standsOtherwise.2.1 mX8_standsOtherwise.2.2.1 mX8_standsOtherwise.2.2.2.1 ∈ pGood := pGood_in 616 (by decide +kernel) (by decide +kernel)
theorem tk_X8_standsOtherwise : pTabOk mX8_standsOtherwise.2.1 mX8_standsOtherwise.2.2.2.2 = true := tbX8_standsOtherwise_ok
theorem im_X8_beam : Cond.instanceMethod yX8_beam ∈ pGood := pGood_in 618 (by decide +kernel) (by decide +kernel)
theorem se_X8_beam : Cond.selects RX8 yX8_beam yX8_beam ∈ pGood := pGood_in 619 (by decide +kernel) (by decide +kernel)
def mX8_beam : PM := (yX8_beam, cX8_beam, 4, (some .int), tbX8_beam)
theorem co_X8_beam : Cond.code mX8_beam.1 mX8_beam.2.1 mX8_beam.2.2.1 mX8_beam.2.2.2.1 ∈ pGood := pGood_in 620 (by decide +kernel) (by decide +kernel)
theorem tk_X8_beam : pTabOk mX8_beam.2.1 mX8_beam.2.2.2.2 = true := tbX8_beam_ok
theorem im_X8_areNotes : Cond.instanceMethod yX8_areNotes ∈ pGood := pGood_in 623 (by decide +kernel) (by decide +kernel)
def mX8_areNotes : PM := (yX8_areNotes, cX8_areNotes, 4, (some .boolean), tbX8_areNotes)
theorem co_X8_areNotes : Cond.code mX8_areNotes.1 mX8_areNotes.2.1 mX8_areNotes.2.2.1 mX8_areNotes.2.2.2.1 ∈ pGood := pGood_in 624 (by decide +kernel) (by decide +kernel)
theorem tk_X8_areNotes : pTabOk mX8_areNotes.2.1 mX8_areNotes.2.2.2.2 = true := tbX8_areNotes_ok
theorem im_X8_beamRise : Cond.instanceMethod yX8_beamRise ∈ pGood := pGood_in 627 (by decide +kernel) (by decide +kernel)
def mX8_beamRise : PM := (yX8_beamRise, cX8_beamRise, 5, (some .float), tbX8_beamRise)
theorem co_X8_beamRise : Cond.code mX8_beamRise.1 mX8_beamRise.2.1 mX8_beamRise.2.2.1 mX8_beamRise.2.2.2.1 ∈ pGood := pGood_in 628 (by decide +kernel) (by decide +kernel)
theorem tk_X8_beamRise : pTabOk mX8_beamRise.2.1 mX8_beamRise.2.2.2.2 = true := tbX8_beamRise_ok
theorem kc_X8_344 : Cond.constantFloat RX8 344 1056964608 ∈ pGood := pGood_in 629 (by decide +kernel) (by decide +kernel)
theorem im_X8_beamSlope : Cond.instanceMethod yX8_beamSlope ∈ pGood := pGood_in 632 (by decide +kernel) (by decide +kernel)
def mX8_beamSlope : PM := (yX8_beamSlope, cX8_beamSlope, 6, (some .float), tbX8_beamSlope)
theorem co_X8_beamSlope : Cond.code mX8_beamSlope.1 mX8_beamSlope.2.1 mX8_beamSlope.2.2.1 mX8_beamSlope.2.2.2.1 ∈ pGood := pGood_in 633 (by decide +kernel) (by decide +kernel)
theorem tk_X8_beamSlope : pTabOk mX8_beamSlope.2.1 mX8_beamSlope.2.2.2.2 = true := tbX8_beamSlope_ok
theorem kc_X8_345 : Cond.constantFloat RX8 345 1082130432 ∈ pGood := pGood_in 634 (by decide +kernel) (by decide +kernel)
theorem kc_X8_346 : Cond.constantFloat RX8 346 3204448256 ∈ pGood := pGood_in 635 (by decide +kernel) (by decide +kernel)
theorem im_X8_beamGoesUp : Cond.instanceMethod yX8_beamGoesUp ∈ pGood := pGood_in 638 (by decide +kernel) (by decide +kernel)
def mX8_beamGoesUp : PM := (yX8_beamGoesUp, cX8_beamGoesUp, 5, (some .boolean), tbX8_beamGoesUp)
theorem co_X8_beamGoesUp : Cond.code mX8_beamGoesUp.1 mX8_beamGoesUp.2.1 mX8_beamGoesUp.2.2.1 mX8_beamGoesUp.2.2.2.1 ∈ pGood := pGood_in 639 (by decide +kernel) (by decide +kernel)
theorem tk_X8_beamGoesUp : pTabOk mX8_beamGoesUp.2.1 mX8_beamGoesUp.2.2.2.2 = true := tbX8_beamGoesUp_ok
theorem im_X8_beamLift : Cond.instanceMethod yX8_beamLift ∈ pGood := pGood_in 642 (by decide +kernel) (by decide +kernel)
def mX8_beamLift : PM := (yX8_beamLift, cX8_beamLift, 11, (some .float), tbX8_beamLift)
theorem co_X8_beamLift : Cond.code mX8_beamLift.1 mX8_beamLift.2.1 mX8_beamLift.2.2.1 mX8_beamLift.2.2.2.1 ∈ pGood := pGood_in 643 (by decide +kernel) (by decide +kernel)
theorem tk_X8_beamLift : pTabOk mX8_beamLift.2.1 mX8_beamLift.2.2.2.2 = true := tbX8_beamLift_ok
theorem kc_X8_347 : Cond.constantFloat RX8 347 1084227584 ∈ pGood := pGood_in 644 (by decide +kernel) (by decide +kernel)
theorem im_X8_slur : Cond.instanceMethod yX8_slur ∈ pGood := pGood_in 646 (by decide +kernel) (by decide +kernel)
theorem se_X8_slur : Cond.selects RX8 yX8_slur yX8_slur ∈ pGood := pGood_in 647 (by decide +kernel) (by decide +kernel)
def mX8_slur : PM := (yX8_slur, cX8_slur, 8, (some .int), tbX8_slur)
theorem co_X8_slur : Cond.code mX8_slur.1 mX8_slur.2.1 mX8_slur.2.2.1 mX8_slur.2.2.2.1 ∈ pGood := pGood_in 648 (by decide +kernel) (by decide +kernel)
theorem tk_X8_slur : pTabOk mX8_slur.2.1 mX8_slur.2.2.2.2 = true := tbX8_slur_ok
theorem im_X8_slurHeight : Cond.instanceMethod yX8_slurHeight ∈ pGood := pGood_in 651 (by decide +kernel) (by decide +kernel)
def mX8_slurHeight : PM := (yX8_slurHeight, cX8_slurHeight, 9, (some .int), tbX8_slurHeight)
theorem co_X8_slurHeight : Cond.code mX8_slurHeight.1 mX8_slurHeight.2.1 mX8_slurHeight.2.2.1 mX8_slurHeight.2.2.2.1 ∈ pGood := pGood_in 652 (by decide +kernel) (by decide +kernel)
theorem tk_X8_slurHeight : pTabOk mX8_slurHeight.2.1 mX8_slurHeight.2.2.2.2 = true := tbX8_slurHeight_ok
theorem im_X8_inkTowards : Cond.instanceMethod yX8_inkTowards ∈ pGood := pGood_in 655 (by decide +kernel) (by decide +kernel)
def mX8_inkTowards : PM := (yX8_inkTowards, cX8_inkTowards, 3, (some .int), tbX8_inkTowards)
theorem co_X8_inkTowards : Cond.code mX8_inkTowards.1 mX8_inkTowards.2.1 mX8_inkTowards.2.2.1 mX8_inkTowards.2.2.2.1 ∈ pGood := pGood_in 656 (by decide +kernel) (by decide +kernel)
theorem tk_X8_inkTowards : pTabOk mX8_inkTowards.2.1 mX8_inkTowards.2.2.2.2 = true := tbX8_inkTowards_ok
theorem ml_X8_352 : Cond.methodLink RX8 352 Lib.Math.min.name ∈ pGood := pGood_in 657 (by decide +kernel) (by decide +kernel)
theorem st_X8_isHeight : Cond.static yX8_isHeight ∈ pGood := pGood_in 659 (by decide +kernel) (by decide +kernel)
def mX8_isHeight : PM := (yX8_isHeight, cX8_isHeight, 1, (some .boolean), tbX8_isHeight)
theorem co_X8_isHeight : Cond.code mX8_isHeight.1 mX8_isHeight.2.1 mX8_isHeight.2.2.1 mX8_isHeight.2.2.2.1 ∈ pGood := pGood_in 660 (by decide +kernel) (by decide +kernel)
theorem tk_X8_isHeight : pTabOk mX8_isHeight.2.1 mX8_isHeight.2.2.2.2 = true := tbX8_isHeight_ok
theorem im_X8_feed : Cond.instanceMethod yX8_feed ∈ pGood := pGood_in 662 (by decide +kernel) (by decide +kernel)
theorem se_X8_feed : Cond.selects RX8 yX8_feed yX8_feed ∈ pGood := pGood_in 663 (by decide +kernel) (by decide +kernel)
def mX8_feed : PM := (yX8_feed, cX8_feed, 2, (some .int), tbX8_feed)
theorem co_X8_feed : Cond.code mX8_feed.1 mX8_feed.2.1 mX8_feed.2.2.1 mX8_feed.2.2.2.1 ∈ pGood := pGood_in 664 (by decide +kernel) (by decide +kernel)
theorem tk_X8_feed : pTabOk mX8_feed.2.1 mX8_feed.2.2.2.2 = true := tbX8_feed_ok
theorem im_X7_append : Cond.instanceMethod yX7_append ∈ pGood := pGood_in 666 (by decide +kernel) (by decide +kernel)
theorem se_X7_append : Cond.selects RX7 yX7_append yX7_append ∈ pGood := pGood_in 667 (by decide +kernel) (by decide +kernel)
def mX7_append : PM := (yX7_append, cX7_append, 2, none, tbX7_append)
theorem co_X7_append : Cond.code mX7_append.1 mX7_append.2.1 mX7_append.2.2.1 mX7_append.2.2.2.1 ∈ pGood := pGood_in 668 (by decide +kernel) (by decide +kernel)
theorem tk_X7_append : pTabOk mX7_append.2.1 mX7_append.2.2.2.2 = true := tbX7_append_ok
theorem im_X8_music : Cond.instanceMethod yX8_music ∈ pGood := pGood_in 671 (by decide +kernel) (by decide +kernel)
theorem se_X8_music : Cond.selects RX8 yX8_music yX8_music ∈ pGood := pGood_in 672 (by decide +kernel) (by decide +kernel)
def mX8_music : PM := (yX8_music, cX8_music, 2, (some .int), tbX8_music)
theorem co_X8_music : Cond.code mX8_music.1 mX8_music.2.1 mX8_music.2.2.1 mX8_music.2.2.2.1 ∈ pGood := pGood_in 673 (by decide +kernel) (by decide +kernel)
theorem tk_X8_music : pTabOk mX8_music.2.1 mX8_music.2.2.2.2 = true := tbX8_music_ok
theorem im_X7_readMusic : Cond.instanceMethod yX7_readMusic ∈ pGood := pGood_in 675 (by decide +kernel) (by decide +kernel)
theorem se_X7_readMusic : Cond.selects RX7 yX7_readMusic yX7_readMusic ∈ pGood := pGood_in 676 (by decide +kernel) (by decide +kernel)
def mX7_readMusic : PM := (yX7_readMusic, cX7_readMusic, 2, (some .int), tbX7_readMusic)
theorem co_X7_readMusic : Cond.code mX7_readMusic.1 mX7_readMusic.2.1 mX7_readMusic.2.2.1 mX7_readMusic.2.2.2.1 ∈ pGood := pGood_in 677 (by decide +kernel) (by decide +kernel)
theorem tk_X7_readMusic : pTabOk mX7_readMusic.2.1 mX7_readMusic.2.2.2.2 = true := tbX7_readMusic_ok
theorem im_X7_readSign : Cond.instanceMethod yX7_readSign ∈ pGood := pGood_in 680 (by decide +kernel) (by decide +kernel)
def mX7_readSign : PM := (yX7_readSign, cX7_readSign, 6, (some .boolean), tbX7_readSign)
theorem co_X7_readSign : Cond.code mX7_readSign.1 mX7_readSign.2.1 mX7_readSign.2.2.1 mX7_readSign.2.2.2.1 ∈ pGood := pGood_in 681 (by decide +kernel) (by decide +kernel)
theorem tk_X7_readSign : pTabOk mX7_readSign.2.1 mX7_readSign.2.2.2.2 = true := tbX7_readSign_ok
theorem im_X7_isNext : Cond.instanceMethod yX7_isNext ∈ pGood := pGood_in 684 (by decide +kernel) (by decide +kernel)
def mX7_isNext : PM := (yX7_isNext, cX7_isNext, 2, (some .boolean), tbX7_isNext)
theorem co_X7_isNext : Cond.code mX7_isNext.1 mX7_isNext.2.1 mX7_isNext.2.2.1 mX7_isNext.2.2.2.1 ∈ pGood := pGood_in 685 (by decide +kernel) (by decide +kernel)
theorem tk_X7_isNext : pTabOk mX7_isNext.2.1 mX7_isNext.2.2.2.2 = true := tbX7_isNext_ok
theorem im_X7_readNumber : Cond.instanceMethod yX7_readNumber ∈ pGood := pGood_in 689 (by decide +kernel) (by decide +kernel)
def mX7_readNumber : PM := (yX7_readNumber, cX7_readNumber, 5, (some .int), tbX7_readNumber)
theorem co_X7_readNumber : Cond.code mX7_readNumber.1 mX7_readNumber.2.1 mX7_readNumber.2.2.1 mX7_readNumber.2.2.2.1 ∈ pGood := pGood_in 690 (by decide +kernel) (by decide +kernel)
theorem tk_X7_readNumber : pTabOk mX7_readNumber.2.1 mX7_readNumber.2.2.2.2 = true := tbX7_readNumber_ok
theorem im_X7_digit : Cond.instanceMethod yX7_digit ∈ pGood := pGood_in 693 (by decide +kernel) (by decide +kernel)
def mX7_digit : PM := (yX7_digit, cX7_digit, 2, (some .int), tbX7_digit)
theorem co_X7_digit : Cond.code mX7_digit.1 mX7_digit.2.1 mX7_digit.2.2.1 mX7_digit.2.2.2.1 ∈ pGood := pGood_in 694 (by decide +kernel) (by decide +kernel)
theorem tk_X7_digit : pTabOk mX7_digit.2.1 mX7_digit.2.2.2.2 = true := tbX7_digit_ok
theorem im_X7_readAdorn : Cond.instanceMethod yX7_readAdorn ∈ pGood := pGood_in 697 (by decide +kernel) (by decide +kernel)
def mX7_readAdorn : PM := (yX7_readAdorn, cX7_readAdorn, 2, (some .int), tbX7_readAdorn)
theorem co_X7_readAdorn : Cond.code mX7_readAdorn.1 mX7_readAdorn.2.1 mX7_readAdorn.2.2.1 mX7_readAdorn.2.2.2.1 ∈ pGood := pGood_in 698 (by decide +kernel) (by decide +kernel)
theorem tk_X7_readAdorn : pTabOk mX7_readAdorn.2.1 mX7_readAdorn.2.2.2.2 = true := tbX7_readAdorn_ok
theorem im_X7_keep : Cond.instanceMethod yX7_keep ∈ pGood := pGood_in 701 (by decide +kernel) (by decide +kernel)
def mX7_keep : PM := (yX7_keep, cX7_keep, 5, none, tbX7_keep)
theorem co_X7_keep : Cond.code mX7_keep.1 mX7_keep.2.1 mX7_keep.2.2.1 mX7_keep.2.2.2.1 ∈ pGood := pGood_in 702 (by decide +kernel) (by decide +kernel)
theorem tk_X7_keep : pTabOk mX7_keep.2.1 mX7_keep.2.2.2.2 = true := tbX7_keep_ok
theorem im_X8_shelf : Cond.instanceMethod yX8_shelf ∈ pGood := pGood_in 705 (by decide +kernel) (by decide +kernel)
theorem se_X8_shelf : Cond.selects RX8 yX8_shelf yX8_shelf ∈ pGood := pGood_in 706 (by decide +kernel) (by decide +kernel)
def mX8_shelf : PM := (yX8_shelf, cX8_shelf, 5, (some .int), tbX8_shelf)
theorem co_X8_shelf : Cond.code mX8_shelf.1 mX8_shelf.2.1 mX8_shelf.2.2.1 mX8_shelf.2.2.2.1 ∈ pGood := pGood_in 707 (by decide +kernel) (by decide +kernel)
theorem tk_X8_shelf : pTabOk mX8_shelf.2.1 mX8_shelf.2.2.2.2 = true := tbX8_shelf_ok
theorem im_X1_clearShelf : Cond.instanceMethod yX1_clearShelf ∈ pGood := pGood_in 709 (by decide +kernel) (by decide +kernel)
theorem se_X1_clearShelf : Cond.selects RX1 yX1_clearShelf yX1_clearShelf ∈ pGood := pGood_in 710 (by decide +kernel) (by decide +kernel)
def mX1_clearShelf : PM := (yX1_clearShelf, cX1_clearShelf, 5, none, tbX1_clearShelf)
theorem co_X1_clearShelf : Cond.code mX1_clearShelf.1 mX1_clearShelf.2.1 mX1_clearShelf.2.2.1 mX1_clearShelf.2.2.2.1 ∈ pGood := pGood_in 711 (by decide +kernel) (by decide +kernel)
theorem tk_X1_clearShelf : pTabOk mX1_clearShelf.2.1 mX1_clearShelf.2.2.2.2 = true := tbX1_clearShelf_ok
theorem st_X1_place : Cond.static yX1_place ∈ pGood := pGood_in 714 (by decide +kernel) (by decide +kernel)
def mX1_place : PM := (yX1_place, cX1_place, 2, (some .int), tbX1_place)
theorem co_X1_place : Cond.code mX1_place.1 mX1_place.2.1 mX1_place.2.2.1 mX1_place.2.2.2.1 ∈ pGood := pGood_in 715 (by decide +kernel) (by decide +kernel)
theorem tk_X1_place : pTabOk mX1_place.2.1 mX1_place.2.2.2.2 = true := tbX1_place_ok
theorem im_X4_clear : Cond.instanceMethod yX4_clear ∈ pGood := pGood_in 717 (by decide +kernel) (by decide +kernel)
theorem se_X4_clear : Cond.selects RX4 yX4_clear yX4_clear ∈ pGood := pGood_in 718 (by decide +kernel) (by decide +kernel)
def mX4_clear : PM := (yX4_clear, cX4_clear, 2, none, tbX4_clear)
theorem co_X4_clear : Cond.code mX4_clear.1 mX4_clear.2.1 mX4_clear.2.2.1 mX4_clear.2.2.2.1 ∈ pGood := pGood_in 719 (by decide +kernel) (by decide +kernel)
theorem tk_X4_clear : pTabOk mX4_clear.2.1 mX4_clear.2.2.2.2 = true := tbX4_clear_ok
theorem im_X8_store : Cond.instanceMethod yX8_store ∈ pGood := pGood_in 722 (by decide +kernel) (by decide +kernel)
theorem se_X8_store : Cond.selects RX8 yX8_store yX8_store ∈ pGood := pGood_in 723 (by decide +kernel) (by decide +kernel)
def mX8_store : PM := (yX8_store, cX8_store, 4, (some .int), tbX8_store)
theorem co_X8_store : Cond.code mX8_store.1 mX8_store.2.1 mX8_store.2.2.1 mX8_store.2.2.2.1 ∈ pGood := pGood_in 724 (by decide +kernel) (by decide +kernel)
theorem tk_X8_store : pTabOk mX8_store.2.1 mX8_store.2.2.2.2 = true := tbX8_store_ok
theorem im_X1_hasPlace : Cond.instanceMethod yX1_hasPlace ∈ pGood := pGood_in 726 (by decide +kernel) (by decide +kernel)
theorem se_X1_hasPlace : Cond.selects RX1 yX1_hasPlace yX1_hasPlace ∈ pGood := pGood_in 727 (by decide +kernel) (by decide +kernel)
def mX1_hasPlace : PM := (yX1_hasPlace, cX1_hasPlace, 3, (some .boolean), tbX1_hasPlace)
theorem co_X1_hasPlace : Cond.code mX1_hasPlace.1 mX1_hasPlace.2.1 mX1_hasPlace.2.2.1 mX1_hasPlace.2.2.2.1 ∈ pGood := pGood_in 728 (by decide +kernel) (by decide +kernel)
theorem tk_X1_hasPlace : pTabOk mX1_hasPlace.2.1 mX1_hasPlace.2.2.2.2 = true := tbX1_hasPlace_ok
theorem im_X1_shelfKind : Cond.instanceMethod yX1_shelfKind ∈ pGood := pGood_in 730 (by decide +kernel) (by decide +kernel)
theorem se_X1_shelfKind : Cond.selects RX1 yX1_shelfKind yX1_shelfKind ∈ pGood := pGood_in 731 (by decide +kernel) (by decide +kernel)
def mX1_shelfKind : PM := (yX1_shelfKind, cX1_shelfKind, 2, (some .int), tbX1_shelfKind)
theorem co_X1_shelfKind : Cond.code mX1_shelfKind.1 mX1_shelfKind.2.1 mX1_shelfKind.2.2.1 mX1_shelfKind.2.2.2.1 ∈ pGood := pGood_in 732 (by decide +kernel) (by decide +kernel)
theorem tk_X1_shelfKind : pTabOk mX1_shelfKind.2.1 mX1_shelfKind.2.2.2.2 = true := tbX1_shelfKind_ok
theorem im_X4_copySign : Cond.instanceMethod yX4_copySign ∈ pGood := pGood_in 737 (by decide +kernel) (by decide +kernel)
theorem se_X4_copySign : Cond.selects RX4 yX4_copySign yX4_copySign ∈ pGood := pGood_in 738 (by decide +kernel) (by decide +kernel)
def mX4_copySign : PM := (yX4_copySign, cX4_copySign, 5, none, tbX4_copySign)
theorem co_X4_copySign : Cond.code mX4_copySign.1 mX4_copySign.2.1 mX4_copySign.2.2.1 mX4_copySign.2.2.2.1 ∈ pGood := pGood_in 739 (by decide +kernel) (by decide +kernel)
theorem tk_X4_copySign : pTabOk mX4_copySign.2.1 mX4_copySign.2.2.2.2 = true := tbX4_copySign_ok
theorem im_X8_fetch : Cond.instanceMethod yX8_fetch ∈ pGood := pGood_in 741 (by decide +kernel) (by decide +kernel)
theorem se_X8_fetch : Cond.selects RX8 yX8_fetch yX8_fetch ∈ pGood := pGood_in 742 (by decide +kernel) (by decide +kernel)
def mX8_fetch : PM := (yX8_fetch, cX8_fetch, 5, (some .int), tbX8_fetch)
theorem co_X8_fetch : Cond.code mX8_fetch.1 mX8_fetch.2.1 mX8_fetch.2.2.1 mX8_fetch.2.2.2.1 ∈ pGood := pGood_in 743 (by decide +kernel) (by decide +kernel)
theorem tk_X8_fetch : pTabOk mX8_fetch.2.1 mX8_fetch.2.2.2.2 = true := tbX8_fetch_ok
theorem im_X4_isMissing : Cond.instanceMethod yX4_isMissing ∈ pGood := pGood_in 745 (by decide +kernel) (by decide +kernel)
theorem se_X4_isMissing : Cond.selects RX4 yX4_isMissing yX4_isMissing ∈ pGood := pGood_in 746 (by decide +kernel) (by decide +kernel)
def mX4_isMissing : PM := (yX4_isMissing, cX4_isMissing, 2, (some .boolean), tbX4_isMissing)
theorem co_X4_isMissing : Cond.code mX4_isMissing.1 mX4_isMissing.2.1 mX4_isMissing.2.2.1 mX4_isMissing.2.2.2.1 ∈ pGood := pGood_in 747 (by decide +kernel) (by decide +kernel)
theorem tk_X4_isMissing : pTabOk mX4_isMissing.2.1 mX4_isMissing.2.2.2.2 = true := tbX4_isMissing_ok
theorem im_X8_comes : Cond.instanceMethod yX8_comes ∈ pGood := pGood_in 749 (by decide +kernel) (by decide +kernel)
theorem se_X8_comes : Cond.selects RX8 yX8_comes yX8_comes ∈ pGood := pGood_in 750 (by decide +kernel) (by decide +kernel)
def mX8_comes : PM := (yX8_comes, cX8_comes, 5, (some .int), tbX8_comes)
theorem co_X8_comes : Cond.code mX8_comes.1 mX8_comes.2.1 mX8_comes.2.2.1 mX8_comes.2.2.2.1 ∈ pGood := pGood_in 751 (by decide +kernel) (by decide +kernel)
theorem tk_X8_comes : pTabOk mX8_comes.2.1 mX8_comes.2.2.2.2 = true := tbX8_comes_ok
theorem im_X8_sheet : Cond.instanceMethod yX8_sheet ∈ pGood := pGood_in 753 (by decide +kernel) (by decide +kernel)
theorem se_X8_sheet : Cond.selects RX8 yX8_sheet yX8_sheet ∈ pGood := pGood_in 754 (by decide +kernel) (by decide +kernel)
def mX8_sheet : PM := (yX8_sheet, cX8_sheet, 4, (some .int), tbX8_sheet)
theorem co_X8_sheet : Cond.code mX8_sheet.1 mX8_sheet.2.1 mX8_sheet.2.2.1 mX8_sheet.2.2.2.1 ∈ pGood := pGood_in 755 (by decide +kernel) (by decide +kernel)
theorem tk_X8_sheet : pTabOk mX8_sheet.2.1 mX8_sheet.2.2.2.2 = true := tbX8_sheet_ok
theorem im_X3_clear : Cond.instanceMethod yX3_clear ∈ pGood := pGood_in 757 (by decide +kernel) (by decide +kernel)
theorem se_X3_clear : Cond.selects RX3 yX3_clear yX3_clear ∈ pGood := pGood_in 758 (by decide +kernel) (by decide +kernel)
def mX3_clear : PM := (yX3_clear, cX3_clear, 5, none, tbX3_clear)
theorem co_X3_clear : Cond.code mX3_clear.1 mX3_clear.2.1 mX3_clear.2.2.1 mX3_clear.2.2.2.1 ∈ pGood := pGood_in 759 (by decide +kernel) (by decide +kernel)
theorem tk_X3_clear : pTabOk mX3_clear.2.1 mX3_clear.2.2.2.2 = true := tbX3_clear_ok
theorem im_X3_change : Cond.instanceMethod yX3_change ∈ pGood := pGood_in 763 (by decide +kernel) (by decide +kernel)
def mX3_change : PM := (yX3_change, cX3_change, 5, none, tbX3_change)
theorem co_X3_change : Cond.code mX3_change.1 mX3_change.2.1 mX3_change.2.2.1 mX3_change.2.2.2.1 ∈ pGood := pGood_in 764 (by decide +kernel) (by decide +kernel)
theorem tk_X3_change : pTabOk mX3_change.2.1 mX3_change.2.2.2.2 = true := tbX3_change_ok
theorem st_X8_writeLong : Cond.static yX8_writeLong ∈ pGood := pGood_in 766 (by decide +kernel) (by decide +kernel)
def mX8_writeLong : PM := (yX8_writeLong, cX8_writeLong, 4, none, tbX8_writeLong)
theorem co_X8_writeLong : Cond.code mX8_writeLong.1 mX8_writeLong.2.1 mX8_writeLong.2.2.1 mX8_writeLong.2.2.2.1 ∈ pGood := pGood_in 767 (by decide +kernel) (by decide +kernel)
theorem tk_X8_writeLong : pTabOk mX8_writeLong.2.1 mX8_writeLong.2.2.2.2 = true := tbX8_writeLong_ok
theorem im_X8_put : Cond.instanceMethod yX8_put ∈ pGood := pGood_in 769 (by decide +kernel) (by decide +kernel)
theorem se_X8_put : Cond.selects RX8 yX8_put yX8_put ∈ pGood := pGood_in 770 (by decide +kernel) (by decide +kernel)
def mX8_put : PM := (yX8_put, cX8_put, 6, (some .int), tbX8_put)
theorem co_X8_put : Cond.code mX8_put.1 mX8_put.2.1 mX8_put.2.2.1 mX8_put.2.2.2.1 ∈ pGood := pGood_in 771 (by decide +kernel) (by decide +kernel)
theorem tk_X8_put : pTabOk mX8_put.2.1 mX8_put.2.2.2.2 = true := tbX8_put_ok
theorem im_X3_hasNumber : Cond.instanceMethod yX3_hasNumber ∈ pGood := pGood_in 773 (by decide +kernel) (by decide +kernel)
theorem se_X3_hasNumber : Cond.selects RX3 yX3_hasNumber yX3_hasNumber ∈ pGood := pGood_in 774 (by decide +kernel) (by decide +kernel)
def mX3_hasNumber : PM := (yX3_hasNumber, cX3_hasNumber, 3, (some .boolean), tbX3_hasNumber)
theorem co_X3_hasNumber : Cond.code mX3_hasNumber.1 mX3_hasNumber.2.1 mX3_hasNumber.2.2.1 mX3_hasNumber.2.2.2.1 ∈ pGood := pGood_in 775 (by decide +kernel) (by decide +kernel)
theorem tk_X3_hasNumber : pTabOk mX3_hasNumber.2.1 mX3_hasNumber.2.2.2.2 = true := tbX3_hasNumber_ok
theorem im_X3_sort : Cond.instanceMethod yX3_sort ∈ pGood := pGood_in 777 (by decide +kernel) (by decide +kernel)
theorem se_X3_sort : Cond.selects RX3 yX3_sort yX3_sort ∈ pGood := pGood_in 778 (by decide +kernel) (by decide +kernel)
def mX3_sort : PM := (yX3_sort, cX3_sort, 2, (some .int), tbX3_sort)
theorem co_X3_sort : Cond.code mX3_sort.1 mX3_sort.2.1 mX3_sort.2.2.1 mX3_sort.2.2.2.1 ∈ pGood := pGood_in 779 (by decide +kernel) (by decide +kernel)
theorem tk_X3_sort : pTabOk mX3_sort.2.1 mX3_sort.2.2.2.2 = true := tbX3_sort_ok
theorem im_X3_scale : Cond.instanceMethod yX3_scale ∈ pGood := pGood_in 782 (by decide +kernel) (by decide +kernel)
theorem se_X3_scale : Cond.selects RX3 yX3_scale yX3_scale ∈ pGood := pGood_in 783 (by decide +kernel) (by decide +kernel)
def mX3_scale : PM := (yX3_scale, cX3_scale, 8, none, tbX3_scale)
theorem co_X3_scale : Cond.code mX3_scale.1 mX3_scale.2.1 mX3_scale.2.2.1 mX3_scale.2.2.2.1 ∈ pGood := pGood_in 784 (by decide +kernel) (by decide +kernel)
theorem tk_X3_scale : pTabOk mX3_scale.2.1 mX3_scale.2.2.2.2 = true := tbX3_scale_ok
theorem im_X8_bits : Cond.instanceMethod yX8_bits ∈ pGood := pGood_in 788 (by decide +kernel) (by decide +kernel)
theorem se_X8_bits : Cond.selects RX8 yX8_bits yX8_bits ∈ pGood := pGood_in 789 (by decide +kernel) (by decide +kernel)
def mX8_bits : PM := (yX8_bits, cX8_bits, 3, (some .long), tbX8_bits)
theorem co_X8_bits : Cond.code mX8_bits.1 mX8_bits.2.1 mX8_bits.2.2.1 mX8_bits.2.2.2.1 ∈ pGood := pGood_in 790 (by decide +kernel) (by decide +kernel)
theorem tk_X8_bits : pTabOk mX8_bits.2.1 mX8_bits.2.2.2.2 = true := tbX8_bits_ok
theorem im_X8_refuseLong : Cond.instanceMethod yX8_refuseLong ∈ pGood := pGood_in 793 (by decide +kernel) (by decide +kernel)
def mX8_refuseLong : PM := (yX8_refuseLong, cX8_refuseLong, 2, (some .long), tbX8_refuseLong)
theorem co_X8_refuseLong : Cond.code mX8_refuseLong.1 mX8_refuseLong.2.1 mX8_refuseLong.2.2.1 mX8_refuseLong.2.2.2.1 ∈ pGood := pGood_in 794 (by decide +kernel) (by decide +kernel)
theorem tk_X8_refuseLong : pTabOk mX8_refuseLong.2.1 mX8_refuseLong.2.2.2.2 = true := tbX8_refuseLong_ok
theorem kc_X8_333 : Cond.constantLong RX8 333 (-9000000000000000000) ∈ pGood := pGood_in 795 (by decide +kernel) (by decide +kernel)
theorem im_X3_number : Cond.instanceMethod yX3_number ∈ pGood := pGood_in 797 (by decide +kernel) (by decide +kernel)
theorem se_X3_number : Cond.selects RX3 yX3_number yX3_number ∈ pGood := pGood_in 798 (by decide +kernel) (by decide +kernel)
def mX3_number : PM := (yX3_number, cX3_number, 3, (some .long), tbX3_number)
theorem co_X3_number : Cond.code mX3_number.1 mX3_number.2.1 mX3_number.2.2.1 mX3_number.2.2.2.1 ∈ pGood := pGood_in 799 (by decide +kernel) (by decide +kernel)
theorem tk_X3_number : pTabOk mX3_number.2.1 mX3_number.2.2.2.2 = true := tbX3_number_ok
theorem st_X8_readLong : Cond.static yX8_readLong ∈ pGood := pGood_in 801 (by decide +kernel) (by decide +kernel)
def mX8_readLong : PM := (yX8_readLong, cX8_readLong, 2, (some .long), tbX8_readLong)
theorem co_X8_readLong : Cond.code mX8_readLong.1 mX8_readLong.2.1 mX8_readLong.2.2.1 mX8_readLong.2.2.2.1 ∈ pGood := pGood_in 802 (by decide +kernel) (by decide +kernel)
theorem tk_X8_readLong : pTabOk mX8_readLong.2.1 mX8_readLong.2.2.2.2 = true := tbX8_readLong_ok
theorem im_X8_cast : Cond.instanceMethod yX8_cast ∈ pGood := pGood_in 804 (by decide +kernel) (by decide +kernel)
theorem se_X8_cast : Cond.selects RX8 yX8_cast yX8_cast ∈ pGood := pGood_in 805 (by decide +kernel) (by decide +kernel)
def mX8_cast : PM := (yX8_cast, cX8_cast, 3, (some .int), tbX8_cast)
theorem co_X8_cast : Cond.code mX8_cast.1 mX8_cast.2.1 mX8_cast.2.2.1 mX8_cast.2.2.2.1 ∈ pGood := pGood_in 806 (by decide +kernel) (by decide +kernel)
theorem tk_X8_cast : pTabOk mX8_cast.2.1 mX8_cast.2.2.2.2 = true := tbX8_cast_ok
theorem im_X3_asInt : Cond.instanceMethod yX3_asInt ∈ pGood := pGood_in 808 (by decide +kernel) (by decide +kernel)
theorem se_X3_asInt : Cond.selects RX3 yX3_asInt yX3_asInt ∈ pGood := pGood_in 809 (by decide +kernel) (by decide +kernel)
def mX3_asInt : PM := (yX3_asInt, cX3_asInt, 8, (some .int), tbX3_asInt)
theorem co_X3_asInt : Cond.code mX3_asInt.1 mX3_asInt.2.1 mX3_asInt.2.2.1 mX3_asInt.2.2.2.1 ∈ pGood := pGood_in 810 (by decide +kernel) (by decide +kernel)
theorem tk_X3_asInt : pTabOk mX3_asInt.2.1 mX3_asInt.2.2.2.2 = true := tbX3_asInt_ok
theorem st_X2_size : Cond.static yX2_size ∈ pGood := pGood_in 813 (by decide +kernel) (by decide +kernel)
def mX2_size : PM := (yX2_size, cX2_size, 12, (some .double), tbX2_size)
theorem co_X2_size : Cond.code mX2_size.1 mX2_size.2.1 mX2_size.2.2.1 mX2_size.2.2.2.1 ∈ pGood := pGood_in 814 (by decide +kernel) (by decide +kernel)
theorem tk_X2_size : pTabOk mX2_size.2.1 mX2_size.2.2.2.2 = true := tbX2_size_ok
theorem im_X8_rest : Cond.instanceMethod yX8_rest ∈ pGood := pGood_in 816 (by decide +kernel) (by decide +kernel)
theorem se_X8_rest : Cond.selects RX8 yX8_rest yX8_rest ∈ pGood := pGood_in 817 (by decide +kernel) (by decide +kernel)
def mX8_rest : PM := (yX8_rest, cX8_rest, 4, (some .int), tbX8_rest)
theorem co_X8_rest : Cond.code mX8_rest.1 mX8_rest.2.1 mX8_rest.2.2.1 mX8_rest.2.2.2.1 ∈ pGood := pGood_in 818 (by decide +kernel) (by decide +kernel)
theorem tk_X8_rest : pTabOk mX8_rest.2.1 mX8_rest.2.2.2.2 = true := tbX8_rest_ok
theorem im_X3_isNought : Cond.instanceMethod yX3_isNought ∈ pGood := pGood_in 820 (by decide +kernel) (by decide +kernel)
theorem se_X3_isNought : Cond.selects RX3 yX3_isNought yX3_isNought ∈ pGood := pGood_in 821 (by decide +kernel) (by decide +kernel)
def mX3_isNought : PM := (yX3_isNought, cX3_isNought, 6, (some .boolean), tbX3_isNought)
theorem co_X3_isNought : Cond.code mX3_isNought.1 mX3_isNought.2.1 mX3_isNought.2.2.1 mX3_isNought.2.2.2.1 ∈ pGood := pGood_in 822 (by decide +kernel) (by decide +kernel)
theorem tk_X3_isNought : pTabOk mX3_isNought.2.1 mX3_isNought.2.2.2.2 = true := tbX3_isNought_ok
theorem im_X3_reduce : Cond.instanceMethod yX3_reduce ∈ pGood := pGood_in 824 (by decide +kernel) (by decide +kernel)
theorem se_X3_reduce : Cond.selects RX3 yX3_reduce yX3_reduce ∈ pGood := pGood_in 825 (by decide +kernel) (by decide +kernel)
def mX3_reduce : PM := (yX3_reduce, cX3_reduce, 11, none, tbX3_reduce)
theorem co_X3_reduce : Cond.code mX3_reduce.1 mX3_reduce.2.1 mX3_reduce.2.2.1 mX3_reduce.2.2.2.1 ∈ pGood := pGood_in 826 (by decide +kernel) (by decide +kernel)
theorem tk_X3_reduce : pTabOk mX3_reduce.2.1 mX3_reduce.2.2.2.2 = true := tbX3_reduce_ok
theorem st_X2_remainder : Cond.static yX2_remainder ∈ pGood := pGood_in 828 (by decide +kernel) (by decide +kernel)
def mX2_remainder : PM := (yX2_remainder, cX2_remainder, 10, (some .double), tbX2_remainder)
theorem co_X2_remainder : Cond.code mX2_remainder.1 mX2_remainder.2.1 mX2_remainder.2.2.1 mX2_remainder.2.2.2.1 ∈ pGood := pGood_in 829 (by decide +kernel) (by decide +kernel)
theorem tk_X2_remainder : pTabOk mX2_remainder.2.1 mX2_remainder.2.2.2.2 = true := tbX2_remainder_ok
theorem im_X8_lays : Cond.instanceMethod yX8_lays ∈ pGood := pGood_in 832 (by decide +kernel) (by decide +kernel)
theorem se_X8_lays : Cond.selects RX8 yX8_lays yX8_lays ∈ pGood := pGood_in 833 (by decide +kernel) (by decide +kernel)
def mX8_lays : PM := (yX8_lays, cX8_lays, 6, (some .int), tbX8_lays)
theorem co_X8_lays : Cond.code mX8_lays.1 mX8_lays.2.1 mX8_lays.2.2.1 mX8_lays.2.2.2.1 ∈ pGood := pGood_in 834 (by decide +kernel) (by decide +kernel)
theorem tk_X8_lays : pTabOk mX8_lays.2.1 mX8_lays.2.2.2.2 = true := tbX8_lays_ok
theorem im_X3_layFloat : Cond.instanceMethod yX3_layFloat ∈ pGood := pGood_in 837 (by decide +kernel) (by decide +kernel)
theorem se_X3_layFloat : Cond.selects RX3 yX3_layFloat yX3_layFloat ∈ pGood := pGood_in 838 (by decide +kernel) (by decide +kernel)
def mX3_layFloat : PM := (yX3_layFloat, cX3_layFloat, 4, none, tbX3_layFloat)
theorem co_X3_layFloat : Cond.code mX3_layFloat.1 mX3_layFloat.2.1 mX3_layFloat.2.2.1 mX3_layFloat.2.2.2.1 ∈ pGood := pGood_in 839 (by decide +kernel) (by decide +kernel)
theorem tk_X3_layFloat : pTabOk mX3_layFloat.2.1 mX3_layFloat.2.2.2.2 = true := tbX3_layFloat_ok
theorem im_X8_image : Cond.instanceMethod yX8_image ∈ pGood := pGood_in 841 (by decide +kernel) (by decide +kernel)
theorem se_X8_image : Cond.selects RX8 yX8_image yX8_image ∈ pGood := pGood_in 842 (by decide +kernel) (by decide +kernel)
def mX8_image : PM := (yX8_image, cX8_image, 1, (some .int), tbX8_image)
theorem co_X8_image : Cond.code mX8_image.1 mX8_image.2.1 mX8_image.2.2.1 mX8_image.2.2.2.1 ∈ pGood := pGood_in 843 (by decide +kernel) (by decide +kernel)
theorem tk_X8_image : pTabOk mX8_image.2.1 mX8_image.2.2.2.2 = true := tbX8_image_ok
theorem im_X1_become : Cond.instanceMethod yX1_become ∈ pGood := pGood_in 845 (by decide +kernel) (by decide +kernel)
theorem se_X1_become : Cond.selects RX1 yX1_become yX1_become ∈ pGood := pGood_in 846 (by decide +kernel) (by decide +kernel)
def mX1_become : PM := (yX1_become, cX1_become, 2, none, tbX1_become)
theorem co_X1_become : Cond.code mX1_become.1 mX1_become.2.1 mX1_become.2.2.1 mX1_become.2.2.2.1 ∈ pGood := pGood_in 847 (by decide +kernel) (by decide +kernel)
theorem tk_X1_become : pTabOk mX1_become.2.1 mX1_become.2.2.2.2 = true := tbX1_become_ok
theorem im_X8_restore : Cond.instanceMethod yX8_restore ∈ pGood := pGood_in 851 (by decide +kernel) (by decide +kernel)
theorem se_X8_restore : Cond.selects RX8 yX8_restore yX8_restore ∈ pGood := pGood_in 852 (by decide +kernel) (by decide +kernel)
def mX8_restore : PM := (yX8_restore, cX8_restore, 1, (some .int), tbX8_restore)
theorem co_X8_restore : Cond.code mX8_restore.1 mX8_restore.2.1 mX8_restore.2.2.1 mX8_restore.2.2.2.1 ∈ pGood := pGood_in 853 (by decide +kernel) (by decide +kernel)
theorem tk_X8_restore : pTabOk mX8_restore.2.1 mX8_restore.2.2.2.2 = true := tbX8_restore_ok
theorem im_X8_count : Cond.instanceMethod yX8_count ∈ pGood := pGood_in 855 (by decide +kernel) (by decide +kernel)
theorem se_X8_count : Cond.selects RX8 yX8_count yX8_count ∈ pGood := pGood_in 856 (by decide +kernel) (by decide +kernel)
def mX8_count : PM := (yX8_count, cX8_count, 2, (some .int), tbX8_count)
theorem co_X8_count : Cond.code mX8_count.1 mX8_count.2.1 mX8_count.2.2.1 mX8_count.2.2.2.1 ∈ pGood := pGood_in 857 (by decide +kernel) (by decide +kernel)
theorem tk_X8_count : pTabOk mX8_count.2.1 mX8_count.2.2.2.2 = true := tbX8_count_ok
theorem im_X8_countNotes : Cond.instanceMethod yX8_countNotes ∈ pGood := pGood_in 860 (by decide +kernel) (by decide +kernel)
def mX8_countNotes : PM := (yX8_countNotes, cX8_countNotes, 3, (some .int), tbX8_countNotes)
theorem co_X8_countNotes : Cond.code mX8_countNotes.1 mX8_countNotes.2.1 mX8_countNotes.2.2.1 mX8_countNotes.2.2.2.1 ∈ pGood := pGood_in 861 (by decide +kernel) (by decide +kernel)
theorem tk_X8_countNotes : pTabOk mX8_countNotes.2.1 mX8_countNotes.2.2.2.2 = true := tbX8_countNotes_ok
theorem im_X8_sumDurations : Cond.instanceMethod yX8_sumDurations ∈ pGood := pGood_in 864 (by decide +kernel) (by decide +kernel)
def mX8_sumDurations : PM := (yX8_sumDurations, cX8_sumDurations, 3, (some .int), tbX8_sumDurations)
theorem co_X8_sumDurations : Cond.code mX8_sumDurations.1 mX8_sumDurations.2.1 mX8_sumDurations.2.2.1 mX8_sumDurations.2.2.2.1 ∈ pGood := pGood_in 865 (by decide +kernel) (by decide +kernel)
theorem tk_X8_sumDurations : pTabOk mX8_sumDurations.2.1 mX8_sumDurations.2.2.2.2 = true := tbX8_sumDurations_ok
theorem im_X1_countOnShelves : Cond.instanceMethod yX1_countOnShelves ∈ pGood := pGood_in 867 (by decide +kernel) (by decide +kernel)
theorem se_X1_countOnShelves : Cond.selects RX1 yX1_countOnShelves yX1_countOnShelves ∈ pGood := pGood_in 868 (by decide +kernel) (by decide +kernel)
def mX1_countOnShelves : PM := (yX1_countOnShelves, cX1_countOnShelves, 4, (some .int), tbX1_countOnShelves)
theorem co_X1_countOnShelves : Cond.code mX1_countOnShelves.1 mX1_countOnShelves.2.1 mX1_countOnShelves.2.2.1 mX1_countOnShelves.2.2.2.1 ∈ pGood := pGood_in 869 (by decide +kernel) (by decide +kernel)
theorem tk_X1_countOnShelves : pTabOk mX1_countOnShelves.2.1 mX1_countOnShelves.2.2.2.2 = true := tbX1_countOnShelves_ok
theorem im_X8_told : Cond.instanceMethod yX8_told ∈ pGood := pGood_in 873 (by decide +kernel) (by decide +kernel)
theorem se_X8_told : Cond.selects RX8 yX8_told yX8_told ∈ pGood := pGood_in 874 (by decide +kernel) (by decide +kernel)
def mX8_told : PM := (yX8_told, cX8_told, 2, (some .int), tbX8_told)
theorem co_X8_told : Cond.code mX8_told.1 mX8_told.2.1 mX8_told.2.2.1 mX8_told.2.2.2.1 ∈ pGood := pGood_in 875 (by decide +kernel) (by decide +kernel)
theorem tk_X8_told : pTabOk mX8_told.2.1 mX8_told.2.2.2.2 = true := tbX8_told_ok
theorem cl_L_10 : Cond.classLink RL 10 RX9 ∈ pGood := pGood_in 876 (by decide +kernel) (by decide +kernel)
theorem ib_X9 : Cond.instantiable RX9 33 ∈ pGood := pGood_in 877 (by decide +kernel) (by decide +kernel)
theorem im_X9_init : Cond.instanceMethod yX9_init ∈ pGood := pGood_in 879 (by decide +kernel) (by decide +kernel)
def mX9_init : PM := (yX9_init, cX9_init, 2, none, tbX9_init)
theorem co_X9_init : Cond.code mX9_init.1 mX9_init.2.1 mX9_init.2.2.1 mX9_init.2.2.2.1 ∈ pGood := pGood_in 880 (by decide +kernel) (by decide +kernel)
theorem tk_X9_init : pTabOk mX9_init.2.1 mX9_init.2.2.2.2 = true := tbX9_init_ok
theorem ml_X9_3 : Cond.methodLink RX9 3 Lib.objectInit ∈ pGood := pGood_in 881 (by decide +kernel) (by decide +kernel)
theorem fl_X9_9 : pFL RX9 9 8 0 := ⟨RX9, TX9, 33, rfl, by decide, Or.inl (pGood_in 882 (by decide +kernel) (by decide +kernel))⟩
theorem ff_X9_9 : Cond.fieldLink RX9 9 (TX9 0).1 (TX9 0).2.1 (TX9 0).2.2.1 ∈ pGood := pGood_in 882 (by decide +kernel) (by decide +kernel)
theorem fl_X9_13 : pFL RX9 13 8 1 := ⟨RX9, TX9, 33, rfl, by decide, Or.inl (pGood_in 883 (by decide +kernel) (by decide +kernel))⟩
theorem ff_X9_13 : Cond.fieldLink RX9 13 (TX9 1).1 (TX9 1).2.1 (TX9 1).2.2.1 ∈ pGood := pGood_in 883 (by decide +kernel) (by decide +kernel)
theorem fl_X9_328 : pFL RX9 328 8 2 := ⟨RX9, TX9, 33, rfl, by decide, Or.inl (pGood_in 884 (by decide +kernel) (by decide +kernel))⟩
theorem fl_X9_16 : pFL RX9 16 8 3 := ⟨RX9, TX9, 33, rfl, by decide, Or.inl (pGood_in 885 (by decide +kernel) (by decide +kernel))⟩
theorem ff_X9_16 : Cond.fieldLink RX9 16 (TX9 3).1 (TX9 3).2.1 (TX9 3).2.2.1 ∈ pGood := pGood_in 885 (by decide +kernel) (by decide +kernel)
theorem fl_X9_161 : pFL RX9 161 8 4 := ⟨RX9, TX9, 33, rfl, by decide, Or.inl (pGood_in 886 (by decide +kernel) (by decide +kernel))⟩
theorem fl_X9_165 : pFL RX9 165 8 5 := ⟨RX9, TX9, 33, rfl, by decide, Or.inl (pGood_in 887 (by decide +kernel) (by decide +kernel))⟩
theorem fl_X9_19 : pFL RX9 19 8 6 := ⟨RX9, TX9, 33, rfl, by decide, Or.inl (pGood_in 888 (by decide +kernel) (by decide +kernel))⟩
theorem ff_X9_19 : Cond.fieldLink RX9 19 (TX9 6).1 (TX9 6).2.1 (TX9 6).2.2.1 ∈ pGood := pGood_in 888 (by decide +kernel) (by decide +kernel)
theorem fl_X9_23 : pFL RX9 23 8 7 := ⟨RX9, TX9, 33, rfl, by decide, Or.inl (pGood_in 889 (by decide +kernel) (by decide +kernel))⟩
theorem ff_X9_23 : Cond.fieldLink RX9 23 (TX9 7).1 (TX9 7).2.1 (TX9 7).2.2.1 ∈ pGood := pGood_in 889 (by decide +kernel) (by decide +kernel)
theorem fl_X9_27 : pFL RX9 27 8 8 := ⟨RX9, TX9, 33, rfl, by decide, Or.inl (pGood_in 890 (by decide +kernel) (by decide +kernel))⟩
theorem ff_X9_27 : Cond.fieldLink RX9 27 (TX9 8).1 (TX9 8).2.1 (TX9 8).2.2.1 ∈ pGood := pGood_in 890 (by decide +kernel) (by decide +kernel)
theorem fl_X9_183 : pFL RX9 183 8 9 := ⟨RX9, TX9, 33, rfl, by decide, Or.inl (pGood_in 891 (by decide +kernel) (by decide +kernel))⟩
theorem fl_X9_30 : pFL RX9 30 8 10 := ⟨RX9, TX9, 33, rfl, by decide, Or.inl (pGood_in 892 (by decide +kernel) (by decide +kernel))⟩
theorem ff_X9_30 : Cond.fieldLink RX9 30 (TX9 10).1 (TX9 10).2.1 (TX9 10).2.2.1 ∈ pGood := pGood_in 892 (by decide +kernel) (by decide +kernel)
theorem fl_X9_33 : pFL RX9 33 8 11 := ⟨RX9, TX9, 33, rfl, by decide, Or.inl (pGood_in 893 (by decide +kernel) (by decide +kernel))⟩
theorem ff_X9_33 : Cond.fieldLink RX9 33 (TX9 11).1 (TX9 11).2.1 (TX9 11).2.2.1 ∈ pGood := pGood_in 893 (by decide +kernel) (by decide +kernel)
theorem fl_X9_36 : pFL RX9 36 8 12 := ⟨RX9, TX9, 33, rfl, by decide, Or.inl (pGood_in 894 (by decide +kernel) (by decide +kernel))⟩
theorem ff_X9_36 : Cond.fieldLink RX9 36 (TX9 12).1 (TX9 12).2.1 (TX9 12).2.2.1 ∈ pGood := pGood_in 894 (by decide +kernel) (by decide +kernel)
theorem fl_X9_39 : pFL RX9 39 8 13 := ⟨RX9, TX9, 33, rfl, by decide, Or.inl (pGood_in 895 (by decide +kernel) (by decide +kernel))⟩
theorem ff_X9_39 : Cond.fieldLink RX9 39 (TX9 13).1 (TX9 13).2.1 (TX9 13).2.2.1 ∈ pGood := pGood_in 895 (by decide +kernel) (by decide +kernel)
theorem fl_X9_42 : pFL RX9 42 8 14 := ⟨RX9, TX9, 33, rfl, by decide, Or.inl (pGood_in 896 (by decide +kernel) (by decide +kernel))⟩
theorem ff_X9_42 : Cond.fieldLink RX9 42 (TX9 14).1 (TX9 14).2.1 (TX9 14).2.2.1 ∈ pGood := pGood_in 896 (by decide +kernel) (by decide +kernel)
theorem fl_X9_201 : pFL RX9 201 8 15 := ⟨RX9, TX9, 33, rfl, by decide, Or.inl (pGood_in 897 (by decide +kernel) (by decide +kernel))⟩
theorem fl_X9_45 : pFL RX9 45 8 16 := ⟨RX9, TX9, 33, rfl, by decide, Or.inl (pGood_in 898 (by decide +kernel) (by decide +kernel))⟩
theorem ff_X9_45 : Cond.fieldLink RX9 45 (TX9 16).1 (TX9 16).2.1 (TX9 16).2.2.1 ∈ pGood := pGood_in 898 (by decide +kernel) (by decide +kernel)
theorem fl_X9_48 : pFL RX9 48 8 17 := ⟨RX9, TX9, 33, rfl, by decide, Or.inl (pGood_in 899 (by decide +kernel) (by decide +kernel))⟩
theorem ff_X9_48 : Cond.fieldLink RX9 48 (TX9 17).1 (TX9 17).2.1 (TX9 17).2.2.1 ∈ pGood := pGood_in 899 (by decide +kernel) (by decide +kernel)
theorem fl_X9_214 : pFL RX9 214 8 18 := ⟨RX9, TX9, 33, rfl, by decide, Or.inl (pGood_in 900 (by decide +kernel) (by decide +kernel))⟩
theorem fl_X9_51 : pFL RX9 51 8 19 := ⟨RX9, TX9, 33, rfl, by decide, Or.inl (pGood_in 901 (by decide +kernel) (by decide +kernel))⟩
theorem ff_X9_51 : Cond.fieldLink RX9 51 (TX9 19).1 (TX9 19).2.1 (TX9 19).2.2.1 ∈ pGood := pGood_in 901 (by decide +kernel) (by decide +kernel)
theorem fl_X9_54 : pFL RX9 54 8 20 := ⟨RX9, TX9, 33, rfl, by decide, Or.inl (pGood_in 902 (by decide +kernel) (by decide +kernel))⟩
theorem ff_X9_54 : Cond.fieldLink RX9 54 (TX9 20).1 (TX9 20).2.1 (TX9 20).2.2.1 ∈ pGood := pGood_in 902 (by decide +kernel) (by decide +kernel)
theorem fl_X9_57 : pFL RX9 57 8 21 := ⟨RX9, TX9, 33, rfl, by decide, Or.inl (pGood_in 903 (by decide +kernel) (by decide +kernel))⟩
theorem ff_X9_57 : Cond.fieldLink RX9 57 (TX9 21).1 (TX9 21).2.1 (TX9 21).2.2.1 ∈ pGood := pGood_in 903 (by decide +kernel) (by decide +kernel)
theorem fl_X9_60 : pFL RX9 60 8 22 := ⟨RX9, TX9, 33, rfl, by decide, Or.inl (pGood_in 904 (by decide +kernel) (by decide +kernel))⟩
theorem ff_X9_60 : Cond.fieldLink RX9 60 (TX9 22).1 (TX9 22).2.1 (TX9 22).2.2.1 ∈ pGood := pGood_in 904 (by decide +kernel) (by decide +kernel)
theorem fl_X9_257 : pFL RX9 257 8 23 := ⟨RX9, TX9, 33, rfl, by decide, Or.inl (pGood_in 905 (by decide +kernel) (by decide +kernel))⟩
theorem fl_X9_264 : pFL RX9 264 8 24 := ⟨RX9, TX9, 33, rfl, by decide, Or.inl (pGood_in 906 (by decide +kernel) (by decide +kernel))⟩
theorem fl_X9_260 : pFL RX9 260 8 25 := ⟨RX9, TX9, 33, rfl, by decide, Or.inl (pGood_in 907 (by decide +kernel) (by decide +kernel))⟩
theorem fl_X9_63 : pFL RX9 63 8 26 := ⟨RX9, TX9, 33, rfl, by decide, Or.inl (pGood_in 908 (by decide +kernel) (by decide +kernel))⟩
theorem ff_X9_63 : Cond.fieldLink RX9 63 (TX9 26).1 (TX9 26).2.1 (TX9 26).2.2.1 ∈ pGood := pGood_in 908 (by decide +kernel) (by decide +kernel)
theorem fl_X9_274 : pFL RX9 274 8 27 := ⟨RX9, TX9, 33, rfl, by decide, Or.inl (pGood_in 909 (by decide +kernel) (by decide +kernel))⟩
theorem fl_X9_66 : pFL RX9 66 8 28 := ⟨RX9, TX9, 33, rfl, by decide, Or.inl (pGood_in 910 (by decide +kernel) (by decide +kernel))⟩
theorem ff_X9_66 : Cond.fieldLink RX9 66 (TX9 28).1 (TX9 28).2.1 (TX9 28).2.2.1 ∈ pGood := pGood_in 910 (by decide +kernel) (by decide +kernel)
theorem fl_X9_69 : pFL RX9 69 8 29 := ⟨RX9, TX9, 33, rfl, by decide, Or.inl (pGood_in 911 (by decide +kernel) (by decide +kernel))⟩
theorem ff_X9_69 : Cond.fieldLink RX9 69 (TX9 29).1 (TX9 29).2.1 (TX9 29).2.2.1 ∈ pGood := pGood_in 911 (by decide +kernel) (by decide +kernel)
theorem fl_X9_72 : pFL RX9 72 8 30 := ⟨RX9, TX9, 33, rfl, by decide, Or.inl (pGood_in 912 (by decide +kernel) (by decide +kernel))⟩
theorem ff_X9_72 : Cond.fieldLink RX9 72 (TX9 30).1 (TX9 30).2.1 (TX9 30).2.2.1 ∈ pGood := pGood_in 912 (by decide +kernel) (by decide +kernel)
theorem fl_X9_75 : pFL RX9 75 8 31 := ⟨RX9, TX9, 33, rfl, by decide, Or.inl (pGood_in 913 (by decide +kernel) (by decide +kernel))⟩
theorem ff_X9_75 : Cond.fieldLink RX9 75 (TX9 31).1 (TX9 31).2.1 (TX9 31).2.2.1 ∈ pGood := pGood_in 913 (by decide +kernel) (by decide +kernel)
theorem fl_X9_79 : pFL RX9 79 8 32 := ⟨RX9, TX9, 33, rfl, by decide, Or.inl (pGood_in 914 (by decide +kernel) (by decide +kernel))⟩
theorem ff_X9_79 : Cond.fieldLink RX9 79 (TX9 32).1 (TX9 32).2.1 (TX9 32).2.2.1 ∈ pGood := pGood_in 914 (by decide +kernel) (by decide +kernel)
theorem ac_double : Cond.arrayClass .double ∈ pGood := pGood_in 982 (by decide +kernel) (by decide +kernel)
theorem im_X9_add : Cond.instanceMethod yX9_add ∈ pGood := pGood_in 984 (by decide +kernel) (by decide +kernel)
theorem se_X9_add : Cond.selects RX9 yX9_add yX9_add ∈ pGood := pGood_in 985 (by decide +kernel) (by decide +kernel)
def mX9_add : PM := (yX9_add, cX9_add, 3, (some .int), tbX9_add)
theorem co_X9_add : Cond.code mX9_add.1 mX9_add.2.1 mX9_add.2.2.1 mX9_add.2.2.2.1 ∈ pGood := pGood_in 986 (by decide +kernel) (by decide +kernel)
theorem tk_X9_add : pTabOk mX9_add.2.1 mX9_add.2.2.2.2 = true := tbX9_add_ok
theorem st_X9_mayBe : Cond.static yX9_mayBe ∈ pGood := pGood_in 988 (by decide +kernel) (by decide +kernel)
def mX9_mayBe : PM := (yX9_mayBe, cX9_mayBe, 2, (some .boolean), tbX9_mayBe)
theorem co_X9_mayBe : Cond.code mX9_mayBe.1 mX9_mayBe.2.1 mX9_mayBe.2.2.1 mX9_mayBe.2.2.2.1 ∈ pGood := pGood_in 989 (by decide +kernel) (by decide +kernel)
theorem tk_X9_mayBe : pTabOk mX9_mayBe.2.1 mX9_mayBe.2.2.2.2 = true := tbX9_mayBe_ok
theorem kc_X9_89 : Cond.constantLong RX9 89 2 ∈ pGood := pGood_in 990 (by decide +kernel) (by decide +kernel)
theorem st_X9_in : Cond.static yX9_in ∈ pGood := pGood_in 992 (by decide +kernel) (by decide +kernel)
def mX9_in : PM := (yX9_in, cX9_in, 6, (some .boolean), tbX9_in)
theorem co_X9_in : Cond.code mX9_in.1 mX9_in.2.1 mX9_in.2.2.1 mX9_in.2.2.2.1 ∈ pGood := pGood_in 993 (by decide +kernel) (by decide +kernel)
theorem tk_X9_in : pTabOk mX9_in.2.1 mX9_in.2.2.2.2 = true := tbX9_in_ok
theorem kc_X9_91 : Cond.constantLong RX9 91 64 ∈ pGood := pGood_in 994 (by decide +kernel) (by decide +kernel)
theorem kc_X9_93 : Cond.constantLong RX9 93 (-12) ∈ pGood := pGood_in 995 (by decide +kernel) (by decide +kernel)
theorem kc_X9_95 : Cond.constantLong RX9 95 20 ∈ pGood := pGood_in 996 (by decide +kernel) (by decide +kernel)
theorem kc_X9_97 : Cond.constantLong RX9 97 12 ∈ pGood := pGood_in 997 (by decide +kernel) (by decide +kernel)
theorem kc_X9_99 : Cond.constantLong RX9 99 9 ∈ pGood := pGood_in 998 (by decide +kernel) (by decide +kernel)
theorem kc_X9_109 : Cond.constant RX9 109 (-2147483001) ∈ pGood := pGood_in 999 (by decide +kernel) (by decide +kernel)
theorem im_X9_errs : Cond.instanceMethod yX9_errs ∈ pGood := pGood_in 1002 (by decide +kernel) (by decide +kernel)
def mX9_errs : PM := (yX9_errs, cX9_errs, 2, (some .int), tbX9_errs)
theorem co_X9_errs : Cond.code mX9_errs.1 mX9_errs.2.1 mX9_errs.2.2.1 mX9_errs.2.2.2.1 ∈ pGood := pGood_in 1003 (by decide +kernel) (by decide +kernel)
theorem tk_X9_errs : pTabOk mX9_errs.2.1 mX9_errs.2.2.2.2 = true := tbX9_errs_ok
theorem kc_X9_82 : Cond.constant RX9 82 (-2147483000) ∈ pGood := pGood_in 1004 (by decide +kernel) (by decide +kernel)
theorem kc_X9_114 : Cond.constant RX9 114 (-2147483004) ∈ pGood := pGood_in 1005 (by decide +kernel) (by decide +kernel)
theorem im_X9_comes : Cond.instanceMethod yX9_comes ∈ pGood := pGood_in 1008 (by decide +kernel) (by decide +kernel)
def mX9_comes : PM := (yX9_comes, cX9_comes, 7, (some .int), tbX9_comes)
theorem co_X9_comes : Cond.code mX9_comes.1 mX9_comes.2.1 mX9_comes.2.2.1 mX9_comes.2.2.2.1 ∈ pGood := pGood_in 1009 (by decide +kernel) (by decide +kernel)
theorem tk_X9_comes : pTabOk mX9_comes.2.1 mX9_comes.2.2.2.2 = true := tbX9_comes_ok
theorem im_X9_sets : Cond.instanceMethod yX9_sets ∈ pGood := pGood_in 1012 (by decide +kernel) (by decide +kernel)
def mX9_sets : PM := (yX9_sets, cX9_sets, 4, none, tbX9_sets)
theorem co_X9_sets : Cond.code mX9_sets.1 mX9_sets.2.1 mX9_sets.2.2.1 mX9_sets.2.2.2.1 ∈ pGood := pGood_in 1013 (by decide +kernel) (by decide +kernel)
theorem tk_X9_sets : pTabOk mX9_sets.2.1 mX9_sets.2.2.2.2 = true := tbX9_sets_ok
theorem im_X9_drop : Cond.instanceMethod yX9_drop ∈ pGood := pGood_in 1015 (by decide +kernel) (by decide +kernel)
theorem se_X9_drop : Cond.selects RX9 yX9_drop yX9_drop ∈ pGood := pGood_in 1016 (by decide +kernel) (by decide +kernel)
def mX9_drop : PM := (yX9_drop, cX9_drop, 1, (some .int), tbX9_drop)
theorem co_X9_drop : Cond.code mX9_drop.1 mX9_drop.2.1 mX9_drop.2.2.1 mX9_drop.2.2.2.1 ∈ pGood := pGood_in 1017 (by decide +kernel) (by decide +kernel)
theorem tk_X9_drop : pTabOk mX9_drop.2.1 mX9_drop.2.2.2.2 = true := tbX9_drop_ok
theorem kc_X9_119 : Cond.constant RX9 119 (-2147483002) ∈ pGood := pGood_in 1018 (by decide +kernel) (by decide +kernel)
theorem im_X9_set : Cond.instanceMethod yX9_set ∈ pGood := pGood_in 1020 (by decide +kernel) (by decide +kernel)
theorem se_X9_set : Cond.selects RX9 yX9_set yX9_set ∈ pGood := pGood_in 1021 (by decide +kernel) (by decide +kernel)
def mX9_set : PM := (yX9_set, cX9_set, 5, (some .int), tbX9_set)
theorem co_X9_set : Cond.code mX9_set.1 mX9_set.2.1 mX9_set.2.2.1 mX9_set.2.2.2.1 ∈ pGood := pGood_in 1022 (by decide +kernel) (by decide +kernel)
theorem tk_X9_set : pTabOk mX9_set.2.1 mX9_set.2.2.2.2 = true := tbX9_set_ok
theorem im_X9_isColumn : Cond.instanceMethod yX9_isColumn ∈ pGood := pGood_in 1025 (by decide +kernel) (by decide +kernel)
def mX9_isColumn : PM := (yX9_isColumn, cX9_isColumn, 2, (some .boolean), tbX9_isColumn)
theorem co_X9_isColumn : Cond.code mX9_isColumn.1 mX9_isColumn.2.1 mX9_isColumn.2.2.1 mX9_isColumn.2.2.2.1 ∈ pGood := pGood_in 1026 (by decide +kernel) (by decide +kernel)
theorem tk_X9_isColumn : pTabOk mX9_isColumn.2.1 mX9_isColumn.2.2.2.2 = true := tbX9_isColumn_ok
theorem im_X9_its : Cond.instanceMethod yX9_its ∈ pGood := pGood_in 1029 (by decide +kernel) (by decide +kernel)
def mX9_its : PM := (yX9_its, cX9_its, 3, (some .int), tbX9_its)
theorem co_X9_its : Cond.code mX9_its.1 mX9_its.2.1 mX9_its.2.2.1 mX9_its.2.2.2.1 ∈ pGood := pGood_in 1030 (by decide +kernel) (by decide +kernel)
theorem tk_X9_its : pTabOk mX9_its.2.1 mX9_its.2.2.2.2 = true := tbX9_its_ok
theorem im_X9_of : Cond.instanceMethod yX9_of ∈ pGood := pGood_in 1032 (by decide +kernel) (by decide +kernel)
theorem se_X9_of : Cond.selects RX9 yX9_of yX9_of ∈ pGood := pGood_in 1033 (by decide +kernel) (by decide +kernel)
def mX9_of : PM := (yX9_of, cX9_of, 3, (some .int), tbX9_of)
theorem co_X9_of : Cond.code mX9_of.1 mX9_of.2.1 mX9_of.2.2.1 mX9_of.2.2.2.1 ∈ pGood := pGood_in 1034 (by decide +kernel) (by decide +kernel)
theorem tk_X9_of : pTabOk mX9_of.2.1 mX9_of.2.2.2.2 = true := tbX9_of_ok
theorem kc_X9_132 : Cond.constantLong RX9 132 6 ∈ pGood := pGood_in 1035 (by decide +kernel) (by decide +kernel)
theorem im_X9_top : Cond.instanceMethod yX9_top ∈ pGood := pGood_in 1038 (by decide +kernel) (by decide +kernel)
def mX9_top : PM := (yX9_top, cX9_top, 2, (some .int), tbX9_top)
theorem co_X9_top : Cond.code mX9_top.1 mX9_top.2.1 mX9_top.2.2.1 mX9_top.2.2.2.1 ∈ pGood := pGood_in 1039 (by decide +kernel) (by decide +kernel)
theorem tk_X9_top : pTabOk mX9_top.2.1 mX9_top.2.2.2.2 = true := tbX9_top_ok
theorem st_X9_topOf : Cond.static yX9_topOf ∈ pGood := pGood_in 1041 (by decide +kernel) (by decide +kernel)
def mX9_topOf : PM := (yX9_topOf, cX9_topOf, 3, (some .int), tbX9_topOf)
theorem co_X9_topOf : Cond.code mX9_topOf.1 mX9_topOf.2.1 mX9_topOf.2.2.1 mX9_topOf.2.2.2.1 ∈ pGood := pGood_in 1042 (by decide +kernel) (by decide +kernel)
theorem tk_X9_topOf : pTabOk mX9_topOf.2.1 mX9_topOf.2.2.2.2 = true := tbX9_topOf_ok
theorem im_X9_bottom : Cond.instanceMethod yX9_bottom ∈ pGood := pGood_in 1045 (by decide +kernel) (by decide +kernel)
def mX9_bottom : PM := (yX9_bottom, cX9_bottom, 3, (some .int), tbX9_bottom)
theorem co_X9_bottom : Cond.code mX9_bottom.1 mX9_bottom.2.1 mX9_bottom.2.2.1 mX9_bottom.2.2.2.1 ∈ pGood := pGood_in 1046 (by decide +kernel) (by decide +kernel)
theorem tk_X9_bottom : pTabOk mX9_bottom.2.1 mX9_bottom.2.2.2.2 = true := tbX9_bottom_ok
theorem im_X9_spring : Cond.instanceMethod yX9_spring ∈ pGood := pGood_in 1048 (by decide +kernel) (by decide +kernel)
theorem se_X9_spring : Cond.selects RX9 yX9_spring yX9_spring ∈ pGood := pGood_in 1049 (by decide +kernel) (by decide +kernel)
def mX9_spring : PM := (yX9_spring, cX9_spring, 3, (some .int), tbX9_spring)
theorem co_X9_spring : Cond.code mX9_spring.1 mX9_spring.2.1 mX9_spring.2.2.1 mX9_spring.2.2.2.1 ∈ pGood := pGood_in 1050 (by decide +kernel) (by decide +kernel)
theorem tk_X9_spring : pTabOk mX9_spring.2.1 mX9_spring.2.2.2.2 = true := tbX9_spring_ok
theorem im_X9_ideal : Cond.instanceMethod yX9_ideal ∈ pGood := pGood_in 1053 (by decide +kernel) (by decide +kernel)
def mX9_ideal : PM := (yX9_ideal, cX9_ideal, 6, (some .float), tbX9_ideal)
theorem co_X9_ideal : Cond.code mX9_ideal.1 mX9_ideal.2.1 mX9_ideal.2.2.1 mX9_ideal.2.2.2.1 ∈ pGood := pGood_in 1054 (by decide +kernel) (by decide +kernel)
theorem tk_X9_ideal : pTabOk mX9_ideal.2.1 mX9_ideal.2.2.2.2 = true := tbX9_ideal_ok
theorem kc_X9_140 : Cond.constantFloat RX9 140 1077936128 ∈ pGood := pGood_in 1055 (by decide +kernel) (by decide +kernel)
theorem kc_X9_141 : Cond.constantFloat RX9 141 1086324736 ∈ pGood := pGood_in 1056 (by decide +kernel) (by decide +kernel)
theorem im_X9_flex : Cond.instanceMethod yX9_flex ∈ pGood := pGood_in 1059 (by decide +kernel) (by decide +kernel)
def mX9_flex : PM := (yX9_flex, cX9_flex, 2, (some .float), tbX9_flex)
theorem co_X9_flex : Cond.code mX9_flex.1 mX9_flex.2.1 mX9_flex.2.2.1 mX9_flex.2.2.2.1 ∈ pGood := pGood_in 1060 (by decide +kernel) (by decide +kernel)
theorem tk_X9_flex : pTabOk mX9_flex.2.1 mX9_flex.2.2.2.2 = true := tbX9_flex_ok
theorem kc_X9_142 : Cond.constantFloat RX9 142 1048576000 ∈ pGood := pGood_in 1061 (by decide +kernel) (by decide +kernel)
theorem im_X9_rod : Cond.instanceMethod yX9_rod ∈ pGood := pGood_in 1064 (by decide +kernel) (by decide +kernel)
def mX9_rod : PM := (yX9_rod, cX9_rod, 2, (some .float), tbX9_rod)
theorem co_X9_rod : Cond.code mX9_rod.1 mX9_rod.2.1 mX9_rod.2.2.1 mX9_rod.2.2.2.1 ∈ pGood := pGood_in 1065 (by decide +kernel) (by decide +kernel)
theorem tk_X9_rod : pTabOk mX9_rod.2.1 mX9_rod.2.2.2.2 = true := tbX9_rod_ok
theorem st_Jxf58ca_floatToIntBits_5c35a : Cond.static yJxf58ca_floatToIntBits_5c35a ∈ pGood := pGood_in 1067 (by decide +kernel) (by decide +kernel)
def mJxf58ca_floatToIntBits_5c35a : PM := (yJxf58ca_floatToIntBits_5c35a, cJxf58ca_floatToIntBits_5c35a, 1, (some .int), tbJxf58ca_floatToIntBits_5c35a)
theorem co_Jxf58ca_floatToIntBits_5c35a : Cond.code mJxf58ca_floatToIntBits_5c35a.1 mJxf58ca_floatToIntBits_5c35a.2.1 mJxf58ca_floatToIntBits_5c35a.2.2.1 mJxf58ca_floatToIntBits_5c35a.2.2.2.1 ∈ pGood := pGood_in 1068 (by decide +kernel) (by decide +kernel)
theorem tk_Jxf58ca_floatToIntBits_5c35a : pTabOk mJxf58ca_floatToIntBits_5c35a.2.1 mJxf58ca_floatToIntBits_5c35a.2.2.2.2 = true := tbJxf58ca_floatToIntBits_5c35a_ok
theorem st_Jxf58ca_isNaN_12338 : Cond.static yJxf58ca_isNaN_12338 ∈ pGood := pGood_in 1070 (by decide +kernel) (by decide +kernel)
def mJxf58ca_isNaN_12338 : PM := (yJxf58ca_isNaN_12338, cJxf58ca_isNaN_12338, 1, (some .boolean), tbJxf58ca_isNaN_12338)
theorem co_Jxf58ca_isNaN_12338 : Cond.code mJxf58ca_isNaN_12338.1 mJxf58ca_isNaN_12338.2.1 mJxf58ca_isNaN_12338.2.2.1 mJxf58ca_isNaN_12338.2.2.2.1 ∈ pGood := pGood_in 1071 (by decide +kernel) (by decide +kernel)
theorem tk_Jxf58ca_isNaN_12338 : pTabOk mJxf58ca_isNaN_12338.2.1 mJxf58ca_isNaN_12338.2.2.2.2 = true := tbJxf58ca_isNaN_12338_ok
theorem ml_Jxf58ca_74 : Cond.methodLink RJxf58ca 74 ⟨"java/lang/Float", "floatToRawIntBits", "(F)I"⟩ ∈ pGood := pGood_in 1072 (by decide +kernel) (by decide +kernel)
theorem st_java_lang_Float_floatToRawIntBits : Cond.static ⟨"java/lang/Float", "floatToRawIntBits", "(F)I"⟩ ∈ pGood := pGood_in 1073 (by decide +kernel) (by decide +kernel)
theorem na_floatToRawIntBits : Cond.native ⟨"java/lang/Float", "floatToRawIntBits", "(F)I"⟩ ∈ pGood := pGood_in 1074 (by decide +kernel) (by decide +kernel)
theorem kc_Jxf58ca_77 : Cond.constant RJxf58ca 77 2143289344 ∈ pGood := pGood_in 1075 (by decide +kernel) (by decide +kernel)
theorem im_X9_width : Cond.instanceMethod yX9_width ∈ pGood := pGood_in 1077 (by decide +kernel) (by decide +kernel)
theorem se_X9_width : Cond.selects RX9 yX9_width yX9_width ∈ pGood := pGood_in 1078 (by decide +kernel) (by decide +kernel)
def mX9_width : PM := (yX9_width, cX9_width, 3, (some .int), tbX9_width)
theorem co_X9_width : Cond.code mX9_width.1 mX9_width.2.1 mX9_width.2.2.1 mX9_width.2.2.2.1 ∈ pGood := pGood_in 1079 (by decide +kernel) (by decide +kernel)
theorem tk_X9_width : pTabOk mX9_width.2.1 mX9_width.2.2.2.2 = true := tbX9_width_ok
theorem kc_X9_159 : Cond.constantLong RX9 159 380 ∈ pGood := pGood_in 1080 (by decide +kernel) (by decide +kernel)
theorem im_X9_force : Cond.instanceMethod yX9_force ∈ pGood := pGood_in 1082 (by decide +kernel) (by decide +kernel)
theorem se_X9_force : Cond.selects RX9 yX9_force yX9_force ∈ pGood := pGood_in 1083 (by decide +kernel) (by decide +kernel)
def mX9_force : PM := (yX9_force, cX9_force, 3, (some .int), tbX9_force)
theorem co_X9_force : Cond.code mX9_force.1 mX9_force.2.1 mX9_force.2.2.1 mX9_force.2.2.2.1 ∈ pGood := pGood_in 1084 (by decide +kernel) (by decide +kernel)
theorem tk_X9_force : pTabOk mX9_force.2.1 mX9_force.2.2.2.2 = true := tbX9_force_ok
theorem im_X9_isStretch : Cond.instanceMethod yX9_isStretch ∈ pGood := pGood_in 1087 (by decide +kernel) (by decide +kernel)
def mX9_isStretch : PM := (yX9_isStretch, cX9_isStretch, 3, (some .boolean), tbX9_isStretch)
theorem co_X9_isStretch : Cond.code mX9_isStretch.1 mX9_isStretch.2.1 mX9_isStretch.2.2.1 mX9_isStretch.2.2.2.1 ∈ pGood := pGood_in 1088 (by decide +kernel) (by decide +kernel)
theorem tk_X9_isStretch : pTabOk mX9_isStretch.2.1 mX9_isStretch.2.2.2.2 = true := tbX9_isStretch_ok
theorem im_X9_laysOut : Cond.instanceMethod yX9_laysOut ∈ pGood := pGood_in 1091 (by decide +kernel) (by decide +kernel)
def mX9_laysOut : PM := (yX9_laysOut, cX9_laysOut, 6, none, tbX9_laysOut)
theorem co_X9_laysOut : Cond.code mX9_laysOut.1 mX9_laysOut.2.1 mX9_laysOut.2.2.1 mX9_laysOut.2.2.2.1 ∈ pGood := pGood_in 1092 (by decide +kernel) (by decide +kernel)
theorem tk_X9_laysOut : pTabOk mX9_laysOut.2.1 mX9_laysOut.2.2.2.2 = true := tbX9_laysOut_ok
theorem im_X9_forceOf : Cond.instanceMethod yX9_forceOf ∈ pGood := pGood_in 1095 (by decide +kernel) (by decide +kernel)
def mX9_forceOf : PM := (yX9_forceOf, cX9_forceOf, 7, none, tbX9_forceOf)
theorem co_X9_forceOf : Cond.code mX9_forceOf.1 mX9_forceOf.2.1 mX9_forceOf.2.2.1 mX9_forceOf.2.2.2.1 ∈ pGood := pGood_in 1096 (by decide +kernel) (by decide +kernel)
theorem tk_X9_forceOf : pTabOk mX9_forceOf.2.1 mX9_forceOf.2.2.2.2 = true := tbX9_forceOf_ok
theorem im_X9_wanted : Cond.instanceMethod yX9_wanted ∈ pGood := pGood_in 1099 (by decide +kernel) (by decide +kernel)
def mX9_wanted : PM := (yX9_wanted, cX9_wanted, 3, (some .float), tbX9_wanted)
theorem co_X9_wanted : Cond.code mX9_wanted.1 mX9_wanted.2.1 mX9_wanted.2.2.1 mX9_wanted.2.2.2.1 ∈ pGood := pGood_in 1100 (by decide +kernel) (by decide +kernel)
theorem tk_X9_wanted : pTabOk mX9_wanted.2.1 mX9_wanted.2.2.2.2 = true := tbX9_wanted_ok
theorem im_X9_held : Cond.instanceMethod yX9_held ∈ pGood := pGood_in 1102 (by decide +kernel) (by decide +kernel)
theorem se_X9_held : Cond.selects RX9 yX9_held yX9_held ∈ pGood := pGood_in 1103 (by decide +kernel) (by decide +kernel)
def mX9_held : PM := (yX9_held, cX9_held, 3, (some .int), tbX9_held)
theorem co_X9_held : Cond.code mX9_held.1 mX9_held.2.1 mX9_held.2.2.1 mX9_held.2.2.2.1 ∈ pGood := pGood_in 1104 (by decide +kernel) (by decide +kernel)
theorem tk_X9_held : pTabOk mX9_held.2.1 mX9_held.2.2.2.2 = true := tbX9_held_ok
theorem im_X9_at : Cond.instanceMethod yX9_at ∈ pGood := pGood_in 1106 (by decide +kernel) (by decide +kernel)
theorem se_X9_at : Cond.selects RX9 yX9_at yX9_at ∈ pGood := pGood_in 1107 (by decide +kernel) (by decide +kernel)
def mX9_at : PM := (yX9_at, cX9_at, 5, (some .int), tbX9_at)
theorem co_X9_at : Cond.code mX9_at.1 mX9_at.2.1 mX9_at.2.2.1 mX9_at.2.2.2.1 ∈ pGood := pGood_in 1108 (by decide +kernel) (by decide +kernel)
theorem tk_X9_at : pTabOk mX9_at.2.1 mX9_at.2.2.2.2 = true := tbX9_at_ok
theorem im_X9_bad : Cond.instanceMethod yX9_bad ∈ pGood := pGood_in 1110 (by decide +kernel) (by decide +kernel)
theorem se_X9_bad : Cond.selects RX9 yX9_bad yX9_bad ∈ pGood := pGood_in 1111 (by decide +kernel) (by decide +kernel)
def mX9_bad : PM := (yX9_bad, cX9_bad, 3, (some .int), tbX9_bad)
theorem co_X9_bad : Cond.code mX9_bad.1 mX9_bad.2.1 mX9_bad.2.2.1 mX9_bad.2.2.2.1 ∈ pGood := pGood_in 1112 (by decide +kernel) (by decide +kernel)
theorem tk_X9_bad : pTabOk mX9_bad.2.1 mX9_bad.2.2.2.2 = true := tbX9_bad_ok
theorem im_X9_isGood : Cond.instanceMethod yX9_isGood ∈ pGood := pGood_in 1115 (by decide +kernel) (by decide +kernel)
def mX9_isGood : PM := (yX9_isGood, cX9_isGood, 7, (some .boolean), tbX9_isGood)
theorem co_X9_isGood : Cond.code mX9_isGood.1 mX9_isGood.2.1 mX9_isGood.2.2.1 mX9_isGood.2.2.2.1 ∈ pGood := pGood_in 1116 (by decide +kernel) (by decide +kernel)
theorem tk_X9_isGood : pTabOk mX9_isGood.2.1 mX9_isGood.2.2.2.2 = true := tbX9_isGood_ok
theorem kc_X9_182 : Cond.constantFloat RX9 182 1120403456 ∈ pGood := pGood_in 1117 (by decide +kernel) (by decide +kernel)
theorem im_X9_sky : Cond.instanceMethod yX9_sky ∈ pGood := pGood_in 1119 (by decide +kernel) (by decide +kernel)
theorem se_X9_sky : Cond.selects RX9 yX9_sky yX9_sky ∈ pGood := pGood_in 1120 (by decide +kernel) (by decide +kernel)
def mX9_sky : PM := (yX9_sky, cX9_sky, 6, (some .int), tbX9_sky)
theorem co_X9_sky : Cond.code mX9_sky.1 mX9_sky.2.1 mX9_sky.2.2.1 mX9_sky.2.2.2.1 ∈ pGood := pGood_in 1121 (by decide +kernel) (by decide +kernel)
theorem tk_X9_sky : pTabOk mX9_sky.2.1 mX9_sky.2.2.2.2 = true := tbX9_sky_ok
theorem kc_X9_189 : Cond.constantLong RX9 189 399 ∈ pGood := pGood_in 1122 (by decide +kernel) (by decide +kernel)
theorem im_X9_inks : Cond.instanceMethod yX9_inks ∈ pGood := pGood_in 1125 (by decide +kernel) (by decide +kernel)
def mX9_inks : PM := (yX9_inks, cX9_inks, 6, none, tbX9_inks)
theorem co_X9_inks : Cond.code mX9_inks.1 mX9_inks.2.1 mX9_inks.2.2.1 mX9_inks.2.2.2.1 ∈ pGood := pGood_in 1126 (by decide +kernel) (by decide +kernel)
theorem tk_X9_inks : pTabOk mX9_inks.2.1 mX9_inks.2.2.2.2 = true := tbX9_inks_ok
theorem im_X9_apart : Cond.instanceMethod yX9_apart ∈ pGood := pGood_in 1128 (by decide +kernel) (by decide +kernel)
theorem se_X9_apart : Cond.selects RX9 yX9_apart yX9_apart ∈ pGood := pGood_in 1129 (by decide +kernel) (by decide +kernel)
def mX9_apart : PM := (yX9_apart, cX9_apart, 5, (some .int), tbX9_apart)
theorem co_X9_apart : Cond.code mX9_apart.1 mX9_apart.2.1 mX9_apart.2.2.1 mX9_apart.2.2.2.1 ∈ pGood := pGood_in 1130 (by decide +kernel) (by decide +kernel)
theorem tk_X9_apart : pTabOk mX9_apart.2.1 mX9_apart.2.2.2.2 = true := tbX9_apart_ok
theorem im_X9_apartOf : Cond.instanceMethod yX9_apartOf ∈ pGood := pGood_in 1133 (by decide +kernel) (by decide +kernel)
def mX9_apartOf : PM := (yX9_apartOf, cX9_apartOf, 7, (some .int), tbX9_apartOf)
theorem co_X9_apartOf : Cond.code mX9_apartOf.1 mX9_apartOf.2.1 mX9_apartOf.2.2.1 mX9_apartOf.2.2.2.1 ∈ pGood := pGood_in 1134 (by decide +kernel) (by decide +kernel)
theorem tk_X9_apartOf : pTabOk mX9_apartOf.2.1 mX9_apartOf.2.2.2.2 = true := tbX9_apartOf_ok
theorem im_X9_lines : Cond.instanceMethod yX9_lines ∈ pGood := pGood_in 1136 (by decide +kernel) (by decide +kernel)
theorem se_X9_lines : Cond.selects RX9 yX9_lines yX9_lines ∈ pGood := pGood_in 1137 (by decide +kernel) (by decide +kernel)
def mX9_lines : PM := (yX9_lines, cX9_lines, 1, (some .int), tbX9_lines)
theorem co_X9_lines : Cond.code mX9_lines.1 mX9_lines.2.1 mX9_lines.2.2.1 mX9_lines.2.2.2.1 ∈ pGood := pGood_in 1138 (by decide +kernel) (by decide +kernel)
theorem tk_X9_lines : pTabOk mX9_lines.2.1 mX9_lines.2.2.2.2 = true := tbX9_lines_ok
theorem im_X9_breaks : Cond.instanceMethod yX9_breaks ∈ pGood := pGood_in 1141 (by decide +kernel) (by decide +kernel)
def mX9_breaks : PM := (yX9_breaks, cX9_breaks, 4, (some .boolean), tbX9_breaks)
theorem co_X9_breaks : Cond.code mX9_breaks.1 mX9_breaks.2.1 mX9_breaks.2.2.1 mX9_breaks.2.2.2.1 ∈ pGood := pGood_in 1142 (by decide +kernel) (by decide +kernel)
theorem tk_X9_breaks : pTabOk mX9_breaks.2.1 mX9_breaks.2.2.2.2 = true := tbX9_breaks_ok
theorem im_X9_bestTo : Cond.instanceMethod yX9_bestTo ∈ pGood := pGood_in 1145 (by decide +kernel) (by decide +kernel)
def mX9_bestTo : PM := (yX9_bestTo, cX9_bestTo, 4, none, tbX9_bestTo)
theorem co_X9_bestTo : Cond.code mX9_bestTo.1 mX9_bestTo.2.1 mX9_bestTo.2.2.1 mX9_bestTo.2.2.2.1 ∈ pGood := pGood_in 1146 (by decide +kernel) (by decide +kernel)
theorem tk_X9_bestTo : pTabOk mX9_bestTo.2.1 mX9_bestTo.2.2.2.2 = true := tbX9_bestTo_ok
theorem im_X9_isEnd : Cond.instanceMethod yX9_isEnd ∈ pGood := pGood_in 1149 (by decide +kernel) (by decide +kernel)
def mX9_isEnd : PM := (yX9_isEnd, cX9_isEnd, 2, (some .boolean), tbX9_isEnd)
theorem co_X9_isEnd : Cond.code mX9_isEnd.1 mX9_isEnd.2.1 mX9_isEnd.2.2.1 mX9_isEnd.2.2.2.1 ∈ pGood := pGood_in 1150 (by decide +kernel) (by decide +kernel)
theorem tk_X9_isEnd : pTabOk mX9_isEnd.2.1 mX9_isEnd.2.2.2.2 = true := tbX9_isEnd_ok
theorem im_X9_line : Cond.instanceMethod yX9_line ∈ pGood := pGood_in 1152 (by decide +kernel) (by decide +kernel)
theorem se_X9_line : Cond.selects RX9 yX9_line yX9_line ∈ pGood := pGood_in 1153 (by decide +kernel) (by decide +kernel)
def mX9_line : PM := (yX9_line, cX9_line, 3, (some .int), tbX9_line)
theorem co_X9_line : Cond.code mX9_line.1 mX9_line.2.1 mX9_line.2.2.1 mX9_line.2.2.2.1 ∈ pGood := pGood_in 1154 (by decide +kernel) (by decide +kernel)
theorem tk_X9_line : pTabOk mX9_line.2.1 mX9_line.2.2.2.2 = true := tbX9_line_ok
theorem kc_X9_212 : Cond.constantLong RX9 212 3 ∈ pGood := pGood_in 1155 (by decide +kernel) (by decide +kernel)
theorem im_X9_total : Cond.instanceMethod yX9_total ∈ pGood := pGood_in 1157 (by decide +kernel) (by decide +kernel)
theorem se_X9_total : Cond.selects RX9 yX9_total yX9_total ∈ pGood := pGood_in 1158 (by decide +kernel) (by decide +kernel)
def mX9_total : PM := (yX9_total, cX9_total, 1, (some .int), tbX9_total)
theorem co_X9_total : Cond.code mX9_total.1 mX9_total.2.1 mX9_total.2.2.1 mX9_total.2.2.2.1 ∈ pGood := pGood_in 1159 (by decide +kernel) (by decide +kernel)
theorem tk_X9_total : pTabOk mX9_total.2.1 mX9_total.2.2.2.2 = true := tbX9_total_ok
theorem im_X9_moved : Cond.instanceMethod yX9_moved ∈ pGood := pGood_in 1161 (by decide +kernel) (by decide +kernel)
theorem se_X9_moved : Cond.selects RX9 yX9_moved yX9_moved ∈ pGood := pGood_in 1162 (by decide +kernel) (by decide +kernel)
def mX9_moved : PM := (yX9_moved, cX9_moved, 9, (some .int), tbX9_moved)
theorem co_X9_moved : Cond.code mX9_moved.1 mX9_moved.2.1 mX9_moved.2.2.1 mX9_moved.2.2.2.1 ∈ pGood := pGood_in 1163 (by decide +kernel) (by decide +kernel)
theorem tk_X9_moved : pTabOk mX9_moved.2.1 mX9_moved.2.2.2.2 = true := tbX9_moved_ok
theorem im_X9_keepsLines : Cond.instanceMethod yX9_keepsLines ∈ pGood := pGood_in 1166 (by decide +kernel) (by decide +kernel)
def mX9_keepsLines : PM := (yX9_keepsLines, cX9_keepsLines, 3, none, tbX9_keepsLines)
theorem co_X9_keepsLines : Cond.code mX9_keepsLines.1 mX9_keepsLines.2.1 mX9_keepsLines.2.2.1 mX9_keepsLines.2.2.2.1 ∈ pGood := pGood_in 1167 (by decide +kernel) (by decide +kernel)
theorem tk_X9_keepsLines : pTabOk mX9_keepsLines.2.1 mX9_keepsLines.2.2.2.2 = true := tbX9_keepsLines_ok
theorem im_X9_isAsWas : Cond.instanceMethod yX9_isAsWas ∈ pGood := pGood_in 1170 (by decide +kernel) (by decide +kernel)
def mX9_isAsWas : PM := (yX9_isAsWas, cX9_isAsWas, 3, (some .boolean), tbX9_isAsWas)
theorem co_X9_isAsWas : Cond.code mX9_isAsWas.1 mX9_isAsWas.2.1 mX9_isAsWas.2.2.1 mX9_isAsWas.2.2.2.1 ∈ pGood := pGood_in 1171 (by decide +kernel) (by decide +kernel)
theorem tk_X9_isAsWas : pTabOk mX9_isAsWas.2.1 mX9_isAsWas.2.2.2.2 = true := tbX9_isAsWas_ok
theorem im_X9_beam : Cond.instanceMethod yX9_beam ∈ pGood := pGood_in 1173 (by decide +kernel) (by decide +kernel)
theorem se_X9_beam : Cond.selects RX9 yX9_beam yX9_beam ∈ pGood := pGood_in 1174 (by decide +kernel) (by decide +kernel)
def mX9_beam : PM := (yX9_beam, cX9_beam, 4, (some .int), tbX9_beam)
theorem co_X9_beam : Cond.code mX9_beam.1 mX9_beam.2.1 mX9_beam.2.2.1 mX9_beam.2.2.2.1 ∈ pGood := pGood_in 1175 (by decide +kernel) (by decide +kernel)
theorem tk_X9_beam : pTabOk mX9_beam.2.1 mX9_beam.2.2.2.2 = true := tbX9_beam_ok
theorem kc_X9_241 : Cond.constant RX9 241 (-2147483003) ∈ pGood := pGood_in 1176 (by decide +kernel) (by decide +kernel)
theorem im_X9_areNotes : Cond.instanceMethod yX9_areNotes ∈ pGood := pGood_in 1179 (by decide +kernel) (by decide +kernel)
def mX9_areNotes : PM := (yX9_areNotes, cX9_areNotes, 4, (some .boolean), tbX9_areNotes)
theorem co_X9_areNotes : Cond.code mX9_areNotes.1 mX9_areNotes.2.1 mX9_areNotes.2.2.1 mX9_areNotes.2.2.2.1 ∈ pGood := pGood_in 1180 (by decide +kernel) (by decide +kernel)
theorem tk_X9_areNotes : pTabOk mX9_areNotes.2.1 mX9_areNotes.2.2.2.2 = true := tbX9_areNotes_ok
theorem kc_X9_245 : Cond.constant RX9 245 (-2147483005) ∈ pGood := pGood_in 1181 (by decide +kernel) (by decide +kernel)
theorem im_X9_isUp : Cond.instanceMethod yX9_isUp ∈ pGood := pGood_in 1184 (by decide +kernel) (by decide +kernel)
def mX9_isUp : PM := (yX9_isUp, cX9_isUp, 5, (some .boolean), tbX9_isUp)
theorem co_X9_isUp : Cond.code mX9_isUp.1 mX9_isUp.2.1 mX9_isUp.2.2.1 mX9_isUp.2.2.2.1 ∈ pGood := pGood_in 1185 (by decide +kernel) (by decide +kernel)
theorem tk_X9_isUp : pTabOk mX9_isUp.2.1 mX9_isUp.2.2.2.2 = true := tbX9_isUp_ok
theorem im_X9_rise : Cond.instanceMethod yX9_rise ∈ pGood := pGood_in 1188 (by decide +kernel) (by decide +kernel)
def mX9_rise : PM := (yX9_rise, cX9_rise, 4, (some .float), tbX9_rise)
theorem co_X9_rise : Cond.code mX9_rise.1 mX9_rise.2.1 mX9_rise.2.2.1 mX9_rise.2.2.2.1 ∈ pGood := pGood_in 1189 (by decide +kernel) (by decide +kernel)
theorem tk_X9_rise : pTabOk mX9_rise.2.1 mX9_rise.2.2.2.2 = true := tbX9_rise_ok
theorem im_X9_slope : Cond.instanceMethod yX9_slope ∈ pGood := pGood_in 1192 (by decide +kernel) (by decide +kernel)
def mX9_slope : PM := (yX9_slope, cX9_slope, 4, (some .float), tbX9_slope)
theorem co_X9_slope : Cond.code mX9_slope.1 mX9_slope.2.1 mX9_slope.2.2.1 mX9_slope.2.2.2.1 ∈ pGood := pGood_in 1193 (by decide +kernel) (by decide +kernel)
theorem tk_X9_slope : pTabOk mX9_slope.2.1 mX9_slope.2.2.2.2 = true := tbX9_slope_ok
theorem kc_X9_227 : Cond.constantFloat RX9 227 1082130432 ∈ pGood := pGood_in 1194 (by decide +kernel) (by decide +kernel)
theorem kc_X9_228 : Cond.constantFloat RX9 228 1056964608 ∈ pGood := pGood_in 1195 (by decide +kernel) (by decide +kernel)
theorem st_X9_whole : Cond.static yX9_whole ∈ pGood := pGood_in 1197 (by decide +kernel) (by decide +kernel)
def mX9_whole : PM := (yX9_whole, cX9_whole, 2, (some .float), tbX9_whole)
theorem co_X9_whole : Cond.code mX9_whole.1 mX9_whole.2.1 mX9_whole.2.2.1 mX9_whole.2.2.2.1 ∈ pGood := pGood_in 1198 (by decide +kernel) (by decide +kernel)
theorem tk_X9_whole : pTabOk mX9_whole.2.1 mX9_whole.2.2.2.2 = true := tbX9_whole_ok
theorem kc_X9_233 : Cond.constantFloat RX9 233 3204448256 ∈ pGood := pGood_in 1199 (by decide +kernel) (by decide +kernel)
theorem im_X9_lift : Cond.instanceMethod yX9_lift ∈ pGood := pGood_in 1202 (by decide +kernel) (by decide +kernel)
def mX9_lift : PM := (yX9_lift, cX9_lift, 10, (some .float), tbX9_lift)
theorem co_X9_lift : Cond.code mX9_lift.1 mX9_lift.2.1 mX9_lift.2.2.1 mX9_lift.2.2.2.1 ∈ pGood := pGood_in 1203 (by decide +kernel) (by decide +kernel)
theorem tk_X9_lift : pTabOk mX9_lift.2.1 mX9_lift.2.2.2.2 = true := tbX9_lift_ok
theorem kc_X9_240 : Cond.constantFloat RX9 240 1084227584 ∈ pGood := pGood_in 1204 (by decide +kernel) (by decide +kernel)
theorem im_X9_slur : Cond.instanceMethod yX9_slur ∈ pGood := pGood_in 1206 (by decide +kernel) (by decide +kernel)
theorem se_X9_slur : Cond.selects RX9 yX9_slur yX9_slur ∈ pGood := pGood_in 1207 (by decide +kernel) (by decide +kernel)
def mX9_slur : PM := (yX9_slur, cX9_slur, 8, (some .int), tbX9_slur)
theorem co_X9_slur : Cond.code mX9_slur.1 mX9_slur.2.1 mX9_slur.2.2.1 mX9_slur.2.2.2.1 ∈ pGood := pGood_in 1208 (by decide +kernel) (by decide +kernel)
theorem tk_X9_slur : pTabOk mX9_slur.2.1 mX9_slur.2.2.2.2 = true := tbX9_slur_ok
theorem im_X9_height : Cond.instanceMethod yX9_height ∈ pGood := pGood_in 1211 (by decide +kernel) (by decide +kernel)
def mX9_height : PM := (yX9_height, cX9_height, 11, (some .int), tbX9_height)
theorem co_X9_height : Cond.code mX9_height.1 mX9_height.2.1 mX9_height.2.2.1 mX9_height.2.2.2.1 ∈ pGood := pGood_in 1212 (by decide +kernel) (by decide +kernel)
theorem tk_X9_height : pTabOk mX9_height.2.1 mX9_height.2.2.2.2 = true := tbX9_height_ok
theorem im_X9_ink : Cond.instanceMethod yX9_ink ∈ pGood := pGood_in 1215 (by decide +kernel) (by decide +kernel)
def mX9_ink : PM := (yX9_ink, cX9_ink, 3, (some .int), tbX9_ink)
theorem co_X9_ink : Cond.code mX9_ink.1 mX9_ink.2.1 mX9_ink.2.2.1 mX9_ink.2.2.2.1 ∈ pGood := pGood_in 1216 (by decide +kernel) (by decide +kernel)
theorem tk_X9_ink : pTabOk mX9_ink.2.1 mX9_ink.2.2.2.2 = true := tbX9_ink_ok
theorem im_X9_feed : Cond.instanceMethod yX9_feed ∈ pGood := pGood_in 1218 (by decide +kernel) (by decide +kernel)
theorem se_X9_feed : Cond.selects RX9 yX9_feed yX9_feed ∈ pGood := pGood_in 1219 (by decide +kernel) (by decide +kernel)
def mX9_feed : PM := (yX9_feed, cX9_feed, 2, (some .int), tbX9_feed)
theorem co_X9_feed : Cond.code mX9_feed.1 mX9_feed.2.1 mX9_feed.2.2.1 mX9_feed.2.2.2.1 ∈ pGood := pGood_in 1220 (by decide +kernel) (by decide +kernel)
theorem tk_X9_feed : pTabOk mX9_feed.2.1 mX9_feed.2.2.2.2 = true := tbX9_feed_ok
theorem kc_X9_255 : Cond.constantLong RX9 255 255 ∈ pGood := pGood_in 1221 (by decide +kernel) (by decide +kernel)
theorem im_X9_music : Cond.instanceMethod yX9_music ∈ pGood := pGood_in 1223 (by decide +kernel) (by decide +kernel)
theorem se_X9_music : Cond.selects RX9 yX9_music yX9_music ∈ pGood := pGood_in 1224 (by decide +kernel) (by decide +kernel)
def mX9_music : PM := (yX9_music, cX9_music, 3, (some .int), tbX9_music)
theorem co_X9_music : Cond.code mX9_music.1 mX9_music.2.1 mX9_music.2.2.1 mX9_music.2.2.2.1 ∈ pGood := pGood_in 1225 (by decide +kernel) (by decide +kernel)
theorem tk_X9_music : pTabOk mX9_music.2.1 mX9_music.2.2.2.2 = true := tbX9_music_ok
theorem im_X9_sign : Cond.instanceMethod yX9_sign ∈ pGood := pGood_in 1228 (by decide +kernel) (by decide +kernel)
def mX9_sign : PM := (yX9_sign, cX9_sign, 4, none, tbX9_sign)
theorem co_X9_sign : Cond.code mX9_sign.1 mX9_sign.2.1 mX9_sign.2.2.1 mX9_sign.2.2.2.1 ∈ pGood := pGood_in 1229 (by decide +kernel) (by decide +kernel)
theorem tk_X9_sign : pTabOk mX9_sign.2.1 mX9_sign.2.2.2.2 = true := tbX9_sign_ok
theorem im_X9_takes : Cond.instanceMethod yX9_takes ∈ pGood := pGood_in 1232 (by decide +kernel) (by decide +kernel)
def mX9_takes : PM := (yX9_takes, cX9_takes, 3, (some .boolean), tbX9_takes)
theorem co_X9_takes : Cond.code mX9_takes.1 mX9_takes.2.1 mX9_takes.2.2.1 mX9_takes.2.2.2.1 ∈ pGood := pGood_in 1233 (by decide +kernel) (by decide +kernel)
theorem tk_X9_takes : pTabOk mX9_takes.2.1 mX9_takes.2.2.2.2 = true := tbX9_takes_ok
theorem im_X9_number : Cond.instanceMethod yX9_number ∈ pGood := pGood_in 1236 (by decide +kernel) (by decide +kernel)
def mX9_number : PM := (yX9_number, cX9_number, 5, (some .int), tbX9_number)
theorem co_X9_number : Cond.code mX9_number.1 mX9_number.2.1 mX9_number.2.2.1 mX9_number.2.2.2.1 ∈ pGood := pGood_in 1237 (by decide +kernel) (by decide +kernel)
theorem tk_X9_number : pTabOk mX9_number.2.1 mX9_number.2.2.2.2 = true := tbX9_number_ok
theorem im_X9_isDigit : Cond.instanceMethod yX9_isDigit ∈ pGood := pGood_in 1240 (by decide +kernel) (by decide +kernel)
def mX9_isDigit : PM := (yX9_isDigit, cX9_isDigit, 1, (some .boolean), tbX9_isDigit)
theorem co_X9_isDigit : Cond.code mX9_isDigit.1 mX9_isDigit.2.1 mX9_isDigit.2.2.1 mX9_isDigit.2.2.2.1 ∈ pGood := pGood_in 1241 (by decide +kernel) (by decide +kernel)
theorem tk_X9_isDigit : pTabOk mX9_isDigit.2.1 mX9_isDigit.2.2.2.2 = true := tbX9_isDigit_ok
theorem kc_X9_267 : Cond.constantLong RX9 267 48 ∈ pGood := pGood_in 1242 (by decide +kernel) (by decide +kernel)
theorem kc_X9_269 : Cond.constantLong RX9 269 57 ∈ pGood := pGood_in 1243 (by decide +kernel) (by decide +kernel)
theorem im_X9_shelf : Cond.instanceMethod yX9_shelf ∈ pGood := pGood_in 1245 (by decide +kernel) (by decide +kernel)
theorem se_X9_shelf : Cond.selects RX9 yX9_shelf yX9_shelf ∈ pGood := pGood_in 1246 (by decide +kernel) (by decide +kernel)
def mX9_shelf : PM := (yX9_shelf, cX9_shelf, 5, (some .int), tbX9_shelf)
theorem co_X9_shelf : Cond.code mX9_shelf.1 mX9_shelf.2.1 mX9_shelf.2.2.1 mX9_shelf.2.2.2.1 ∈ pGood := pGood_in 1247 (by decide +kernel) (by decide +kernel)
theorem tk_X9_shelf : pTabOk mX9_shelf.2.1 mX9_shelf.2.2.2.2 = true := tbX9_shelf_ok
theorem st_X9_isShelf : Cond.static yX9_isShelf ∈ pGood := pGood_in 1249 (by decide +kernel) (by decide +kernel)
def mX9_isShelf : PM := (yX9_isShelf, cX9_isShelf, 1, (some .boolean), tbX9_isShelf)
theorem co_X9_isShelf : Cond.code mX9_isShelf.1 mX9_isShelf.2.1 mX9_isShelf.2.2.1 mX9_isShelf.2.2.2.1 ∈ pGood := pGood_in 1250 (by decide +kernel) (by decide +kernel)
theorem tk_X9_isShelf : pTabOk mX9_isShelf.2.1 mX9_isShelf.2.2.2.2 = true := tbX9_isShelf_ok
theorem kc_X9_292 : Cond.constantLong RX9 292 (-1) ∈ pGood := pGood_in 1251 (by decide +kernel) (by decide +kernel)
theorem st_X9_shelfAt : Cond.static yX9_shelfAt ∈ pGood := pGood_in 1253 (by decide +kernel) (by decide +kernel)
def mX9_shelfAt : PM := (yX9_shelfAt, cX9_shelfAt, 1, (some .int), tbX9_shelfAt)
theorem co_X9_shelfAt : Cond.code mX9_shelfAt.1 mX9_shelfAt.2.1 mX9_shelfAt.2.2.1 mX9_shelfAt.2.2.2.1 ∈ pGood := pGood_in 1254 (by decide +kernel) (by decide +kernel)
theorem tk_X9_shelfAt : pTabOk mX9_shelfAt.2.1 mX9_shelfAt.2.2.2.2 = true := tbX9_shelfAt_ok
theorem st_X9_placeAt : Cond.static yX9_placeAt ∈ pGood := pGood_in 1256 (by decide +kernel) (by decide +kernel)
def mX9_placeAt : PM := (yX9_placeAt, cX9_placeAt, 2, (some .int), tbX9_placeAt)
theorem co_X9_placeAt : Cond.code mX9_placeAt.1 mX9_placeAt.2.1 mX9_placeAt.2.2.1 mX9_placeAt.2.2.2.1 ∈ pGood := pGood_in 1257 (by decide +kernel) (by decide +kernel)
theorem tk_X9_placeAt : pTabOk mX9_placeAt.2.1 mX9_placeAt.2.2.2.2 = true := tbX9_placeAt_ok
theorem im_X9_store : Cond.instanceMethod yX9_store ∈ pGood := pGood_in 1259 (by decide +kernel) (by decide +kernel)
theorem se_X9_store : Cond.selects RX9 yX9_store yX9_store ∈ pGood := pGood_in 1260 (by decide +kernel) (by decide +kernel)
def mX9_store : PM := (yX9_store, cX9_store, 5, (some .int), tbX9_store)
theorem co_X9_store : Cond.code mX9_store.1 mX9_store.2.1 mX9_store.2.2.1 mX9_store.2.2.2.1 ∈ pGood := pGood_in 1261 (by decide +kernel) (by decide +kernel)
theorem tk_X9_store : pTabOk mX9_store.2.1 mX9_store.2.2.2.2 = true := tbX9_store_ok
theorem im_X9_isPlace : Cond.instanceMethod yX9_isPlace ∈ pGood := pGood_in 1264 (by decide +kernel) (by decide +kernel)
def mX9_isPlace : PM := (yX9_isPlace, cX9_isPlace, 3, (some .boolean), tbX9_isPlace)
theorem co_X9_isPlace : Cond.code mX9_isPlace.1 mX9_isPlace.2.1 mX9_isPlace.2.2.1 mX9_isPlace.2.2.2.1 ∈ pGood := pGood_in 1265 (by decide +kernel) (by decide +kernel)
theorem tk_X9_isPlace : pTabOk mX9_isPlace.2.1 mX9_isPlace.2.2.2.2 = true := tbX9_isPlace_ok
theorem kc_X9_300 : Cond.constant RX9 300 (-2147483007) ∈ pGood := pGood_in 1266 (by decide +kernel) (by decide +kernel)
theorem im_X9_fetch : Cond.instanceMethod yX9_fetch ∈ pGood := pGood_in 1268 (by decide +kernel) (by decide +kernel)
theorem se_X9_fetch : Cond.selects RX9 yX9_fetch yX9_fetch ∈ pGood := pGood_in 1269 (by decide +kernel) (by decide +kernel)
def mX9_fetch : PM := (yX9_fetch, cX9_fetch, 5, (some .int), tbX9_fetch)
theorem co_X9_fetch : Cond.code mX9_fetch.1 mX9_fetch.2.1 mX9_fetch.2.2.1 mX9_fetch.2.2.2.1 ∈ pGood := pGood_in 1270 (by decide +kernel) (by decide +kernel)
theorem tk_X9_fetch : pTabOk mX9_fetch.2.1 mX9_fetch.2.2.2.2 = true := tbX9_fetch_ok
theorem im_X9_comes_ : Cond.instanceMethod yX9_comes_ ∈ pGood := pGood_in 1272 (by decide +kernel) (by decide +kernel)
theorem se_X9_comes_ : Cond.selects RX9 yX9_comes_ yX9_comes_ ∈ pGood := pGood_in 1273 (by decide +kernel) (by decide +kernel)
def mX9_comes_ : PM := (yX9_comes_, cX9_comes_, 4, (some .int), tbX9_comes_)
theorem co_X9_comes_ : Cond.code mX9_comes_.1 mX9_comes_.2.1 mX9_comes_.2.2.1 mX9_comes_.2.2.2.1 ∈ pGood := pGood_in 1274 (by decide +kernel) (by decide +kernel)
theorem tk_X9_comes_ : pTabOk mX9_comes_.2.1 mX9_comes_.2.2.2.2 = true := tbX9_comes__ok
theorem im_X9_sheet : Cond.instanceMethod yX9_sheet ∈ pGood := pGood_in 1276 (by decide +kernel) (by decide +kernel)
theorem se_X9_sheet : Cond.selects RX9 yX9_sheet yX9_sheet ∈ pGood := pGood_in 1277 (by decide +kernel) (by decide +kernel)
def mX9_sheet : PM := (yX9_sheet, cX9_sheet, 5, (some .int), tbX9_sheet)
theorem co_X9_sheet : Cond.code mX9_sheet.1 mX9_sheet.2.1 mX9_sheet.2.2.1 mX9_sheet.2.2.2.1 ∈ pGood := pGood_in 1278 (by decide +kernel) (by decide +kernel)
theorem tk_X9_sheet : pTabOk mX9_sheet.2.1 mX9_sheet.2.2.2.2 = true := tbX9_sheet_ok
theorem st_X9_isSheet : Cond.static yX9_isSheet ∈ pGood := pGood_in 1280 (by decide +kernel) (by decide +kernel)
def mX9_isSheet : PM := (yX9_isSheet, cX9_isSheet, 1, (some .boolean), tbX9_isSheet)
theorem co_X9_isSheet : Cond.code mX9_isSheet.1 mX9_isSheet.2.1 mX9_isSheet.2.2.1 mX9_isSheet.2.2.2.1 ∈ pGood := pGood_in 1281 (by decide +kernel) (by decide +kernel)
theorem tk_X9_isSheet : pTabOk mX9_isSheet.2.1 mX9_isSheet.2.2.2.2 = true := tbX9_isSheet_ok
theorem im_X9_put : Cond.instanceMethod yX9_put ∈ pGood := pGood_in 1283 (by decide +kernel) (by decide +kernel)
theorem se_X9_put : Cond.selects RX9 yX9_put yX9_put ∈ pGood := pGood_in 1284 (by decide +kernel) (by decide +kernel)
def mX9_put : PM := (yX9_put, cX9_put, 9, (some .int), tbX9_put)
theorem co_X9_put : Cond.code mX9_put.1 mX9_put.2.1 mX9_put.2.2.1 mX9_put.2.2.2.1 ∈ pGood := pGood_in 1285 (by decide +kernel) (by decide +kernel)
theorem tk_X9_put : pTabOk mX9_put.2.1 mX9_put.2.2.2.2 = true := tbX9_put_ok
theorem im_X9_isItem : Cond.instanceMethod yX9_isItem ∈ pGood := pGood_in 1288 (by decide +kernel) (by decide +kernel)
def mX9_isItem : PM := (yX9_isItem, cX9_isItem, 3, (some .boolean), tbX9_isItem)
theorem co_X9_isItem : Cond.code mX9_isItem.1 mX9_isItem.2.1 mX9_isItem.2.2.1 mX9_isItem.2.2.2.1 ∈ pGood := pGood_in 1289 (by decide +kernel) (by decide +kernel)
theorem tk_X9_isItem : pTabOk mX9_isItem.2.1 mX9_isItem.2.2.2.2 = true := tbX9_isItem_ok
theorem st_X9_narrow : Cond.static yX9_narrow ∈ pGood := pGood_in 1291 (by decide +kernel) (by decide +kernel)
def mX9_narrow : PM := (yX9_narrow, cX9_narrow, 2, (some .int), tbX9_narrow)
theorem co_X9_narrow : Cond.code mX9_narrow.1 mX9_narrow.2.1 mX9_narrow.2.2.1 mX9_narrow.2.2.2.1 ∈ pGood := pGood_in 1292 (by decide +kernel) (by decide +kernel)
theorem tk_X9_narrow : pTabOk mX9_narrow.2.1 mX9_narrow.2.2.2.2 = true := tbX9_narrow_ok
theorem im_X9_bits : Cond.instanceMethod yX9_bits ∈ pGood := pGood_in 1294 (by decide +kernel) (by decide +kernel)
theorem se_X9_bits : Cond.selects RX9 yX9_bits yX9_bits ∈ pGood := pGood_in 1295 (by decide +kernel) (by decide +kernel)
def mX9_bits : PM := (yX9_bits, cX9_bits, 4, (some .long), tbX9_bits)
theorem co_X9_bits : Cond.code mX9_bits.1 mX9_bits.2.1 mX9_bits.2.2.1 mX9_bits.2.2.2.1 ∈ pGood := pGood_in 1296 (by decide +kernel) (by decide +kernel)
theorem tk_X9_bits : pTabOk mX9_bits.2.1 mX9_bits.2.2.2.2 = true := tbX9_bits_ok
theorem im_X9_errsLong : Cond.instanceMethod yX9_errsLong ∈ pGood := pGood_in 1299 (by decide +kernel) (by decide +kernel)
def mX9_errsLong : PM := (yX9_errsLong, cX9_errsLong, 2, (some .long), tbX9_errsLong)
theorem co_X9_errsLong : Cond.code mX9_errsLong.1 mX9_errsLong.2.1 mX9_errsLong.2.2.1 mX9_errsLong.2.2.2.1 ∈ pGood := pGood_in 1300 (by decide +kernel) (by decide +kernel)
theorem tk_X9_errsLong : pTabOk mX9_errsLong.2.1 mX9_errsLong.2.2.2.2 = true := tbX9_errsLong_ok
theorem kc_X9_83 : Cond.constantLong RX9 83 (-9000000000000000000) ∈ pGood := pGood_in 1301 (by decide +kernel) (by decide +kernel)
theorem st_Jxe99ae_doubleToLongBits_ccdee : Cond.static yJxe99ae_doubleToLongBits_ccdee ∈ pGood := pGood_in 1303 (by decide +kernel) (by decide +kernel)
def mJxe99ae_doubleToLongBits_ccdee : PM := (yJxe99ae_doubleToLongBits_ccdee, cJxe99ae_doubleToLongBits_ccdee, 2, (some .long), tbJxe99ae_doubleToLongBits_ccdee)
theorem co_Jxe99ae_doubleToLongBits_ccdee : Cond.code mJxe99ae_doubleToLongBits_ccdee.1 mJxe99ae_doubleToLongBits_ccdee.2.1 mJxe99ae_doubleToLongBits_ccdee.2.2.1 mJxe99ae_doubleToLongBits_ccdee.2.2.2.1 ∈ pGood := pGood_in 1304 (by decide +kernel) (by decide +kernel)
theorem tk_Jxe99ae_doubleToLongBits_ccdee : pTabOk mJxe99ae_doubleToLongBits_ccdee.2.1 mJxe99ae_doubleToLongBits_ccdee.2.2.2.2 = true := tbJxe99ae_doubleToLongBits_ccdee_ok
theorem st_Jxe99ae_isNaN_b9ae7 : Cond.static yJxe99ae_isNaN_b9ae7 ∈ pGood := pGood_in 1306 (by decide +kernel) (by decide +kernel)
def mJxe99ae_isNaN_b9ae7 : PM := (yJxe99ae_isNaN_b9ae7, cJxe99ae_isNaN_b9ae7, 2, (some .boolean), tbJxe99ae_isNaN_b9ae7)
theorem co_Jxe99ae_isNaN_b9ae7 : Cond.code mJxe99ae_isNaN_b9ae7.1 mJxe99ae_isNaN_b9ae7.2.1 mJxe99ae_isNaN_b9ae7.2.2.1 mJxe99ae_isNaN_b9ae7.2.2.2.1 ∈ pGood := pGood_in 1307 (by decide +kernel) (by decide +kernel)
theorem tk_Jxe99ae_isNaN_b9ae7 : pTabOk mJxe99ae_isNaN_b9ae7.2.1 mJxe99ae_isNaN_b9ae7.2.2.2.2 = true := tbJxe99ae_isNaN_b9ae7_ok
theorem ml_Jxe99ae_134 : Cond.methodLink RJxe99ae 134 ⟨"java/lang/Double", "doubleToRawLongBits", "(D)J"⟩ ∈ pGood := pGood_in 1308 (by decide +kernel) (by decide +kernel)
theorem st_java_lang_Double_doubleToRawLongBits : Cond.static ⟨"java/lang/Double", "doubleToRawLongBits", "(D)J"⟩ ∈ pGood := pGood_in 1309 (by decide +kernel) (by decide +kernel)
theorem na_doubleToRawLongBits : Cond.native ⟨"java/lang/Double", "doubleToRawLongBits", "(D)J"⟩ ∈ pGood := pGood_in 1310 (by decide +kernel) (by decide +kernel)
theorem kc_Jxe99ae_137 : Cond.constantLong RJxe99ae 137 9221120237041090560 ∈ pGood := pGood_in 1311 (by decide +kernel) (by decide +kernel)
theorem im_X9_cast : Cond.instanceMethod yX9_cast ∈ pGood := pGood_in 1313 (by decide +kernel) (by decide +kernel)
theorem se_X9_cast : Cond.selects RX9 yX9_cast yX9_cast ∈ pGood := pGood_in 1314 (by decide +kernel) (by decide +kernel)
def mX9_cast : PM := (yX9_cast, cX9_cast, 4, (some .int), tbX9_cast)
theorem co_X9_cast : Cond.code mX9_cast.1 mX9_cast.2.1 mX9_cast.2.2.1 mX9_cast.2.2.2.1 ∈ pGood := pGood_in 1315 (by decide +kernel) (by decide +kernel)
theorem tk_X9_cast : pTabOk mX9_cast.2.1 mX9_cast.2.2.2.2 = true := tbX9_cast_ok
theorem im_X9_rest : Cond.instanceMethod yX9_rest ∈ pGood := pGood_in 1317 (by decide +kernel) (by decide +kernel)
theorem se_X9_rest : Cond.selects RX9 yX9_rest yX9_rest ∈ pGood := pGood_in 1318 (by decide +kernel) (by decide +kernel)
def mX9_rest : PM := (yX9_rest, cX9_rest, 6, (some .int), tbX9_rest)
theorem co_X9_rest : Cond.code mX9_rest.1 mX9_rest.2.1 mX9_rest.2.2.1 mX9_rest.2.2.2.1 ∈ pGood := pGood_in 1319 (by decide +kernel) (by decide +kernel)
theorem tk_X9_rest : pTabOk mX9_rest.2.1 mX9_rest.2.2.2.2 = true := tbX9_rest_ok
theorem im_X9_isNought : Cond.instanceMethod yX9_isNought ∈ pGood := pGood_in 1322 (by decide +kernel) (by decide +kernel)
def mX9_isNought : PM := (yX9_isNought, cX9_isNought, 3, (some .boolean), tbX9_isNought)
theorem co_X9_isNought : Cond.code mX9_isNought.1 mX9_isNought.2.1 mX9_isNought.2.2.1 mX9_isNought.2.2.2.1 ∈ pGood := pGood_in 1323 (by decide +kernel) (by decide +kernel)
theorem tk_X9_isNought : pTabOk mX9_isNought.2.1 mX9_isNought.2.2.2.2 = true := tbX9_isNought_ok
theorem kc_X9_323 : Cond.constant RX9 323 (-2147483006) ∈ pGood := pGood_in 1324 (by decide +kernel) (by decide +kernel)
theorem im_X9_lays : Cond.instanceMethod yX9_lays ∈ pGood := pGood_in 1326 (by decide +kernel) (by decide +kernel)
theorem se_X9_lays : Cond.selects RX9 yX9_lays yX9_lays ∈ pGood := pGood_in 1327 (by decide +kernel) (by decide +kernel)
def mX9_lays : PM := (yX9_lays, cX9_lays, 6, (some .int), tbX9_lays)
theorem co_X9_lays : Cond.code mX9_lays.1 mX9_lays.2.1 mX9_lays.2.2.1 mX9_lays.2.2.2.1 ∈ pGood := pGood_in 1328 (by decide +kernel) (by decide +kernel)
theorem tk_X9_lays : pTabOk mX9_lays.2.1 mX9_lays.2.2.2.2 = true := tbX9_lays_ok
theorem im_X9_image : Cond.instanceMethod yX9_image ∈ pGood := pGood_in 1330 (by decide +kernel) (by decide +kernel)
theorem se_X9_image : Cond.selects RX9 yX9_image yX9_image ∈ pGood := pGood_in 1331 (by decide +kernel) (by decide +kernel)
def mX9_image : PM := (yX9_image, cX9_image, 1, (some .int), tbX9_image)
theorem co_X9_image : Cond.code mX9_image.1 mX9_image.2.1 mX9_image.2.2.1 mX9_image.2.2.2.1 ∈ pGood := pGood_in 1332 (by decide +kernel) (by decide +kernel)
theorem tk_X9_image : pTabOk mX9_image.2.1 mX9_image.2.2.2.2 = true := tbX9_image_ok
theorem st_X9_copy : Cond.static yX9_copy ∈ pGood := pGood_in 1334 (by decide +kernel) (by decide +kernel)
def mX9_copy : PM := (yX9_copy, cX9_copy, 3, none, tbX9_copy)
theorem co_X9_copy : Cond.code mX9_copy.1 mX9_copy.2.1 mX9_copy.2.2.1 mX9_copy.2.2.2.1 ∈ pGood := pGood_in 1335 (by decide +kernel) (by decide +kernel)
theorem tk_X9_copy : pTabOk mX9_copy.2.1 mX9_copy.2.2.2.2 = true := tbX9_copy_ok
theorem im_X9_restore : Cond.instanceMethod yX9_restore ∈ pGood := pGood_in 1337 (by decide +kernel) (by decide +kernel)
theorem se_X9_restore : Cond.selects RX9 yX9_restore yX9_restore ∈ pGood := pGood_in 1338 (by decide +kernel) (by decide +kernel)
def mX9_restore : PM := (yX9_restore, cX9_restore, 1, (some .int), tbX9_restore)
theorem co_X9_restore : Cond.code mX9_restore.1 mX9_restore.2.1 mX9_restore.2.2.1 mX9_restore.2.2.2.1 ∈ pGood := pGood_in 1339 (by decide +kernel) (by decide +kernel)
theorem tk_X9_restore : pTabOk mX9_restore.2.1 mX9_restore.2.2.2.2 = true := tbX9_restore_ok
theorem im_X9_count : Cond.instanceMethod yX9_count ∈ pGood := pGood_in 1341 (by decide +kernel) (by decide +kernel)
theorem se_X9_count : Cond.selects RX9 yX9_count yX9_count ∈ pGood := pGood_in 1342 (by decide +kernel) (by decide +kernel)
def mX9_count : PM := (yX9_count, cX9_count, 2, (some .int), tbX9_count)
theorem co_X9_count : Cond.code mX9_count.1 mX9_count.2.1 mX9_count.2.2.1 mX9_count.2.2.2.1 ∈ pGood := pGood_in 1343 (by decide +kernel) (by decide +kernel)
theorem tk_X9_count : pTabOk mX9_count.2.1 mX9_count.2.2.2.2 = true := tbX9_count_ok
theorem im_X9_notes : Cond.instanceMethod yX9_notes ∈ pGood := pGood_in 1346 (by decide +kernel) (by decide +kernel)
def mX9_notes : PM := (yX9_notes, cX9_notes, 3, (some .int), tbX9_notes)
theorem co_X9_notes : Cond.code mX9_notes.1 mX9_notes.2.1 mX9_notes.2.2.1 mX9_notes.2.2.2.1 ∈ pGood := pGood_in 1347 (by decide +kernel) (by decide +kernel)
theorem tk_X9_notes : pTabOk mX9_notes.2.1 mX9_notes.2.2.2.2 = true := tbX9_notes_ok
theorem im_X9_durations : Cond.instanceMethod yX9_durations ∈ pGood := pGood_in 1350 (by decide +kernel) (by decide +kernel)
def mX9_durations : PM := (yX9_durations, cX9_durations, 3, (some .int), tbX9_durations)
theorem co_X9_durations : Cond.code mX9_durations.1 mX9_durations.2.1 mX9_durations.2.2.1 mX9_durations.2.2.2.1 ∈ pGood := pGood_in 1351 (by decide +kernel) (by decide +kernel)
theorem tk_X9_durations : pTabOk mX9_durations.2.1 mX9_durations.2.2.2.2 = true := tbX9_durations_ok
theorem im_X9_shelved : Cond.instanceMethod yX9_shelved ∈ pGood := pGood_in 1354 (by decide +kernel) (by decide +kernel)
def mX9_shelved : PM := (yX9_shelved, cX9_shelved, 4, (some .int), tbX9_shelved)
theorem co_X9_shelved : Cond.code mX9_shelved.1 mX9_shelved.2.1 mX9_shelved.2.2.1 mX9_shelved.2.2.2.1 ∈ pGood := pGood_in 1355 (by decide +kernel) (by decide +kernel)
theorem tk_X9_shelved : pTabOk mX9_shelved.2.1 mX9_shelved.2.2.2.2 = true := tbX9_shelved_ok
theorem im_X9_told : Cond.instanceMethod yX9_told ∈ pGood := pGood_in 1357 (by decide +kernel) (by decide +kernel)
theorem se_X9_told : Cond.selects RX9 yX9_told yX9_told ∈ pGood := pGood_in 1358 (by decide +kernel) (by decide +kernel)
def mX9_told : PM := (yX9_told, cX9_told, 2, (some .int), tbX9_told)
theorem co_X9_told : Cond.code mX9_told.1 mX9_told.2.1 mX9_told.2.2.1 mX9_told.2.2.2.1 ∈ pGood := pGood_in 1359 (by decide +kernel) (by decide +kernel)
theorem tk_X9_told : pTabOk mX9_told.2.1 mX9_told.2.2.2.2 = true := tbX9_told_ok
theorem kc_X9_341 : Cond.constantLong RX9 341 7 ∈ pGood := pGood_in 1360 (by decide +kernel) (by decide +kernel)
theorem kc_L_118 : Cond.constantLong RL 118 4294967295 ∈ pGood := pGood_in 1361 (by decide +kernel) (by decide +kernel)
theorem ml_L_9 : pML RL 9 mX8_init := Or.inl (pGood_in 87 (by decide +kernel) (by decide +kernel))
theorem ml_X8_9 : pML RX8 9 mX1_init := Or.inr ⟨"EngravedLines", pNest_in 95 (by decide +kernel) (by decide +kernel)⟩
theorem ml_X1_11 : pML RX1 11 mX4_init := Or.inr ⟨"EngravedLines", pNest_in 101 (by decide +kernel) (by decide +kernel)⟩
theorem ml_X8_25 : pML RX8 25 mX6_init := Or.inr ⟨"EngravedLines", pNest_in 135 (by decide +kernel) (by decide +kernel)⟩
theorem ml_X8_35 : pML RX8 35 mX5_init := Or.inr ⟨"EngravedLines", pNest_in 177 (by decide +kernel) (by decide +kernel)⟩
theorem ml_X8_45 : pML RX8 45 mX0_init := Or.inr ⟨"EngravedLines", pNest_in 193 (by decide +kernel) (by decide +kernel)⟩
theorem ml_X0_24 : pML RX0 24 mX6_init := Or.inr ⟨"EngravedLines", pNest_in 198 (by decide +kernel) (by decide +kernel)⟩
theorem ml_X8_55 : pML RX8 55 mX4_init := Or.inr ⟨"EngravedLines", pNest_in 225 (by decide +kernel) (by decide +kernel)⟩
theorem ml_X8_62 : pML RX8 62 mX7_init := Or.inr ⟨"EngravedLines", pNest_in 228 (by decide +kernel) (by decide +kernel)⟩
theorem ml_X7_21 : pML RX7 21 mX4_init := Or.inr ⟨"EngravedLines", pNest_in 233 (by decide +kernel) (by decide +kernel)⟩
theorem ml_X8_69 : pML RX8 69 mX3_init := Or.inr ⟨"EngravedLines", pNest_in 255 (by decide +kernel) (by decide +kernel)⟩
theorem ml_L_13 : pML RL 13 mX8_add := Or.inl (pGood_in 310 (by decide +kernel) (by decide +kernel))
theorem ml_X8_78 : pML RX8 78 mX8_isAllowed := Or.inl (pGood_in 314 (by decide +kernel) (by decide +kernel))
theorem ml_X8_324 : pML RX8 324 mX8_readInt := Or.inl (pGood_in 319 (by decide +kernel) (by decide +kernel))
theorem ml_X8_101 : pML RX8 101 mX8_isWithin := Or.inl (pGood_in 324 (by decide +kernel) (by decide +kernel))
theorem ml_X8_82 : pML RX8 82 mX8_refuse := Or.inl (pGood_in 327 (by decide +kernel) (by decide +kernel))
theorem ml_X8_328 : pML RX8 328 mX8_writeInt := Or.inl (pGood_in 331 (by decide +kernel) (by decide +kernel))
theorem ml_X8_93 : pML RX8 93 mX4_lay := Or.inl (pGood_in 335 (by decide +kernel) (by decide +kernel))
theorem ml_X4_15 : pML RX4 15 mX4_change := Or.inl (pGood_in 339 (by decide +kernel) (by decide +kernel))
theorem ml_L_18 : pML RL 18 mX8_drop := Or.inl (pGood_in 343 (by decide +kernel) (by decide +kernel))
theorem ml_L_23 : pML RL 23 mX8_set := Or.inl (pGood_in 347 (by decide +kernel) (by decide +kernel))
theorem ml_X8_97 : pML RX8 97 mX8_isColumn := Or.inl (pGood_in 351 (by decide +kernel) (by decide +kernel))
theorem ml_X8_105 : pML RX8 105 mX4_part := Or.inl (pGood_in 355 (by decide +kernel) (by decide +kernel))
theorem ml_X8_109 : pML RX8 109 mX4_change := Or.inl (pGood_in 359 (by decide +kernel) (by decide +kernel))
theorem ml_L_28 : pML RL 28 mX8_of := Or.inl (pGood_in 360 (by decide +kernel) (by decide +kernel))
theorem ml_X8_113 : pML RX8 113 mX4_top := Or.inl (pGood_in 364 (by decide +kernel) (by decide +kernel))
theorem ml_X4_23 : pML RX4 23 mX4_part := Or.inl (pGood_in 368 (by decide +kernel) (by decide +kernel))
theorem ml_X8_116 : pML RX8 116 mX4_bottom := Or.inl (pGood_in 369 (by decide +kernel) (by decide +kernel))
theorem ml_L_32 : pML RL 32 mX8_spring := Or.inl (pGood_in 373 (by decide +kernel) (by decide +kernel))
theorem ml_X8_119 : pML RX8 119 mX4_ideal := Or.inl (pGood_in 377 (by decide +kernel) (by decide +kernel))
theorem ml_X8_123 : pML RX8 123 mX8_floatBits := Or.inl (pGood_in 384 (by decide +kernel) (by decide +kernel))
theorem ml_X8_361 : pML RX8 361 mX2_encode := Or.inl (pGood_in 387 (by decide +kernel) (by decide +kernel))
theorem ml_X2_9 : pML RX2 9 mX2_fractionBits := Or.inl (pGood_in 390 (by decide +kernel) (by decide +kernel))
theorem ml_X2_17 : pML RX2 17 mX2_bias := Or.inl (pGood_in 394 (by decide +kernel) (by decide +kernel))
theorem ml_X2_20 : pML RX2 20 mX2_withSign := Or.inl (pGood_in 397 (by decide +kernel) (by decide +kernel))
theorem ml_X2_24 : pML RX2 24 mX2_signBit := Or.inl (pGood_in 400 (by decide +kernel) (by decide +kernel))
theorem ml_X8_127 : pML RX8 127 mX4_flex := Or.inl (pGood_in 405 (by decide +kernel) (by decide +kernel))
theorem ml_X8_131 : pML RX8 131 mX4_rod := Or.inl (pGood_in 410 (by decide +kernel) (by decide +kernel))
theorem ml_L_36 : pML RL 36 mX8_width := Or.inl (pGood_in 414 (by decide +kernel) (by decide +kernel))
theorem ml_L_41 : pML RL 41 mX8_force := Or.inl (pGood_in 418 (by decide +kernel) (by decide +kernel))
theorem ml_X8_137 : pML RX8 137 mX8_isStretch := Or.inl (pGood_in 422 (by decide +kernel) (by decide +kernel))
theorem ml_X8_140 : pML RX8 140 mX6_settle := Or.inl (pGood_in 426 (by decide +kernel) (by decide +kernel))
theorem ml_X6_67 : pML RX6 67 mX6_take := Or.inl (pGood_in 430 (by decide +kernel) (by decide +kernel))
theorem ml_X6_45 : pML RX6 45 mX4_ideal := Or.inl (pGood_in 434 (by decide +kernel) (by decide +kernel))
theorem ml_X6_51 : pML RX6 51 mX8_writeFloat := Or.inr ⟨"EngravedLines", pNest_in 435 (by decide +kernel) (by decide +kernel)⟩
theorem ml_X6_55 : pML RX6 55 mX4_flex := Or.inl (pGood_in 438 (by decide +kernel) (by decide +kernel))
theorem ml_X6_59 : pML RX6 59 mX4_rod := Or.inl (pGood_in 439 (by decide +kernel) (by decide +kernel))
theorem ml_X6_71 : pML RX6 71 mX8_writeFlag := Or.inr ⟨"EngravedLines", pNest_in 440 (by decide +kernel) (by decide +kernel)⟩
theorem ml_X6_75 : pML RX6 75 mX6_balance := Or.inl (pGood_in 443 (by decide +kernel) (by decide +kernel))
theorem ml_X6_83 : pML RX6 83 mX8_readFlag := Or.inr ⟨"EngravedLines", pNest_in 447 (by decide +kernel) (by decide +kernel)⟩
theorem ml_X6_87 : pML RX6 87 mX8_readFloat := Or.inr ⟨"EngravedLines", pNest_in 450 (by decide +kernel) (by decide +kernel)⟩
theorem ml_X6_79 : pML RX6 79 mX6_holdMore := Or.inl (pGood_in 453 (by decide +kernel) (by decide +kernel))
theorem ml_X6_91 : pML RX6 91 mX6_stretched := Or.inl (pGood_in 457 (by decide +kernel) (by decide +kernel))
theorem ml_L_45 : pML RL 45 mX8_held := Or.inl (pGood_in 461 (by decide +kernel) (by decide +kernel))
theorem ml_X8_148 : pML RX8 148 mX6_heldCount := Or.inl (pGood_in 465 (by decide +kernel) (by decide +kernel))
theorem ml_L_49 : pML RL 49 mX8_at := Or.inl (pGood_in 469 (by decide +kernel) (by decide +kernel))
theorem ml_X8_152 : pML RX8 152 mX6_length := Or.inl (pGood_in 473 (by decide +kernel) (by decide +kernel))
theorem ml_X8_155 : pML RX8 155 mX6_place := Or.inl (pGood_in 477 (by decide +kernel) (by decide +kernel))
theorem ml_X8_158 : pML RX8 158 mX6_cell := Or.inl (pGood_in 481 (by decide +kernel) (by decide +kernel))
theorem ml_X6_94 : pML RX6 94 mX6_place := Or.inl (pGood_in 485 (by decide +kernel) (by decide +kernel))
theorem ml_L_54 : pML RL 54 mX8_bad := Or.inl (pGood_in 486 (by decide +kernel) (by decide +kernel))
theorem ml_X8_161 : pML RX8 161 mX6_take := Or.inl (pGood_in 490 (by decide +kernel) (by decide +kernel))
theorem ml_X8_164 : pML RX8 164 mX6_fits := Or.inl (pGood_in 491 (by decide +kernel) (by decide +kernel))
theorem ml_X6_62 : pML RX6 62 mX6_sum := Or.inl (pGood_in 495 (by decide +kernel) (by decide +kernel))
theorem ml_X8_168 : pML RX8 168 mX6_badness := Or.inl (pGood_in 499 (by decide +kernel) (by decide +kernel))
theorem ml_L_58 : pML RL 58 mX8_sky := Or.inl (pGood_in 504 (by decide +kernel) (by decide +kernel))
theorem ml_X8_172 : pML RX8 172 mX8_traceLine := Or.inl (pGood_in 508 (by decide +kernel) (by decide +kernel))
theorem ml_X8_335 : pML RX8 335 mX5_trace := Or.inl (pGood_in 512 (by decide +kernel) (by decide +kernel))
theorem ml_X5_22 : pML RX5 22 mX8_writeFlag := Or.inr ⟨"EngravedLines", pNest_in 516 (by decide +kernel) (by decide +kernel)⟩
theorem ml_X5_35 : pML RX5 35 mX6_cell := Or.inl (pGood_in 517 (by decide +kernel) (by decide +kernel))
theorem ml_X5_39 : pML RX5 39 mX4_part := Or.inl (pGood_in 518 (by decide +kernel) (by decide +kernel))
theorem ml_X5_50 : pML RX5 50 mX4_top := Or.inl (pGood_in 522 (by decide +kernel) (by decide +kernel))
theorem ml_X5_53 : pML RX5 53 mX4_bottom := Or.inl (pGood_in 523 (by decide +kernel) (by decide +kernel))
theorem ml_X5_56 : pML RX5 56 mX5_ink := Or.inl (pGood_in 524 (by decide +kernel) (by decide +kernel))
theorem ml_X5_68 : pML RX5 68 mX5_hasInk := Or.inl (pGood_in 528 (by decide +kernel) (by decide +kernel))
theorem ml_X5_60 : pML RX5 60 mX8_readFlag := Or.inr ⟨"EngravedLines", pNest_in 532 (by decide +kernel) (by decide +kernel)⟩
theorem ml_X5_72 : pML RX5 72 mX5_upper := Or.inl (pGood_in 533 (by decide +kernel) (by decide +kernel))
theorem ml_X5_64 : pML RX5 64 mX8_readInt := Or.inr ⟨"EngravedLines", pNest_in 537 (by decide +kernel) (by decide +kernel)⟩
theorem ml_X5_78 : pML RX5 78 mX8_writeInt := Or.inr ⟨"EngravedLines", pNest_in 541 (by decide +kernel) (by decide +kernel)⟩
theorem ml_X5_82 : pML RX5 82 mX5_lower := Or.inl (pGood_in 542 (by decide +kernel) (by decide +kernel))
theorem ml_X8_176 : pML RX8 176 mX5_hasInk := Or.inl (pGood_in 546 (by decide +kernel) (by decide +kernel))
theorem ml_X8_179 : pML RX8 179 mX5_upper := Or.inl (pGood_in 547 (by decide +kernel) (by decide +kernel))
theorem ml_X8_182 : pML RX8 182 mX5_lower := Or.inl (pGood_in 548 (by decide +kernel) (by decide +kernel))
theorem ml_L_62 : pML RL 62 mX8_apart := Or.inl (pGood_in 549 (by decide +kernel) (by decide +kernel))
theorem ml_X8_185 : pML RX8 185 mX8_distance := Or.inl (pGood_in 553 (by decide +kernel) (by decide +kernel))
theorem ml_L_66 : pML RL 66 mX8_lines := Or.inl (pGood_in 558 (by decide +kernel) (by decide +kernel))
theorem ml_X8_189 : pML RX8 189 mX8_findBest := Or.inl (pGood_in 562 (by decide +kernel) (by decide +kernel))
theorem ml_X8_211 : pML RX8 211 mX0_find := Or.inl (pGood_in 566 (by decide +kernel) (by decide +kernel))
theorem ml_X0_41 : pML RX0 41 mX8_writeInt := Or.inr ⟨"EngravedLines", pNest_in 570 (by decide +kernel) (by decide +kernel)⟩
theorem ml_X0_45 : pML RX0 45 mX8_writeFloat := Or.inr ⟨"EngravedLines", pNest_in 571 (by decide +kernel) (by decide +kernel)⟩
theorem ml_X0_49 : pML RX0 49 mX4_part := Or.inl (pGood_in 572 (by decide +kernel) (by decide +kernel))
theorem ml_X0_55 : pML RX0 55 mX0_reach := Or.inl (pGood_in 573 (by decide +kernel) (by decide +kernel))
theorem ml_X0_59 : pML RX0 59 mX8_readInt := Or.inr ⟨"EngravedLines", pNest_in 577 (by decide +kernel) (by decide +kernel)⟩
theorem ml_X0_71 : pML RX0 71 mX6_take := Or.inl (pGood_in 578 (by decide +kernel) (by decide +kernel))
theorem ml_X0_75 : pML RX0 75 mX6_fits := Or.inl (pGood_in 579 (by decide +kernel) (by decide +kernel))
theorem ml_X0_63 : pML RX0 63 mX8_readFloat := Or.inr ⟨"EngravedLines", pNest_in 580 (by decide +kernel) (by decide +kernel)⟩
theorem ml_X0_79 : pML RX0 79 mX6_badness := Or.inl (pGood_in 581 (by decide +kernel) (by decide +kernel))
theorem ml_X0_67 : pML RX0 67 mX0_traceBack := Or.inl (pGood_in 582 (by decide +kernel) (by decide +kernel))
theorem ml_L_70 : pML RL 70 mX8_line := Or.inl (pGood_in 586 (by decide +kernel) (by decide +kernel))
theorem ml_X8_198 : pML RX8 198 mX0_first := Or.inl (pGood_in 590 (by decide +kernel) (by decide +kernel))
theorem ml_X8_201 : pML RX8 201 mX0_last := Or.inl (pGood_in 594 (by decide +kernel) (by decide +kernel))
theorem ml_L_74 : pML RL 74 mX8_total := Or.inl (pGood_in 598 (by decide +kernel) (by decide +kernel))
theorem ml_L_78 : pML RL 78 mX8_moved := Or.inl (pGood_in 602 (by decide +kernel) (by decide +kernel))
theorem ml_X8_207 : pML RX8 207 mX4_become := Or.inl (pGood_in 606 (by decide +kernel) (by decide +kernel))
theorem ml_X4_27 : pML RX4 27 mX8_copy := Or.inr ⟨"EngravedLines", pNest_in 610 (by decide +kernel) (by decide +kernel)⟩
theorem ml_X8_215 : pML RX8 215 mX8_standsOtherwise := Or.inl (pGood_in 613 (by decide +kernel) (by decide +kernel))
theorem ml_L_82 : pML RL 82 mX8_beam := Or.inl (pGood_in 617 (by decide +kernel) (by decide +kernel))
theorem ml_X8_218 : pML RX8 218 mX8_areNotes := Or.inl (pGood_in 621 (by decide +kernel) (by decide +kernel))
theorem ml_X8_221 : pML RX8 221 mX8_beamRise := Or.inl (pGood_in 625 (by decide +kernel) (by decide +kernel))
theorem ml_X8_225 : pML RX8 225 mX8_beamSlope := Or.inl (pGood_in 630 (by decide +kernel) (by decide +kernel))
theorem ml_X8_228 : pML RX8 228 mX8_beamGoesUp := Or.inl (pGood_in 636 (by decide +kernel) (by decide +kernel))
theorem ml_X8_231 : pML RX8 231 mX8_beamLift := Or.inl (pGood_in 640 (by decide +kernel) (by decide +kernel))
theorem ml_L_86 : pML RL 86 mX8_slur := Or.inl (pGood_in 645 (by decide +kernel) (by decide +kernel))
theorem ml_X8_234 : pML RX8 234 mX8_slurHeight := Or.inl (pGood_in 649 (by decide +kernel) (by decide +kernel))
theorem ml_X8_348 : pML RX8 348 mX8_inkTowards := Or.inl (pGood_in 653 (by decide +kernel) (by decide +kernel))
theorem ml_X8_238 : pML RX8 238 mX8_isHeight := Or.inl (pGood_in 658 (by decide +kernel) (by decide +kernel))
theorem ml_L_90 : pML RL 90 mX8_feed := Or.inl (pGood_in 661 (by decide +kernel) (by decide +kernel))
theorem ml_X8_244 : pML RX8 244 mX7_append := Or.inl (pGood_in 665 (by decide +kernel) (by decide +kernel))
theorem ml_X7_32 : pML RX7 32 mX8_writeInt := Or.inr ⟨"EngravedLines", pNest_in 669 (by decide +kernel) (by decide +kernel)⟩
theorem ml_L_94 : pML RL 94 mX8_music := Or.inl (pGood_in 670 (by decide +kernel) (by decide +kernel))
theorem ml_X8_248 : pML RX8 248 mX7_readMusic := Or.inl (pGood_in 674 (by decide +kernel) (by decide +kernel))
theorem ml_X7_36 : pML RX7 36 mX7_readSign := Or.inl (pGood_in 678 (by decide +kernel) (by decide +kernel))
theorem ml_X7_40 : pML RX7 40 mX7_isNext := Or.inl (pGood_in 682 (by decide +kernel) (by decide +kernel))
theorem ml_X7_44 : pML RX7 44 mX8_readInt := Or.inr ⟨"EngravedLines", pNest_in 686 (by decide +kernel) (by decide +kernel)⟩
theorem ml_X7_48 : pML RX7 48 mX7_readNumber := Or.inl (pGood_in 687 (by decide +kernel) (by decide +kernel))
theorem ml_X7_60 : pML RX7 60 mX7_digit := Or.inl (pGood_in 691 (by decide +kernel) (by decide +kernel))
theorem ml_X7_52 : pML RX7 52 mX7_readAdorn := Or.inl (pGood_in 695 (by decide +kernel) (by decide +kernel))
theorem ml_X7_56 : pML RX7 56 mX7_keep := Or.inl (pGood_in 699 (by decide +kernel) (by decide +kernel))
theorem ml_X7_63 : pML RX7 63 mX4_lay := Or.inl (pGood_in 703 (by decide +kernel) (by decide +kernel))
theorem ml_L_98 : pML RL 98 mX8_shelf := Or.inl (pGood_in 704 (by decide +kernel) (by decide +kernel))
theorem ml_X8_257 : pML RX8 257 mX1_clearShelf := Or.inl (pGood_in 708 (by decide +kernel) (by decide +kernel))
theorem ml_X1_43 : pML RX1 43 mX8_writeInt := Or.inr ⟨"EngravedLines", pNest_in 712 (by decide +kernel) (by decide +kernel)⟩
theorem ml_X1_47 : pML RX1 47 mX1_place := Or.inl (pGood_in 713 (by decide +kernel) (by decide +kernel))
theorem ml_X1_51 : pML RX1 51 mX4_clear := Or.inl (pGood_in 716 (by decide +kernel) (by decide +kernel))
theorem ml_X4_19 : pML RX4 19 mX4_lay := Or.inl (pGood_in 720 (by decide +kernel) (by decide +kernel))
theorem ml_L_102 : pML RL 102 mX8_store := Or.inl (pGood_in 721 (by decide +kernel) (by decide +kernel))
theorem ml_X8_260 : pML RX8 260 mX1_hasPlace := Or.inl (pGood_in 725 (by decide +kernel) (by decide +kernel))
theorem ml_X1_39 : pML RX1 39 mX1_shelfKind := Or.inl (pGood_in 729 (by decide +kernel) (by decide +kernel))
theorem ml_X1_35 : pML RX1 35 mX8_readInt := Or.inr ⟨"EngravedLines", pNest_in 733 (by decide +kernel) (by decide +kernel)⟩
theorem ml_X8_263 : pML RX8 263 mX1_shelfKind := Or.inl (pGood_in 734 (by decide +kernel) (by decide +kernel))
theorem ml_X8_269 : pML RX8 269 mX1_place := Or.inl (pGood_in 735 (by decide +kernel) (by decide +kernel))
theorem ml_X8_271 : pML RX8 271 mX4_copySign := Or.inl (pGood_in 736 (by decide +kernel) (by decide +kernel))
theorem ml_L_106 : pML RL 106 mX8_fetch := Or.inl (pGood_in 740 (by decide +kernel) (by decide +kernel))
theorem ml_X8_275 : pML RX8 275 mX4_isMissing := Or.inl (pGood_in 744 (by decide +kernel) (by decide +kernel))
theorem ml_L_110 : pML RL 110 mX8_comes := Or.inl (pGood_in 748 (by decide +kernel) (by decide +kernel))
theorem ml_L_114 : pML RL 114 mX8_sheet := Or.inl (pGood_in 752 (by decide +kernel) (by decide +kernel))
theorem ml_X8_278 : pML RX8 278 mX3_clear := Or.inl (pGood_in 756 (by decide +kernel) (by decide +kernel))
theorem ml_X3_30 : pML RX3 30 mX8_writeInt := Or.inr ⟨"EngravedLines", pNest_in 760 (by decide +kernel) (by decide +kernel)⟩
theorem ml_X3_34 : pML RX3 34 mX3_change := Or.inl (pGood_in 761 (by decide +kernel) (by decide +kernel))
theorem ml_X3_68 : pML RX3 68 mX8_writeLong := Or.inr ⟨"EngravedLines", pNest_in 765 (by decide +kernel) (by decide +kernel)⟩
theorem ml_L_120 : pML RL 120 mX8_put := Or.inl (pGood_in 768 (by decide +kernel) (by decide +kernel))
theorem ml_X8_281 : pML RX8 281 mX3_hasNumber := Or.inl (pGood_in 772 (by decide +kernel) (by decide +kernel))
theorem ml_X3_26 : pML RX3 26 mX3_sort := Or.inl (pGood_in 776 (by decide +kernel) (by decide +kernel))
theorem ml_X3_22 : pML RX3 22 mX8_readInt := Or.inr ⟨"EngravedLines", pNest_in 780 (by decide +kernel) (by decide +kernel)⟩
theorem ml_X8_284 : pML RX8 284 mX3_scale := Or.inl (pGood_in 781 (by decide +kernel) (by decide +kernel))
theorem ml_X3_42 : pML RX3 42 mX8_floatBits := Or.inr ⟨"EngravedLines", pNest_in 785 (by decide +kernel) (by decide +kernel)⟩
theorem ml_X3_46 : pML RX3 46 mX2_encode := Or.inl (pGood_in 786 (by decide +kernel) (by decide +kernel))
theorem ml_L_125 : pML RL 125 mX8_bits := Or.inl (pGood_in 787 (by decide +kernel) (by decide +kernel))
theorem ml_X8_288 : pML RX8 288 mX8_refuseLong := Or.inl (pGood_in 791 (by decide +kernel) (by decide +kernel))
theorem ml_X8_292 : pML RX8 292 mX3_number := Or.inl (pGood_in 796 (by decide +kernel) (by decide +kernel))
theorem ml_X3_38 : pML RX3 38 mX8_readLong := Or.inr ⟨"EngravedLines", pNest_in 800 (by decide +kernel) (by decide +kernel)⟩
theorem ml_L_130 : pML RL 130 mX8_cast := Or.inl (pGood_in 803 (by decide +kernel) (by decide +kernel))
theorem ml_X8_296 : pML RX8 296 mX3_asInt := Or.inl (pGood_in 807 (by decide +kernel) (by decide +kernel))
theorem ml_X3_52 : pML RX3 52 mX3_number := Or.inl (pGood_in 811 (by decide +kernel) (by decide +kernel))
theorem ml_X3_56 : pML RX3 56 mX2_size := Or.inl (pGood_in 812 (by decide +kernel) (by decide +kernel))
theorem ml_L_134 : pML RL 134 mX8_rest := Or.inl (pGood_in 815 (by decide +kernel) (by decide +kernel))
theorem ml_X8_299 : pML RX8 299 mX3_isNought := Or.inl (pGood_in 819 (by decide +kernel) (by decide +kernel))
theorem ml_X8_302 : pML RX8 302 mX3_reduce := Or.inl (pGood_in 823 (by decide +kernel) (by decide +kernel))
theorem ml_X3_60 : pML RX3 60 mX2_remainder := Or.inl (pGood_in 827 (by decide +kernel) (by decide +kernel))
theorem ml_X3_64 : pML RX3 64 mX2_withSign := Or.inl (pGood_in 830 (by decide +kernel) (by decide +kernel))
theorem ml_L_138 : pML RL 138 mX8_lays := Or.inl (pGood_in 831 (by decide +kernel) (by decide +kernel))
theorem ml_X8_305 : pML RX8 305 mX3_sort := Or.inl (pGood_in 835 (by decide +kernel) (by decide +kernel))
theorem ml_X8_308 : pML RX8 308 mX3_layFloat := Or.inl (pGood_in 836 (by decide +kernel) (by decide +kernel))
theorem ml_L_142 : pML RL 142 mX8_image := Or.inl (pGood_in 840 (by decide +kernel) (by decide +kernel))
theorem ml_X8_312 : pML RX8 312 mX1_become := Or.inl (pGood_in 844 (by decide +kernel) (by decide +kernel))
theorem ml_X1_63 : pML RX1 63 mX4_become := Or.inl (pGood_in 848 (by decide +kernel) (by decide +kernel))
theorem ml_X1_67 : pML RX1 67 mX8_copy := Or.inr ⟨"EngravedLines", pNest_in 849 (by decide +kernel) (by decide +kernel)⟩
theorem ml_L_146 : pML RL 146 mX8_restore := Or.inl (pGood_in 850 (by decide +kernel) (by decide +kernel))
theorem ml_L_150 : pML RL 150 mX8_count := Or.inl (pGood_in 854 (by decide +kernel) (by decide +kernel))
theorem ml_X8_315 : pML RX8 315 mX8_countNotes := Or.inl (pGood_in 858 (by decide +kernel) (by decide +kernel))
theorem ml_X8_318 : pML RX8 318 mX8_sumDurations := Or.inl (pGood_in 862 (by decide +kernel) (by decide +kernel))
theorem ml_X8_321 : pML RX8 321 mX1_countOnShelves := Or.inl (pGood_in 866 (by decide +kernel) (by decide +kernel))
theorem ml_X1_55 : pML RX1 55 mX1_hasPlace := Or.inl (pGood_in 870 (by decide +kernel) (by decide +kernel))
theorem ml_X1_59 : pML RX1 59 mX4_isMissing := Or.inl (pGood_in 871 (by decide +kernel) (by decide +kernel))
theorem ml_L_154 : pML RL 154 mX8_told := Or.inl (pGood_in 872 (by decide +kernel) (by decide +kernel))
theorem ml_L_12 : pML RL 12 mX9_init := Or.inl (pGood_in 878 (by decide +kernel) (by decide +kernel))
theorem ml_L_17 : pML RL 17 mX9_add := Or.inl (pGood_in 983 (by decide +kernel) (by decide +kernel))
theorem ml_X9_105 : pML RX9 105 mX9_mayBe := Or.inl (pGood_in 987 (by decide +kernel) (by decide +kernel))
theorem ml_X9_85 : pML RX9 85 mX9_in := Or.inl (pGood_in 991 (by decide +kernel) (by decide +kernel))
theorem ml_X9_110 : pML RX9 110 mX9_errs := Or.inl (pGood_in 1000 (by decide +kernel) (by decide +kernel))
theorem ml_X9_115 : pML RX9 115 mX9_comes := Or.inl (pGood_in 1006 (by decide +kernel) (by decide +kernel))
theorem ml_X9_101 : pML RX9 101 mX9_sets := Or.inl (pGood_in 1010 (by decide +kernel) (by decide +kernel))
theorem ml_L_22 : pML RL 22 mX9_drop := Or.inl (pGood_in 1014 (by decide +kernel) (by decide +kernel))
theorem ml_L_27 : pML RL 27 mX9_set := Or.inl (pGood_in 1019 (by decide +kernel) (by decide +kernel))
theorem ml_X9_120 : pML RX9 120 mX9_isColumn := Or.inl (pGood_in 1023 (by decide +kernel) (by decide +kernel))
theorem ml_X9_124 : pML RX9 124 mX9_its := Or.inl (pGood_in 1027 (by decide +kernel) (by decide +kernel))
theorem ml_L_31 : pML RL 31 mX9_of := Or.inl (pGood_in 1031 (by decide +kernel) (by decide +kernel))
theorem ml_X9_134 : pML RX9 134 mX9_top := Or.inl (pGood_in 1036 (by decide +kernel) (by decide +kernel))
theorem ml_X9_128 : pML RX9 128 mX9_topOf := Or.inl (pGood_in 1040 (by decide +kernel) (by decide +kernel))
theorem ml_X9_137 : pML RX9 137 mX9_bottom := Or.inl (pGood_in 1043 (by decide +kernel) (by decide +kernel))
theorem ml_L_35 : pML RL 35 mX9_spring := Or.inl (pGood_in 1047 (by decide +kernel) (by decide +kernel))
theorem ml_X9_143 : pML RX9 143 mX9_ideal := Or.inl (pGood_in 1051 (by decide +kernel) (by decide +kernel))
theorem ml_X9_147 : pML RX9 147 mX9_flex := Or.inl (pGood_in 1057 (by decide +kernel) (by decide +kernel))
theorem ml_X9_150 : pML RX9 150 mX9_rod := Or.inl (pGood_in 1062 (by decide +kernel) (by decide +kernel))
theorem ml_X9_153 : pML RX9 153 mJxf58ca_floatToIntBits_5c35a := Or.inl (pGood_in 1066 (by decide +kernel) (by decide +kernel))
theorem ml_Jxf58ca_59 : pML RJxf58ca 59 mJxf58ca_isNaN_12338 := Or.inl (pGood_in 1069 (by decide +kernel) (by decide +kernel))
theorem ml_L_40 : pML RL 40 mX9_width := Or.inl (pGood_in 1076 (by decide +kernel) (by decide +kernel))
theorem ml_L_44 : pML RL 44 mX9_force := Or.inl (pGood_in 1081 (by decide +kernel) (by decide +kernel))
theorem ml_X9_176 : pML RX9 176 mX9_isStretch := Or.inl (pGood_in 1085 (by decide +kernel) (by decide +kernel))
theorem ml_X9_179 : pML RX9 179 mX9_laysOut := Or.inl (pGood_in 1089 (by decide +kernel) (by decide +kernel))
theorem ml_X9_169 : pML RX9 169 mX9_forceOf := Or.inl (pGood_in 1093 (by decide +kernel) (by decide +kernel))
theorem ml_X9_173 : pML RX9 173 mX9_wanted := Or.inl (pGood_in 1097 (by decide +kernel) (by decide +kernel))
theorem ml_L_48 : pML RL 48 mX9_held := Or.inl (pGood_in 1101 (by decide +kernel) (by decide +kernel))
theorem ml_L_53 : pML RL 53 mX9_at := Or.inl (pGood_in 1105 (by decide +kernel) (by decide +kernel))
theorem ml_L_57 : pML RL 57 mX9_bad := Or.inl (pGood_in 1109 (by decide +kernel) (by decide +kernel))
theorem ml_X9_186 : pML RX9 186 mX9_isGood := Or.inl (pGood_in 1113 (by decide +kernel) (by decide +kernel))
theorem ml_L_61 : pML RL 61 mX9_sky := Or.inl (pGood_in 1118 (by decide +kernel) (by decide +kernel))
theorem ml_X9_191 : pML RX9 191 mX9_inks := Or.inl (pGood_in 1123 (by decide +kernel) (by decide +kernel))
theorem ml_L_65 : pML RL 65 mX9_apart := Or.inl (pGood_in 1127 (by decide +kernel) (by decide +kernel))
theorem ml_X9_194 : pML RX9 194 mX9_apartOf := Or.inl (pGood_in 1131 (by decide +kernel) (by decide +kernel))
theorem ml_L_69 : pML RL 69 mX9_lines := Or.inl (pGood_in 1135 (by decide +kernel) (by decide +kernel))
theorem ml_X9_208 : pML RX9 208 mX9_breaks := Or.inl (pGood_in 1139 (by decide +kernel) (by decide +kernel))
theorem ml_X9_204 : pML RX9 204 mX9_bestTo := Or.inl (pGood_in 1143 (by decide +kernel) (by decide +kernel))
theorem ml_X9_198 : pML RX9 198 mX9_isEnd := Or.inl (pGood_in 1147 (by decide +kernel) (by decide +kernel))
theorem ml_L_73 : pML RL 73 mX9_line := Or.inl (pGood_in 1151 (by decide +kernel) (by decide +kernel))
theorem ml_L_77 : pML RL 77 mX9_total := Or.inl (pGood_in 1156 (by decide +kernel) (by decide +kernel))
theorem ml_L_81 : pML RL 81 mX9_moved := Or.inl (pGood_in 1160 (by decide +kernel) (by decide +kernel))
theorem ml_X9_217 : pML RX9 217 mX9_keepsLines := Or.inl (pGood_in 1164 (by decide +kernel) (by decide +kernel))
theorem ml_X9_220 : pML RX9 220 mX9_isAsWas := Or.inl (pGood_in 1168 (by decide +kernel) (by decide +kernel))
theorem ml_L_85 : pML RL 85 mX9_beam := Or.inl (pGood_in 1172 (by decide +kernel) (by decide +kernel))
theorem ml_X9_242 : pML RX9 242 mX9_areNotes := Or.inl (pGood_in 1177 (by decide +kernel) (by decide +kernel))
theorem ml_X9_234 : pML RX9 234 mX9_isUp := Or.inl (pGood_in 1182 (by decide +kernel) (by decide +kernel))
theorem ml_X9_223 : pML RX9 223 mX9_rise := Or.inl (pGood_in 1186 (by decide +kernel) (by decide +kernel))
theorem ml_X9_237 : pML RX9 237 mX9_slope := Or.inl (pGood_in 1190 (by decide +kernel) (by decide +kernel))
theorem ml_X9_229 : pML RX9 229 mX9_whole := Or.inl (pGood_in 1196 (by decide +kernel) (by decide +kernel))
theorem ml_X9_246 : pML RX9 246 mX9_lift := Or.inl (pGood_in 1200 (by decide +kernel) (by decide +kernel))
theorem ml_L_89 : pML RL 89 mX9_slur := Or.inl (pGood_in 1205 (by decide +kernel) (by decide +kernel))
theorem ml_X9_252 : pML RX9 252 mX9_height := Or.inl (pGood_in 1209 (by decide +kernel) (by decide +kernel))
theorem ml_X9_249 : pML RX9 249 mX9_ink := Or.inl (pGood_in 1213 (by decide +kernel) (by decide +kernel))
theorem ml_L_93 : pML RL 93 mX9_feed := Or.inl (pGood_in 1217 (by decide +kernel) (by decide +kernel))
theorem ml_L_97 : pML RL 97 mX9_music := Or.inl (pGood_in 1222 (by decide +kernel) (by decide +kernel))
theorem ml_X9_283 : pML RX9 283 mX9_sign := Or.inl (pGood_in 1226 (by decide +kernel) (by decide +kernel))
theorem ml_X9_277 : pML RX9 277 mX9_takes := Or.inl (pGood_in 1230 (by decide +kernel) (by decide +kernel))
theorem ml_X9_280 : pML RX9 280 mX9_number := Or.inl (pGood_in 1234 (by decide +kernel) (by decide +kernel))
theorem ml_X9_271 : pML RX9 271 mX9_isDigit := Or.inl (pGood_in 1238 (by decide +kernel) (by decide +kernel))
theorem ml_L_101 : pML RL 101 mX9_shelf := Or.inl (pGood_in 1244 (by decide +kernel) (by decide +kernel))
theorem ml_X9_289 : pML RX9 289 mX9_isShelf := Or.inl (pGood_in 1248 (by decide +kernel) (by decide +kernel))
theorem ml_X9_286 : pML RX9 286 mX9_shelfAt := Or.inl (pGood_in 1252 (by decide +kernel) (by decide +kernel))
theorem ml_X9_294 : pML RX9 294 mX9_placeAt := Or.inl (pGood_in 1255 (by decide +kernel) (by decide +kernel))
theorem ml_L_105 : pML RL 105 mX9_store := Or.inl (pGood_in 1258 (by decide +kernel) (by decide +kernel))
theorem ml_X9_297 : pML RX9 297 mX9_isPlace := Or.inl (pGood_in 1262 (by decide +kernel) (by decide +kernel))
theorem ml_L_109 : pML RL 109 mX9_fetch := Or.inl (pGood_in 1267 (by decide +kernel) (by decide +kernel))
theorem ml_L_113 : pML RL 113 mX9_comes_ := Or.inl (pGood_in 1271 (by decide +kernel) (by decide +kernel))
theorem ml_L_117 : pML RL 117 mX9_sheet := Or.inl (pGood_in 1275 (by decide +kernel) (by decide +kernel))
theorem ml_X9_301 : pML RX9 301 mX9_isSheet := Or.inl (pGood_in 1279 (by decide +kernel) (by decide +kernel))
theorem ml_L_124 : pML RL 124 mX9_put := Or.inl (pGood_in 1282 (by decide +kernel) (by decide +kernel))
theorem ml_X9_304 : pML RX9 304 mX9_isItem := Or.inl (pGood_in 1286 (by decide +kernel) (by decide +kernel))
theorem ml_X9_307 : pML RX9 307 mX9_narrow := Or.inl (pGood_in 1290 (by decide +kernel) (by decide +kernel))
theorem ml_L_129 : pML RL 129 mX9_bits := Or.inl (pGood_in 1293 (by decide +kernel) (by decide +kernel))
theorem ml_X9_310 : pML RX9 310 mX9_errsLong := Or.inl (pGood_in 1297 (by decide +kernel) (by decide +kernel))
theorem ml_X9_314 : pML RX9 314 mJxe99ae_doubleToLongBits_ccdee := Or.inl (pGood_in 1302 (by decide +kernel) (by decide +kernel))
theorem ml_Jxe99ae_122 : pML RJxe99ae 122 mJxe99ae_isNaN_b9ae7 := Or.inl (pGood_in 1305 (by decide +kernel) (by decide +kernel))
theorem ml_L_133 : pML RL 133 mX9_cast := Or.inl (pGood_in 1312 (by decide +kernel) (by decide +kernel))
theorem ml_L_137 : pML RL 137 mX9_rest := Or.inl (pGood_in 1316 (by decide +kernel) (by decide +kernel))
theorem ml_X9_320 : pML RX9 320 mX9_isNought := Or.inl (pGood_in 1320 (by decide +kernel) (by decide +kernel))
theorem ml_L_141 : pML RL 141 mX9_lays := Or.inl (pGood_in 1325 (by decide +kernel) (by decide +kernel))
theorem ml_L_145 : pML RL 145 mX9_image := Or.inl (pGood_in 1329 (by decide +kernel) (by decide +kernel))
theorem ml_X9_324 : pML RX9 324 mX9_copy := Or.inl (pGood_in 1333 (by decide +kernel) (by decide +kernel))
theorem ml_L_149 : pML RL 149 mX9_restore := Or.inl (pGood_in 1336 (by decide +kernel) (by decide +kernel))
theorem ml_L_153 : pML RL 153 mX9_count := Or.inl (pGood_in 1340 (by decide +kernel) (by decide +kernel))
theorem ml_X9_331 : pML RX9 331 mX9_notes := Or.inl (pGood_in 1344 (by decide +kernel) (by decide +kernel))
theorem ml_X9_335 : pML RX9 335 mX9_durations := Or.inl (pGood_in 1348 (by decide +kernel) (by decide +kernel))
theorem ml_X9_338 : pML RX9 338 mX9_shelved := Or.inl (pGood_in 1352 (by decide +kernel) (by decide +kernel))
theorem ml_L_157 : pML RL 157 mX9_told := Or.inl (pGood_in 1356 (by decide +kernel) (by decide +kernel))
theorem ce_X8_init : pCallee mX8_init 0 := ⟨⟨by decide, by decide, by decide +kernel⟩, co_X8_init, in_X8, by decide⟩
theorem ce_X1_init : pCallee mX1_init 0 := ⟨⟨by decide, by decide, by decide +kernel⟩, co_X1_init, in_X1, by decide⟩
theorem ce_X4_init : pCallee mX4_init 0 := ⟨⟨by decide, by decide, by decide +kernel⟩, co_X4_init, in_X4, by decide⟩
theorem ce_X6_init : pCallee mX6_init 0 := ⟨⟨by decide, by decide, by decide +kernel⟩, co_X6_init, in_X6, by decide⟩
theorem ce_X5_init : pCallee mX5_init 0 := ⟨⟨by decide, by decide, by decide +kernel⟩, co_X5_init, in_X5, by decide⟩
theorem ce_X0_init : pCallee mX0_init 0 := ⟨⟨by decide, by decide, by decide +kernel⟩, co_X0_init, in_X0, by decide⟩
theorem ce_X7_init : pCallee mX7_init 0 := ⟨⟨by decide, by decide, by decide +kernel⟩, co_X7_init, in_X7, by decide⟩
theorem ce_X3_init : pCallee mX3_init 0 := ⟨⟨by decide, by decide, by decide +kernel⟩, co_X3_init, in_X3, by decide⟩
theorem ce_X8_add : pCallee mX8_add 2 := ⟨⟨by decide, by decide, by decide +kernel⟩, co_X8_add, in_X8, by decide⟩
theorem ce_X8_isAllowed : pCallee mX8_isAllowed 2 := ⟨⟨by decide, by decide, by decide +kernel⟩, co_X8_isAllowed, in_X8, by decide⟩
theorem ce_X8_readInt : pCallee mX8_readInt 2 := ⟨⟨by decide, by decide, by decide +kernel⟩, co_X8_readInt, in_X8, by decide⟩
theorem ce_X8_isWithin : pCallee mX8_isWithin 3 := ⟨⟨by decide, by decide, by decide +kernel⟩, co_X8_isWithin, in_X8, by decide⟩
theorem ce_X8_refuse : pCallee mX8_refuse 1 := ⟨⟨by decide, by decide, by decide +kernel⟩, co_X8_refuse, in_X8, by decide⟩
theorem ce_X8_writeInt : pCallee mX8_writeInt 3 := ⟨⟨by decide, by decide, by decide +kernel⟩, co_X8_writeInt, in_X8, by decide⟩
theorem ce_X4_lay : pCallee mX4_lay 6 := ⟨⟨by decide, by decide, by decide +kernel⟩, co_X4_lay, in_X4, by decide⟩
theorem ce_X4_change : pCallee mX4_change 3 := ⟨⟨by decide, by decide, by decide +kernel⟩, co_X4_change, in_X4, by decide⟩
theorem ce_X8_drop : pCallee mX8_drop 0 := ⟨⟨by decide, by decide, by decide +kernel⟩, co_X8_drop, in_X8, by decide⟩
theorem ce_X8_set : pCallee mX8_set 3 := ⟨⟨by decide, by decide, by decide +kernel⟩, co_X8_set, in_X8, by decide⟩
theorem ce_X8_isColumn : pCallee mX8_isColumn 1 := ⟨⟨by decide, by decide, by decide +kernel⟩, co_X8_isColumn, in_X8, by decide⟩
theorem ce_X4_part : pCallee mX4_part 2 := ⟨⟨by decide, by decide, by decide +kernel⟩, co_X4_part, in_X4, by decide⟩
theorem ce_X8_of : pCallee mX8_of 2 := ⟨⟨by decide, by decide, by decide +kernel⟩, co_X8_of, in_X8, by decide⟩
theorem ce_X4_top : pCallee mX4_top 1 := ⟨⟨by decide, by decide, by decide +kernel⟩, co_X4_top, in_X4, by decide⟩
theorem ce_X4_bottom : pCallee mX4_bottom 1 := ⟨⟨by decide, by decide, by decide +kernel⟩, co_X4_bottom, in_X4, by decide⟩
theorem ce_X8_spring : pCallee mX8_spring 2 := ⟨⟨by decide, by decide, by decide +kernel⟩, co_X8_spring, in_X8, by decide⟩
theorem ce_X4_ideal : pCallee mX4_ideal 1 := ⟨⟨by decide, by decide, by decide +kernel⟩, co_X4_ideal, in_X4, by decide⟩
theorem ce_X8_floatBits : pCallee mX8_floatBits 1 := ⟨⟨by decide, by decide, by decide +kernel⟩, co_X8_floatBits, in_X8, by decide⟩
theorem ce_X2_encode : pCallee mX2_encode 2 := ⟨⟨by decide, by decide, by decide +kernel⟩, co_X2_encode, in_X2, by decide⟩
theorem ce_X2_fractionBits : pCallee mX2_fractionBits 1 := ⟨⟨by decide, by decide, by decide +kernel⟩, co_X2_fractionBits, in_X2, by decide⟩
theorem ce_X2_bias : pCallee mX2_bias 1 := ⟨⟨by decide, by decide, by decide +kernel⟩, co_X2_bias, in_X2, by decide⟩
theorem ce_X2_withSign : pCallee mX2_withSign 3 := ⟨⟨by decide, by decide, by decide +kernel⟩, co_X2_withSign, in_X2, by decide⟩
theorem ce_X2_signBit : pCallee mX2_signBit 1 := ⟨⟨by decide, by decide, by decide +kernel⟩, co_X2_signBit, in_X2, by decide⟩
theorem ce_X4_flex : pCallee mX4_flex 2 := ⟨⟨by decide, by decide, by decide +kernel⟩, co_X4_flex, in_X4, by decide⟩
theorem ce_X4_rod : pCallee mX4_rod 1 := ⟨⟨by decide, by decide, by decide +kernel⟩, co_X4_rod, in_X4, by decide⟩
theorem ce_X8_width : pCallee mX8_width 1 := ⟨⟨by decide, by decide, by decide +kernel⟩, co_X8_width, in_X8, by decide⟩
theorem ce_X8_force : pCallee mX8_force 2 := ⟨⟨by decide, by decide, by decide +kernel⟩, co_X8_force, in_X8, by decide⟩
theorem ce_X8_isStretch : pCallee mX8_isStretch 2 := ⟨⟨by decide, by decide, by decide +kernel⟩, co_X8_isStretch, in_X8, by decide⟩
theorem ce_X6_settle : pCallee mX6_settle 4 := ⟨⟨by decide, by decide, by decide +kernel⟩, co_X6_settle, in_X6, by decide⟩
theorem ce_X6_take : pCallee mX6_take 4 := ⟨⟨by decide, by decide, by decide +kernel⟩, co_X6_take, in_X6, by decide⟩
theorem ce_X8_writeFloat : pCallee mX8_writeFloat 3 := ⟨⟨by decide, by decide, by decide +kernel⟩, co_X8_writeFloat, in_X8, by decide⟩
theorem ce_X8_writeFlag : pCallee mX8_writeFlag 3 := ⟨⟨by decide, by decide, by decide +kernel⟩, co_X8_writeFlag, in_X8, by decide⟩
theorem ce_X6_balance : pCallee mX6_balance 0 := ⟨⟨by decide, by decide, by decide +kernel⟩, co_X6_balance, in_X6, by decide⟩
theorem ce_X8_readFlag : pCallee mX8_readFlag 2 := ⟨⟨by decide, by decide, by decide +kernel⟩, co_X8_readFlag, in_X8, by decide⟩
theorem ce_X8_readFloat : pCallee mX8_readFloat 2 := ⟨⟨by decide, by decide, by decide +kernel⟩, co_X8_readFloat, in_X8, by decide⟩
theorem ce_X6_holdMore : pCallee mX6_holdMore 0 := ⟨⟨by decide, by decide, by decide +kernel⟩, co_X6_holdMore, in_X6, by decide⟩
theorem ce_X6_stretched : pCallee mX6_stretched 1 := ⟨⟨by decide, by decide, by decide +kernel⟩, co_X6_stretched, in_X6, by decide⟩
theorem ce_X8_held : pCallee mX8_held 2 := ⟨⟨by decide, by decide, by decide +kernel⟩, co_X8_held, in_X8, by decide⟩
theorem ce_X6_heldCount : pCallee mX6_heldCount 0 := ⟨⟨by decide, by decide, by decide +kernel⟩, co_X6_heldCount, in_X6, by decide⟩
theorem ce_X8_at : pCallee mX8_at 4 := ⟨⟨by decide, by decide, by decide +kernel⟩, co_X8_at, in_X8, by decide⟩
theorem ce_X6_length : pCallee mX6_length 1 := ⟨⟨by decide, by decide, by decide +kernel⟩, co_X6_length, in_X6, by decide⟩
theorem ce_X6_place : pCallee mX6_place 1 := ⟨⟨by decide, by decide, by decide +kernel⟩, co_X6_place, in_X6, by decide⟩
theorem ce_X6_cell : pCallee mX6_cell 1 := ⟨⟨by decide, by decide, by decide +kernel⟩, co_X6_cell, in_X6, by decide⟩
theorem ce_X8_bad : pCallee mX8_bad 2 := ⟨⟨by decide, by decide, by decide +kernel⟩, co_X8_bad, in_X8, by decide⟩
theorem ce_X6_fits : pCallee mX6_fits 0 := ⟨⟨by decide, by decide, by decide +kernel⟩, co_X6_fits, in_X6, by decide⟩
theorem ce_X6_sum : pCallee mX6_sum 1 := ⟨⟨by decide, by decide, by decide +kernel⟩, co_X6_sum, in_X6, by decide⟩
theorem ce_X6_badness : pCallee mX6_badness 0 := ⟨⟨by decide, by decide, by decide +kernel⟩, co_X6_badness, in_X6, by decide⟩
theorem ce_X8_sky : pCallee mX8_sky 4 := ⟨⟨by decide, by decide, by decide +kernel⟩, co_X8_sky, in_X8, by decide⟩
theorem ce_X8_traceLine : pCallee mX8_traceLine 3 := ⟨⟨by decide, by decide, by decide +kernel⟩, co_X8_traceLine, in_X8, by decide⟩
theorem ce_X5_trace : pCallee mX5_trace 2 := ⟨⟨by decide, by decide, by decide +kernel⟩, co_X5_trace, in_X5, by decide⟩
theorem ce_X5_ink : pCallee mX5_ink 4 := ⟨⟨by decide, by decide, by decide +kernel⟩, co_X5_ink, in_X5, by decide⟩
theorem ce_X5_hasInk : pCallee mX5_hasInk 1 := ⟨⟨by decide, by decide, by decide +kernel⟩, co_X5_hasInk, in_X5, by decide⟩
theorem ce_X5_upper : pCallee mX5_upper 1 := ⟨⟨by decide, by decide, by decide +kernel⟩, co_X5_upper, in_X5, by decide⟩
theorem ce_X5_lower : pCallee mX5_lower 1 := ⟨⟨by decide, by decide, by decide +kernel⟩, co_X5_lower, in_X5, by decide⟩
theorem ce_X8_apart : pCallee mX8_apart 4 := ⟨⟨by decide, by decide, by decide +kernel⟩, co_X8_apart, in_X8, by decide⟩
theorem ce_X8_distance : pCallee mX8_distance 4 := ⟨⟨by decide, by decide, by decide +kernel⟩, co_X8_distance, in_X8, by decide⟩
theorem ce_X8_lines : pCallee mX8_lines 0 := ⟨⟨by decide, by decide, by decide +kernel⟩, co_X8_lines, in_X8, by decide⟩
theorem ce_X8_findBest : pCallee mX8_findBest 0 := ⟨⟨by decide, by decide, by decide +kernel⟩, co_X8_findBest, in_X8, by decide⟩
theorem ce_X0_find : pCallee mX0_find 3 := ⟨⟨by decide, by decide, by decide +kernel⟩, co_X0_find, in_X0, by decide⟩
theorem ce_X0_reach : pCallee mX0_reach 3 := ⟨⟨by decide, by decide, by decide +kernel⟩, co_X0_reach, in_X0, by decide⟩
theorem ce_X0_traceBack : pCallee mX0_traceBack 1 := ⟨⟨by decide, by decide, by decide +kernel⟩, co_X0_traceBack, in_X0, by decide⟩
theorem ce_X8_line : pCallee mX8_line 2 := ⟨⟨by decide, by decide, by decide +kernel⟩, co_X8_line, in_X8, by decide⟩
theorem ce_X0_first : pCallee mX0_first 1 := ⟨⟨by decide, by decide, by decide +kernel⟩, co_X0_first, in_X0, by decide⟩
theorem ce_X0_last : pCallee mX0_last 1 := ⟨⟨by decide, by decide, by decide +kernel⟩, co_X0_last, in_X0, by decide⟩
theorem ce_X8_total : pCallee mX8_total 0 := ⟨⟨by decide, by decide, by decide +kernel⟩, co_X8_total, in_X8, by decide⟩
theorem ce_X8_moved : pCallee mX8_moved 3 := ⟨⟨by decide, by decide, by decide +kernel⟩, co_X8_moved, in_X8, by decide⟩
theorem ce_X4_become : pCallee mX4_become 1 := ⟨⟨by decide, by decide, by decide +kernel⟩, co_X4_become, in_X4, by decide⟩
theorem ce_X8_copy : pCallee mX8_copy 2 := ⟨⟨by decide, by decide, by decide +kernel⟩, co_X8_copy, in_X8, by decide⟩
theorem ce_X8_standsOtherwise : pCallee mX8_standsOtherwise 1 := ⟨⟨by decide, by decide, by decide +kernel⟩, co_X8_standsOtherwise, in_X8, by decide⟩
theorem ce_X8_beam : pCallee mX8_beam 3 := ⟨⟨by decide, by decide, by decide +kernel⟩, co_X8_beam, in_X8, by decide⟩
theorem ce_X8_areNotes : pCallee mX8_areNotes 2 := ⟨⟨by decide, by decide, by decide +kernel⟩, co_X8_areNotes, in_X8, by decide⟩
theorem ce_X8_beamRise : pCallee mX8_beamRise 2 := ⟨⟨by decide, by decide, by decide +kernel⟩, co_X8_beamRise, in_X8, by decide⟩
theorem ce_X8_beamSlope : pCallee mX8_beamSlope 2 := ⟨⟨by decide, by decide, by decide +kernel⟩, co_X8_beamSlope, in_X8, by decide⟩
theorem ce_X8_beamGoesUp : pCallee mX8_beamGoesUp 2 := ⟨⟨by decide, by decide, by decide +kernel⟩, co_X8_beamGoesUp, in_X8, by decide⟩
theorem ce_X8_beamLift : pCallee mX8_beamLift 2 := ⟨⟨by decide, by decide, by decide +kernel⟩, co_X8_beamLift, in_X8, by decide⟩
theorem ce_X8_slur : pCallee mX8_slur 3 := ⟨⟨by decide, by decide, by decide +kernel⟩, co_X8_slur, in_X8, by decide⟩
theorem ce_X8_slurHeight : pCallee mX8_slurHeight 3 := ⟨⟨by decide, by decide, by decide +kernel⟩, co_X8_slurHeight, in_X8, by decide⟩
theorem ce_X8_inkTowards : pCallee mX8_inkTowards 2 := ⟨⟨by decide, by decide, by decide +kernel⟩, co_X8_inkTowards, in_X8, by decide⟩
theorem ce_X8_isHeight : pCallee mX8_isHeight 1 := ⟨⟨by decide, by decide, by decide +kernel⟩, co_X8_isHeight, in_X8, by decide⟩
theorem ce_X8_feed : pCallee mX8_feed 1 := ⟨⟨by decide, by decide, by decide +kernel⟩, co_X8_feed, in_X8, by decide⟩
theorem ce_X7_append : pCallee mX7_append 1 := ⟨⟨by decide, by decide, by decide +kernel⟩, co_X7_append, in_X7, by decide⟩
theorem ce_X8_music : pCallee mX8_music 0 := ⟨⟨by decide, by decide, by decide +kernel⟩, co_X8_music, in_X8, by decide⟩
theorem ce_X7_readMusic : pCallee mX7_readMusic 0 := ⟨⟨by decide, by decide, by decide +kernel⟩, co_X7_readMusic, in_X7, by decide⟩
theorem ce_X7_readSign : pCallee mX7_readSign 0 := ⟨⟨by decide, by decide, by decide +kernel⟩, co_X7_readSign, in_X7, by decide⟩
theorem ce_X7_isNext : pCallee mX7_isNext 1 := ⟨⟨by decide, by decide, by decide +kernel⟩, co_X7_isNext, in_X7, by decide⟩
theorem ce_X7_readNumber : pCallee mX7_readNumber 2 := ⟨⟨by decide, by decide, by decide +kernel⟩, co_X7_readNumber, in_X7, by decide⟩
theorem ce_X7_digit : pCallee mX7_digit 0 := ⟨⟨by decide, by decide, by decide +kernel⟩, co_X7_digit, in_X7, by decide⟩
theorem ce_X7_readAdorn : pCallee mX7_readAdorn 0 := ⟨⟨by decide, by decide, by decide +kernel⟩, co_X7_readAdorn, in_X7, by decide⟩
theorem ce_X7_keep : pCallee mX7_keep 4 := ⟨⟨by decide, by decide, by decide +kernel⟩, co_X7_keep, in_X7, by decide⟩
theorem ce_X8_shelf : pCallee mX8_shelf 3 := ⟨⟨by decide, by decide, by decide +kernel⟩, co_X8_shelf, in_X8, by decide⟩
theorem ce_X1_clearShelf : pCallee mX1_clearShelf 3 := ⟨⟨by decide, by decide, by decide +kernel⟩, co_X1_clearShelf, in_X1, by decide⟩
theorem ce_X1_place : pCallee mX1_place 2 := ⟨⟨by decide, by decide, by decide +kernel⟩, co_X1_place, in_X1, by decide⟩
theorem ce_X4_clear : pCallee mX4_clear 1 := ⟨⟨by decide, by decide, by decide +kernel⟩, co_X4_clear, in_X4, by decide⟩
theorem ce_X8_store : pCallee mX8_store 3 := ⟨⟨by decide, by decide, by decide +kernel⟩, co_X8_store, in_X8, by decide⟩
theorem ce_X1_hasPlace : pCallee mX1_hasPlace 2 := ⟨⟨by decide, by decide, by decide +kernel⟩, co_X1_hasPlace, in_X1, by decide⟩
theorem ce_X1_shelfKind : pCallee mX1_shelfKind 1 := ⟨⟨by decide, by decide, by decide +kernel⟩, co_X1_shelfKind, in_X1, by decide⟩
theorem ce_X4_copySign : pCallee mX4_copySign 3 := ⟨⟨by decide, by decide, by decide +kernel⟩, co_X4_copySign, in_X4, by decide⟩
theorem ce_X8_fetch : pCallee mX8_fetch 3 := ⟨⟨by decide, by decide, by decide +kernel⟩, co_X8_fetch, in_X8, by decide⟩
theorem ce_X4_isMissing : pCallee mX4_isMissing 1 := ⟨⟨by decide, by decide, by decide +kernel⟩, co_X4_isMissing, in_X4, by decide⟩
theorem ce_X8_comes : pCallee mX8_comes 2 := ⟨⟨by decide, by decide, by decide +kernel⟩, co_X8_comes, in_X8, by decide⟩
theorem ce_X8_sheet : pCallee mX8_sheet 3 := ⟨⟨by decide, by decide, by decide +kernel⟩, co_X8_sheet, in_X8, by decide⟩
theorem ce_X3_clear : pCallee mX3_clear 3 := ⟨⟨by decide, by decide, by decide +kernel⟩, co_X3_clear, in_X3, by decide⟩
theorem ce_X3_change : pCallee mX3_change 3 := ⟨⟨by decide, by decide, by decide +kernel⟩, co_X3_change, in_X3, by decide⟩
theorem ce_X8_writeLong : pCallee mX8_writeLong 3 := ⟨⟨by decide, by decide, by decide +kernel⟩, co_X8_writeLong, in_X8, by decide⟩
theorem ce_X8_put : pCallee mX8_put 4 := ⟨⟨by decide, by decide, by decide +kernel⟩, co_X8_put, in_X8, by decide⟩
theorem ce_X3_hasNumber : pCallee mX3_hasNumber 2 := ⟨⟨by decide, by decide, by decide +kernel⟩, co_X3_hasNumber, in_X3, by decide⟩
theorem ce_X3_sort : pCallee mX3_sort 1 := ⟨⟨by decide, by decide, by decide +kernel⟩, co_X3_sort, in_X3, by decide⟩
theorem ce_X3_scale : pCallee mX3_scale 4 := ⟨⟨by decide, by decide, by decide +kernel⟩, co_X3_scale, in_X3, by decide⟩
theorem ce_X8_bits : pCallee mX8_bits 2 := ⟨⟨by decide, by decide, by decide +kernel⟩, co_X8_bits, in_X8, by decide⟩
theorem ce_X8_refuseLong : pCallee mX8_refuseLong 1 := ⟨⟨by decide, by decide, by decide +kernel⟩, co_X8_refuseLong, in_X8, by decide⟩
theorem ce_X3_number : pCallee mX3_number 2 := ⟨⟨by decide, by decide, by decide +kernel⟩, co_X3_number, in_X3, by decide⟩
theorem ce_X8_readLong : pCallee mX8_readLong 2 := ⟨⟨by decide, by decide, by decide +kernel⟩, co_X8_readLong, in_X8, by decide⟩
theorem ce_X8_cast : pCallee mX8_cast 2 := ⟨⟨by decide, by decide, by decide +kernel⟩, co_X8_cast, in_X8, by decide⟩
theorem ce_X3_asInt : pCallee mX3_asInt 2 := ⟨⟨by decide, by decide, by decide +kernel⟩, co_X3_asInt, in_X3, by decide⟩
theorem ce_X2_size : pCallee mX2_size 2 := ⟨⟨by decide, by decide, by decide +kernel⟩, co_X2_size, in_X2, by decide⟩
theorem ce_X8_rest : pCallee mX8_rest 3 := ⟨⟨by decide, by decide, by decide +kernel⟩, co_X8_rest, in_X8, by decide⟩
theorem ce_X3_isNought : pCallee mX3_isNought 2 := ⟨⟨by decide, by decide, by decide +kernel⟩, co_X3_isNought, in_X3, by decide⟩
theorem ce_X3_reduce : pCallee mX3_reduce 3 := ⟨⟨by decide, by decide, by decide +kernel⟩, co_X3_reduce, in_X3, by decide⟩
theorem ce_X2_remainder : pCallee mX2_remainder 2 := ⟨⟨by decide, by decide, by decide +kernel⟩, co_X2_remainder, in_X2, by decide⟩
theorem ce_X8_lays : pCallee mX8_lays 3 := ⟨⟨by decide, by decide, by decide +kernel⟩, co_X8_lays, in_X8, by decide⟩
theorem ce_X3_layFloat : pCallee mX3_layFloat 3 := ⟨⟨by decide, by decide, by decide +kernel⟩, co_X3_layFloat, in_X3, by decide⟩
theorem ce_X8_image : pCallee mX8_image 0 := ⟨⟨by decide, by decide, by decide +kernel⟩, co_X8_image, in_X8, by decide⟩
theorem ce_X1_become : pCallee mX1_become 1 := ⟨⟨by decide, by decide, by decide +kernel⟩, co_X1_become, in_X1, by decide⟩
theorem ce_X8_restore : pCallee mX8_restore 0 := ⟨⟨by decide, by decide, by decide +kernel⟩, co_X8_restore, in_X8, by decide⟩
theorem ce_X8_count : pCallee mX8_count 1 := ⟨⟨by decide, by decide, by decide +kernel⟩, co_X8_count, in_X8, by decide⟩
theorem ce_X8_countNotes : pCallee mX8_countNotes 0 := ⟨⟨by decide, by decide, by decide +kernel⟩, co_X8_countNotes, in_X8, by decide⟩
theorem ce_X8_sumDurations : pCallee mX8_sumDurations 0 := ⟨⟨by decide, by decide, by decide +kernel⟩, co_X8_sumDurations, in_X8, by decide⟩
theorem ce_X1_countOnShelves : pCallee mX1_countOnShelves 0 := ⟨⟨by decide, by decide, by decide +kernel⟩, co_X1_countOnShelves, in_X1, by decide⟩
theorem ce_X8_told : pCallee mX8_told 1 := ⟨⟨by decide, by decide, by decide +kernel⟩, co_X8_told, in_X8, by decide⟩
theorem ce_X9_init : pCallee mX9_init 0 := ⟨⟨by decide, by decide, by decide +kernel⟩, co_X9_init, in_X9, by decide⟩
theorem ce_X9_add : pCallee mX9_add 2 := ⟨⟨by decide, by decide, by decide +kernel⟩, co_X9_add, in_X9, by decide⟩
theorem ce_X9_mayBe : pCallee mX9_mayBe 2 := ⟨⟨by decide, by decide, by decide +kernel⟩, co_X9_mayBe, in_X9, by decide⟩
theorem ce_X9_in : pCallee mX9_in 3 := ⟨⟨by decide, by decide, by decide +kernel⟩, co_X9_in, in_X9, by decide⟩
theorem ce_X9_errs : pCallee mX9_errs 1 := ⟨⟨by decide, by decide, by decide +kernel⟩, co_X9_errs, in_X9, by decide⟩
theorem ce_X9_comes : pCallee mX9_comes 5 := ⟨⟨by decide, by decide, by decide +kernel⟩, co_X9_comes, in_X9, by decide⟩
theorem ce_X9_sets : pCallee mX9_sets 3 := ⟨⟨by decide, by decide, by decide +kernel⟩, co_X9_sets, in_X9, by decide⟩
theorem ce_X9_drop : pCallee mX9_drop 0 := ⟨⟨by decide, by decide, by decide +kernel⟩, co_X9_drop, in_X9, by decide⟩
theorem ce_X9_set : pCallee mX9_set 3 := ⟨⟨by decide, by decide, by decide +kernel⟩, co_X9_set, in_X9, by decide⟩
theorem ce_X9_isColumn : pCallee mX9_isColumn 1 := ⟨⟨by decide, by decide, by decide +kernel⟩, co_X9_isColumn, in_X9, by decide⟩
theorem ce_X9_its : pCallee mX9_its 2 := ⟨⟨by decide, by decide, by decide +kernel⟩, co_X9_its, in_X9, by decide⟩
theorem ce_X9_of : pCallee mX9_of 2 := ⟨⟨by decide, by decide, by decide +kernel⟩, co_X9_of, in_X9, by decide⟩
theorem ce_X9_top : pCallee mX9_top 1 := ⟨⟨by decide, by decide, by decide +kernel⟩, co_X9_top, in_X9, by decide⟩
theorem ce_X9_topOf : pCallee mX9_topOf 3 := ⟨⟨by decide, by decide, by decide +kernel⟩, co_X9_topOf, in_X9, by decide⟩
theorem ce_X9_bottom : pCallee mX9_bottom 1 := ⟨⟨by decide, by decide, by decide +kernel⟩, co_X9_bottom, in_X9, by decide⟩
theorem ce_X9_spring : pCallee mX9_spring 2 := ⟨⟨by decide, by decide, by decide +kernel⟩, co_X9_spring, in_X9, by decide⟩
theorem ce_X9_ideal : pCallee mX9_ideal 1 := ⟨⟨by decide, by decide, by decide +kernel⟩, co_X9_ideal, in_X9, by decide⟩
theorem ce_X9_flex : pCallee mX9_flex 1 := ⟨⟨by decide, by decide, by decide +kernel⟩, co_X9_flex, in_X9, by decide⟩
theorem ce_X9_rod : pCallee mX9_rod 1 := ⟨⟨by decide, by decide, by decide +kernel⟩, co_X9_rod, in_X9, by decide⟩
theorem ce_Jxf58ca_floatToIntBits_5c35a : pCallee mJxf58ca_floatToIntBits_5c35a 1 := ⟨⟨by decide, by decide, by decide +kernel⟩, co_Jxf58ca_floatToIntBits_5c35a, in_Jxf58ca, by decide⟩
theorem ce_Jxf58ca_isNaN_12338 : pCallee mJxf58ca_isNaN_12338 1 := ⟨⟨by decide, by decide, by decide +kernel⟩, co_Jxf58ca_isNaN_12338, in_Jxf58ca, by decide⟩
theorem ce_X9_width : pCallee mX9_width 1 := ⟨⟨by decide, by decide, by decide +kernel⟩, co_X9_width, in_X9, by decide⟩
theorem ce_X9_force : pCallee mX9_force 2 := ⟨⟨by decide, by decide, by decide +kernel⟩, co_X9_force, in_X9, by decide⟩
theorem ce_X9_isStretch : pCallee mX9_isStretch 2 := ⟨⟨by decide, by decide, by decide +kernel⟩, co_X9_isStretch, in_X9, by decide⟩
theorem ce_X9_laysOut : pCallee mX9_laysOut 2 := ⟨⟨by decide, by decide, by decide +kernel⟩, co_X9_laysOut, in_X9, by decide⟩
theorem ce_X9_forceOf : pCallee mX9_forceOf 2 := ⟨⟨by decide, by decide, by decide +kernel⟩, co_X9_forceOf, in_X9, by decide⟩
theorem ce_X9_wanted : pCallee mX9_wanted 1 := ⟨⟨by decide, by decide, by decide +kernel⟩, co_X9_wanted, in_X9, by decide⟩
theorem ce_X9_held : pCallee mX9_held 2 := ⟨⟨by decide, by decide, by decide +kernel⟩, co_X9_held, in_X9, by decide⟩
theorem ce_X9_at : pCallee mX9_at 4 := ⟨⟨by decide, by decide, by decide +kernel⟩, co_X9_at, in_X9, by decide⟩
theorem ce_X9_bad : pCallee mX9_bad 2 := ⟨⟨by decide, by decide, by decide +kernel⟩, co_X9_bad, in_X9, by decide⟩
theorem ce_X9_isGood : pCallee mX9_isGood 2 := ⟨⟨by decide, by decide, by decide +kernel⟩, co_X9_isGood, in_X9, by decide⟩
theorem ce_X9_sky : pCallee mX9_sky 4 := ⟨⟨by decide, by decide, by decide +kernel⟩, co_X9_sky, in_X9, by decide⟩
theorem ce_X9_inks : pCallee mX9_inks 2 := ⟨⟨by decide, by decide, by decide +kernel⟩, co_X9_inks, in_X9, by decide⟩
theorem ce_X9_apart : pCallee mX9_apart 4 := ⟨⟨by decide, by decide, by decide +kernel⟩, co_X9_apart, in_X9, by decide⟩
theorem ce_X9_apartOf : pCallee mX9_apartOf 4 := ⟨⟨by decide, by decide, by decide +kernel⟩, co_X9_apartOf, in_X9, by decide⟩
theorem ce_X9_lines : pCallee mX9_lines 0 := ⟨⟨by decide, by decide, by decide +kernel⟩, co_X9_lines, in_X9, by decide⟩
theorem ce_X9_breaks : pCallee mX9_breaks 0 := ⟨⟨by decide, by decide, by decide +kernel⟩, co_X9_breaks, in_X9, by decide⟩
theorem ce_X9_bestTo : pCallee mX9_bestTo 1 := ⟨⟨by decide, by decide, by decide +kernel⟩, co_X9_bestTo, in_X9, by decide⟩
theorem ce_X9_isEnd : pCallee mX9_isEnd 1 := ⟨⟨by decide, by decide, by decide +kernel⟩, co_X9_isEnd, in_X9, by decide⟩
theorem ce_X9_line : pCallee mX9_line 2 := ⟨⟨by decide, by decide, by decide +kernel⟩, co_X9_line, in_X9, by decide⟩
theorem ce_X9_total : pCallee mX9_total 0 := ⟨⟨by decide, by decide, by decide +kernel⟩, co_X9_total, in_X9, by decide⟩
theorem ce_X9_moved : pCallee mX9_moved 3 := ⟨⟨by decide, by decide, by decide +kernel⟩, co_X9_moved, in_X9, by decide⟩
theorem ce_X9_keepsLines : pCallee mX9_keepsLines 0 := ⟨⟨by decide, by decide, by decide +kernel⟩, co_X9_keepsLines, in_X9, by decide⟩
theorem ce_X9_isAsWas : pCallee mX9_isAsWas 1 := ⟨⟨by decide, by decide, by decide +kernel⟩, co_X9_isAsWas, in_X9, by decide⟩
theorem ce_X9_beam : pCallee mX9_beam 3 := ⟨⟨by decide, by decide, by decide +kernel⟩, co_X9_beam, in_X9, by decide⟩
theorem ce_X9_areNotes : pCallee mX9_areNotes 2 := ⟨⟨by decide, by decide, by decide +kernel⟩, co_X9_areNotes, in_X9, by decide⟩
theorem ce_X9_isUp : pCallee mX9_isUp 2 := ⟨⟨by decide, by decide, by decide +kernel⟩, co_X9_isUp, in_X9, by decide⟩
theorem ce_X9_rise : pCallee mX9_rise 2 := ⟨⟨by decide, by decide, by decide +kernel⟩, co_X9_rise, in_X9, by decide⟩
theorem ce_X9_slope : pCallee mX9_slope 2 := ⟨⟨by decide, by decide, by decide +kernel⟩, co_X9_slope, in_X9, by decide⟩
theorem ce_X9_whole : pCallee mX9_whole 1 := ⟨⟨by decide, by decide, by decide +kernel⟩, co_X9_whole, in_X9, by decide⟩
theorem ce_X9_lift : pCallee mX9_lift 2 := ⟨⟨by decide, by decide, by decide +kernel⟩, co_X9_lift, in_X9, by decide⟩
theorem ce_X9_slur : pCallee mX9_slur 3 := ⟨⟨by decide, by decide, by decide +kernel⟩, co_X9_slur, in_X9, by decide⟩
theorem ce_X9_height : pCallee mX9_height 3 := ⟨⟨by decide, by decide, by decide +kernel⟩, co_X9_height, in_X9, by decide⟩
theorem ce_X9_ink : pCallee mX9_ink 2 := ⟨⟨by decide, by decide, by decide +kernel⟩, co_X9_ink, in_X9, by decide⟩
theorem ce_X9_feed : pCallee mX9_feed 1 := ⟨⟨by decide, by decide, by decide +kernel⟩, co_X9_feed, in_X9, by decide⟩
theorem ce_X9_music : pCallee mX9_music 0 := ⟨⟨by decide, by decide, by decide +kernel⟩, co_X9_music, in_X9, by decide⟩
theorem ce_X9_sign : pCallee mX9_sign 0 := ⟨⟨by decide, by decide, by decide +kernel⟩, co_X9_sign, in_X9, by decide⟩
theorem ce_X9_takes : pCallee mX9_takes 1 := ⟨⟨by decide, by decide, by decide +kernel⟩, co_X9_takes, in_X9, by decide⟩
theorem ce_X9_number : pCallee mX9_number 2 := ⟨⟨by decide, by decide, by decide +kernel⟩, co_X9_number, in_X9, by decide⟩
theorem ce_X9_isDigit : pCallee mX9_isDigit 0 := ⟨⟨by decide, by decide, by decide +kernel⟩, co_X9_isDigit, in_X9, by decide⟩
theorem ce_X9_shelf : pCallee mX9_shelf 3 := ⟨⟨by decide, by decide, by decide +kernel⟩, co_X9_shelf, in_X9, by decide⟩
theorem ce_X9_isShelf : pCallee mX9_isShelf 1 := ⟨⟨by decide, by decide, by decide +kernel⟩, co_X9_isShelf, in_X9, by decide⟩
theorem ce_X9_shelfAt : pCallee mX9_shelfAt 1 := ⟨⟨by decide, by decide, by decide +kernel⟩, co_X9_shelfAt, in_X9, by decide⟩
theorem ce_X9_placeAt : pCallee mX9_placeAt 2 := ⟨⟨by decide, by decide, by decide +kernel⟩, co_X9_placeAt, in_X9, by decide⟩
theorem ce_X9_store : pCallee mX9_store 3 := ⟨⟨by decide, by decide, by decide +kernel⟩, co_X9_store, in_X9, by decide⟩
theorem ce_X9_isPlace : pCallee mX9_isPlace 2 := ⟨⟨by decide, by decide, by decide +kernel⟩, co_X9_isPlace, in_X9, by decide⟩
theorem ce_X9_fetch : pCallee mX9_fetch 3 := ⟨⟨by decide, by decide, by decide +kernel⟩, co_X9_fetch, in_X9, by decide⟩
theorem ce_X9_comes_ : pCallee mX9_comes_ 2 := ⟨⟨by decide, by decide, by decide +kernel⟩, co_X9_comes_, in_X9, by decide⟩
theorem ce_X9_sheet : pCallee mX9_sheet 3 := ⟨⟨by decide, by decide, by decide +kernel⟩, co_X9_sheet, in_X9, by decide⟩
theorem ce_X9_isSheet : pCallee mX9_isSheet 1 := ⟨⟨by decide, by decide, by decide +kernel⟩, co_X9_isSheet, in_X9, by decide⟩
theorem ce_X9_put : pCallee mX9_put 4 := ⟨⟨by decide, by decide, by decide +kernel⟩, co_X9_put, in_X9, by decide⟩
theorem ce_X9_isItem : pCallee mX9_isItem 2 := ⟨⟨by decide, by decide, by decide +kernel⟩, co_X9_isItem, in_X9, by decide⟩
theorem ce_X9_narrow : pCallee mX9_narrow 2 := ⟨⟨by decide, by decide, by decide +kernel⟩, co_X9_narrow, in_X9, by decide⟩
theorem ce_X9_bits : pCallee mX9_bits 2 := ⟨⟨by decide, by decide, by decide +kernel⟩, co_X9_bits, in_X9, by decide⟩
theorem ce_X9_errsLong : pCallee mX9_errsLong 1 := ⟨⟨by decide, by decide, by decide +kernel⟩, co_X9_errsLong, in_X9, by decide⟩
theorem ce_Jxe99ae_doubleToLongBits_ccdee : pCallee mJxe99ae_doubleToLongBits_ccdee 1 := ⟨⟨by decide, by decide, by decide +kernel⟩, co_Jxe99ae_doubleToLongBits_ccdee, in_Jxe99ae, by decide⟩
theorem ce_Jxe99ae_isNaN_b9ae7 : pCallee mJxe99ae_isNaN_b9ae7 1 := ⟨⟨by decide, by decide, by decide +kernel⟩, co_Jxe99ae_isNaN_b9ae7, in_Jxe99ae, by decide⟩
theorem ce_X9_cast : pCallee mX9_cast 2 := ⟨⟨by decide, by decide, by decide +kernel⟩, co_X9_cast, in_X9, by decide⟩
theorem ce_X9_rest : pCallee mX9_rest 3 := ⟨⟨by decide, by decide, by decide +kernel⟩, co_X9_rest, in_X9, by decide⟩
theorem ce_X9_isNought : pCallee mX9_isNought 2 := ⟨⟨by decide, by decide, by decide +kernel⟩, co_X9_isNought, in_X9, by decide⟩
theorem ce_X9_lays : pCallee mX9_lays 3 := ⟨⟨by decide, by decide, by decide +kernel⟩, co_X9_lays, in_X9, by decide⟩
theorem ce_X9_image : pCallee mX9_image 0 := ⟨⟨by decide, by decide, by decide +kernel⟩, co_X9_image, in_X9, by decide⟩
theorem ce_X9_copy : pCallee mX9_copy 2 := ⟨⟨by decide, by decide, by decide +kernel⟩, co_X9_copy, in_X9, by decide⟩
theorem ce_X9_restore : pCallee mX9_restore 0 := ⟨⟨by decide, by decide, by decide +kernel⟩, co_X9_restore, in_X9, by decide⟩
theorem ce_X9_count : pCallee mX9_count 1 := ⟨⟨by decide, by decide, by decide +kernel⟩, co_X9_count, in_X9, by decide⟩
theorem ce_X9_notes : pCallee mX9_notes 0 := ⟨⟨by decide, by decide, by decide +kernel⟩, co_X9_notes, in_X9, by decide⟩
theorem ce_X9_durations : pCallee mX9_durations 0 := ⟨⟨by decide, by decide, by decide +kernel⟩, co_X9_durations, in_X9, by decide⟩
theorem ce_X9_shelved : pCallee mX9_shelved 0 := ⟨⟨by decide, by decide, by decide +kernel⟩, co_X9_shelved, in_X9, by decide⟩
theorem ce_X9_told : pCallee mX9_told 1 := ⟨⟨by decide, by decide, by decide +kernel⟩, co_X9_told, in_X9, by decide⟩
end
section
/-! short rules: for methods that make nothing, with the next stack and locals as written -/
/-- the end of a method that makes nothing: the answer, the contents -/
def pR (sh : List PSh) (S : PSt) (r : Option Value) : PQ := fun r2 sh2 S2 => r2 = r ∧ sh2 = sh ∧ S2 = S
/-- likewise, with a relation -/
def pE (sh : List PSh) (P : Option Value → PSt → Prop) : PQ := fun r2 sh2 S2 => sh2 = sh ∧ P r2 S2
/-- a contract of a method that makes nothing -/
def pF (M : PM) (d : Nat) (av : List Value) (sh : List PSh) (S S2 : PSt) (r : Option Value) : Prop := ∀ X : Nat × (Nat → Int32), pSpec M d 0 0 av X sh S (pR sh S2 r)
def pG (M : PM) (d : Nat) (av : List Value) (sh : List PSh) (S : PSt) (P : Option Value → PSt → Prop) : Prop := ∀ X : Nat × (Nat → Int32), pSpec M d 0 0 av X sh S (pE sh P)
/-- a walk of a method that makes nothing -/
def pV (M : PM) (d n0 : Nat) (X : Nat × (Nat → Int32)) (sh : List PSh) (P : Option Value → PSt → Prop) (pc : Nat) (L : PL) (st : List Value) (S : PSt) : Prop := pWP M d 0 0 n0 X (pE sh P) pc L st 0 0 sh S
theorem pG.of {M : PM} {d : Nat} {av : List Value} {sh : List PSh} {S : PSt} {P : Option Value → PSt → Prop} (L0 : PL) (hy : plainName M.1.cls = true) (hT : pTabOk M.2.1 M.2.2.2.2 = true) (ha : (pArgs av).length ≤ M.2.2.1) (hL : pL0 M.2.2.1 av = L0)
    (h : ∀ X, pV M d sh.length X sh P 0 L0 [] S) : pG M d av sh S P := fun X => pSpec.of hy hT ha (by rw [hL]; exact h X)
theorem pF.of {M : PM} {d : Nat} {av : List Value} {sh : List PSh} {S S2 : PSt} {r : Option Value} (h : pG M d av sh S (fun r2 T => r2 = r ∧ T = S2)) : pF M d av sh S S2 r := by
  intro X h1 h2 l D tc ad sz
  have := h X h1 h2 l D tc ad sz
  have e : (pE sh fun r2 T => r2 = r ∧ T = S2) = pR sh S2 r := by
    funext r2 sh2 T
    unfold pE pR
    exact propext ⟨fun q => ⟨q.2.1, q.1, q.2.2⟩, fun q => ⟨q.2.1, q.1, q.2.2⟩⟩
  rw [e] at this
  exact this
theorem pF.g {M : PM} {d : Nat} {av : List Value} {sh : List PSh} {S S2 : PSt} {r : Option Value} (h : pF M d av sh S S2 r) : pG M d av sh S (fun r2 T => r2 = r ∧ T = S2) := by
  intro X h1 h2 l D tc ad sz
  have := h X h1 h2 l D tc ad sz
  have e : (pE sh fun r2 T => r2 = r ∧ T = S2) = pR sh S2 r := by
    funext r2 sh2 T
    unfold pE pR
    exact propext ⟨fun q => ⟨q.2.1, q.1, q.2.2⟩, fun q => ⟨q.2.1, q.1, q.2.2⟩⟩
  rw [e]
  exact this
section PSH
variable {M : PM} {d n0 : Nat} {X : Nat × (Nat → Int32)} {sh : List PSh} {P : Option Value → PSt → Prop} {pc : Nat} {L : PL} {st : List Value} {S : PSt}
theorem q_iconst {n : Int} (v : Int32) (hi : pLook M.2.2.2.2 pc = some (.iconst n, 1)) (hv : Int32.ofInt n = v) (k : pV M d n0 X sh P (pc + 1) L (.int v :: st) S) : pV M d n0 X sh P pc L st S := by subst hv; exact pr_iconst hi k
theorem q_bipush {n : Int} (v : Int32) (hi : pLook M.2.2.2.2 pc = some (.bipush n, 2)) (hv : (Int8.ofInt n).toInt32 = v) (k : pV M d n0 X sh P (pc + 2) L (.int v :: st) S) : pV M d n0 X sh P pc L st S := by subst hv; exact pr_bipush hi k
theorem q_sipush {n : Int} (v : Int32) (hi : pLook M.2.2.2.2 pc = some (.sipush n, 3)) (hv : (Int16.ofInt n).toInt32 = v) (k : pV M d n0 X sh P (pc + 3) L (.int v :: st) S) : pV M d n0 X sh P pc L st S := by subst hv; exact pr_sipush hi k
theorem q_lconst {n : Fin 2} (v : Int64) (hi : pLook M.2.2.2.2 pc = some (.lconst n, 1)) (hv : Int64.ofNat (n : Nat) = v) (k : pV M d n0 X sh P (pc + 1) L (.long v :: st) S) : pV M d n0 X sh P pc L st S := by subst hv; exact pr_lconst hi k
theorem q_fconst0  (hi : pLook M.2.2.2.2 pc = some (.fconst 0, 1)) (k : pV M d n0 X sh P (pc + 1) L (.float FP.fconst0 :: st) S) : pV M d n0 X sh P pc L st S := pr_fconst0 hi k
theorem q_fconst1  (hi : pLook M.2.2.2.2 pc = some (.fconst 1, 1)) (k : pV M d n0 X sh P (pc + 1) L (.float FP.fconst1 :: st) S) : pV M d n0 X sh P pc L st S := pr_fconst1 hi k
theorem q_fconst2  (hi : pLook M.2.2.2.2 pc = some (.fconst 2, 1)) (k : pV M d n0 X sh P (pc + 1) L (.float FP.fconst2 :: st) S) : pV M d n0 X sh P pc L st S := pr_fconst2 hi k
theorem q_dconst0  (hi : pLook M.2.2.2.2 pc = some (.dconst 0, 1)) (k : pV M d n0 X sh P (pc + 1) L (.double FP.dconst0 :: st) S) : pV M d n0 X sh P pc L st S := pr_dconst0 hi k
theorem q_dconst1  (hi : pLook M.2.2.2.2 pc = some (.dconst 1, 1)) (k : pV M d n0 X sh P (pc + 1) L (.double FP.dconst1 :: st) S) : pV M d n0 X sh P pc L st S := pr_dconst1 hi k
theorem q_iload_n {j : Fin 4} {x : Int32} (hi : pLook M.2.2.2.2 pc = some (.iload_n j, 1)) (hl : pLd L (j : Nat) = some (.int x)) (k : pV M d n0 X sh P (pc + 1) L (.int x :: st) S) : pV M d n0 X sh P pc L st S := pr_iload_n hi hl k
theorem q_iload {j : Nat} {x : Int32} (hi : pLook M.2.2.2.2 pc = some (.iload j, 2)) (hl : pLd L j = some (.int x)) (k : pV M d n0 X sh P (pc + 2) L (.int x :: st) S) : pV M d n0 X sh P pc L st S := pr_iload hi hl k
theorem q_istore_n {j : Fin 4} {x : Int32} (L2 : PL) (hi : pLook M.2.2.2.2 pc = some (.istore_n j, 1)) (hj : (j : Nat) < M.2.2.1) (hL : pS1 L (j : Nat) (.int x) = L2) (k : pV M d n0 X sh P (pc + 1) L2 st S) : pV M d n0 X sh P pc L (.int x :: st) S := by subst hL; exact pr_istore_n hi hj k
theorem q_istore {j : Nat} {x : Int32} (L2 : PL) (hi : pLook M.2.2.2.2 pc = some (.istore j, 2)) (hj : j < M.2.2.1) (hL : pS1 L j (.int x) = L2) (k : pV M d n0 X sh P (pc + 2) L2 st S) : pV M d n0 X sh P pc L (.int x :: st) S := by subst hL; exact pr_istore hi hj k
theorem q_lload_n {j : Fin 4} {x : Int64} (hi : pLook M.2.2.2.2 pc = some (.lload_n j, 1)) (hl : pLd L (j : Nat) = some (.long x)) (k : pV M d n0 X sh P (pc + 1) L (.long x :: st) S) : pV M d n0 X sh P pc L st S := pr_lload_n hi hl k
theorem q_lload {j : Nat} {x : Int64} (hi : pLook M.2.2.2.2 pc = some (.lload j, 2)) (hl : pLd L j = some (.long x)) (k : pV M d n0 X sh P (pc + 2) L (.long x :: st) S) : pV M d n0 X sh P pc L st S := pr_lload hi hl k
theorem q_lstore_n {j : Fin 4} {x : Int64} (L2 : PL) (hi : pLook M.2.2.2.2 pc = some (.lstore_n j, 1)) (hj : (j : Nat) + 1 < M.2.2.1) (hL : pS2 L (j : Nat) (.long x) = L2) (k : pV M d n0 X sh P (pc + 1) L2 st S) : pV M d n0 X sh P pc L (.long x :: st) S := by subst hL; exact pr_lstore_n hi hj k
theorem q_lstore {j : Nat} {x : Int64} (L2 : PL) (hi : pLook M.2.2.2.2 pc = some (.lstore j, 2)) (hj : j + 1 < M.2.2.1) (hL : pS2 L j (.long x) = L2) (k : pV M d n0 X sh P (pc + 2) L2 st S) : pV M d n0 X sh P pc L (.long x :: st) S := by subst hL; exact pr_lstore hi hj k
theorem q_fload_n {j : Fin 4} {x : UInt32} (hi : pLook M.2.2.2.2 pc = some (.fload_n j, 1)) (hl : pLd L (j : Nat) = some (.float x)) (k : pV M d n0 X sh P (pc + 1) L (.float x :: st) S) : pV M d n0 X sh P pc L st S := pr_fload_n hi hl k
theorem q_fload {j : Nat} {x : UInt32} (hi : pLook M.2.2.2.2 pc = some (.fload j, 2)) (hl : pLd L j = some (.float x)) (k : pV M d n0 X sh P (pc + 2) L (.float x :: st) S) : pV M d n0 X sh P pc L st S := pr_fload hi hl k
theorem q_fstore_n {j : Fin 4} {x : UInt32} (L2 : PL) (hi : pLook M.2.2.2.2 pc = some (.fstore_n j, 1)) (hj : (j : Nat) < M.2.2.1) (hL : pS1 L (j : Nat) (.float x) = L2) (k : pV M d n0 X sh P (pc + 1) L2 st S) : pV M d n0 X sh P pc L (.float x :: st) S := by subst hL; exact pr_fstore_n hi hj k
theorem q_fstore {j : Nat} {x : UInt32} (L2 : PL) (hi : pLook M.2.2.2.2 pc = some (.fstore j, 2)) (hj : j < M.2.2.1) (hL : pS1 L j (.float x) = L2) (k : pV M d n0 X sh P (pc + 2) L2 st S) : pV M d n0 X sh P pc L (.float x :: st) S := by subst hL; exact pr_fstore hi hj k
theorem q_dload_n {j : Fin 4} {x : UInt64} (hi : pLook M.2.2.2.2 pc = some (.dload_n j, 1)) (hl : pLd L (j : Nat) = some (.double x)) (k : pV M d n0 X sh P (pc + 1) L (.double x :: st) S) : pV M d n0 X sh P pc L st S := pr_dload_n hi hl k
theorem q_dload {j : Nat} {x : UInt64} (hi : pLook M.2.2.2.2 pc = some (.dload j, 2)) (hl : pLd L j = some (.double x)) (k : pV M d n0 X sh P (pc + 2) L (.double x :: st) S) : pV M d n0 X sh P pc L st S := pr_dload hi hl k
theorem q_dstore_n {j : Fin 4} {x : UInt64} (L2 : PL) (hi : pLook M.2.2.2.2 pc = some (.dstore_n j, 1)) (hj : (j : Nat) + 1 < M.2.2.1) (hL : pS2 L (j : Nat) (.double x) = L2) (k : pV M d n0 X sh P (pc + 1) L2 st S) : pV M d n0 X sh P pc L (.double x :: st) S := by subst hL; exact pr_dstore_n hi hj k
theorem q_dstore {j : Nat} {x : UInt64} (L2 : PL) (hi : pLook M.2.2.2.2 pc = some (.dstore j, 2)) (hj : j + 1 < M.2.2.1) (hL : pS2 L j (.double x) = L2) (k : pV M d n0 X sh P (pc + 2) L2 st S) : pV M d n0 X sh P pc L (.double x :: st) S := by subst hL; exact pr_dstore hi hj k
theorem q_aload_n {j : Fin 4} {x : Nat} (hi : pLook M.2.2.2.2 pc = some (.aload_n j, 1)) (hl : pLd L (j : Nat) = some (.ref x)) (k : pV M d n0 X sh P (pc + 1) L (.ref x :: st) S) : pV M d n0 X sh P pc L st S := pr_aload_n hi hl k
theorem q_aload {j : Nat} {x : Nat} (hi : pLook M.2.2.2.2 pc = some (.aload j, 2)) (hl : pLd L j = some (.ref x)) (k : pV M d n0 X sh P (pc + 2) L (.ref x :: st) S) : pV M d n0 X sh P pc L st S := pr_aload hi hl k
theorem q_astore_n {j : Fin 4} {x : Nat} (L2 : PL) (hi : pLook M.2.2.2.2 pc = some (.astore_n j, 1)) (hj : (j : Nat) < M.2.2.1) (hL : pS1 L (j : Nat) (.ref x) = L2) (k : pV M d n0 X sh P (pc + 1) L2 st S) : pV M d n0 X sh P pc L (.ref x :: st) S := by subst hL; exact pr_astore_n hi hj k
theorem q_astore {j : Nat} {x : Nat} (L2 : PL) (hi : pLook M.2.2.2.2 pc = some (.astore j, 2)) (hj : j < M.2.2.1) (hL : pS1 L j (.ref x) = L2) (k : pV M d n0 X sh P (pc + 2) L2 st S) : pV M d n0 X sh P pc L (.ref x :: st) S := by subst hL; exact pr_astore hi hj k
theorem q_iinc {j : Nat} {n : Int} {x : Int32} (v : Int32) (L2 : PL) (hi : pLook M.2.2.2.2 pc = some (.iinc j n, 3)) (hj : j < M.2.2.1) (hl : pLd L j = some (.int x)) (hv : x + Int32.ofInt n = v) (hL : pS1 L j (.int v) = L2) (k : pV M d n0 X sh P (pc + 3) L2 st S) : pV M d n0 X sh P pc L st S := by subst hL; subst hv; exact pr_iinc hi hj hl k
theorem q_iadd  {x : Int32} {y : Int32} (hi : pLook M.2.2.2.2 pc = some (.iadd, 1))  (k : pV M d n0 X sh P (pc + 1) L (.int (x + y) :: st) S) : pV M d n0 X sh P pc L (.int y :: .int x :: st) S := pr_iadd hi k
theorem q_isub  {x : Int32} {y : Int32} (hi : pLook M.2.2.2.2 pc = some (.isub, 1))  (k : pV M d n0 X sh P (pc + 1) L (.int (x - y) :: st) S) : pV M d n0 X sh P pc L (.int y :: .int x :: st) S := pr_isub hi k
theorem q_imul  {x : Int32} {y : Int32} (hi : pLook M.2.2.2.2 pc = some (.imul, 1))  (k : pV M d n0 X sh P (pc + 1) L (.int (x * y) :: st) S) : pV M d n0 X sh P pc L (.int y :: .int x :: st) S := pr_imul hi k
theorem q_iand  {x : Int32} {y : Int32} (hi : pLook M.2.2.2.2 pc = some (.iand, 1))  (k : pV M d n0 X sh P (pc + 1) L (.int (x &&& y) :: st) S) : pV M d n0 X sh P pc L (.int y :: .int x :: st) S := pr_iand hi k
theorem q_ineg  {x : Int32} (hi : pLook M.2.2.2.2 pc = some (.ineg, 1))  (k : pV M d n0 X sh P (pc + 1) L (.int (-x) :: st) S) : pV M d n0 X sh P pc L (.int x :: st) S := pr_ineg hi k
theorem q_ishl  {x : Int32} {y : Int32} (hi : pLook M.2.2.2.2 pc = some (.ishl, 1))  (k : pV M d n0 X sh P (pc + 1) L (.int (x <<< (y &&& 31)) :: st) S) : pV M d n0 X sh P pc L (.int y :: .int x :: st) S := pr_ishl hi k
theorem q_ladd  {x : Int64} {y : Int64} (hi : pLook M.2.2.2.2 pc = some (.ladd, 1))  (k : pV M d n0 X sh P (pc + 1) L (.long (x + y) :: st) S) : pV M d n0 X sh P pc L (.long y :: .long x :: st) S := pr_ladd hi k
theorem q_lsub  {x : Int64} {y : Int64} (hi : pLook M.2.2.2.2 pc = some (.lsub, 1))  (k : pV M d n0 X sh P (pc + 1) L (.long (x - y) :: st) S) : pV M d n0 X sh P pc L (.long y :: .long x :: st) S := pr_lsub hi k
theorem q_land  {x : Int64} {y : Int64} (hi : pLook M.2.2.2.2 pc = some (.land, 1))  (k : pV M d n0 X sh P (pc + 1) L (.long (x &&& y) :: st) S) : pV M d n0 X sh P pc L (.long y :: .long x :: st) S := pr_land hi k
theorem q_lor  {x : Int64} {y : Int64} (hi : pLook M.2.2.2.2 pc = some (.lor, 1))  (k : pV M d n0 X sh P (pc + 1) L (.long (x ||| y) :: st) S) : pV M d n0 X sh P pc L (.long y :: .long x :: st) S := pr_lor hi k
theorem q_lshl  {x : Int64} {y : Int32} (hi : pLook M.2.2.2.2 pc = some (.lshl, 1))  (k : pV M d n0 X sh P (pc + 1) L (.long (x <<< (y.toInt64 &&& 63)) :: st) S) : pV M d n0 X sh P pc L (.int y :: .long x :: st) S := pr_lshl hi k
theorem q_lshr  {x : Int64} {y : Int32} (hi : pLook M.2.2.2.2 pc = some (.lshr, 1))  (k : pV M d n0 X sh P (pc + 1) L (.long (x >>> (y.toInt64 &&& 63)) :: st) S) : pV M d n0 X sh P pc L (.int y :: .long x :: st) S := pr_lshr hi k
theorem q_i2l  {x : Int32} (hi : pLook M.2.2.2.2 pc = some (.i2l, 1))  (k : pV M d n0 X sh P (pc + 1) L (.long x.toInt64 :: st) S) : pV M d n0 X sh P pc L (.int x :: st) S := pr_i2l hi k
theorem q_l2i  {x : Int64} (hi : pLook M.2.2.2.2 pc = some (.l2i, 1))  (k : pV M d n0 X sh P (pc + 1) L (.int x.toInt32 :: st) S) : pV M d n0 X sh P pc L (.long x :: st) S := pr_l2i hi k
theorem q_i2s  {x : Int32} (hi : pLook M.2.2.2.2 pc = some (.i2s, 1))  (k : pV M d n0 X sh P (pc + 1) L (.int x.toInt16.toInt32 :: st) S) : pV M d n0 X sh P pc L (.int x :: st) S := pr_i2s hi k
theorem q_i2f  {x : Int32} (hi : pLook M.2.2.2.2 pc = some (.i2f, 1))  (k : pV M d n0 X sh P (pc + 1) L (.float (FP.i2f x) :: st) S) : pV M d n0 X sh P pc L (.int x :: st) S := pr_i2f hi k
theorem q_l2f  {x : Int64} (hi : pLook M.2.2.2.2 pc = some (.l2f, 1))  (k : pV M d n0 X sh P (pc + 1) L (.float (FP.l2f x) :: st) S) : pV M d n0 X sh P pc L (.long x :: st) S := pr_l2f hi k
theorem q_f2i  {x : UInt32} (hi : pLook M.2.2.2.2 pc = some (.f2i, 1))  (k : pV M d n0 X sh P (pc + 1) L (.int (FP.f2i x) :: st) S) : pV M d n0 X sh P pc L (.float x :: st) S := pr_f2i hi k
theorem q_i2d  {x : Int32} (hi : pLook M.2.2.2.2 pc = some (.i2d, 1))  (k : pV M d n0 X sh P (pc + 1) L (.double (FP.i2d x) :: st) S) : pV M d n0 X sh P pc L (.int x :: st) S := pr_i2d hi k
theorem q_l2d  {x : Int64} (hi : pLook M.2.2.2.2 pc = some (.l2d, 1))  (k : pV M d n0 X sh P (pc + 1) L (.double (FP.l2d x) :: st) S) : pV M d n0 X sh P pc L (.long x :: st) S := pr_l2d hi k
theorem q_d2i  {x : UInt64} (hi : pLook M.2.2.2.2 pc = some (.d2i, 1))  (k : pV M d n0 X sh P (pc + 1) L (.int (FP.d2i x) :: st) S) : pV M d n0 X sh P pc L (.double x :: st) S := pr_d2i hi k
theorem q_d2l  {x : UInt64} (hi : pLook M.2.2.2.2 pc = some (.d2l, 1))  (k : pV M d n0 X sh P (pc + 1) L (.long (FP.d2l x) :: st) S) : pV M d n0 X sh P pc L (.double x :: st) S := pr_d2l hi k
theorem q_dneg  {x : UInt64} (hi : pLook M.2.2.2.2 pc = some (.dneg, 1))  (k : pV M d n0 X sh P (pc + 1) L (.double (FP.dneg x) :: st) S) : pV M d n0 X sh P pc L (.double x :: st) S := pr_dneg hi k
theorem q_lcmp  {x : Int64} {y : Int64} (hi : pLook M.2.2.2.2 pc = some (.lcmp, 1))  (k : pV M d n0 X sh P (pc + 1) L (.int (lg_cmp x y) :: st) S) : pV M d n0 X sh P pc L (.long y :: .long x :: st) S := pr_lcmp hi k
theorem q_fcmp {op : CmpOp} {x : UInt32} {y : UInt32} (hi : pLook M.2.2.2.2 pc = some (.fcmp op, 1))  (k : pV M d n0 X sh P (pc + 1) L (.int (Op.cmpValue (FP.fcmp x y) op) :: st) S) : pV M d n0 X sh P pc L (.float y :: .float x :: st) S := pr_fcmp hi k
theorem q_dcmp {op : CmpOp} {x : UInt64} {y : UInt64} (hi : pLook M.2.2.2.2 pc = some (.dcmp op, 1))  (k : pV M d n0 X sh P (pc + 1) L (.int (Op.cmpValue (FP.dcmp x y) op) :: st) S) : pV M d n0 X sh P pc L (.double y :: .double x :: st) S := pr_dcmp hi k
theorem q_fadd  {x : UInt32} {y : UInt32} (hi : pLook M.2.2.2.2 pc = some (.fadd, 1)) (hne : vf_n32 (FP.fadd x y)) (k : pV M d n0 X sh P (pc + 1) L (.float (FP.fadd x y) :: st) S) : pV M d n0 X sh P pc L (.float y :: .float x :: st) S := pr_fadd hi hne k
theorem q_fsub  {x : UInt32} {y : UInt32} (hi : pLook M.2.2.2.2 pc = some (.fsub, 1)) (hne : vf_n32 (FP.fsub x y)) (k : pV M d n0 X sh P (pc + 1) L (.float (FP.fsub x y) :: st) S) : pV M d n0 X sh P pc L (.float y :: .float x :: st) S := pr_fsub hi hne k
theorem q_fmul  {x : UInt32} {y : UInt32} (hi : pLook M.2.2.2.2 pc = some (.fmul, 1)) (hne : vf_n32 (FP.fmul x y)) (k : pV M d n0 X sh P (pc + 1) L (.float (FP.fmul x y) :: st) S) : pV M d n0 X sh P pc L (.float y :: .float x :: st) S := pr_fmul hi hne k
theorem q_fdiv  {x : UInt32} {y : UInt32} (hi : pLook M.2.2.2.2 pc = some (.fdiv, 1)) (hne : vf_n32 (FP.fdiv x y)) (k : pV M d n0 X sh P (pc + 1) L (.float (FP.fdiv x y) :: st) S) : pV M d n0 X sh P pc L (.float y :: .float x :: st) S := pr_fdiv hi hne k
theorem q_frem  {x : UInt32} {y : UInt32} (hi : pLook M.2.2.2.2 pc = some (.frem, 1)) (hne : vf_n32 (FP.frem x y)) (k : pV M d n0 X sh P (pc + 1) L (.float (FP.frem x y) :: st) S) : pV M d n0 X sh P pc L (.float y :: .float x :: st) S := pr_frem hi hne k
theorem q_dadd  {x : UInt64} {y : UInt64} (hi : pLook M.2.2.2.2 pc = some (.dadd, 1)) (hne : vf_n64 (FP.dadd x y)) (k : pV M d n0 X sh P (pc + 1) L (.double (FP.dadd x y) :: st) S) : pV M d n0 X sh P pc L (.double y :: .double x :: st) S := pr_dadd hi hne k
theorem q_dsub  {x : UInt64} {y : UInt64} (hi : pLook M.2.2.2.2 pc = some (.dsub, 1)) (hne : vf_n64 (FP.dsub x y)) (k : pV M d n0 X sh P (pc + 1) L (.double (FP.dsub x y) :: st) S) : pV M d n0 X sh P pc L (.double y :: .double x :: st) S := pr_dsub hi hne k
theorem q_dmul  {x : UInt64} {y : UInt64} (hi : pLook M.2.2.2.2 pc = some (.dmul, 1)) (hne : vf_n64 (FP.dmul x y)) (k : pV M d n0 X sh P (pc + 1) L (.double (FP.dmul x y) :: st) S) : pV M d n0 X sh P pc L (.double y :: .double x :: st) S := pr_dmul hi hne k
theorem q_ddiv  {x : UInt64} {y : UInt64} (hi : pLook M.2.2.2.2 pc = some (.ddiv, 1)) (hne : vf_n64 (FP.ddiv x y)) (k : pV M d n0 X sh P (pc + 1) L (.double (FP.ddiv x y) :: st) S) : pV M d n0 X sh P pc L (.double y :: .double x :: st) S := pr_ddiv hi hne k
theorem q_drem  {x : UInt64} {y : UInt64} (hi : pLook M.2.2.2.2 pc = some (.drem, 1)) (hne : vf_n64 (FP.drem x y)) (k : pV M d n0 X sh P (pc + 1) L (.double (FP.drem x y) :: st) S) : pV M d n0 X sh P pc L (.double y :: .double x :: st) S := pr_drem hi hne k
theorem q_f2d  {x : UInt32} (hi : pLook M.2.2.2.2 pc = some (.f2d, 1)) (hne : vf_n64 (FP.f2d x)) (k : pV M d n0 X sh P (pc + 1) L (.double (FP.f2d x) :: st) S) : pV M d n0 X sh P pc L (.float x :: st) S := pr_f2d hi hne k
theorem q_d2f  {x : UInt64} (hi : pLook M.2.2.2.2 pc = some (.d2f, 1)) (hne : vf_n32 (FP.d2f x)) (k : pV M d n0 X sh P (pc + 1) L (.float (FP.d2f x) :: st) S) : pV M d n0 X sh P pc L (.double x :: st) S := pr_d2f hi hne k
theorem q_irem  {x : Int32} {y : Int32} (hi : pLook M.2.2.2.2 pc = some (.irem, 1)) (hne : ¬ y = 0) (k : pV M d n0 X sh P (pc + 1) L (.int (x - x / y * y) :: st) S) : pV M d n0 X sh P pc L (.int y :: .int x :: st) S := pr_irem hi hne k
theorem q_lrem  {x : Int64} {y : Int64} (hi : pLook M.2.2.2.2 pc = some (.lrem, 1)) (hne : ¬ y = 0) (k : pV M d n0 X sh P (pc + 1) L (.long (x - x / y * y) :: st) S) : pV M d n0 X sh P pc L (.long y :: .long x :: st) S := pr_lrem hi hne k
theorem q_dup {v : Value} (hi : pLook M.2.2.2.2 pc = some (.dup, 1)) (hv : v.category = 1) (k : pV M d n0 X sh P (pc + 1) L (v :: v :: st) S) : pV M d n0 X sh P pc L (v :: st) S := pr_dup hi hv k
theorem q_pop {v : Value} (hi : pLook M.2.2.2.2 pc = some (.pop, 1)) (hv : v.category = 1) (k : pV M d n0 X sh P (pc + 1) L st S) : pV M d n0 X sh P pc L (v :: st) S := pr_pop hi hv k
theorem q_dup2 {v w : Value} (hi : pLook M.2.2.2.2 pc = some (.dup2, 1)) (hv : v.category = 1) (hw : w.category = 1) (k : pV M d n0 X sh P (pc + 1) L (v :: w :: v :: w :: st) S) : pV M d n0 X sh P pc L (v :: w :: st) S := pr_dup2 hi hv hw k
theorem q_if_eq {x : Int32} {off : Int} (tgt : Nat) (hi : pLook M.2.2.2.2 pc = some (.ifCond .eq off, 3)) (ht : (pc : Int) + off = (tgt : Int)) (k1 : x = 0 → pV M d n0 X sh P tgt L st S) (k2 : ¬ x = 0 → pV M d n0 X sh P (pc + 3) L st S) : pV M d n0 X sh P pc L (.int x :: st) S := pr_if_eq tgt hi ht k1 k2
theorem q_icmp_eq {x y : Int32} {off : Int} (tgt : Nat) (hi : pLook M.2.2.2.2 pc = some (.if_icmp .eq off, 3)) (ht : (pc : Int) + off = (tgt : Int)) (k1 : x = y → pV M d n0 X sh P tgt L st S) (k2 : ¬ x = y → pV M d n0 X sh P (pc + 3) L st S) : pV M d n0 X sh P pc L (.int y :: .int x :: st) S := pr_icmp_eq tgt hi ht k1 k2
theorem q_if_ne {x : Int32} {off : Int} (tgt : Nat) (hi : pLook M.2.2.2.2 pc = some (.ifCond .ne off, 3)) (ht : (pc : Int) + off = (tgt : Int)) (k1 : ¬ x = 0 → pV M d n0 X sh P tgt L st S) (k2 : x = 0 → pV M d n0 X sh P (pc + 3) L st S) : pV M d n0 X sh P pc L (.int x :: st) S := pr_if_ne tgt hi ht k1 k2
theorem q_icmp_ne {x y : Int32} {off : Int} (tgt : Nat) (hi : pLook M.2.2.2.2 pc = some (.if_icmp .ne off, 3)) (ht : (pc : Int) + off = (tgt : Int)) (k1 : ¬ x = y → pV M d n0 X sh P tgt L st S) (k2 : x = y → pV M d n0 X sh P (pc + 3) L st S) : pV M d n0 X sh P pc L (.int y :: .int x :: st) S := pr_icmp_ne tgt hi ht k1 k2
theorem q_if_lt {x : Int32} {off : Int} (tgt : Nat) (hi : pLook M.2.2.2.2 pc = some (.ifCond .lt off, 3)) (ht : (pc : Int) + off = (tgt : Int)) (k1 : x < 0 → pV M d n0 X sh P tgt L st S) (k2 : ¬ (x < 0) → pV M d n0 X sh P (pc + 3) L st S) : pV M d n0 X sh P pc L (.int x :: st) S := pr_if_lt tgt hi ht k1 k2
theorem q_icmp_lt {x y : Int32} {off : Int} (tgt : Nat) (hi : pLook M.2.2.2.2 pc = some (.if_icmp .lt off, 3)) (ht : (pc : Int) + off = (tgt : Int)) (k1 : x < y → pV M d n0 X sh P tgt L st S) (k2 : ¬ (x < y) → pV M d n0 X sh P (pc + 3) L st S) : pV M d n0 X sh P pc L (.int y :: .int x :: st) S := pr_icmp_lt tgt hi ht k1 k2
theorem q_if_ge {x : Int32} {off : Int} (tgt : Nat) (hi : pLook M.2.2.2.2 pc = some (.ifCond .ge off, 3)) (ht : (pc : Int) + off = (tgt : Int)) (k1 : 0 ≤ x → pV M d n0 X sh P tgt L st S) (k2 : ¬ (0 ≤ x) → pV M d n0 X sh P (pc + 3) L st S) : pV M d n0 X sh P pc L (.int x :: st) S := pr_if_ge tgt hi ht k1 k2
theorem q_icmp_ge {x y : Int32} {off : Int} (tgt : Nat) (hi : pLook M.2.2.2.2 pc = some (.if_icmp .ge off, 3)) (ht : (pc : Int) + off = (tgt : Int)) (k1 : y ≤ x → pV M d n0 X sh P tgt L st S) (k2 : ¬ (y ≤ x) → pV M d n0 X sh P (pc + 3) L st S) : pV M d n0 X sh P pc L (.int y :: .int x :: st) S := pr_icmp_ge tgt hi ht k1 k2
theorem q_if_gt {x : Int32} {off : Int} (tgt : Nat) (hi : pLook M.2.2.2.2 pc = some (.ifCond .gt off, 3)) (ht : (pc : Int) + off = (tgt : Int)) (k1 : 0 < x → pV M d n0 X sh P tgt L st S) (k2 : ¬ (0 < x) → pV M d n0 X sh P (pc + 3) L st S) : pV M d n0 X sh P pc L (.int x :: st) S := pr_if_gt tgt hi ht k1 k2
theorem q_icmp_gt {x y : Int32} {off : Int} (tgt : Nat) (hi : pLook M.2.2.2.2 pc = some (.if_icmp .gt off, 3)) (ht : (pc : Int) + off = (tgt : Int)) (k1 : y < x → pV M d n0 X sh P tgt L st S) (k2 : ¬ (y < x) → pV M d n0 X sh P (pc + 3) L st S) : pV M d n0 X sh P pc L (.int y :: .int x :: st) S := pr_icmp_gt tgt hi ht k1 k2
theorem q_if_le {x : Int32} {off : Int} (tgt : Nat) (hi : pLook M.2.2.2.2 pc = some (.ifCond .le off, 3)) (ht : (pc : Int) + off = (tgt : Int)) (k1 : x ≤ 0 → pV M d n0 X sh P tgt L st S) (k2 : ¬ (x ≤ 0) → pV M d n0 X sh P (pc + 3) L st S) : pV M d n0 X sh P pc L (.int x :: st) S := pr_if_le tgt hi ht k1 k2
theorem q_icmp_le {x y : Int32} {off : Int} (tgt : Nat) (hi : pLook M.2.2.2.2 pc = some (.if_icmp .le off, 3)) (ht : (pc : Int) + off = (tgt : Int)) (k1 : x ≤ y → pV M d n0 X sh P tgt L st S) (k2 : ¬ (x ≤ y) → pV M d n0 X sh P (pc + 3) L st S) : pV M d n0 X sh P pc L (.int y :: .int x :: st) S := pr_icmp_le tgt hi ht k1 k2
theorem q_goto {off : Int} (tgt : Nat) (hi : pLook M.2.2.2.2 pc = some (.goto off, 3)) (ht : (pc : Int) + off = (tgt : Int)) (k : pV M d n0 X sh P tgt L st S) : pV M d n0 X sh P pc L st S := pr_goto tgt hi ht k
theorem q_ifnull {x : Nat} {off : Int} (hi : pLook M.2.2.2.2 pc = some (.ifnull off, 3)) (k : pV M d n0 X sh P (pc + 3) L st S) : pV M d n0 X sh P pc L (.ref x :: st) S := pr_ifnull hi k
theorem q_ifnonnull {x : Nat} {off : Int} (tgt : Nat) (hi : pLook M.2.2.2.2 pc = some (.ifnonnull off, 3)) (ht : (pc : Int) + off = (tgt : Int)) (k : pV M d n0 X sh P tgt L st S) : pV M d n0 X sh P pc L (.ref x :: st) S := pr_ifnonnull tgt hi ht k
theorem q_tableOut {dflt lo hi9 : Int} {offs : Array Int} {len : Nat} {x : Int32} (tgt : Nat) (hi : pLook M.2.2.2.2 pc = some (.tableswitch dflt lo hi9 offs, len)) (h : x.toInt < lo ∨ hi9 < x.toInt) (ht : (pc : Int) + dflt = (tgt : Int)) (k : pV M d n0 X sh P tgt L st S) : pV M d n0 X sh P pc L (.int x :: st) S := pr_tableOut tgt hi h ht k
theorem q_tableIn {dflt lo hi9 : Int} {offs : Array Int} {len : Nat} {x : Int32} {off : Int} (tgt : Nat) (hi : pLook M.2.2.2.2 pc = some (.tableswitch dflt lo hi9 offs, len)) (h1 : ¬ x.toInt < lo) (h2 : ¬ hi9 < x.toInt) (ho : offs[(x.toInt - lo).toNat]? = some off) (ht : (pc : Int) + off = (tgt : Int)) (k : pV M d n0 X sh P tgt L st S) : pV M d n0 X sh P pc L (.int x :: st) S := pr_tableIn tgt hi h1 h2 ho ht k
theorem q_lookup {dflt : Int} {ps : Array (Int × Int)} {len : Nat} {x : Int32} {off : Int} (tgt : Nat) (hi : pLook M.2.2.2.2 pc = some (.lookupswitch dflt ps, len)) (hp : (ps.toList.zip (ps.toList.drop 1)).all (fun (a, next) => a.1 < next.1) = true) (ho : Op.lookupswitch.offset ps.toList dflt x.toInt = off) (ht : (pc : Int) + off = (tgt : Int)) (k : pV M d n0 X sh P tgt L st S) : pV M d n0 X sh P pc L (.int x :: st) S := pr_lookup tgt hi hp ho ht k
theorem q_get {a c j idx f : Nat} {fs : List Nat} {v : Value} (hi : pLook M.2.2.2.2 pc = some (.getfield idx, 3)) (hF : pFL M.1.cls idx c j) (hs : sh[a]? = some (.inr (c, fs))) (hf : fs[j]? = some f) (hv : pFv S a j f = v) (k : pV M d n0 X sh P (pc + 3) L (v :: st) S) : pV M d n0 X sh P pc L (.ref a :: st) S := pr_get hi hF hs hf hv k
theorem q_putI {a c j idx : Nat} {fs : List Nat} {x : Int32} (hi : pLook M.2.2.2.2 pc = some (.putfield idx, 3)) (hF : pFL M.1.cls idx c j) (hs : sh[a]? = some (.inr (c, fs))) (hf : fs[j]? = some 0) (hfin : ∀ q, vwCl[c]? = some q → (q.2.1 j).2.2.2 = false) (hn : narrow (pTyp c j) (.int x) = .int x) (hfit : fits (pTyp c j) (.int x) = true) (k : pV M d n0 X sh P (pc + 3) L st (pSI S a j x)) : pV M d n0 X sh P pc L (.int x :: .ref a :: st) S := pr_putI hi hF hs hf (fun q h => Or.inl (hfin q h)) hn hfit k
theorem q_putF {a c j idx : Nat} {fs : List Nat} {x : UInt32} (hi : pLook M.2.2.2.2 pc = some (.putfield idx, 3)) (hF : pFL M.1.cls idx c j) (hs : sh[a]? = some (.inr (c, fs))) (hf : fs[j]? = some 1) (hfin : ∀ q, vwCl[c]? = some q → (q.2.1 j).2.2.2 = false) (hn : narrow (pTyp c j) (.float x) = .float x) (hfit : fits (pTyp c j) (.float x) = true) (k : pV M d n0 X sh P (pc + 3) L st (pSF S a j x)) : pV M d n0 X sh P pc L (.float x :: .ref a :: st) S := pr_putF hi hF hs hf (fun q h => Or.inl (hfin q h)) hn hfit k
theorem q_iald {a n : Nat} {i : Int32} (w : Nat) (hi : pLook M.2.2.2.2 pc = some (.iaload, 1)) (hs : sh[a]? = some (.inl (0, n))) (hin : vp_in i n) (hw : i.toNatClampNeg = w) (k : pV M d n0 X sh P (pc + 1) L (.int (S.1 a w) :: st) S) : pV M d n0 X sh P pc L (.int i :: .ref a :: st) S := by subst hw; exact pr_iald hi hs hin k
theorem q_fald {a n : Nat} {i : Int32} (w : Nat) (hi : pLook M.2.2.2.2 pc = some (.faload, 1)) (hs : sh[a]? = some (.inl (1, n))) (hin : vp_in i n) (hw : i.toNatClampNeg = w) (k : pV M d n0 X sh P (pc + 1) L (.float (S.2.1 a w) :: st) S) : pV M d n0 X sh P pc L (.int i :: .ref a :: st) S := by subst hw; exact pr_fald hi hs hin k
theorem q_zald {a n : Nat} {i : Int32} (w : Nat) (hi : pLook M.2.2.2.2 pc = some (.baload, 1)) (hs : sh[a]? = some (.inl (2, n))) (hin : vp_in i n) (hw : i.toNatClampNeg = w) (k : pV M d n0 X sh P (pc + 1) L (.int (S.1 a w) :: st) S) : pV M d n0 X sh P pc L (.int i :: .ref a :: st) S := by subst hw; exact pr_zald hi hs hin k
theorem q_lald {a n : Nat} {i : Int32} (w : Nat) (hi : pLook M.2.2.2.2 pc = some (.laload, 1)) (hs : sh[a]? = some (.inl (3, n))) (hin : vp_in i n) (hw : i.toNatClampNeg = w) (k : pV M d n0 X sh P (pc + 1) L (.long (S.2.2.1 a w) :: st) S) : pV M d n0 X sh P pc L (.int i :: .ref a :: st) S := by subst hw; exact pr_lald hi hs hin k
theorem q_dald {a n : Nat} {i : Int32} (w : Nat) (hi : pLook M.2.2.2.2 pc = some (.daload, 1)) (hs : sh[a]? = some (.inl (4, n))) (hin : vp_in i n) (hw : i.toNatClampNeg = w) (k : pV M d n0 X sh P (pc + 1) L (.double (S.2.2.2 a w) :: st) S) : pV M d n0 X sh P pc L (.int i :: .ref a :: st) S := by subst hw; exact pr_dald hi hs hin k
theorem q_ialdR {i : Int32} (j w : Nat) (hj : j < 3) (hi : pLook M.2.2.2.2 pc = some (.iaload, 1)) (hin : vp_in i (pRoC X j).1) (hw : i.toNatClampNeg = w) (k : pV M d n0 X sh P (pc + 1) L (.int ((pRoC X j).2 w) :: st) S) : pV M d n0 X sh P pc L (.int i :: .ref (1000 + j) :: st) S := by subst hw; exact pr_ialdR hj hi hin k
theorem q_alen {a t n : Nat} (v : Int32) (hi : pLook M.2.2.2.2 pc = some (.arraylength, 1)) (hs : sh[a]? = some (.inl (t, n))) (ht : t < 5) (hv : Int32.ofNat n = v) (k : pV M d n0 X sh P (pc + 1) L (.int v :: st) S) : pV M d n0 X sh P pc L (.ref a :: st) S := by subst hv; exact pr_alen hi hs ht k
theorem q_alenR (j : Nat) (hj : j < 3) (hi : pLook M.2.2.2.2 pc = some (.arraylength, 1)) (k : pV M d n0 X sh P (pc + 1) L (.int (Int32.ofNat (pRoC X j).1) :: st) S) : pV M d n0 X sh P pc L (.ref (1000 + j) :: st) S := pr_alenR hj hi k
theorem q_iast {a n : Nat} {i : Int32} {x : Int32} (w : Nat) (hi : pLook M.2.2.2.2 pc = some (.iastore, 1)) (hs : sh[a]? = some (.inl (0, n))) (hin : vp_in i n)  (hw : i.toNatClampNeg = w) (k : pV M d n0 X sh P (pc + 1) L st (pSI S a w x)) : pV M d n0 X sh P pc L (.int x :: .int i :: .ref a :: st) S := by subst hw; exact pr_iast hi hs hin k
theorem q_fast {a n : Nat} {i : Int32} {x : UInt32} (w : Nat) (hi : pLook M.2.2.2.2 pc = some (.fastore, 1)) (hs : sh[a]? = some (.inl (1, n))) (hin : vp_in i n)  (hw : i.toNatClampNeg = w) (k : pV M d n0 X sh P (pc + 1) L st (pSF S a w x)) : pV M d n0 X sh P pc L (.float x :: .int i :: .ref a :: st) S := by subst hw; exact pr_fast hi hs hin k
theorem q_zast {a n : Nat} {i : Int32} {x : Int32} (w : Nat) (hi : pLook M.2.2.2.2 pc = some (.bastore, 1)) (hs : sh[a]? = some (.inl (2, n))) (hin : vp_in i n) (hx : vp_nar .boolean x = x) (hw : i.toNatClampNeg = w) (k : pV M d n0 X sh P (pc + 1) L st (pSI S a w x)) : pV M d n0 X sh P pc L (.int x :: .int i :: .ref a :: st) S := by subst hw; exact pr_zast hi hs hin hx k
theorem q_last {a n : Nat} {i : Int32} {x : Int64} (w : Nat) (hi : pLook M.2.2.2.2 pc = some (.lastore, 1)) (hs : sh[a]? = some (.inl (3, n))) (hin : vp_in i n)  (hw : i.toNatClampNeg = w) (k : pV M d n0 X sh P (pc + 1) L st (pSJ S a w x)) : pV M d n0 X sh P pc L (.long x :: .int i :: .ref a :: st) S := by subst hw; exact pr_last hi hs hin k
theorem q_dast {a n : Nat} {i : Int32} {x : UInt64} (w : Nat) (hi : pLook M.2.2.2.2 pc = some (.dastore, 1)) (hs : sh[a]? = some (.inl (4, n))) (hin : vp_in i n)  (hw : i.toNatClampNeg = w) (k : pV M d n0 X sh P (pc + 1) L st (pSD S a w x)) : pV M d n0 X sh P pc L (.double x :: .int i :: .ref a :: st) S := by subst hw; exact pr_dast hi hs hin k
theorem q_ldc {idx : Nat} {v : Int32} (hi : pLook M.2.2.2.2 pc = some (.ldc idx, 2)) (hc : Cond.constant M.1.cls idx v ∈ pGood) (k : pV M d n0 X sh P (pc + 2) L (.int v :: st) S) : pV M d n0 X sh P pc L st S := pr_ldc hi hc k
theorem q_ldcf {idx : Nat} {v : UInt32} (hi : pLook M.2.2.2.2 pc = some (.ldc idx, 2)) (hc : Cond.constantFloat M.1.cls idx v ∈ pGood) (k : pV M d n0 X sh P (pc + 2) L (.float v :: st) S) : pV M d n0 X sh P pc L st S := pr_ldcf hi hc k
theorem q_ldcw {idx : Nat} {v : Int32} (hi : pLook M.2.2.2.2 pc = some (.ldc_w idx, 3)) (hc : Cond.constant M.1.cls idx v ∈ pGood) (k : pV M d n0 X sh P (pc + 3) L (.int v :: st) S) : pV M d n0 X sh P pc L st S := pr_ldcw hi hc k
theorem q_ldcwf {idx : Nat} {v : UInt32} (hi : pLook M.2.2.2.2 pc = some (.ldc_w idx, 3)) (hc : Cond.constantFloat M.1.cls idx v ∈ pGood) (k : pV M d n0 X sh P (pc + 3) L (.float v :: st) S) : pV M d n0 X sh P pc L st S := pr_ldcwf hi hc k
theorem q_ldc2 {idx : Nat} {v : Int64} (hi : pLook M.2.2.2.2 pc = some (.ldc2_w idx, 3)) (hc : Cond.constantLong M.1.cls idx v ∈ pGood) (k : pV M d n0 X sh P (pc + 3) L (.long v :: st) S) : pV M d n0 X sh P pc L st S := pr_ldc2 hi hc k
theorem q_ldc2d {idx : Nat} {v : UInt64} (hi : pLook M.2.2.2.2 pc = some (.ldc2_w idx, 3)) (hc : Cond.constantDouble M.1.cls idx v ∈ pGood) (k : pV M d n0 X sh P (pc + 3) L (.double v :: st) S) : pV M d n0 X sh P pc L st S := pr_ldc2d hi hc k
theorem q_getsLEAST {idx : Nat} (hi : pLook M.2.2.2.2 pc = some (.getstatic idx, 3)) (hc : Cond.fieldLink M.1.cls idx "EngravedLines" "LEAST" "[I" ∈ pGood) (k : pV M d n0 X sh P (pc + 3) L (.ref 1001 :: st) S) : pV M d n0 X sh P pc L st S := pr_getsLEAST hi hc k
theorem q_getsMOST {idx : Nat} (hi : pLook M.2.2.2.2 pc = some (.getstatic idx, 3)) (hc : Cond.fieldLink M.1.cls idx "EngravedLines" "MOST" "[I" ∈ pGood) (k : pV M d n0 X sh P (pc + 3) L (.ref 1002 :: st) S) : pV M d n0 X sh P pc L st S := pr_getsMOST hi hc k
theorem q_forget (L2 : PL) (hw : ∀ (i : Nat) (v : Value), L2[i]? = some (some v) → L[i]? = some (some v)) (k : pV M d n0 X sh P pc L2 st S) : pV M d n0 X sh P pc L st S := pr_forget hw k
theorem q_iret {x : Int32} (hi : pLook M.2.2.2.2 pc = some (.ireturn, 1)) (hr : M.2.2.2.1 = some .int) (hq : P (some (.int x)) S)  : pV M d n0 X sh P pc L [.int x] S := pr_iret hi hr ⟨Nat.le_refl _, Nat.le_refl _⟩ ⟨rfl, hq⟩
theorem q_lret {x : Int64} (hi : pLook M.2.2.2.2 pc = some (.lreturn, 1)) (hr : M.2.2.2.1 = some .long) (hq : P (some (.long x)) S)  : pV M d n0 X sh P pc L [.long x] S := pr_lret hi hr ⟨Nat.le_refl _, Nat.le_refl _⟩ ⟨rfl, hq⟩
theorem q_fret {x : UInt32} (hi : pLook M.2.2.2.2 pc = some (.freturn, 1)) (hr : M.2.2.2.1 = some .float) (hq : P (some (.float x)) S)  : pV M d n0 X sh P pc L [.float x] S := pr_fret hi hr ⟨Nat.le_refl _, Nat.le_refl _⟩ ⟨rfl, hq⟩
theorem q_dret {x : UInt64} (hi : pLook M.2.2.2.2 pc = some (.dreturn, 1)) (hr : M.2.2.2.1 = some .double) (hq : P (some (.double x)) S)  : pV M d n0 X sh P pc L [.double x] S := pr_dret hi hr ⟨Nat.le_refl _, Nat.le_refl _⟩ ⟨rfl, hq⟩
theorem q_zret {x : Int32} (hi : pLook M.2.2.2.2 pc = some (.ireturn, 1)) (hr : M.2.2.2.1 = some .boolean) (hn : narrow .boolean (.int x) = .int x) (hq : P (some (.int x)) S)  : pV M d n0 X sh P pc L [.int x] S := pr_zret hi hr hn ⟨Nat.le_refl _, Nat.le_refl _⟩ ⟨rfl, hq⟩
theorem q_vret  (hi : pLook M.2.2.2.2 pc = some (.return_, 1)) (hr : M.2.2.2.1 = none) (hq : P none S)  : pV M d n0 X sh P pc L [] S := pr_vret hi hr ⟨Nat.le_refl _, Nat.le_refl _⟩ ⟨rfl, hq⟩
theorem q_callS {M1 : PM} {d1 idx n : Nat} {r : Option Value} {S2 : PSt} (as rest st2 : List Value) (hi : pLook M.2.2.2.2 pc = some (.invokestatic idx, 3)) (hce : pCallee M1 n) (hml : pML M.1.cls idx M1) (hst : Cond.static M1.1 ∈ pGood) (hn : as.length = n) (hd : d1 + 1 ≤ d) (hcat : (rest.map fun v => v.category).sum ≤ 8) (hsp : pF M1 d1 as sh S S2 r) (h2 : r.toList ++ rest = st2) (k : pV M d n0 X sh P (pc + 3) L st2 S2) : pV M d n0 X sh P pc L (as.reverse ++ rest) S := by
  subst h2
  exact pr_callS hi hce hml hst hn hd hcat ⟨Nat.le_refl _, Nat.le_refl _⟩ (hsp X) (fun r sh2 T h => pSame0 (by rw [h.2.1])) (fun r sh2 T h => by obtain ⟨rfl, rfl, rfl⟩ := h; exact k)
theorem q_callSG {M1 : PM} {d1 idx n : Nat} {P1 : Option Value → PSt → Prop} (as rest : List Value) (hi : pLook M.2.2.2.2 pc = some (.invokestatic idx, 3)) (hce : pCallee M1 n) (hml : pML M.1.cls idx M1) (hst : Cond.static M1.1 ∈ pGood) (hn : as.length = n) (hd : d1 + 1 ≤ d) (hcat : (rest.map fun v => v.category).sum ≤ 8) (hsp : pG M1 d1 as sh S P1) (k : ∀ (r : Option Value) (S2 : PSt), P1 r S2 → pV M d n0 X sh P (pc + 3) L (r.toList ++ rest) S2) : pV M d n0 X sh P pc L (as.reverse ++ rest) S := by
  exact pr_callS hi hce hml hst hn hd hcat ⟨Nat.le_refl _, Nat.le_refl _⟩ (hsp X) (fun r sh2 T h => pSame0 (by rw [h.1])) (fun r sh2 T h => by obtain ⟨rfl, h⟩ := h; exact k r T h)
theorem q_callV {M1 : PM} {d1 idx n b cI : Nat} {fs : List Nat} {qc : vw_C} {r : Option Value} {S2 : PSt} (as rest st2 : List Value) (hi : pLook M.2.2.2.2 pc = some (.invokevirtual idx, 3)) (hce : pCallee M1 n) (hml : pML M.1.cls idx M1) (hin : Cond.instanceMethod M1.1 ∈ pGood) (hse : Cond.selects M1.1.cls M1.1 M1.1 ∈ pGood) (hb : sh[b]? = some (.inr (cI, fs))) (hcl : vwCl[cI]? = some qc) (hqc : qc.1 = M1.1.cls) (hn : as.length = n) (hd : d1 + 1 ≤ d) (hcat : (rest.map fun v => v.category).sum ≤ 8) (hsp : pF M1 d1 (.ref b :: as) sh S S2 r) (h2 : r.toList ++ rest = st2) (k : pV M d n0 X sh P (pc + 3) L st2 S2) : pV M d n0 X sh P pc L (as.reverse ++ .ref b :: rest) S := by
  subst h2
  exact pr_callV hi hce hml hin hse hb hcl hqc hn hd hcat ⟨Nat.le_refl _, Nat.le_refl _⟩ (hsp X) (fun r sh2 T h => pSame0 (by rw [h.2.1])) (fun r sh2 T h => by obtain ⟨rfl, rfl, rfl⟩ := h; exact k)
theorem q_callVG {M1 : PM} {d1 idx n b cI : Nat} {fs : List Nat} {qc : vw_C} {P1 : Option Value → PSt → Prop} (as rest : List Value) (hi : pLook M.2.2.2.2 pc = some (.invokevirtual idx, 3)) (hce : pCallee M1 n) (hml : pML M.1.cls idx M1) (hin : Cond.instanceMethod M1.1 ∈ pGood) (hse : Cond.selects M1.1.cls M1.1 M1.1 ∈ pGood) (hb : sh[b]? = some (.inr (cI, fs))) (hcl : vwCl[cI]? = some qc) (hqc : qc.1 = M1.1.cls) (hn : as.length = n) (hd : d1 + 1 ≤ d) (hcat : (rest.map fun v => v.category).sum ≤ 8) (hsp : pG M1 d1 (.ref b :: as) sh S P1) (k : ∀ (r : Option Value) (S2 : PSt), P1 r S2 → pV M d n0 X sh P (pc + 3) L (r.toList ++ rest) S2) : pV M d n0 X sh P pc L (as.reverse ++ .ref b :: rest) S := by
  exact pr_callV hi hce hml hin hse hb hcl hqc hn hd hcat ⟨Nat.le_refl _, Nat.le_refl _⟩ (hsp X) (fun r sh2 T h => pSame0 (by rw [h.1])) (fun r sh2 T h => by obtain ⟨rfl, h⟩ := h; exact k r T h)
theorem q_max {idx : Nat} {x y : Int32} (hi : pLook M.2.2.2.2 pc = some (.invokestatic idx, 3)) (h1 : Cond.methodLink M.1.cls idx Lib.Math.max.name ∈ pGood) (hd : 1 ≤ d) (hcat : (st.map fun v => v.category).sum ≤ 8) (k : pV M d n0 X sh P (pc + 3) L (.int (if x < y then y else x) :: st) S) : pV M d n0 X sh P pc L (.int y :: .int x :: st) S := pr_max hi h1 st_J9_max_7cf53 in_J9 co_Math_max hd ⟨Nat.le_refl _, Nat.le_refl _⟩ hcat k
theorem q_min {idx : Nat} {x y : Int32} (hi : pLook M.2.2.2.2 pc = some (.invokestatic idx, 3)) (h1 : Cond.methodLink M.1.cls idx Lib.Math.min.name ∈ pGood) (hd : 1 ≤ d) (hcat : (st.map fun v => v.category).sum ≤ 8) (k : pV M d n0 X sh P (pc + 3) L (.int (if y < x then y else x) :: st) S) : pV M d n0 X sh P pc L (.int y :: .int x :: st) S := pr_min hi h1 st_J9_min_7cf53 in_J9 co_Math_min hd ⟨Nat.le_refl _, Nat.le_refl _⟩ hcat k
theorem q_post {P2 : Option Value → PSt → Prop} (hq : ∀ r T, P2 r T → P r T) (k : pV M d n0 X sh P2 pc L st S) : pV M d n0 X sh P pc L st S := pr_post (fun r sh2 T h => ⟨h.1, hq r T h.2⟩) k
end PSH
end
section
/-! helpers of the class: written by wip/whole/gen/c10.py -/
/-- the place i is one of n -/
def pIn (i : Int32) (n : Nat) : Prop := 0 ≤ i.toInt ∧ i.toInt < n
theorem pIn_vp {i : Int32} {n : Nat} (h : pIn i n) : vp_in i n := vp_in_iff.mpr h

theorem i_nlt0 {x : Int32} (h : ¬ x < 0) : 0 ≤ x.toInt := by
  rw [Int32.lt_iff_toInt_lt, Int32.toInt_zero] at h; omega
theorem i_lt0 {x : Int32} (h : x < 0) : x.toInt < 0 := by
  rw [Int32.lt_iff_toInt_lt, Int32.toInt_zero] at h; omega
theorem i_nge {x : Int32} {n : Nat} (hn : n < 2 ^ 31) (h : ¬ Int32.ofNat n ≤ x) : x.toInt < n := by
  rw [Int32.le_iff_toInt_le, show (Int32.ofNat n).toInt = (n : Int) from nI_toInt hn] at h; omega
theorem i_ge {x : Int32} {n : Nat} (hn : n < 2 ^ 31) (h : Int32.ofNat n ≤ x) : (n : Int) ≤ x.toInt := by
  rw [Int32.le_iff_toInt_le, show (Int32.ofNat n).toInt = (n : Int) from nI_toInt hn] at h; omega
theorem q_S {M : PM} {d n0 : Nat} {X : Nat × (Nat → Int32)} {sh : List PSh} {P : Option Value → PSt → Prop} {pc : Nat} {L : PL} {st : List Value} {S S2 : PSt} (h : S = S2) (k : pV M d n0 X sh P pc L st S2) : pV M d n0 X sh P pc L st S := by subst h; exact k
theorem q_st {M : PM} {d n0 : Nat} {X : Nat × (Nat → Int32)} {sh : List PSh} {P : Option Value → PSt → Prop} {pc : Nat} {L : PL} {st st2 : List Value} {S : PSt} (h : st = st2) (k : pV M d n0 X sh P pc L st2 S) : pV M d n0 X sh P pc L st S := by subst h; exact k
theorem q_L {M : PM} {d n0 : Nat} {X : Nat × (Nat → Int32)} {sh : List PSh} {P : Option Value → PSt → Prop} {pc : Nat} {L L2 : PL} {st : List Value} {S : PSt} (h : L = L2) (k : pV M d n0 X sh P pc L2 st S) : pV M d n0 X sh P pc L st S := by subst h; exact k
/-- a place read as a number: the index if it is one of n, else n (no place) -/
def rd {α : Type} (z : α) (f : Nat → α) (n : Nat) (i : Int32) : α := if 0 ≤ i.toInt ∧ i.toInt < n then f i.toNatClampNeg else z
/-- a place written -/
def wrI (S : PSt) (a n : Nat) (i x : Int32) : PSt := if 0 ≤ i.toInt ∧ i.toInt < n then pSI S a i.toNatClampNeg x else S
def wrF (S : PSt) (a n : Nat) (i : Int32) (x : UInt32) : PSt := if 0 ≤ i.toInt ∧ i.toInt < n then pSF S a i.toNatClampNeg x else S
def wrJ (S : PSt) (a n : Nat) (i : Int32) (x : Int64) : PSt := if 0 ≤ i.toInt ∧ i.toInt < n then pSJ S a i.toNatClampNeg x else S
theorem rd_in {α : Type} {z : α} {f : Nat → α} {n : Nat} {i : Int32} (h1 : ¬ i < 0) (h2 : i.toInt < n) : f i.toNatClampNeg = rd z f n i := by rw [rd, if_pos ⟨i_nlt0 h1, h2⟩]
theorem rd_lo {α : Type} {z : α} {f : Nat → α} {n : Nat} {i : Int32} (h1 : i < 0) : z = rd z f n i := by rw [rd, if_neg (fun q => by have := i_lt0 h1; omega)]
theorem rd_hi {α : Type} {z : α} {f : Nat → α} {n : Nat} {i : Int32} (h1 : (n : Int) ≤ i.toInt) : z = rd z f n i := by rw [rd, if_neg (fun q => by omega)]
theorem vp_of {i : Int32} {n : Nat} (h1 : ¬ i < 0) (h2 : i.toInt < n) : vp_in i n := vp_in_iff.mpr ⟨i_nlt0 h1, h2⟩
/-- 1 or 0 -/
def pB (c : Bool) : Int32 := if c then 1 else 0
theorem pB_n (c : Bool) : vp_nar .boolean (pB c) = pB c := by cases c <;> decide
theorem pB_nar (c : Bool) : narrow .boolean (.int (pB c)) = .int (pB c) := by cases c <;> rfl
theorem pB_fit (c : Bool) : fits .boolean (.int (pB c)) = true := by cases c <;> rfl
theorem pB_0 (c : Bool) : pB c = 0 ↔ c = false := by cases c <;> decide
theorem pB_t {c : Bool} (h : ¬ pB c = 0) : c = true := by cases c; exact absurd rfl h; rfl
theorem pB_f {c : Bool} (h : pB c = 0) : c = false := by cases c; rfl; exact absurd h (by decide)

set_option maxRecDepth 100000 in
theorem sp_X8_readInt {sh : List PSh} {S : PSt} {a n : Nat} {i : Int32} (hs : sh[a]? = some (.inl (0, n))) (hn : n < 2 ^ 31) : pF mX8_readInt 0 [.ref a, .int i] sh S S (some (.int (rd 0 (S.1 a) n i))) := by
  refine pF.of (pG.of [some (.ref a), some (.int i)] (by decide) tk_X8_readInt (Nat.le_of_ble_eq_true rfl) rfl (fun X => ?_))
  refine q_aload_n (pc := 0) (j := 0) rfl rfl ?_
  refine q_ifnull (pc := 1) rfl ?_
  refine q_iload_n (pc := 4) (j := 1) rfl rfl ?_
  refine q_if_lt (pc := 5) 20 rfl (by decide) (fun h5 => ?_) (fun h5 => ?_)
  · refine q_iconst (pc := 20) 0 rfl (by decide) ?_
    exact q_iret (pc := 21) rfl rfl ⟨congrArg (fun v => some (Value.int v)) (by first | exact rd_in h5 (i_nge hn h11) | exact rd_lo h5 | exact rd_hi (i_ge hn h11)), rfl⟩
  · refine q_iload_n (pc := 8) (j := 1) rfl rfl ?_
    refine q_aload_n (pc := 9) (j := 0) rfl rfl ?_
    refine q_alen (pc := 10) (a := a) (Int32.ofNat n) rfl hs (by decide) rfl ?_
    refine q_icmp_ge (pc := 11) 20 rfl (by decide) (fun h11 => ?_) (fun h11 => ?_)
    · refine q_iconst (pc := 20) 0 rfl (by decide) ?_
      exact q_iret (pc := 21) rfl rfl ⟨congrArg (fun v => some (Value.int v)) (by first | exact rd_in h5 (i_nge hn h11) | exact rd_lo h5 | exact rd_hi (i_ge hn h11)), rfl⟩
    · refine q_aload_n (pc := 14) (j := 0) rfl rfl ?_
      refine q_iload_n (pc := 15) (j := 1) rfl rfl ?_
      refine q_iald (pc := 16) (a := a) i.toNatClampNeg rfl hs (vp_of h5 (i_nge hn h11)) rfl ?_
      refine q_goto (pc := 17) 21 rfl (by decide) ?_
      exact q_iret (pc := 21) rfl rfl ⟨congrArg (fun v => some (Value.int v)) (by first | exact rd_in h5 (i_nge hn h11) | exact rd_lo h5 | exact rd_hi (i_ge hn h11)), rfl⟩
set_option maxRecDepth 100000 in
theorem sp_X8_readFloat {sh : List PSh} {S : PSt} {a n : Nat} {i : Int32} (hs : sh[a]? = some (.inl (1, n))) (hn : n < 2 ^ 31) : pF mX8_readFloat 0 [.ref a, .int i] sh S S (some (.float (rd FP.fconst0 (S.2.1 a) n i))) := by
  refine pF.of (pG.of [some (.ref a), some (.int i)] (by decide) tk_X8_readFloat (Nat.le_of_ble_eq_true rfl) rfl (fun X => ?_))
  refine q_aload_n (pc := 0) (j := 0) rfl rfl ?_
  refine q_ifnull (pc := 1) rfl ?_
  refine q_iload_n (pc := 4) (j := 1) rfl rfl ?_
  refine q_if_lt (pc := 5) 20 rfl (by decide) (fun h5 => ?_) (fun h5 => ?_)
  · refine q_fconst0 (pc := 20) rfl ?_
    exact q_fret (pc := 21) rfl rfl ⟨congrArg (fun v => some (Value.float v)) (by first | exact rd_in h5 (i_nge hn h11) | exact rd_lo h5 | exact rd_hi (i_ge hn h11)), rfl⟩
  · refine q_iload_n (pc := 8) (j := 1) rfl rfl ?_
    refine q_aload_n (pc := 9) (j := 0) rfl rfl ?_
    refine q_alen (pc := 10) (a := a) (Int32.ofNat n) rfl hs (by decide) rfl ?_
    refine q_icmp_ge (pc := 11) 20 rfl (by decide) (fun h11 => ?_) (fun h11 => ?_)
    · refine q_fconst0 (pc := 20) rfl ?_
      exact q_fret (pc := 21) rfl rfl ⟨congrArg (fun v => some (Value.float v)) (by first | exact rd_in h5 (i_nge hn h11) | exact rd_lo h5 | exact rd_hi (i_ge hn h11)), rfl⟩
    · refine q_aload_n (pc := 14) (j := 0) rfl rfl ?_
      refine q_iload_n (pc := 15) (j := 1) rfl rfl ?_
      refine q_fald (pc := 16) (a := a) i.toNatClampNeg rfl hs (vp_of h5 (i_nge hn h11)) rfl ?_
      refine q_goto (pc := 17) 21 rfl (by decide) ?_
      exact q_fret (pc := 21) rfl rfl ⟨congrArg (fun v => some (Value.float v)) (by first | exact rd_in h5 (i_nge hn h11) | exact rd_lo h5 | exact rd_hi (i_ge hn h11)), rfl⟩
set_option maxRecDepth 100000 in
theorem sp_X8_readLong {sh : List PSh} {S : PSt} {a n : Nat} {i : Int32} (hs : sh[a]? = some (.inl (3, n))) (hn : n < 2 ^ 31) : pF mX8_readLong 0 [.ref a, .int i] sh S S (some (.long (rd 0 (S.2.2.1 a) n i))) := by
  refine pF.of (pG.of [some (.ref a), some (.int i)] (by decide) tk_X8_readLong (Nat.le_of_ble_eq_true rfl) rfl (fun X => ?_))
  refine q_aload_n (pc := 0) (j := 0) rfl rfl ?_
  refine q_ifnull (pc := 1) rfl ?_
  refine q_iload_n (pc := 4) (j := 1) rfl rfl ?_
  refine q_if_lt (pc := 5) 20 rfl (by decide) (fun h5 => ?_) (fun h5 => ?_)
  · refine q_lconst (pc := 20) 0 rfl (by decide) ?_
    exact q_lret (pc := 21) rfl rfl ⟨congrArg (fun v => some (Value.long v)) (by first | exact rd_in h5 (i_nge hn h11) | exact rd_lo h5 | exact rd_hi (i_ge hn h11)), rfl⟩
  · refine q_iload_n (pc := 8) (j := 1) rfl rfl ?_
    refine q_aload_n (pc := 9) (j := 0) rfl rfl ?_
    refine q_alen (pc := 10) (a := a) (Int32.ofNat n) rfl hs (by decide) rfl ?_
    refine q_icmp_ge (pc := 11) 20 rfl (by decide) (fun h11 => ?_) (fun h11 => ?_)
    · refine q_lconst (pc := 20) 0 rfl (by decide) ?_
      exact q_lret (pc := 21) rfl rfl ⟨congrArg (fun v => some (Value.long v)) (by first | exact rd_in h5 (i_nge hn h11) | exact rd_lo h5 | exact rd_hi (i_ge hn h11)), rfl⟩
    · refine q_aload_n (pc := 14) (j := 0) rfl rfl ?_
      refine q_iload_n (pc := 15) (j := 1) rfl rfl ?_
      refine q_lald (pc := 16) (a := a) i.toNatClampNeg rfl hs (vp_of h5 (i_nge hn h11)) rfl ?_
      refine q_goto (pc := 17) 21 rfl (by decide) ?_
      exact q_lret (pc := 21) rfl rfl ⟨congrArg (fun v => some (Value.long v)) (by first | exact rd_in h5 (i_nge hn h11) | exact rd_lo h5 | exact rd_hi (i_ge hn h11)), rfl⟩
theorem rd_inR {j : Nat} {X : Nat × (Nat → Int32)} {i : Int32} (h1 : ¬ i < 0) (h2 : i.toInt < (pRoC X j).1) : (pRoC X j).2 i.toNatClampNeg = rd 0 (pRoC X j).2 (pRoC X j).1 i := rd_in h1 h2
def pLeast (w : Int32) : Int32 := rd 0 (fun k => ([0, 1, -12, 1, 0] : List Int32).getD k 0) 5 w
def pMost (w : Int32) : Int32 := rd 0 (fun k => ([2, 64, 20, 12, 9] : List Int32).getD k 0) 5 w
/-- v is from l to m -/
def pWi (v l m : Int32) : Bool := decide (l.toInt ≤ v.toInt ∧ v.toInt ≤ m.toInt)
theorem pWi_lo {v l m : Int32} (h : v < l) : 0 = pB (pWi v l m) := by
  rw [Int32.lt_iff_toInt_lt] at h
  have : pWi v l m = false := decide_eq_false (fun q => by omega)
  rw [this]; rfl
theorem pWi_hi {v l m : Int32} (h : m < v) : 0 = pB (pWi v l m) := by
  rw [Int32.lt_iff_toInt_lt] at h
  have : pWi v l m = false := decide_eq_false (fun q => by omega)
  rw [this]; rfl
theorem pWi_in {v l m : Int32} (h : ¬ v < l) (h2 : ¬ m < v) : 1 = pB (pWi v l m) := by
  rw [Int32.lt_iff_toInt_lt] at h h2
  have : pWi v l m = true := decide_eq_true (by omega)
  rw [this]; rfl
def pAl (w v : Int32) : Bool := pWi v (pLeast w) (pMost w)
theorem wrI_in {S : PSt} {a n : Nat} {i x : Int32} (h1 : ¬ i < 0) (h2 : i.toInt < n) : pSI S a i.toNatClampNeg x = wrI S a n i x := by rw [wrI, if_pos ⟨i_nlt0 h1, h2⟩]
theorem wrI_lo {S : PSt} {a n : Nat} {i x : Int32} (h1 : i < 0) : S = wrI S a n i x := by rw [wrI, if_neg (fun q => by have := i_lt0 h1; omega)]
theorem wrI_hi {S : PSt} {a n : Nat} {i x : Int32} (h1 : (n : Int) ≤ i.toInt) : S = wrI S a n i x := by rw [wrI, if_neg (fun q => by omega)]
theorem wrF_in {S : PSt} {a n : Nat} {i : Int32} {x : UInt32} (h1 : ¬ i < 0) (h2 : i.toInt < n) : pSF S a i.toNatClampNeg x = wrF S a n i x := by rw [wrF, if_pos ⟨i_nlt0 h1, h2⟩]
theorem wrF_lo {S : PSt} {a n : Nat} {i : Int32} {x : UInt32} (h1 : i < 0) : S = wrF S a n i x := by rw [wrF, if_neg (fun q => by have := i_lt0 h1; omega)]
theorem wrF_hi {S : PSt} {a n : Nat} {i : Int32} {x : UInt32} (h1 : (n : Int) ≤ i.toInt) : S = wrF S a n i x := by rw [wrF, if_neg (fun q => by omega)]
theorem wrJ_in {S : PSt} {a n : Nat} {i : Int32} {x : Int64} (h1 : ¬ i < 0) (h2 : i.toInt < n) : pSJ S a i.toNatClampNeg x = wrJ S a n i x := by rw [wrJ, if_pos ⟨i_nlt0 h1, h2⟩]
theorem wrJ_lo {S : PSt} {a n : Nat} {i : Int32} {x : Int64} (h1 : i < 0) : S = wrJ S a n i x := by rw [wrJ, if_neg (fun q => by have := i_lt0 h1; omega)]
theorem wrJ_hi {S : PSt} {a n : Nat} {i : Int32} {x : Int64} (h1 : (n : Int) ≤ i.toInt) : S = wrJ S a n i x := by rw [wrJ, if_neg (fun q => by omega)]
/-- a flag read -/
def rdB (S : PSt) (a n : Nat) (i : Int32) : Bool := decide (rd 0 (S.1 a) n i ≠ 0)
theorem rdB_lo {S : PSt} {a n : Nat} {i : Int32} (h : i < 0) : 0 = pB (rdB S a n i) := by rw [rdB, ← rd_lo h]; rfl
theorem rdB_hi {S : PSt} {a n : Nat} {i : Int32} (h : (n : Int) ≤ i.toInt) : 0 = pB (rdB S a n i) := by rw [rdB, ← rd_hi h]; rfl
theorem rdB_0 {S : PSt} {a n : Nat} {i : Int32} (h1 : ¬ i < 0) (h2 : i.toInt < n) (h : S.1 a i.toNatClampNeg = 0) : 0 = pB (rdB S a n i) := by
  rw [rdB, ← rd_in h1 h2, h]; rfl
theorem rdB_1 {S : PSt} {a n : Nat} {i : Int32} (h1 : ¬ i < 0) (h2 : i.toInt < n) (h : ¬ S.1 a i.toNatClampNeg = 0) : 1 = pB (rdB S a n i) := by
  rw [rdB, ← rd_in h1 h2, decide_eq_true h]; rfl
/-- the first k ints of b are those of a -/
def cpI (S : PSt) (a b k : Nat) : PSt := (fun c j => if c = b ∧ j < k then S.1 a j else S.1 c j, S.2)
theorem cpI_0 (S : PSt) (a b : Nat) : cpI S a b 0 = S := by simp [cpI]
theorem cpI_s {S : PSt} {a b k : Nat} (h : a ≠ b) : pSI (cpI S a b k) b k ((cpI S a b k).1 a k) = cpI S a b (k + 1) := by
  unfold pSI cpI pU
  congr 1
  funext c j
  by_cases hc : c = b
  · subst hc
    by_cases hj : j = k
    · subst hj; simp [h]
    · by_cases hj2 : j < k
      · simp [hj, hj2, Nat.lt_succ_of_lt hj2]
      · have : ¬ j < k + 1 := by omega
        simp [hj, hj2, this]
  · simp [hc]
set_option maxRecDepth 100000 in
theorem sp_readInt_LEAST {sh : List PSh} {S : PSt} {i : Int32} : pF mX8_readInt 0 [.ref 1001, .int i] sh S S (some (.int (pLeast i))) := by
  refine pF.of (pG.of [some (.ref 1001), some (.int i)] (by decide) tk_X8_readInt (Nat.le_of_ble_eq_true rfl) rfl (fun X => ?_))
  refine q_aload_n (pc := 0) (j := 0) rfl rfl ?_
  refine q_ifnull (pc := 1) rfl ?_
  refine q_iload_n (pc := 4) (j := 1) rfl rfl ?_
  refine q_if_lt (pc := 5) 20 rfl (by decide) (fun h5 => ?_) (fun h5 => ?_)
  · refine q_iconst (pc := 20) 0 rfl (by decide) ?_
    exact q_iret (pc := 21) rfl rfl ⟨congrArg (fun v => some (Value.int v)) (by first | exact rd_in h5 (i_nge (n := 5) (by decide) h11) | exact rd_lo h5 | exact rd_hi (i_ge (n := 5) (by decide) h11)), rfl⟩
  · refine q_iload_n (pc := 8) (j := 1) rfl rfl ?_
    refine q_aload_n (pc := 9) (j := 0) rfl rfl ?_
    refine q_alenR (pc := 10) 1 (by decide) rfl ?_
    refine q_icmp_ge (pc := 11) 20 rfl (by decide) (fun h11 => ?_) (fun h11 => ?_)
    · refine q_iconst (pc := 20) 0 rfl (by decide) ?_
      exact q_iret (pc := 21) rfl rfl ⟨congrArg (fun v => some (Value.int v)) (by first | exact rd_in h5 (i_nge (n := 5) (by decide) h11) | exact rd_lo h5 | exact rd_hi (i_ge (n := 5) (by decide) h11)), rfl⟩
    · refine q_aload_n (pc := 14) (j := 0) rfl rfl ?_
      refine q_iload_n (pc := 15) (j := 1) rfl rfl ?_
      refine q_ialdR (pc := 16) 1 _ (by decide) rfl (vp_of h5 (i_nge (n := 5) (by decide) h11)) rfl ?_
      refine q_goto (pc := 17) 21 rfl (by decide) ?_
      exact q_iret (pc := 21) rfl rfl ⟨congrArg (fun v => some (Value.int v)) (by first | exact rd_in h5 (i_nge (n := 5) (by decide) h11) | exact rd_lo h5 | exact rd_hi (i_ge (n := 5) (by decide) h11)), rfl⟩
set_option maxRecDepth 100000 in
theorem sp_readInt_MOST {sh : List PSh} {S : PSt} {i : Int32} : pF mX8_readInt 0 [.ref 1002, .int i] sh S S (some (.int (pMost i))) := by
  refine pF.of (pG.of [some (.ref 1002), some (.int i)] (by decide) tk_X8_readInt (Nat.le_of_ble_eq_true rfl) rfl (fun X => ?_))
  refine q_aload_n (pc := 0) (j := 0) rfl rfl ?_
  refine q_ifnull (pc := 1) rfl ?_
  refine q_iload_n (pc := 4) (j := 1) rfl rfl ?_
  refine q_if_lt (pc := 5) 20 rfl (by decide) (fun h5 => ?_) (fun h5 => ?_)
  · refine q_iconst (pc := 20) 0 rfl (by decide) ?_
    exact q_iret (pc := 21) rfl rfl ⟨congrArg (fun v => some (Value.int v)) (by first | exact rd_in h5 (i_nge (n := 5) (by decide) h11) | exact rd_lo h5 | exact rd_hi (i_ge (n := 5) (by decide) h11)), rfl⟩
  · refine q_iload_n (pc := 8) (j := 1) rfl rfl ?_
    refine q_aload_n (pc := 9) (j := 0) rfl rfl ?_
    refine q_alenR (pc := 10) 2 (by decide) rfl ?_
    refine q_icmp_ge (pc := 11) 20 rfl (by decide) (fun h11 => ?_) (fun h11 => ?_)
    · refine q_iconst (pc := 20) 0 rfl (by decide) ?_
      exact q_iret (pc := 21) rfl rfl ⟨congrArg (fun v => some (Value.int v)) (by first | exact rd_in h5 (i_nge (n := 5) (by decide) h11) | exact rd_lo h5 | exact rd_hi (i_ge (n := 5) (by decide) h11)), rfl⟩
    · refine q_aload_n (pc := 14) (j := 0) rfl rfl ?_
      refine q_iload_n (pc := 15) (j := 1) rfl rfl ?_
      refine q_ialdR (pc := 16) 2 _ (by decide) rfl (vp_of h5 (i_nge (n := 5) (by decide) h11)) rfl ?_
      refine q_goto (pc := 17) 21 rfl (by decide) ?_
      exact q_iret (pc := 21) rfl rfl ⟨congrArg (fun v => some (Value.int v)) (by first | exact rd_in h5 (i_nge (n := 5) (by decide) h11) | exact rd_lo h5 | exact rd_hi (i_ge (n := 5) (by decide) h11)), rfl⟩
set_option maxRecDepth 100000 in
theorem sp_X8_writeInt {sh : List PSh} {S : PSt} {a n : Nat} {i : Int32} {x : Int32} (hs : sh[a]? = some (.inl (0, n))) (hn : n < 2 ^ 31) : pF mX8_writeInt 0 [.ref a, .int i, .int x] sh S (wrI S a n i x) (none) := by
  refine pF.of (pG.of [some (.ref a), some (.int i), some (.int x)] (by decide) tk_X8_writeInt (Nat.le_of_ble_eq_true rfl) rfl (fun X => ?_))
  refine q_aload_n (pc := 0) (j := 0) rfl rfl ?_
  refine q_ifnull (pc := 1) rfl ?_
  refine q_iload_n (pc := 4) (j := 1) rfl rfl ?_
  refine q_if_lt (pc := 5) 18 rfl (by decide) (fun h5 => ?_) (fun h5 => ?_)
  · exact q_vret (pc := 18) rfl rfl ⟨rfl, by first | exact wrI_in h5 (i_nge hn h11) | exact wrI_lo h5 | exact wrI_hi (i_ge hn h11)⟩
  · refine q_iload_n (pc := 8) (j := 1) rfl rfl ?_
    refine q_aload_n (pc := 9) (j := 0) rfl rfl ?_
    refine q_alen (pc := 10) (a := a) (Int32.ofNat n) rfl hs (by decide) rfl ?_
    refine q_icmp_ge (pc := 11) 18 rfl (by decide) (fun h11 => ?_) (fun h11 => ?_)
    · exact q_vret (pc := 18) rfl rfl ⟨rfl, by first | exact wrI_in h5 (i_nge hn h11) | exact wrI_lo h5 | exact wrI_hi (i_ge hn h11)⟩
    · refine q_aload_n (pc := 14) (j := 0) rfl rfl ?_
      refine q_iload_n (pc := 15) (j := 1) rfl rfl ?_
      refine q_iload_n (pc := 16) (j := 2) rfl rfl ?_
      refine q_iast (pc := 17) (a := a) i.toNatClampNeg rfl hs (vp_of h5 (i_nge hn h11)) rfl ?_
      exact q_vret (pc := 18) rfl rfl ⟨rfl, by first | exact wrI_in h5 (i_nge hn h11) | exact wrI_lo h5 | exact wrI_hi (i_ge hn h11)⟩
set_option maxRecDepth 100000 in
theorem sp_X8_writeFloat {sh : List PSh} {S : PSt} {a n : Nat} {i : Int32} {x : UInt32} (hs : sh[a]? = some (.inl (1, n))) (hn : n < 2 ^ 31) : pF mX8_writeFloat 0 [.ref a, .int i, .float x] sh S (wrF S a n i x) (none) := by
  refine pF.of (pG.of [some (.ref a), some (.int i), some (.float x)] (by decide) tk_X8_writeFloat (Nat.le_of_ble_eq_true rfl) rfl (fun X => ?_))
  refine q_aload_n (pc := 0) (j := 0) rfl rfl ?_
  refine q_ifnull (pc := 1) rfl ?_
  refine q_iload_n (pc := 4) (j := 1) rfl rfl ?_
  refine q_if_lt (pc := 5) 18 rfl (by decide) (fun h5 => ?_) (fun h5 => ?_)
  · exact q_vret (pc := 18) rfl rfl ⟨rfl, by first | exact wrF_in h5 (i_nge hn h11) | exact wrF_lo h5 | exact wrF_hi (i_ge hn h11)⟩
  · refine q_iload_n (pc := 8) (j := 1) rfl rfl ?_
    refine q_aload_n (pc := 9) (j := 0) rfl rfl ?_
    refine q_alen (pc := 10) (a := a) (Int32.ofNat n) rfl hs (by decide) rfl ?_
    refine q_icmp_ge (pc := 11) 18 rfl (by decide) (fun h11 => ?_) (fun h11 => ?_)
    · exact q_vret (pc := 18) rfl rfl ⟨rfl, by first | exact wrF_in h5 (i_nge hn h11) | exact wrF_lo h5 | exact wrF_hi (i_ge hn h11)⟩
    · refine q_aload_n (pc := 14) (j := 0) rfl rfl ?_
      refine q_iload_n (pc := 15) (j := 1) rfl rfl ?_
      refine q_fload_n (pc := 16) (j := 2) rfl rfl ?_
      refine q_fast (pc := 17) (a := a) i.toNatClampNeg rfl hs (vp_of h5 (i_nge hn h11)) rfl ?_
      exact q_vret (pc := 18) rfl rfl ⟨rfl, by first | exact wrF_in h5 (i_nge hn h11) | exact wrF_lo h5 | exact wrF_hi (i_ge hn h11)⟩
set_option maxRecDepth 100000 in
theorem sp_X8_writeLong {sh : List PSh} {S : PSt} {a n : Nat} {i : Int32} {x : Int64} (hs : sh[a]? = some (.inl (3, n))) (hn : n < 2 ^ 31) : pF mX8_writeLong 0 [.ref a, .int i, .long x] sh S (wrJ S a n i x) (none) := by
  refine pF.of (pG.of [some (.ref a), some (.int i), some (.long x), none] (by decide) tk_X8_writeLong (Nat.le_of_ble_eq_true rfl) rfl (fun X => ?_))
  refine q_aload_n (pc := 0) (j := 0) rfl rfl ?_
  refine q_ifnull (pc := 1) rfl ?_
  refine q_iload_n (pc := 4) (j := 1) rfl rfl ?_
  refine q_if_lt (pc := 5) 18 rfl (by decide) (fun h5 => ?_) (fun h5 => ?_)
  · exact q_vret (pc := 18) rfl rfl ⟨rfl, by first | exact wrJ_in h5 (i_nge hn h11) | exact wrJ_lo h5 | exact wrJ_hi (i_ge hn h11)⟩
  · refine q_iload_n (pc := 8) (j := 1) rfl rfl ?_
    refine q_aload_n (pc := 9) (j := 0) rfl rfl ?_
    refine q_alen (pc := 10) (a := a) (Int32.ofNat n) rfl hs (by decide) rfl ?_
    refine q_icmp_ge (pc := 11) 18 rfl (by decide) (fun h11 => ?_) (fun h11 => ?_)
    · exact q_vret (pc := 18) rfl rfl ⟨rfl, by first | exact wrJ_in h5 (i_nge hn h11) | exact wrJ_lo h5 | exact wrJ_hi (i_ge hn h11)⟩
    · refine q_aload_n (pc := 14) (j := 0) rfl rfl ?_
      refine q_iload_n (pc := 15) (j := 1) rfl rfl ?_
      refine q_lload_n (pc := 16) (j := 2) rfl rfl ?_
      refine q_last (pc := 17) (a := a) i.toNatClampNeg rfl hs (vp_of h5 (i_nge hn h11)) rfl ?_
      exact q_vret (pc := 18) rfl rfl ⟨rfl, by first | exact wrJ_in h5 (i_nge hn h11) | exact wrJ_lo h5 | exact wrJ_hi (i_ge hn h11)⟩
set_option maxRecDepth 100000 in
theorem sp_X8_writeFlag {sh : List PSh} {S : PSt} {a n : Nat} {i : Int32} {x : Int32} (hs : sh[a]? = some (.inl (2, n))) (hn : n < 2 ^ 31) (hx : vp_nar .boolean x = x) : pF mX8_writeFlag 0 [.ref a, .int i, .int x] sh S (wrI S a n i x) (none) := by
  refine pF.of (pG.of [some (.ref a), some (.int i), some (.int x)] (by decide) tk_X8_writeFlag (Nat.le_of_ble_eq_true rfl) rfl (fun X => ?_))
  refine q_aload_n (pc := 0) (j := 0) rfl rfl ?_
  refine q_ifnull (pc := 1) rfl ?_
  refine q_iload_n (pc := 4) (j := 1) rfl rfl ?_
  refine q_if_lt (pc := 5) 18 rfl (by decide) (fun h5 => ?_) (fun h5 => ?_)
  · exact q_vret (pc := 18) rfl rfl ⟨rfl, by first | exact wrI_in h5 (i_nge hn h11) | exact wrI_lo h5 | exact wrI_hi (i_ge hn h11)⟩
  · refine q_iload_n (pc := 8) (j := 1) rfl rfl ?_
    refine q_aload_n (pc := 9) (j := 0) rfl rfl ?_
    refine q_alen (pc := 10) (a := a) (Int32.ofNat n) rfl hs (by decide) rfl ?_
    refine q_icmp_ge (pc := 11) 18 rfl (by decide) (fun h11 => ?_) (fun h11 => ?_)
    · exact q_vret (pc := 18) rfl rfl ⟨rfl, by first | exact wrI_in h5 (i_nge hn h11) | exact wrI_lo h5 | exact wrI_hi (i_ge hn h11)⟩
    · refine q_aload_n (pc := 14) (j := 0) rfl rfl ?_
      refine q_iload_n (pc := 15) (j := 1) rfl rfl ?_
      refine q_iload_n (pc := 16) (j := 2) rfl rfl ?_
      refine q_zast (pc := 17) (a := a) i.toNatClampNeg rfl hs (vp_of h5 (i_nge hn h11)) hx rfl ?_
      exact q_vret (pc := 18) rfl rfl ⟨rfl, by first | exact wrI_in h5 (i_nge hn h11) | exact wrI_lo h5 | exact wrI_hi (i_ge hn h11)⟩
set_option maxRecDepth 100000 in
theorem sp_X8_readFlag {sh : List PSh} {S : PSt} {a n : Nat} {i : Int32} (hs : sh[a]? = some (.inl (2, n))) (hn : n < 2 ^ 31) : pF mX8_readFlag 0 [.ref a, .int i] sh S S (some (.int (pB (rdB S a n i)))) := by
  refine pF.of (pG.of [some (.ref a), some (.int i)] (by decide) tk_X8_readFlag (Nat.le_of_ble_eq_true rfl) rfl (fun X => ?_))
  refine q_aload_n (pc := 0) (j := 0) rfl rfl ?_
  refine q_ifnull (pc := 1) rfl ?_
  refine q_iload_n (pc := 4) (j := 1) rfl rfl ?_
  refine q_if_lt (pc := 5) 24 rfl (by decide) (fun h5 => ?_) (fun h5 => ?_)
  · refine q_iconst (pc := 24) 0 rfl (by decide) ?_
    exact q_zret (pc := 25) rfl rfl rfl ⟨congrArg (fun v => some (Value.int v)) (by first | exact rdB_lo h5 | exact rdB_hi (i_ge hn h11) | exact rdB_0 h5 (i_nge hn h11) h17 | exact rdB_1 h5 (i_nge hn h11) h17), rfl⟩
  · refine q_iload_n (pc := 8) (j := 1) rfl rfl ?_
    refine q_aload_n (pc := 9) (j := 0) rfl rfl ?_
    refine q_alen (pc := 10) (a := a) (Int32.ofNat n) rfl hs (by decide) rfl ?_
    refine q_icmp_ge (pc := 11) 24 rfl (by decide) (fun h11 => ?_) (fun h11 => ?_)
    · refine q_iconst (pc := 24) 0 rfl (by decide) ?_
      exact q_zret (pc := 25) rfl rfl rfl ⟨congrArg (fun v => some (Value.int v)) (by first | exact rdB_lo h5 | exact rdB_hi (i_ge hn h11) | exact rdB_0 h5 (i_nge hn h11) h17 | exact rdB_1 h5 (i_nge hn h11) h17), rfl⟩
    · refine q_aload_n (pc := 14) (j := 0) rfl rfl ?_
      refine q_iload_n (pc := 15) (j := 1) rfl rfl ?_
      refine q_zald (pc := 16) (a := a) i.toNatClampNeg rfl hs (vp_of h5 (i_nge hn h11)) rfl ?_
      refine q_if_eq (pc := 17) 24 rfl (by decide) (fun h17 => ?_) (fun h17 => ?_)
      · refine q_iconst (pc := 24) 0 rfl (by decide) ?_
        exact q_zret (pc := 25) rfl rfl rfl ⟨congrArg (fun v => some (Value.int v)) (by first | exact rdB_lo h5 | exact rdB_hi (i_ge hn h11) | exact rdB_0 h5 (i_nge hn h11) h17 | exact rdB_1 h5 (i_nge hn h11) h17), rfl⟩
      · refine q_iconst (pc := 20) 1 rfl (by decide) ?_
        refine q_goto (pc := 21) 25 rfl (by decide) ?_
        exact q_zret (pc := 25) rfl rfl rfl ⟨congrArg (fun v => some (Value.int v)) (by first | exact rdB_lo h5 | exact rdB_hi (i_ge hn h11) | exact rdB_0 h5 (i_nge hn h11) h17 | exact rdB_1 h5 (i_nge hn h11) h17), rfl⟩
set_option maxRecDepth 100000 in
theorem sp_X8_isWithin {sh : List PSh} {S : PSt} {v l m : Int32} : pF mX8_isWithin 0 [.int v, .int l, .int m] sh S S (some (.int (pB (pWi v l m)))) := by
  refine pF.of (pG.of [some (.int v), some (.int l), some (.int m)] (by decide) tk_X8_isWithin (Nat.le_of_ble_eq_true rfl) rfl (fun X => ?_))
  refine q_iload_n (pc := 0) (j := 0) rfl rfl ?_
  refine q_iload_n (pc := 1) (j := 1) rfl rfl ?_
  refine q_icmp_lt (pc := 2) 14 rfl (by decide) (fun h2 => ?_) (fun h2 => ?_)
  · refine q_iconst (pc := 14) 0 rfl (by decide) ?_
    exact q_zret (pc := 15) rfl rfl rfl ⟨congrArg (fun v => some (Value.int v)) (by first | exact pWi_lo h2 | exact pWi_hi h7 | exact pWi_in h2 h7), rfl⟩
  · refine q_iload_n (pc := 5) (j := 0) rfl rfl ?_
    refine q_iload_n (pc := 6) (j := 2) rfl rfl ?_
    refine q_icmp_gt (pc := 7) 14 rfl (by decide) (fun h7 => ?_) (fun h7 => ?_)
    · refine q_iconst (pc := 14) 0 rfl (by decide) ?_
      exact q_zret (pc := 15) rfl rfl rfl ⟨congrArg (fun v => some (Value.int v)) (by first | exact pWi_lo h2 | exact pWi_hi h7 | exact pWi_in h2 h7), rfl⟩
    · refine q_iconst (pc := 10) 1 rfl (by decide) ?_
      refine q_goto (pc := 11) 15 rfl (by decide) ?_
      exact q_zret (pc := 15) rfl rfl rfl ⟨congrArg (fun v => some (Value.int v)) (by first | exact pWi_lo h2 | exact pWi_hi h7 | exact pWi_in h2 h7), rfl⟩
set_option maxRecDepth 100000 in
theorem sp_X8_isAllowed {sh : List PSh} {S : PSt} {w v : Int32} : pF mX8_isAllowed 1 [.int w, .int v] sh S S (some (.int (pB (pAl w v)))) := by
  refine pF.of (pG.of [some (.int w), some (.int v)] (by decide) tk_X8_isAllowed (Nat.le_of_ble_eq_true rfl) rfl (fun X => ?_))
  refine q_iload_n (pc := 0) (j := 1) rfl rfl ?_
  refine q_getsLEAST (pc := 1) rfl fl_X8_355 ?_
  refine q_iload_n (pc := 4) (j := 0) rfl rfl ?_
  refine q_callS (pc := 5) (as := [.ref 1001, .int w]) (rest := [.int v]) (st2 := [.int (pLeast w), .int v]) rfl ce_X8_readInt ml_X8_324 st_X8_readInt rfl (by decide) (Nat.le_of_ble_eq_true rfl) (sp_readInt_LEAST) rfl ?_
  refine q_getsMOST (pc := 8) rfl fl_X8_358 ?_
  refine q_iload_n (pc := 11) (j := 0) rfl rfl ?_
  refine q_callS (pc := 12) (as := [.ref 1002, .int w]) (rest := [.int (pLeast w), .int v]) (st2 := [.int (pMost w), .int (pLeast w), .int v]) rfl ce_X8_readInt ml_X8_324 st_X8_readInt rfl (by decide) (Nat.le_of_ble_eq_true rfl) (sp_readInt_MOST) rfl ?_
  refine q_callS (pc := 15) (as := [.int v, .int (pLeast w), .int (pMost w)]) (rest := []) (st2 := [.int (pB (pWi v (pLeast w) (pMost w)))]) rfl ce_X8_isWithin ml_X8_101 st_X8_isWithin rfl (by decide) (Nat.le_of_ble_eq_true rfl) (sp_X8_isWithin) rfl ?_
  exact q_zret (pc := 18) rfl rfl (pB_nar _) ⟨rfl, rfl⟩
set_option maxRecDepth 100000 in
theorem sp_X8_isHeight {sh : List PSh} {S : PSt} {v : Int32} : pF mX8_isHeight 1 [.int v] sh S S (some (.int (pB (pWi v 0 40)))) := by
  refine pF.of (pG.of [some (.int v)] (by decide) tk_X8_isHeight (Nat.le_of_ble_eq_true rfl) rfl (fun X => ?_))
  refine q_iload_n (pc := 0) (j := 0) rfl rfl ?_
  refine q_iconst (pc := 1) 0 rfl (by decide) ?_
  refine q_bipush (pc := 2) 40 rfl (by decide) ?_
  refine q_callS (pc := 4) (as := [.int v, .int 0, .int 40]) (rest := []) (st2 := [.int (pB (pWi v 0 40))]) rfl ce_X8_isWithin ml_X8_101 st_X8_isWithin rfl (by decide) (Nat.le_of_ble_eq_true rfl) (sp_X8_isWithin) rfl ?_
  exact q_zret (pc := 7) rfl rfl (pB_nar _) ⟨rfl, rfl⟩
set_option maxRecDepth 100000 in
theorem lp_X8_copy {n0 : Nat} {X : Nat × (Nat → Int32)} {P : Option Value → PSt → Prop} {d : Nat} (hd9 : 0 ≤ d) {sh : List PSh} {S : PSt} {a b n : Nat} (ha : sh[a]? = some (.inl (0, n))) (hb : sh[b]? = some (.inl (0, n))) (hab : a ≠ b) (hn : n < 2 ^ 31) (hex : pV mX8_copy d n0 X sh P 35 [some (.ref a), some (.ref b), some (.int (nI n))] [] (cpI S a b n)) : ∀ (m k : Nat), k + m = n → pV mX8_copy d n0 X sh P 11 [some (.ref a), some (.ref b), some (.int (nI k))] [] (cpI S a b k) := by
  intro m
  induction m with
  | zero =>
    intro k hk
    have hk : k = n := by omega
    subst hk
    refine q_iload_n (pc := 11) (j := 2) rfl rfl ?_
    refine q_aload_n (pc := 12) (j := 0) rfl rfl ?_
    refine q_alen (pc := 13) (a := a) (Int32.ofNat k) rfl ha (by decide) rfl ?_
    refine q_icmp_ge (pc := 14) 35 rfl (by decide) (fun _ => hex) (fun h9 => absurd (Int32.le_refl _) h9)
  | succ m ih =>
    intro k hk
    have hk1 : k < n := by omega
    refine q_iload_n (pc := 11) (j := 2) rfl rfl ?_
    refine q_aload_n (pc := 12) (j := 0) rfl rfl ?_
    refine q_alen (pc := 13) (a := a) (Int32.ofNat n) rfl ha (by decide) rfl ?_
    refine q_icmp_ge (pc := 14) 35 rfl (by decide) (fun h9 => absurd h9 (nI_ge hk1 hn)) (fun _ => ?_)
    refine q_iload_n (pc := 17) (j := 2) rfl rfl ?_
    refine q_aload_n (pc := 18) (j := 1) rfl rfl ?_
    refine q_alen (pc := 19) (a := b) (Int32.ofNat n) rfl hb (by decide) rfl ?_
    refine q_icmp_ge (pc := 20) 35 rfl (by decide) (fun h9 => absurd h9 (nI_ge hk1 hn)) (fun _ => ?_)
    refine q_aload_n (pc := 23) (j := 1) rfl rfl ?_
    refine q_iload_n (pc := 24) (j := 2) rfl rfl ?_
    refine q_aload_n (pc := 25) (j := 0) rfl rfl ?_
    refine q_iload_n (pc := 26) (j := 2) rfl rfl ?_
    refine q_iald (pc := 27) (a := a) k rfl ha (vp_in_nI hk1 hn) (nI_clamp (by omega)) ?_
    refine q_iast (pc := 28) (a := b) k rfl hb (vp_in_nI hk1 hn) (nI_clamp (by omega)) ?_
    refine q_iinc (pc := 29) (j := 2) (n := 1) (nI (k + 1)) [some (.ref a), some (.ref b), some (.int (nI (k + 1)))] rfl (by decide) rfl (nI_1 k) rfl ?_
    refine q_goto (pc := 32) 11 rfl (by decide) ?_
    rw [cpI_s hab]; exact ih (k + 1) (by omega)
set_option maxRecDepth 100000 in
theorem sp_X8_copy {sh : List PSh} {S : PSt} {a b n : Nat} (ha : sh[a]? = some (.inl (0, n))) (hb : sh[b]? = some (.inl (0, n))) (hab : a ≠ b) (hn : n < 2 ^ 31) : pF mX8_copy 0 [.ref a, .ref b] sh S (cpI S a b n) (none) := by
  refine pF.of (pG.of [some (.ref a), some (.ref b), none] (by decide) tk_X8_copy (Nat.le_of_ble_eq_true rfl) rfl (fun X => ?_))
  refine q_aload_n (pc := 0) (j := 0) rfl rfl ?_
  refine q_ifnull (pc := 1) rfl ?_
  refine q_aload_n (pc := 4) (j := 1) rfl rfl ?_
  refine q_ifnonnull (pc := 5) 9 rfl (by decide) ?_
  refine q_iconst (pc := 9) 0 rfl (by decide) ?_
  refine q_istore_n (pc := 10) (j := 2) [some (.ref a), some (.ref b), some (.int 0)] rfl (by decide) rfl ?_
  refine q_S (cpI_0 S a b).symm (lp_X8_copy (Nat.zero_le _) ha hb hab hn ?_ n 0 (Nat.zero_add n))
  exact q_vret (pc := 35) rfl rfl ⟨rfl, rfl⟩
end
section
/-! Signs: written by wip/whole/gen/c11.py -/
theorem q_join {M : PM} {d n0 : Nat} {X : Nat × (Nat → Int32)} {sh : List PSh} {P : Option Value → PSt → Prop} {pc : Nat} {L : PL} {st : List Value} {S : PSt} (pc2 : Nat) (L2 : PL) (st2 : List Value) (S2 : PSt) (k : pV M d n0 X sh P pc2 L2 st2 S2) (f : pV M d n0 X sh P pc2 L2 st2 S2 → pV M d n0 X sh P pc L st S) : pV M d n0 X sh P pc L st S := f k
/-- the Signs at the cell r -/
def isSg (sh : List PSh) (r : Nat) : Prop := sh[r]? = some (.inr (3, [r + 1 + 3])) ∧ sh[r + 1]? = some (.inl (0, 180))
theorem sg_ix {c w : Nat} : nI c * 5 + nI w = nI (5 * c + w) := by
  rw [show (5 : Int32) = nI 5 from rfl, pk_mul, nI_add, Nat.mul_comm]
/-- the parts of a sign, the first k of five, are those of another -/
def cpS (S : PSt) (a c b q k : Nat) : PSt := (fun x j => if x = a ∧ 5 * c ≤ j ∧ j < 5 * c + k then S.1 b (5 * q + (j - 5 * c)) else S.1 x j, S.2)
theorem cpS_0 (S : PSt) (a c b q : Nat) : cpS S a c b q 0 = S := by
  unfold cpS
  have : (fun x j => if x = a ∧ 5 * c ≤ j ∧ j < 5 * c + 0 then S.1 b (5 * q + (j - 5 * c)) else S.1 x j) = S.1 := by
    funext x j
    rw [if_neg (by omega)]
  rw [this]
theorem cpS_s {S : PSt} {a c b q k : Nat} (h : b ≠ a) : pSI (cpS S a c b q k) a (5 * c + k) ((cpS S a c b q k).1 b (5 * q + k)) = cpS S a c b q (k + 1) := by
  unfold pSI cpS pU
  congr 1
  funext x j
  by_cases hx : x = a
  · subst hx
    by_cases hj : j = 5 * c + k
    · subst hj
      have e : 5 * c + k - 5 * c = k := by omega
      simp [h, e]
    · by_cases hj2 : 5 * c ≤ j ∧ j < 5 * c + k
      · have : 5 * c ≤ j ∧ j < 5 * c + (k + 1) := by omega
        simp [hj, hj2, this]
      · have : ¬ (5 * c ≤ j ∧ j < 5 * c + (k + 1)) := by omega
        simp [hj, hj2, this]
  · simp [hx]
def ly5 (S : PSt) (a c : Nat) (x0 x1 x2 x3 x4 : Int32) : PSt := pSI (pSI (pSI (pSI (pSI S a (5 * c) x0) a (5 * c + 1) x1) a (5 * c + 2) x2) a (5 * c + 3) x3) a (5 * c + 4) x4
def topV (k s a : Int32) : Int32 := if k = 0 then (if s < 0 then s + 7 else s + 1) + a else if k = 1 then 3 + a else 4 + a
def botV (k s : Int32) : Int32 := if k = 0 then (if s < 0 then s - 1 else s - 7) else if k = 1 then -3 else -4
theorem lk_out2 {x : Int32} {dflt : Int} {o1 o2 : Int} (h0 : ¬ x = 0) (h1 : ¬ x = 1) : Op.lookupswitch.offset [(0, o1), (1, o2)] dflt x.toInt = dflt := by
  have a0 : x.toInt ≠ 0 := fun q => h0 (Int32.toInt_inj.mp (by rw [q]; rfl))
  have a1 : x.toInt ≠ 1 := fun q => h1 (Int32.toInt_inj.mp (by rw [q]; rfl))
  simp [Op.lookupswitch.offset, a0.symm, a1.symm, a0, a1]

set_option maxRecDepth 100000 in
theorem sp_X4_part {sh : List PSh} {S : PSt} {r : Nat} (hs : isSg sh r) {c w : Nat} (hc : c < 36) (hw : w < 5) : pF mX4_part 0 [.ref r, .int (nI c), .int (nI w)] sh S S (some (.int (S.1 (r + 1) (5 * c + w)))) := by
  have hx1 : ¬ nI w < 0 := nI_pos (by omega)
  have hx2 : ¬ (5 : Int32) ≤ nI w := nI_ge hw (by decide)
  have hx3 : ¬ nI (5 * c + w) < 0 := nI_pos (by omega)
  have hx4 : ¬ (180 : Int32) ≤ nI (5 * c + w) := nI_ge (b := 180) (by omega) (by decide)
  have hx5 : vp_in (nI (5 * c + w)) 180 := vp_in_nI (by omega) (by decide)
  have hx6 : (nI (5 * c + w)).toNatClampNeg = 5 * c + w := nI_clamp (by omega)
  refine pF.of (pG.of [some (.ref r), some (.int (nI c)), some (.int (nI w)), none] (by decide) tk_X4_part (Nat.le_of_ble_eq_true rfl) rfl (fun X => ?_))
  refine q_iload_n (pc := 0) (j := 1) rfl rfl ?_
  refine q_iconst (pc := 1) 5 rfl (by decide) ?_
  refine q_imul (pc := 2) rfl ?_
  refine q_iload_n (pc := 3) (j := 2) rfl rfl ?_
  refine q_iadd (pc := 4) rfl ?_
  refine q_st (st2 := [.int (nI (5 * c + w))]) (by rw [sg_ix]) ?_
  refine q_istore_n (pc := 5) (j := 3) [some (.ref r), some (.int (nI c)), some (.int (nI w)), some (.int (nI (5 * c + w)))] rfl (by decide) rfl ?_
  refine q_iload_n (pc := 6) (j := 2) rfl rfl ?_
  refine q_if_lt (pc := 7) 37 rfl (by decide) (fun h9 => absurd h9 hx1) (fun _ => ?_)
  refine q_iload_n (pc := 10) (j := 2) rfl rfl ?_
  refine q_iconst (pc := 11) 5 rfl (by decide) ?_
  refine q_icmp_ge (pc := 12) 37 rfl (by decide) (fun h9 => absurd h9 hx2) (fun _ => ?_)
  refine q_iload_n (pc := 15) (j := 3) rfl rfl ?_
  refine q_if_lt (pc := 16) 37 rfl (by decide) (fun h9 => absurd h9 hx3) (fun _ => ?_)
  refine q_iload_n (pc := 19) (j := 3) rfl rfl ?_
  refine q_aload_n (pc := 20) (j := 0) rfl rfl ?_
  refine q_get (pc := 21) (a := r) (v := .ref (r + 1)) rfl fl_X4_9 hs.1 rfl rfl ?_
  refine q_alen (pc := 24) (a := (r + 1)) 180 rfl hs.2 (by decide) (by decide) ?_
  refine q_icmp_ge (pc := 25) 37 rfl (by decide) (fun h9 => absurd h9 hx4) (fun _ => ?_)
  refine q_aload_n (pc := 28) (j := 0) rfl rfl ?_
  refine q_get (pc := 29) (a := r) (v := .ref (r + 1)) rfl fl_X4_9 hs.1 rfl rfl ?_
  refine q_iload_n (pc := 32) (j := 3) rfl rfl ?_
  refine q_iald (pc := 33) (a := (r + 1)) (5 * c + w) rfl hs.2 hx5 hx6 ?_
  refine q_goto (pc := 34) 38 rfl (by decide) ?_
  exact q_iret (pc := 38) rfl rfl ⟨rfl, rfl⟩
set_option maxRecDepth 100000 in
theorem sp_X4_change {sh : List PSh} {S : PSt} {r : Nat} (hs : isSg sh r) {c w : Nat} {v : Int32} (hc : c < 36) (hw : w < 5) : pF mX4_change 0 [.ref r, .int (nI c), .int (nI w), .int v] sh S (pSI S (r + 1) (5 * c + w) v) (none) := by
  have hx1 : ¬ nI w < 0 := nI_pos (by omega)
  have hx2 : ¬ (5 : Int32) ≤ nI w := nI_ge hw (by decide)
  have hx3 : ¬ nI (5 * c + w) < 0 := nI_pos (by omega)
  have hx4 : ¬ (180 : Int32) ≤ nI (5 * c + w) := nI_ge (b := 180) (by omega) (by decide)
  have hx5 : vp_in (nI (5 * c + w)) 180 := vp_in_nI (by omega) (by decide)
  have hx6 : (nI (5 * c + w)).toNatClampNeg = 5 * c + w := nI_clamp (by omega)
  refine pF.of (pG.of [some (.ref r), some (.int (nI c)), some (.int (nI w)), some (.int v), none] (by decide) tk_X4_change (Nat.le_of_ble_eq_true rfl) rfl (fun X => ?_))
  refine q_iload_n (pc := 0) (j := 1) rfl rfl ?_
  refine q_iconst (pc := 1) 5 rfl (by decide) ?_
  refine q_imul (pc := 2) rfl ?_
  refine q_iload_n (pc := 3) (j := 2) rfl rfl ?_
  refine q_iadd (pc := 4) rfl ?_
  refine q_st (st2 := [.int (nI (5 * c + w))]) (by rw [sg_ix]) ?_
  refine q_istore (pc := 5) (j := 4) [some (.ref r), some (.int (nI c)), some (.int (nI w)), some (.int v), some (.int (nI (5 * c + w)))] rfl (by decide) rfl ?_
  refine q_iload_n (pc := 7) (j := 2) rfl rfl ?_
  refine q_if_lt (pc := 8) 39 rfl (by decide) (fun h9 => absurd h9 hx1) (fun _ => ?_)
  refine q_iload_n (pc := 11) (j := 2) rfl rfl ?_
  refine q_iconst (pc := 12) 5 rfl (by decide) ?_
  refine q_icmp_ge (pc := 13) 39 rfl (by decide) (fun h9 => absurd h9 hx2) (fun _ => ?_)
  refine q_iload (pc := 16) (j := 4) rfl rfl ?_
  refine q_if_lt (pc := 18) 39 rfl (by decide) (fun h9 => absurd h9 hx3) (fun _ => ?_)
  refine q_iload (pc := 21) (j := 4) rfl rfl ?_
  refine q_aload_n (pc := 23) (j := 0) rfl rfl ?_
  refine q_get (pc := 24) (a := r) (v := .ref (r + 1)) rfl fl_X4_9 hs.1 rfl rfl ?_
  refine q_alen (pc := 27) (a := (r + 1)) 180 rfl hs.2 (by decide) (by decide) ?_
  refine q_icmp_ge (pc := 28) 39 rfl (by decide) (fun h9 => absurd h9 hx4) (fun _ => ?_)
  refine q_aload_n (pc := 31) (j := 0) rfl rfl ?_
  refine q_get (pc := 32) (a := r) (v := .ref (r + 1)) rfl fl_X4_9 hs.1 rfl rfl ?_
  refine q_iload (pc := 35) (j := 4) rfl rfl ?_
  refine q_iload_n (pc := 37) (j := 3) rfl rfl ?_
  refine q_iast (pc := 38) (a := (r + 1)) (5 * c + w) rfl hs.2 hx5 hx6 ?_
  exact q_vret (pc := 39) rfl rfl ⟨rfl, rfl⟩
set_option maxRecDepth 100000 in
theorem sp_X4_lay {sh : List PSh} {S : PSt} {r : Nat} (hs : isSg sh r) {c : Nat} {x0 x1 x2 x3 x4 : Int32} (hc : c < 36) : pF mX4_lay 1 [.ref r, .int (nI c), .int x0, .int x1, .int x2, .int x3, .int x4] sh S (ly5 S (r + 1) c x0 x1 x2 x3 x4) (none) := by
  refine pF.of (pG.of [some (.ref r), some (.int (nI c)), some (.int x0), some (.int x1), some (.int x2), some (.int x3), some (.int x4)] (by decide) tk_X4_lay (Nat.le_of_ble_eq_true rfl) rfl (fun X => ?_))
  refine q_aload_n (pc := 0) (j := 0) rfl rfl ?_
  refine q_iload_n (pc := 1) (j := 1) rfl rfl ?_
  refine q_iconst (pc := 2) 0 rfl (by decide) ?_
  refine q_iload_n (pc := 3) (j := 2) rfl rfl ?_
  refine q_callV (pc := 4) (as := [.int (nI c), .int 0, .int x0]) (rest := []) (b := r) (st2 := []) rfl ce_X4_change ml_X4_15 im_X4_change se_X4_change hs.1 rfl rfl rfl (by decide) (Nat.le_of_ble_eq_true rfl) (sp_X4_change (c := c) (w := 0) hs (by omega) (by omega)) rfl ?_
  refine q_aload_n (pc := 7) (j := 0) rfl rfl ?_
  refine q_iload_n (pc := 8) (j := 1) rfl rfl ?_
  refine q_iconst (pc := 9) 1 rfl (by decide) ?_
  refine q_iload_n (pc := 10) (j := 3) rfl rfl ?_
  refine q_callV (pc := 11) (as := [.int (nI c), .int 1, .int x1]) (rest := []) (b := r) (st2 := []) rfl ce_X4_change ml_X4_15 im_X4_change se_X4_change hs.1 rfl rfl rfl (by decide) (Nat.le_of_ble_eq_true rfl) (sp_X4_change (c := c) (w := 1) hs (by omega) (by omega)) rfl ?_
  refine q_aload_n (pc := 14) (j := 0) rfl rfl ?_
  refine q_iload_n (pc := 15) (j := 1) rfl rfl ?_
  refine q_iconst (pc := 16) 2 rfl (by decide) ?_
  refine q_iload (pc := 17) (j := 4) rfl rfl ?_
  refine q_callV (pc := 19) (as := [.int (nI c), .int 2, .int x2]) (rest := []) (b := r) (st2 := []) rfl ce_X4_change ml_X4_15 im_X4_change se_X4_change hs.1 rfl rfl rfl (by decide) (Nat.le_of_ble_eq_true rfl) (sp_X4_change (c := c) (w := 2) hs (by omega) (by omega)) rfl ?_
  refine q_aload_n (pc := 22) (j := 0) rfl rfl ?_
  refine q_iload_n (pc := 23) (j := 1) rfl rfl ?_
  refine q_iconst (pc := 24) 3 rfl (by decide) ?_
  refine q_iload (pc := 25) (j := 5) rfl rfl ?_
  refine q_callV (pc := 27) (as := [.int (nI c), .int 3, .int x3]) (rest := []) (b := r) (st2 := []) rfl ce_X4_change ml_X4_15 im_X4_change se_X4_change hs.1 rfl rfl rfl (by decide) (Nat.le_of_ble_eq_true rfl) (sp_X4_change (c := c) (w := 3) hs (by omega) (by omega)) rfl ?_
  refine q_aload_n (pc := 30) (j := 0) rfl rfl ?_
  refine q_iload_n (pc := 31) (j := 1) rfl rfl ?_
  refine q_iconst (pc := 32) 4 rfl (by decide) ?_
  refine q_iload (pc := 33) (j := 6) rfl rfl ?_
  refine q_callV (pc := 35) (as := [.int (nI c), .int 4, .int x4]) (rest := []) (b := r) (st2 := []) rfl ce_X4_change ml_X4_15 im_X4_change se_X4_change hs.1 rfl rfl rfl (by decide) (Nat.le_of_ble_eq_true rfl) (sp_X4_change (c := c) (w := 4) hs (by omega) (by omega)) rfl ?_
  exact q_vret (pc := 38) rfl rfl ⟨rfl, rfl⟩
set_option maxRecDepth 100000 in
theorem sp_X4_clear {sh : List PSh} {S : PSt} {r : Nat} (hs : isSg sh r) {c : Nat} (hc : c < 36) : pF mX4_clear 2 [.ref r, .int (nI c)] sh S (ly5 S (r + 1) c (-1) 0 0 0 0) (none) := by
  refine pF.of (pG.of [some (.ref r), some (.int (nI c))] (by decide) tk_X4_clear (Nat.le_of_ble_eq_true rfl) rfl (fun X => ?_))
  refine q_aload_n (pc := 0) (j := 0) rfl rfl ?_
  refine q_iload_n (pc := 1) (j := 1) rfl rfl ?_
  refine q_iconst (pc := 2) (-1) rfl (by decide) ?_
  refine q_iconst (pc := 3) 0 rfl (by decide) ?_
  refine q_iconst (pc := 4) 0 rfl (by decide) ?_
  refine q_iconst (pc := 5) 0 rfl (by decide) ?_
  refine q_iconst (pc := 6) 0 rfl (by decide) ?_
  refine q_callV (pc := 7) (as := [.int (nI c), .int (-1), .int 0, .int 0, .int 0, .int 0]) (rest := []) (b := r) (st2 := []) rfl ce_X4_lay ml_X4_19 im_X4_lay se_X4_lay hs.1 rfl rfl rfl (by decide) (Nat.le_of_ble_eq_true rfl) (sp_X4_lay (c := c) hs (by omega)) rfl ?_
  exact q_vret (pc := 10) rfl rfl ⟨rfl, rfl⟩
set_option maxRecDepth 100000 in
theorem sp_X4_isMissing {sh : List PSh} {S : PSt} {r : Nat} (hs : isSg sh r) {c : Nat} (hc : c < 36) : pF mX4_isMissing 1 [.ref r, .int (nI c)] sh S S (some (.int (pB (decide (S.1 (r + 1) (5 * c) = -1))))) := by
  refine pF.of (pG.of [some (.ref r), some (.int (nI c))] (by decide) tk_X4_isMissing (Nat.le_of_ble_eq_true rfl) rfl (fun X => ?_))
  refine q_aload_n (pc := 0) (j := 0) rfl rfl ?_
  refine q_iload_n (pc := 1) (j := 1) rfl rfl ?_
  refine q_iconst (pc := 2) 0 rfl (by decide) ?_
  refine q_callV (pc := 3) (as := [.int (nI c), .int 0]) (rest := []) (b := r) (st2 := [.int (S.1 (r + 1) (5 * c + 0))]) rfl ce_X4_part ml_X4_23 im_X4_part se_X4_part hs.1 rfl rfl rfl (by decide) (Nat.le_of_ble_eq_true rfl) (sp_X4_part (c := c) (w := 0) hs (by omega) (by omega)) rfl ?_
  refine q_iconst (pc := 6) (-1) rfl (by decide) ?_
  refine q_icmp_ne (pc := 7) 14 rfl (by decide) (fun h7 => ?_) (fun h7 => ?_)
  · refine q_iconst (pc := 14) 0 rfl (by decide) ?_
    exact q_zret (pc := 15) rfl rfl rfl ⟨congrArg (fun v => some (Value.int v)) (by simp [pB] at *; simp [*]), rfl⟩
  · refine q_iconst (pc := 10) 1 rfl (by decide) ?_
    refine q_goto (pc := 11) 15 rfl (by decide) ?_
    exact q_zret (pc := 15) rfl rfl rfl ⟨congrArg (fun v => some (Value.int v)) (by simp [pB] at *; simp [*]), rfl⟩
set_option maxRecDepth 100000 in
theorem lp_X4_copySign {n0 : Nat} {X : Nat × (Nat → Int32)} {P : Option Value → PSt → Prop} {d : Nat} (hd9 : 1 ≤ d) {sh : List PSh} {S : PSt} {r : Nat} (hs : isSg sh r) {c b q : Nat} (hb : isSg sh b) (hc : c < 36) (hq : q < 36) (hbr : b ≠ r) (hex : pV mX4_copySign d n0 X sh P 34 [some (.ref r), some (.int (nI c)), some (.ref b), some (.int (nI q)), some (.int (nI 5))] [] (cpS S (r + 1) c (b + 1) q 5)) : ∀ (m k : Nat), k + m = 5 → pV mX4_copySign d n0 X sh P 8 [some (.ref r), some (.int (nI c)), some (.ref b), some (.int (nI q)), some (.int (nI k))] [] (cpS S (r + 1) c (b + 1) q k) := by
  intro m
  induction m with
  | zero =>
    intro k hk
    have hk : k = 5 := by omega
    subst hk
    refine q_iload (pc := 8) (j := 4) rfl rfl ?_
    refine q_iconst (pc := 10) 5 rfl (by decide) ?_
    exact q_icmp_ge (pc := 11) 34 rfl (by decide) (fun _ => hex) (fun h9 => absurd (Int32.le_refl _) h9)
  | succ m ih =>
    intro k hk
    have hk1 : k < 5 := by omega
    refine q_iload (pc := 8) (j := 4) rfl rfl ?_
    refine q_iconst (pc := 10) 5 rfl (by decide) ?_
    refine q_icmp_ge (pc := 11) 34 rfl (by decide) (fun h9 => absurd h9 (nI_ge (b := 5) hk1 (by decide))) (fun _ => ?_)
    refine q_aload_n (pc := 14) (j := 0) rfl rfl ?_
    refine q_iload_n (pc := 15) (j := 1) rfl rfl ?_
    refine q_iload (pc := 16) (j := 4) rfl rfl ?_
    refine q_aload_n (pc := 18) (j := 2) rfl rfl ?_
    refine q_iload_n (pc := 19) (j := 3) rfl rfl ?_
    refine q_iload (pc := 20) (j := 4) rfl rfl ?_
    refine q_callV (pc := 22) (as := [.int (nI q), .int (nI k)]) (rest := [.int (nI k), .int (nI c), .ref r]) (b := b) (st2 := [.int ((cpS S (r + 1) c (b + 1) q k).1 (b + 1) (5 * q + k)), .int (nI k), .int (nI c), .ref r]) rfl ce_X4_part ml_X4_23 im_X4_part se_X4_part hb.1 rfl rfl rfl (by omega) (Nat.le_of_ble_eq_true rfl) (sp_X4_part (c := q) (w := k) hb (by omega) (by omega)) rfl ?_
    refine q_callV (pc := 25) (as := [.int (nI c), .int (nI k), .int ((cpS S (r + 1) c (b + 1) q k).1 (b + 1) (5 * q + k))]) (rest := []) (b := r) (st2 := []) rfl ce_X4_change ml_X4_15 im_X4_change se_X4_change hs.1 rfl rfl rfl (by omega) (Nat.le_of_ble_eq_true rfl) (sp_X4_change (c := c) (w := k) hs (by omega) (by omega)) rfl ?_
    refine q_iinc (pc := 28) (j := 4) (n := 1) (nI (k + 1)) [some (.ref r), some (.int (nI c)), some (.ref b), some (.int (nI q)), some (.int (nI (k + 1)))] rfl (by decide) rfl (nI_1 k) rfl ?_
    refine q_goto (pc := 31) 8 rfl (by decide) ?_
    exact q_S (cpS_s (by omega)) (ih (k + 1) (by omega))
set_option maxRecDepth 100000 in
theorem sp_X4_copySign {sh : List PSh} {S : PSt} {r : Nat} (hs : isSg sh r) {c b q : Nat} (hb : isSg sh b) (hc : c < 36) (hq : q < 36) (hbr : b ≠ r) : pF mX4_copySign 1 [.ref r, .int (nI c), .ref b, .int (nI q)] sh S (cpS S (r + 1) c (b + 1) q 5) (none) := by
  refine pF.of (pG.of [some (.ref r), some (.int (nI c)), some (.ref b), some (.int (nI q)), none] (by decide) tk_X4_copySign (Nat.le_of_ble_eq_true rfl) rfl (fun X => ?_))
  refine q_aload_n (pc := 0) (j := 2) rfl rfl ?_
  refine q_ifnonnull (pc := 1) 5 rfl (by decide) ?_
  refine q_iconst (pc := 5) 0 rfl (by decide) ?_
  refine q_istore (pc := 6) (j := 4) [some (.ref r), some (.int (nI c)), some (.ref b), some (.int (nI q)), some (.int 0)] rfl (by decide) rfl ?_
  refine q_S (cpS_0 S (r + 1) c (b + 1) q).symm (lp_X4_copySign (Nat.le_refl _) hs hb hc hq hbr ?_ 5 0 rfl)
  exact q_vret (pc := 34) rfl rfl ⟨rfl, rfl⟩
set_option maxRecDepth 100000 in
theorem sp_X4_become {sh : List PSh} {S : PSt} {r : Nat} (hs : isSg sh r) {b : Nat} (hb : isSg sh b) (hbr : b ≠ r) : pF mX4_become 1 [.ref r, .ref b] sh S (cpI S (b + 1) (r + 1) 180) (none) := by
  refine pF.of (pG.of [some (.ref r), some (.ref b)] (by decide) tk_X4_become (Nat.le_of_ble_eq_true rfl) rfl (fun X => ?_))
  refine q_aload_n (pc := 0) (j := 1) rfl rfl ?_
  refine q_ifnull (pc := 1) rfl ?_
  refine q_aload_n (pc := 4) (j := 1) rfl rfl ?_
  refine q_get (pc := 5) (a := b) (v := .ref (b + 1)) rfl fl_X4_9 hb.1 rfl rfl ?_
  refine q_aload_n (pc := 8) (j := 0) rfl rfl ?_
  refine q_get (pc := 9) (a := r) (v := .ref (r + 1)) rfl fl_X4_9 hs.1 rfl rfl ?_
  refine q_callS (pc := 12) (as := [.ref (b + 1), .ref (r + 1)]) (rest := []) (st2 := []) rfl ce_X8_copy ml_X4_27 st_X8_copy rfl (by decide) (Nat.le_of_ble_eq_true rfl) (sp_X8_copy hb.2 hs.2 (by omega) (by decide)) rfl ?_
  exact q_vret (pc := 15) rfl rfl ⟨rfl, rfl⟩
set_option maxRecDepth 100000 in
theorem sp_X4_top {sh : List PSh} {S : PSt} {r : Nat} (hs : isSg sh r) {c : Nat} (hc : c < 36) : pF mX4_top 1 [.ref r, .int (nI c)] sh S S (some (.int (topV (S.1 (r + 1) (5 * c + 0)) (S.1 (r + 1) (5 * c + 2)) (S.1 (r + 1) (5 * c + 4))))) := by
  refine pF.of (pG.of [some (.ref r), some (.int (nI c)), none, none] (by decide) tk_X4_top (Nat.le_of_ble_eq_true rfl) rfl (fun X => ?_))
  refine q_aload_n (pc := 0) (j := 0) rfl rfl ?_
  refine q_iload_n (pc := 1) (j := 1) rfl rfl ?_
  refine q_iconst (pc := 2) 2 rfl (by decide) ?_
  refine q_callV (pc := 3) (as := [.int (nI c), .int 2]) (rest := []) (b := r) (st2 := [.int (S.1 (r + 1) (5 * c + 2))]) rfl ce_X4_part ml_X4_23 im_X4_part se_X4_part hs.1 rfl rfl rfl (by decide) (Nat.le_of_ble_eq_true rfl) (sp_X4_part (c := c) (w := 2) hs (by omega) (by omega)) rfl ?_
  refine q_istore_n (pc := 6) (j := 2) [some (.ref r), some (.int (nI c)), some (.int (S.1 (r + 1) (5 * c + 2))), none] rfl (by decide) rfl ?_
  refine q_aload_n (pc := 7) (j := 0) rfl rfl ?_
  refine q_iload_n (pc := 8) (j := 1) rfl rfl ?_
  refine q_iconst (pc := 9) 4 rfl (by decide) ?_
  refine q_callV (pc := 10) (as := [.int (nI c), .int 4]) (rest := []) (b := r) (st2 := [.int (S.1 (r + 1) (5 * c + 4))]) rfl ce_X4_part ml_X4_23 im_X4_part se_X4_part hs.1 rfl rfl rfl (by decide) (Nat.le_of_ble_eq_true rfl) (sp_X4_part (c := c) (w := 4) hs (by omega) (by omega)) rfl ?_
  refine q_istore_n (pc := 13) (j := 3) [some (.ref r), some (.int (nI c)), some (.int (S.1 (r + 1) (5 * c + 2))), some (.int (S.1 (r + 1) (5 * c + 4)))] rfl (by decide) rfl ?_
  refine q_aload_n (pc := 14) (j := 0) rfl rfl ?_
  refine q_iload_n (pc := 15) (j := 1) rfl rfl ?_
  refine q_iconst (pc := 16) 0 rfl (by decide) ?_
  refine q_callV (pc := 17) (as := [.int (nI c), .int 0]) (rest := []) (b := r) (st2 := [.int (S.1 (r + 1) (5 * c + 0))]) rfl ce_X4_part ml_X4_23 im_X4_part se_X4_part hs.1 rfl rfl rfl (by decide) (Nat.le_of_ble_eq_true rfl) (sp_X4_part (c := c) (w := 0) hs (by omega) (by omega)) rfl ?_
  rcases Classical.em ((S.1 (r + 1) (5 * c + 0)) = (0 : Int32)) with hc20_0 | hc20_0
  · refine q_lookup (pc := 20) (off := 28) 48 rfl (by decide) (by rw [hc20_0]; decide) (by decide) ?_
    refine q_iload_n (pc := 48) (j := 2) rfl rfl ?_
    refine q_if_ge (pc := 49) 59 rfl (by decide) (fun h49 => ?_) (fun h49 => ?_)
    · refine q_iload_n (pc := 59) (j := 2) rfl rfl ?_
      refine q_iconst (pc := 60) 1 rfl (by decide) ?_
      refine q_iadd (pc := 61) rfl ?_
      refine q_iload_n (pc := 62) (j := 3) rfl rfl ?_
      refine q_iadd (pc := 63) rfl ?_
      exact q_iret (pc := 64) rfl rfl ⟨congrArg (fun v => some (Value.int v)) (by first | (rw [topV, if_pos (by assumption), if_pos (by rw [Int32.not_le] at *; assumption)]) | (rw [topV, if_pos (by assumption), if_neg (Int32.not_lt.mpr (by assumption))]) | (rw [topV, if_neg (by assumption), if_pos (by assumption)]) | (rw [topV, if_neg (by assumption), if_neg (by assumption)])), rfl⟩
    · refine q_iload_n (pc := 52) (j := 2) rfl rfl ?_
      refine q_bipush (pc := 53) 7 rfl (by decide) ?_
      refine q_iadd (pc := 55) rfl ?_
      refine q_goto (pc := 56) 62 rfl (by decide) ?_
      refine q_iload_n (pc := 62) (j := 3) rfl rfl ?_
      refine q_iadd (pc := 63) rfl ?_
      exact q_iret (pc := 64) rfl rfl ⟨congrArg (fun v => some (Value.int v)) (by first | (rw [topV, if_pos (by assumption), if_pos (by rw [Int32.not_le] at *; assumption)]) | (rw [topV, if_pos (by assumption), if_neg (Int32.not_lt.mpr (by assumption))]) | (rw [topV, if_neg (by assumption), if_pos (by assumption)]) | (rw [topV, if_neg (by assumption), if_neg (by assumption)])), rfl⟩
  · skip
    rcases Classical.em ((S.1 (r + 1) (5 * c + 0)) = (1 : Int32)) with hc20_1 | hc20_1
    · refine q_lookup (pc := 20) (off := 45) 65 rfl (by decide) (by rw [hc20_1]; decide) (by decide) ?_
      refine q_iconst (pc := 65) 3 rfl (by decide) ?_
      refine q_iload_n (pc := 66) (j := 3) rfl rfl ?_
      refine q_iadd (pc := 67) rfl ?_
      exact q_iret (pc := 68) rfl rfl ⟨congrArg (fun v => some (Value.int v)) (by first | (rw [topV, if_pos (by assumption), if_pos (by rw [Int32.not_le] at *; assumption)]) | (rw [topV, if_pos (by assumption), if_neg (Int32.not_lt.mpr (by assumption))]) | (rw [topV, if_neg (by assumption), if_pos (by assumption)]) | (rw [topV, if_neg (by assumption), if_neg (by assumption)])), rfl⟩
    · skip
      refine q_lookup (pc := 20) (off := 49) 69 rfl (by decide) (lk_out2 hc20_0 hc20_1) (by decide) ?_
      refine q_iconst (pc := 69) 4 rfl (by decide) ?_
      refine q_iload_n (pc := 70) (j := 3) rfl rfl ?_
      refine q_iadd (pc := 71) rfl ?_
      exact q_iret (pc := 72) rfl rfl ⟨congrArg (fun v => some (Value.int v)) (by first | (rw [topV, if_pos (by assumption), if_pos (by rw [Int32.not_le] at *; assumption)]) | (rw [topV, if_pos (by assumption), if_neg (Int32.not_lt.mpr (by assumption))]) | (rw [topV, if_neg (by assumption), if_pos (by assumption)]) | (rw [topV, if_neg (by assumption), if_neg (by assumption)])), rfl⟩
set_option maxRecDepth 100000 in
theorem sp_X4_bottom {sh : List PSh} {S : PSt} {r : Nat} (hs : isSg sh r) {c : Nat} (hc : c < 36) : pF mX4_bottom 1 [.ref r, .int (nI c)] sh S S (some (.int (botV (S.1 (r + 1) (5 * c + 0)) (S.1 (r + 1) (5 * c + 2))))) := by
  refine pF.of (pG.of [some (.ref r), some (.int (nI c)), none] (by decide) tk_X4_bottom (Nat.le_of_ble_eq_true rfl) rfl (fun X => ?_))
  refine q_aload_n (pc := 0) (j := 0) rfl rfl ?_
  refine q_iload_n (pc := 1) (j := 1) rfl rfl ?_
  refine q_iconst (pc := 2) 2 rfl (by decide) ?_
  refine q_callV (pc := 3) (as := [.int (nI c), .int 2]) (rest := []) (b := r) (st2 := [.int (S.1 (r + 1) (5 * c + 2))]) rfl ce_X4_part ml_X4_23 im_X4_part se_X4_part hs.1 rfl rfl rfl (by decide) (Nat.le_of_ble_eq_true rfl) (sp_X4_part (c := c) (w := 2) hs (by omega) (by omega)) rfl ?_
  refine q_istore_n (pc := 6) (j := 2) [some (.ref r), some (.int (nI c)), some (.int (S.1 (r + 1) (5 * c + 2)))] rfl (by decide) rfl ?_
  refine q_aload_n (pc := 7) (j := 0) rfl rfl ?_
  refine q_iload_n (pc := 8) (j := 1) rfl rfl ?_
  refine q_iconst (pc := 9) 0 rfl (by decide) ?_
  refine q_callV (pc := 10) (as := [.int (nI c), .int 0]) (rest := []) (b := r) (st2 := [.int (S.1 (r + 1) (5 * c + 0))]) rfl ce_X4_part ml_X4_23 im_X4_part se_X4_part hs.1 rfl rfl rfl (by decide) (Nat.le_of_ble_eq_true rfl) (sp_X4_part (c := c) (w := 0) hs (by omega) (by omega)) rfl ?_
  rcases Classical.em ((S.1 (r + 1) (5 * c + 0)) = (0 : Int32)) with hc13_0 | hc13_0
  · refine q_lookup (pc := 13) (off := 27) 40 rfl (by decide) (by rw [hc13_0]; decide) (by decide) ?_
    refine q_iload_n (pc := 40) (j := 2) rfl rfl ?_
    refine q_if_ge (pc := 41) 50 rfl (by decide) (fun h41 => ?_) (fun h41 => ?_)
    · refine q_iload_n (pc := 50) (j := 2) rfl rfl ?_
      refine q_bipush (pc := 51) 7 rfl (by decide) ?_
      refine q_isub (pc := 53) rfl ?_
      exact q_iret (pc := 54) rfl rfl ⟨congrArg (fun v => some (Value.int v)) (by first | (rw [botV, if_pos (by assumption), if_pos (Int32.not_le.mp (by assumption))]) | (rw [botV, if_pos (by assumption), if_neg (Int32.not_lt.mpr (by assumption))]) | (rw [botV, if_neg (by assumption), if_pos (by assumption)]) | (rw [botV, if_neg (by assumption), if_neg (by assumption)])), rfl⟩
    · refine q_iload_n (pc := 44) (j := 2) rfl rfl ?_
      refine q_iconst (pc := 45) 1 rfl (by decide) ?_
      refine q_isub (pc := 46) rfl ?_
      refine q_goto (pc := 47) 54 rfl (by decide) ?_
      exact q_iret (pc := 54) rfl rfl ⟨congrArg (fun v => some (Value.int v)) (by first | (rw [botV, if_pos (by assumption), if_pos (Int32.not_le.mp (by assumption))]) | (rw [botV, if_pos (by assumption), if_neg (Int32.not_lt.mpr (by assumption))]) | (rw [botV, if_neg (by assumption), if_pos (by assumption)]) | (rw [botV, if_neg (by assumption), if_neg (by assumption)])), rfl⟩
  · skip
    rcases Classical.em ((S.1 (r + 1) (5 * c + 0)) = (1 : Int32)) with hc13_1 | hc13_1
    · refine q_lookup (pc := 13) (off := 42) 55 rfl (by decide) (by rw [hc13_1]; decide) (by decide) ?_
      refine q_bipush (pc := 55) (-3) rfl (by decide) ?_
      exact q_iret (pc := 57) rfl rfl ⟨congrArg (fun v => some (Value.int v)) (by first | (rw [botV, if_pos (by assumption), if_pos (Int32.not_le.mp (by assumption))]) | (rw [botV, if_pos (by assumption), if_neg (Int32.not_lt.mpr (by assumption))]) | (rw [botV, if_neg (by assumption), if_pos (by assumption)]) | (rw [botV, if_neg (by assumption), if_neg (by assumption)])), rfl⟩
    · skip
      refine q_lookup (pc := 13) (off := 45) 58 rfl (by decide) (lk_out2 hc13_0 hc13_1) (by decide) ?_
      refine q_bipush (pc := 58) (-4) rfl (by decide) ?_
      exact q_iret (pc := 60) rfl rfl ⟨congrArg (fun v => some (Value.int v)) (by first | (rw [botV, if_pos (by assumption), if_pos (Int32.not_le.mp (by assumption))]) | (rw [botV, if_pos (by assumption), if_neg (Int32.not_lt.mpr (by assumption))]) | (rw [botV, if_neg (by assumption), if_pos (by assumption)]) | (rw [botV, if_neg (by assumption), if_neg (by assumption)])), rfl⟩
end
section
/-! springs and rods: written by wip/whole/gen/c12.py -/
/-- the greatest e of 1 to k with 2^e not above d -/
def exI (d : Int32) : Nat → Int32
  | 0 => 0
  | k + 1 => if (1 <<< (nI (k + 1) &&& 31)) ≤ d then nI (k + 1) else exI d k
def idB (d : Int32) : UInt32 := FP.fsub (FP.fdiv (FP.i2f d) (FP.i2f (1 <<< (exI d 6 &&& 31)))) FP.fconst1
/-- IDEAL by kind and duration -/
def idF (k d : Int32) : UInt32 := if k = 2 then 1077936128 else FP.fmul 1086324736 (FP.fadd FP.fconst1 (FP.fmul 1056964608 (FP.fadd (FP.i2f (exI d 6)) (idB d))))
def flF (k : Int32) (x : UInt32) : UInt32 := if k = 2 then 1048576000 else FP.fmul 1056964608 x
def roF (w : Int32) : UInt32 := FP.i2f (w + 1)
/-- a boolean reading of 'no NaN' -/
def nb (r : UInt32) : Bool := decide (r &&& 0x7fffffff ≤ 0x7f800000)
theorem nb_ok {r : UInt32} (h : nb r = true) : vf_n32 r := by
  have h2 : r &&& 0x7fffffff ≤ 0x7f800000 := of_decide_eq_true h
  exact h2
theorem exI_s (d : Int32) (k : Nat) : exI d (k + 1) = if (1 <<< (nI (k + 1) &&& 31)) ≤ d then nI (k + 1) else exI d k := rfl
def idOk (d : Int32) : Bool :=
  nb (FP.fdiv (FP.i2f d) (FP.i2f (1 <<< (exI d 6 &&& 31)))) && nb (idB d) && nb (FP.fadd (FP.i2f (exI d 6)) (idB d)) &&
  nb (FP.fmul 1056964608 (FP.fadd (FP.i2f (exI d 6)) (idB d))) && nb (FP.fadd FP.fconst1 (FP.fmul 1056964608 (FP.fadd (FP.i2f (exI d 6)) (idB d)))) &&
  nb (FP.fmul 1086324736 (FP.fadd FP.fconst1 (FP.fmul 1056964608 (FP.fadd (FP.i2f (exI d 6)) (idB d))))) && nb (FP.fmul 1056964608 (FP.fmul 1086324736 (FP.fadd FP.fconst1 (FP.fmul 1056964608 (FP.fadd (FP.i2f (exI d 6)) (idB d))))))
theorem idOk_all : ∀ k, k < 64 → idOk (nI (k + 1)) = true := by decide +kernel
/-- a duration -/
def isDur (d : Int32) : Prop := ∃ k, k < 64 ∧ d = nI (k + 1)
theorem isDur.ok {d : Int32} (h : isDur d) : idOk d = true := by obtain ⟨k, hk, rfl⟩ := h; exact idOk_all k hk
theorem id_n1 {d : Int32} (h : isDur d) : vf_n32 (FP.fdiv (FP.i2f d) (FP.i2f (1 <<< (exI d 6 &&& 31)))) := by have := h.ok; simp only [idOk, Bool.and_eq_true] at this; exact nb_ok this.1.1.1.1.1.1
theorem id_n2 {d : Int32} (h : isDur d) : vf_n32 (FP.fsub (FP.fdiv (FP.i2f d) (FP.i2f (1 <<< (exI d 6 &&& 31)))) FP.fconst1) := by have := h.ok; simp only [idOk, Bool.and_eq_true] at this; exact nb_ok this.1.1.1.1.1.2
theorem id_n3 {d : Int32} (h : isDur d) : vf_n32 (FP.fadd (FP.i2f (exI d 6)) (idB d)) := by have := h.ok; simp only [idOk, Bool.and_eq_true] at this; exact nb_ok this.1.1.1.1.2
theorem id_n4 {d : Int32} (h : isDur d) : vf_n32 (FP.fmul 1056964608 (FP.fadd (FP.i2f (exI d 6)) (idB d))) := by have := h.ok; simp only [idOk, Bool.and_eq_true] at this; exact nb_ok this.1.1.1.2
theorem id_n5 {d : Int32} (h : isDur d) : vf_n32 (FP.fadd FP.fconst1 (FP.fmul 1056964608 (FP.fadd (FP.i2f (exI d 6)) (idB d)))) := by have := h.ok; simp only [idOk, Bool.and_eq_true] at this; exact nb_ok this.1.1.2
theorem id_n6 {d : Int32} (h : isDur d) : vf_n32 (FP.fmul 1086324736 (FP.fadd FP.fconst1 (FP.fmul 1056964608 (FP.fadd (FP.i2f (exI d 6)) (idB d))))) := by have := h.ok; simp only [idOk, Bool.and_eq_true] at this; exact nb_ok this.1.2
theorem fl_n {k d : Int32} (h : isDur d) (hk : ¬ k = 2) : vf_n32 (FP.fmul 1056964608 (idF k d)) := by have := h.ok; simp only [idOk, Bool.and_eq_true] at this; rw [idF, if_neg hk]; exact nb_ok this.2

set_option maxRecDepth 100000 in
theorem lp_X4_ideal {n0 : Nat} {X : Nat × (Nat → Int32)} {P : Option Value → PSt → Prop} {d : Nat} (hd9 : 0 ≤ d) {sh : List PSh} {S : PSt} {r c : Nat} {d1 : Int32} (hex : pV mX4_ideal d n0 X sh P 49 [some (.ref r), some (.int (nI c)), some (.int d1), some (.int (exI d1 6)), some (.int (nI 7))] [] S) : ∀ (m k : Nat), k + m = 6 → pV mX4_ideal d n0 X sh P 25 [some (.ref r), some (.int (nI c)), some (.int d1), some (.int (exI d1 k)), some (.int (nI (k + 1)))] [] S := by
  intro m
  induction m with
  | zero =>
    intro k hk
    have hk : k = 6 := by omega
    subst hk
    refine q_iload (pc := 25) (j := 4) rfl rfl ?_
    refine q_bipush (pc := 27) 6 rfl (by decide) ?_
    exact q_icmp_gt (pc := 29) 49 rfl (by decide) (fun _ => hex) (fun h9 => absurd (by decide : (6 : Int32) < nI 7) h9)
  | succ m ih =>
    intro k hk
    have hk1 : k < 6 := by omega
    refine q_iload (pc := 25) (j := 4) rfl rfl ?_
    refine q_bipush (pc := 27) 6 rfl (by decide) ?_
    refine q_icmp_gt (pc := 29) 49 rfl (by decide) (fun h9 => absurd h9 (nI_nlt (a := 6) (by omega) (by decide))) (fun _ => ?_)
    refine q_join 43 [some (.ref r), some (.int (nI c)), some (.int d1), some (.int (exI d1 (k + 1))), some (.int (nI (k + 1)))] [] S ?_ (fun key32 => ?_)
    · refine q_iinc (pc := 43) (j := 4) (n := 1) (nI (k + 1 + 1)) [some (.ref r), some (.int (nI c)), some (.int d1), some (.int (exI d1 (k + 1))), some (.int (nI (k + 1 + 1)))] rfl (by decide) rfl (nI_1 (k + 1)) rfl ?_
      refine q_goto (pc := 46) 25 rfl (by decide) ?_
      exact ih (k + 1) (by omega)
    · refine q_iconst (pc := 32) 1 rfl (by decide) ?_
      refine q_iload (pc := 33) (j := 4) rfl rfl ?_
      refine q_ishl (pc := 35) rfl ?_
      refine q_iload_n (pc := 36) (j := 2) rfl rfl ?_
      refine q_icmp_gt (pc := 37) 43 rfl (by decide) (fun h37 => ?_) (fun h37 => ?_)
      · first | exact q_L (by rw [exI_s, if_pos (by rw [Int32.not_lt] at h37; exact h37)]) key32 | exact q_L (by rw [exI_s, if_neg (Int32.not_le.mpr h37)]) key32
      · refine q_iload (pc := 40) (j := 4) rfl rfl ?_
        refine q_istore_n (pc := 42) (j := 3) [some (.ref r), some (.int (nI c)), some (.int d1), some (.int (nI (k + 1))), some (.int (nI (k + 1)))] rfl (by decide) rfl ?_
        first | exact q_L (by rw [exI_s, if_pos (by rw [Int32.not_lt] at h37; exact h37)]) key32 | exact q_L (by rw [exI_s, if_neg (Int32.not_le.mpr h37)]) key32
set_option maxRecDepth 100000 in
theorem sp_X4_ideal {sh : List PSh} {S : PSt} {r : Nat} (hs : isSg sh r) {c : Nat} (hc : c < 36) (hd : ¬ S.1 (r + 1) (5 * c + 0) = 2 → isDur (S.1 (r + 1) (5 * c + 1))) : pF mX4_ideal 1 [.ref r, .int (nI c)] sh S S (some (.float (idF (S.1 (r + 1) (5 * c + 0)) (S.1 (r + 1) (5 * c + 1))))) := by
  refine pF.of (pG.of [some (.ref r), some (.int (nI c)), none, none, none] (by decide) tk_X4_ideal (Nat.le_of_ble_eq_true rfl) rfl (fun X => ?_))
  refine q_aload_n (pc := 0) (j := 0) rfl rfl ?_
  refine q_iload_n (pc := 1) (j := 1) rfl rfl ?_
  refine q_iconst (pc := 2) 0 rfl (by decide) ?_
  refine q_callV (pc := 3) (as := [.int (nI c), .int 0]) (rest := []) (b := r) (st2 := [.int (S.1 (r + 1) (5 * c + 0))]) rfl ce_X4_part ml_X4_23 im_X4_part se_X4_part hs.1 rfl rfl rfl (by decide) (Nat.le_of_ble_eq_true rfl) (sp_X4_part (c := c) (w := 0) hs (by omega) (by omega)) rfl ?_
  refine q_iconst (pc := 6) 2 rfl (by decide) ?_
  refine q_icmp_ne (pc := 7) 13 rfl (by decide) (fun h7 => ?_) (fun h7 => ?_)
  · have hd1 := hd h7
    refine q_aload_n (pc := 13) (j := 0) rfl rfl ?_
    refine q_iload_n (pc := 14) (j := 1) rfl rfl ?_
    refine q_iconst (pc := 15) 1 rfl (by decide) ?_
    refine q_callV (pc := 16) (as := [.int (nI c), .int 1]) (rest := []) (b := r) (st2 := [.int (S.1 (r + 1) (5 * c + 1))]) rfl ce_X4_part ml_X4_23 im_X4_part se_X4_part hs.1 rfl rfl rfl (by decide) (Nat.le_of_ble_eq_true rfl) (sp_X4_part (c := c) (w := 1) hs (by omega) (by omega)) rfl ?_
    refine q_istore_n (pc := 19) (j := 2) [some (.ref r), some (.int (nI c)), some (.int (S.1 (r + 1) (5 * c + 1))), none, none] rfl (by decide) rfl ?_
    refine q_iconst (pc := 20) 0 rfl (by decide) ?_
    refine q_istore_n (pc := 21) (j := 3) [some (.ref r), some (.int (nI c)), some (.int (S.1 (r + 1) (5 * c + 1))), some (.int 0), none] rfl (by decide) rfl ?_
    refine q_iconst (pc := 22) 1 rfl (by decide) ?_
    refine q_istore (pc := 23) (j := 4) [some (.ref r), some (.int (nI c)), some (.int (S.1 (r + 1) (5 * c + 1))), some (.int 0), some (.int 1)] rfl (by decide) rfl ?_
    refine lp_X4_ideal (r := r) (c := c) (d1 := S.1 (r + 1) (5 * c + 1)) (Nat.zero_le _) ?_ 6 0 rfl
    refine q_iload_n (pc := 49) (j := 2) rfl rfl ?_
    refine q_i2f (pc := 50) rfl ?_
    refine q_iconst (pc := 51) 1 rfl (by decide) ?_
    refine q_iload_n (pc := 52) (j := 3) rfl rfl ?_
    refine q_ishl (pc := 53) rfl ?_
    refine q_i2f (pc := 54) rfl ?_
    refine q_fdiv (pc := 55) rfl (id_n1 hd1) ?_
    refine q_fconst1 (pc := 56) rfl ?_
    refine q_fsub (pc := 57) rfl (id_n2 hd1) ?_
    refine q_fstore (pc := 58) (j := 4) [some (.ref r), some (.int (nI c)), some (.int (S.1 (r + 1) (5 * c + 1))), some (.int (exI (S.1 (r + 1) (5 * c + 1)) 6)), some (.float (FP.fsub (FP.fdiv (FP.i2f (S.1 (r + 1) (5 * c + 1))) (FP.i2f (1 <<< ((exI (S.1 (r + 1) (5 * c + 1)) 6) &&& 31)))) FP.fconst1))] rfl (by decide) rfl ?_
    refine q_ldcf (pc := 60) (v := 1086324736) rfl kc_X4_32 ?_
    refine q_fconst1 (pc := 62) rfl ?_
    refine q_ldcf (pc := 63) (v := 1056964608) rfl kc_X4_33 ?_
    refine q_iload_n (pc := 65) (j := 3) rfl rfl ?_
    refine q_i2f (pc := 66) rfl ?_
    refine q_fload (pc := 67) (j := 4) rfl rfl ?_
    refine q_fadd (pc := 69) rfl (id_n3 hd1) ?_
    refine q_fmul (pc := 70) rfl (id_n4 hd1) ?_
    refine q_fadd (pc := 71) rfl (id_n5 hd1) ?_
    refine q_fmul (pc := 72) rfl (id_n6 hd1) ?_
    exact q_fret (pc := 73) rfl rfl ⟨congrArg (fun v => some (Value.float v)) (by first | (rw [idF, if_pos h7]) | (rw [idF, if_neg h7]; rfl)), rfl⟩
  · refine q_ldcf (pc := 10) (v := 1077936128) rfl kc_X4_31 ?_
    exact q_fret (pc := 12) rfl rfl ⟨congrArg (fun v => some (Value.float v)) (by first | (rw [idF, if_pos h7]) | (rw [idF, if_neg h7]; rfl)), rfl⟩
set_option maxRecDepth 100000 in
theorem sp_X4_flex {sh : List PSh} {S : PSt} {r : Nat} (hs : isSg sh r) {c : Nat} {x : UInt32} (hc : c < 36) (hd : ¬ S.1 (r + 1) (5 * c + 0) = 2 → vf_n32 (FP.fmul 1056964608 x)) : pF mX4_flex 1 [.ref r, .int (nI c), .float x] sh S S (some (.float (flF (S.1 (r + 1) (5 * c + 0)) x))) := by
  refine pF.of (pG.of [some (.ref r), some (.int (nI c)), some (.float x)] (by decide) tk_X4_flex (Nat.le_of_ble_eq_true rfl) rfl (fun X => ?_))
  refine q_aload_n (pc := 0) (j := 0) rfl rfl ?_
  refine q_iload_n (pc := 1) (j := 1) rfl rfl ?_
  refine q_iconst (pc := 2) 0 rfl (by decide) ?_
  refine q_callV (pc := 3) (as := [.int (nI c), .int 0]) (rest := []) (b := r) (st2 := [.int (S.1 (r + 1) (5 * c + 0))]) rfl ce_X4_part ml_X4_23 im_X4_part se_X4_part hs.1 rfl rfl rfl (by decide) (Nat.le_of_ble_eq_true rfl) (sp_X4_part (c := c) (w := 0) hs (by omega) (by omega)) rfl ?_
  refine q_iconst (pc := 6) 2 rfl (by decide) ?_
  refine q_icmp_ne (pc := 7) 15 rfl (by decide) (fun h7 => ?_) (fun h7 => ?_)
  · refine q_ldcf (pc := 15) (v := 1056964608) rfl kc_X4_33 ?_
    refine q_fload_n (pc := 17) (j := 2) rfl rfl ?_
    refine q_fmul (pc := 18) rfl (hd h7) ?_
    exact q_fret (pc := 19) rfl rfl ⟨congrArg (fun v => some (Value.float v)) (by first | (rw [flF, if_pos h7]) | (rw [flF, if_neg h7])), rfl⟩
  · refine q_ldcf (pc := 10) (v := 1048576000) rfl kc_X4_34 ?_
    refine q_goto (pc := 12) 19 rfl (by decide) ?_
    exact q_fret (pc := 19) rfl rfl ⟨congrArg (fun v => some (Value.float v)) (by first | (rw [flF, if_pos h7]) | (rw [flF, if_neg h7])), rfl⟩
set_option maxRecDepth 100000 in
theorem sp_X4_rod {sh : List PSh} {S : PSt} {r : Nat} (hs : isSg sh r) {c : Nat} (hc : c < 36) : pF mX4_rod 1 [.ref r, .int (nI c)] sh S S (some (.float (roF (S.1 (r + 1) (5 * c + 3))))) := by
  refine pF.of (pG.of [some (.ref r), some (.int (nI c))] (by decide) tk_X4_rod (Nat.le_of_ble_eq_true rfl) rfl (fun X => ?_))
  refine q_aload_n (pc := 0) (j := 0) rfl rfl ?_
  refine q_iload_n (pc := 1) (j := 1) rfl rfl ?_
  refine q_iconst (pc := 2) 3 rfl (by decide) ?_
  refine q_callV (pc := 3) (as := [.int (nI c), .int 3]) (rest := []) (b := r) (st2 := [.int (S.1 (r + 1) (5 * c + 3))]) rfl ce_X4_part ml_X4_23 im_X4_part se_X4_part hs.1 rfl rfl rfl (by decide) (Nat.le_of_ble_eq_true rfl) (sp_X4_part (c := c) (w := 3) hs (by omega) (by omega)) rfl ?_
  refine q_iconst (pc := 6) 1 rfl (by decide) ?_
  refine q_iadd (pc := 7) rfl ?_
  refine q_i2f (pc := 8) rfl ?_
  exact q_fret (pc := 9) rfl rfl ⟨rfl, rfl⟩
end
section
/-! readers at a known place; Page: written by wip/whole/gen/c13.py -/
theorem rd_nI {α : Type} {z : α} {f : Nat → α} {n k : Nat} (h : k < n) (hn : n < 2 ^ 31) : rd z f n (nI k) = f k := by
  rw [rd, if_pos (by rw [nI_toInt (by omega)]; omega), nI_clamp (by omega)]
theorem wrI_nI {S : PSt} {a n k : Nat} {x : Int32} (h : k < n) (hn : n < 2 ^ 31) : wrI S a n (nI k) x = pSI S a k x := by
  rw [wrI, if_pos (by rw [nI_toInt (by omega)]; omega), nI_clamp (by omega)]
theorem wrF_nI {S : PSt} {a n k : Nat} {x : UInt32} (h : k < n) (hn : n < 2 ^ 31) : wrF S a n (nI k) x = pSF S a k x := by
  rw [wrF, if_pos (by rw [nI_toInt (by omega)]; omega), nI_clamp (by omega)]
theorem wrJ_nI {S : PSt} {a n k : Nat} {x : Int64} (h : k < n) (hn : n < 2 ^ 31) : wrJ S a n (nI k) x = pSJ S a k x := by
  rw [wrJ, if_pos (by rw [nI_toInt (by omega)]; omega), nI_clamp (by omega)]
theorem rdB_nI {S : PSt} {a n k : Nat} (h : k < n) (hn : n < 2 ^ 31) : rdB S a n (nI k) = decide (S.1 a k ≠ 0) := by
  rw [rdB, rd_nI h hn]
theorem sp_readIntN {sh : List PSh} {S : PSt} {a n k : Nat} (hs : sh[a]? = some (.inl (0, n))) (hk : k < n) (hn : n < 2 ^ 31) : pF mX8_readInt 0 [.ref a, .int (nI k)] sh S S (some (.int (S.1 a k))) := by
  have h := sp_X8_readInt (S := S) (i := nI k) hs hn
  rwa [rd_nI hk hn] at h
theorem sp_readFloatN {sh : List PSh} {S : PSt} {a n k : Nat} (hs : sh[a]? = some (.inl (1, n))) (hk : k < n) (hn : n < 2 ^ 31) : pF mX8_readFloat 0 [.ref a, .int (nI k)] sh S S (some (.float (S.2.1 a k))) := by
  have h := sp_X8_readFloat (S := S) (i := nI k) hs hn
  rwa [rd_nI hk hn] at h
theorem sp_readLongN {sh : List PSh} {S : PSt} {a n k : Nat} (hs : sh[a]? = some (.inl (3, n))) (hk : k < n) (hn : n < 2 ^ 31) : pF mX8_readLong 0 [.ref a, .int (nI k)] sh S S (some (.long (S.2.2.1 a k))) := by
  have h := sp_X8_readLong (S := S) (i := nI k) hs hn
  rwa [rd_nI hk hn] at h
theorem sp_readFlagN {sh : List PSh} {S : PSt} {a n k : Nat} (hs : sh[a]? = some (.inl (2, n))) (hk : k < n) (hn : n < 2 ^ 31) : pF mX8_readFlag 0 [.ref a, .int (nI k)] sh S S (some (.int (pB (decide (S.1 a k ≠ 0))))) := by
  have h := sp_X8_readFlag (S := S) (i := nI k) hs hn
  rwa [rdB_nI hk hn] at h
theorem sp_writeIntN {sh : List PSh} {S : PSt} {a n k : Nat} {x : Int32} (hs : sh[a]? = some (.inl (0, n))) (hk : k < n) (hn : n < 2 ^ 31) : pF mX8_writeInt 0 [.ref a, .int (nI k), .int x] sh S (pSI S a k x) none := by
  have h := sp_X8_writeInt (S := S) (i := nI k) (x := x) hs hn
  rwa [wrI_nI hk hn] at h
theorem sp_writeFloatN {sh : List PSh} {S : PSt} {a n k : Nat} {x : UInt32} (hs : sh[a]? = some (.inl (1, n))) (hk : k < n) (hn : n < 2 ^ 31) : pF mX8_writeFloat 0 [.ref a, .int (nI k), .float x] sh S (pSF S a k x) none := by
  have h := sp_X8_writeFloat (S := S) (i := nI k) (x := x) hs hn
  rwa [wrF_nI hk hn] at h
theorem sp_writeLongN {sh : List PSh} {S : PSt} {a n k : Nat} {x : Int64} (hs : sh[a]? = some (.inl (3, n))) (hk : k < n) (hn : n < 2 ^ 31) : pF mX8_writeLong 0 [.ref a, .int (nI k), .long x] sh S (pSJ S a k x) none := by
  have h := sp_X8_writeLong (S := S) (i := nI k) (x := x) hs hn
  rwa [wrJ_nI hk hn] at h
theorem sp_writeFlagN {sh : List PSh} {S : PSt} {a n k : Nat} {x : Int32} (hs : sh[a]? = some (.inl (2, n))) (hk : k < n) (hn : n < 2 ^ 31) (hx : vp_nar .boolean x = x) : pF mX8_writeFlag 0 [.ref a, .int (nI k), .int x] sh S (pSI S a k x) none := by
  have h := sp_X8_writeFlag (S := S) (i := nI k) (x := x) hs hn hx
  rwa [wrI_nI hk hn] at h

/-- the Page at the cell r -/
def isPg (sh : List PSh) (r : Nat) : Prop := sh[r]? = some (.inr (1, [r + 1 + 3, 0, 0, r + 3 + 3, r + 5 + 3, r + 6 + 3])) ∧ isSg sh (r + 1) ∧ isSg sh (r + 3) ∧ sh[r + 5]? = some (.inl (0, 3)) ∧ sh[r + 6]? = some (.inl (0, 3))
theorem pl_ix {s i : Nat} : nI s * 12 + nI i = nI (12 * s + i) := by
  rw [show (12 : Int32) = nI 12 from rfl, pk_mul, nI_add, Nat.mul_comm]
def hasPl (S : PSt) (r s : Nat) (i : Int32) : Bool := decide (S.1 (r + 5) s ≠ -1 ∧ 0 ≤ i.toInt ∧ i.toInt < (S.1 (r + 6) s).toInt)
theorem hasPl_a {S : PSt} {r s : Nat} {i : Int32} (h : S.1 (r + 5) s = -1) : 0 = pB (hasPl S r s i) := by
  rw [hasPl, decide_eq_false (fun q => q.1 h)]; rfl
theorem hasPl_b {S : PSt} {r s : Nat} {i : Int32} (h : i < 0) : 0 = pB (hasPl S r s i) := by
  rw [hasPl, decide_eq_false (fun q => by have := i_lt0 h; omega)]; rfl
theorem hasPl_c {S : PSt} {r s : Nat} {i : Int32} (h : S.1 (r + 6) s ≤ i) : 0 = pB (hasPl S r s i) := by
  rw [Int32.le_iff_toInt_le] at h
  rw [hasPl, decide_eq_false (fun q => by omega)]; rfl
theorem hasPl_d {S : PSt} {r s : Nat} {i : Int32} (h1 : ¬ S.1 (r + 5) s = -1) (h2 : ¬ i < 0) (h3 : ¬ S.1 (r + 6) s ≤ i) : 1 = pB (hasPl S r s i) := by
  rw [Int32.le_iff_toInt_le] at h3
  rw [hasPl, decide_eq_true ⟨h1, i_nlt0 h2, by omega⟩]; rfl
/-- a shelf's kind and size are told, its first k places are empty -/
def clr (S : PSt) (r s : Nat) (x n : Int32) (k : Nat) : PSt := (fun c j => if c = r + 5 ∧ j = s then x else if c = r + 6 ∧ j = s then (if x = -1 then 0 else n) else if c = r + 3 + 1 ∧ 5 * (12 * s) ≤ j ∧ j < 5 * (12 * s + k) then (if (j - 5 * (12 * s)) % 5 = 0 then -1 else 0) else S.1 c j, S.2)
theorem clr_s {S : PSt} {r s : Nat} {x n : Int32} {k : Nat} : ly5 (clr S r s x n k) (r + 3 + 1) (12 * s + k) (-1) 0 0 0 0 = clr S r s x n (k + 1) := by
  unfold ly5 pSI pU clr
  refine Prod.ext (funext fun c => funext fun j => ?_) rfl
  dsimp only
  (repeat' split) <;> first | rfl | (exfalso; omega)
theorem clr_0 {S : PSt} {r s : Nat} {x n : Int32} : pSI (pSI S (r + 5) s x) (r + 6) s (if x = -1 then 0 else n) = clr S r s x n 0 := by
  unfold pSI pU clr
  refine Prod.ext (funext fun c => funext fun j => ?_) rfl
  dsimp only
  (repeat' split) <;> first | rfl | (exfalso; omega)

set_option maxRecDepth 100000 in
theorem sp_X1_place {sh : List PSh} {S : PSt} {s i : Nat} : pF mX1_place 0 [.int (nI s), .int (nI i)] sh S S (some (.int (nI (12 * s + i)))) := by
  refine pF.of (pG.of [some (.int (nI s)), some (.int (nI i))] (by decide) tk_X1_place (Nat.le_of_ble_eq_true rfl) rfl (fun X => ?_))
  refine q_iload_n (pc := 0) (j := 0) rfl rfl ?_
  refine q_bipush (pc := 1) 12 rfl (by decide) ?_
  refine q_imul (pc := 3) rfl ?_
  refine q_iload_n (pc := 4) (j := 1) rfl rfl ?_
  refine q_iadd (pc := 5) rfl ?_
  refine q_st (st2 := [.int (nI (12 * s + i))]) (by rw [pl_ix]) ?_
  exact q_iret (pc := 6) rfl rfl ⟨rfl, rfl⟩
set_option maxRecDepth 100000 in
theorem sp_X1_shelfKind {sh : List PSh} {S : PSt} {r : Nat} (hs : isPg sh r) {s : Nat} (hq : s < 3) : pF mX1_shelfKind 1 [.ref r, .int (nI s)] sh S S (some (.int (S.1 (r + 5) s))) := by
  refine pF.of (pG.of [some (.ref r), some (.int (nI s))] (by decide) tk_X1_shelfKind (Nat.le_of_ble_eq_true rfl) rfl (fun X => ?_))
  refine q_aload_n (pc := 0) (j := 0) rfl rfl ?_
  refine q_get (pc := 1) (a := r) (v := .ref (r + 5)) rfl fl_X1_28 hs.1 rfl rfl ?_
  refine q_iload_n (pc := 4) (j := 1) rfl rfl ?_
  refine q_callS (pc := 5) (as := [.ref (r + 5), .int (nI s)]) (rest := []) (st2 := [.int (S.1 (r + 5) s)]) rfl ce_X8_readInt ml_X1_35 st_X8_readInt rfl (by decide) (Nat.le_of_ble_eq_true rfl) (sp_readIntN (k := s) hs.2.2.2.1 (by omega) (by decide)) rfl ?_
  exact q_iret (pc := 8) rfl rfl ⟨rfl, rfl⟩
set_option maxRecDepth 100000 in
theorem sp_X1_hasPlace {sh : List PSh} {S : PSt} {r : Nat} (hs : isPg sh r) {s : Nat} {i : Int32} (hq : s < 3) : pF mX1_hasPlace 2 [.ref r, .int (nI s), .int i] sh S S (some (.int (pB (hasPl S r s i)))) := by
  refine pF.of (pG.of [some (.ref r), some (.int (nI s)), some (.int i)] (by decide) tk_X1_hasPlace (Nat.le_of_ble_eq_true rfl) rfl (fun X => ?_))
  refine q_aload_n (pc := 0) (j := 0) rfl rfl ?_
  refine q_iload_n (pc := 1) (j := 1) rfl rfl ?_
  refine q_callV (pc := 2) (as := [.int (nI s)]) (rest := []) (b := r) (st2 := [.int (S.1 (r + 5) s)]) rfl ce_X1_shelfKind ml_X1_39 im_X1_shelfKind se_X1_shelfKind hs.1 rfl rfl rfl (by decide) (Nat.le_of_ble_eq_true rfl) (sp_X1_shelfKind (s := s) hs (by omega)) rfl ?_
  refine q_iconst (pc := 5) (-1) rfl (by decide) ?_
  refine q_icmp_eq (pc := 6) 29 rfl (by decide) (fun h6 => ?_) (fun h6 => ?_)
  · refine q_iconst (pc := 29) 0 rfl (by decide) ?_
    exact q_zret (pc := 30) rfl rfl rfl ⟨congrArg (fun v => some (Value.int v)) (by first | exact hasPl_a h6 | exact hasPl_b h10 | exact hasPl_c h22 | exact hasPl_d h6 h10 h22), rfl⟩
  · refine q_iload_n (pc := 9) (j := 2) rfl rfl ?_
    refine q_if_lt (pc := 10) 29 rfl (by decide) (fun h10 => ?_) (fun h10 => ?_)
    · refine q_iconst (pc := 29) 0 rfl (by decide) ?_
      exact q_zret (pc := 30) rfl rfl rfl ⟨congrArg (fun v => some (Value.int v)) (by first | exact hasPl_a h6 | exact hasPl_b h10 | exact hasPl_c h22 | exact hasPl_d h6 h10 h22), rfl⟩
    · refine q_iload_n (pc := 13) (j := 2) rfl rfl ?_
      refine q_aload_n (pc := 14) (j := 0) rfl rfl ?_
      refine q_get (pc := 15) (a := r) (v := .ref (r + 6)) rfl fl_X1_32 hs.1 rfl rfl ?_
      refine q_iload_n (pc := 18) (j := 1) rfl rfl ?_
      refine q_callS (pc := 19) (as := [.ref (r + 6), .int (nI s)]) (rest := [.int i]) (st2 := [.int (S.1 (r + 6) s), .int i]) rfl ce_X8_readInt ml_X1_35 st_X8_readInt rfl (by decide) (Nat.le_of_ble_eq_true rfl) (sp_readIntN (k := s) hs.2.2.2.2 (by omega) (by decide)) rfl ?_
      refine q_icmp_ge (pc := 22) 29 rfl (by decide) (fun h22 => ?_) (fun h22 => ?_)
      · refine q_iconst (pc := 29) 0 rfl (by decide) ?_
        exact q_zret (pc := 30) rfl rfl rfl ⟨congrArg (fun v => some (Value.int v)) (by first | exact hasPl_a h6 | exact hasPl_b h10 | exact hasPl_c h22 | exact hasPl_d h6 h10 h22), rfl⟩
      · refine q_iconst (pc := 25) 1 rfl (by decide) ?_
        refine q_goto (pc := 26) 30 rfl (by decide) ?_
        exact q_zret (pc := 30) rfl rfl rfl ⟨congrArg (fun v => some (Value.int v)) (by first | exact hasPl_a h6 | exact hasPl_b h10 | exact hasPl_c h22 | exact hasPl_d h6 h10 h22), rfl⟩
set_option maxRecDepth 100000 in
theorem lp_X1_clearShelf {n0 : Nat} {X : Nat × (Nat → Int32)} {P : Option Value → PSt → Prop} {d : Nat} (hd9 : 3 ≤ d) {sh : List PSh} {S : PSt} {r : Nat} (hs : isPg sh r) {s : Nat} {x n : Int32} (hq : s < 3) (hex : pV mX1_clearShelf d n0 X sh P 56 [some (.ref r), some (.int (nI s)), some (.int x), some (.int n), some (.int (nI 12))] [] (clr S r s x n 12)) : ∀ (m k : Nat), k + m = 12 → pV mX1_clearShelf d n0 X sh P 30 [some (.ref r), some (.int (nI s)), some (.int x), some (.int n), some (.int (nI k))] [] (clr S r s x n k) := by
  intro m
  induction m with
  | zero =>
    intro k hk
    have hk : k = 12 := by omega
    subst hk
    refine q_iload (pc := 30) (j := 4) rfl rfl ?_
    refine q_bipush (pc := 32) 12 rfl (by decide) ?_
    exact q_icmp_ge (pc := 34) 56 rfl (by decide) (fun _ => hex) (fun h9 => absurd (Int32.le_refl _) h9)
  | succ m ih =>
    intro k hk
    have hk1 : k < 12 := by omega
    refine q_iload (pc := 30) (j := 4) rfl rfl ?_
    refine q_bipush (pc := 32) 12 rfl (by decide) ?_
    refine q_icmp_ge (pc := 34) 56 rfl (by decide) (fun h9 => absurd h9 (nI_ge (b := 12) hk1 (by decide))) (fun _ => ?_)
    refine q_aload_n (pc := 37) (j := 0) rfl rfl ?_
    refine q_get (pc := 38) (a := r) (v := .ref (r + 3)) rfl fl_X1_25 hs.1 rfl rfl ?_
    refine q_iload_n (pc := 41) (j := 1) rfl rfl ?_
    refine q_iload (pc := 42) (j := 4) rfl rfl ?_
    refine q_callS (pc := 44) (as := [.int (nI s), .int (nI k)]) (rest := [.ref (r + 3)]) (st2 := [.int (nI (12 * s + k)), .ref (r + 3)]) rfl ce_X1_place ml_X1_47 st_X1_place rfl (by omega) (Nat.le_of_ble_eq_true rfl) (sp_X1_place (s := s) (i := k)) rfl ?_
    refine q_callV (pc := 47) (as := [.int (nI (12 * s + k))]) (rest := []) (b := (r + 3)) (st2 := []) rfl ce_X4_clear ml_X1_51 im_X4_clear se_X4_clear hs.2.2.1.1 rfl rfl rfl (by omega) (Nat.le_of_ble_eq_true rfl) (sp_X4_clear (c := (12 * s + k)) hs.2.2.1 (by omega)) rfl ?_
    refine q_iinc (pc := 50) (j := 4) (n := 1) (nI (k + 1)) [some (.ref r), some (.int (nI s)), some (.int x), some (.int n), some (.int (nI (k + 1)))] rfl (by decide) rfl (nI_1 k) rfl ?_
    refine q_goto (pc := 53) 30 rfl (by decide) ?_
    exact q_S clr_s (ih (k + 1) (by omega))
set_option maxRecDepth 100000 in
theorem sp_X1_clearShelf {sh : List PSh} {S : PSt} {r : Nat} (hs : isPg sh r) {s : Nat} {x n : Int32} (hq : s < 3) : pF mX1_clearShelf 3 [.ref r, .int (nI s), .int x, .int n] sh S (clr S r s x n 12) (none) := by
  refine pF.of (pG.of [some (.ref r), some (.int (nI s)), some (.int x), some (.int n), none] (by decide) tk_X1_clearShelf (Nat.le_of_ble_eq_true rfl) rfl (fun X => ?_))
  refine q_aload_n (pc := 0) (j := 0) rfl rfl ?_
  refine q_get (pc := 1) (a := r) (v := .ref (r + 5)) rfl fl_X1_28 hs.1 rfl rfl ?_
  refine q_iload_n (pc := 4) (j := 1) rfl rfl ?_
  refine q_iload_n (pc := 5) (j := 2) rfl rfl ?_
  refine q_callS (pc := 6) (as := [.ref (r + 5), .int (nI s), .int x]) (rest := []) (st2 := []) rfl ce_X8_writeInt ml_X1_43 st_X8_writeInt rfl (by decide) (Nat.le_of_ble_eq_true rfl) (sp_writeIntN (k := s) hs.2.2.2.1 (by omega) (by decide)) rfl ?_
  refine q_aload_n (pc := 9) (j := 0) rfl rfl ?_
  refine q_get (pc := 10) (a := r) (v := .ref (r + 6)) rfl fl_X1_32 hs.1 rfl rfl ?_
  refine q_iload_n (pc := 13) (j := 1) rfl rfl ?_
  refine q_iload_n (pc := 14) (j := 2) rfl rfl ?_
  refine q_iconst (pc := 15) (-1) rfl (by decide) ?_
  refine q_join 24 [some (.ref r), some (.int (nI s)), some (.int x), some (.int n), none] [.int (if x = -1 then 0 else n), .int (nI s), .ref (r + 6)] (pSI S (r + 5) s x) ?_ (fun key16 => ?_)
  · refine q_callS (pc := 24) (as := [.ref (r + 6), .int (nI s), .int (if x = -1 then 0 else n)]) (rest := []) (st2 := []) rfl ce_X8_writeInt ml_X1_43 st_X8_writeInt rfl (by decide) (Nat.le_of_ble_eq_true rfl) (sp_writeIntN (k := s) hs.2.2.2.2 (by omega) (by decide)) rfl ?_
    refine q_iconst (pc := 27) 0 rfl (by decide) ?_
    refine q_istore (pc := 28) (j := 4) [some (.ref r), some (.int (nI s)), some (.int x), some (.int n), some (.int 0)] rfl (by decide) rfl ?_
    refine q_S clr_0 (lp_X1_clearShelf (Nat.le_refl _) hs hq ?_ 12 0 rfl)
    exact q_vret (pc := 56) rfl rfl ⟨rfl, rfl⟩
  · refine q_icmp_ne (pc := 16) 23 rfl (by decide) (fun h16 => ?_) (fun h16 => ?_)
    · refine q_iload_n (pc := 23) (j := 3) rfl rfl ?_
      first | exact q_st (by rw [if_pos h16]) key16 | exact q_st (by rw [if_neg h16]) key16
    · refine q_iconst (pc := 19) 0 rfl (by decide) ?_
      refine q_goto (pc := 20) 24 rfl (by decide) ?_
      first | exact q_st (by rw [if_pos h16]) key16 | exact q_st (by rw [if_neg h16]) key16
def pgB (S : PSt) (r b : Nat) : PSt := (cpI (cpI (cpI (pSI (pSI (cpI S ((b + 1) + 1) ((r + 1) + 1) 180) r 1 ((cpI S ((b + 1) + 1) ((r + 1) + 1) 180).1 b 1)) r 2 ((pSI (cpI S ((b + 1) + 1) ((r + 1) + 1) 180) r 1 ((cpI S ((b + 1) + 1) ((r + 1) + 1) 180).1 b 1)).1 b 2)) ((b + 3) + 1) ((r + 3) + 1) 180) (b + 5) (r + 5) 3) (b + 6) (r + 6) 3)
set_option maxRecDepth 100000 in
theorem sp_X1_become {sh : List PSh} {S : PSt} {r : Nat} (hs : isPg sh r) {b : Nat} (hb : isPg sh b) (hbr : b + 7 ≤ r ∨ r + 7 ≤ b) : pF mX1_become 2 [.ref r, .ref b] sh S (pgB S r b) (none) := by
  refine pF.of (pG.of [some (.ref r), some (.ref b)] (by decide) tk_X1_become (Nat.le_of_ble_eq_true rfl) rfl (fun X => ?_))
  refine q_aload_n (pc := 0) (j := 1) rfl rfl ?_
  refine q_ifnonnull (pc := 1) 5 rfl (by decide) ?_
  refine q_aload_n (pc := 5) (j := 0) rfl rfl ?_
  refine q_get (pc := 6) (a := r) (v := .ref (r + 1)) rfl fl_X1_12 hs.1 rfl rfl ?_
  refine q_aload_n (pc := 9) (j := 1) rfl rfl ?_
  refine q_get (pc := 10) (a := b) (v := .ref (b + 1)) rfl fl_X1_12 hb.1 rfl rfl ?_
  refine q_callV (pc := 13) (as := [.ref (b + 1)]) (rest := []) (b := (r + 1)) (st2 := []) rfl ce_X4_become ml_X1_63 im_X4_become se_X4_become hs.2.1.1 rfl rfl rfl (by decide) (Nat.le_of_ble_eq_true rfl) (sp_X4_become hs.2.1 hb.2.1 (by omega)) rfl ?_
  refine q_aload_n (pc := 16) (j := 0) rfl rfl ?_
  refine q_aload_n (pc := 17) (j := 1) rfl rfl ?_
  refine q_get (pc := 18) (a := b) (v := .int ((cpI S ((b + 1) + 1) ((r + 1) + 1) 180).1 b 1)) rfl fl_X1_18 hb.1 rfl rfl ?_
  refine q_putI (pc := 21) (a := r) rfl fl_X1_18 hs.1 rfl (fun _ h9 => by cases h9; rfl) rfl rfl ?_
  refine q_aload_n (pc := 24) (j := 0) rfl rfl ?_
  refine q_aload_n (pc := 25) (j := 1) rfl rfl ?_
  refine q_get (pc := 26) (a := b) (v := .int ((pSI (cpI S ((b + 1) + 1) ((r + 1) + 1) 180) r 1 ((cpI S ((b + 1) + 1) ((r + 1) + 1) 180).1 b 1)).1 b 2)) rfl fl_X1_22 hb.1 rfl rfl ?_
  refine q_putI (pc := 29) (a := r) rfl fl_X1_22 hs.1 rfl (fun _ h9 => by cases h9; rfl) rfl rfl ?_
  refine q_aload_n (pc := 32) (j := 0) rfl rfl ?_
  refine q_get (pc := 33) (a := r) (v := .ref (r + 3)) rfl fl_X1_25 hs.1 rfl rfl ?_
  refine q_aload_n (pc := 36) (j := 1) rfl rfl ?_
  refine q_get (pc := 37) (a := b) (v := .ref (b + 3)) rfl fl_X1_25 hb.1 rfl rfl ?_
  refine q_callV (pc := 40) (as := [.ref (b + 3)]) (rest := []) (b := (r + 3)) (st2 := []) rfl ce_X4_become ml_X1_63 im_X4_become se_X4_become hs.2.2.1.1 rfl rfl rfl (by decide) (Nat.le_of_ble_eq_true rfl) (sp_X4_become hs.2.2.1 hb.2.2.1 (by omega)) rfl ?_
  refine q_aload_n (pc := 43) (j := 1) rfl rfl ?_
  refine q_get (pc := 44) (a := b) (v := .ref (b + 5)) rfl fl_X1_28 hb.1 rfl rfl ?_
  refine q_aload_n (pc := 47) (j := 0) rfl rfl ?_
  refine q_get (pc := 48) (a := r) (v := .ref (r + 5)) rfl fl_X1_28 hs.1 rfl rfl ?_
  refine q_callS (pc := 51) (as := [.ref (b + 5), .ref (r + 5)]) (rest := []) (st2 := []) rfl ce_X8_copy ml_X1_67 st_X8_copy rfl (by decide) (Nat.le_of_ble_eq_true rfl) (sp_X8_copy hb.2.2.2.1 hs.2.2.2.1 (by omega) (by decide)) rfl ?_
  refine q_aload_n (pc := 54) (j := 1) rfl rfl ?_
  refine q_get (pc := 55) (a := b) (v := .ref (b + 6)) rfl fl_X1_32 hb.1 rfl rfl ?_
  refine q_aload_n (pc := 58) (j := 0) rfl rfl ?_
  refine q_get (pc := 59) (a := r) (v := .ref (r + 6)) rfl fl_X1_32 hs.1 rfl rfl ?_
  refine q_callS (pc := 62) (as := [.ref (b + 6), .ref (r + 6)]) (rest := []) (st2 := []) rfl ce_X8_copy ml_X1_67 st_X8_copy rfl (by decide) (Nat.le_of_ble_eq_true rfl) (sp_X8_copy hb.2.2.2.2 hs.2.2.2.2 (by omega) (by decide)) rfl ?_
  exact q_vret (pc := 65) rfl rfl ⟨rfl, rfl⟩
end
section
/-! Stretch: written by wip/whole/gen/c14.py -/
/-- the Stretch at the cell r -/
def isSt (sh : List PSh) (r : Nat) : Prop := sh[r]? = some (.inr (5, [r + 1 + 3, r + 2 + 3, r + 3 + 3, r + 4 + 3, r + 5 + 3, r + 6 + 3, 0, 0, 1, 1])) ∧ sh[r + 1]? = some (.inl (1, 32)) ∧ sh[r + 2]? = some (.inl (1, 32)) ∧ sh[r + 3]? = some (.inl (1, 32)) ∧ sh[r + 4]? = some (.inl (2, 32)) ∧ sh[r + 5]? = some (.inl (1, 32)) ∧ sh[r + 6]? = some (.inl (1, 32))
/-- IDEAL, FLEX, ROD of the sign i of the Signs q -/
def idC (S : PSt) (q i : Nat) : UInt32 := idF (S.1 (q + 1) (5 * i + 0)) (S.1 (q + 1) (5 * i + 1))
def flC (S : PSt) (q i : Nat) : UInt32 := flF (S.1 (q + 1) (5 * i + 0)) (idC S q i)
def roC (S : PSt) (q i : Nat) : UInt32 := roF (S.1 (q + 1) (5 * i + 3))
/-- k columns from a on are taken -/
def tk (S : PSt) (r q a : Nat) (w : Int32) (k : Nat) : PSt :=
  (fun c j => if c = r ∧ j = 6 then nI a else if c = r ∧ j = 7 then nI k else S.1 c j,
   fun c j => if c = r ∧ j = 8 then FP.i2f w else if c = r + 1 ∧ j < k then idC S q (a + j) else if c = r + 2 ∧ j < k then flC S q (a + j) else if c = r + 3 ∧ j < k then roC S q (a + j) else S.2.1 c j, S.2.2)
theorem tk_sz {S : PSt} {r q a : Nat} {w : Int32} {k : Nat} : (tk S r q a w k).1 r 7 = nI k := by simp [tk]
theorem tk_I {S : PSt} {r q a : Nat} {w : Int32} {k : Nat} (h : q + 1 ≠ r) : (tk S r q a w k).1 (q + 1) = S.1 (q + 1) := by funext j; simp [tk, h]
theorem tk_0 {S : PSt} {r q a : Nat} {w : Int32} : pSF (pSI (pSI S r 6 (nI a)) r 7 0) r 8 (FP.i2f w) = tk S r q a w 0 := by
  unfold pSF pSI pU tk
  refine Prod.ext (funext fun c => funext fun j => ?_) (Prod.ext (funext fun c => funext fun j => ?_) rfl)
  · dsimp only; (repeat' split) <;> first | rfl | (exfalso; omega)
  · dsimp only; (repeat' split) <;> first | rfl | (exfalso; omega)
theorem tk_s {S : PSt} {r q a : Nat} {w : Int32} {k : Nat} : pSI (pSF (pSF (pSF (tk S r q a w k) (r + 1) k (idC S q (a + k))) (r + 2) k (flC S q (a + k))) (r + 3) k (roC S q (a + k))) r 7 (nI (k + 1)) = tk S r q a w (k + 1) := by
  unfold pSF pSI pU tk
  refine Prod.ext (funext fun c => funext fun j => ?_) (Prod.ext (funext fun c => funext fun j => ?_) rfl)
  · dsimp only; (repeat' split) <;> first | rfl | (exfalso; omega)
  · dsimp only
    by_cases hj : j = k
    · subst hj; (repeat' split) <;> first | rfl | (exfalso; omega)
    · (repeat' split) <;> first | rfl | (exfalso; omega)
/-- sums from 0 on -/
def sumF (f : Nat → UInt32) : Nat → UInt32
  | 0 => FP.fconst0
  | k + 1 => FP.fadd (sumF f k) (f k)
/-- sums of those that are (not) held -/
def bsum (h : Nat → Bool) (b : Bool) (f : Nat → UInt32) : Nat → UInt32
  | 0 => FP.fconst0
  | k + 1 => if h k = b then FP.fadd (bsum h b f k) (f k) else bsum h b f k
def hd (S : PSt) (r : Nat) (j : Nat) : Bool := decide (S.1 (r + 4) j ≠ 0)
def fgt (x y : UInt32) : Bool := decide (0 < Op.cmpValue (FP.fcmp x y) .l)
def flt (x y : UInt32) : Bool := decide (Op.cmpValue (FP.fcmp x y) .g < 0)
def balF (W : UInt32) (ids fls rods : Nat → UInt32) (h : Nat → Bool) (n : Nat) : UInt32 :=
  if fgt (bsum h false fls n) FP.fconst0 then FP.fdiv (FP.fsub (FP.fsub W (bsum h true rods n)) (bsum h false ids n)) (bsum h false fls n) else FP.fconst0
def balS (S : PSt) (r n : Nat) : UInt32 := balF (S.2.1 r 8) (S.2.1 (r + 1)) (S.2.1 (r + 2)) (S.2.1 (r + 3)) (hd S r) n
def okBal (W : UInt32) (ids fls rods : Nat → UInt32) (h : Nat → Bool) (n : Nat) : Prop :=
  (∀ k, k < n → h k = true → vf_n32 (FP.fadd (bsum h true rods k) (rods k))) ∧ (∀ k, k < n → h k = false → vf_n32 (FP.fadd (bsum h false ids k) (ids k)) ∧ vf_n32 (FP.fadd (bsum h false fls k) (fls k))) ∧
  (fgt (bsum h false fls n) FP.fconst0 = true → vf_n32 (FP.fsub W (bsum h true rods n)) ∧ vf_n32 (FP.fsub (FP.fsub W (bsum h true rods n)) (bsum h false ids n)) ∧ vf_n32 (FP.fdiv (FP.fsub (FP.fsub W (bsum h true rods n)) (bsum h false ids n)) (bsum h false fls n)))
def okBalS (S : PSt) (r n : Nat) : Prop := okBal (S.2.1 r 8) (S.2.1 (r + 1)) (S.2.1 (r + 2)) (S.2.1 (r + 3)) (hd S r) n
def wan (S : PSt) (r j : Nat) : UInt32 := FP.fadd (S.2.1 (r + 1) j) (FP.fmul (S.2.1 r 9) (S.2.1 (r + 2) j))
def okW (S : PSt) (r n : Nat) : Prop := ∀ k, k < n → vf_n32 (FP.fmul (S.2.1 r 9) (S.2.1 (r + 2) k)) ∧ vf_n32 (wan S r k)
def newly (S : PSt) (r j : Nat) : Bool := !(hd S r j) && flt (wan S r j) (S.2.1 (r + 3) j)
def anyB (f : Nat → Bool) : Nat → Bool
  | 0 => false
  | k + 1 => anyB f k || f k
def hm (S : PSt) (r k : Nat) : PSt := (fun c j => if c = r + 4 ∧ j < k ∧ newly S r j = true then 1 else S.1 c j, S.2)
theorem hm_0 {S : PSt} {r : Nat} : hm S r 0 = S := by
  unfold hm
  refine Prod.ext (funext fun c => funext fun j => ?_) rfl
  dsimp only; rw [if_neg (by omega)]
theorem hm_y {S : PSt} {r k : Nat} (h : newly S r k = true) : pSI (hm S r k) (r + 4) k 1 = hm S r (k + 1) := by
  unfold hm pSI pU
  refine Prod.ext (funext fun c => funext fun j => ?_) rfl
  dsimp only
  by_cases hj : j = k
  · subst hj; simp [h]
  · by_cases hc : c = r + 4 ∧ j < k ∧ newly S r j = true
    · have : c = r + 4 ∧ j < k + 1 ∧ newly S r j = true := ⟨hc.1, by omega, hc.2.2⟩
      simp [hj, hc, this]
    · have : ¬ (c = r + 4 ∧ j < k + 1 ∧ newly S r j = true) := fun q => hc ⟨q.1, by omega, q.2.2⟩
      rw [if_neg (by omega), if_neg hc, if_neg this]
theorem hm_n {S : PSt} {r k : Nat} (h : newly S r k = false) : hm S r k = hm S r (k + 1) := by
  unfold hm
  refine Prod.ext (funext fun c => funext fun j => ?_) rfl
  dsimp only
  by_cases hj : j = k
  · subst hj; simp [h]
  · by_cases hc : c = r + 4 ∧ j < k ∧ newly S r j = true
    · have : c = r + 4 ∧ j < k + 1 ∧ newly S r j = true := ⟨hc.1, by omega, hc.2.2⟩
      simp [hc, this]
    · have : ¬ (c = r + 4 ∧ j < k + 1 ∧ newly S r j = true) := fun q => hc ⟨q.1, by omega, q.2.2⟩
      rw [if_neg hc, if_neg this]
theorem hm_f {S : PSt} {r k : Nat} : (hm S r k).2 = S.2 := rfl
theorem hm_at {S : PSt} {r k : Nat} : (hm S r k).1 (r + 4) k = S.1 (r + 4) k := by simp [hm]
theorem hm_sz {S : PSt} {r k : Nat} : (hm S r k).1 r 7 = S.1 r 7 := by simp [hm]
/-- one round: a new pull, more are held -/
def rd1 (S : PSt) (r n : Nat) : PSt := hm (pSF S r 9 (balS S r n)) r n
def chg (S : PSt) (r n : Nat) : Bool := anyB (newly (pSF S r 9 (balS S r n)) r) n
def rndS (r n : Nat) : Nat → PSt → PSt
  | 0, S => S
  | k + 1, S => if chg S r n then rndS r n k (rd1 S r n) else rd1 S r n
def lenS (S : PSt) (r j : Nat) : UInt32 := if S.1 (r + 4) j ≠ 0 then S.2.1 (r + 3) j else wan S r j
def lnS (S : PSt) (r k : Nat) : PSt := (S.1, fun c j => if c = r + 5 ∧ j < k then lenS S r j else if c = r + 6 ∧ j < k then sumF (lenS S r) j else S.2.1 c j, S.2.2)
/-- the springs, rods and the width are the same -/
def sameSp (S S2 : PSt) (r : Nat) : Prop := S2.2.1 (r + 1) = S.2.1 (r + 1) ∧ S2.2.1 (r + 2) = S.2.1 (r + 2) ∧ S2.2.1 (r + 3) = S.2.1 (r + 3) ∧ S2.2.1 r 8 = S.2.1 r 8 ∧ S2.1 r 7 = S.1 r 7
/-- no operation answers NaN, whatever is held -/
def okSp (S : PSt) (r n : Nat) : Prop := ∀ S2, sameSp S S2 r → okBalS S2 r n ∧ okW (pSF S2 r 9 (balS S2 r n)) r n
theorem okSp.mono {S S2 : PSt} {r n : Nat} (h : okSp S r n) (hs : sameSp S S2 r) : okSp S2 r n := fun S3 h3 => h S3 ⟨h3.1.trans hs.1, h3.2.1.trans hs.2.1, h3.2.2.1.trans hs.2.2.1, h3.2.2.2.1.trans hs.2.2.2.1, h3.2.2.2.2.trans hs.2.2.2.2⟩
theorem sameSp_pull {S : PSt} {r : Nat} {x : UInt32} : sameSp S (pSF S r 9 x) r := ⟨by funext j; simp [pSF, pU], by funext j; simp [pSF, pU], by funext j; simp [pSF, pU], by simp [pSF, pU], rfl⟩
theorem sameSp_rd1 {S : PSt} {r n : Nat} : sameSp S (rd1 S r n) r := ⟨by funext j; simp [rd1, hm, pSF, pU], by funext j; simp [rd1, hm, pSF, pU], by funext j; simp [rd1, hm, pSF, pU], by simp [rd1, hm, pSF, pU], by simp [rd1, hm, pSF]⟩
theorem pB_dec {p : Prop} {_ : Decidable p} (h : ¬ pB (decide p) = 0) : p := of_decide_eq_true (pB_t h)
theorem pB_ndec {p : Prop} {_ : Decidable p} (h : pB (decide p) = 0) : ¬ p := of_decide_eq_false (pB_f h)

set_option maxRecDepth 100000 in
theorem lp_X6_sum {n0 : Nat} {X : Nat × (Nat → Int32)} {P : Option Value → PSt → Prop} {d : Nat} (hd9 : 1 ≤ d) {sh : List PSh} {S : PSt} {r n : Nat} (hs : isSt sh r) (hn : n ≤ 32) (hz : S.1 r 7 = nI n) {a : Nat} (ha : sh[a]? = some (.inl (1, 32))) (hok : ∀ k, k < n → vf_n32 (FP.fadd (sumF (S.2.1 a) k) (S.2.1 a k))) (hex : pV mX6_sum d n0 X sh P 26 [some (.ref r), some (.ref a), some (.float (sumF (S.2.1 a) n)), some (.int (nI n))] [] S) : ∀ (m k : Nat), k + m = n → pV mX6_sum d n0 X sh P 4 [some (.ref r), some (.ref a), some (.float (sumF (S.2.1 a) k)), some (.int (nI k))] [] S := by
  intro m
  induction m with
  | zero =>
    intro k hk
    have hk : k = n := by omega
    subst hk
    refine q_iload_n (pc := 4) (j := 3) rfl rfl ?_
    refine q_aload_n (pc := 5) (j := 0) rfl rfl ?_
    refine q_get (pc := 6) (a := r) (v := .int (S.1 r 7)) rfl fl_X6_35 hs.1 rfl rfl ?_
    exact q_icmp_ge (pc := 9) 26 rfl (by decide) (fun _ => hex) (fun h9 => absurd (by rw [hz]; exact Int32.le_refl _) h9)
  | succ m ih =>
    intro k hk
    have hk1 : k < n := by omega
    refine q_iload_n (pc := 4) (j := 3) rfl rfl ?_
    refine q_aload_n (pc := 5) (j := 0) rfl rfl ?_
    refine q_get (pc := 6) (a := r) (v := .int (S.1 r 7)) rfl fl_X6_35 hs.1 rfl rfl ?_
    refine q_st (st2 := [.int (nI n), .int (nI k)]) (by rw [(show (S.1 r 7) = nI n from hz)]) ?_
    refine q_icmp_ge (pc := 9) 26 rfl (by decide) (fun h9 => absurd h9 (nI_ge hk1 (by omega))) (fun _ => ?_)
    refine q_fload_n (pc := 12) (j := 2) rfl rfl ?_
    refine q_aload_n (pc := 13) (j := 1) rfl rfl ?_
    refine q_iload_n (pc := 14) (j := 3) rfl rfl ?_
    refine q_callS (pc := 15) (as := [.ref a, .int (nI k)]) (rest := [.float (sumF (S.2.1 a) k)]) (st2 := [.float (S.2.1 a k), .float (sumF (S.2.1 a) k)]) rfl ce_X8_readFloat ml_X6_87 st_X8_readFloat rfl (by omega) (Nat.le_of_ble_eq_true rfl) (sp_readFloatN (k := k) ha (by omega) (by decide)) rfl ?_
    refine q_fadd (pc := 18) rfl (hok k hk1) ?_
    refine q_fstore_n (pc := 19) (j := 2) [some (.ref r), some (.ref a), some (.float (FP.fadd (sumF (S.2.1 a) k) (S.2.1 a k))), some (.int (nI k))] rfl (by decide) rfl ?_
    refine q_iinc (pc := 20) (j := 3) (n := 1) (nI (k + 1)) [some (.ref r), some (.ref a), some (.float (FP.fadd (sumF (S.2.1 a) k) (S.2.1 a k))), some (.int (nI (k + 1)))] rfl (by decide) rfl (nI_1 k) rfl ?_
    refine q_goto (pc := 23) 4 rfl (by decide) ?_
    exact ih (k + 1) (by omega)
set_option maxRecDepth 100000 in
theorem sp_X6_sum {sh : List PSh} {S : PSt} {r n : Nat} (hs : isSt sh r) (hn : n ≤ 32) (hz : S.1 r 7 = nI n) {a : Nat} (ha : sh[a]? = some (.inl (1, 32))) (hok : ∀ k, k < n → vf_n32 (FP.fadd (sumF (S.2.1 a) k) (S.2.1 a k))) : pF mX6_sum 1 [.ref r, .ref a] sh S S (some (.float (sumF (S.2.1 a) n))) := by
  refine pF.of (pG.of [some (.ref r), some (.ref a), none, none] (by decide) tk_X6_sum (Nat.le_of_ble_eq_true rfl) rfl (fun X => ?_))
  refine q_fconst0 (pc := 0) rfl ?_
  refine q_fstore_n (pc := 1) (j := 2) [some (.ref r), some (.ref a), some (.float FP.fconst0), none] rfl (by decide) rfl ?_
  refine q_iconst (pc := 2) 0 rfl (by decide) ?_
  refine q_istore_n (pc := 3) (j := 3) [some (.ref r), some (.ref a), some (.float FP.fconst0), some (.int 0)] rfl (by decide) rfl ?_
  refine lp_X6_sum (Nat.le_refl _) hs hn hz ha hok ?_ n 0 (Nat.zero_add n)
  refine q_fload_n (pc := 26) (j := 2) rfl rfl ?_
  exact q_fret (pc := 27) rfl rfl ⟨rfl, rfl⟩
set_option maxRecDepth 100000 in
theorem sp_X6_stretched {sh : List PSh} {S : PSt} {r k : Nat} (hs : isSt sh r) (hk : k < 32) (hok : vf_n32 (FP.fmul (S.2.1 r 9) (S.2.1 (r + 2) k)) ∧ vf_n32 (wan S r k)) : pF mX6_stretched 1 [.ref r, .int (nI k)] sh S S (some (.float (wan S r k))) := by
  refine pF.of (pG.of [some (.ref r), some (.int (nI k))] (by decide) tk_X6_stretched (Nat.le_of_ble_eq_true rfl) rfl (fun X => ?_))
  refine q_aload_n (pc := 0) (j := 0) rfl rfl ?_
  refine q_get (pc := 1) (a := r) (v := .ref (r + 1)) rfl fl_X6_9 hs.1 rfl rfl ?_
  refine q_iload_n (pc := 4) (j := 1) rfl rfl ?_
  refine q_callS (pc := 5) (as := [.ref (r + 1), .int (nI k)]) (rest := []) (st2 := [.float (S.2.1 (r + 1) k)]) rfl ce_X8_readFloat ml_X6_87 st_X8_readFloat rfl (by decide) (Nat.le_of_ble_eq_true rfl) (sp_readFloatN (k := k) hs.2.1 (by omega) (by decide)) rfl ?_
  refine q_aload_n (pc := 8) (j := 0) rfl rfl ?_
  refine q_get (pc := 9) (a := r) (v := .float (S.2.1 r 9)) rfl fl_X6_42 hs.1 rfl rfl ?_
  refine q_aload_n (pc := 12) (j := 0) rfl rfl ?_
  refine q_get (pc := 13) (a := r) (v := .ref (r + 2)) rfl fl_X6_15 hs.1 rfl rfl ?_
  refine q_iload_n (pc := 16) (j := 1) rfl rfl ?_
  refine q_callS (pc := 17) (as := [.ref (r + 2), .int (nI k)]) (rest := [.float (S.2.1 r 9), .float (S.2.1 (r + 1) k)]) (st2 := [.float (S.2.1 (r + 2) k), .float (S.2.1 r 9), .float (S.2.1 (r + 1) k)]) rfl ce_X8_readFloat ml_X6_87 st_X8_readFloat rfl (by decide) (Nat.le_of_ble_eq_true rfl) (sp_readFloatN (k := k) hs.2.2.1 (by omega) (by decide)) rfl ?_
  refine q_fmul (pc := 20) rfl hok.1 ?_
  refine q_fadd (pc := 21) rfl hok.2 ?_
  exact q_fret (pc := 22) rfl rfl ⟨rfl, rfl⟩
set_option maxRecDepth 100000 in
theorem lp_X6_balance {n0 : Nat} {X : Nat × (Nat → Int32)} {P : Option Value → PSt → Prop} {d : Nat} (hd9 : 1 ≤ d) {sh : List PSh} {S : PSt} {r n : Nat} (hs : isSt sh r) (hn : n ≤ 32) (hz : S.1 r 7 = nI n) (hok : okBalS S r n) (hex : pV mX6_balance d n0 X sh P 75 [some (.ref r), some (.float (bsum (hd S r) true (S.2.1 (r + 3)) n)), some (.float (bsum (hd S r) false (S.2.1 (r + 1)) n)), some (.float (bsum (hd S r) false (S.2.1 (r + 2)) n)), some (.int (nI n))] [] S) : ∀ (m k : Nat), k + m = n → pV mX6_balance d n0 X sh P 9 [some (.ref r), some (.float (bsum (hd S r) true (S.2.1 (r + 3)) k)), some (.float (bsum (hd S r) false (S.2.1 (r + 1)) k)), some (.float (bsum (hd S r) false (S.2.1 (r + 2)) k)), some (.int (nI k))] [] S := by
  intro m
  induction m with
  | zero =>
    intro k hk
    have hk : k = n := by omega
    subst hk
    refine q_iload (pc := 9) (j := 4) rfl rfl ?_
    refine q_aload_n (pc := 11) (j := 0) rfl rfl ?_
    refine q_get (pc := 12) (a := r) (v := .int (S.1 r 7)) rfl fl_X6_35 hs.1 rfl rfl ?_
    exact q_icmp_ge (pc := 15) 75 rfl (by decide) (fun _ => hex) (fun h9 => absurd (by rw [hz]; exact Int32.le_refl _) h9)
  | succ m ih =>
    intro k hk
    have hk1 : k < n := by omega
    refine q_iload (pc := 9) (j := 4) rfl rfl ?_
    refine q_aload_n (pc := 11) (j := 0) rfl rfl ?_
    refine q_get (pc := 12) (a := r) (v := .int (S.1 r 7)) rfl fl_X6_35 hs.1 rfl rfl ?_
    refine q_st (st2 := [.int (nI n), .int (nI k)]) (by rw [(show (S.1 r 7) = nI n from hz)]) ?_
    refine q_icmp_ge (pc := 15) 75 rfl (by decide) (fun h9 => absurd h9 (nI_ge hk1 (by omega))) (fun _ => ?_)
    refine q_aload_n (pc := 18) (j := 0) rfl rfl ?_
    refine q_get (pc := 19) (a := r) (v := .ref (r + 4)) rfl fl_X6_21 hs.1 rfl rfl ?_
    refine q_iload (pc := 22) (j := 4) rfl rfl ?_
    refine q_callS (pc := 24) (as := [.ref (r + 4), .int (nI k)]) (rest := []) (st2 := [.int (pB (decide (S.1 (r + 4) k ≠ 0)))]) rfl ce_X8_readFlag ml_X6_83 st_X8_readFlag rfl (by omega) (Nat.le_of_ble_eq_true rfl) (sp_readFlagN (k := k) hs.2.2.2.2.1 (by omega) (by decide)) rfl ?_
    refine q_join 69 [some (.ref r), some (.float (bsum (hd S r) true (S.2.1 (r + 3)) (k + 1))), some (.float (bsum (hd S r) false (S.2.1 (r + 1)) (k + 1))), some (.float (bsum (hd S r) false (S.2.1 (r + 2)) (k + 1))), some (.int (nI k))] [] S ?_ (fun key27 => ?_)
    · refine q_iinc (pc := 69) (j := 4) (n := 1) (nI (k + 1)) [some (.ref r), some (.float (bsum (hd S r) true (S.2.1 (r + 3)) (k + 1))), some (.float (bsum (hd S r) false (S.2.1 (r + 1)) (k + 1))), some (.float (bsum (hd S r) false (S.2.1 (r + 2)) (k + 1))), some (.int (nI (k + 1)))] rfl (by decide) rfl (nI_1 k) rfl ?_
      refine q_goto (pc := 72) 9 rfl (by decide) ?_
      exact ih (k + 1) (by omega)
    · refine q_if_eq (pc := 27) 45 rfl (by decide) (fun h27 => ?_) (fun h27 => ?_)
      · have hb27 : hd S r k = false := decide_eq_false (pB_ndec h27)
        refine q_fload_n (pc := 45) (j := 2) rfl rfl ?_
        refine q_aload_n (pc := 46) (j := 0) rfl rfl ?_
        refine q_get (pc := 47) (a := r) (v := .ref (r + 1)) rfl fl_X6_9 hs.1 rfl rfl ?_
        refine q_iload (pc := 50) (j := 4) rfl rfl ?_
        refine q_callS (pc := 52) (as := [.ref (r + 1), .int (nI k)]) (rest := [.float (bsum (hd S r) false (S.2.1 (r + 1)) k)]) (st2 := [.float (S.2.1 (r + 1) k), .float (bsum (hd S r) false (S.2.1 (r + 1)) k)]) rfl ce_X8_readFloat ml_X6_87 st_X8_readFloat rfl (by omega) (Nat.le_of_ble_eq_true rfl) (sp_readFloatN (k := k) hs.2.1 (by omega) (by decide)) rfl ?_
        refine q_fadd (pc := 55) rfl (hok.2.1 k hk1 hb27).1 ?_
        refine q_fstore_n (pc := 56) (j := 2) [some (.ref r), some (.float (bsum (hd S r) true (S.2.1 (r + 3)) k)), some (.float (FP.fadd (bsum (hd S r) false (S.2.1 (r + 1)) k) (S.2.1 (r + 1) k))), some (.float (bsum (hd S r) false (S.2.1 (r + 2)) k)), some (.int (nI k))] rfl (by decide) rfl ?_
        refine q_fload_n (pc := 57) (j := 3) rfl rfl ?_
        refine q_aload_n (pc := 58) (j := 0) rfl rfl ?_
        refine q_get (pc := 59) (a := r) (v := .ref (r + 2)) rfl fl_X6_15 hs.1 rfl rfl ?_
        refine q_iload (pc := 62) (j := 4) rfl rfl ?_
        refine q_callS (pc := 64) (as := [.ref (r + 2), .int (nI k)]) (rest := [.float (bsum (hd S r) false (S.2.1 (r + 2)) k)]) (st2 := [.float (S.2.1 (r + 2) k), .float (bsum (hd S r) false (S.2.1 (r + 2)) k)]) rfl ce_X8_readFloat ml_X6_87 st_X8_readFloat rfl (by omega) (Nat.le_of_ble_eq_true rfl) (sp_readFloatN (k := k) hs.2.2.1 (by omega) (by decide)) rfl ?_
        refine q_fadd (pc := 67) rfl (hok.2.1 k hk1 hb27).2 ?_
        refine q_fstore_n (pc := 68) (j := 3) [some (.ref r), some (.float (bsum (hd S r) true (S.2.1 (r + 3)) k)), some (.float (FP.fadd (bsum (hd S r) false (S.2.1 (r + 1)) k) (S.2.1 (r + 1) k))), some (.float (FP.fadd (bsum (hd S r) false (S.2.1 (r + 2)) k) (S.2.1 (r + 2) k))), some (.int (nI k))] rfl (by decide) rfl ?_
        exact q_L (by simp [bsum, hb27]) key27
      · have hb27 : hd S r k = true := decide_eq_true (pB_dec h27)
        refine q_fload_n (pc := 30) (j := 1) rfl rfl ?_
        refine q_aload_n (pc := 31) (j := 0) rfl rfl ?_
        refine q_get (pc := 32) (a := r) (v := .ref (r + 3)) rfl fl_X6_18 hs.1 rfl rfl ?_
        refine q_iload (pc := 35) (j := 4) rfl rfl ?_
        refine q_callS (pc := 37) (as := [.ref (r + 3), .int (nI k)]) (rest := [.float (bsum (hd S r) true (S.2.1 (r + 3)) k)]) (st2 := [.float (S.2.1 (r + 3) k), .float (bsum (hd S r) true (S.2.1 (r + 3)) k)]) rfl ce_X8_readFloat ml_X6_87 st_X8_readFloat rfl (by omega) (Nat.le_of_ble_eq_true rfl) (sp_readFloatN (k := k) hs.2.2.2.1 (by omega) (by decide)) rfl ?_
        refine q_fadd (pc := 40) rfl (hok.1 k hk1 hb27) ?_
        refine q_fstore_n (pc := 41) (j := 1) [some (.ref r), some (.float (FP.fadd (bsum (hd S r) true (S.2.1 (r + 3)) k) (S.2.1 (r + 3) k))), some (.float (bsum (hd S r) false (S.2.1 (r + 1)) k)), some (.float (bsum (hd S r) false (S.2.1 (r + 2)) k)), some (.int (nI k))] rfl (by decide) rfl ?_
        refine q_goto (pc := 42) 69 rfl (by decide) ?_
        exact q_L (by simp [bsum, hb27]) key27
set_option maxRecDepth 100000 in
theorem sp_X6_balance {sh : List PSh} {S : PSt} {r n : Nat} (hs : isSt sh r) (hn : n ≤ 32) (hz : S.1 r 7 = nI n) (hok : okBalS S r n) : pF mX6_balance 1 [.ref r] sh S S (some (.float (balS S r n))) := by
  refine pF.of (pG.of [some (.ref r), none, none, none, none] (by decide) tk_X6_balance (Nat.le_of_ble_eq_true rfl) rfl (fun X => ?_))
  refine q_fconst0 (pc := 0) rfl ?_
  refine q_fstore_n (pc := 1) (j := 1) [some (.ref r), some (.float FP.fconst0), none, none, none] rfl (by decide) rfl ?_
  refine q_fconst0 (pc := 2) rfl ?_
  refine q_fstore_n (pc := 3) (j := 2) [some (.ref r), some (.float FP.fconst0), some (.float FP.fconst0), none, none] rfl (by decide) rfl ?_
  refine q_fconst0 (pc := 4) rfl ?_
  refine q_fstore_n (pc := 5) (j := 3) [some (.ref r), some (.float FP.fconst0), some (.float FP.fconst0), some (.float FP.fconst0), none] rfl (by decide) rfl ?_
  refine q_iconst (pc := 6) 0 rfl (by decide) ?_
  refine q_istore (pc := 7) (j := 4) [some (.ref r), some (.float FP.fconst0), some (.float FP.fconst0), some (.float FP.fconst0), some (.int 0)] rfl (by decide) rfl ?_
  refine lp_X6_balance (Nat.le_refl _) hs hn hz hok ?_ n 0 (Nat.zero_add n)
  refine q_fload_n (pc := 75) (j := 3) rfl rfl ?_
  refine q_fconst0 (pc := 76) rfl ?_
  refine q_fcmp (pc := 77) (op := .l) rfl ?_
  refine q_join 95 [some (.ref r), some (.float (bsum (hd S r) true (S.2.1 (r + 3)) n)), some (.float (bsum (hd S r) false (S.2.1 (r + 1)) n)), some (.float (bsum (hd S r) false (S.2.1 (r + 2)) n)), some (.int (nI n))] [.float (balS S r n)] S ?_ (fun key78 => ?_)
  · exact q_fret (pc := 95) rfl rfl ⟨rfl, rfl⟩
  · refine q_if_le (pc := 78) 94 rfl (by decide) (fun h78 => ?_) (fun h78 => ?_)
    · refine q_fconst0 (pc := 94) rfl ?_
      first | exact q_st (by rw [balS, balF, if_pos (show fgt _ FP.fconst0 = true from decide_eq_true (Int32.not_le.mp h78))]) key78 | exact q_st (by rw [balS, balF, if_neg (show ¬ fgt _ FP.fconst0 = true from fun q => absurd (of_decide_eq_true q) (Int32.not_lt.mpr h78))]) key78
    · have hp78 := hok.2.2 (decide_eq_true (Int32.not_le.mp h78))
      refine q_aload_n (pc := 81) (j := 0) rfl rfl ?_
      refine q_get (pc := 82) (a := r) (v := .float (S.2.1 r 8)) rfl fl_X6_38 hs.1 rfl rfl ?_
      refine q_fload_n (pc := 85) (j := 1) rfl rfl ?_
      refine q_fsub (pc := 86) rfl hp78.1 ?_
      refine q_fload_n (pc := 87) (j := 2) rfl rfl ?_
      refine q_fsub (pc := 88) rfl hp78.2.1 ?_
      refine q_fload_n (pc := 89) (j := 3) rfl rfl ?_
      refine q_fdiv (pc := 90) rfl hp78.2.2 ?_
      refine q_goto (pc := 91) 95 rfl (by decide) ?_
      first | exact q_st (by rw [balS, balF, if_pos (show fgt _ FP.fconst0 = true from decide_eq_true (Int32.not_le.mp h78))]) key78 | exact q_st (by rw [balS, balF, if_neg (show ¬ fgt _ FP.fconst0 = true from fun q => absurd (of_decide_eq_true q) (Int32.not_lt.mpr h78))]) key78
end
section
/-! Stretch, second half: written by wip/whole/gen/c15.py -/
theorem hm_W {S : PSt} {r k j : Nat} : wan (hm S r k) r j = wan S r j := rfl
theorem hm_hd {S : PSt} {r k : Nat} : hd (hm S r k) r k = hd S r k := by unfold hd; rw [hm_at]
theorem anyB_s {f : Nat → Bool} {k : Nat} : anyB f (k + 1) = (anyB f k || f k) := rfl
set_option maxRecDepth 100000 in
theorem lp_X6_holdMore {n0 : Nat} {X : Nat × (Nat → Int32)} {P : Option Value → PSt → Prop} {d : Nat} (hd9 : 2 ≤ d) {sh : List PSh} {S : PSt} {r n : Nat} (hs : isSt sh r) (hn : n ≤ 32) (hz : S.1 r 7 = nI n) (hok : okW S r n) (hex : pV mX6_holdMore d n0 X sh P 57 [some (.ref r), some (.int (pB (anyB (newly S r) n))), some (.int (nI n))] [] (hm S r n)) : ∀ (m k : Nat), k + m = n → pV mX6_holdMore d n0 X sh P 4 [some (.ref r), some (.int (pB (anyB (newly S r) k))), some (.int (nI k))] [] (hm S r k) := by
  intro m
  induction m with
  | zero =>
    intro k hk
    have hk : k = n := by omega
    subst hk
    refine q_iload_n (pc := 4) (j := 2) rfl rfl ?_
    refine q_aload_n (pc := 5) (j := 0) rfl rfl ?_
    refine q_get (pc := 6) (a := r) (v := .int ((hm S r k).1 r 7)) rfl fl_X6_35 hs.1 rfl rfl ?_
    exact q_icmp_ge (pc := 9) 57 rfl (by decide) (fun _ => hex) (fun h9 => absurd (by rw [hm_sz, hz]; exact Int32.le_refl _) h9)
  | succ m ih =>
    intro k hk
    have hk1 : k < n := by omega
    refine q_iload_n (pc := 4) (j := 2) rfl rfl ?_
    refine q_aload_n (pc := 5) (j := 0) rfl rfl ?_
    refine q_get (pc := 6) (a := r) (v := .int ((hm S r k).1 r 7)) rfl fl_X6_35 hs.1 rfl rfl ?_
    refine q_st (st2 := [.int (nI n), .int (nI k)]) (by rw [(show ((hm S r k).1 r 7) = nI n from hm_sz.trans hz)]) ?_
    refine q_icmp_ge (pc := 9) 57 rfl (by decide) (fun h9 => absurd h9 (nI_ge hk1 (by omega))) (fun _ => ?_)
    refine q_aload_n (pc := 12) (j := 0) rfl rfl ?_
    refine q_get (pc := 13) (a := r) (v := .ref (r + 4)) rfl fl_X6_21 hs.1 rfl rfl ?_
    refine q_iload_n (pc := 16) (j := 2) rfl rfl ?_
    refine q_callS (pc := 17) (as := [.ref (r + 4), .int (nI k)]) (rest := []) (st2 := [.int (pB (decide ((hm S r k).1 (r + 4) k ≠ 0)))]) rfl ce_X8_readFlag ml_X6_83 st_X8_readFlag rfl (by omega) (Nat.le_of_ble_eq_true rfl) (sp_readFlagN (k := k) hs.2.2.2.2.1 (by omega) (by decide)) rfl ?_
    refine q_if_ne (pc := 20) 51 rfl (by decide) (fun h20 => ?_) (fun h20 => ?_)
    · have hy : newly S r k = false := by first | (rw [newly, show hd S r k = true from decide_eq_true (by have := pB_dec h20; rwa [hm_at] at this)]; rfl) | (rw [newly, show flt (wan S r k) (S.2.1 (r + 3) k) = false from decide_eq_false (Int32.not_lt.mpr h37)]; simp)
      refine q_iinc (pc := 51) (j := 2) (n := 1) (nI (k + 1)) [some (.ref r), some (.int (pB (anyB (newly S r) k))), some (.int (nI (k + 1)))] rfl (by decide) rfl (nI_1 k) rfl ?_
      refine q_goto (pc := 54) 4 rfl (by decide) ?_
      exact q_L (by rw [anyB_s, hy, Bool.or_false]) (q_S (hm_n hy) (ih (k + 1) (by omega)))
    · refine q_aload_n (pc := 23) (j := 0) rfl rfl ?_
      refine q_iload_n (pc := 24) (j := 2) rfl rfl ?_
      refine q_callV (pc := 25) (as := [.int (nI k)]) (rest := []) (b := r) (st2 := [.float (wan (hm S r k) r k)]) rfl ce_X6_stretched ml_X6_91 im_X6_stretched se_X6_stretched hs.1 rfl rfl rfl (by omega) (Nat.le_of_ble_eq_true rfl) (sp_X6_stretched (k := k) hs (by omega) (hok k hk1)) rfl ?_
      refine q_aload_n (pc := 28) (j := 0) rfl rfl ?_
      refine q_get (pc := 29) (a := r) (v := .ref (r + 3)) rfl fl_X6_18 hs.1 rfl rfl ?_
      refine q_iload_n (pc := 32) (j := 2) rfl rfl ?_
      refine q_callS (pc := 33) (as := [.ref (r + 3), .int (nI k)]) (rest := [.float (wan (hm S r k) r k)]) (st2 := [.float ((hm S r k).2.1 (r + 3) k), .float (wan (hm S r k) r k)]) rfl ce_X8_readFloat ml_X6_87 st_X8_readFloat rfl (by omega) (Nat.le_of_ble_eq_true rfl) (sp_readFloatN (k := k) hs.2.2.2.1 (by omega) (by decide)) rfl ?_
      refine q_fcmp (pc := 36) (op := .g) rfl ?_
      refine q_if_ge (pc := 37) 51 rfl (by decide) (fun h37 => ?_) (fun h37 => ?_)
      · have hy : newly S r k = false := by first | (rw [newly, show hd S r k = true from decide_eq_true (by have := pB_dec h20; rwa [hm_at] at this)]; rfl) | (rw [newly, show flt (wan S r k) (S.2.1 (r + 3) k) = false from decide_eq_false (Int32.not_lt.mpr h37)]; simp)
        refine q_iinc (pc := 51) (j := 2) (n := 1) (nI (k + 1)) [some (.ref r), some (.int (pB (anyB (newly S r) k))), some (.int (nI (k + 1)))] rfl (by decide) rfl (nI_1 k) rfl ?_
        refine q_goto (pc := 54) 4 rfl (by decide) ?_
        exact q_L (by rw [anyB_s, hy, Bool.or_false]) (q_S (hm_n hy) (ih (k + 1) (by omega)))
      · refine q_aload_n (pc := 40) (j := 0) rfl rfl ?_
        refine q_get (pc := 41) (a := r) (v := .ref (r + 4)) rfl fl_X6_21 hs.1 rfl rfl ?_
        refine q_iload_n (pc := 44) (j := 2) rfl rfl ?_
        refine q_iconst (pc := 45) 1 rfl (by decide) ?_
        refine q_callS (pc := 46) (as := [.ref (r + 4), .int (nI k), .int 1]) (rest := []) (st2 := []) rfl ce_X8_writeFlag ml_X6_71 st_X8_writeFlag rfl (by omega) (Nat.le_of_ble_eq_true rfl) (sp_writeFlagN (k := k) hs.2.2.2.2.1 (by omega) (by decide) (by decide)) rfl ?_
        refine q_iconst (pc := 49) 1 rfl (by decide) ?_
        refine q_istore_n (pc := 50) (j := 1) [some (.ref r), some (.int 1), some (.int (nI k))] rfl (by decide) rfl ?_
        have hy : newly S r k = true := by rw [newly, show hd S r k = false from decide_eq_false (fun q => (pB_ndec h20) (by rw [hm_at]; exact q)), show flt (wan S r k) (S.2.1 (r + 3) k) = true from decide_eq_true (Int32.not_le.mp h37)]; rfl
        refine q_iinc (pc := 51) (j := 2) (n := 1) (nI (k + 1)) [some (.ref r), some (.int 1), some (.int (nI (k + 1)))] rfl (by decide) rfl (nI_1 k) rfl ?_
        refine q_goto (pc := 54) 4 rfl (by decide) ?_
        exact q_L (by rw [anyB_s, hy, Bool.or_true]; rfl) (q_S (hm_y hy) (ih (k + 1) (by omega)))
set_option maxRecDepth 100000 in
theorem sp_X6_holdMore {sh : List PSh} {S : PSt} {r n : Nat} (hs : isSt sh r) (hn : n ≤ 32) (hz : S.1 r 7 = nI n) (hok : okW S r n) : pF mX6_holdMore 2 [.ref r] sh S (hm S r n) (some (.int (pB (anyB (newly S r) n)))) := by
  refine pF.of (pG.of [some (.ref r), none, none] (by decide) tk_X6_holdMore (Nat.le_of_ble_eq_true rfl) rfl (fun X => ?_))
  refine q_iconst (pc := 0) 0 rfl (by decide) ?_
  refine q_istore_n (pc := 1) (j := 1) [some (.ref r), some (.int 0), none] rfl (by decide) rfl ?_
  refine q_iconst (pc := 2) 0 rfl (by decide) ?_
  refine q_istore_n (pc := 3) (j := 2) [some (.ref r), some (.int 0), some (.int 0)] rfl (by decide) rfl ?_
  refine q_S hm_0.symm (lp_X6_holdMore (Nat.le_refl _) hs hn hz hok ?_ n 0 (Nat.zero_add n))
  refine q_iload_n (pc := 57) (j := 1) rfl rfl ?_
  exact q_zret (pc := 58) rfl rfl (pB_nar _) ⟨rfl, rfl⟩
set_option maxRecDepth 100000 in
theorem lp_X6_take {n0 : Nat} {X : Nat × (Nat → Int32)} {P : Option Value → PSt → Prop} {d : Nat} (hd9 : 2 ≤ d) {sh : List PSh} {S : PSt} {r q a n b : Nat} {w : Int32} (hs : isSt sh r) (hq : isSg sh q) (hqr : q + 1 ≠ r) (hn : n ≤ 32) (hab : b + 1 = a + n) (hb : b < 32) (hdur : ∀ i, a ≤ i → i < a + n → ¬ S.1 (q + 1) (5 * i + 0) = 2 → isDur (S.1 (q + 1) (5 * i + 1))) (hex : ∀ x, pV mX6_take d n0 X sh P 113 [some (.ref r), some (.ref q), some (.int (nI a)), some (.int (nI b)), some (.int w), some (.int (nI (a + n))), x] [] (tk S r q a w n)) : ∀ (m k : Nat) (x : Option Value), k + m = n → pV mX6_take d n0 X sh P 25 [some (.ref r), some (.ref q), some (.int (nI a)), some (.int (nI b)), some (.int w), some (.int (nI (a + k))), x] [] (tk S r q a w k) := by
  intro m
  induction m with
  | zero =>
    intro k x hk
    have hk : k = n := by omega
    subst hk
    refine q_iload (pc := 25) (j := 5) rfl rfl ?_
    refine q_iload_n (pc := 27) (j := 3) rfl rfl ?_
    exact q_icmp_gt (pc := 28) 113 rfl (by decide) (fun _ => hex x) (fun h9 => absurd (nI_lt (by omega) (by omega)) h9)
  | succ m ih =>
    intro k x hk
    have hk1 : k < n := by omega
    refine q_iload (pc := 25) (j := 5) rfl rfl ?_
    refine q_iload_n (pc := 27) (j := 3) rfl rfl ?_
    refine q_icmp_gt (pc := 28) 113 rfl (by decide) (fun h9 => absurd h9 (nI_nlt (by omega) (by omega))) (fun _ => ?_)
    refine q_aload_n (pc := 31) (j := 0) rfl rfl ?_
    refine q_get (pc := 32) (a := r) (v := .int ((tk S r q a w k).1 r 7)) rfl fl_X6_35 hs.1 rfl rfl ?_
    refine q_st (st2 := [.int (nI k)]) (by rw [(show ((tk S r q a w k).1 r 7) = nI k from tk_sz (S := S) (r := r) (q := q) (a := a) (w := w) (k := k))]) ?_
    refine q_bipush (pc := 35) 32 rfl (by decide) ?_
    refine q_icmp_ge (pc := 37) 113 rfl (by decide) (fun h9 => absurd h9 (nI_ge (b := 32) (by omega) (by decide))) (fun _ => ?_)
    refine q_aload_n (pc := 40) (j := 1) rfl rfl ?_
    refine q_iload (pc := 41) (j := 5) rfl rfl ?_
    refine q_callV (pc := 43) (as := [.int (nI (a + k))]) (rest := []) (b := q) (st2 := [.float (idF ((tk S r q a w k).1 (q + 1) (5 * (a + k) + 0)) ((tk S r q a w k).1 (q + 1) (5 * (a + k) + 1)))]) rfl ce_X4_ideal ml_X6_45 im_X4_ideal se_X4_ideal hq.1 rfl rfl rfl (by omega) (Nat.le_of_ble_eq_true rfl) (sp_X4_ideal (c := (a + k)) hq (by omega) (by rw [tk_I (S := S) (r := r) (q := q) (a := a) (w := w) (k := k) hqr]; exact hdur (a + k) (by omega) (by omega))) rfl ?_
    refine q_st (st2 := [.float (idC S q (a + k))]) (by rw [(show (idF ((tk S r q a w k).1 (q + 1) (5 * (a + k) + 0)) ((tk S r q a w k).1 (q + 1) (5 * (a + k) + 1))) = idC S q (a + k) from by rw [tk_I (S := S) (r := r) (q := q) (a := a) (w := w) (k := k) hqr]; rfl)]) ?_
    refine q_fstore (pc := 46) (j := 6) [some (.ref r), some (.ref q), some (.int (nI a)), some (.int (nI b)), some (.int w), some (.int (nI (a + k))), some (.float (idC S q (a + k)))] rfl (by decide) rfl ?_
    refine q_aload_n (pc := 48) (j := 0) rfl rfl ?_
    refine q_get (pc := 49) (a := r) (v := .ref (r + 1)) rfl fl_X6_9 hs.1 rfl rfl ?_
    refine q_aload_n (pc := 52) (j := 0) rfl rfl ?_
    refine q_get (pc := 53) (a := r) (v := .int ((tk S r q a w k).1 r 7)) rfl fl_X6_35 hs.1 rfl rfl ?_
    refine q_st (st2 := [.int (nI k), .ref (r + 1)]) (by rw [(show ((tk S r q a w k).1 r 7) = nI k from tk_sz (S := S) (r := r) (q := q) (a := a) (w := w) (k := k))]) ?_
    refine q_fload (pc := 56) (j := 6) rfl rfl ?_
    refine q_callS (pc := 58) (as := [.ref (r + 1), .int (nI k), .float (idC S q (a + k))]) (rest := []) (st2 := []) rfl ce_X8_writeFloat ml_X6_51 st_X8_writeFloat rfl (by omega) (Nat.le_of_ble_eq_true rfl) (sp_writeFloatN (k := k) hs.2.1 (by omega) (by decide)) rfl ?_
    refine q_aload_n (pc := 61) (j := 0) rfl rfl ?_
    refine q_get (pc := 62) (a := r) (v := .ref (r + 2)) rfl fl_X6_15 hs.1 rfl rfl ?_
    refine q_aload_n (pc := 65) (j := 0) rfl rfl ?_
    refine q_get (pc := 66) (a := r) (v := .int ((pSF (tk S r q a w k) (r + 1) k (idC S q (a + k))).1 r 7)) rfl fl_X6_35 hs.1 rfl rfl ?_
    refine q_st (st2 := [.int (nI k), .ref (r + 2)]) (by rw [(show ((pSF (tk S r q a w k) (r + 1) k (idC S q (a + k))).1 r 7) = nI k from tk_sz (S := S) (r := r) (q := q) (a := a) (w := w) (k := k))]) ?_
    refine q_aload_n (pc := 69) (j := 1) rfl rfl ?_
    refine q_iload (pc := 70) (j := 5) rfl rfl ?_
    refine q_fload (pc := 72) (j := 6) rfl rfl ?_
    refine q_callV (pc := 74) (as := [.int (nI (a + k)), .float (idC S q (a + k))]) (rest := [.int (nI k), .ref (r + 2)]) (b := q) (st2 := [.float (flF ((pSF (tk S r q a w k) (r + 1) k (idC S q (a + k))).1 (q + 1) (5 * (a + k) + 0)) (idC S q (a + k))), .int (nI k), .ref (r + 2)]) rfl ce_X4_flex ml_X6_55 im_X4_flex se_X4_flex hq.1 rfl rfl rfl (by omega) (Nat.le_of_ble_eq_true rfl) (sp_X4_flex (c := (a + k)) hq (by omega) (by intro h9; exact fl_n (hdur (a + k) (by omega) (by omega) (by rw [show ∀ x, (pSF (tk S r q a w k) (r + 1) k x).1 (q + 1) = S.1 (q + 1) from fun x => tk_I (S := S) (r := r) (q := q) (a := a) (w := w) (k := k) hqr] at h9; exact h9)) (by rw [show ∀ x, (pSF (tk S r q a w k) (r + 1) k x).1 (q + 1) = S.1 (q + 1) from fun x => tk_I (S := S) (r := r) (q := q) (a := a) (w := w) (k := k) hqr] at h9; exact h9))) rfl ?_
    refine q_st (st2 := [.float (flC S q (a + k)), .int (nI k), .ref (r + 2)]) (by rw [(show (flF ((pSF (tk S r q a w k) (r + 1) k (idC S q (a + k))).1 (q + 1) (5 * (a + k) + 0)) (idC S q (a + k))) = flC S q (a + k) from by rw [show (pSF (tk S r q a w k) (r + 1) k (idC S q (a + k))).1 (q + 1) = S.1 (q + 1) from tk_I (S := S) (r := r) (q := q) (a := a) (w := w) (k := k) hqr]; rfl)]) ?_
    refine q_callS (pc := 77) (as := [.ref (r + 2), .int (nI k), .float (flC S q (a + k))]) (rest := []) (st2 := []) rfl ce_X8_writeFloat ml_X6_51 st_X8_writeFloat rfl (by omega) (Nat.le_of_ble_eq_true rfl) (sp_writeFloatN (k := k) hs.2.2.1 (by omega) (by decide)) rfl ?_
    refine q_aload_n (pc := 80) (j := 0) rfl rfl ?_
    refine q_get (pc := 81) (a := r) (v := .ref (r + 3)) rfl fl_X6_18 hs.1 rfl rfl ?_
    refine q_aload_n (pc := 84) (j := 0) rfl rfl ?_
    refine q_get (pc := 85) (a := r) (v := .int ((pSF (pSF (tk S r q a w k) (r + 1) k (idC S q (a + k))) (r + 2) k (flC S q (a + k))).1 r 7)) rfl fl_X6_35 hs.1 rfl rfl ?_
    refine q_st (st2 := [.int (nI k), .ref (r + 3)]) (by rw [(show ((pSF (pSF (tk S r q a w k) (r + 1) k (idC S q (a + k))) (r + 2) k (flC S q (a + k))).1 r 7) = nI k from tk_sz (S := S) (r := r) (q := q) (a := a) (w := w) (k := k))]) ?_
    refine q_aload_n (pc := 88) (j := 1) rfl rfl ?_
    refine q_iload (pc := 89) (j := 5) rfl rfl ?_
    refine q_callV (pc := 91) (as := [.int (nI (a + k))]) (rest := [.int (nI k), .ref (r + 3)]) (b := q) (st2 := [.float (roF ((pSF (pSF (tk S r q a w k) (r + 1) k (idC S q (a + k))) (r + 2) k (flC S q (a + k))).1 (q + 1) (5 * (a + k) + 3))), .int (nI k), .ref (r + 3)]) rfl ce_X4_rod ml_X6_59 im_X4_rod se_X4_rod hq.1 rfl rfl rfl (by omega) (Nat.le_of_ble_eq_true rfl) (sp_X4_rod (c := (a + k)) hq (by omega)) rfl ?_
    refine q_st (st2 := [.float (roC S q (a + k)), .int (nI k), .ref (r + 3)]) (by rw [(show (roF ((pSF (pSF (tk S r q a w k) (r + 1) k (idC S q (a + k))) (r + 2) k (flC S q (a + k))).1 (q + 1) (5 * (a + k) + 3))) = roC S q (a + k) from by rw [show (pSF (pSF (tk S r q a w k) (r + 1) k (idC S q (a + k))) (r + 2) k (flC S q (a + k))).1 (q + 1) = S.1 (q + 1) from tk_I (S := S) (r := r) (q := q) (a := a) (w := w) (k := k) hqr]; rfl)]) ?_
    refine q_callS (pc := 94) (as := [.ref (r + 3), .int (nI k), .float (roC S q (a + k))]) (rest := []) (st2 := []) rfl ce_X8_writeFloat ml_X6_51 st_X8_writeFloat rfl (by omega) (Nat.le_of_ble_eq_true rfl) (sp_writeFloatN (k := k) hs.2.2.2.1 (by omega) (by decide)) rfl ?_
    refine q_aload_n (pc := 97) (j := 0) rfl rfl ?_
    refine q_dup (pc := 98) rfl rfl ?_
    refine q_get (pc := 99) (a := r) (v := .int ((pSF (pSF (pSF (tk S r q a w k) (r + 1) k (idC S q (a + k))) (r + 2) k (flC S q (a + k))) (r + 3) k (roC S q (a + k))).1 r 7)) rfl fl_X6_35 hs.1 rfl rfl ?_
    refine q_st (st2 := [.int (nI k), .ref r]) (by rw [(show ((pSF (pSF (pSF (tk S r q a w k) (r + 1) k (idC S q (a + k))) (r + 2) k (flC S q (a + k))) (r + 3) k (roC S q (a + k))).1 r 7) = nI k from tk_sz (S := S) (r := r) (q := q) (a := a) (w := w) (k := k))]) ?_
    refine q_iconst (pc := 102) 1 rfl (by decide) ?_
    refine q_iadd (pc := 103) rfl ?_
    refine q_st (st2 := [.int (nI (k + 1)), .ref r]) (by rw [(nI_1 k)]) ?_
    refine q_putI (pc := 104) (a := r) rfl fl_X6_35 hs.1 rfl (fun _ h9 => by cases h9; rfl) rfl rfl ?_
    refine q_iinc (pc := 107) (j := 5) (n := 1) (nI (a + (k + 1))) [some (.ref r), some (.ref q), some (.int (nI a)), some (.int (nI b)), some (.int w), some (.int (nI (a + (k + 1)))), some (.float (idC S q (a + k)))] rfl (by decide) rfl (nI_1 (a + k)) rfl ?_
    refine q_goto (pc := 110) 25 rfl (by decide) ?_
    exact q_S tk_s (ih (k + 1) _ (by omega))
set_option maxRecDepth 100000 in
theorem sp_X6_take {sh : List PSh} {S : PSt} {r q a n b : Nat} {w : Int32} (hs : isSt sh r) (hq : isSg sh q) (hqr : q + 1 ≠ r) (hn : n ≤ 32) (hab : b + 1 = a + n) (hb : b < 32) (hdur : ∀ i, a ≤ i → i < a + n → ¬ S.1 (q + 1) (5 * i + 0) = 2 → isDur (S.1 (q + 1) (5 * i + 1)))  : pF mX6_take 2 [.ref r, .ref q, .int (nI a), .int (nI b), .int w] sh S (tk S r q a w n) (none) := by
  refine pF.of (pG.of [some (.ref r), some (.ref q), some (.int (nI a)), some (.int (nI b)), some (.int w), none, none] (by decide) tk_X6_take (Nat.le_of_ble_eq_true rfl) rfl (fun X => ?_))
  refine q_aload_n (pc := 0) (j := 0) rfl rfl ?_
  refine q_iload_n (pc := 1) (j := 2) rfl rfl ?_
  refine q_putI (pc := 2) (a := r) rfl fl_X6_31 hs.1 rfl (fun _ h9 => by cases h9; rfl) rfl rfl ?_
  refine q_aload_n (pc := 5) (j := 0) rfl rfl ?_
  refine q_iconst (pc := 6) 0 rfl (by decide) ?_
  refine q_putI (pc := 7) (a := r) rfl fl_X6_35 hs.1 rfl (fun _ h9 => by cases h9; rfl) rfl rfl ?_
  refine q_aload_n (pc := 10) (j := 0) rfl rfl ?_
  refine q_iload (pc := 11) (j := 4) rfl rfl ?_
  refine q_i2f (pc := 13) rfl ?_
  refine q_putF (pc := 14) (a := r) rfl fl_X6_38 hs.1 rfl (fun _ h9 => by cases h9; rfl) rfl rfl ?_
  refine q_aload_n (pc := 17) (j := 1) rfl rfl ?_
  refine q_ifnonnull (pc := 18) 22 rfl (by decide) ?_
  refine q_iload_n (pc := 22) (j := 2) rfl rfl ?_
  refine q_istore (pc := 23) (j := 5) [some (.ref r), some (.ref q), some (.int (nI a)), some (.int (nI b)), some (.int w), some (.int (nI a)), none] rfl (by decide) rfl ?_
  refine q_S tk_0 (lp_X6_take (Nat.le_refl _) hs hq hqr hn hab hb hdur (fun x => ?_) n 0 _ (Nat.zero_add n))
  exact q_vret (pc := 113) rfl rfl ⟨rfl, rfl⟩
end
section
/-! Stretch, settle and readers: written by wip/whole/gen/c16.py -/
def cfS (T : PSt) (r k : Nat) : PSt := (fun c j => if c = r + 4 ∧ j < k then 0 else T.1 c j, T.2)
theorem cf_0 {T : PSt} {r : Nat} : cfS T r 0 = T := by
  unfold cfS
  refine Prod.ext (funext fun c => funext fun j => ?_) rfl
  dsimp only; rw [if_neg (by omega)]
theorem cf_s {T : PSt} {r k : Nat} : pSI (cfS T r k) (r + 4) k 0 = cfS T r (k + 1) := by
  unfold cfS pSI pU
  refine Prod.ext (funext fun c => funext fun j => ?_) rfl
  dsimp only; (repeat' split) <;> first | rfl | (exfalso; omega)
theorem cf_sz {T : PSt} {r k : Nat} : (cfS T r k).1 r 7 = T.1 r 7 := by simp [cfS]
theorem sameSp_cf {S : PSt} {r k : Nat} : sameSp S (cfS S r k) r := ⟨rfl, rfl, rfl, rfl, by simp [cfS]⟩
theorem sameSp_rf {S : PSt} {r : Nat} : sameSp S S r := ⟨rfl, rfl, rfl, rfl, rfl⟩
theorem sameSp_tr {S T U : PSt} {r : Nat} (h : sameSp S T r) (h2 : sameSp T U r) : sameSp S U r := ⟨h2.1.trans h.1, h2.2.1.trans h.2.1, h2.2.2.1.trans h.2.2.1, h2.2.2.2.1.trans h.2.2.2.1, h2.2.2.2.2.trans h.2.2.2.2⟩
theorem rnd_same {r n : Nat} : ∀ (m : Nat) (S : PSt), sameSp S (rndS r n m S) r := by
  intro m
  induction m with
  | zero => intro S; exact sameSp_rf
  | succ m ih =>
    intro S
    unfold rndS
    split
    · exact sameSp_tr sameSp_rd1 (ih _)
    · exact sameSp_rd1
theorem rnd_okW {r n : Nat} : ∀ (m : Nat) (S : PSt), okSp S r n → okW (rndS r n (m + 1) S) r n := by
  intro m
  induction m with
  | zero =>
    intro S h
    have h1 : okW (rd1 S r n) r n := (h S sameSp_rf).2
    show okW (if chg S r n then rndS r n 0 (rd1 S r n) else rd1 S r n) r n
    split
    · exact h1
    · exact h1
  | succ m ih =>
    intro S h
    show okW (if chg S r n then rndS r n (m + 1) (rd1 S r n) else rd1 S r n) r n
    split
    · exact ih _ (h.mono sameSp_rd1)
    · exact (h S sameSp_rf).2
theorem ln_0 {T : PSt} {r : Nat} : lnS T r 0 = T := by
  unfold lnS
  refine Prod.ext rfl (Prod.ext (funext fun c => funext fun j => ?_) rfl)
  dsimp only; rw [if_neg (by omega), if_neg (by omega)]
theorem ln_s {T : PSt} {r k : Nat} : pSF (pSF (lnS T r k) (r + 5) k (lenS T r k)) (r + 6) k (sumF (lenS T r) k) = lnS T r (k + 1) := by
  unfold lnS pSF pU
  refine Prod.ext rfl (Prod.ext (funext fun c => funext fun j => ?_) rfl)
  dsimp only
  by_cases hj : j = k
  · subst hj; (repeat' split) <;> first | rfl | (exfalso; omega)
  · (repeat' split) <;> first | rfl | (exfalso; omega)
theorem ln_wan {T : PSt} {r k j : Nat} : wan (lnS T r k) r j = wan T r j := by simp [wan, lnS]
/-- a stretch laid out -/
def stl (S : PSt) (r q a : Nat) (w : Int32) (n : Nat) : PSt := lnS (rndS r n 33 (cfS (tk S r q a w n) r n)) r n

set_option maxRecDepth 100000 in
theorem lp_X6_settleA {n0 : Nat} {X : Nat × (Nat → Int32)} {P : Option Value → PSt → Prop} {d : Nat} (hd9 : 1 ≤ d) {sh : List PSh} {T : PSt} {r q a n b : Nat} {w : Int32} (hs : isSt sh r) (hn : n ≤ 32) (hz : T.1 r 7 = nI n) (hex : pV mX6_settle d n0 X sh P 37 [some (.ref r), some (.ref q), some (.int (nI a)), some (.int (nI b)), some (.int w), some (.int (nI n)), none, none] [] (cfS T r n)) : ∀ (m k : Nat), k + m = n → pV mX6_settle d n0 X sh P 12 [some (.ref r), some (.ref q), some (.int (nI a)), some (.int (nI b)), some (.int w), some (.int (nI k)), none, none] [] (cfS T r k) := by
  intro m
  induction m with
  | zero =>
    intro k hk
    have hk : k = n := by omega
    subst hk
    refine q_iload (pc := 12) (j := 5) rfl rfl ?_
    refine q_aload_n (pc := 14) (j := 0) rfl rfl ?_
    refine q_get (pc := 15) (a := r) (v := .int ((cfS T r k).1 r 7)) rfl fl_X6_35 hs.1 rfl rfl ?_
    exact q_icmp_ge (pc := 18) 37 rfl (by decide) (fun _ => hex) (fun h9 => absurd (by rw [cf_sz, hz]; exact Int32.le_refl _) h9)
  | succ m ih =>
    intro k hk
    have hk1 : k < n := by omega
    refine q_iload (pc := 12) (j := 5) rfl rfl ?_
    refine q_aload_n (pc := 14) (j := 0) rfl rfl ?_
    refine q_get (pc := 15) (a := r) (v := .int ((cfS T r k).1 r 7)) rfl fl_X6_35 hs.1 rfl rfl ?_
    refine q_st (st2 := [.int (nI n), .int (nI k)]) (by rw [(show ((cfS T r k).1 r 7) = nI n from (cf_sz (T := T) (r := r) (k := k)).trans hz)]) ?_
    refine q_icmp_ge (pc := 18) 37 rfl (by decide) (fun h9 => absurd h9 (nI_ge hk1 (by omega))) (fun _ => ?_)
    refine q_aload_n (pc := 21) (j := 0) rfl rfl ?_
    refine q_get (pc := 22) (a := r) (v := .ref (r + 4)) rfl fl_X6_21 hs.1 rfl rfl ?_
    refine q_iload (pc := 25) (j := 5) rfl rfl ?_
    refine q_iconst (pc := 27) 0 rfl (by decide) ?_
    refine q_callS (pc := 28) (as := [.ref (r + 4), .int (nI k), .int 0]) (rest := []) (st2 := []) rfl ce_X8_writeFlag ml_X6_71 st_X8_writeFlag rfl (by omega) (Nat.le_of_ble_eq_true rfl) (sp_writeFlagN (k := k) hs.2.2.2.2.1 (by omega) (by decide) (by decide)) rfl ?_
    refine q_iinc (pc := 31) (j := 5) (n := 1) (nI (k + 1)) [some (.ref r), some (.ref q), some (.int (nI a)), some (.int (nI b)), some (.int w), some (.int (nI (k + 1))), none, none] rfl (by decide) rfl (nI_1 k) rfl ?_
    refine q_goto (pc := 34) 12 rfl (by decide) ?_
    exact q_S cf_s (ih (k + 1) (by omega))
set_option maxRecDepth 100000 in
theorem lp_X6_settleB {n0 : Nat} {X : Nat × (Nat → Int32)} {P : Option Value → PSt → Prop} {d : Nat} (hd9 : 3 ≤ d) {sh : List PSh} {T : PSt} {r q a n b : Nat} {w : Int32} (hs : isSt sh r) (hn : n ≤ 32) (hz : T.1 r 7 = nI n) {F : PSt} (hok : okSp T r n) (hex : ∀ x y : Int32, pV mX6_settle d n0 X sh P 83 [some (.ref r), some (.ref q), some (.int (nI a)), some (.int (nI b)), some (.int w), some (.int x), some (.int y), none] [] F) : ∀ (m j : Nat) (S1 : PSt), j + m = 33 → sameSp T S1 r → rndS r n m S1 = F → pV mX6_settle d n0 X sh P 43 [some (.ref r), some (.ref q), some (.int (nI a)), some (.int (nI b)), some (.int w), some (.int 0), some (.int (nI j)), none] [] S1 := by
  intro m
  induction m with
  | zero =>
    intro j S1 hj hsm hF
    have hj : j = 33 := by omega
    subst hj
    have hF : S1 = F := hF
    subst hF
    refine q_iload (pc := 43) (j := 6) rfl rfl ?_
    refine q_bipush (pc := 45) 32 rfl (by decide) ?_
    exact q_icmp_gt (pc := 47) 83 rfl (by decide) (fun _ => hex _ _) (fun h9 => absurd (by decide : (32 : Int32) < nI 33) h9)
  | succ m ih =>
    intro j S1 hj hsm hF
    have hk1 : j < 33 := by omega
    refine q_iload (pc := 43) (j := 6) rfl rfl ?_
    refine q_bipush (pc := 45) 32 rfl (by decide) ?_
    refine q_icmp_gt (pc := 47) 83 rfl (by decide) (fun h9 => absurd h9 (nI_nlt (a := 32) (b := j) (by omega) (by decide))) (fun _ => ?_)
    refine q_iload (pc := 50) (j := 5) rfl rfl ?_
    refine q_if_ne (pc := 52) 83 rfl (by decide) (fun h9 => absurd h9 (by decide : ¬ ¬ (0 : Int32) = 0)) (fun _ => ?_)
    refine q_aload_n (pc := 55) (j := 0) rfl rfl ?_
    refine q_aload_n (pc := 56) (j := 0) rfl rfl ?_
    refine q_callV (pc := 57) (as := []) (rest := [.ref r]) (b := r) (st2 := [.float (balS S1 r n), .ref r]) rfl ce_X6_balance ml_X6_75 im_X6_balance se_X6_balance hs.1 rfl rfl rfl (by omega) (Nat.le_of_ble_eq_true rfl) (sp_X6_balance (n := n) hs hn (hsm.2.2.2.2.trans hz) (hok S1 hsm).1) rfl ?_
    refine q_putF (pc := 60) (a := r) rfl fl_X6_42 hs.1 rfl (fun _ h9 => by cases h9; rfl) rfl rfl ?_
    refine q_aload_n (pc := 63) (j := 0) rfl rfl ?_
    refine q_callV (pc := 64) (as := []) (rest := []) (b := r) (st2 := [.int (pB (anyB (newly (pSF S1 r 9 (balS S1 r n)) r) n))]) rfl ce_X6_holdMore ml_X6_79 im_X6_holdMore se_X6_holdMore hs.1 rfl rfl rfl (by omega) (Nat.le_of_ble_eq_true rfl) (sp_X6_holdMore (n := n) hs hn (show (pSF S1 r 9 (balS S1 r n)).1 r 7 = nI n from hsm.2.2.2.2.trans hz) (hok S1 hsm).2) rfl ?_
    refine q_if_ne (pc := 67) 74 rfl (by decide) (fun h67 => ?_) (fun h67 => ?_)
    · refine q_iconst (pc := 74) 0 rfl (by decide) ?_
      refine q_istore (pc := 75) (j := 5) [some (.ref r), some (.ref q), some (.int (nI a)), some (.int (nI b)), some (.int w), some (.int 0), some (.int (nI j)), none] rfl (by decide) rfl ?_
      refine q_iinc (pc := 77) (j := 6) (n := 1) (nI (j + 1)) [some (.ref r), some (.ref q), some (.int (nI a)), some (.int (nI b)), some (.int w), some (.int 0), some (.int (nI (j + 1))), none] rfl (by decide) rfl (nI_1 j) rfl ?_
      refine q_goto (pc := 80) 43 rfl (by decide) ?_
      exact ih (j + 1) (rd1 S1 r n) (by omega) (sameSp_tr hsm sameSp_rd1) (by rw [← hF]; exact (if_pos (pB_t h67)).symm)
    · refine q_iconst (pc := 70) 1 rfl (by decide) ?_
      refine q_goto (pc := 71) 75 rfl (by decide) ?_
      refine q_istore (pc := 75) (j := 5) [some (.ref r), some (.ref q), some (.int (nI a)), some (.int (nI b)), some (.int w), some (.int 1), some (.int (nI j)), none] rfl (by decide) rfl ?_
      refine q_iinc (pc := 77) (j := 6) (n := 1) (nI (j + 1)) [some (.ref r), some (.ref q), some (.int (nI a)), some (.int (nI b)), some (.int w), some (.int 1), some (.int (nI (j + 1))), none] rfl (by decide) rfl (nI_1 j) rfl ?_
      refine q_goto (pc := 80) 43 rfl (by decide) ?_
      refine q_iload (pc := 43) (j := 6) rfl rfl ?_
      refine q_bipush (pc := 45) 32 rfl (by decide) ?_
      refine q_icmp_gt (pc := 47) 83 rfl (by decide) (fun h47 => ?_) (fun h47 => ?_)
      · exact q_S (by rw [← hF]; exact (if_neg (fun q => by rw [chg] at q; rw [q] at h67; exact absurd h67 (by decide))).symm) (hex _ _)
      · refine q_iload (pc := 50) (j := 5) rfl rfl ?_
        refine q_if_ne (pc := 52) 83 rfl (by decide) (fun _ => ?_) (fun h9 => absurd h9 (by decide : (1 : Int32) = 0 → False))
        exact q_S (by rw [← hF]; exact (if_neg (fun q => by rw [chg] at q; rw [q] at h67; exact absurd h67 (by decide))).symm) (hex _ _)
set_option maxRecDepth 100000 in
theorem lp_X6_settleC {n0 : Nat} {X : Nat × (Nat → Int32)} {P : Option Value → PSt → Prop} {d : Nat} (hd9 : 2 ≤ d) {sh : List PSh} {T : PSt} {r q a n b : Nat} {w : Int32} (hs : isSt sh r) (hn : n ≤ 32) (hz : T.1 r 7 = nI n) {x : Int32} (hokw : okW T r n) (hlen : ∀ k, k < n → vf_n32 (FP.fadd (sumF (lenS T r) k) (lenS T r k))) (hex : ∀ y, pV mX6_settle d n0 X sh P 168 [some (.ref r), some (.ref q), some (.int (nI a)), some (.int (nI b)), some (.int w), some (.int x), y, some (.int (nI n))] [] (lnS T r n)) : ∀ (m k : Nat), k + m = n → pV mX6_settle d n0 X sh P 89 [some (.ref r), some (.ref q), some (.int (nI a)), some (.int (nI b)), some (.int w), some (.int x), some (.float (sumF (lenS T r) k)), some (.int (nI k))] [] (lnS T r k) := by
  intro m
  induction m with
  | zero =>
    intro k hk
    have hk : k = n := by omega
    subst hk
    refine q_iload (pc := 89) (j := 7) rfl rfl ?_
    refine q_aload_n (pc := 91) (j := 0) rfl rfl ?_
    refine q_get (pc := 92) (a := r) (v := .int (T.1 r 7)) rfl fl_X6_35 hs.1 rfl rfl ?_
    exact q_icmp_ge (pc := 95) 168 rfl (by decide) (fun _ => hex _) (fun h9 => absurd (by rw [hz]; exact Int32.le_refl _) h9)
  | succ m ih =>
    intro k hk
    have hk1 : k < n := by omega
    refine q_iload (pc := 89) (j := 7) rfl rfl ?_
    refine q_aload_n (pc := 91) (j := 0) rfl rfl ?_
    refine q_get (pc := 92) (a := r) (v := .int ((lnS T r k).1 r 7)) rfl fl_X6_35 hs.1 rfl rfl ?_
    refine q_st (st2 := [.int (nI n), .int (nI k)]) (by rw [(show ((lnS T r k).1 r 7) = nI n from hz)]) ?_
    refine q_icmp_ge (pc := 95) 168 rfl (by decide) (fun h9 => absurd h9 (nI_ge hk1 (by omega))) (fun _ => ?_)
    refine q_aload_n (pc := 98) (j := 0) rfl rfl ?_
    refine q_get (pc := 99) (a := r) (v := .ref (r + 5)) rfl fl_X6_25 hs.1 rfl rfl ?_
    refine q_iload (pc := 102) (j := 7) rfl rfl ?_
    refine q_aload_n (pc := 104) (j := 0) rfl rfl ?_
    refine q_get (pc := 105) (a := r) (v := .ref (r + 4)) rfl fl_X6_21 hs.1 rfl rfl ?_
    refine q_iload (pc := 108) (j := 7) rfl rfl ?_
    refine q_callS (pc := 110) (as := [.ref (r + 4), .int (nI k)]) (rest := [.int (nI k), .ref (r + 5)]) (st2 := [.int (pB (decide ((lnS T r k).1 (r + 4) k ≠ 0))), .int (nI k), .ref (r + 5)]) rfl ce_X8_readFlag ml_X6_83 st_X8_readFlag rfl (by omega) (Nat.le_of_ble_eq_true rfl) (sp_readFlagN (k := k) hs.2.2.2.2.1 (by omega) (by decide)) rfl ?_
    refine q_join 134 [some (.ref r), some (.ref q), some (.int (nI a)), some (.int (nI b)), some (.int w), some (.int x), some (.float (sumF (lenS T r) k)), some (.int (nI k))] [.float (lenS T r k), .int (nI k), .ref (r + 5)] (lnS T r k) ?_ (fun key113 => ?_)
    · refine q_callS (pc := 134) (as := [.ref (r + 5), .int (nI k), .float (lenS T r k)]) (rest := []) (st2 := []) rfl ce_X8_writeFloat ml_X6_51 st_X8_writeFloat rfl (by omega) (Nat.le_of_ble_eq_true rfl) (sp_writeFloatN (k := k) hs.2.2.2.2.2.1 (by omega) (by decide)) rfl ?_
      refine q_aload_n (pc := 137) (j := 0) rfl rfl ?_
      refine q_get (pc := 138) (a := r) (v := .ref (r + 6)) rfl fl_X6_28 hs.1 rfl rfl ?_
      refine q_iload (pc := 141) (j := 7) rfl rfl ?_
      refine q_fload (pc := 143) (j := 6) rfl rfl ?_
      refine q_callS (pc := 145) (as := [.ref (r + 6), .int (nI k), .float (sumF (lenS T r) k)]) (rest := []) (st2 := []) rfl ce_X8_writeFloat ml_X6_51 st_X8_writeFloat rfl (by omega) (Nat.le_of_ble_eq_true rfl) (sp_writeFloatN (k := k) hs.2.2.2.2.2.2 (by omega) (by decide)) rfl ?_
      refine q_fload (pc := 148) (j := 6) rfl rfl ?_
      refine q_aload_n (pc := 150) (j := 0) rfl rfl ?_
      refine q_get (pc := 151) (a := r) (v := .ref (r + 5)) rfl fl_X6_25 hs.1 rfl rfl ?_
      refine q_iload (pc := 154) (j := 7) rfl rfl ?_
      refine q_callS (pc := 156) (as := [.ref (r + 5), .int (nI k)]) (rest := [.float (sumF (lenS T r) k)]) (st2 := [.float ((pSF (pSF (lnS T r k) (r + 5) k (lenS T r k)) (r + 6) k (sumF (lenS T r) k)).2.1 (r + 5) k), .float (sumF (lenS T r) k)]) rfl ce_X8_readFloat ml_X6_87 st_X8_readFloat rfl (by omega) (Nat.le_of_ble_eq_true rfl) (sp_readFloatN (k := k) hs.2.2.2.2.2.1 (by omega) (by decide)) rfl ?_
      refine q_st (st2 := [.float (lenS T r k), .float (sumF (lenS T r) k)]) (by rw [(show ((pSF (pSF (lnS T r k) (r + 5) k (lenS T r k)) (r + 6) k (sumF (lenS T r) k)).2.1 (r + 5) k) = lenS T r k by simp [pSF, pU])]) ?_
      refine q_fadd (pc := 159) rfl (hlen k hk1) ?_
      refine q_fstore (pc := 160) (j := 6) [some (.ref r), some (.ref q), some (.int (nI a)), some (.int (nI b)), some (.int w), some (.int x), some (.float (FP.fadd (sumF (lenS T r) k) (lenS T r k))), some (.int (nI k))] rfl (by decide) rfl ?_
      refine q_iinc (pc := 162) (j := 7) (n := 1) (nI (k + 1)) [some (.ref r), some (.ref q), some (.int (nI a)), some (.int (nI b)), some (.int w), some (.int x), some (.float (FP.fadd (sumF (lenS T r) k) (lenS T r k))), some (.int (nI (k + 1)))] rfl (by decide) rfl (nI_1 k) rfl ?_
      refine q_goto (pc := 165) 89 rfl (by decide) ?_
      exact q_S ln_s (ih (k + 1) (by omega))
    · refine q_if_eq (pc := 113) 128 rfl (by decide) (fun h113 => ?_) (fun h113 => ?_)
      · refine q_aload_n (pc := 128) (j := 0) rfl rfl ?_
        refine q_iload (pc := 129) (j := 7) rfl rfl ?_
        refine q_callV (pc := 131) (as := [.int (nI k)]) (rest := [.int (nI k), .ref (r + 5)]) (b := r) (st2 := [.float (wan (lnS T r k) r k), .int (nI k), .ref (r + 5)]) rfl ce_X6_stretched ml_X6_91 im_X6_stretched se_X6_stretched hs.1 rfl rfl rfl (by omega) (Nat.le_of_ble_eq_true rfl) (sp_X6_stretched (k := k) hs (by omega) (by have := hokw k hk1; exact ⟨by rw [show (lnS T r k).2.1 r 9 = T.2.1 r 9 by simp [lnS], show (lnS T r k).2.1 (r + 2) k = T.2.1 (r + 2) k by simp [lnS]]; exact this.1, by rw [ln_wan]; exact this.2⟩)) rfl ?_
        exact q_st (by rw [show lenS T r k = wan T r k from if_neg (pB_ndec (p := T.1 (r + 4) k ≠ 0) h113), ln_wan]) key113
      · refine q_aload_n (pc := 116) (j := 0) rfl rfl ?_
        refine q_get (pc := 117) (a := r) (v := .ref (r + 3)) rfl fl_X6_18 hs.1 rfl rfl ?_
        refine q_iload (pc := 120) (j := 7) rfl rfl ?_
        refine q_callS (pc := 122) (as := [.ref (r + 3), .int (nI k)]) (rest := [.int (nI k), .ref (r + 5)]) (st2 := [.float ((lnS T r k).2.1 (r + 3) k), .int (nI k), .ref (r + 5)]) rfl ce_X8_readFloat ml_X6_87 st_X8_readFloat rfl (by omega) (Nat.le_of_ble_eq_true rfl) (sp_readFloatN (k := k) hs.2.2.2.1 (by omega) (by decide)) rfl ?_
        refine q_goto (pc := 125) 134 rfl (by decide) ?_
        exact q_st (by rw [show lenS T r k = T.2.1 (r + 3) k from if_pos (pB_dec (p := T.1 (r + 4) k ≠ 0) h113), show (lnS T r k).2.1 (r + 3) k = T.2.1 (r + 3) k by simp [lnS]]) key113
set_option maxRecDepth 100000 in
theorem sp_X6_settle {sh : List PSh} {S : PSt} {r q a n b : Nat} {w : Int32} (hs : isSt sh r) (hq : isSg sh q) (hqr : q + 1 ≠ r) (hn : n ≤ 32) (hab : b + 1 = a + n) (hb : b < 32) (hdur : ∀ i, a ≤ i → i < a + n → ¬ S.1 (q + 1) (5 * i + 0) = 2 → isDur (S.1 (q + 1) (5 * i + 1))) (hsp : okSp (tk S r q a w n) r n) (hlen : ∀ k, k < n → vf_n32 (FP.fadd (sumF (lenS (rndS r n 33 (cfS (tk S r q a w n) r n)) r) k) (lenS (rndS r n 33 (cfS (tk S r q a w n) r n)) r k))) : pF mX6_settle 5 [.ref r, .ref q, .int (nI a), .int (nI b), .int w] sh S (stl S r q a w n) (none) := by
  refine pF.of (pG.of [some (.ref r), some (.ref q), some (.int (nI a)), some (.int (nI b)), some (.int w), none, none, none] (by decide) tk_X6_settle (Nat.le_of_ble_eq_true rfl) rfl (fun X => ?_))
  refine q_aload_n (pc := 0) (j := 0) rfl rfl ?_
  refine q_aload_n (pc := 1) (j := 1) rfl rfl ?_
  refine q_iload_n (pc := 2) (j := 2) rfl rfl ?_
  refine q_iload_n (pc := 3) (j := 3) rfl rfl ?_
  refine q_iload (pc := 4) (j := 4) rfl rfl ?_
  refine q_callV (pc := 6) (as := [.ref q, .int (nI a), .int (nI b), .int w]) (rest := []) (b := r) (st2 := []) rfl ce_X6_take ml_X6_67 im_X6_take se_X6_take hs.1 rfl rfl rfl (by decide) (Nat.le_of_ble_eq_true rfl) (sp_X6_take (n := n) hs hq hqr hn hab hb hdur) rfl ?_
  refine q_iconst (pc := 9) 0 rfl (by decide) ?_
  refine q_istore (pc := 10) (j := 5) [some (.ref r), some (.ref q), some (.int (nI a)), some (.int (nI b)), some (.int w), some (.int 0), none, none] rfl (by decide) rfl ?_
  refine q_S cf_0.symm (lp_X6_settleA (T := (tk S r q a w n)) (r := r) (q := q) (a := a) (b := b) (w := w) (by decide) hs hn tk_sz ?_ n 0 (Nat.zero_add n))
  refine q_iconst (pc := 37) 0 rfl (by decide) ?_
  refine q_istore (pc := 38) (j := 5) [some (.ref r), some (.ref q), some (.int (nI a)), some (.int (nI b)), some (.int w), some (.int 0), none, none] rfl (by decide) rfl ?_
  refine q_iconst (pc := 40) 0 rfl (by decide) ?_
  refine q_istore (pc := 41) (j := 6) [some (.ref r), some (.ref q), some (.int (nI a)), some (.int (nI b)), some (.int w), some (.int 0), some (.int 0), none] rfl (by decide) rfl ?_
  refine lp_X6_settleB (T := (tk S r q a w n)) (r := r) (q := q) (a := a) (b := b) (w := w) (F := (rndS r n 33 (cfS (tk S r q a w n) r n))) (by decide) hs hn tk_sz hsp (fun x y => ?_) 33 0 _ rfl sameSp_cf rfl
  refine q_fconst0 (pc := 83) rfl ?_
  refine q_fstore (pc := 84) (j := 6) [some (.ref r), some (.ref q), some (.int (nI a)), some (.int (nI b)), some (.int w), some (.int x), some (.float FP.fconst0), none] rfl (by decide) rfl ?_
  refine q_iconst (pc := 86) 0 rfl (by decide) ?_
  refine q_istore (pc := 87) (j := 7) [some (.ref r), some (.ref q), some (.int (nI a)), some (.int (nI b)), some (.int w), some (.int x), some (.float FP.fconst0), some (.int 0)] rfl (by decide) rfl ?_
  refine q_S ln_0.symm (lp_X6_settleC (T := (rndS r n 33 (cfS (tk S r q a w n) r n))) (r := r) (q := q) (a := a) (b := b) (w := w) (by decide) hs hn ((rnd_same 33 _).2.2.2.2.trans (cf_sz.trans tk_sz)) (rnd_okW 32 _ (hsp.mono sameSp_cf)) hlen (fun y => ?_) n 0 (Nat.zero_add n))
  exact q_vret (pc := 168) rfl rfl ⟨rfl, rfl⟩
def cntH (h : Nat → Bool) : Nat → Nat
  | 0 => 0
  | k + 1 => if h k = true then cntH h k + 1 else cntH h k
theorem cntH_le (h : Nat → Bool) (k : Nat) : cntH h k ≤ k := by
  induction k with
  | zero => exact Nat.le_refl _
  | succ k ih => unfold cntH; split <;> omega
set_option maxRecDepth 100000 in
theorem lp_X6_heldCount {n0 : Nat} {X : Nat × (Nat → Int32)} {P : Option Value → PSt → Prop} {d : Nat} (hd9 : 1 ≤ d) {sh : List PSh} {S : PSt} {r n : Nat} (hs : isSt sh r) (hn : n ≤ 32) (hz : S.1 r 7 = nI n) (hex : pV mX6_heldCount d n0 X sh P 32 [some (.ref r), some (.int (nI (cntH (hd S r) n))), some (.int (nI n))] [] S) : ∀ (m k : Nat), k + m = n → pV mX6_heldCount d n0 X sh P 4 [some (.ref r), some (.int (nI (cntH (hd S r) k))), some (.int (nI k))] [] S := by
  intro m
  induction m with
  | zero =>
    intro k hk
    have hk : k = n := by omega
    subst hk
    refine q_iload_n (pc := 4) (j := 2) rfl rfl ?_
    refine q_aload_n (pc := 5) (j := 0) rfl rfl ?_
    refine q_get (pc := 6) (a := r) (v := .int (S.1 r 7)) rfl fl_X6_35 hs.1 rfl rfl ?_
    exact q_icmp_ge (pc := 9) 32 rfl (by decide) (fun _ => hex) (fun h9 => absurd (by rw [hz]; exact Int32.le_refl _) h9)
  | succ m ih =>
    intro k hk
    have hk1 : k < n := by omega
    refine q_iload_n (pc := 4) (j := 2) rfl rfl ?_
    refine q_aload_n (pc := 5) (j := 0) rfl rfl ?_
    refine q_get (pc := 6) (a := r) (v := .int (S.1 r 7)) rfl fl_X6_35 hs.1 rfl rfl ?_
    refine q_st (st2 := [.int (nI n), .int (nI k)]) (by rw [(show (S.1 r 7) = nI n from hz)]) ?_
    refine q_icmp_ge (pc := 9) 32 rfl (by decide) (fun h9 => absurd h9 (nI_ge hk1 (by omega))) (fun _ => ?_)
    refine q_aload_n (pc := 12) (j := 0) rfl rfl ?_
    refine q_get (pc := 13) (a := r) (v := .ref (r + 4)) rfl fl_X6_21 hs.1 rfl rfl ?_
    refine q_iload_n (pc := 16) (j := 2) rfl rfl ?_
    refine q_callS (pc := 17) (as := [.ref (r + 4), .int (nI k)]) (rest := []) (st2 := [.int (pB (decide (S.1 (r + 4) k ≠ 0)))]) rfl ce_X8_readFlag ml_X6_83 st_X8_readFlag rfl (by omega) (Nat.le_of_ble_eq_true rfl) (sp_readFlagN (k := k) hs.2.2.2.2.1 (by omega) (by decide)) rfl ?_
    refine q_if_eq (pc := 20) 26 rfl (by decide) (fun h20 => ?_) (fun h20 => ?_)
    · refine q_iinc (pc := 26) (j := 2) (n := 1) (nI (k + 1)) [some (.ref r), some (.int (nI (cntH (hd S r) k))), some (.int (nI (k + 1)))] rfl (by decide) rfl (nI_1 k) rfl ?_
      refine q_goto (pc := 29) 4 rfl (by decide) ?_
      exact q_L (by rw [cntH, if_neg (show ¬ hd S r k = true from fun q => (pB_ndec h20) (of_decide_eq_true q))]) (ih (k + 1) (by omega))
    · refine q_iinc (pc := 23) (j := 1) (n := 1) (nI (cntH (hd S r) k + 1)) [some (.ref r), some (.int (nI (cntH (hd S r) k + 1))), some (.int (nI k))] rfl (by decide) rfl (nI_1 (cntH (hd S r) k)) rfl ?_
      refine q_iinc (pc := 26) (j := 2) (n := 1) (nI (k + 1)) [some (.ref r), some (.int (nI (cntH (hd S r) k + 1))), some (.int (nI (k + 1)))] rfl (by decide) rfl (nI_1 k) rfl ?_
      refine q_goto (pc := 29) 4 rfl (by decide) ?_
      exact q_L (by rw [cntH, if_pos (show hd S r k = true from decide_eq_true (pB_dec h20))]) (ih (k + 1) (by omega))
set_option maxRecDepth 100000 in
theorem sp_X6_heldCount {sh : List PSh} {S : PSt} {r n : Nat} (hs : isSt sh r) (hn : n ≤ 32) (hz : S.1 r 7 = nI n)  : pF mX6_heldCount 1 [.ref r] sh S S (some (.int (nI (cntH (hd S r) n)))) := by
  refine pF.of (pG.of [some (.ref r), none, none] (by decide) tk_X6_heldCount (Nat.le_of_ble_eq_true rfl) rfl (fun X => ?_))
  refine q_iconst (pc := 0) 0 rfl (by decide) ?_
  refine q_istore_n (pc := 1) (j := 1) [some (.ref r), some (.int 0), none] rfl (by decide) rfl ?_
  refine q_iconst (pc := 2) 0 rfl (by decide) ?_
  refine q_istore_n (pc := 3) (j := 2) [some (.ref r), some (.int 0), some (.int 0)] rfl (by decide) rfl ?_
  refine lp_X6_heldCount (by decide) hs hn hz ?_ n 0 (Nat.zero_add n)
  refine q_iload_n (pc := 32) (j := 1) rfl rfl ?_
  exact q_iret (pc := 33) rfl rfl ⟨rfl, rfl⟩
set_option maxRecDepth 100000 in
theorem sp_X6_length {sh : List PSh} {S : PSt} {r a c : Nat} (hs : isSt sh r) (hf : S.1 r 6 = nI a) (hac : a ≤ c) (hc : c - a < 32)  : pF mX6_length 1 [.ref r, .int (nI c)] sh S S (some (.float (S.2.1 (r + 5) (c - a)))) := by
  refine pF.of (pG.of [some (.ref r), some (.int (nI c))] (by decide) tk_X6_length (Nat.le_of_ble_eq_true rfl) rfl (fun X => ?_))
  refine q_aload_n (pc := 0) (j := 0) rfl rfl ?_
  refine q_get (pc := 1) (a := r) (v := .ref (r + 5)) rfl fl_X6_25 hs.1 rfl rfl ?_
  refine q_iload_n (pc := 4) (j := 1) rfl rfl ?_
  refine q_aload_n (pc := 5) (j := 0) rfl rfl ?_
  refine q_get (pc := 6) (a := r) (v := .int (S.1 r 6)) rfl fl_X6_31 hs.1 rfl rfl ?_
  refine q_isub (pc := 9) rfl ?_
  refine q_st (st2 := [.int (nI (c - a)), .ref (r + 5)]) (by rw [(show ((nI c) - (S.1 r 6)) = nI (c - a) from by rw [hf]; exact pk_sub hac)]) ?_
  refine q_callS (pc := 10) (as := [.ref (r + 5), .int (nI (c - a))]) (rest := []) (st2 := [.float (S.2.1 (r + 5) (c - a))]) rfl ce_X8_readFloat ml_X6_87 st_X8_readFloat rfl (by decide) (Nat.le_of_ble_eq_true rfl) (sp_readFloatN (k := (c - a)) hs.2.2.2.2.2.1 (by omega) (by decide)) rfl ?_
  exact q_fret (pc := 13) rfl rfl ⟨rfl, rfl⟩
set_option maxRecDepth 100000 in
theorem sp_X6_place {sh : List PSh} {S : PSt} {r a c : Nat} (hs : isSt sh r) (hf : S.1 r 6 = nI a) (hac : a ≤ c) (hc : c - a < 32)  : pF mX6_place 1 [.ref r, .int (nI c)] sh S S (some (.float (S.2.1 (r + 6) (c - a)))) := by
  refine pF.of (pG.of [some (.ref r), some (.int (nI c))] (by decide) tk_X6_place (Nat.le_of_ble_eq_true rfl) rfl (fun X => ?_))
  refine q_aload_n (pc := 0) (j := 0) rfl rfl ?_
  refine q_get (pc := 1) (a := r) (v := .ref (r + 6)) rfl fl_X6_28 hs.1 rfl rfl ?_
  refine q_iload_n (pc := 4) (j := 1) rfl rfl ?_
  refine q_aload_n (pc := 5) (j := 0) rfl rfl ?_
  refine q_get (pc := 6) (a := r) (v := .int (S.1 r 6)) rfl fl_X6_31 hs.1 rfl rfl ?_
  refine q_isub (pc := 9) rfl ?_
  refine q_st (st2 := [.int (nI (c - a)), .ref (r + 6)]) (by rw [(show ((nI c) - (S.1 r 6)) = nI (c - a) from by rw [hf]; exact pk_sub hac)]) ?_
  refine q_callS (pc := 10) (as := [.ref (r + 6), .int (nI (c - a))]) (rest := []) (st2 := [.float (S.2.1 (r + 6) (c - a))]) rfl ce_X8_readFloat ml_X6_87 st_X8_readFloat rfl (by decide) (Nat.le_of_ble_eq_true rfl) (sp_readFloatN (k := (c - a)) hs.2.2.2.2.2.2 (by omega) (by decide)) rfl ?_
  exact q_fret (pc := 13) rfl rfl ⟨rfl, rfl⟩
set_option maxRecDepth 100000 in
theorem sp_X6_cell {sh : List PSh} {S : PSt} {r a c : Nat} (hs : isSt sh r) (hf : S.1 r 6 = nI a) (hac : a ≤ c) (hc : c - a < 32)  : pF mX6_cell 2 [.ref r, .int (nI c)] sh S S (some (.int (FP.f2i (S.2.1 (r + 6) (c - a))))) := by
  refine pF.of (pG.of [some (.ref r), some (.int (nI c))] (by decide) tk_X6_cell (Nat.le_of_ble_eq_true rfl) rfl (fun X => ?_))
  refine q_aload_n (pc := 0) (j := 0) rfl rfl ?_
  refine q_iload_n (pc := 1) (j := 1) rfl rfl ?_
  refine q_callV (pc := 2) (as := [.int (nI c)]) (rest := []) (b := r) (st2 := [.float (S.2.1 (r + 6) (c - a))]) rfl ce_X6_place ml_X6_94 im_X6_place se_X6_place hs.1 rfl rfl rfl (by decide) (Nat.le_of_ble_eq_true rfl) (sp_X6_place (a := a) (c := c) hs hf (by omega) (by omega)) rfl ?_
  refine q_f2i (pc := 5) rfl ?_
  exact q_iret (pc := 6) rfl rfl ⟨rfl, rfl⟩
def fitB (W : UInt32) (rods : Nat → UInt32) (n : Nat) : Bool := !decide (0 < Op.cmpValue (FP.fcmp (sumF rods n) W) .g)
def qF (W : UInt32) (ids fls : Nat → UInt32) (n : Nat) : UInt32 := if fgt (sumF fls n) FP.fconst0 then FP.fdiv (FP.fsub W (sumF ids n)) (sumF fls n) else FP.fconst0
def badF (q : UInt32) : UInt32 := if flt q FP.fconst0 then FP.fmul (FP.fmul (FP.fmul 1120403456 q) q) FP.fconst2 else FP.fmul (FP.fmul 1120403456 q) q
def okSum (f : Nat → UInt32) (n : Nat) : Prop := ∀ k, k < n → vf_n32 (FP.fadd (sumF f k) (f k))
def okBad (W : UInt32) (ids fls : Nat → UInt32) (n : Nat) : Prop := okSum ids n ∧ okSum fls n ∧ vf_n32 (FP.fsub W (sumF ids n)) ∧ (fgt (sumF fls n) FP.fconst0 = true → vf_n32 (FP.fdiv (FP.fsub W (sumF ids n)) (sumF fls n))) ∧ vf_n32 (FP.fmul 1120403456 (qF W ids fls n)) ∧ vf_n32 (FP.fmul (FP.fmul 1120403456 (qF W ids fls n)) (qF W ids fls n)) ∧ vf_n32 (FP.fmul (FP.fmul (FP.fmul 1120403456 (qF W ids fls n)) (qF W ids fls n)) FP.fconst2)
set_option maxRecDepth 100000 in
theorem sp_X6_fits {sh : List PSh} {S : PSt} {r n : Nat} (hs : isSt sh r) (hn : n ≤ 32) (hz : S.1 r 7 = nI n) (hok : okSum (S.2.1 (r + 3)) n) : pF mX6_fits 2 [.ref r] sh S S (some (.int (pB (fitB (S.2.1 r 8) (S.2.1 (r + 3)) n)))) := by
  refine pF.of (pG.of [some (.ref r)] (by decide) tk_X6_fits (Nat.le_of_ble_eq_true rfl) rfl (fun X => ?_))
  refine q_aload_n (pc := 0) (j := 0) rfl rfl ?_
  refine q_aload_n (pc := 1) (j := 0) rfl rfl ?_
  refine q_get (pc := 2) (a := r) (v := .ref (r + 3)) rfl fl_X6_18 hs.1 rfl rfl ?_
  refine q_callV (pc := 5) (as := [.ref (r + 3)]) (rest := []) (b := r) (st2 := [.float (sumF (S.2.1 (r + 3)) n)]) rfl ce_X6_sum ml_X6_62 im_X6_sum se_X6_sum hs.1 rfl rfl rfl (by decide) (Nat.le_of_ble_eq_true rfl) (sp_X6_sum (n := n) hs hn hz hs.2.2.2.1 hok) rfl ?_
  refine q_aload_n (pc := 8) (j := 0) rfl rfl ?_
  refine q_get (pc := 9) (a := r) (v := .float (S.2.1 r 8)) rfl fl_X6_38 hs.1 rfl rfl ?_
  refine q_fcmp (pc := 12) (op := .g) rfl ?_
  refine q_if_gt (pc := 13) 20 rfl (by decide) (fun h13 => ?_) (fun h13 => ?_)
  · refine q_iconst (pc := 20) 0 rfl (by decide) ?_
    exact q_zret (pc := 21) rfl rfl rfl ⟨congrArg (fun v => some (Value.int v)) (by first | (rw [fitB, decide_eq_true h13]; rfl) | (rw [fitB, decide_eq_false h13]; rfl)), rfl⟩
  · refine q_iconst (pc := 16) 1 rfl (by decide) ?_
    refine q_goto (pc := 17) 21 rfl (by decide) ?_
    exact q_zret (pc := 21) rfl rfl rfl ⟨congrArg (fun v => some (Value.int v)) (by first | (rw [fitB, decide_eq_true h13]; rfl) | (rw [fitB, decide_eq_false h13]; rfl)), rfl⟩
set_option maxRecDepth 100000 in
theorem sp_X6_badness {sh : List PSh} {S : PSt} {r n : Nat} (hs : isSt sh r) (hn : n ≤ 32) (hz : S.1 r 7 = nI n) (hok : okBad (S.2.1 r 8) (S.2.1 (r + 1)) (S.2.1 (r + 2)) n) : pF mX6_badness 2 [.ref r] sh S S (some (.float (badF (qF (S.2.1 r 8) (S.2.1 (r + 1)) (S.2.1 (r + 2)) n)))) := by
  refine pF.of (pG.of [some (.ref r), none, none, none] (by decide) tk_X6_badness (Nat.le_of_ble_eq_true rfl) rfl (fun X => ?_))
  refine q_aload_n (pc := 0) (j := 0) rfl rfl ?_
  refine q_aload_n (pc := 1) (j := 0) rfl rfl ?_
  refine q_get (pc := 2) (a := r) (v := .ref (r + 2)) rfl fl_X6_15 hs.1 rfl rfl ?_
  refine q_callV (pc := 5) (as := [.ref (r + 2)]) (rest := []) (b := r) (st2 := [.float (sumF (S.2.1 (r + 2)) n)]) rfl ce_X6_sum ml_X6_62 im_X6_sum se_X6_sum hs.1 rfl rfl rfl (by decide) (Nat.le_of_ble_eq_true rfl) (sp_X6_sum (n := n) hs hn hz hs.2.2.1 hok.2.1) rfl ?_
  refine q_fstore_n (pc := 8) (j := 1) [some (.ref r), some (.float (sumF (S.2.1 (r + 2)) n)), none, none] rfl (by decide) rfl ?_
  refine q_fload_n (pc := 9) (j := 1) rfl rfl ?_
  refine q_fconst0 (pc := 10) rfl ?_
  refine q_fcmp (pc := 11) (op := .l) rfl ?_
  refine q_join 34 [some (.ref r), some (.float (sumF (S.2.1 (r + 2)) n)), none, none] [.float (qF (S.2.1 r 8) (S.2.1 (r + 1)) (S.2.1 (r + 2)) n)] S ?_ (fun key12 => ?_)
  · refine q_fstore_n (pc := 34) (j := 2) [some (.ref r), some (.float (sumF (S.2.1 (r + 2)) n)), some (.float (qF (S.2.1 r 8) (S.2.1 (r + 1)) (S.2.1 (r + 2)) n)), none] rfl (by decide) rfl ?_
    refine q_ldcf (pc := 35) (v := 1120403456) rfl kc_X6_66 ?_
    refine q_fload_n (pc := 37) (j := 2) rfl rfl ?_
    refine q_fmul (pc := 38) rfl hok.2.2.2.2.1 ?_
    refine q_fload_n (pc := 39) (j := 2) rfl rfl ?_
    refine q_fmul (pc := 40) rfl hok.2.2.2.2.2.1 ?_
    refine q_fstore_n (pc := 41) (j := 3) [some (.ref r), some (.float (sumF (S.2.1 (r + 2)) n)), some (.float (qF (S.2.1 r 8) (S.2.1 (r + 1)) (S.2.1 (r + 2)) n)), some (.float (FP.fmul (FP.fmul 1120403456 (qF (S.2.1 r 8) (S.2.1 (r + 1)) (S.2.1 (r + 2)) n)) (qF (S.2.1 r 8) (S.2.1 (r + 1)) (S.2.1 (r + 2)) n)))] rfl (by decide) rfl ?_
    refine q_fload_n (pc := 42) (j := 2) rfl rfl ?_
    refine q_fconst0 (pc := 43) rfl ?_
    refine q_fcmp (pc := 44) (op := .g) rfl ?_
    refine q_if_ge (pc := 45) 54 rfl (by decide) (fun h45 => ?_) (fun h45 => ?_)
    · refine q_fload_n (pc := 54) (j := 3) rfl rfl ?_
      exact q_fret (pc := 55) rfl rfl ⟨congrArg (fun v => some (Value.float v)) (by first | (rw [badF, if_neg (show ¬ flt _ FP.fconst0 = true from fun q => absurd (of_decide_eq_true q) (Int32.not_lt.mpr h45))]) | (rw [badF, if_pos (show flt _ FP.fconst0 = true from decide_eq_true (Int32.not_le.mp h45))])), rfl⟩
    · refine q_fload_n (pc := 48) (j := 3) rfl rfl ?_
      refine q_fconst2 (pc := 49) rfl ?_
      refine q_fmul (pc := 50) rfl hok.2.2.2.2.2.2 ?_
      refine q_goto (pc := 51) 55 rfl (by decide) ?_
      exact q_fret (pc := 55) rfl rfl ⟨congrArg (fun v => some (Value.float v)) (by first | (rw [badF, if_neg (show ¬ flt _ FP.fconst0 = true from fun q => absurd (of_decide_eq_true q) (Int32.not_lt.mpr h45))]) | (rw [badF, if_pos (show flt _ FP.fconst0 = true from decide_eq_true (Int32.not_le.mp h45))])), rfl⟩
  · refine q_if_le (pc := 12) 33 rfl (by decide) (fun h12 => ?_) (fun h12 => ?_)
    · refine q_fconst0 (pc := 33) rfl ?_
      exact q_st (by rw [qF, if_neg (show ¬ fgt _ FP.fconst0 = true from fun q => absurd (of_decide_eq_true q) (Int32.not_lt.mpr h12))]) key12
    · refine q_aload_n (pc := 15) (j := 0) rfl rfl ?_
      refine q_get (pc := 16) (a := r) (v := .float (S.2.1 r 8)) rfl fl_X6_38 hs.1 rfl rfl ?_
      refine q_aload_n (pc := 19) (j := 0) rfl rfl ?_
      refine q_aload_n (pc := 20) (j := 0) rfl rfl ?_
      refine q_get (pc := 21) (a := r) (v := .ref (r + 1)) rfl fl_X6_9 hs.1 rfl rfl ?_
      refine q_callV (pc := 24) (as := [.ref (r + 1)]) (rest := [.float (S.2.1 r 8)]) (b := r) (st2 := [.float (sumF (S.2.1 (r + 1)) n), .float (S.2.1 r 8)]) rfl ce_X6_sum ml_X6_62 im_X6_sum se_X6_sum hs.1 rfl rfl rfl (by decide) (Nat.le_of_ble_eq_true rfl) (sp_X6_sum (n := n) hs hn hz hs.2.1 hok.1) rfl ?_
      refine q_fsub (pc := 27) rfl hok.2.2.1 ?_
      refine q_fload_n (pc := 28) (j := 1) rfl rfl ?_
      refine q_fdiv (pc := 29) rfl (hok.2.2.2.1 (decide_eq_true (Int32.not_le.mp h12))) ?_
      refine q_goto (pc := 30) 34 rfl (by decide) ?_
      exact q_st (by rw [qF, if_pos (show fgt _ FP.fconst0 = true from decide_eq_true (Int32.not_le.mp h12))]) key12
end
section
/-! Skyline: written by wip/whole/gen/c17.py -/
def isSk (sh : List PSh) (r : Nat) : Prop := sh[r]? = some (.inr (4, [r + 1 + 3, r + 2 + 3, r + 3 + 3])) ∧ sh[r + 1]? = some (.inl (2, 400)) ∧ sh[r + 2]? = some (.inl (0, 400)) ∧ sh[r + 3]? = some (.inl (0, 400))
def mxI (x y : Int32) : Int32 := if x < y then y else x
def mnI (x y : Int32) : Int32 := if y < x then y else x
/-- ink in the cells from c to e -/
def inkS (S : PSt) (r c e : Nat) (t b : Int32) : PSt :=
  (fun x j => if c ≤ j ∧ j < e ∧ x = r + 1 then 1 else if c ≤ j ∧ j < e ∧ x = r + 2 then (if S.1 (r + 1) j = 0 then t else mxI t (S.1 (r + 2) j)) else if c ≤ j ∧ j < e ∧ x = r + 3 then (if S.1 (r + 1) j = 0 then b else mnI b (S.1 (r + 3) j)) else S.1 x j, S.2)
theorem ink_0 {S : PSt} {r c e : Nat} {t b : Int32} (h : e ≤ c) : inkS S r c e t b = S := by
  unfold inkS
  refine Prod.ext (funext fun x => funext fun j => ?_) rfl
  dsimp only; rw [if_neg (by omega), if_neg (by omega), if_neg (by omega)]
theorem ink_s {S : PSt} {r c e : Nat} {t b : Int32} (h : c ≤ e) : pSI (pSI (pSI (inkS S r c e t b) (r + 2) e (if S.1 (r + 1) e = 0 then t else mxI t (S.1 (r + 2) e))) (r + 3) e (if S.1 (r + 1) e = 0 then b else mnI b (S.1 (r + 3) e))) (r + 1) e 1 = inkS S r c (e + 1) t b := by
  unfold inkS pSI pU
  refine Prod.ext (funext fun x => funext fun j => ?_) rfl
  dsimp only
  by_cases hj : j = e
  · subst hj
    by_cases h1 : x = r + 1
    · subst h1; simp; intro h9; omega
    · by_cases h2 : x = r + 2
      · subst h2; simp; intro h9; omega
      · by_cases h3 : x = r + 3
        · subst h3; simp; intro h9; omega
        · simp [h1, h2, h3]
  · have e1 : (c ≤ j ∧ j < e) ↔ (c ≤ j ∧ j < e + 1) := by omega
    by_cases h1 : c ≤ j ∧ j < e
    · have h2 := e1.mp h1
      simp [hj, h1.1, h1.2, h2.2]
    · have a1 : ¬ (c ≤ j ∧ j < e ∧ x = r + 1) := fun q => h1 ⟨q.1, q.2.1⟩
      have a2 : ¬ (c ≤ j ∧ j < e ∧ x = r + 2) := fun q => h1 ⟨q.1, q.2.1⟩
      have a3 : ¬ (c ≤ j ∧ j < e ∧ x = r + 3) := fun q => h1 ⟨q.1, q.2.1⟩
      have b1 : ¬ (c ≤ j ∧ j < e + 1 ∧ x = r + 1) := fun q => h1 (e1.mpr ⟨q.1, q.2.1⟩)
      have b2 : ¬ (c ≤ j ∧ j < e + 1 ∧ x = r + 2) := fun q => h1 (e1.mpr ⟨q.1, q.2.1⟩)
      have b3 : ¬ (c ≤ j ∧ j < e + 1 ∧ x = r + 3) := fun q => h1 (e1.mpr ⟨q.1, q.2.1⟩)
      simp only [hj, and_false, if_false, if_neg a1, if_neg a2, if_neg a3, if_neg b1, if_neg b2, if_neg b3]
theorem ink_at {S : PSt} {r c e x : Nat} {t b : Int32} : (inkS S r c e t b).1 x e = S.1 x e := by simp [inkS]
theorem i_le_n {e : Int32} {x : Nat} (hx : x < 2 ^ 31) : e ≤ nI x ↔ e.toInt ≤ x := by rw [Int32.le_iff_toInt_le, nI_toInt hx]

set_option maxRecDepth 100000 in
theorem sp_X5_hasInk {sh : List PSh} {S : PSt} {r : Nat} (hs : isSk sh r) {x : Nat} (hx : x < 400) : pF mX5_hasInk 1 [.ref r, .int (nI x)] sh S S (some (.int (pB (decide (S.1 (r + 1) x ≠ 0))))) := by
  refine pF.of (pG.of [some (.ref r), some (.int (nI x))] (by decide) tk_X5_hasInk (Nat.le_of_ble_eq_true rfl) rfl (fun X => ?_))
  refine q_aload_n (pc := 0) (j := 0) rfl rfl ?_
  refine q_get (pc := 1) (a := r) (v := .ref (r + 1)) rfl fl_X5_9 hs.1 rfl rfl ?_
  refine q_iload_n (pc := 4) (j := 1) rfl rfl ?_
  refine q_callS (pc := 5) (as := [.ref (r + 1), .int (nI x)]) (rest := []) (st2 := [.int (pB (decide (S.1 (r + 1) x ≠ 0)))]) rfl ce_X8_readFlag ml_X5_60 st_X8_readFlag rfl (by decide) (Nat.le_of_ble_eq_true rfl) (sp_readFlagN (k := x) hs.2.1 (by omega) (by decide)) rfl ?_
  exact q_zret (pc := 8) rfl rfl (pB_nar _) ⟨rfl, rfl⟩
set_option maxRecDepth 100000 in
theorem sp_X5_upper {sh : List PSh} {S : PSt} {r : Nat} (hs : isSk sh r) {x : Nat} (hx : x < 400) : pF mX5_upper 1 [.ref r, .int (nI x)] sh S S (some (.int (S.1 (r + 2) x))) := by
  refine pF.of (pG.of [some (.ref r), some (.int (nI x))] (by decide) tk_X5_upper (Nat.le_of_ble_eq_true rfl) rfl (fun X => ?_))
  refine q_aload_n (pc := 0) (j := 0) rfl rfl ?_
  refine q_get (pc := 1) (a := r) (v := .ref (r + 2)) rfl fl_X5_15 hs.1 rfl rfl ?_
  refine q_iload_n (pc := 4) (j := 1) rfl rfl ?_
  refine q_callS (pc := 5) (as := [.ref (r + 2), .int (nI x)]) (rest := []) (st2 := [.int (S.1 (r + 2) x)]) rfl ce_X8_readInt ml_X5_64 st_X8_readInt rfl (by decide) (Nat.le_of_ble_eq_true rfl) (sp_readIntN (k := x) hs.2.2.1 (by omega) (by decide)) rfl ?_
  exact q_iret (pc := 8) rfl rfl ⟨rfl, rfl⟩
set_option maxRecDepth 100000 in
theorem sp_X5_lower {sh : List PSh} {S : PSt} {r : Nat} (hs : isSk sh r) {x : Nat} (hx : x < 400) : pF mX5_lower 1 [.ref r, .int (nI x)] sh S S (some (.int (S.1 (r + 3) x))) := by
  refine pF.of (pG.of [some (.ref r), some (.int (nI x))] (by decide) tk_X5_lower (Nat.le_of_ble_eq_true rfl) rfl (fun X => ?_))
  refine q_aload_n (pc := 0) (j := 0) rfl rfl ?_
  refine q_get (pc := 1) (a := r) (v := .ref (r + 3)) rfl fl_X5_19 hs.1 rfl rfl ?_
  refine q_iload_n (pc := 4) (j := 1) rfl rfl ?_
  refine q_callS (pc := 5) (as := [.ref (r + 3), .int (nI x)]) (rest := []) (st2 := [.int (S.1 (r + 3) x)]) rfl ce_X8_readInt ml_X5_64 st_X8_readInt rfl (by decide) (Nat.le_of_ble_eq_true rfl) (sp_readIntN (k := x) hs.2.2.2 (by omega) (by decide)) rfl ?_
  exact q_iret (pc := 8) rfl rfl ⟨rfl, rfl⟩
set_option maxRecDepth 100000 in
theorem lp_X5_ink {n0 : Nat} {X : Nat × (Nat → Int32)} {P : Option Value → PSt → Prop} {d : Nat} (hd9 : 2 ≤ d) {sh : List PSh} {S : PSt} {r : Nat} (hs : isSk sh r) {c : Nat} {e t b : Int32} (he : e.toInt ≤ 400) (hex : ∀ i f, pV mX5_ink d n0 X sh P 99 [some (.ref r), some (.int (nI c)), some (.int e), some (.int t), some (.int b), some (.int i), f] [] (inkS S r c e.toInt.toNat t b)) : ∀ (m x : Nat) (f : Option Value), c ≤ x → x < 2 ^ 31 → e.toInt.toNat - x = m → (x ≤ e.toInt.toNat ∨ x = c) → pV mX5_ink d n0 X sh P 3 [some (.ref r), some (.int (nI c)), some (.int e), some (.int t), some (.int b), some (.int (nI x)), f] [] (inkS S r c x t b) := by
  intro m
  induction m with
  | zero =>
    intro x f hcx hx hm ho
    have hS : inkS S r c x t b = inkS S r c e.toInt.toNat t b := by
      rcases ho with h | h
      · have : x = e.toInt.toNat := by omega
        rw [this]
      · subst h; rw [ink_0 (Nat.le_refl _), ink_0 (by omega)]
    refine q_S hS ?_
    refine q_iload (pc := 3) (j := 5) rfl rfl ?_
    refine q_iload_n (pc := 5) (j := 2) rfl rfl ?_
    exact q_icmp_ge (pc := 6) 99 rfl (by decide) (fun _ => hex _ _) (fun h9 => absurd ((i_le_n hx).mpr (by omega)) h9)
  | succ m ih =>
    intro x f hcx hx hm ho
    have hk1 : x < 400 := by omega
    refine q_iload (pc := 3) (j := 5) rfl rfl ?_
    refine q_iload_n (pc := 5) (j := 2) rfl rfl ?_
    refine q_icmp_ge (pc := 6) 99 rfl (by decide) (fun h9 => absurd h9 (fun h9 => by have := (i_le_n hx).mp h9; omega)) (fun _ => ?_)
    refine q_aload_n (pc := 9) (j := 0) rfl rfl ?_
    refine q_iload (pc := 10) (j := 5) rfl rfl ?_
    refine q_callV (pc := 12) (as := [.int (nI x)]) (rest := []) (b := r) (st2 := [.int (pB (decide ((inkS S r c x t b).1 (r + 1) x ≠ 0)))]) rfl ce_X5_hasInk ml_X5_68 im_X5_hasInk se_X5_hasInk hs.1 rfl rfl rfl (by omega) (Nat.le_of_ble_eq_true rfl) (sp_X5_hasInk (x := x) hs (by omega)) rfl ?_
    refine q_join 23 [some (.ref r), some (.int (nI c)), some (.int e), some (.int t), some (.int b), some (.int (nI x)), f] [.int (pB (decide (S.1 (r + 1) x = 0)))] (inkS S r c x t b) ?_ (fun key15 => ?_)
    · refine q_istore (pc := 23) (j := 6) [some (.ref r), some (.int (nI c)), some (.int e), some (.int t), some (.int b), some (.int (nI x)), some (.int (pB (decide (S.1 (r + 1) x = 0))))] rfl (by decide) rfl ?_
      refine q_aload_n (pc := 25) (j := 0) rfl rfl ?_
      refine q_get (pc := 26) (a := r) (v := .ref (r + 2)) rfl fl_X5_15 hs.1 rfl rfl ?_
      refine q_iload (pc := 29) (j := 5) rfl rfl ?_
      refine q_iload (pc := 31) (j := 6) rfl rfl ?_
      refine q_join 50 [some (.ref r), some (.int (nI c)), some (.int e), some (.int t), some (.int b), some (.int (nI x)), some (.int (pB (decide (S.1 (r + 1) x = 0))))] [.int (if S.1 (r + 1) x = 0 then t else mxI t (S.1 (r + 2) x)), .int (nI x), .ref (r + 2)] (inkS S r c x t b) ?_ (fun key33 => ?_)
      · refine q_callS (pc := 50) (as := [.ref (r + 2), .int (nI x), .int (if S.1 (r + 1) x = 0 then t else mxI t (S.1 (r + 2) x))]) (rest := []) (st2 := []) rfl ce_X8_writeInt ml_X5_78 st_X8_writeInt rfl (by omega) (Nat.le_of_ble_eq_true rfl) (sp_writeIntN (k := x) hs.2.2.1 (by omega) (by decide)) rfl ?_
        refine q_aload_n (pc := 53) (j := 0) rfl rfl ?_
        refine q_get (pc := 54) (a := r) (v := .ref (r + 3)) rfl fl_X5_19 hs.1 rfl rfl ?_
        refine q_iload (pc := 57) (j := 5) rfl rfl ?_
        refine q_iload (pc := 59) (j := 6) rfl rfl ?_
        refine q_join 80 [some (.ref r), some (.int (nI c)), some (.int e), some (.int t), some (.int b), some (.int (nI x)), some (.int (pB (decide (S.1 (r + 1) x = 0))))] [.int (if S.1 (r + 1) x = 0 then b else mnI b (S.1 (r + 3) x)), .int (nI x), .ref (r + 3)] (pSI (inkS S r c x t b) (r + 2) x (if S.1 (r + 1) x = 0 then t else mxI t (S.1 (r + 2) x))) ?_ (fun key61 => ?_)
        · refine q_callS (pc := 80) (as := [.ref (r + 3), .int (nI x), .int (if S.1 (r + 1) x = 0 then b else mnI b (S.1 (r + 3) x))]) (rest := []) (st2 := []) rfl ce_X8_writeInt ml_X5_78 st_X8_writeInt rfl (by omega) (Nat.le_of_ble_eq_true rfl) (sp_writeIntN (k := x) hs.2.2.2 (by omega) (by decide)) rfl ?_
          refine q_aload_n (pc := 83) (j := 0) rfl rfl ?_
          refine q_get (pc := 84) (a := r) (v := .ref (r + 1)) rfl fl_X5_9 hs.1 rfl rfl ?_
          refine q_iload (pc := 87) (j := 5) rfl rfl ?_
          refine q_iconst (pc := 89) 1 rfl (by decide) ?_
          refine q_callS (pc := 90) (as := [.ref (r + 1), .int (nI x), .int 1]) (rest := []) (st2 := []) rfl ce_X8_writeFlag ml_X5_22 st_X8_writeFlag rfl (by omega) (Nat.le_of_ble_eq_true rfl) (sp_writeFlagN (k := x) hs.2.1 (by omega) (by decide) (by decide)) rfl ?_
          refine q_iinc (pc := 93) (j := 5) (n := 1) (nI (x + 1)) [some (.ref r), some (.int (nI c)), some (.int e), some (.int t), some (.int b), some (.int (nI (x + 1))), some (.int (pB (decide (S.1 (r + 1) x = 0))))] rfl (by decide) rfl (nI_1 x) rfl ?_
          refine q_goto (pc := 96) 3 rfl (by decide) ?_
          exact q_S (ink_s hcx) (ih (x + 1) _ (by omega) (by omega) (by omega) (Or.inl (by omega)))
        · refine q_if_eq (pc := 61) 69 rfl (by decide) (fun h61 => ?_) (fun h61 => ?_)
          · refine q_iload (pc := 69) (j := 4) rfl rfl ?_
            refine q_aload_n (pc := 71) (j := 0) rfl rfl ?_
            refine q_iload (pc := 72) (j := 5) rfl rfl ?_
            refine q_callV (pc := 74) (as := [.int (nI x)]) (rest := [.int b, .int (nI x), .ref (r + 3)]) (b := r) (st2 := [.int ((pSI (inkS S r c x t b) (r + 2) x (if S.1 (r + 1) x = 0 then t else mxI t (S.1 (r + 2) x))).1 (r + 3) x), .int b, .int (nI x), .ref (r + 3)]) rfl ce_X5_lower ml_X5_82 im_X5_lower se_X5_lower hs.1 rfl rfl rfl (by omega) (Nat.le_of_ble_eq_true rfl) (sp_X5_lower (x := x) hs (by omega)) rfl ?_
            refine q_min (pc := 77) rfl ml_X5_45 (by omega) (Nat.le_of_ble_eq_true rfl) ?_
            exact q_st (by rw [show ((pSI (inkS S r c x t b) (r + 2) x (if S.1 (r + 1) x = 0 then t else mxI t (S.1 (r + 2) x))).1 (r + 3) x) = S.1 (r + 3) x by simp [pSI, pU, inkS], if_neg (pB_ndec h61)]; rfl) key61
          · refine q_iload (pc := 64) (j := 4) rfl rfl ?_
            refine q_goto (pc := 66) 80 rfl (by decide) ?_
            exact q_st (by rw [if_pos (pB_dec h61)]) key61
      · refine q_if_eq (pc := 33) 40 rfl (by decide) (fun h33 => ?_) (fun h33 => ?_)
        · refine q_iload_n (pc := 40) (j := 3) rfl rfl ?_
          refine q_aload_n (pc := 41) (j := 0) rfl rfl ?_
          refine q_iload (pc := 42) (j := 5) rfl rfl ?_
          refine q_callV (pc := 44) (as := [.int (nI x)]) (rest := [.int t, .int (nI x), .ref (r + 2)]) (b := r) (st2 := [.int ((inkS S r c x t b).1 (r + 2) x), .int t, .int (nI x), .ref (r + 2)]) rfl ce_X5_upper ml_X5_72 im_X5_upper se_X5_upper hs.1 rfl rfl rfl (by omega) (Nat.le_of_ble_eq_true rfl) (sp_X5_upper (x := x) hs (by omega)) rfl ?_
          refine q_max (pc := 47) rfl ml_X5_75 (by omega) (Nat.le_of_ble_eq_true rfl) ?_
          exact q_st (by rw [if_neg (pB_ndec h33), ink_at]; rfl) key33
        · refine q_iload_n (pc := 36) (j := 3) rfl rfl ?_
          refine q_goto (pc := 37) 50 rfl (by decide) ?_
          exact q_st (by rw [if_pos (pB_dec h33)]) key33
    · refine q_if_ne (pc := 15) 22 rfl (by decide) (fun h15 => ?_) (fun h15 => ?_)
      · refine q_iconst (pc := 22) 0 rfl (by decide) ?_
        exact q_st (by rw [show decide (S.1 (r + 1) x = 0) = false from decide_eq_false (by have := pB_dec h15; rwa [ink_at] at this)]; rfl) key15
      · refine q_iconst (pc := 18) 1 rfl (by decide) ?_
        refine q_goto (pc := 19) 23 rfl (by decide) ?_
        exact q_st (by rw [show decide (S.1 (r + 1) x = 0) = true from decide_eq_true (Classical.not_not.mp (by have := pB_ndec h15; rwa [ink_at] at this))]; rfl) key15
set_option maxRecDepth 100000 in
theorem sp_X5_ink {sh : List PSh} {S : PSt} {r : Nat} (hs : isSk sh r) {c : Nat} {e t b : Int32} (hc : c < 2 ^ 31) (he : e.toInt ≤ 400) : pF mX5_ink 2 [.ref r, .int (nI c), .int e, .int t, .int b] sh S (inkS S r c e.toInt.toNat t b) (none) := by
  refine pF.of (pG.of [some (.ref r), some (.int (nI c)), some (.int e), some (.int t), some (.int b), none, none] (by decide) tk_X5_ink (Nat.le_of_ble_eq_true rfl) rfl (fun X => ?_))
  refine q_iload_n (pc := 0) (j := 1) rfl rfl ?_
  refine q_istore (pc := 1) (j := 5) [some (.ref r), some (.int (nI c)), some (.int e), some (.int t), some (.int b), some (.int (nI c)), none] rfl (by decide) rfl ?_
  refine q_S (ink_0 (Nat.le_refl _)).symm (lp_X5_ink (by decide) hs he (fun i f => ?_) _ c _ (Nat.le_refl _) hc rfl (Or.inr rfl))
  exact q_vret (pc := 99) rfl rfl ⟨rfl, rfl⟩
def skc (S : PSt) (r k : Nat) : PSt := (fun x j => if x = r + 1 ∧ j < k then 0 else S.1 x j, S.2)
theorem skc_0 {S : PSt} {r : Nat} : skc S r 0 = S := by
  unfold skc
  refine Prod.ext (funext fun x => funext fun j => ?_) rfl
  dsimp only; rw [if_neg (by omega)]
theorem skc_s {S : PSt} {r k : Nat} : pSI (skc S r k) (r + 1) k 0 = skc S r (k + 1) := by
  unfold skc pSI pU
  refine Prod.ext (funext fun x => funext fun j => ?_) rfl
  dsimp only; (repeat' split) <;> first | rfl | (exfalso; omega)
/-- the end of a column's ink -/
def inkE (c w : Int32) : Int32 := mnI (c + w) 400
theorem inkE_le (c w : Int32) : (inkE c w).toInt ≤ 400 := by
  unfold inkE mnI
  split
  · decide
  · rename_i h; rw [Int32.lt_iff_toInt_lt] at h; have : (400 : Int32).toInt = 400 := by decide
    omega
/-- the skyline r after k columns of the stretch t over the signs q, from a on -/
def trS (S : PSt) (r q t a : Nat) : Nat → PSt
  | 0 => skc S r 400
  | k + 1 => inkS (trS S r q t a k) r (FP.f2i (S.2.1 (t + 6) k)).toInt.toNat (inkE (FP.f2i (S.2.1 (t + 6) k)) (S.1 (q + 1) (5 * (a + k) + 3))).toInt.toNat
      (topV (S.1 (q + 1) (5 * (a + k) + 0)) (S.1 (q + 1) (5 * (a + k) + 2)) (S.1 (q + 1) (5 * (a + k) + 4))) (botV (S.1 (q + 1) (5 * (a + k) + 0)) (S.1 (q + 1) (5 * (a + k) + 2)))
theorem trS_2 {S : PSt} {r q t a : Nat} (k : Nat) : (trS S r q t a k).2 = S.2 := by
  induction k with
  | zero => rfl
  | succ k ih => exact ih
theorem trS_I {S : PSt} {r q t a x : Nat} (h1 : x ≠ r + 1) (h2 : x ≠ r + 2) (h3 : x ≠ r + 3) (k : Nat) : (trS S r q t a k).1 x = S.1 x := by
  induction k with
  | zero => funext j; simp [trS, skc, h1]
  | succ k ih => funext j; simp [trS, inkS, h1, h2, h3, ih]
theorem nI_of0 {x : Int32} (h : 0 ≤ x.toInt) : x = nI x.toInt.toNat := by
  apply Int32.toInt_inj.mp
  have h2 := x.toInt_lt
  rw [nI_toInt (by omega)]
  omega
theorem nN_lt {x : Int32} : x.toInt.toNat < 2 ^ 31 := by have := x.toInt_lt; omega
set_option maxRecDepth 100000 in
theorem lp_X5_traceA {n0 : Nat} {X : Nat × (Nat → Int32)} {P : Option Value → PSt → Prop} {d : Nat} (hd9 : 1 ≤ d) {sh : List PSh} {S : PSt} {r q t a n : Nat} (hs : isSk sh r) (hq : isSg sh q) (ht : isSt sh t) (hn : n ≤ 32) (han : a + n ≤ 36) (hz : S.1 t 7 = nI n) (hf : S.1 t 6 = nI a) (hrt : r + 4 ≤ t ∨ t + 7 ≤ r) (hrq : r + 4 ≤ q ∨ q + 2 ≤ r) (_hpos : ∀ k, k < n → 0 ≤ (FP.f2i (S.2.1 (t + 6) k)).toInt) (hex : pV mX5_trace d n0 X sh P 24 [some (.ref r), some (.ref q), some (.ref t), some (.int (nI 400)), none, none, none] [] (skc S r 400)) : ∀ (m k : Nat), k + m = 400 → pV mX5_trace d n0 X sh P 2 [some (.ref r), some (.ref q), some (.ref t), some (.int (nI k)), none, none, none] [] (skc S r k) := by
  intro m
  induction m with
  | zero =>
    intro k hk
    have hk : k = 400 := by omega
    subst hk
    refine q_iload_n (pc := 2) (j := 3) rfl rfl ?_
    refine q_sipush (pc := 3) 400 rfl (by decide) ?_
    exact q_icmp_ge (pc := 6) 24 rfl (by decide) (fun _ => hex) (fun h9 => absurd (Int32.le_refl _) h9)
  | succ m ih =>
    intro k hk
    have hk1 : k < 400 := by omega
    refine q_iload_n (pc := 2) (j := 3) rfl rfl ?_
    refine q_sipush (pc := 3) 400 rfl (by decide) ?_
    refine q_icmp_ge (pc := 6) 24 rfl (by decide) (fun h9 => absurd h9 (nI_ge (b := 400) hk1 (by decide))) (fun _ => ?_)
    refine q_aload_n (pc := 9) (j := 0) rfl rfl ?_
    refine q_get (pc := 10) (a := r) (v := .ref (r + 1)) rfl fl_X5_9 hs.1 rfl rfl ?_
    refine q_iload_n (pc := 13) (j := 3) rfl rfl ?_
    refine q_iconst (pc := 14) 0 rfl (by decide) ?_
    refine q_callS (pc := 15) (as := [.ref (r + 1), .int (nI k), .int 0]) (rest := []) (st2 := []) rfl ce_X8_writeFlag ml_X5_22 st_X8_writeFlag rfl (by omega) (Nat.le_of_ble_eq_true rfl) (sp_writeFlagN (k := k) hs.2.1 (by omega) (by decide) (by decide)) rfl ?_
    refine q_iinc (pc := 18) (j := 3) (n := 1) (nI (k + 1)) [some (.ref r), some (.ref q), some (.ref t), some (.int (nI (k + 1))), none, none, none] rfl (by decide) rfl (nI_1 k) rfl ?_
    refine q_goto (pc := 21) 2 rfl (by decide) ?_
    exact q_S skc_s (ih (k + 1) (by omega))
set_option maxRecDepth 100000 in
theorem lp_X5_traceB {n0 : Nat} {X : Nat × (Nat → Int32)} {P : Option Value → PSt → Prop} {d : Nat} (hd9 : 3 ≤ d) {sh : List PSh} {S : PSt} {r q t a n : Nat} (hs : isSk sh r) (hq : isSg sh q) (ht : isSt sh t) (hn : n ≤ 32) (han : a + n ≤ 36) (hz : S.1 t 7 = nI n) (hf : S.1 t 6 = nI a) (hrt : r + 4 ≤ t ∨ t + 7 ≤ r) (hrq : r + 4 ≤ q ∨ q + 2 ≤ r) (hpos : ∀ k, k < n → 0 ≤ (FP.f2i (S.2.1 (t + 6) k)).toInt) (hex : ∀ x4 x5 x6, pV mX5_trace d n0 X sh P 103 [some (.ref r), some (.ref q), some (.ref t), some (.int (nI n)), x4, x5, x6] [] (trS S r q t a n)) : ∀ (m k : Nat) (x4 x5 x6 : Option Value), k + m = n → pV mX5_trace d n0 X sh P 35 [some (.ref r), some (.ref q), some (.ref t), some (.int (nI k)), x4, x5, x6] [] (trS S r q t a k) := by
  intro m
  induction m with
  | zero =>
    intro k x4 x5 x6 hk
    have hk : k = n := by omega
    subst hk
    refine q_iload_n (pc := 35) (j := 3) rfl rfl ?_
    refine q_aload_n (pc := 36) (j := 2) rfl rfl ?_
    refine q_get (pc := 37) (a := t) (v := .int ((trS S r q t a k).1 t 7)) rfl fl_X5_26 ht.1 rfl rfl ?_
    exact q_icmp_ge (pc := 40) 103 rfl (by decide) (fun _ => hex _ _ _) (fun h9 => absurd (by rw [trS_I (by omega) (by omega) (by omega), hz]; exact Int32.le_refl _) h9)
  | succ m ih =>
    intro k x4 x5 x6 hk
    have hk1 : k < n := by omega
    refine q_iload_n (pc := 35) (j := 3) rfl rfl ?_
    refine q_aload_n (pc := 36) (j := 2) rfl rfl ?_
    refine q_get (pc := 37) (a := t) (v := .int ((trS S r q t a k).1 t 7)) rfl fl_X5_26 ht.1 rfl rfl ?_
    refine q_st (st2 := [.int (nI n), .int (nI k)]) (by rw [show ((trS S r q t a k).1 t 7) = nI n by rw [trS_I (by omega) (by omega) (by omega)]; exact hz]) ?_
    refine q_icmp_ge (pc := 40) 103 rfl (by decide) (fun h9 => absurd h9 (nI_ge hk1 (by omega))) (fun _ => ?_)
    refine q_aload_n (pc := 43) (j := 2) rfl rfl ?_
    refine q_get (pc := 44) (a := t) (v := .int ((trS S r q t a k).1 t 6)) rfl fl_X5_32 ht.1 rfl rfl ?_
    refine q_st (st2 := [.int (nI a)]) (by rw [show ((trS S r q t a k).1 t 6) = nI a by rw [trS_I (by omega) (by omega) (by omega)]; exact hf]) ?_
    refine q_iload_n (pc := 47) (j := 3) rfl rfl ?_
    refine q_iadd (pc := 48) rfl ?_
    refine q_st (st2 := [.int (nI (a + k))]) (by rw [nI_add a k]) ?_
    refine q_istore (pc := 49) (j := 4) [some (.ref r), some (.ref q), some (.ref t), some (.int (nI k)), some (.int (nI (a + k))), x5, x6] rfl (by decide) rfl ?_
    refine q_aload_n (pc := 51) (j := 2) rfl rfl ?_
    refine q_iload (pc := 52) (j := 4) rfl rfl ?_
    refine q_callV (pc := 54) (as := [.int (nI (a + k))]) (rest := []) (b := t) (st2 := [.int (FP.f2i ((trS S r q t a k).2.1 (t + 6) (a + k - a)))]) rfl ce_X6_cell ml_X5_35 im_X6_cell se_X6_cell ht.1 rfl rfl rfl (by omega) (Nat.le_of_ble_eq_true rfl) (sp_X6_cell (S := (trS S r q t a k)) (a := a) (c := a + k) ht (by rw [trS_I (by omega) (by omega) (by omega)]; exact hf) (by omega) (by omega)) rfl ?_
    refine q_st (st2 := [.int (FP.f2i (S.2.1 (t + 6) k))]) (by rw [show (FP.f2i ((trS S r q t a k).2.1 (t + 6) (a + k - a))) = (FP.f2i (S.2.1 (t + 6) k)) by rw [trS_2, Nat.add_sub_cancel_left]]) ?_
    refine q_istore (pc := 57) (j := 5) [some (.ref r), some (.ref q), some (.ref t), some (.int (nI k)), some (.int (nI (a + k))), some (.int (FP.f2i (S.2.1 (t + 6) k))), x6] rfl (by decide) rfl ?_
    refine q_iload (pc := 59) (j := 5) rfl rfl ?_
    refine q_aload_n (pc := 61) (j := 1) rfl rfl ?_
    refine q_iload (pc := 62) (j := 4) rfl rfl ?_
    refine q_iconst (pc := 64) 3 rfl (by decide) ?_
    refine q_callV (pc := 65) (as := [.int (nI (a + k)), .int 3]) (rest := [.int (FP.f2i (S.2.1 (t + 6) k))]) (b := q) (st2 := [.int ((trS S r q t a k).1 (q + 1) (5 * (a + k) + 3)), .int (FP.f2i (S.2.1 (t + 6) k))]) rfl ce_X4_part ml_X5_39 im_X4_part se_X4_part hq.1 rfl rfl rfl (by omega) (Nat.le_of_ble_eq_true rfl) (sp_X4_part (c := (a + k)) (w := 3) hq (by omega) (by omega)) rfl ?_
    refine q_iadd (pc := 68) rfl ?_
    refine q_sipush (pc := 69) 400 rfl (by decide) ?_
    refine q_min (pc := 72) rfl ml_X5_45 (by omega) (Nat.le_of_ble_eq_true rfl) ?_
    refine q_st (st2 := [.int (inkE (FP.f2i (S.2.1 (t + 6) k)) (S.1 (q + 1) (5 * (a + k) + 3)))]) (by rw [show (if 400 < ((FP.f2i (S.2.1 (t + 6) k)) + ((trS S r q t a k).1 (q + 1) (5 * (a + k) + 3))) then 400 else ((FP.f2i (S.2.1 (t + 6) k)) + ((trS S r q t a k).1 (q + 1) (5 * (a + k) + 3)))) = (inkE (FP.f2i (S.2.1 (t + 6) k)) (S.1 (q + 1) (5 * (a + k) + 3))) by rw [trS_I (x := q + 1) (by omega) (by omega) (by omega)]; rfl]) ?_
    refine q_istore (pc := 75) (j := 6) [some (.ref r), some (.ref q), some (.ref t), some (.int (nI k)), some (.int (nI (a + k))), some (.int (FP.f2i (S.2.1 (t + 6) k))), some (.int (inkE (FP.f2i (S.2.1 (t + 6) k)) (S.1 (q + 1) (5 * (a + k) + 3))))] rfl (by decide) rfl ?_
    refine q_aload_n (pc := 77) (j := 0) rfl rfl ?_
    refine q_iload (pc := 78) (j := 5) rfl rfl ?_
    refine q_iload (pc := 80) (j := 6) rfl rfl ?_
    refine q_aload_n (pc := 82) (j := 1) rfl rfl ?_
    refine q_iload (pc := 83) (j := 4) rfl rfl ?_
    refine q_callV (pc := 85) (as := [.int (nI (a + k))]) (rest := [.int (inkE (FP.f2i (S.2.1 (t + 6) k)) (S.1 (q + 1) (5 * (a + k) + 3))), .int (FP.f2i (S.2.1 (t + 6) k)), .ref r]) (b := q) (st2 := [.int (topV ((trS S r q t a k).1 (q + 1) (5 * (a + k) + 0)) ((trS S r q t a k).1 (q + 1) (5 * (a + k) + 2)) ((trS S r q t a k).1 (q + 1) (5 * (a + k) + 4))), .int (inkE (FP.f2i (S.2.1 (t + 6) k)) (S.1 (q + 1) (5 * (a + k) + 3))), .int (FP.f2i (S.2.1 (t + 6) k)), .ref r]) rfl ce_X4_top ml_X5_50 im_X4_top se_X4_top hq.1 rfl rfl rfl (by omega) (Nat.le_of_ble_eq_true rfl) (sp_X4_top (c := (a + k)) hq (by omega)) rfl ?_
    refine q_st (st2 := [.int (topV (S.1 (q + 1) (5 * (a + k) + 0)) (S.1 (q + 1) (5 * (a + k) + 2)) (S.1 (q + 1) (5 * (a + k) + 4))), .int (inkE (FP.f2i (S.2.1 (t + 6) k)) (S.1 (q + 1) (5 * (a + k) + 3))), .int (FP.f2i (S.2.1 (t + 6) k)), .ref r]) (by rw [show (topV ((trS S r q t a k).1 (q + 1) (5 * (a + k) + 0)) ((trS S r q t a k).1 (q + 1) (5 * (a + k) + 2)) ((trS S r q t a k).1 (q + 1) (5 * (a + k) + 4))) = (topV (S.1 (q + 1) (5 * (a + k) + 0)) (S.1 (q + 1) (5 * (a + k) + 2)) (S.1 (q + 1) (5 * (a + k) + 4))) by rw [trS_I (x := q + 1) (by omega) (by omega) (by omega)]]) ?_
    refine q_aload_n (pc := 88) (j := 1) rfl rfl ?_
    refine q_iload (pc := 89) (j := 4) rfl rfl ?_
    refine q_callV (pc := 91) (as := [.int (nI (a + k))]) (rest := [.int (topV (S.1 (q + 1) (5 * (a + k) + 0)) (S.1 (q + 1) (5 * (a + k) + 2)) (S.1 (q + 1) (5 * (a + k) + 4))), .int (inkE (FP.f2i (S.2.1 (t + 6) k)) (S.1 (q + 1) (5 * (a + k) + 3))), .int (FP.f2i (S.2.1 (t + 6) k)), .ref r]) (b := q) (st2 := [.int (botV ((trS S r q t a k).1 (q + 1) (5 * (a + k) + 0)) ((trS S r q t a k).1 (q + 1) (5 * (a + k) + 2))), .int (topV (S.1 (q + 1) (5 * (a + k) + 0)) (S.1 (q + 1) (5 * (a + k) + 2)) (S.1 (q + 1) (5 * (a + k) + 4))), .int (inkE (FP.f2i (S.2.1 (t + 6) k)) (S.1 (q + 1) (5 * (a + k) + 3))), .int (FP.f2i (S.2.1 (t + 6) k)), .ref r]) rfl ce_X4_bottom ml_X5_53 im_X4_bottom se_X4_bottom hq.1 rfl rfl rfl (by omega) (Nat.le_of_ble_eq_true rfl) (sp_X4_bottom (c := (a + k)) hq (by omega)) rfl ?_
    have ec : (FP.f2i (S.2.1 (t + 6) k)) = nI (FP.f2i (S.2.1 (t + 6) k)).toInt.toNat := nI_of0 (hpos k hk1)
    refine q_st (st2 := [.int (botV (S.1 (q + 1) (5 * (a + k) + 0)) (S.1 (q + 1) (5 * (a + k) + 2))), .int (topV (S.1 (q + 1) (5 * (a + k) + 0)) (S.1 (q + 1) (5 * (a + k) + 2)) (S.1 (q + 1) (5 * (a + k) + 4))), .int (inkE (FP.f2i (S.2.1 (t + 6) k)) (S.1 (q + 1) (5 * (a + k) + 3))), .int (nI (FP.f2i (S.2.1 (t + 6) k)).toInt.toNat), .ref r]) (by rw [← ec, trS_I (x := q + 1) (by omega) (by omega) (by omega)]) ?_
    refine q_callV (pc := 94) (as := [.int (nI (FP.f2i (S.2.1 (t + 6) k)).toInt.toNat), .int (inkE (FP.f2i (S.2.1 (t + 6) k)) (S.1 (q + 1) (5 * (a + k) + 3))), .int (topV (S.1 (q + 1) (5 * (a + k) + 0)) (S.1 (q + 1) (5 * (a + k) + 2)) (S.1 (q + 1) (5 * (a + k) + 4))), .int (botV (S.1 (q + 1) (5 * (a + k) + 0)) (S.1 (q + 1) (5 * (a + k) + 2)))]) (rest := []) (b := r) (st2 := []) rfl ce_X5_ink ml_X5_56 im_X5_ink se_X5_ink hs.1 rfl rfl rfl (by omega) (Nat.le_of_ble_eq_true rfl) (sp_X5_ink (c := (FP.f2i (S.2.1 (t + 6) k)).toInt.toNat) hs nN_lt (inkE_le _ _)) rfl ?_
    refine q_iinc (pc := 97) (j := 3) (n := 1) (nI (k + 1)) [some (.ref r), some (.ref q), some (.ref t), some (.int (nI (k + 1))), some (.int (nI (a + k))), some (.int (FP.f2i (S.2.1 (t + 6) k))), some (.int (inkE (FP.f2i (S.2.1 (t + 6) k)) (S.1 (q + 1) (5 * (a + k) + 3))))] rfl (by decide) rfl (nI_1 k) rfl ?_
    refine q_goto (pc := 100) 35 rfl (by decide) ?_
    exact ih (k + 1) _ _ _ (by omega)
set_option maxRecDepth 100000 in
theorem sp_X5_trace {sh : List PSh} {S : PSt} {r q t a n : Nat} (hs : isSk sh r) (hq : isSg sh q) (ht : isSt sh t) (hn : n ≤ 32) (han : a + n ≤ 36) (hz : S.1 t 7 = nI n) (hf : S.1 t 6 = nI a) (hrt : r + 4 ≤ t ∨ t + 7 ≤ r) (hrq : r + 4 ≤ q ∨ q + 2 ≤ r) (hpos : ∀ k, k < n → 0 ≤ (FP.f2i (S.2.1 (t + 6) k)).toInt)  : pF mX5_trace 3 [.ref r, .ref q, .ref t] sh S (trS S r q t a n) (none) := by
  refine pF.of (pG.of [some (.ref r), some (.ref q), some (.ref t), none, none, none, none] (by decide) tk_X5_trace (Nat.le_of_ble_eq_true rfl) rfl (fun X => ?_))
  refine q_iconst (pc := 0) 0 rfl (by decide) ?_
  refine q_istore_n (pc := 1) (j := 3) [some (.ref r), some (.ref q), some (.ref t), some (.int 0), none, none, none] rfl (by decide) rfl ?_
  refine q_S skc_0.symm (lp_X5_traceA (by decide) hs hq ht hn han hz hf hrt hrq hpos ?_ 400 0 (Nat.zero_add 400))
  refine q_aload_n (pc := 24) (j := 1) rfl rfl ?_
  refine q_ifnull (pc := 25) rfl ?_
  refine q_aload_n (pc := 28) (j := 2) rfl rfl ?_
  refine q_ifnonnull (pc := 29) 33 rfl (by decide) ?_
  refine q_iconst (pc := 33) 0 rfl (by decide) ?_
  refine q_istore_n (pc := 34) (j := 3) [some (.ref r), some (.ref q), some (.ref t), some (.int 0), none, none, none] rfl (by decide) rfl ?_
  refine lp_X5_traceB (by decide) hs hq ht hn han hz hf hrt hrq hpos (fun x4 x5 x6 => ?_) n 0 _ _ _ (Nat.zero_add n)
  exact q_vret (pc := 103) rfl rfl ⟨rfl, rfl⟩
end
section
/-! Best: written by wip/whole/gen/c18.py -/
def isBe (sh : List PSh) (r : Nat) : Prop := sh[r]? = some (.inr (0, [r + 1 + 3, r + 2 + 3, r + 3 + 3, r + 4 + 3, 0, 0, 1])) ∧ sh[r + 1]? = some (.inl (0, 33)) ∧ sh[r + 2]? = some (.inl (1, 33)) ∧ sh[r + 3]? = some (.inl (0, 33)) ∧ isSt sh (r + 4)
def fitT (T : PSt) (r m : Nat) : Bool := fitB (T.2.1 (r + 4) 8) (T.2.1 (r + 4 + 3)) m
def badT (T : PSt) (r m : Nat) : UInt32 := badF (qF (T.2.1 (r + 4) 8) (T.2.1 (r + 4 + 1)) (T.2.1 (r + 4 + 2)) m)
def totT (T : PSt) (r k m : Nat) : UInt32 := FP.fadd (T.2.1 (r + 2) k) (badT T r m)
/-- from the place k one comes to the place p, or not -/
def rst (S1 : PSt) (r q : Nat) (w : Int32) (p k : Nat) : PSt :=
  if S1.1 (r + 1) k = -1 then S1
  else if fitT (tk S1 (r + 4) q k w (p - k)) r (p - k) = true then
    (if (tk S1 (r + 4) q k w (p - k)).1 (r + 1) p = -1 ∨ flt (totT (tk S1 (r + 4) q k w (p - k)) r k (p - k)) ((tk S1 (r + 4) q k w (p - k)).2.1 (r + 2) p) = true then pSF (pSI (tk S1 (r + 4) q k w (p - k)) (r + 1) p (nI k)) (r + 2) p (totT (tk S1 (r + 4) q k w (p - k)) r k (p - k)) else tk S1 (r + 4) q k w (p - k))
  else tk S1 (r + 4) q k w (p - k)
def rchS (S : PSt) (r q : Nat) (w : Int32) (p : Nat) : Nat → PSt
  | 0 => S
  | k + 1 => rst (rchS S r q w p k) r q w p k
theorem rst_I {S1 : PSt} {r q : Nat} {w : Int32} {p k x : Nat} (h1 : x ≠ r + 1) (h2 : x ≠ r + 4) : (rst S1 r q w p k).1 x = S1.1 x := by
  have e : (tk S1 (r + 4) q k w (p - k)).1 x = S1.1 x := by funext j; simp [tk, h2]
  unfold rst
  split
  · rfl
  · split
    · split
      · funext j; show (pU _ _ _ _) x j = _; unfold pU; rw [if_neg (fun q => h1 q.1), e]
      · exact e
    · exact e
theorem rch_I {S : PSt} {r q : Nat} {w : Int32} {p x : Nat} (h1 : x ≠ r + 1) (h2 : x ≠ r + 4) (k : Nat) : (rchS S r q w p k).1 x = S.1 x := by
  induction k with
  | zero => rfl
  | succ k ih => exact (rst_I h1 h2).trans ih
/-- no NaN on the way from the place k to p -/
def okR (S1 : PSt) (r q : Nat) (w : Int32) (p k : Nat) : Prop := S1.1 (r + 1) k ≠ -1 →
  okSum ((tk S1 (r + 4) q k w (p - k)).2.1 (r + 4 + 3)) (p - k) ∧ (fitT (tk S1 (r + 4) q k w (p - k)) r (p - k) = true → okBad ((tk S1 (r + 4) q k w (p - k)).2.1 (r + 4) 8) ((tk S1 (r + 4) q k w (p - k)).2.1 (r + 4 + 1)) ((tk S1 (r + 4) q k w (p - k)).2.1 (r + 4 + 2)) (p - k) ∧ vf_n32 (totT (tk S1 (r + 4) q k w (p - k)) r k (p - k)))

set_option maxRecDepth 100000 in
theorem lp_X0_reach {n0 : Nat} {X : Nat × (Nat → Int32)} {P : Option Value → PSt → Prop} {d : Nat} (hd9 : 3 ≤ d) {sh : List PSh} {S : PSt} {r q p : Nat} {w : Int32} (hs : isBe sh r) (hq : isSg sh q) (hqr : q + 2 ≤ r ∨ r + 11 ≤ q) (hp : p ≤ 32) (hp0 : 0 < p) (hdur : ∀ i, i < p → ¬ S.1 (q + 1) (5 * i + 0) = 2 → isDur (S.1 (q + 1) (5 * i + 1))) (hok : ∀ k, k < p → okR (rchS S r q w p k) r q w p k) (hex : ∀ f, pV mX0_reach d n0 X sh P 123 [some (.ref r), some (.int (nI p)), some (.ref q), some (.int w), some (.int (nI p)), f] [] (rchS S r q w p p)) : ∀ (m k : Nat) (f : Option Value), k + m = p → pV mX0_reach d n0 X sh P 3 [some (.ref r), some (.int (nI p)), some (.ref q), some (.int w), some (.int (nI k)), f] [] (rchS S r q w p k) := by
  intro m
  induction m with
  | zero =>
    intro k f hk
    have hk : k = p := by omega
    subst hk
    refine q_iload (pc := 3) (j := 4) rfl rfl ?_
    refine q_iload_n (pc := 5) (j := 1) rfl rfl ?_
    exact q_icmp_ge (pc := 6) 123 rfl (by decide) (fun _ => hex _) (fun h9 => absurd (Int32.le_refl _) h9)
  | succ m ih =>
    intro k f hk
    have hk1 : k < p := by omega
    refine q_iload (pc := 3) (j := 4) rfl rfl ?_
    refine q_iload_n (pc := 5) (j := 1) rfl rfl ?_
    refine q_icmp_ge (pc := 6) 123 rfl (by decide) (fun h9 => absurd h9 (nI_ge hk1 (by omega))) (fun _ => ?_)
    refine q_aload_n (pc := 9) (j := 0) rfl rfl ?_
    refine q_get (pc := 10) (a := r) (v := .ref (r + 1)) rfl fl_X0_9 hs.1 rfl rfl ?_
    refine q_iload (pc := 13) (j := 4) rfl rfl ?_
    refine q_callS (pc := 15) (as := [.ref (r + 1), .int (nI k)]) (rest := []) (st2 := [.int ((rchS S r q w p k).1 (r + 1) k)]) rfl ce_X8_readInt ml_X0_59 st_X8_readInt rfl (by omega) (Nat.le_of_ble_eq_true rfl) (sp_readIntN (k := k) hs.2.1 (by omega) (by decide)) rfl ?_
    refine q_iconst (pc := 18) (-1) rfl (by decide) ?_
    refine q_icmp_ne (pc := 19) 25 rfl (by decide) (fun h19 => ?_) (fun h19 => ?_)
    · refine q_aload_n (pc := 25) (j := 0) rfl rfl ?_
      refine q_get (pc := 26) (a := r) (v := .ref (r + 4)) rfl fl_X0_25 hs.1 rfl rfl ?_
      refine q_aload_n (pc := 29) (j := 2) rfl rfl ?_
      refine q_iload (pc := 30) (j := 4) rfl rfl ?_
      refine q_iload_n (pc := 32) (j := 1) rfl rfl ?_
      refine q_iconst (pc := 33) 1 rfl (by decide) ?_
      refine q_isub (pc := 34) rfl ?_
      refine q_st (st2 := [.int (nI (p - 1)), .int (nI k), .ref q, .ref (r + 4)]) (by rw [(show nI p - 1 = nI (p - 1) from pk_sub (b := 1) hp0)]) ?_
      refine q_iload_n (pc := 35) (j := 3) rfl rfl ?_
      refine q_callV (pc := 36) (as := [.ref q, .int (nI k), .int (nI (p - 1)), .int w]) (rest := []) (b := (r + 4)) (st2 := []) rfl ce_X6_take ml_X0_71 im_X6_take se_X6_take hs.2.2.2.2.1 rfl rfl rfl (by omega) (Nat.le_of_ble_eq_true rfl) (sp_X6_take (S := (rchS S r q w p k)) (n := p - k) (a := k) (b := p - 1) hs.2.2.2.2 hq (by omega) (by omega) (by omega) (by omega) (fun i _ h2 => by rw [rch_I (by omega) (by omega)]; exact hdur i (by omega))) rfl ?_
      refine q_aload_n (pc := 39) (j := 0) rfl rfl ?_
      refine q_get (pc := 40) (a := r) (v := .ref (r + 4)) rfl fl_X0_25 hs.1 rfl rfl ?_
      refine q_callV (pc := 43) (as := []) (rest := []) (b := (r + 4)) (st2 := [.int (pB (fitT (tk (rchS S r q w p k) (r + 4) q k w (p - k)) r (p - k)))]) rfl ce_X6_fits ml_X0_75 im_X6_fits se_X6_fits hs.2.2.2.2.1 rfl rfl rfl (by omega) (Nat.le_of_ble_eq_true rfl) (sp_X6_fits (S := (tk (rchS S r q w p k) (r + 4) q k w (p - k))) (n := p - k) hs.2.2.2.2 (by omega) (tk_sz (S := (rchS S r q w p k)) (r := r + 4) (q := q) (a := k) (w := w) (k := p - k)) (hok k hk1 h19).1) rfl ?_
      refine q_if_ne (pc := 46) 52 rfl (by decide) (fun h46 => ?_) (fun h46 => ?_)
      · refine q_aload_n (pc := 52) (j := 0) rfl rfl ?_
        refine q_get (pc := 53) (a := r) (v := .ref (r + 2)) rfl fl_X0_15 hs.1 rfl rfl ?_
        refine q_iload (pc := 56) (j := 4) rfl rfl ?_
        refine q_callS (pc := 58) (as := [.ref (r + 2), .int (nI k)]) (rest := []) (st2 := [.float ((tk (rchS S r q w p k) (r + 4) q k w (p - k)).2.1 (r + 2) k)]) rfl ce_X8_readFloat ml_X0_63 st_X8_readFloat rfl (by omega) (Nat.le_of_ble_eq_true rfl) (sp_readFloatN (k := k) hs.2.2.1 (by omega) (by decide)) rfl ?_
        refine q_aload_n (pc := 61) (j := 0) rfl rfl ?_
        refine q_get (pc := 62) (a := r) (v := .ref (r + 4)) rfl fl_X0_25 hs.1 rfl rfl ?_
        refine q_callV (pc := 65) (as := []) (rest := [.float ((tk (rchS S r q w p k) (r + 4) q k w (p - k)).2.1 (r + 2) k)]) (b := (r + 4)) (st2 := [.float (badT (tk (rchS S r q w p k) (r + 4) q k w (p - k)) r (p - k)), .float ((tk (rchS S r q w p k) (r + 4) q k w (p - k)).2.1 (r + 2) k)]) rfl ce_X6_badness ml_X0_79 im_X6_badness se_X6_badness hs.2.2.2.2.1 rfl rfl rfl (by omega) (Nat.le_of_ble_eq_true rfl) (sp_X6_badness (S := (tk (rchS S r q w p k) (r + 4) q k w (p - k))) (n := p - k) hs.2.2.2.2 (by omega) (tk_sz (S := (rchS S r q w p k)) (r := r + 4) (q := q) (a := k) (w := w) (k := p - k)) ((hok k hk1 h19).2 (pB_t h46)).1) rfl ?_
        refine q_fadd (pc := 68) rfl ((hok k hk1 h19).2 (pB_t h46)).2 ?_
        refine q_st (st2 := [.float (totT (tk (rchS S r q w p k) (r + 4) q k w (p - k)) r k (p - k))]) (by rw [(show FP.fadd ((tk (rchS S r q w p k) (r + 4) q k w (p - k)).2.1 (r + 2) k) (badT (tk (rchS S r q w p k) (r + 4) q k w (p - k)) r (p - k)) = (totT (tk (rchS S r q w p k) (r + 4) q k w (p - k)) r k (p - k)) from rfl)]) ?_
        refine q_fstore (pc := 69) (j := 5) [some (.ref r), some (.int (nI p)), some (.ref q), some (.int w), some (.int (nI k)), some (.float (totT (tk (rchS S r q w p k) (r + 4) q k w (p - k)) r k (p - k)))] rfl (by decide) rfl ?_
        refine q_aload_n (pc := 71) (j := 0) rfl rfl ?_
        refine q_get (pc := 72) (a := r) (v := .ref (r + 1)) rfl fl_X0_9 hs.1 rfl rfl ?_
        refine q_iload_n (pc := 75) (j := 1) rfl rfl ?_
        refine q_callS (pc := 76) (as := [.ref (r + 1), .int (nI p)]) (rest := []) (st2 := [.int ((tk (rchS S r q w p k) (r + 4) q k w (p - k)).1 (r + 1) p)]) rfl ce_X8_readInt ml_X0_59 st_X8_readInt rfl (by omega) (Nat.le_of_ble_eq_true rfl) (sp_readIntN (k := p) hs.2.1 (by omega) (by decide)) rfl ?_
        refine q_iconst (pc := 79) (-1) rfl (by decide) ?_
        refine q_icmp_eq (pc := 80) 97 rfl (by decide) (fun h80 => ?_) (fun h80 => ?_)
        · refine q_aload_n (pc := 97) (j := 0) rfl rfl ?_
          refine q_get (pc := 98) (a := r) (v := .ref (r + 1)) rfl fl_X0_9 hs.1 rfl rfl ?_
          refine q_iload_n (pc := 101) (j := 1) rfl rfl ?_
          refine q_iload (pc := 102) (j := 4) rfl rfl ?_
          refine q_callS (pc := 104) (as := [.ref (r + 1), .int (nI p), .int (nI k)]) (rest := []) (st2 := []) rfl ce_X8_writeInt ml_X0_41 st_X8_writeInt rfl (by omega) (Nat.le_of_ble_eq_true rfl) (sp_writeIntN (k := p) hs.2.1 (by omega) (by decide)) rfl ?_
          refine q_aload_n (pc := 107) (j := 0) rfl rfl ?_
          refine q_get (pc := 108) (a := r) (v := .ref (r + 2)) rfl fl_X0_15 hs.1 rfl rfl ?_
          refine q_iload_n (pc := 111) (j := 1) rfl rfl ?_
          refine q_fload (pc := 112) (j := 5) rfl rfl ?_
          refine q_callS (pc := 114) (as := [.ref (r + 2), .int (nI p), .float (totT (tk (rchS S r q w p k) (r + 4) q k w (p - k)) r k (p - k))]) (rest := []) (st2 := []) rfl ce_X8_writeFloat ml_X0_45 st_X8_writeFloat rfl (by omega) (Nat.le_of_ble_eq_true rfl) (sp_writeFloatN (k := p) hs.2.2.1 (by omega) (by decide)) rfl ?_
          refine q_iinc (pc := 117) (j := 4) (n := 1) (nI (k + 1)) [some (.ref r), some (.int (nI p)), some (.ref q), some (.int w), some (.int (nI (k + 1))), some (.float (totT (tk (rchS S r q w p k) (r + 4) q k w (p - k)) r k (p - k)))] rfl (by decide) rfl (nI_1 k) rfl ?_
          refine q_goto (pc := 120) 3 rfl (by decide) ?_
          exact q_S (show rst (rchS S r q w p k) r q w p k = (pSF (pSI (tk (rchS S r q w p k) (r + 4) q k w (p - k)) (r + 1) p (nI k)) (r + 2) p (totT (tk (rchS S r q w p k) (r + 4) q k w (p - k)) r k (p - k))) from by unfold rst; rw [if_neg h19, if_pos (pB_t h46), if_pos (Or.inl h80)]).symm (ih (k + 1) _ (by omega))
        · refine q_fload (pc := 83) (j := 5) rfl rfl ?_
          refine q_aload_n (pc := 85) (j := 0) rfl rfl ?_
          refine q_get (pc := 86) (a := r) (v := .ref (r + 2)) rfl fl_X0_15 hs.1 rfl rfl ?_
          refine q_iload_n (pc := 89) (j := 1) rfl rfl ?_
          refine q_callS (pc := 90) (as := [.ref (r + 2), .int (nI p)]) (rest := [.float (totT (tk (rchS S r q w p k) (r + 4) q k w (p - k)) r k (p - k))]) (st2 := [.float ((tk (rchS S r q w p k) (r + 4) q k w (p - k)).2.1 (r + 2) p), .float (totT (tk (rchS S r q w p k) (r + 4) q k w (p - k)) r k (p - k))]) rfl ce_X8_readFloat ml_X0_63 st_X8_readFloat rfl (by omega) (Nat.le_of_ble_eq_true rfl) (sp_readFloatN (k := p) hs.2.2.1 (by omega) (by decide)) rfl ?_
          refine q_fcmp (pc := 93) (op := .g) rfl ?_
          refine q_if_ge (pc := 94) 117 rfl (by decide) (fun h94 => ?_) (fun h94 => ?_)
          · refine q_iinc (pc := 117) (j := 4) (n := 1) (nI (k + 1)) [some (.ref r), some (.int (nI p)), some (.ref q), some (.int w), some (.int (nI (k + 1))), some (.float (totT (tk (rchS S r q w p k) (r + 4) q k w (p - k)) r k (p - k)))] rfl (by decide) rfl (nI_1 k) rfl ?_
            refine q_goto (pc := 120) 3 rfl (by decide) ?_
            exact q_S (show rst (rchS S r q w p k) r q w p k = (tk (rchS S r q w p k) (r + 4) q k w (p - k)) from by unfold rst; rw [if_neg h19, if_pos (pB_t h46), if_neg (fun q9 => q9.elim h80 (fun q9 => absurd (of_decide_eq_true q9) (Int32.not_lt.mpr h94)))]).symm (ih (k + 1) _ (by omega))
          · refine q_aload_n (pc := 97) (j := 0) rfl rfl ?_
            refine q_get (pc := 98) (a := r) (v := .ref (r + 1)) rfl fl_X0_9 hs.1 rfl rfl ?_
            refine q_iload_n (pc := 101) (j := 1) rfl rfl ?_
            refine q_iload (pc := 102) (j := 4) rfl rfl ?_
            refine q_callS (pc := 104) (as := [.ref (r + 1), .int (nI p), .int (nI k)]) (rest := []) (st2 := []) rfl ce_X8_writeInt ml_X0_41 st_X8_writeInt rfl (by omega) (Nat.le_of_ble_eq_true rfl) (sp_writeIntN (k := p) hs.2.1 (by omega) (by decide)) rfl ?_
            refine q_aload_n (pc := 107) (j := 0) rfl rfl ?_
            refine q_get (pc := 108) (a := r) (v := .ref (r + 2)) rfl fl_X0_15 hs.1 rfl rfl ?_
            refine q_iload_n (pc := 111) (j := 1) rfl rfl ?_
            refine q_fload (pc := 112) (j := 5) rfl rfl ?_
            refine q_callS (pc := 114) (as := [.ref (r + 2), .int (nI p), .float (totT (tk (rchS S r q w p k) (r + 4) q k w (p - k)) r k (p - k))]) (rest := []) (st2 := []) rfl ce_X8_writeFloat ml_X0_45 st_X8_writeFloat rfl (by omega) (Nat.le_of_ble_eq_true rfl) (sp_writeFloatN (k := p) hs.2.2.1 (by omega) (by decide)) rfl ?_
            refine q_iinc (pc := 117) (j := 4) (n := 1) (nI (k + 1)) [some (.ref r), some (.int (nI p)), some (.ref q), some (.int w), some (.int (nI (k + 1))), some (.float (totT (tk (rchS S r q w p k) (r + 4) q k w (p - k)) r k (p - k)))] rfl (by decide) rfl (nI_1 k) rfl ?_
            refine q_goto (pc := 120) 3 rfl (by decide) ?_
            exact q_S (show rst (rchS S r q w p k) r q w p k = (pSF (pSI (tk (rchS S r q w p k) (r + 4) q k w (p - k)) (r + 1) p (nI k)) (r + 2) p (totT (tk (rchS S r q w p k) (r + 4) q k w (p - k)) r k (p - k))) from by unfold rst; rw [if_neg h19, if_pos (pB_t h46), if_pos (Or.inr (show flt _ _ = true from decide_eq_true (Int32.not_le.mp h94)))]).symm (ih (k + 1) _ (by omega))
      · refine q_goto (pc := 49) 117 rfl (by decide) ?_
        refine q_iinc (pc := 117) (j := 4) (n := 1) (nI (k + 1)) [some (.ref r), some (.int (nI p)), some (.ref q), some (.int w), some (.int (nI (k + 1))), f] rfl (by decide) rfl (nI_1 k) rfl ?_
        refine q_goto (pc := 120) 3 rfl (by decide) ?_
        exact q_S (show rst (rchS S r q w p k) r q w p k = (tk (rchS S r q w p k) (r + 4) q k w (p - k)) from by unfold rst; rw [if_neg h19, if_neg (fun q9 => by rw [q9] at h46; exact absurd h46 (by decide))]).symm (ih (k + 1) _ (by omega))
    · refine q_goto (pc := 22) 117 rfl (by decide) ?_
      refine q_iinc (pc := 117) (j := 4) (n := 1) (nI (k + 1)) [some (.ref r), some (.int (nI p)), some (.ref q), some (.int w), some (.int (nI (k + 1))), f] rfl (by decide) rfl (nI_1 k) rfl ?_
      refine q_goto (pc := 120) 3 rfl (by decide) ?_
      exact q_S (show rst (rchS S r q w p k) r q w p k = (rchS S r q w p k) from by unfold rst; rw [if_pos h19]).symm (ih (k + 1) _ (by omega))
set_option maxRecDepth 100000 in
theorem sp_X0_reach {sh : List PSh} {S : PSt} {r q p : Nat} {w : Int32} (hs : isBe sh r) (hq : isSg sh q) (hqr : q + 2 ≤ r ∨ r + 11 ≤ q) (hp : p ≤ 32) (hp0 : 0 < p) (hdur : ∀ i, i < p → ¬ S.1 (q + 1) (5 * i + 0) = 2 → isDur (S.1 (q + 1) (5 * i + 1))) (hok : ∀ k, k < p → okR (rchS S r q w p k) r q w p k)  : pF mX0_reach 3 [.ref r, .int (nI p), .ref q, .int w] sh S (rchS S r q w p p) (none) := by
  refine pF.of (pG.of [some (.ref r), some (.int (nI p)), some (.ref q), some (.int w), none, none] (by decide) tk_X0_reach (Nat.le_of_ble_eq_true rfl) rfl (fun X => ?_))
  refine q_iconst (pc := 0) 0 rfl (by decide) ?_
  refine q_istore (pc := 1) (j := 4) [some (.ref r), some (.int (nI p)), some (.ref q), some (.int w), some (.int 0), none] rfl (by decide) rfl ?_
  refine lp_X0_reach (by decide) hs hq hqr hp hp0 hdur hok (fun f => ?_) p 0 _ (Nat.zero_add p)
  exact q_vret (pc := 123) rfl rfl ⟨rfl, rfl⟩
def isEndB (S : PSt) (q n k : Nat) : Bool := decide (k = n) || decide (S.1 (q + 1) (5 * (k - 1) + 0) = 2)
/-- the places 1 to k are done -/
def fdS (S : PSt) (r q n : Nat) (w : Int32) : Nat → PSt
  | 0 => pSF (pSI (pSI S r 5 0) (r + 1) 0 0) (r + 2) 0 FP.fconst0
  | k + 1 => if isEndB S q n (k + 1) = true then rchS (pSI (fdS S r q n w k) (r + 1) (k + 1) (-1)) r q w (k + 1) (k + 1) else pSI (fdS S r q n w k) (r + 1) (k + 1) (-1)
theorem fd_I {S : PSt} {r q n x : Nat} {w : Int32} (h0 : x ≠ r) (h1 : x ≠ r + 1) (h2 : x ≠ r + 4) (k : Nat) : (fdS S r q n w k).1 x = S.1 x := by
  induction k with
  | zero => funext j; simp [fdS, pSF, pSI, pU, h0, h1]
  | succ k ih =>
    have e : (pSI (fdS S r q n w k) (r + 1) (k + 1) (-1)).1 x = S.1 x := by rw [← ih]; funext j; simp [pSI, pU, h1]
    unfold fdS
    split
    · rw [rch_I h1 h2, e]
    · exact e
/-- behind the search: found or not, the total -/
def fd2 (S : PSt) (r q n : Nat) (w : Int32) : PSt := pSF (pSI (fdS S r q n w n) r 5 (pB (decide ((fdS S r q n w n).1 (r + 1) n ≠ -1)))) r 6 ((fdS S r q n w n).2.1 (r + 2) n)
set_option maxRecDepth 100000 in
theorem lp_X0_find {n0 : Nat} {X : Nat × (Nat → Int32)} {P : Option Value → PSt → Prop} {d : Nat} (hd9 : 4 ≤ d) {sh : List PSh} {S : PSt} {r q n : Nat} {w : Int32} (hs : isBe sh r) (hq : isSg sh q) (hqr : q + 2 ≤ r ∨ r + 11 ≤ q) (hn : n ≤ 32) (hdur : ∀ i, i < n → ¬ S.1 (q + 1) (5 * i + 0) = 2 → isDur (S.1 (q + 1) (5 * i + 1))) (hok : ∀ p k, p < n → k < p + 1 → isEndB S q n (p + 1) = true → okR (rchS (pSI (fdS S r q n w p) (r + 1) (p + 1) (-1)) r q w (p + 1) k) r q w (p + 1) k) (hex : pV mX0_find d n0 X sh P 80 [some (.ref r), some (.ref q), some (.int (nI n)), some (.int w), some (.int (nI (n + 1)))] [] (fdS S r q n w n)) : ∀ (m k : Nat), k + m = n → pV mX0_find d n0 X sh P 31 [some (.ref r), some (.ref q), some (.int (nI n)), some (.int w), some (.int (nI (k + 1)))] [] (fdS S r q n w k) := by
  intro m
  induction m with
  | zero =>
    intro k hk
    have hk : k = n := by omega
    subst hk
    refine q_iload (pc := 31) (j := 4) rfl rfl ?_
    refine q_iload_n (pc := 33) (j := 2) rfl rfl ?_
    exact q_icmp_gt (pc := 34) 80 rfl (by decide) (fun _ => hex) (fun h9 => absurd (nI_lt (by omega) (by omega)) h9)
  | succ m ih =>
    intro k hk
    have hk1 : k < n := by omega
    refine q_iload (pc := 31) (j := 4) rfl rfl ?_
    refine q_iload_n (pc := 33) (j := 2) rfl rfl ?_
    refine q_icmp_gt (pc := 34) 80 rfl (by decide) (fun h9 => absurd h9 (nI_nlt (by omega) (by omega))) (fun _ => ?_)
    refine q_aload_n (pc := 37) (j := 0) rfl rfl ?_
    refine q_get (pc := 38) (a := r) (v := .ref (r + 1)) rfl fl_X0_9 hs.1 rfl rfl ?_
    refine q_iload (pc := 41) (j := 4) rfl rfl ?_
    refine q_iconst (pc := 43) (-1) rfl (by decide) ?_
    refine q_callS (pc := 44) (as := [.ref (r + 1), .int (nI (k + 1)), .int (-1)]) (rest := []) (st2 := []) rfl ce_X8_writeInt ml_X0_41 st_X8_writeInt rfl (by omega) (Nat.le_of_ble_eq_true rfl) (sp_writeIntN (k := (k + 1)) hs.2.1 (by omega) (by decide)) rfl ?_
    refine q_iload (pc := 47) (j := 4) rfl rfl ?_
    refine q_iload_n (pc := 49) (j := 2) rfl rfl ?_
    refine q_icmp_eq (pc := 50) 66 rfl (by decide) (fun h50 => ?_) (fun h50 => ?_)
    · have hend : isEndB S q n (k + 1) = true := by first | (have h9 := (nI_eq (by omega) (by omega)).mp h50; simp [isEndB, h9]; done) | (rw [show (pSI (fdS S r q n w k) (r + 1) (k + 1) (-1)).1 (q + 1) = S.1 (q + 1) from (show _ = (fdS S r q n w k).1 (q + 1) from by funext j; simp [pSI, pU]; omega).trans (fd_I (by omega) (by omega) (by omega) k), show 5 * k + 0 = 5 * k from rfl] at h63; simp [isEndB]; exact Or.inr h63)
      refine q_aload_n (pc := 66) (j := 0) rfl rfl ?_
      refine q_iload (pc := 67) (j := 4) rfl rfl ?_
      refine q_aload_n (pc := 69) (j := 1) rfl rfl ?_
      refine q_iload_n (pc := 70) (j := 3) rfl rfl ?_
      refine q_callV (pc := 71) (as := [.int (nI (k + 1)), .ref q, .int w]) (rest := []) (b := r) (st2 := []) rfl ce_X0_reach ml_X0_55 im_X0_reach se_X0_reach hs.1 rfl rfl rfl (by omega) (Nat.le_of_ble_eq_true rfl) (sp_X0_reach (S := (pSI (fdS S r q n w k) (r + 1) (k + 1) (-1))) (p := k + 1) hs hq hqr (by omega) (by omega) (fun i hi => by rw [show (pSI (fdS S r q n w k) (r + 1) (k + 1) (-1)).1 (q + 1) = S.1 (q + 1) from (show _ = (fdS S r q n w k).1 (q + 1) from by funext j; simp [pSI, pU]; omega).trans (fd_I (by omega) (by omega) (by omega) k)]; exact hdur i (by omega)) (fun k9 h9 => hok k k9 hk1 h9 hend)) rfl ?_
      refine q_iinc (pc := 74) (j := 4) (n := 1) (nI (k + 1 + 1)) [some (.ref r), some (.ref q), some (.int (nI n)), some (.int w), some (.int (nI (k + 1 + 1)))] rfl (by decide) rfl (nI_1 (k + 1)) rfl ?_
      refine q_goto (pc := 77) 31 rfl (by decide) ?_
      exact q_S (show fdS S r q n w (k + 1) = (rchS (pSI (fdS S r q n w k) (r + 1) (k + 1) (-1)) r q w (k + 1) (k + 1)) from if_pos hend).symm (ih (k + 1) (by omega))
    · refine q_aload_n (pc := 53) (j := 1) rfl rfl ?_
      refine q_iload (pc := 54) (j := 4) rfl rfl ?_
      refine q_iconst (pc := 56) 1 rfl (by decide) ?_
      refine q_isub (pc := 57) rfl ?_
      refine q_st (st2 := [.int (nI k), .ref q]) (by rw [(show nI (k + 1) - 1 = nI k from pk_sub (a := k + 1) (b := 1) (by omega))]) ?_
      refine q_iconst (pc := 58) 0 rfl (by decide) ?_
      refine q_callV (pc := 59) (as := [.int (nI k), .int 0]) (rest := []) (b := q) (st2 := [.int ((pSI (fdS S r q n w k) (r + 1) (k + 1) (-1)).1 (q + 1) (5 * k + 0))]) rfl ce_X4_part ml_X0_49 im_X4_part se_X4_part hq.1 rfl rfl rfl (by omega) (Nat.le_of_ble_eq_true rfl) (sp_X4_part (c := k) (w := 0) hq (by omega) (by omega)) rfl ?_
      refine q_iconst (pc := 62) 2 rfl (by decide) ?_
      refine q_icmp_ne (pc := 63) 74 rfl (by decide) (fun h63 => ?_) (fun h63 => ?_)
      · have hnend : ¬ isEndB S q n (k + 1) = true := (by have h9 : ¬ k + 1 = n := fun q9 => h50 (by rw [q9]); rw [show (pSI (fdS S r q n w k) (r + 1) (k + 1) (-1)).1 (q + 1) = S.1 (q + 1) from (show _ = (fdS S r q n w k).1 (q + 1) from by funext j; simp [pSI, pU]; omega).trans (fd_I (by omega) (by omega) (by omega) k), show 5 * k + 0 = 5 * k from rfl] at h63; simp [isEndB, h9]; exact h63)
        refine q_iinc (pc := 74) (j := 4) (n := 1) (nI (k + 1 + 1)) [some (.ref r), some (.ref q), some (.int (nI n)), some (.int w), some (.int (nI (k + 1 + 1)))] rfl (by decide) rfl (nI_1 (k + 1)) rfl ?_
        refine q_goto (pc := 77) 31 rfl (by decide) ?_
        exact q_S (show fdS S r q n w (k + 1) = (pSI (fdS S r q n w k) (r + 1) (k + 1) (-1)) from if_neg hnend).symm (ih (k + 1) (by omega))
      · have hend : isEndB S q n (k + 1) = true := by first | (have h9 := (nI_eq (by omega) (by omega)).mp h50; simp [isEndB, h9]; done) | (rw [show (pSI (fdS S r q n w k) (r + 1) (k + 1) (-1)).1 (q + 1) = S.1 (q + 1) from (show _ = (fdS S r q n w k).1 (q + 1) from by funext j; simp [pSI, pU]; omega).trans (fd_I (by omega) (by omega) (by omega) k), show 5 * k + 0 = 5 * k from rfl] at h63; simp [isEndB]; exact Or.inr h63)
        refine q_aload_n (pc := 66) (j := 0) rfl rfl ?_
        refine q_iload (pc := 67) (j := 4) rfl rfl ?_
        refine q_aload_n (pc := 69) (j := 1) rfl rfl ?_
        refine q_iload_n (pc := 70) (j := 3) rfl rfl ?_
        refine q_callV (pc := 71) (as := [.int (nI (k + 1)), .ref q, .int w]) (rest := []) (b := r) (st2 := []) rfl ce_X0_reach ml_X0_55 im_X0_reach se_X0_reach hs.1 rfl rfl rfl (by omega) (Nat.le_of_ble_eq_true rfl) (sp_X0_reach (S := (pSI (fdS S r q n w k) (r + 1) (k + 1) (-1))) (p := k + 1) hs hq hqr (by omega) (by omega) (fun i hi => by rw [show (pSI (fdS S r q n w k) (r + 1) (k + 1) (-1)).1 (q + 1) = S.1 (q + 1) from (show _ = (fdS S r q n w k).1 (q + 1) from by funext j; simp [pSI, pU]; omega).trans (fd_I (by omega) (by omega) (by omega) k)]; exact hdur i (by omega)) (fun k9 h9 => hok k k9 hk1 h9 hend)) rfl ?_
        refine q_iinc (pc := 74) (j := 4) (n := 1) (nI (k + 1 + 1)) [some (.ref r), some (.ref q), some (.int (nI n)), some (.int w), some (.int (nI (k + 1 + 1)))] rfl (by decide) rfl (nI_1 (k + 1)) rfl ?_
        refine q_goto (pc := 77) 31 rfl (by decide) ?_
        exact q_S (show fdS S r q n w (k + 1) = (rchS (pSI (fdS S r q n w k) (r + 1) (k + 1) (-1)) r q w (k + 1) (k + 1)) from if_pos hend).symm (ih (k + 1) (by omega))
/-- L lines lead to the place p -/
def chN (S : PSt) (r : Nat) : Nat → Nat → Prop
  | 0, p => p = 0
  | L + 1, p => 0 < p ∧ ∃ f, f < p ∧ S.1 (r + 1) p = nI f ∧ chN S r L f
/-- the place behind k of the L lines that lead to p -/
def pos (S : PSt) (r : Nat) : Nat → Nat → Nat → Nat
  | 0, p, _ => p
  | L + 1, p, k => if k = L + 1 then p else pos S r L (S.1 (r + 1) p).toNatClampNeg k
theorem chN_le {S : PSt} {r : Nat} : ∀ (L p : Nat), chN S r L p → L ≤ p := by
  intro L
  induction L with
  | zero => intro p _; exact Nat.zero_le _
  | succ L ih => intro p h; obtain ⟨h1, f, h2, _, h3⟩ := h; have := ih f h3; omega
theorem pos_top {S : PSt} {r L p : Nat} : pos S r L p L = p := by cases L <;> simp [pos]
/-- the places of the lines from k on are told -/
def tb2 (S : PSt) (r L n k : Nat) : PSt := (fun c j => if c = r ∧ j = 4 then nI L else if c = r + 3 ∧ k ≤ j ∧ j ≤ L then nI (pos S r L n j) else S.1 c j, S.2)
theorem tb2_0 {S : PSt} {r L n : Nat} : pSI S r 4 (nI L) = tb2 S r L n (L + 1) := by
  unfold tb2 pSI pU
  refine Prod.ext (funext fun c => funext fun j => ?_) rfl
  dsimp only
  by_cases h : c = r ∧ j = 4
  · rw [if_pos h, if_pos h]
  · rw [if_neg h, if_neg h, if_neg (by omega)]
theorem tb2_s {S : PSt} {r L n k : Nat} (hk : k ≤ L) : pSI (tb2 S r L n (k + 1)) (r + 3) k (nI (pos S r L n k)) = tb2 S r L n k := by
  unfold tb2 pSI pU
  refine Prod.ext (funext fun c => funext fun j => ?_) rfl
  dsimp only
  by_cases hj : j = k
  · subst hj; (repeat' split) <;> first | rfl | (exfalso; omega)
  · (repeat' split) <;> first | rfl | (exfalso; omega)
def tbS (T : PSt) (r L n : Nat) : PSt := if T.1 r 5 = 0 then pSI T r 4 0 else tb2 T r L n 0
theorem pos_dn {S : PSt} {r L p k f : Nat} (hk : ¬ k = L + 1) (hf : S.1 (r + 1) p = nI f) (hb : f < 2 ^ 31) : pos S r (L + 1) p k = pos S r L f k := by
  show (if k = L + 1 then p else pos S r L (S.1 (r + 1) p).toNatClampNeg k) = _
  rw [if_neg hk, hf, nI_clamp hb]
/-- the places of a chain: that of k lines has k lines, and its forerunner stands there -/
theorem pos_chain {S : PSt} {r : Nat} : ∀ (m L p k : Nat), p < 2 ^ 31 → chN S r L p → k + m = L → chN S r k (pos S r L p k) ∧ pos S r L p k ≤ p := by
  intro m
  induction m with
  | zero =>
    intro L p k _ h hk
    have : k = L := by omega
    subst this
    rw [pos_top]
    exact ⟨h, Nat.le_refl _⟩
  | succ m ih =>
    intro L p k hp h hk
    cases L with
    | zero => omega
    | succ L =>
      obtain ⟨h1, f, h2, h3, h4⟩ := h
      rw [pos_dn (by omega) h3 (by omega)]
      have := ih L f k (by omega) h4 (by omega)
      exact ⟨this.1, by omega⟩
theorem pos_step {S : PSt} {r : Nat} : ∀ (m L p k : Nat), p < 2 ^ 31 → chN S r L p → k + 1 + m = L → S.1 (r + 1) (pos S r L p (k + 1)) = nI (pos S r L p k) := by
  intro m
  induction m with
  | zero =>
    intro L p k hp h hk
    have : L = k + 1 := by omega
    subst this
    obtain ⟨h1, f, h2, h3, h4⟩ := h
    rw [pos_top, h3, pos_dn (by omega) h3 (by omega), pos_top]
  | succ m ih =>
    intro L p k hp h hk
    cases L with
    | zero => omega
    | succ L =>
      obtain ⟨h1, f, h2, h3, h4⟩ := h
      rw [pos_dn (by omega) h3 (by omega), pos_dn (by omega) h3 (by omega)]
      exact ih L f k (by omega) h4 (by omega)
set_option maxRecDepth 100000 in
theorem lp_X0_traceA {n0 : Nat} {X : Nat × (Nat → Int32)} {P : Option Value → PSt → Prop} {d : Nat} (hd9 : 1 ≤ d) {sh : List PSh} {S : PSt} {r L n : Nat} (hs : isBe sh r) (hn : n ≤ 32) (hL : L ≤ 32) (hex : pV mX0_traceBack d n0 X sh P 50 [some (.ref r), some (.int (nI n)), some (.int 0), none] [] (pSI S r 4 (nI L))) : ∀ (m p k : Nat), k + m = L → p ≤ 32 → chN S r m p → pV mX0_traceBack d n0 X sh P 15 [some (.ref r), some (.int (nI n)), some (.int (nI p)), none] [] (pSI S r 4 (nI k)) := by
  intro m
  induction m with
  | zero =>
    intro p k hk hp hc
    have hk : k = L := by omega
    subst hk
    have hc : p = 0 := hc
    subst hc
    refine q_iload_n (pc := 15) (j := 2) rfl rfl ?_
    exact q_if_le (pc := 16) 50 rfl (by decide) (fun _ => hex) (fun h9 => absurd (Int32.le_refl _) h9)
  | succ m ih =>
    intro p k hk hp hc
    obtain ⟨hc1, f, hc2, hc3, hc4⟩ := hc
    have hk1 : k < 32 := by omega
    refine q_iload_n (pc := 15) (j := 2) rfl rfl ?_
    refine q_if_le (pc := 16) 50 rfl (by decide) (fun h9 => absurd h9 (nI_nle hc1 (by omega))) (fun _ => ?_)
    refine q_aload_n (pc := 19) (j := 0) rfl rfl ?_
    refine q_get (pc := 20) (a := r) (v := .int ((pSI S r 4 (nI k)).1 r 4)) rfl fl_X0_29 hs.1 rfl rfl ?_
    refine q_st (st2 := [.int (nI k)]) (by rw [show ((pSI S r 4 (nI k)).1 r 4) = nI k by simp [pSI, pU]]) ?_
    refine q_bipush (pc := 23) 32 rfl (by decide) ?_
    refine q_icmp_ge (pc := 25) 50 rfl (by decide) (fun h9 => absurd h9 (nI_ge (b := 32) hk1 (by decide))) (fun _ => ?_)
    refine q_aload_n (pc := 28) (j := 0) rfl rfl ?_
    refine q_dup (pc := 29) rfl rfl ?_
    refine q_get (pc := 30) (a := r) (v := .int ((pSI S r 4 (nI k)).1 r 4)) rfl fl_X0_29 hs.1 rfl rfl ?_
    refine q_st (st2 := [.int (nI k), .ref r]) (by rw [show ((pSI S r 4 (nI k)).1 r 4) = nI k by simp [pSI, pU]]) ?_
    refine q_iconst (pc := 33) 1 rfl (by decide) ?_
    refine q_iadd (pc := 34) rfl ?_
    refine q_st (st2 := [.int (nI (k + 1)), .ref r]) (by rw [nI_1 k]) ?_
    refine q_putI (pc := 35) (a := r) rfl fl_X0_29 hs.1 rfl (fun _ h9 => by cases h9; rfl) rfl rfl ?_
    refine q_S (show pSI (pSI S r 4 (nI k)) r 4 (nI (k + 1)) = pSI S r 4 (nI (k + 1)) from by unfold pSI pU; refine Prod.ext (funext fun c => funext fun j => ?_) rfl; dsimp only; split <;> simp_all) ?_
    refine q_aload_n (pc := 38) (j := 0) rfl rfl ?_
    refine q_get (pc := 39) (a := r) (v := .ref (r + 1)) rfl fl_X0_9 hs.1 rfl rfl ?_
    refine q_iload_n (pc := 42) (j := 2) rfl rfl ?_
    refine q_callS (pc := 43) (as := [.ref (r + 1), .int (nI p)]) (rest := []) (st2 := [.int ((pSI S r 4 (nI (k + 1))).1 (r + 1) p)]) rfl ce_X8_readInt ml_X0_59 st_X8_readInt rfl (by omega) (Nat.le_of_ble_eq_true rfl) (sp_readIntN (k := p) hs.2.1 (by omega) (by decide)) rfl ?_
    refine q_st (st2 := [.int (nI f)]) (by rw [show ((pSI S r 4 (nI (k + 1))).1 (r + 1) p) = nI f from (show _ = S.1 (r + 1) p by simp [pSI, pU]).trans hc3]) ?_
    refine q_istore_n (pc := 46) (j := 2) [some (.ref r), some (.int (nI n)), some (.int (nI f)), none] rfl (by decide) rfl ?_
    refine q_goto (pc := 47) 15 rfl (by decide) ?_
    exact ih f (k + 1) (by omega) (by omega) hc4
set_option maxRecDepth 100000 in
theorem lp_X0_traceB {n0 : Nat} {X : Nat × (Nat → Int32)} {P : Option Value → PSt → Prop} {d : Nat} (hd9 : 1 ≤ d) {sh : List PSh} {S : PSt} {r L n : Nat} (hs : isBe sh r) (hn : n ≤ 32) (hch : chN S r L n) (hex : ∀ y z : Int32, pV mX0_traceBack d n0 X sh P 85 [some (.ref r), some (.int (nI n)), some (.int y), some (.int z)] [] (tb2 S r L n 0)) : ∀ (k : Nat) (y : Int32), k ≤ L + 1 → (∀ k1, k = k1 + 1 → y = nI (pos S r L n k1)) → pV mX0_traceBack d n0 X sh P 57 [some (.ref r), some (.int (nI n)), some (.int y), some (.int (nI k + (-1)))] [] (tb2 S r L n k) := by
  intro k
  induction k with
  | zero =>
    intro y hk hy
    refine q_iload_n (pc := 57) (j := 3) rfl rfl ?_
    exact q_if_lt (pc := 58) 85 rfl (by decide) (fun _ => hex _ _) (fun h9 => absurd (by decide : (nI 0 + (-1)) < 0) h9)
  | succ k ih =>
    intro y hk hy
    have hLn : L ≤ n := chN_le _ _ hch
    have hy1 := hy k rfl
    have hpn := (pos_chain (L - k) L n k (by omega) hch (by omega)).2
    subst hy1
    refine q_L (L2 := [some (.ref r), some (.int (nI n)), some (.int (nI (pos S r L n k))), some (.int (nI k))]) (by rw [pk_m1]) ?_
    refine q_iload_n (pc := 57) (j := 3) rfl rfl ?_
    refine q_if_lt (pc := 58) 85 rfl (by decide) (fun h9 => absurd h9 (nI_pos (by omega))) (fun _ => ?_)
    refine q_aload_n (pc := 61) (j := 0) rfl rfl ?_
    refine q_get (pc := 62) (a := r) (v := .ref (r + 3)) rfl fl_X0_19 hs.1 rfl rfl ?_
    refine q_iload_n (pc := 65) (j := 3) rfl rfl ?_
    refine q_iload_n (pc := 66) (j := 2) rfl rfl ?_
    refine q_callS (pc := 67) (as := [.ref (r + 3), .int (nI k), .int (nI (pos S r L n k))]) (rest := []) (st2 := []) rfl ce_X8_writeInt ml_X0_41 st_X8_writeInt rfl (by omega) (Nat.le_of_ble_eq_true rfl) (sp_writeIntN (k := k) hs.2.2.2.1 (by omega) (by decide)) rfl ?_
    refine q_aload_n (pc := 70) (j := 0) rfl rfl ?_
    refine q_get (pc := 71) (a := r) (v := .ref (r + 1)) rfl fl_X0_9 hs.1 rfl rfl ?_
    refine q_iload_n (pc := 74) (j := 2) rfl rfl ?_
    refine q_callS (pc := 75) (as := [.ref (r + 1), .int (nI (pos S r L n k))]) (rest := []) (st2 := [.int ((pSI (tb2 S r L n (k + 1)) (r + 3) k (nI (pos S r L n k))).1 (r + 1) (pos S r L n k))]) rfl ce_X8_readInt ml_X0_59 st_X8_readInt rfl (by omega) (Nat.le_of_ble_eq_true rfl) (sp_readIntN (k := (pos S r L n k)) hs.2.1 (by omega) (by decide)) rfl ?_
    refine q_istore_n (pc := 78) (j := 2) [some (.ref r), some (.int (nI n)), some (.int ((pSI (tb2 S r L n (k + 1)) (r + 3) k (nI (pos S r L n k))).1 (r + 1) (pos S r L n k))), some (.int (nI k))] rfl (by decide) rfl ?_
    refine q_iinc (pc := 79) (j := 3) (n := (-1)) ((nI k) + (-1)) [some (.ref r), some (.int (nI n)), some (.int ((pSI (tb2 S r L n (k + 1)) (r + 3) k (nI (pos S r L n k))).1 (r + 1) (pos S r L n k))), some (.int ((nI k) + (-1)))] rfl (by decide) rfl rfl rfl ?_
    refine q_goto (pc := 82) 57 rfl (by decide) ?_
    exact q_S (tb2_s (by omega)) (ih _ (by omega) (fun k1 hk1 => by subst hk1; exact (show _ = S.1 (r + 1) (pos S r L n (k1 + 1)) by simp [pSI, pU, tb2]).trans (pos_step (L - (k1 + 1)) L n k1 (by omega) hch (by omega))))
set_option maxRecDepth 100000 in
theorem sp_X0_traceBack {sh : List PSh} {S : PSt} {r L n : Nat} (hs : isBe sh r) (hn : n ≤ 32) (hch : ¬ S.1 r 5 = 0 → chN S r L n) : pF mX0_traceBack 1 [.ref r, .int (nI n)] sh S (tbS S r L n) (none) := by
  refine pF.of (pG.of [some (.ref r), some (.int (nI n)), none, none] (by decide) tk_X0_traceBack (Nat.le_of_ble_eq_true rfl) rfl (fun X => ?_))
  refine q_aload_n (pc := 0) (j := 0) rfl rfl ?_
  refine q_iconst (pc := 1) 0 rfl (by decide) ?_
  refine q_putI (pc := 2) (a := r) rfl fl_X0_29 hs.1 rfl (fun _ h9 => by cases h9; rfl) rfl rfl ?_
  refine q_aload_n (pc := 5) (j := 0) rfl rfl ?_
  refine q_get (pc := 6) (a := r) (v := .int ((pSI S r 4 0).1 r 5)) rfl fl_X0_33 hs.1 rfl rfl ?_
  refine q_st (st2 := [.int (S.1 r 5)]) (by rw [show ((pSI S r 4 0).1 r 5) = S.1 r 5 by simp [pSI, pU]]) ?_
  refine q_if_ne (pc := 9) 13 rfl (by decide) (fun h9 => ?_) (fun h9 => ?_)
  · have hc := hch h9; have hLn : L ≤ n := chN_le _ _ hc
    refine q_iload_n (pc := 13) (j := 1) rfl rfl ?_
    refine q_istore_n (pc := 14) (j := 2) [some (.ref r), some (.int (nI n)), some (.int (nI n)), none] rfl (by decide) rfl ?_
    refine lp_X0_traceA (n := n) (by decide) hs hn (by omega) ?_ L n 0 (Nat.zero_add L) hn hc
    refine q_iload_n (pc := 50) (j := 1) rfl rfl ?_
    refine q_istore_n (pc := 51) (j := 2) [some (.ref r), some (.int (nI n)), some (.int (nI n)), none] rfl (by decide) rfl ?_
    refine q_S (tb2_0 (n := n)) ?_
    refine q_aload_n (pc := 52) (j := 0) rfl rfl ?_
    refine q_get (pc := 53) (a := r) (v := .int ((tb2 S r L n (L + 1)).1 r 4)) rfl fl_X0_29 hs.1 rfl rfl ?_
    refine q_istore_n (pc := 56) (j := 3) [some (.ref r), some (.int (nI n)), some (.int (nI n)), some (.int ((tb2 S r L n (L + 1)).1 r 4))] rfl (by decide) rfl ?_
    refine q_L (L2 := [some (.ref r), some (.int (nI n)), some (.int (nI n)), some (.int (nI (L + 1) + (-1)))]) (by rw [pk_m1, show (tb2 S r L n (L + 1)).1 r 4 = nI L by simp [tb2]]) (lp_X0_traceB (by decide) hs hn hc (fun y z => ?_) (L + 1) _ (Nat.le_refl _) (fun k1 hk1 => (by rw [show k1 = L by omega, pos_top])))
    exact q_vret (pc := 85) rfl rfl ⟨rfl, (if_neg h9).symm⟩
  · exact q_vret (pc := 12) rfl rfl ⟨rfl, (if_pos h9).symm⟩
set_option maxRecDepth 100000 in
theorem sp_X0_first {sh : List PSh} {S : PSt} {r x : Nat} (hs : isBe sh r) (hx : x < 33) : pF mX0_first 1 [.ref r, .int (nI x)] sh S S (some (.int (S.1 (r + 3) x))) := by
  refine pF.of (pG.of [some (.ref r), some (.int (nI x))] (by decide) tk_X0_first (Nat.le_of_ble_eq_true rfl) rfl (fun X => ?_))
  refine q_aload_n (pc := 0) (j := 0) rfl rfl ?_
  refine q_get (pc := 1) (a := r) (v := .ref (r + 3)) rfl fl_X0_19 hs.1 rfl rfl ?_
  refine q_iload_n (pc := 4) (j := 1) rfl rfl ?_
  refine q_callS (pc := 5) (as := [.ref (r + 3), .int (nI x)]) (rest := []) (st2 := [.int (S.1 (r + 3) x)]) rfl ce_X8_readInt ml_X0_59 st_X8_readInt rfl (by decide) (Nat.le_of_ble_eq_true rfl) (sp_readIntN (k := x) hs.2.2.2.1 (by omega) (by decide)) rfl ?_
  exact q_iret (pc := 8) rfl rfl ⟨rfl, rfl⟩
set_option maxRecDepth 100000 in
theorem sp_X0_last {sh : List PSh} {S : PSt} {r x : Nat} (hs : isBe sh r) (hx : x < 32) : pF mX0_last 1 [.ref r, .int (nI x)] sh S S (some (.int (S.1 (r + 3) (x + 1) - 1))) := by
  refine pF.of (pG.of [some (.ref r), some (.int (nI x))] (by decide) tk_X0_last (Nat.le_of_ble_eq_true rfl) rfl (fun X => ?_))
  refine q_aload_n (pc := 0) (j := 0) rfl rfl ?_
  refine q_get (pc := 1) (a := r) (v := .ref (r + 3)) rfl fl_X0_19 hs.1 rfl rfl ?_
  refine q_iload_n (pc := 4) (j := 1) rfl rfl ?_
  refine q_iconst (pc := 5) 1 rfl (by decide) ?_
  refine q_iadd (pc := 6) rfl ?_
  refine q_st (st2 := [.int (nI (x + 1)), .ref (r + 3)]) (by rw [nI_1 x]) ?_
  refine q_callS (pc := 7) (as := [.ref (r + 3), .int (nI (x + 1))]) (rest := []) (st2 := [.int (S.1 (r + 3) (x + 1))]) rfl ce_X8_readInt ml_X0_59 st_X8_readInt rfl (by decide) (Nat.le_of_ble_eq_true rfl) (sp_readIntN (k := (x + 1)) hs.2.2.2.1 (by omega) (by decide)) rfl ?_
  refine q_iconst (pc := 10) 1 rfl (by decide) ?_
  refine q_isub (pc := 11) rfl ?_
  exact q_iret (pc := 12) rfl rfl ⟨rfl, rfl⟩
/-- behind find -/
def fnS (S : PSt) (r q n : Nat) (w : Int32) (L : Nat) : PSt := tbS (fd2 S r q n w) r L n
set_option maxRecDepth 100000 in
theorem sp_X0_find {sh : List PSh} {S : PSt} {r q n : Nat} {w : Int32} {L : Nat} (hs : isBe sh r) (hq : isSg sh q) (hqr : q + 2 ≤ r ∨ r + 11 ≤ q) (hn : n ≤ 32) (hdur : ∀ i, i < n → ¬ S.1 (q + 1) (5 * i + 0) = 2 → isDur (S.1 (q + 1) (5 * i + 1))) (hok : ∀ p k, p < n → k < p + 1 → isEndB S q n (p + 1) = true → okR (rchS (pSI (fdS S r q n w p) (r + 1) (p + 1) (-1)) r q w (p + 1) k) r q w (p + 1) k) (hch : ¬ (fd2 S r q n w).1 r 5 = 0 → chN (fd2 S r q n w) r L n) : pF mX0_find 4 [.ref r, .ref q, .int (nI n), .int w] sh S (fnS S r q n w L) (none) := by
  refine pF.of (pG.of [some (.ref r), some (.ref q), some (.int (nI n)), some (.int w), none] (by decide) tk_X0_find (Nat.le_of_ble_eq_true rfl) rfl (fun X => ?_))
  refine q_aload_n (pc := 0) (j := 0) rfl rfl ?_
  refine q_iconst (pc := 1) 0 rfl (by decide) ?_
  refine q_putI (pc := 2) (a := r) rfl fl_X0_33 hs.1 rfl (fun _ h9 => by cases h9; rfl) rfl rfl ?_
  refine q_aload_n (pc := 5) (j := 1) rfl rfl ?_
  refine q_ifnonnull (pc := 6) 10 rfl (by decide) ?_
  refine q_aload_n (pc := 10) (j := 0) rfl rfl ?_
  refine q_get (pc := 11) (a := r) (v := .ref (r + 1)) rfl fl_X0_9 hs.1 rfl rfl ?_
  refine q_iconst (pc := 14) 0 rfl (by decide) ?_
  refine q_iconst (pc := 15) 0 rfl (by decide) ?_
  refine q_callS (pc := 16) (as := [.ref (r + 1), .int 0, .int 0]) (rest := []) (st2 := []) rfl ce_X8_writeInt ml_X0_41 st_X8_writeInt rfl (by decide) (Nat.le_of_ble_eq_true rfl) (sp_writeIntN (k := 0) hs.2.1 (by omega) (by decide)) rfl ?_
  refine q_aload_n (pc := 19) (j := 0) rfl rfl ?_
  refine q_get (pc := 20) (a := r) (v := .ref (r + 2)) rfl fl_X0_15 hs.1 rfl rfl ?_
  refine q_iconst (pc := 23) 0 rfl (by decide) ?_
  refine q_fconst0 (pc := 24) rfl ?_
  refine q_callS (pc := 25) (as := [.ref (r + 2), .int 0, .float FP.fconst0]) (rest := []) (st2 := []) rfl ce_X8_writeFloat ml_X0_45 st_X8_writeFloat rfl (by decide) (Nat.le_of_ble_eq_true rfl) (sp_writeFloatN (k := 0) hs.2.2.1 (by omega) (by decide)) rfl ?_
  refine q_iconst (pc := 28) 1 rfl (by decide) ?_
  refine q_istore (pc := 29) (j := 4) [some (.ref r), some (.ref q), some (.int (nI n)), some (.int w), some (.int 1)] rfl (by decide) rfl ?_
  refine lp_X0_find (by decide) hs hq hqr hn hdur hok ?_ n 0 (Nat.zero_add n)
  refine q_aload_n (pc := 80) (j := 0) rfl rfl ?_
  refine q_aload_n (pc := 81) (j := 0) rfl rfl ?_
  refine q_get (pc := 82) (a := r) (v := .ref (r + 1)) rfl fl_X0_9 hs.1 rfl rfl ?_
  refine q_iload_n (pc := 85) (j := 2) rfl rfl ?_
  refine q_callS (pc := 86) (as := [.ref (r + 1), .int (nI n)]) (rest := [.ref r]) (st2 := [.int ((fdS S r q n w n).1 (r + 1) n), .ref r]) rfl ce_X8_readInt ml_X0_59 st_X8_readInt rfl (by decide) (Nat.le_of_ble_eq_true rfl) (sp_readIntN (k := n) hs.2.1 (by omega) (by decide)) rfl ?_
  refine q_iconst (pc := 89) (-1) rfl (by decide) ?_
  refine q_join 98 [some (.ref r), some (.ref q), some (.int (nI n)), some (.int w), some (.int (nI (n + 1)))] [.int (pB (decide ((fdS S r q n w n).1 (r + 1) n ≠ -1))), .ref r] (fdS S r q n w n) ?_ (fun key90 => ?_)
  · refine q_putI (pc := 98) (a := r) rfl fl_X0_33 hs.1 rfl (fun _ h9 => by cases h9; rfl) (pB_nar _) (pB_fit _) ?_
    refine q_aload_n (pc := 101) (j := 0) rfl rfl ?_
    refine q_aload_n (pc := 102) (j := 0) rfl rfl ?_
    refine q_get (pc := 103) (a := r) (v := .ref (r + 2)) rfl fl_X0_15 hs.1 rfl rfl ?_
    refine q_iload_n (pc := 106) (j := 2) rfl rfl ?_
    refine q_callS (pc := 107) (as := [.ref (r + 2), .int (nI n)]) (rest := [.ref r]) (st2 := [.float ((pSI (fdS S r q n w n) r 5 (pB (decide ((fdS S r q n w n).1 (r + 1) n ≠ -1)))).2.1 (r + 2) n), .ref r]) rfl ce_X8_readFloat ml_X0_63 st_X8_readFloat rfl (by decide) (Nat.le_of_ble_eq_true rfl) (sp_readFloatN (k := n) hs.2.2.1 (by omega) (by decide)) rfl ?_
    refine q_putF (pc := 110) (a := r) rfl fl_X0_37 hs.1 rfl (fun _ h9 => by cases h9; rfl) rfl rfl ?_
    refine q_aload_n (pc := 113) (j := 0) rfl rfl ?_
    refine q_iload_n (pc := 114) (j := 2) rfl rfl ?_
    refine q_callV (pc := 115) (as := [.int (nI n)]) (rest := []) (b := r) (st2 := []) rfl ce_X0_traceBack ml_X0_67 im_X0_traceBack se_X0_traceBack hs.1 rfl rfl rfl (by decide) (Nat.le_of_ble_eq_true rfl) (sp_X0_traceBack (S := fd2 S r q n w) (L := L) hs hn hch) rfl ?_
    exact q_vret (pc := 118) rfl rfl ⟨rfl, rfl⟩
  · refine q_icmp_eq (pc := 90) 97 rfl (by decide) (fun h90 => ?_) (fun h90 => ?_)
    · refine q_iconst (pc := 97) 0 rfl (by decide) ?_
      exact q_st (by rw [show decide ((fdS S r q n w n).1 (r + 1) n ≠ -1) = false from decide_eq_false (fun q9 => q9 h90)]; rfl) key90
    · refine q_iconst (pc := 93) 1 rfl (by decide) ?_
      refine q_goto (pc := 94) 98 rfl (by decide) ?_
      exact q_st (by rw [show decide ((fdS S r q n w n).1 (r + 1) n ≠ -1) = true from decide_eq_true h90]; rfl) key90
end
section
/-! Tape: written by wip/whole/gen/c19.py -/
def isTp (sh : List PSh) (r : Nat) : Prop := sh[r]? = some (.inr (6, [r + 1 + 3, 0, r + 2 + 3, 0, 0])) ∧ sh[r + 1]? = some (.inl (0, 160)) ∧ isSg sh (r + 2)
/-- the tape read up to the place p -/
def tpS (S : PSt) (r p : Nat) : PSt := pSI S r 4 (nI p)
theorem tp_p {S : PSt} {r p : Nat} : (tpS S r p).1 r 4 = nI p := by simp [tpS, pSI, pU]
theorem tp_z {S : PSt} {r p j : Nat} (h : j ≠ 4) : (tpS S r p).1 r j = S.1 r j := by simp [tpS, pSI, pU, h]
theorem tp_b {S : PSt} {r p x : Nat} (h : x ≠ r) : (tpS S r p).1 x = S.1 x := by funext j; simp [tpS, pSI, pU, h]
theorem tp_s {S : PSt} {r p q : Nat} : pSI (tpS S r p) r 4 (nI q) = tpS S r q := by
  unfold tpS pSI pU
  refine Prod.ext (funext fun c => funext fun j => ?_) rfl
  dsimp only; split <;> simp_all
/-- the byte at p is c -/
def nxB (b : Nat → Int32) (z p : Nat) (c : Int32) : Bool := decide (p < z) && decide (b p = c)
def dgF (b : Nat → Int32) (z p : Nat) : Int32 := if 48 ≤ (if p < z then b p else 0) ∧ (if p < z then b p else 0) ≤ 57 then (if p < z then b p else 0) - 48 else -1
theorem dg_in {b : Nat → Int32} {z p : Nat} (h : ¬ dgF b z p = -1) : p < z := by
  by_cases hp : p < z
  · exact hp
  · exact absurd (by simp [dgF, hp]) h
/-- a number goes on: its value (-1: too large), the place behind it -/
def nmF (b : Nat → Int32) (z : Nat) (most : Int32) : Nat → Int32 → Nat → Int32 × Nat
  | 0, v, p => (v, p)
  | k + 1, v, p => if v ≤ 0 then (v, p) else if dgF b z p = -1 then (v, p) else if most < v * 10 + dgF b z p then (-1, p) else nmF b z most k (v * 10 + dgF b z p) (p + 1)
def numF (b : Nat → Int32) (z : Nat) (least most : Int32) (p : Nat) : Int32 × Nat :=
  if dgF b z p = -1 then (-1, p) else if dgF b z p < least then (-1, p) else nmF b z most 160 (dgF b z p) (p + 1)
def adF (b : Nat → Int32) (z : Nat) : Nat → Nat → Nat
  | 0, _ => 0
  | k + 1, p => if nxB b z p 39 = true then adF b z k (p + 1) + 1 else 0

theorem nx_a {b : Nat → Int32} {z p : Nat} {c : Int32} (hz : z < 2 ^ 31) (hp : p < 2 ^ 31) (h : nI z ≤ nI p) : 0 = pB (nxB b z p c) := by
  have := (nI_leI hz hp).mp h
  rw [nxB, decide_eq_false (by omega : ¬ p < z)]; rfl
theorem nx_b {b : Nat → Int32} {z p : Nat} {c : Int32} (h : ¬ b p = c) : 0 = pB (nxB b z p c) := by
  rw [nxB, decide_eq_false h, Bool.and_false]; rfl
theorem nx_c {b : Nat → Int32} {z p : Nat} {c : Int32} (h1 : p < z) (h : b p = c) : 1 = pB (nxB b z p c) := by
  rw [nxB, decide_eq_true h1, decide_eq_true h]; rfl
set_option maxRecDepth 100000 in
theorem sp_X7_isNext {sh : List PSh} {S : PSt} {r z p : Nat} (hs : isTp sh r) (hz : S.1 r 1 = nI z) (hz1 : z ≤ 160) (hp : p ≤ 160) {c : Int32} : pF mX7_isNext 1 [.ref r, .int c] sh (tpS S r p) (tpS S r p) (some (.int (pB (nxB (S.1 (r + 1)) z p c)))) := by
  refine pF.of (pG.of [some (.ref r), some (.int c)] (by decide) tk_X7_isNext (Nat.le_of_ble_eq_true rfl) rfl (fun X => ?_))
  refine q_aload_n (pc := 0) (j := 0) rfl rfl ?_
  refine q_get (pc := 1) (a := r) (v := .int ((tpS S r p).1 r 4)) rfl fl_X7_29 hs.1 rfl rfl ?_
  refine q_st (st2 := [.int (nI p)]) (by rw [show ((tpS S r p).1 r 4) = nI p from tp_p]) ?_
  refine q_aload_n (pc := 4) (j := 0) rfl rfl ?_
  refine q_get (pc := 5) (a := r) (v := .int ((tpS S r p).1 r 1)) rfl fl_X7_15 hs.1 rfl rfl ?_
  refine q_st (st2 := [.int (nI z), .int (nI p)]) (by rw [show ((tpS S r p).1 r 1) = nI z from (tp_z (by decide)).trans hz]) ?_
  refine q_icmp_ge (pc := 8) 30 rfl (by decide) (fun h8 => ?_) (fun h8 => ?_)
  · refine q_iconst (pc := 30) 0 rfl (by decide) ?_
    exact q_zret (pc := 31) rfl rfl rfl ⟨congrArg (fun v => some (Value.int v)) (by first | exact nx_c h8z h23 | exact nx_b h23 | exact nx_a (by omega) (by omega) h8), rfl⟩
  · have h8z : p < z := by have := mt (nI_leI (a := z) (b := p) (by omega) (by omega)).mpr h8; omega
    refine q_aload_n (pc := 11) (j := 0) rfl rfl ?_
    refine q_get (pc := 12) (a := r) (v := .ref (r + 1)) rfl fl_X7_9 hs.1 rfl rfl ?_
    refine q_aload_n (pc := 15) (j := 0) rfl rfl ?_
    refine q_get (pc := 16) (a := r) (v := .int ((tpS S r p).1 r 4)) rfl fl_X7_29 hs.1 rfl rfl ?_
    refine q_st (st2 := [.int (nI p), .ref (r + 1)]) (by rw [show ((tpS S r p).1 r 4) = nI p from tp_p]) ?_
    refine q_callS (pc := 19) (as := [.ref (r + 1), .int (nI p)]) (rest := []) (st2 := [.int ((tpS S r p).1 (r + 1) p)]) rfl ce_X8_readInt ml_X7_44 st_X8_readInt rfl (by decide) (Nat.le_of_ble_eq_true rfl) (sp_readIntN (k := p) hs.2.1 (by omega) (by decide)) rfl ?_
    refine q_st (st2 := [.int (S.1 (r + 1) p)]) (by rw [show ((tpS S r p).1 (r + 1) p) = S.1 (r + 1) p by rw [tp_b (by omega)]]) ?_
    refine q_iload_n (pc := 22) (j := 1) rfl rfl ?_
    refine q_icmp_ne (pc := 23) 30 rfl (by decide) (fun h23 => ?_) (fun h23 => ?_)
    · refine q_iconst (pc := 30) 0 rfl (by decide) ?_
      exact q_zret (pc := 31) rfl rfl rfl ⟨congrArg (fun v => some (Value.int v)) (by first | exact nx_c h8z h23 | exact nx_b h23 | exact nx_a (by omega) (by omega) h8), rfl⟩
    · refine q_iconst (pc := 26) 1 rfl (by decide) ?_
      refine q_goto (pc := 27) 31 rfl (by decide) ?_
      exact q_zret (pc := 31) rfl rfl rfl ⟨congrArg (fun v => some (Value.int v)) (by first | exact nx_c h8z h23 | exact nx_b h23 | exact nx_a (by omega) (by omega) h8), rfl⟩
theorem dg_a {b : Nat → Int32} {z p : Nat} (h : ¬ (if p < z then b p else 0) < 48) (h2 : ¬ 57 < (if p < z then b p else 0)) : (if p < z then b p else 0) - 48 = dgF b z p := by
  rw [dgF, if_pos (c := (48 ≤ (if p < z then b p else 0) ∧ (if p < z then b p else 0) ≤ 57)) ⟨Int32.not_lt.mp h, Int32.not_lt.mp h2⟩]
theorem dg_b {b : Nat → Int32} {z p : Nat} (h2 : 57 < (if p < z then b p else 0)) : -1 = dgF b z p := by
  rw [dgF, if_neg (c := (48 ≤ (if p < z then b p else 0) ∧ (if p < z then b p else 0) ≤ 57)) (fun q9 => absurd h2 (Int32.not_lt.mpr q9.2))]
theorem dg_c {b : Nat → Int32} {z p : Nat} (h2 : (if p < z then b p else 0) < 48) : -1 = dgF b z p := by
  rw [dgF, if_neg (c := (48 ≤ (if p < z then b p else 0) ∧ (if p < z then b p else 0) ≤ 57)) (fun q9 => absurd h2 (Int32.not_lt.mpr q9.1))]
set_option maxRecDepth 100000 in
theorem sp_X7_digit {sh : List PSh} {S : PSt} {r z p : Nat} (hs : isTp sh r) (hz : S.1 r 1 = nI z) (hz1 : z ≤ 160) (hp : p ≤ 160)  : pF mX7_digit 1 [.ref r] sh (tpS S r p) (tpS S r p) (some (.int (dgF (S.1 (r + 1)) z p))) := by
  refine pF.of (pG.of [some (.ref r), none] (by decide) tk_X7_digit (Nat.le_of_ble_eq_true rfl) rfl (fun X => ?_))
  refine q_aload_n (pc := 0) (j := 0) rfl rfl ?_
  refine q_get (pc := 1) (a := r) (v := .int ((tpS S r p).1 r 4)) rfl fl_X7_29 hs.1 rfl rfl ?_
  refine q_st (st2 := [.int (nI p)]) (by rw [show ((tpS S r p).1 r 4) = nI p from tp_p]) ?_
  refine q_aload_n (pc := 4) (j := 0) rfl rfl ?_
  refine q_get (pc := 5) (a := r) (v := .int ((tpS S r p).1 r 1)) rfl fl_X7_15 hs.1 rfl rfl ?_
  refine q_st (st2 := [.int (nI z), .int (nI p)]) (by rw [show ((tpS S r p).1 r 1) = nI z from (tp_z (by decide)).trans hz]) ?_
  refine q_join 26 [some (.ref r), none] [.int (if p < z then S.1 (r + 1) p else 0)] (tpS S r p) ?_ (fun key8 => ?_)
  · refine q_istore_n (pc := 26) (j := 1) [some (.ref r), some (.int (if p < z then S.1 (r + 1) p else 0))] rfl (by decide) rfl ?_
    refine q_iload_n (pc := 27) (j := 1) rfl rfl ?_
    refine q_bipush (pc := 28) 48 rfl (by decide) ?_
    refine q_icmp_lt (pc := 30) 46 rfl (by decide) (fun h30 => ?_) (fun h30 => ?_)
    · refine q_iconst (pc := 46) (-1) rfl (by decide) ?_
      exact q_iret (pc := 47) rfl rfl ⟨congrArg (fun v => some (Value.int v)) (by first | exact dg_a h30 h36 | exact dg_b h36 | exact dg_c h30), rfl⟩
    · refine q_iload_n (pc := 33) (j := 1) rfl rfl ?_
      refine q_bipush (pc := 34) 57 rfl (by decide) ?_
      refine q_icmp_gt (pc := 36) 46 rfl (by decide) (fun h36 => ?_) (fun h36 => ?_)
      · refine q_iconst (pc := 46) (-1) rfl (by decide) ?_
        exact q_iret (pc := 47) rfl rfl ⟨congrArg (fun v => some (Value.int v)) (by first | exact dg_a h30 h36 | exact dg_b h36 | exact dg_c h30), rfl⟩
      · refine q_iload_n (pc := 39) (j := 1) rfl rfl ?_
        refine q_bipush (pc := 40) 48 rfl (by decide) ?_
        refine q_isub (pc := 42) rfl ?_
        refine q_goto (pc := 43) 47 rfl (by decide) ?_
        exact q_iret (pc := 47) rfl rfl ⟨congrArg (fun v => some (Value.int v)) (by first | exact dg_a h30 h36 | exact dg_b h36 | exact dg_c h30), rfl⟩
  · refine q_icmp_ge (pc := 8) 25 rfl (by decide) (fun h8 => ?_) (fun h8 => ?_)
    · refine q_iconst (pc := 25) 0 rfl (by decide) ?_
      exact q_st (by rw [if_neg (by have := (nI_leI (a := z) (b := p) (by omega) (by omega)).mp h8; omega)]) key8
    · have h8z : p < z := by have := mt (nI_leI (a := z) (b := p) (by omega) (by omega)).mpr h8; omega
      refine q_aload_n (pc := 11) (j := 0) rfl rfl ?_
      refine q_get (pc := 12) (a := r) (v := .ref (r + 1)) rfl fl_X7_9 hs.1 rfl rfl ?_
      refine q_aload_n (pc := 15) (j := 0) rfl rfl ?_
      refine q_get (pc := 16) (a := r) (v := .int ((tpS S r p).1 r 4)) rfl fl_X7_29 hs.1 rfl rfl ?_
      refine q_st (st2 := [.int (nI p), .ref (r + 1)]) (by rw [show ((tpS S r p).1 r 4) = nI p from tp_p]) ?_
      refine q_callS (pc := 19) (as := [.ref (r + 1), .int (nI p)]) (rest := []) (st2 := [.int ((tpS S r p).1 (r + 1) p)]) rfl ce_X8_readInt ml_X7_44 st_X8_readInt rfl (by decide) (Nat.le_of_ble_eq_true rfl) (sp_readIntN (k := p) hs.2.1 (by omega) (by decide)) rfl ?_
      refine q_goto (pc := 22) 26 rfl (by decide) ?_
      exact q_st (by rw [if_pos h8z, tp_b (by omega)]) key8
set_option maxRecDepth 100000 in
theorem lp_X7_readNumber {n0 : Nat} {X : Nat × (Nat → Int32)} {P : Option Value → PSt → Prop} {d : Nat} (hd9 : 2 ≤ d) {sh : List PSh} {S : PSt} {r z p1 : Nat} {least most v1 : Int32} (hs : isTp sh r) (hz : S.1 r 1 = nI z) (hz1 : z ≤ 160) (hgo : ∀ i, pV mX7_readNumber d n0 X sh P 83 [some (.ref r), some (.int least), some (.int most), some (.int v1), some (.int i)] [] (tpS S r p1)) (hbad : v1 = -1 → P (some (.int (-1))) (tpS S r p1)) : ∀ (m k p : Nat) (v : Int32), k + m = 160 → p ≤ 160 → nmF (S.1 (r + 1)) z most m v p = (v1, p1) → pV mX7_readNumber d n0 X sh P 30 [some (.ref r), some (.int least), some (.int most), some (.int v), some (.int (nI k))] [] (tpS S r p) := by
  intro m
  induction m with
  | zero =>
    intro k p v hk hp hw
    have hk : k = 160 := by omega
    subst hk
    cases hw
    refine q_iload (pc := 30) (j := 4) rfl rfl ?_
    refine q_sipush (pc := 32) 160 rfl (by decide) ?_
    exact q_icmp_ge (pc := 35) 83 rfl (by decide) (fun _ => hgo _) (fun h9 => absurd (Int32.le_refl _) h9)
  | succ m ih =>
    intro k p v hk hp hw
    unfold nmF at hw
    have hk1 : k < 160 := by omega
    refine q_iload (pc := 30) (j := 4) rfl rfl ?_
    refine q_sipush (pc := 32) 160 rfl (by decide) ?_
    refine q_icmp_ge (pc := 35) 83 rfl (by decide) (fun h9 => absurd h9 (nI_ge (b := 160) hk1 (by decide))) (fun _ => ?_)
    refine q_iload_n (pc := 38) (j := 3) rfl rfl ?_
    refine q_if_le (pc := 39) 83 rfl (by decide) (fun h39 => ?_) (fun h39 => ?_)
    · first | (rw [if_pos h39] at hw; cases hw; exact hgo _) | (rw [if_pos h47] at hw; cases hw; exact hgo _)
    · rw [if_neg h39] at hw
      refine q_aload_n (pc := 42) (j := 0) rfl rfl ?_
      refine q_callV (pc := 43) (as := []) (rest := []) (b := r) (st2 := [.int (dgF (S.1 (r + 1)) z p)]) rfl ce_X7_digit ml_X7_60 im_X7_digit se_X7_digit hs.1 rfl rfl rfl (by omega) (Nat.le_of_ble_eq_true rfl) (sp_X7_digit (S := S) (z := z) (p := p) hs hz hz1 (by omega)) rfl ?_
      refine q_iconst (pc := 46) (-1) rfl (by decide) ?_
      refine q_icmp_eq (pc := 47) 83 rfl (by decide) (fun h47 => ?_) (fun h47 => ?_)
      · first | (rw [if_pos h39] at hw; cases hw; exact hgo _) | (rw [if_pos h47] at hw; cases hw; exact hgo _)
      · rw [if_neg h47] at hw; have hpz := dg_in h47
        refine q_iload_n (pc := 50) (j := 3) rfl rfl ?_
        refine q_bipush (pc := 51) 10 rfl (by decide) ?_
        refine q_imul (pc := 53) rfl ?_
        refine q_aload_n (pc := 54) (j := 0) rfl rfl ?_
        refine q_callV (pc := 55) (as := []) (rest := [.int (v * 10)]) (b := r) (st2 := [.int (dgF (S.1 (r + 1)) z p), .int (v * 10)]) rfl ce_X7_digit ml_X7_60 im_X7_digit se_X7_digit hs.1 rfl rfl rfl (by omega) (Nat.le_of_ble_eq_true rfl) (sp_X7_digit (S := S) (z := z) (p := p) hs hz hz1 (by omega)) rfl ?_
        refine q_iadd (pc := 58) rfl ?_
        refine q_istore_n (pc := 59) (j := 3) [some (.ref r), some (.int least), some (.int most), some (.int ((v * 10) + (dgF (S.1 (r + 1)) z p))), some (.int (nI k))] rfl (by decide) rfl ?_
        refine q_iload_n (pc := 60) (j := 3) rfl rfl ?_
        refine q_iload_n (pc := 61) (j := 2) rfl rfl ?_
        refine q_icmp_le (pc := 62) 67 rfl (by decide) (fun h62 => ?_) (fun h62 => ?_)
        · rw [if_neg (Int32.not_lt.mpr h62)] at hw
          refine q_aload_n (pc := 67) (j := 0) rfl rfl ?_
          refine q_dup (pc := 68) rfl rfl ?_
          refine q_get (pc := 69) (a := r) (v := .int ((tpS S r p).1 r 4)) rfl fl_X7_29 hs.1 rfl rfl ?_
          refine q_st (st2 := [.int (nI p), .ref r]) (by rw [show ((tpS S r p).1 r 4) = nI p from tp_p]) ?_
          refine q_iconst (pc := 72) 1 rfl (by decide) ?_
          refine q_iadd (pc := 73) rfl ?_
          refine q_st (st2 := [.int (nI (p + 1)), .ref r]) (by rw [nI_1 p]) ?_
          refine q_putI (pc := 74) (a := r) rfl fl_X7_29 hs.1 rfl (fun _ h9 => by cases h9; rfl) rfl rfl ?_
          refine q_S tp_s ?_
          refine q_iinc (pc := 77) (j := 4) (n := 1) (nI (k + 1)) [some (.ref r), some (.int least), some (.int most), some (.int ((v * 10) + (dgF (S.1 (r + 1)) z p))), some (.int (nI (k + 1)))] rfl (by decide) rfl (nI_1 k) rfl ?_
          refine q_goto (pc := 80) 30 rfl (by decide) ?_
          exact ih (k + 1) (p + 1) _ (by omega) (by omega) hw
        · rw [if_pos (Int32.not_le.mp h62)] at hw; cases hw
          refine q_iconst (pc := 65) (-1) rfl (by decide) ?_
          exact q_iret (pc := 66) rfl rfl (hbad rfl)
set_option maxRecDepth 100000 in
theorem sp_X7_readNumber {sh : List PSh} {S : PSt} {r z p : Nat} (hs : isTp sh r) (hz : S.1 r 1 = nI z) (hz1 : z ≤ 160) (hp : p ≤ 160) {least most : Int32} : pF mX7_readNumber 2 [.ref r, .int least, .int most] sh (tpS S r p) (tpS S r (numF (S.1 (r + 1)) z least most p).2) (some (.int (numF (S.1 (r + 1)) z least most p).1)) := by
  refine pF.of (pG.of [some (.ref r), some (.int least), some (.int most), none, none] (by decide) tk_X7_readNumber (Nat.le_of_ble_eq_true rfl) rfl (fun X => ?_))
  refine q_aload_n (pc := 0) (j := 0) rfl rfl ?_
  refine q_callV (pc := 1) (as := []) (rest := []) (b := r) (st2 := [.int (dgF (S.1 (r + 1)) z p)]) rfl ce_X7_digit ml_X7_60 im_X7_digit se_X7_digit hs.1 rfl rfl rfl (by decide) (Nat.le_of_ble_eq_true rfl) (sp_X7_digit (S := S) (z := z) (p := p) hs hz hz1 (by omega)) rfl ?_
  refine q_istore_n (pc := 4) (j := 3) [some (.ref r), some (.int least), some (.int most), some (.int (dgF (S.1 (r + 1)) z p)), none] rfl (by decide) rfl ?_
  refine q_iload_n (pc := 5) (j := 3) rfl rfl ?_
  refine q_iconst (pc := 6) (-1) rfl (by decide) ?_
  refine q_icmp_eq (pc := 7) 15 rfl (by decide) (fun h7 => ?_) (fun h7 => ?_)
  · refine q_iconst (pc := 15) (-1) rfl (by decide) ?_
    exact q_iret (pc := 16) rfl rfl ⟨by rw [numF, if_pos h7], by rw [numF, if_pos h7]⟩
  · refine q_iload_n (pc := 10) (j := 3) rfl rfl ?_
    refine q_iload_n (pc := 11) (j := 1) rfl rfl ?_
    refine q_icmp_ge (pc := 12) 17 rfl (by decide) (fun h12 => ?_) (fun h12 => ?_)
    · have hnum : (numF (S.1 (r + 1)) z least most p) = (nmF (S.1 (r + 1)) z most 160 (dgF (S.1 (r + 1)) z p) (p + 1)) := by rw [numF, if_neg h7, if_neg (Int32.not_lt.mpr h12)]
      refine q_aload_n (pc := 17) (j := 0) rfl rfl ?_
      refine q_dup (pc := 18) rfl rfl ?_
      refine q_get (pc := 19) (a := r) (v := .int ((tpS S r p).1 r 4)) rfl fl_X7_29 hs.1 rfl rfl ?_
      refine q_st (st2 := [.int (nI p), .ref r]) (by rw [show ((tpS S r p).1 r 4) = nI p from tp_p]) ?_
      refine q_iconst (pc := 22) 1 rfl (by decide) ?_
      refine q_iadd (pc := 23) rfl ?_
      refine q_st (st2 := [.int (nI (p + 1)), .ref r]) (by rw [nI_1 p]) ?_
      refine q_putI (pc := 24) (a := r) rfl fl_X7_29 hs.1 rfl (fun _ h9 => by cases h9; rfl) rfl rfl ?_
      refine q_S tp_s ?_
      refine q_iconst (pc := 27) 0 rfl (by decide) ?_
      refine q_istore (pc := 28) (j := 4) [some (.ref r), some (.int least), some (.int most), some (.int (dgF (S.1 (r + 1)) z p)), some (.int 0)] rfl (by decide) rfl ?_
      have hpz := dg_in h7; refine lp_X7_readNumber (v1 := (nmF (S.1 (r + 1)) z most 160 (dgF (S.1 (r + 1)) z p) (p + 1)).1) (p1 := (nmF (S.1 (r + 1)) z most 160 (dgF (S.1 (r + 1)) z p) (p + 1)).2) (by decide) hs hz hz1 (fun i => ?_) (fun h8 => ⟨by rw [hnum, h8], by rw [hnum]⟩) 160 0 (p + 1) _ rfl (by omega) rfl
      refine q_iload_n (pc := 83) (j := 3) rfl rfl ?_
      exact q_iret (pc := 84) rfl rfl ⟨by rw [hnum], by rw [hnum]⟩
    · refine q_iconst (pc := 15) (-1) rfl (by decide) ?_
      exact q_iret (pc := 16) rfl rfl ⟨by rw [numF, if_neg h7, if_pos (Int32.not_le.mp h12)], by rw [numF, if_neg h7, if_pos (Int32.not_le.mp h12)]⟩
theorem nmF_le {b : Nat → Int32} {z : Nat} {most : Int32} : ∀ (k : Nat) (v : Int32) (p : Nat), p ≤ z → (nmF b z most k v p).2 ≤ z := by
  intro k
  induction k with
  | zero => intro v p h; exact h
  | succ k ih =>
    intro v p h
    unfold nmF
    split
    · exact h
    · split
      · exact h
      · rename_i hd
        have := dg_in hd
        split
        · exact h
        · exact ih _ _ (by omega)
theorem numF_le {b : Nat → Int32} {z p : Nat} {least most : Int32} (h : p ≤ z) : (numF b z least most p).2 ≤ z := by
  unfold numF
  split
  · exact h
  · rename_i hd
    have := dg_in hd
    split
    · exact h
    · exact nmF_le _ _ _ (by omega)
theorem nx_in {b : Nat → Int32} {z p : Nat} {c : Int32} (h : nxB b z p c = true) : p < z := by
  unfold nxB at h
  rw [Bool.and_eq_true] at h
  exact of_decide_eq_true h.1
theorem adF_le {b : Nat → Int32} {z : Nat} : ∀ (k p : Nat), p ≤ z → p + adF b z k p ≤ z := by
  intro k
  induction k with
  | zero => intro p h; exact h
  | succ k ih =>
    intro p h
    unfold adF
    split
    · rename_i hx
      have := nx_in hx
      have := ih (p + 1) (by omega)
      omega
    · exact h
theorem adF_9 {b : Nat → Int32} {z : Nat} : ∀ (k p : Nat), adF b z k p ≤ k := by
  intro k
  induction k with
  | zero => intro p; exact Nat.le_refl _
  | succ k ih => intro p; unfold adF; split; exact Nat.succ_le_succ (ih _); exact Nat.zero_le _
theorem ly5_o {S : PSt} {a c x : Nat} {x0 x1 x2 x3 x4 : Int32} (h : x ≠ a) : (ly5 S a c x0 x1 x2 x3 x4).1 x = S.1 x := by funext j; simp [ly5, pSI, pU, h]
/-- a sign is kept: the m-th -/
def kpS (S : PSt) (r m : Nat) (k d s a : Int32) : PSt := pSI (if m < 32 then ly5 S (r + 2 + 1) m k d s 2 a else S) r 3 (nI (m + 1))
theorem kp_c1 {S : PSt} {r m p : Nat} {k d s a : Int32} (h : m < 32) : pSI (ly5 (tpS S r p) (r + 2 + 1) m k d s 2 a) r 3 (nI (m + 1)) = tpS (kpS S r m k d s a) r p := by
  unfold kpS
  rw [if_pos h]
  unfold tpS ly5 pSI pU
  refine Prod.ext (funext fun c => funext fun j => ?_) rfl
  dsimp only
  by_cases h1 : c = r
  · subst h1; (repeat' split) <;> first | rfl | (exfalso; omega)
  · have n1 : ∀ j9, ¬ (c = r ∧ j = j9) := fun j9 q => h1 q.1
    simp only [n1, if_false]
theorem kp_c2 {S : PSt} {r m p : Nat} {k d s a : Int32} (h : ¬ m < 32) : pSI (tpS S r p) r 3 (nI (m + 1)) = tpS (kpS S r m k d s a) r p := by
  unfold kpS
  rw [if_neg h]
  unfold tpS pSI pU
  refine Prod.ext (funext fun c => funext fun j => ?_) rfl
  dsimp only; (repeat' split) <;> first | rfl | (exfalso; omega)
set_option maxRecDepth 100000 in
theorem lp_X7_readAdorn {n0 : Nat} {X : Nat × (Nat → Int32)} {P : Option Value → PSt → Prop} {d : Nat} (hd9 : 2 ≤ d) {sh : List PSh} {S : PSt} {r z p : Nat} (hs : isTp sh r) (hz : S.1 r 1 = nI z) (hz1 : z ≤ 160) (hp : p ≤ z) (hex : pV mX7_readAdorn d n0 X sh P 33 [some (.ref r), some (.int (nI (adF (S.1 (r + 1)) z 9 p)))] [] (tpS S r (p + adF (S.1 (r + 1)) z 9 p))) : ∀ (m k : Nat), k + m = 9 → adF (S.1 (r + 1)) z 9 p = k + adF (S.1 (r + 1)) z m (p + k) → p + k ≤ z → pV mX7_readAdorn d n0 X sh P 2 [some (.ref r), some (.int (nI k))] [] (tpS S r (p + k)) := by
  intro m
  induction m with
  | zero =>
    intro k hk ha hpk
    have hk : k = 9 := by omega
    subst hk
    have ha : adF (S.1 (r + 1)) z 9 p = 9 := ha
    rw [ha] at hex
    refine q_iload_n (pc := 2) (j := 1) rfl rfl ?_
    refine q_bipush (pc := 3) 9 rfl (by decide) ?_
    exact q_icmp_ge (pc := 5) 33 rfl (by decide) (fun _ => hex) (fun h9 => absurd (Int32.le_refl _) h9)
  | succ m ih =>
    intro k hk ha hpk
    have hk1 : k < 9 := by omega
    refine q_iload_n (pc := 2) (j := 1) rfl rfl ?_
    refine q_bipush (pc := 3) 9 rfl (by decide) ?_
    refine q_icmp_ge (pc := 5) 33 rfl (by decide) (fun h9 => absurd h9 (nI_ge (b := 9) hk1 (by decide))) (fun _ => ?_)
    refine q_aload_n (pc := 8) (j := 0) rfl rfl ?_
    refine q_bipush (pc := 9) 39 rfl (by decide) ?_
    refine q_callV (pc := 11) (as := [.int 39]) (rest := []) (b := r) (st2 := [.int (pB (nxB (S.1 (r + 1)) z (p + k) 39))]) rfl ce_X7_isNext ml_X7_40 im_X7_isNext se_X7_isNext hs.1 rfl rfl rfl (by omega) (Nat.le_of_ble_eq_true rfl) (sp_X7_isNext (S := S) (z := z) (p := p + k) hs hz hz1 (by omega)) rfl ?_
    cases hb14 : (nxB (S.1 (r + 1)) z (p + k) 39) with
    | false =>
      refine q_if_eq (pc := 14) 33 rfl (by decide) (fun _ => ?_) (fun h9 => absurd (by decide : pB false = 0) h9)
      exact (by rw [ha, adF, if_neg (by rw [hb14]; decide)] at hex; exact hex)
    | true =>
      refine q_if_eq (pc := 14) 33 rfl (by decide) (fun h9 => absurd h9 (by decide : ¬ pB true = 0)) (fun _ => ?_)
      have hin := nx_in hb14
      refine q_iinc (pc := 17) (j := 1) (n := 1) (nI (k + 1)) [some (.ref r), some (.int (nI (k + 1)))] rfl (by decide) rfl (nI_1 k) rfl ?_
      refine q_aload_n (pc := 20) (j := 0) rfl rfl ?_
      refine q_dup (pc := 21) rfl rfl ?_
      refine q_get (pc := 22) (a := r) (v := .int ((tpS S r (p + k)).1 r 4)) rfl fl_X7_29 hs.1 rfl rfl ?_
      refine q_st (st2 := [.int (nI (p + k)), .ref r]) (by rw [show ((tpS S r (p + k)).1 r 4) = nI (p + k) from tp_p]) ?_
      refine q_iconst (pc := 25) 1 rfl (by decide) ?_
      refine q_iadd (pc := 26) rfl ?_
      refine q_st (st2 := [.int (nI (p + (k + 1))), .ref r]) (by rw [(show nI (p + k) + 1 = nI (p + (k + 1)) from nI_1 (p + k))]) ?_
      refine q_putI (pc := 27) (a := r) rfl fl_X7_29 hs.1 rfl (fun _ h9 => by cases h9; rfl) rfl rfl ?_
      refine q_S tp_s ?_
      refine q_goto (pc := 30) 2 rfl (by decide) ?_
      exact ih (k + 1) (by omega) (by rw [ha, adF, if_pos hb14, show p + k + 1 = p + (k + 1) from rfl]; omega) (by omega)
set_option maxRecDepth 100000 in
theorem sp_X7_readAdorn {sh : List PSh} {S : PSt} {r z p : Nat} (hs : isTp sh r) (hz : S.1 r 1 = nI z) (hz1 : z ≤ 160) (hp : p ≤ z)  : pF mX7_readAdorn 2 [.ref r] sh (tpS S r p) (tpS S r (p + adF (S.1 (r + 1)) z 9 p)) (some (.int (nI (adF (S.1 (r + 1)) z 9 p)))) := by
  refine pF.of (pG.of [some (.ref r), none] (by decide) tk_X7_readAdorn (Nat.le_of_ble_eq_true rfl) rfl (fun X => ?_))
  refine q_iconst (pc := 0) 0 rfl (by decide) ?_
  refine q_istore_n (pc := 1) (j := 1) [some (.ref r), some (.int 0)] rfl (by decide) rfl ?_
  refine lp_X7_readAdorn (by decide) hs hz hz1 hp ?_ 9 0 rfl (Nat.zero_add _).symm hp
  refine q_iload_n (pc := 33) (j := 1) rfl rfl ?_
  exact q_iret (pc := 34) rfl rfl ⟨rfl, rfl⟩
set_option maxRecDepth 100000 in
theorem sp_X7_keep {sh : List PSh} {S : PSt} {r m p : Nat} {k d s a : Int32} (hs : isTp sh r) (hm : S.1 r 3 = nI m) (hm2 : m < 1000) : pF mX7_keep 2 [.ref r, .int k, .int d, .int s, .int a] sh (tpS S r p) (tpS (kpS S r m k d s a) r p) (none) := by
  have hm1 : (tpS S r p).1 r 3 = nI m := (tp_z (by decide)).trans hm
  refine pF.of (pG.of [some (.ref r), some (.int k), some (.int d), some (.int s), some (.int a)] (by decide) tk_X7_keep (Nat.le_of_ble_eq_true rfl) rfl (fun X => ?_))
  refine q_aload_n (pc := 0) (j := 0) rfl rfl ?_
  refine q_get (pc := 1) (a := r) (v := .int ((tpS S r p).1 r 3)) rfl fl_X7_26 hs.1 rfl rfl ?_
  refine q_st (st2 := [.int (nI m)]) (by rw [show ((tpS S r p).1 r 3) = nI m from hm1]) ?_
  refine q_bipush (pc := 4) 32 rfl (by decide) ?_
  refine q_icmp_ge (pc := 6) 26 rfl (by decide) (fun h6 => ?_) (fun h6 => ?_)
  · have hml : ¬ m < 32 := by have := (nI_leI (a := 32) (b := m) (by omega) (by omega)).mp h6; omega
    refine q_aload_n (pc := 26) (j := 0) rfl rfl ?_
    refine q_dup (pc := 27) rfl rfl ?_
    refine q_get (pc := 28) (a := r) (v := .int ((tpS S r p).1 r 3)) rfl fl_X7_26 hs.1 rfl rfl ?_
    refine q_st (st2 := [.int (nI m), .ref r]) (by rw [show ((tpS S r p).1 r 3) = nI m from hm1]) ?_
    refine q_iconst (pc := 31) 1 rfl (by decide) ?_
    refine q_iadd (pc := 32) rfl ?_
    refine q_st (st2 := [.int (nI (m + 1)), .ref r]) (by rw [nI_1 m]) ?_
    refine q_putI (pc := 33) (a := r) rfl fl_X7_26 hs.1 rfl (fun _ h9 => by cases h9; rfl) rfl rfl ?_
    exact q_vret (pc := 36) rfl rfl ⟨rfl, by first | exact kp_c1 hml | exact kp_c2 hml⟩
  · have hml : m < 32 := by have := mt (nI_leI (a := 32) (b := m) (by omega) (by omega)).mpr h6; omega
    refine q_aload_n (pc := 9) (j := 0) rfl rfl ?_
    refine q_get (pc := 10) (a := r) (v := .ref (r + 2)) rfl fl_X7_22 hs.1 rfl rfl ?_
    refine q_aload_n (pc := 13) (j := 0) rfl rfl ?_
    refine q_get (pc := 14) (a := r) (v := .int ((tpS S r p).1 r 3)) rfl fl_X7_26 hs.1 rfl rfl ?_
    refine q_st (st2 := [.int (nI m), .ref (r + 2)]) (by rw [show ((tpS S r p).1 r 3) = nI m from hm1]) ?_
    refine q_iload_n (pc := 17) (j := 1) rfl rfl ?_
    refine q_iload_n (pc := 18) (j := 2) rfl rfl ?_
    refine q_iload_n (pc := 19) (j := 3) rfl rfl ?_
    refine q_iconst (pc := 20) 2 rfl (by decide) ?_
    refine q_iload (pc := 21) (j := 4) rfl rfl ?_
    refine q_callV (pc := 23) (as := [.int (nI m), .int k, .int d, .int s, .int 2, .int a]) (rest := []) (b := (r + 2)) (st2 := []) rfl ce_X4_lay ml_X7_63 im_X4_lay se_X4_lay hs.2.2.1 rfl rfl rfl (by decide) (Nat.le_of_ble_eq_true rfl) (sp_X4_lay (c := m) hs.2.2 (by omega)) rfl ?_
    refine q_aload_n (pc := 26) (j := 0) rfl rfl ?_
    refine q_dup (pc := 27) rfl rfl ?_
    refine q_get (pc := 28) (a := r) (v := .int ((ly5 (tpS S r p) ((r + 2) + 1) m k d s 2 a).1 r 3)) rfl fl_X7_26 hs.1 rfl rfl ?_
    refine q_st (st2 := [.int (nI m), .ref r]) (by rw [show ((ly5 (tpS S r p) ((r + 2) + 1) m k d s 2 a).1 r 3) = nI m from (by rw [ly5_o (by omega)]; exact hm1)]) ?_
    refine q_iconst (pc := 31) 1 rfl (by decide) ?_
    refine q_iadd (pc := 32) rfl ?_
    refine q_st (st2 := [.int (nI (m + 1)), .ref r]) (by rw [nI_1 m]) ?_
    refine q_putI (pc := 33) (a := r) rfl fl_X7_26 hs.1 rfl (fun _ h9 => by cases h9; rfl) rfl rfl ?_
    exact q_vret (pc := 36) rfl rfl ⟨rfl, by first | exact kp_c1 hml | exact kp_c2 hml⟩
/-- a sign of a text, from the place p on: kind, duration, step, the place behind; or the place of the fault -/
def sgF (b : Nat → Int32) (z p : Nat) : (Int32 × Int32 × Int32 × Nat) ⊕ Nat :=
  if nxB b z p 110 = true then
    (if (numF b z 1 64 (p + 1)).1 = -1 then .inr (numF b z 1 64 (p + 1)).2
     else if nxB b z (numF b z 1 64 (p + 1)).2 43 = true then
       (if (numF b z 0 20 ((numF b z 1 64 (p + 1)).2 + 1)).1 = -1 then .inr (numF b z 0 20 ((numF b z 1 64 (p + 1)).2 + 1)).2 else .inl (0, (numF b z 1 64 (p + 1)).1, (numF b z 0 20 ((numF b z 1 64 (p + 1)).2 + 1)).1, (numF b z 0 20 ((numF b z 1 64 (p + 1)).2 + 1)).2))
     else if nxB b z (numF b z 1 64 (p + 1)).2 45 = true then
       (if (numF b z 1 12 ((numF b z 1 64 (p + 1)).2 + 1)).1 = -1 then .inr (numF b z 1 12 ((numF b z 1 64 (p + 1)).2 + 1)).2 else .inl (0, (numF b z 1 64 (p + 1)).1, 0 - (numF b z 1 12 ((numF b z 1 64 (p + 1)).2 + 1)).1, (numF b z 1 12 ((numF b z 1 64 (p + 1)).2 + 1)).2))
     else .inl (0, (numF b z 1 64 (p + 1)).1, 0, (numF b z 1 64 (p + 1)).2))
  else if nxB b z p 114 = true then
    (if (numF b z 1 64 (p + 1)).1 = -1 then .inr (numF b z 1 64 (p + 1)).2 else .inl (1, (numF b z 1 64 (p + 1)).1, 0, (numF b z 1 64 (p + 1)).2))
  else if nxB b z p 98 = true then .inl (2, 1, 0, p + 1)
  else .inr p
def sgnS (S : PSt) (r z m p : Nat) : Int32 × PSt := match sgF (S.1 (r + 1)) z p with
  | .inr f => (0, tpS S r f)
  | .inl q => (1, tpS (kpS S r m q.1 q.2.1 q.2.2.1 (nI (adF (S.1 (r + 1)) z 9 q.2.2.2))) r (q.2.2.2 + adF (S.1 (r + 1)) z 9 q.2.2.2))
set_option maxRecDepth 100000 in
set_option maxHeartbeats 1000000 in
theorem sp_X7_readSign {sh : List PSh} {S : PSt} {r z p m : Nat} (hs : isTp sh r) (hz : S.1 r 1 = nI z) (hz1 : z ≤ 160) (hp : p ≤ 160) (hm : S.1 r 3 = nI m) (hm2 : m < 1000)  : pF mX7_readSign 4 [.ref r] sh (tpS S r p) ((sgnS S r z m p).2) (some (.int (sgnS S r z m p).1)) := by
  refine pF.of (pG.of [some (.ref r), none, none, none, none, none] (by decide) tk_X7_readSign (Nat.le_of_ble_eq_true rfl) rfl (fun X => ?_))
  refine q_aload_n (pc := 0) (j := 0) rfl rfl ?_
  refine q_bipush (pc := 1) 110 rfl (by decide) ?_
  refine q_callV (pc := 3) (as := [.int 110]) (rest := []) (b := r) (st2 := [.int (pB (nxB (S.1 (r + 1)) z p 110))]) rfl ce_X7_isNext ml_X7_40 im_X7_isNext se_X7_isNext hs.1 rfl rfl rfl (by decide) (Nat.le_of_ble_eq_true rfl) (sp_X7_isNext (S := S) (z := z) (p := p) hs hz hz1 (by omega)) rfl ?_
  cases hb6 : (nxB (S.1 (r + 1)) z p 110) with
  | false =>
    refine q_if_eq (pc := 6) 13 rfl (by decide) (fun _ => ?_) (fun h9 => absurd (by decide : pB false = 0) h9)
    refine q_aload_n (pc := 13) (j := 0) rfl rfl ?_
    refine q_bipush (pc := 14) 114 rfl (by decide) ?_
    refine q_callV (pc := 16) (as := [.int 114]) (rest := []) (b := r) (st2 := [.int (pB (nxB (S.1 (r + 1)) z p 114))]) rfl ce_X7_isNext ml_X7_40 im_X7_isNext se_X7_isNext hs.1 rfl rfl rfl (by decide) (Nat.le_of_ble_eq_true rfl) (sp_X7_isNext (S := S) (z := z) (p := p) hs hz hz1 (by omega)) rfl ?_
    cases hb19 : (nxB (S.1 (r + 1)) z p 114) with
    | false =>
      refine q_if_eq (pc := 19) 26 rfl (by decide) (fun _ => ?_) (fun h9 => absurd (by decide : pB false = 0) h9)
      refine q_aload_n (pc := 26) (j := 0) rfl rfl ?_
      refine q_bipush (pc := 27) 98 rfl (by decide) ?_
      refine q_callV (pc := 29) (as := [.int 98]) (rest := []) (b := r) (st2 := [.int (pB (nxB (S.1 (r + 1)) z p 98))]) rfl ce_X7_isNext ml_X7_40 im_X7_isNext se_X7_isNext hs.1 rfl rfl rfl (by decide) (Nat.le_of_ble_eq_true rfl) (sp_X7_isNext (S := S) (z := z) (p := p) hs hz hz1 (by omega)) rfl ?_
      cases hb32 : (nxB (S.1 (r + 1)) z p 98) with
      | false =>
        refine q_if_eq (pc := 32) 39 rfl (by decide) (fun _ => ?_) (fun h9 => absurd (by decide : pB false = 0) h9)
        refine q_iconst (pc := 39) (-1) rfl (by decide) ?_
        refine q_istore_n (pc := 40) (j := 1) [some (.ref r), some (.int (-1)), none, none, none, none] rfl (by decide) rfl ?_
        refine q_iload_n (pc := 41) (j := 1) rfl rfl ?_
        refine q_iconst (pc := 42) (-1) rfl (by decide) ?_
        refine q_icmp_ne (pc := 43) 48 rfl (by decide) (fun h9 => absurd h9 (by decide : ¬ ¬ (-1 : Int32) = -1)) (fun _ => ?_)
        refine q_iconst (pc := 46) 0 rfl (by decide) ?_
        exact q_zret (pc := 47) rfl rfl rfl (by have hsg : sgF (S.1 (r + 1)) z p = .inr p := (by simp [sgF, hb6, hb19, hb32]); exact ⟨by rw [sgnS, hsg], by rw [sgnS, hsg]⟩)
      | true =>
        refine q_if_eq (pc := 32) 39 rfl (by decide) (fun h9 => absurd h9 (by decide : ¬ pB true = 0)) (fun _ => ?_)
        have hin := nx_in hb32
        refine q_iconst (pc := 35) 2 rfl (by decide) ?_
        refine q_goto (pc := 36) 40 rfl (by decide) ?_
        refine q_istore_n (pc := 40) (j := 1) [some (.ref r), some (.int 2), none, none, none, none] rfl (by decide) rfl ?_
        refine q_iload_n (pc := 41) (j := 1) rfl rfl ?_
        refine q_iconst (pc := 42) (-1) rfl (by decide) ?_
        refine q_icmp_ne (pc := 43) 48 rfl (by decide) (fun _ => ?_) (fun h9 => absurd h9 (by decide : 2 = (-1 : Int32) → False))
        refine q_aload_n (pc := 48) (j := 0) rfl rfl ?_
        refine q_dup (pc := 49) rfl rfl ?_
        refine q_get (pc := 50) (a := r) (v := .int ((tpS S r p).1 r 4)) rfl fl_X7_29 hs.1 rfl rfl ?_
        refine q_st (st2 := [.int (nI p), .ref r]) (by rw [show ((tpS S r p).1 r 4) = nI p from tp_p]) ?_
        refine q_iconst (pc := 53) 1 rfl (by decide) ?_
        refine q_iadd (pc := 54) rfl ?_
        refine q_st (st2 := [.int (nI (p + 1)), .ref r]) (by rw [nI_1 p]) ?_
        refine q_putI (pc := 55) (a := r) rfl fl_X7_29 hs.1 rfl (fun _ h9 => by cases h9; rfl) rfl rfl ?_
        refine q_S tp_s ?_
        refine q_iload_n (pc := 58) (j := 1) rfl rfl ?_
        refine q_iconst (pc := 59) 2 rfl (by decide) ?_
        refine q_icmp_ne (pc := 60) 67 rfl (by decide) (fun h9 => absurd h9 (by decide : ¬ ¬ (2 : Int32) = 2)) (fun _ => ?_)
        refine q_iconst (pc := 63) 1 rfl (by decide) ?_
        refine q_goto (pc := 64) 74 rfl (by decide) ?_
        refine q_istore_n (pc := 74) (j := 2) [some (.ref r), some (.int 2), some (.int 1), none, none, none] rfl (by decide) rfl ?_
        refine q_iload_n (pc := 75) (j := 2) rfl rfl ?_
        refine q_iconst (pc := 76) (-1) rfl (by decide) ?_
        refine q_icmp_ne (pc := 77) 82 rfl (by decide) (fun _ => ?_) (fun h9 => absurd h9 (by decide : (1 : Int32) = -1 → False))
        refine q_iconst (pc := 82) 0 rfl (by decide) ?_
        refine q_istore_n (pc := 83) (j := 3) [some (.ref r), some (.int 2), some (.int 1), some (.int 0), none, none] rfl (by decide) rfl ?_
        refine q_iload_n (pc := 84) (j := 1) rfl rfl ?_
        refine q_if_ne (pc := 85) 171 rfl (by decide) (fun _ => ?_) (fun h9 => absurd h9 (by decide : (2 : Int32) = 0 → False))
        refine q_aload_n (pc := 171) (j := 0) rfl rfl ?_
        refine q_iload_n (pc := 172) (j := 1) rfl rfl ?_
        refine q_iload_n (pc := 173) (j := 2) rfl rfl ?_
        refine q_iload_n (pc := 174) (j := 3) rfl rfl ?_
        refine q_aload_n (pc := 175) (j := 0) rfl rfl ?_
        refine q_callV (pc := 176) (as := []) (rest := [.int 0, .int 1, .int 2, .ref r]) (b := r) (st2 := [.int (nI (adF (S.1 (r + 1)) z 9 (p + 1))), .int 0, .int 1, .int 2, .ref r]) rfl ce_X7_readAdorn ml_X7_52 im_X7_readAdorn se_X7_readAdorn hs.1 rfl rfl rfl (by decide) (Nat.le_of_ble_eq_true rfl) (sp_X7_readAdorn (S := S) (z := z) (p := (p + 1)) hs hz hz1 (by omega)) rfl ?_
        refine q_callV (pc := 179) (as := [.int 2, .int 1, .int 0, .int (nI (adF (S.1 (r + 1)) z 9 (p + 1)))]) (rest := []) (b := r) (st2 := []) rfl ce_X7_keep ml_X7_56 im_X7_keep se_X7_keep hs.1 rfl rfl rfl (by decide) (Nat.le_of_ble_eq_true rfl) (sp_X7_keep (S := S) (m := m) (p := ((p + 1) + adF (S.1 (r + 1)) z 9 (p + 1))) hs hm hm2) rfl ?_
        refine q_iconst (pc := 182) 1 rfl (by decide) ?_
        exact q_zret (pc := 183) rfl rfl rfl (by have hsg : sgF (S.1 (r + 1)) z p = .inl (2, 1, 0, (p + 1)) := (by simp [sgF, hb6, hb19, hb32]); exact ⟨by rw [sgnS, hsg], by rw [sgnS, hsg]⟩)
    | true =>
      refine q_if_eq (pc := 19) 26 rfl (by decide) (fun h9 => absurd h9 (by decide : ¬ pB true = 0)) (fun _ => ?_)
      have hin := nx_in hb19
      refine q_iconst (pc := 22) 1 rfl (by decide) ?_
      refine q_goto (pc := 23) 40 rfl (by decide) ?_
      refine q_istore_n (pc := 40) (j := 1) [some (.ref r), some (.int 1), none, none, none, none] rfl (by decide) rfl ?_
      refine q_iload_n (pc := 41) (j := 1) rfl rfl ?_
      refine q_iconst (pc := 42) (-1) rfl (by decide) ?_
      refine q_icmp_ne (pc := 43) 48 rfl (by decide) (fun _ => ?_) (fun h9 => absurd h9 (by decide : 1 = (-1 : Int32) → False))
      refine q_aload_n (pc := 48) (j := 0) rfl rfl ?_
      refine q_dup (pc := 49) rfl rfl ?_
      refine q_get (pc := 50) (a := r) (v := .int ((tpS S r p).1 r 4)) rfl fl_X7_29 hs.1 rfl rfl ?_
      refine q_st (st2 := [.int (nI p), .ref r]) (by rw [show ((tpS S r p).1 r 4) = nI p from tp_p]) ?_
      refine q_iconst (pc := 53) 1 rfl (by decide) ?_
      refine q_iadd (pc := 54) rfl ?_
      refine q_st (st2 := [.int (nI (p + 1)), .ref r]) (by rw [nI_1 p]) ?_
      refine q_putI (pc := 55) (a := r) rfl fl_X7_29 hs.1 rfl (fun _ h9 => by cases h9; rfl) rfl rfl ?_
      refine q_S tp_s ?_
      refine q_iload_n (pc := 58) (j := 1) rfl rfl ?_
      refine q_iconst (pc := 59) 2 rfl (by decide) ?_
      refine q_icmp_ne (pc := 60) 67 rfl (by decide) (fun _ => ?_) (fun h9 => absurd h9 (by decide : 1 = (2 : Int32) → False))
      refine q_aload_n (pc := 67) (j := 0) rfl rfl ?_
      refine q_iconst (pc := 68) 1 rfl (by decide) ?_
      refine q_bipush (pc := 69) 64 rfl (by decide) ?_
      refine q_callV (pc := 71) (as := [.int 1, .int 64]) (rest := []) (b := r) (st2 := [.int ((numF (S.1 (r + 1)) z 1 64 (p + 1)).1)]) rfl ce_X7_readNumber ml_X7_48 im_X7_readNumber se_X7_readNumber hs.1 rfl rfl rfl (by decide) (Nat.le_of_ble_eq_true rfl) (sp_X7_readNumber (S := S) (z := z) (p := (p + 1)) hs hz hz1 (by omega)) rfl ?_
      refine q_istore_n (pc := 74) (j := 2) [some (.ref r), some (.int 1), some (.int ((numF (S.1 (r + 1)) z 1 64 (p + 1)).1)), none, none, none] rfl (by decide) rfl ?_
      refine q_iload_n (pc := 75) (j := 2) rfl rfl ?_
      refine q_iconst (pc := 76) (-1) rfl (by decide) ?_
      refine q_icmp_ne (pc := 77) 82 rfl (by decide) (fun h77 => ?_) (fun h77 => ?_)
      · refine q_iconst (pc := 82) 0 rfl (by decide) ?_
        refine q_istore_n (pc := 83) (j := 3) [some (.ref r), some (.int 1), some (.int ((numF (S.1 (r + 1)) z 1 64 (p + 1)).1)), some (.int 0), none, none] rfl (by decide) rfl ?_
        refine q_iload_n (pc := 84) (j := 1) rfl rfl ?_
        refine q_if_ne (pc := 85) 171 rfl (by decide) (fun _ => ?_) (fun h9 => absurd h9 (by decide : (1 : Int32) = 0 → False))
        refine q_aload_n (pc := 171) (j := 0) rfl rfl ?_
        refine q_iload_n (pc := 172) (j := 1) rfl rfl ?_
        refine q_iload_n (pc := 173) (j := 2) rfl rfl ?_
        refine q_iload_n (pc := 174) (j := 3) rfl rfl ?_
        refine q_aload_n (pc := 175) (j := 0) rfl rfl ?_
        refine q_callV (pc := 176) (as := []) (rest := [.int 0, .int ((numF (S.1 (r + 1)) z 1 64 (p + 1)).1), .int 1, .ref r]) (b := r) (st2 := [.int (nI (adF (S.1 (r + 1)) z 9 (numF (S.1 (r + 1)) z 1 64 (p + 1)).2)), .int 0, .int ((numF (S.1 (r + 1)) z 1 64 (p + 1)).1), .int 1, .ref r]) rfl ce_X7_readAdorn ml_X7_52 im_X7_readAdorn se_X7_readAdorn hs.1 rfl rfl rfl (by decide) (Nat.le_of_ble_eq_true rfl) (sp_X7_readAdorn (S := S) (z := z) (p := (numF (S.1 (r + 1)) z 1 64 (p + 1)).2) hs hz hz1 (numF_le (by omega))) rfl ?_
        refine q_callV (pc := 179) (as := [.int 1, .int ((numF (S.1 (r + 1)) z 1 64 (p + 1)).1), .int 0, .int (nI (adF (S.1 (r + 1)) z 9 (numF (S.1 (r + 1)) z 1 64 (p + 1)).2))]) (rest := []) (b := r) (st2 := []) rfl ce_X7_keep ml_X7_56 im_X7_keep se_X7_keep hs.1 rfl rfl rfl (by decide) (Nat.le_of_ble_eq_true rfl) (sp_X7_keep (S := S) (m := m) (p := ((numF (S.1 (r + 1)) z 1 64 (p + 1)).2 + adF (S.1 (r + 1)) z 9 (numF (S.1 (r + 1)) z 1 64 (p + 1)).2)) hs hm hm2) rfl ?_
        refine q_iconst (pc := 182) 1 rfl (by decide) ?_
        exact q_zret (pc := 183) rfl rfl rfl (by have hsg : sgF (S.1 (r + 1)) z p = .inl (1, ((numF (S.1 (r + 1)) z 1 64 (p + 1)).1), 0, (numF (S.1 (r + 1)) z 1 64 (p + 1)).2) := (by simp [sgF, hb6, hb19, h77]); exact ⟨by rw [sgnS, hsg], by rw [sgnS, hsg]⟩)
      · refine q_iconst (pc := 80) 0 rfl (by decide) ?_
        exact q_zret (pc := 81) rfl rfl rfl (by have hsg : sgF (S.1 (r + 1)) z p = .inr (numF (S.1 (r + 1)) z 1 64 (p + 1)).2 := (by simp [sgF, hb6, hb19, h77]); exact ⟨by rw [sgnS, hsg], by rw [sgnS, hsg]⟩)
  | true =>
    refine q_if_eq (pc := 6) 13 rfl (by decide) (fun h9 => absurd h9 (by decide : ¬ pB true = 0)) (fun _ => ?_)
    have hin := nx_in hb6
    refine q_iconst (pc := 9) 0 rfl (by decide) ?_
    refine q_goto (pc := 10) 40 rfl (by decide) ?_
    refine q_istore_n (pc := 40) (j := 1) [some (.ref r), some (.int 0), none, none, none, none] rfl (by decide) rfl ?_
    refine q_iload_n (pc := 41) (j := 1) rfl rfl ?_
    refine q_iconst (pc := 42) (-1) rfl (by decide) ?_
    refine q_icmp_ne (pc := 43) 48 rfl (by decide) (fun _ => ?_) (fun h9 => absurd h9 (by decide : 0 = (-1 : Int32) → False))
    refine q_aload_n (pc := 48) (j := 0) rfl rfl ?_
    refine q_dup (pc := 49) rfl rfl ?_
    refine q_get (pc := 50) (a := r) (v := .int ((tpS S r p).1 r 4)) rfl fl_X7_29 hs.1 rfl rfl ?_
    refine q_st (st2 := [.int (nI p), .ref r]) (by rw [show ((tpS S r p).1 r 4) = nI p from tp_p]) ?_
    refine q_iconst (pc := 53) 1 rfl (by decide) ?_
    refine q_iadd (pc := 54) rfl ?_
    refine q_st (st2 := [.int (nI (p + 1)), .ref r]) (by rw [nI_1 p]) ?_
    refine q_putI (pc := 55) (a := r) rfl fl_X7_29 hs.1 rfl (fun _ h9 => by cases h9; rfl) rfl rfl ?_
    refine q_S tp_s ?_
    refine q_iload_n (pc := 58) (j := 1) rfl rfl ?_
    refine q_iconst (pc := 59) 2 rfl (by decide) ?_
    refine q_icmp_ne (pc := 60) 67 rfl (by decide) (fun _ => ?_) (fun h9 => absurd h9 (by decide : 0 = (2 : Int32) → False))
    refine q_aload_n (pc := 67) (j := 0) rfl rfl ?_
    refine q_iconst (pc := 68) 1 rfl (by decide) ?_
    refine q_bipush (pc := 69) 64 rfl (by decide) ?_
    refine q_callV (pc := 71) (as := [.int 1, .int 64]) (rest := []) (b := r) (st2 := [.int ((numF (S.1 (r + 1)) z 1 64 (p + 1)).1)]) rfl ce_X7_readNumber ml_X7_48 im_X7_readNumber se_X7_readNumber hs.1 rfl rfl rfl (by decide) (Nat.le_of_ble_eq_true rfl) (sp_X7_readNumber (S := S) (z := z) (p := (p + 1)) hs hz hz1 (by omega)) rfl ?_
    refine q_istore_n (pc := 74) (j := 2) [some (.ref r), some (.int 0), some (.int ((numF (S.1 (r + 1)) z 1 64 (p + 1)).1)), none, none, none] rfl (by decide) rfl ?_
    refine q_iload_n (pc := 75) (j := 2) rfl rfl ?_
    refine q_iconst (pc := 76) (-1) rfl (by decide) ?_
    refine q_icmp_ne (pc := 77) 82 rfl (by decide) (fun h77 => ?_) (fun h77 => ?_)
    · refine q_iconst (pc := 82) 0 rfl (by decide) ?_
      refine q_istore_n (pc := 83) (j := 3) [some (.ref r), some (.int 0), some (.int ((numF (S.1 (r + 1)) z 1 64 (p + 1)).1)), some (.int 0), none, none] rfl (by decide) rfl ?_
      refine q_iload_n (pc := 84) (j := 1) rfl rfl ?_
      refine q_if_ne (pc := 85) 171 rfl (by decide) (fun h9 => absurd h9 (by decide : ¬ ¬ (0 : Int32) = 0)) (fun _ => ?_)
      have hle := numF_le (b := S.1 (r + 1)) (z := z) (least := 1) (most := 64) (p := p + 1) (by omega)
      refine q_aload_n (pc := 88) (j := 0) rfl rfl ?_
      refine q_bipush (pc := 89) 43 rfl (by decide) ?_
      refine q_callV (pc := 91) (as := [.int 43]) (rest := []) (b := r) (st2 := [.int (pB (nxB (S.1 (r + 1)) z (numF (S.1 (r + 1)) z 1 64 (p + 1)).2 43))]) rfl ce_X7_isNext ml_X7_40 im_X7_isNext se_X7_isNext hs.1 rfl rfl rfl (by decide) (Nat.le_of_ble_eq_true rfl) (sp_X7_isNext (S := S) (z := z) (p := (numF (S.1 (r + 1)) z 1 64 (p + 1)).2) hs hz hz1 (by omega)) rfl ?_
      cases hb94 : (nxB (S.1 (r + 1)) z (numF (S.1 (r + 1)) z 1 64 (p + 1)).2 43) with
      | false =>
        refine q_if_ne (pc := 94) 106 rfl (by decide) (fun h9 => absurd (by decide : pB false = 0) h9) (fun _ => ?_)
        refine q_aload_n (pc := 97) (j := 0) rfl rfl ?_
        refine q_bipush (pc := 98) 45 rfl (by decide) ?_
        refine q_callV (pc := 100) (as := [.int 45]) (rest := []) (b := r) (st2 := [.int (pB (nxB (S.1 (r + 1)) z (numF (S.1 (r + 1)) z 1 64 (p + 1)).2 45))]) rfl ce_X7_isNext ml_X7_40 im_X7_isNext se_X7_isNext hs.1 rfl rfl rfl (by decide) (Nat.le_of_ble_eq_true rfl) (sp_X7_isNext (S := S) (z := z) (p := (numF (S.1 (r + 1)) z 1 64 (p + 1)).2) hs hz hz1 (by omega)) rfl ?_
        cases hb103 : (nxB (S.1 (r + 1)) z (numF (S.1 (r + 1)) z 1 64 (p + 1)).2 45) with
        | false =>
          refine q_if_eq (pc := 103) 171 rfl (by decide) (fun _ => ?_) (fun h9 => absurd (by decide : pB false = 0) h9)
          refine q_aload_n (pc := 171) (j := 0) rfl rfl ?_
          refine q_iload_n (pc := 172) (j := 1) rfl rfl ?_
          refine q_iload_n (pc := 173) (j := 2) rfl rfl ?_
          refine q_iload_n (pc := 174) (j := 3) rfl rfl ?_
          refine q_aload_n (pc := 175) (j := 0) rfl rfl ?_
          refine q_callV (pc := 176) (as := []) (rest := [.int 0, .int ((numF (S.1 (r + 1)) z 1 64 (p + 1)).1), .int 0, .ref r]) (b := r) (st2 := [.int (nI (adF (S.1 (r + 1)) z 9 (numF (S.1 (r + 1)) z 1 64 (p + 1)).2)), .int 0, .int ((numF (S.1 (r + 1)) z 1 64 (p + 1)).1), .int 0, .ref r]) rfl ce_X7_readAdorn ml_X7_52 im_X7_readAdorn se_X7_readAdorn hs.1 rfl rfl rfl (by decide) (Nat.le_of_ble_eq_true rfl) (sp_X7_readAdorn (S := S) (z := z) (p := (numF (S.1 (r + 1)) z 1 64 (p + 1)).2) hs hz hz1 (numF_le (by omega))) rfl ?_
          refine q_callV (pc := 179) (as := [.int 0, .int ((numF (S.1 (r + 1)) z 1 64 (p + 1)).1), .int 0, .int (nI (adF (S.1 (r + 1)) z 9 (numF (S.1 (r + 1)) z 1 64 (p + 1)).2))]) (rest := []) (b := r) (st2 := []) rfl ce_X7_keep ml_X7_56 im_X7_keep se_X7_keep hs.1 rfl rfl rfl (by decide) (Nat.le_of_ble_eq_true rfl) (sp_X7_keep (S := S) (m := m) (p := ((numF (S.1 (r + 1)) z 1 64 (p + 1)).2 + adF (S.1 (r + 1)) z 9 (numF (S.1 (r + 1)) z 1 64 (p + 1)).2)) hs hm hm2) rfl ?_
          refine q_iconst (pc := 182) 1 rfl (by decide) ?_
          exact q_zret (pc := 183) rfl rfl rfl (by have hsg : sgF (S.1 (r + 1)) z p = .inl (0, ((numF (S.1 (r + 1)) z 1 64 (p + 1)).1), 0, (numF (S.1 (r + 1)) z 1 64 (p + 1)).2) := (by simp [sgF, hb6, h77, hb94, hb103]); exact ⟨by rw [sgnS, hsg], by rw [sgnS, hsg]⟩)
        | true =>
          refine q_if_eq (pc := 103) 171 rfl (by decide) (fun h9 => absurd h9 (by decide : ¬ pB true = 0)) (fun _ => ?_)
          have hin2 := nx_in hb103
          refine q_aload_n (pc := 106) (j := 0) rfl rfl ?_
          refine q_bipush (pc := 107) 43 rfl (by decide) ?_
          refine q_callV (pc := 109) (as := [.int 43]) (rest := []) (b := r) (st2 := [.int (pB (nxB (S.1 (r + 1)) z (numF (S.1 (r + 1)) z 1 64 (p + 1)).2 43))]) rfl ce_X7_isNext ml_X7_40 im_X7_isNext se_X7_isNext hs.1 rfl rfl rfl (by decide) (Nat.le_of_ble_eq_true rfl) (sp_X7_isNext (S := S) (z := z) (p := (numF (S.1 (r + 1)) z 1 64 (p + 1)).2) hs hz hz1 (by omega)) rfl ?_
          refine q_istore (pc := 112) (j := 4) [some (.ref r), some (.int 0), some (.int ((numF (S.1 (r + 1)) z 1 64 (p + 1)).1)), some (.int 0), some (.int (pB (nxB (S.1 (r + 1)) z (numF (S.1 (r + 1)) z 1 64 (p + 1)).2 43))), none] rfl (by decide) rfl ?_
          refine q_aload_n (pc := 114) (j := 0) rfl rfl ?_
          refine q_dup (pc := 115) rfl rfl ?_
          refine q_get (pc := 116) (a := r) (v := .int ((tpS S r (numF (S.1 (r + 1)) z 1 64 (p + 1)).2).1 r 4)) rfl fl_X7_29 hs.1 rfl rfl ?_
          refine q_st (st2 := [.int (nI (numF (S.1 (r + 1)) z 1 64 (p + 1)).2), .ref r]) (by rw [show ((tpS S r (numF (S.1 (r + 1)) z 1 64 (p + 1)).2).1 r 4) = nI (numF (S.1 (r + 1)) z 1 64 (p + 1)).2 from tp_p]) ?_
          refine q_iconst (pc := 119) 1 rfl (by decide) ?_
          refine q_iadd (pc := 120) rfl ?_
          refine q_st (st2 := [.int (nI ((numF (S.1 (r + 1)) z 1 64 (p + 1)).2 + 1)), .ref r]) (by rw [nI_1 (numF (S.1 (r + 1)) z 1 64 (p + 1)).2]) ?_
          refine q_putI (pc := 121) (a := r) rfl fl_X7_29 hs.1 rfl (fun _ h9 => by cases h9; rfl) rfl rfl ?_
          refine q_S tp_s ?_
          refine q_iload (pc := 124) (j := 4) rfl rfl ?_
          refine q_if_eq (pc := 126) 139 rfl (by decide) (fun _ => ?_) (fun h9 => absurd (by rw [hb94]; decide) h9)
          refine q_aload_n (pc := 139) (j := 0) rfl rfl ?_
          refine q_iconst (pc := 140) 1 rfl (by decide) ?_
          refine q_bipush (pc := 141) 12 rfl (by decide) ?_
          refine q_callV (pc := 143) (as := [.int 1, .int 12]) (rest := []) (b := r) (st2 := [.int ((numF (S.1 (r + 1)) z 1 12 ((numF (S.1 (r + 1)) z 1 64 (p + 1)).2 + 1)).1)]) rfl ce_X7_readNumber ml_X7_48 im_X7_readNumber se_X7_readNumber hs.1 rfl rfl rfl (by decide) (Nat.le_of_ble_eq_true rfl) (sp_X7_readNumber (S := S) (z := z) (p := ((numF (S.1 (r + 1)) z 1 64 (p + 1)).2 + 1)) hs hz hz1 (by omega)) rfl ?_
          refine q_istore (pc := 146) (j := 5) [some (.ref r), some (.int 0), some (.int ((numF (S.1 (r + 1)) z 1 64 (p + 1)).1)), some (.int 0), some (.int (pB (nxB (S.1 (r + 1)) z (numF (S.1 (r + 1)) z 1 64 (p + 1)).2 43))), some (.int ((numF (S.1 (r + 1)) z 1 12 ((numF (S.1 (r + 1)) z 1 64 (p + 1)).2 + 1)).1))] rfl (by decide) rfl ?_
          refine q_iload (pc := 148) (j := 5) rfl rfl ?_
          refine q_iconst (pc := 150) (-1) rfl (by decide) ?_
          refine q_icmp_ne (pc := 151) 156 rfl (by decide) (fun h151 => ?_) (fun h151 => ?_)
          · refine q_iload (pc := 156) (j := 4) rfl rfl ?_
            refine q_if_eq (pc := 158) 166 rfl (by decide) (fun _ => ?_) (fun h9 => absurd (by rw [hb94]; decide) h9)
            refine q_iconst (pc := 166) 0 rfl (by decide) ?_
            refine q_iload (pc := 167) (j := 5) rfl rfl ?_
            refine q_isub (pc := 169) rfl ?_
            refine q_istore_n (pc := 170) (j := 3) [some (.ref r), some (.int 0), some (.int ((numF (S.1 (r + 1)) z 1 64 (p + 1)).1)), some (.int (0 - (numF (S.1 (r + 1)) z 1 12 ((numF (S.1 (r + 1)) z 1 64 (p + 1)).2 + 1)).1)), some (.int (pB (nxB (S.1 (r + 1)) z (numF (S.1 (r + 1)) z 1 64 (p + 1)).2 43))), some (.int ((numF (S.1 (r + 1)) z 1 12 ((numF (S.1 (r + 1)) z 1 64 (p + 1)).2 + 1)).1))] rfl (by decide) rfl ?_
            refine q_aload_n (pc := 171) (j := 0) rfl rfl ?_
            refine q_iload_n (pc := 172) (j := 1) rfl rfl ?_
            refine q_iload_n (pc := 173) (j := 2) rfl rfl ?_
            refine q_iload_n (pc := 174) (j := 3) rfl rfl ?_
            refine q_aload_n (pc := 175) (j := 0) rfl rfl ?_
            refine q_callV (pc := 176) (as := []) (rest := [.int (0 - (numF (S.1 (r + 1)) z 1 12 ((numF (S.1 (r + 1)) z 1 64 (p + 1)).2 + 1)).1), .int ((numF (S.1 (r + 1)) z 1 64 (p + 1)).1), .int 0, .ref r]) (b := r) (st2 := [.int (nI (adF (S.1 (r + 1)) z 9 (numF (S.1 (r + 1)) z 1 12 ((numF (S.1 (r + 1)) z 1 64 (p + 1)).2 + 1)).2)), .int (0 - (numF (S.1 (r + 1)) z 1 12 ((numF (S.1 (r + 1)) z 1 64 (p + 1)).2 + 1)).1), .int ((numF (S.1 (r + 1)) z 1 64 (p + 1)).1), .int 0, .ref r]) rfl ce_X7_readAdorn ml_X7_52 im_X7_readAdorn se_X7_readAdorn hs.1 rfl rfl rfl (by decide) (Nat.le_of_ble_eq_true rfl) (sp_X7_readAdorn (S := S) (z := z) (p := (numF (S.1 (r + 1)) z 1 12 ((numF (S.1 (r + 1)) z 1 64 (p + 1)).2 + 1)).2) hs hz hz1 (numF_le (by omega))) rfl ?_
            refine q_callV (pc := 179) (as := [.int 0, .int ((numF (S.1 (r + 1)) z 1 64 (p + 1)).1), .int (0 - (numF (S.1 (r + 1)) z 1 12 ((numF (S.1 (r + 1)) z 1 64 (p + 1)).2 + 1)).1), .int (nI (adF (S.1 (r + 1)) z 9 (numF (S.1 (r + 1)) z 1 12 ((numF (S.1 (r + 1)) z 1 64 (p + 1)).2 + 1)).2))]) (rest := []) (b := r) (st2 := []) rfl ce_X7_keep ml_X7_56 im_X7_keep se_X7_keep hs.1 rfl rfl rfl (by decide) (Nat.le_of_ble_eq_true rfl) (sp_X7_keep (S := S) (m := m) (p := ((numF (S.1 (r + 1)) z 1 12 ((numF (S.1 (r + 1)) z 1 64 (p + 1)).2 + 1)).2 + adF (S.1 (r + 1)) z 9 (numF (S.1 (r + 1)) z 1 12 ((numF (S.1 (r + 1)) z 1 64 (p + 1)).2 + 1)).2)) hs hm hm2) rfl ?_
            refine q_iconst (pc := 182) 1 rfl (by decide) ?_
            exact q_zret (pc := 183) rfl rfl rfl (by have hsg : sgF (S.1 (r + 1)) z p = .inl (0, ((numF (S.1 (r + 1)) z 1 64 (p + 1)).1), (0 - (numF (S.1 (r + 1)) z 1 12 ((numF (S.1 (r + 1)) z 1 64 (p + 1)).2 + 1)).1), (numF (S.1 (r + 1)) z 1 12 ((numF (S.1 (r + 1)) z 1 64 (p + 1)).2 + 1)).2) := (by simp [sgF, hb6, h77, hb94, hb103, h151]); exact ⟨by rw [sgnS, hsg], by rw [sgnS, hsg]⟩)
          · refine q_iconst (pc := 154) 0 rfl (by decide) ?_
            exact q_zret (pc := 155) rfl rfl rfl (by have hsg : sgF (S.1 (r + 1)) z p = .inr (numF (S.1 (r + 1)) z 1 12 ((numF (S.1 (r + 1)) z 1 64 (p + 1)).2 + 1)).2 := (by simp [sgF, hb6, h77, hb94, hb103, h151]); exact ⟨by rw [sgnS, hsg], by rw [sgnS, hsg]⟩)
      | true =>
        refine q_if_ne (pc := 94) 106 rfl (by decide) (fun _ => ?_) (fun h9 => absurd h9 (by decide : ¬ pB true = 0))
        have hin2 := nx_in hb94
        refine q_aload_n (pc := 106) (j := 0) rfl rfl ?_
        refine q_bipush (pc := 107) 43 rfl (by decide) ?_
        refine q_callV (pc := 109) (as := [.int 43]) (rest := []) (b := r) (st2 := [.int (pB (nxB (S.1 (r + 1)) z (numF (S.1 (r + 1)) z 1 64 (p + 1)).2 43))]) rfl ce_X7_isNext ml_X7_40 im_X7_isNext se_X7_isNext hs.1 rfl rfl rfl (by decide) (Nat.le_of_ble_eq_true rfl) (sp_X7_isNext (S := S) (z := z) (p := (numF (S.1 (r + 1)) z 1 64 (p + 1)).2) hs hz hz1 (by omega)) rfl ?_
        refine q_istore (pc := 112) (j := 4) [some (.ref r), some (.int 0), some (.int ((numF (S.1 (r + 1)) z 1 64 (p + 1)).1)), some (.int 0), some (.int (pB (nxB (S.1 (r + 1)) z (numF (S.1 (r + 1)) z 1 64 (p + 1)).2 43))), none] rfl (by decide) rfl ?_
        refine q_aload_n (pc := 114) (j := 0) rfl rfl ?_
        refine q_dup (pc := 115) rfl rfl ?_
        refine q_get (pc := 116) (a := r) (v := .int ((tpS S r (numF (S.1 (r + 1)) z 1 64 (p + 1)).2).1 r 4)) rfl fl_X7_29 hs.1 rfl rfl ?_
        refine q_st (st2 := [.int (nI (numF (S.1 (r + 1)) z 1 64 (p + 1)).2), .ref r]) (by rw [show ((tpS S r (numF (S.1 (r + 1)) z 1 64 (p + 1)).2).1 r 4) = nI (numF (S.1 (r + 1)) z 1 64 (p + 1)).2 from tp_p]) ?_
        refine q_iconst (pc := 119) 1 rfl (by decide) ?_
        refine q_iadd (pc := 120) rfl ?_
        refine q_st (st2 := [.int (nI ((numF (S.1 (r + 1)) z 1 64 (p + 1)).2 + 1)), .ref r]) (by rw [nI_1 (numF (S.1 (r + 1)) z 1 64 (p + 1)).2]) ?_
        refine q_putI (pc := 121) (a := r) rfl fl_X7_29 hs.1 rfl (fun _ h9 => by cases h9; rfl) rfl rfl ?_
        refine q_S tp_s ?_
        refine q_iload (pc := 124) (j := 4) rfl rfl ?_
        refine q_if_eq (pc := 126) 139 rfl (by decide) (fun h9 => absurd h9 (by rw [hb94]; decide)) (fun _ => ?_)
        refine q_aload_n (pc := 129) (j := 0) rfl rfl ?_
        refine q_iconst (pc := 130) 0 rfl (by decide) ?_
        refine q_bipush (pc := 131) 20 rfl (by decide) ?_
        refine q_callV (pc := 133) (as := [.int 0, .int 20]) (rest := []) (b := r) (st2 := [.int ((numF (S.1 (r + 1)) z 0 20 ((numF (S.1 (r + 1)) z 1 64 (p + 1)).2 + 1)).1)]) rfl ce_X7_readNumber ml_X7_48 im_X7_readNumber se_X7_readNumber hs.1 rfl rfl rfl (by decide) (Nat.le_of_ble_eq_true rfl) (sp_X7_readNumber (S := S) (z := z) (p := ((numF (S.1 (r + 1)) z 1 64 (p + 1)).2 + 1)) hs hz hz1 (by omega)) rfl ?_
        refine q_goto (pc := 136) 146 rfl (by decide) ?_
        refine q_istore (pc := 146) (j := 5) [some (.ref r), some (.int 0), some (.int ((numF (S.1 (r + 1)) z 1 64 (p + 1)).1)), some (.int 0), some (.int (pB (nxB (S.1 (r + 1)) z (numF (S.1 (r + 1)) z 1 64 (p + 1)).2 43))), some (.int ((numF (S.1 (r + 1)) z 0 20 ((numF (S.1 (r + 1)) z 1 64 (p + 1)).2 + 1)).1))] rfl (by decide) rfl ?_
        refine q_iload (pc := 148) (j := 5) rfl rfl ?_
        refine q_iconst (pc := 150) (-1) rfl (by decide) ?_
        refine q_icmp_ne (pc := 151) 156 rfl (by decide) (fun h151 => ?_) (fun h151 => ?_)
        · refine q_iload (pc := 156) (j := 4) rfl rfl ?_
          refine q_if_eq (pc := 158) 166 rfl (by decide) (fun h9 => absurd h9 (by rw [hb94]; decide)) (fun _ => ?_)
          refine q_iload (pc := 161) (j := 5) rfl rfl ?_
          refine q_goto (pc := 163) 170 rfl (by decide) ?_
          refine q_istore_n (pc := 170) (j := 3) [some (.ref r), some (.int 0), some (.int ((numF (S.1 (r + 1)) z 1 64 (p + 1)).1)), some (.int ((numF (S.1 (r + 1)) z 0 20 ((numF (S.1 (r + 1)) z 1 64 (p + 1)).2 + 1)).1)), some (.int (pB (nxB (S.1 (r + 1)) z (numF (S.1 (r + 1)) z 1 64 (p + 1)).2 43))), some (.int ((numF (S.1 (r + 1)) z 0 20 ((numF (S.1 (r + 1)) z 1 64 (p + 1)).2 + 1)).1))] rfl (by decide) rfl ?_
          refine q_aload_n (pc := 171) (j := 0) rfl rfl ?_
          refine q_iload_n (pc := 172) (j := 1) rfl rfl ?_
          refine q_iload_n (pc := 173) (j := 2) rfl rfl ?_
          refine q_iload_n (pc := 174) (j := 3) rfl rfl ?_
          refine q_aload_n (pc := 175) (j := 0) rfl rfl ?_
          refine q_callV (pc := 176) (as := []) (rest := [.int ((numF (S.1 (r + 1)) z 0 20 ((numF (S.1 (r + 1)) z 1 64 (p + 1)).2 + 1)).1), .int ((numF (S.1 (r + 1)) z 1 64 (p + 1)).1), .int 0, .ref r]) (b := r) (st2 := [.int (nI (adF (S.1 (r + 1)) z 9 (numF (S.1 (r + 1)) z 0 20 ((numF (S.1 (r + 1)) z 1 64 (p + 1)).2 + 1)).2)), .int ((numF (S.1 (r + 1)) z 0 20 ((numF (S.1 (r + 1)) z 1 64 (p + 1)).2 + 1)).1), .int ((numF (S.1 (r + 1)) z 1 64 (p + 1)).1), .int 0, .ref r]) rfl ce_X7_readAdorn ml_X7_52 im_X7_readAdorn se_X7_readAdorn hs.1 rfl rfl rfl (by decide) (Nat.le_of_ble_eq_true rfl) (sp_X7_readAdorn (S := S) (z := z) (p := (numF (S.1 (r + 1)) z 0 20 ((numF (S.1 (r + 1)) z 1 64 (p + 1)).2 + 1)).2) hs hz hz1 (numF_le (by omega))) rfl ?_
          refine q_callV (pc := 179) (as := [.int 0, .int ((numF (S.1 (r + 1)) z 1 64 (p + 1)).1), .int ((numF (S.1 (r + 1)) z 0 20 ((numF (S.1 (r + 1)) z 1 64 (p + 1)).2 + 1)).1), .int (nI (adF (S.1 (r + 1)) z 9 (numF (S.1 (r + 1)) z 0 20 ((numF (S.1 (r + 1)) z 1 64 (p + 1)).2 + 1)).2))]) (rest := []) (b := r) (st2 := []) rfl ce_X7_keep ml_X7_56 im_X7_keep se_X7_keep hs.1 rfl rfl rfl (by decide) (Nat.le_of_ble_eq_true rfl) (sp_X7_keep (S := S) (m := m) (p := ((numF (S.1 (r + 1)) z 0 20 ((numF (S.1 (r + 1)) z 1 64 (p + 1)).2 + 1)).2 + adF (S.1 (r + 1)) z 9 (numF (S.1 (r + 1)) z 0 20 ((numF (S.1 (r + 1)) z 1 64 (p + 1)).2 + 1)).2)) hs hm hm2) rfl ?_
          refine q_iconst (pc := 182) 1 rfl (by decide) ?_
          exact q_zret (pc := 183) rfl rfl rfl (by have hsg : sgF (S.1 (r + 1)) z p = .inl (0, ((numF (S.1 (r + 1)) z 1 64 (p + 1)).1), ((numF (S.1 (r + 1)) z 0 20 ((numF (S.1 (r + 1)) z 1 64 (p + 1)).2 + 1)).1), (numF (S.1 (r + 1)) z 0 20 ((numF (S.1 (r + 1)) z 1 64 (p + 1)).2 + 1)).2) := (by simp [sgF, hb6, h77, hb94, h151]); exact ⟨by rw [sgnS, hsg], by rw [sgnS, hsg]⟩)
        · refine q_iconst (pc := 154) 0 rfl (by decide) ?_
          exact q_zret (pc := 155) rfl rfl rfl (by have hsg : sgF (S.1 (r + 1)) z p = .inr (numF (S.1 (r + 1)) z 0 20 ((numF (S.1 (r + 1)) z 1 64 (p + 1)).2 + 1)).2 := (by simp [sgF, hb6, h77, hb94, h151]); exact ⟨by rw [sgnS, hsg], by rw [sgnS, hsg]⟩)
    · refine q_iconst (pc := 80) 0 rfl (by decide) ?_
      exact q_zret (pc := 81) rfl rfl rfl (by have hsg : sgF (S.1 (r + 1)) z p = .inr (numF (S.1 (r + 1)) z 1 64 (p + 1)).2 := (by simp [sgF, hb6, h77]); exact ⟨by rw [sgnS, hsg], by rw [sgnS, hsg]⟩)
set_option maxRecDepth 100000 in
theorem sp_X7_append {sh : List PSh} {S : PSt} {r z : Nat} {x : Int32} (hs : isTp sh r) (hz : S.1 r 1 = nI z) (hz1 : z < 160) : pF mX7_append 1 [.ref r, .int x] sh S (pSI (pSI S (r + 1) z x) r 1 (nI (z + 1))) (none) := by
  refine pF.of (pG.of [some (.ref r), some (.int x)] (by decide) tk_X7_append (Nat.le_of_ble_eq_true rfl) rfl (fun X => ?_))
  refine q_aload_n (pc := 0) (j := 0) rfl rfl ?_
  refine q_get (pc := 1) (a := r) (v := .int (S.1 r 1)) rfl fl_X7_15 hs.1 rfl rfl ?_
  refine q_st (st2 := [.int (nI z)]) (by rw [show (S.1 r 1) = nI z from hz]) ?_
  refine q_sipush (pc := 4) 160 rfl (by decide) ?_
  refine q_icmp_ge (pc := 7) 32 rfl (by decide) (fun h9 => absurd h9 (nI_ge (b := 160) hz1 (by decide))) (fun _ => ?_)
  refine q_aload_n (pc := 10) (j := 0) rfl rfl ?_
  refine q_get (pc := 11) (a := r) (v := .ref (r + 1)) rfl fl_X7_9 hs.1 rfl rfl ?_
  refine q_aload_n (pc := 14) (j := 0) rfl rfl ?_
  refine q_get (pc := 15) (a := r) (v := .int (S.1 r 1)) rfl fl_X7_15 hs.1 rfl rfl ?_
  refine q_st (st2 := [.int (nI z), .ref (r + 1)]) (by rw [show (S.1 r 1) = nI z from hz]) ?_
  refine q_iload_n (pc := 18) (j := 1) rfl rfl ?_
  refine q_callS (pc := 19) (as := [.ref (r + 1), .int (nI z), .int x]) (rest := []) (st2 := []) rfl ce_X8_writeInt ml_X7_32 st_X8_writeInt rfl (by decide) (Nat.le_of_ble_eq_true rfl) (sp_writeIntN (k := z) hs.2.1 (by omega) (by decide)) rfl ?_
  refine q_aload_n (pc := 22) (j := 0) rfl rfl ?_
  refine q_dup (pc := 23) rfl rfl ?_
  refine q_get (pc := 24) (a := r) (v := .int ((pSI S (r + 1) z x).1 r 1)) rfl fl_X7_15 hs.1 rfl rfl ?_
  refine q_st (st2 := [.int (nI z), .ref r]) (by rw [show ((pSI S (r + 1) z x).1 r 1) = nI z from (show _ = S.1 r 1 by simp [pSI, pU]).trans hz]) ?_
  refine q_iconst (pc := 27) 1 rfl (by decide) ?_
  refine q_iadd (pc := 28) rfl ?_
  refine q_st (st2 := [.int (nI (z + 1)), .ref r]) (by rw [nI_1 z]) ?_
  refine q_putI (pc := 29) (a := r) rfl fl_X7_15 hs.1 rfl (fun _ h9 => by cases h9; rfl) rfl rfl ?_
  exact q_vret (pc := 32) rfl rfl ⟨rfl, rfl⟩
theorem kpS_b {S : PSt} {r m x : Nat} {k d s a : Int32} (h1 : x ≠ r + 2 + 1) (h2 : x ≠ r) : (kpS S r m k d s a).1 x = S.1 x := by
  unfold kpS
  funext j
  show pU _ _ _ _ x j = _
  unfold pU
  rw [if_neg (fun q => h2 q.1)]
  split
  · rw [ly5_o h1]
  · rfl
theorem kpS_f {S : PSt} {r m j : Nat} {k d s a : Int32} (h : j ≠ 3) : (kpS S r m k d s a).1 r j = S.1 r j := by
  unfold kpS
  show pU _ _ _ _ r j = _
  unfold pU
  rw [if_neg (fun q => h q.2)]
  split
  · rw [ly5_o (by omega)]
  · rfl
theorem kpS_m {S : PSt} {r m : Nat} {k d s a : Int32} : (kpS S r m k d s a).1 r 3 = nI (m + 1) := by simp [kpS, pSI, pU]
theorem sgF_le {b : Nat → Int32} {z p : Nat} (h : p ≤ z) : (∀ f, sgF b z p = .inr f → f ≤ z) ∧ (∀ q, sgF b z p = .inl q → q.2.2.2 ≤ z) := by
  unfold sgF
  split
  · rename_i h1
    have h1 := nx_in h1
    have a1 := numF_le (b := b) (least := 1) (most := 64) (show p + 1 ≤ z by omega)
    split
    · exact ⟨fun f hf => (by cases hf; exact a1), fun q hq => by cases hq⟩
    · split
      · rename_i h2
        have h2 := nx_in h2
        have a2 := numF_le (b := b) (least := 0) (most := 20) (show (numF b z 1 64 (p + 1)).2 + 1 ≤ z by omega)
        split
        · exact ⟨fun f hf => (by cases hf; exact a2), fun q hq => by cases hq⟩
        · exact ⟨fun f hf => (by cases hf), fun q hq => by cases hq; exact a2⟩
      · split
        · rename_i h2
          have h2 := nx_in h2
          have a2 := numF_le (b := b) (least := 1) (most := 12) (show (numF b z 1 64 (p + 1)).2 + 1 ≤ z by omega)
          split
          · exact ⟨fun f hf => (by cases hf; exact a2), fun q hq => by cases hq⟩
          · exact ⟨fun f hf => (by cases hf), fun q hq => by cases hq; exact a2⟩
        · exact ⟨fun f hf => (by cases hf), fun q hq => by cases hq; exact a1⟩
  · split
    · rename_i h1
      have h1 := nx_in h1
      have a1 := numF_le (b := b) (least := 1) (most := 64) (show p + 1 ≤ z by omega)
      split
      · exact ⟨fun f hf => (by cases hf; exact a1), fun q hq => by cases hq⟩
      · exact ⟨fun f hf => (by cases hf), fun q hq => by cases hq; exact a1⟩
    · split
      · rename_i h1
        have h1 := nx_in h1
        exact ⟨fun f hf => (by cases hf), fun q hq => by cases hq; exact h1⟩
      · exact ⟨fun f hf => (by cases hf; exact h), fun q hq => by cases hq⟩
/-- a text of music from p on, m signs ahead of it: the fault (-1: none), the contents behind -/
def muS (r z : Nat) : Nat → PSt → Nat → Nat → Int32 × PSt
  | 0, S, p, _ => (nI p, tpS S r p)
  | k + 1, S, p, m => match sgF (S.1 (r + 1)) z p with
    | .inr f => (nI f, tpS S r f)
    | .inl q => if z ≤ q.2.2.2 + adF (S.1 (r + 1)) z 9 q.2.2.2 then (-1, tpS (kpS S r m q.1 q.2.1 q.2.2.1 (nI (adF (S.1 (r + 1)) z 9 q.2.2.2))) r (q.2.2.2 + adF (S.1 (r + 1)) z 9 q.2.2.2))
      else if nxB (S.1 (r + 1)) z (q.2.2.2 + adF (S.1 (r + 1)) z 9 q.2.2.2) 32 = true then muS r z k (kpS S r m q.1 q.2.1 q.2.2.1 (nI (adF (S.1 (r + 1)) z 9 q.2.2.2))) (q.2.2.2 + adF (S.1 (r + 1)) z 9 q.2.2.2 + 1) (m + 1)
      else (nI (q.2.2.2 + adF (S.1 (r + 1)) z 9 q.2.2.2), tpS (kpS S r m q.1 q.2.1 q.2.2.1 (nI (adF (S.1 (r + 1)) z 9 q.2.2.2))) r (q.2.2.2 + adF (S.1 (r + 1)) z 9 q.2.2.2))
set_option maxRecDepth 100000 in
theorem lp_X7_readMusic {n0 : Nat} {X : Nat × (Nat → Int32)} {P : Option Value → PSt → Prop} {d : Nat} (hd9 : 5 ≤ d) {sh : List PSh} {r z : Nat} {R : Int32 × PSt} (hs : isTp sh r) (hz1 : z ≤ 160) (hP : P (some (.int R.1)) R.2) : ∀ (m9 k : Nat) (S : PSt) (p m : Nat), k + m9 = 160 → S.1 r 1 = nI z → S.1 r 3 = nI m → m ≤ k → p ≤ z → muS r z m9 S p m = R → pV mX7_readMusic d n0 X sh P 12 [some (.ref r), some (.int (nI k))] [] (tpS S r p) := by
  intro m9
  induction m9 with
  | zero =>
    intro k S p m hk hz hm hmk hp hw
    have hk : k = 160 := by omega
    subst hk
    subst hw
    refine q_iload_n (pc := 12) (j := 1) rfl rfl ?_
    refine q_sipush (pc := 13) 160 rfl (by decide) ?_
    refine q_icmp_ge (pc := 16) 74 rfl (by decide) (fun _ => ?_) (fun h9 => absurd (Int32.le_refl _) h9)
    refine q_aload_n (pc := 74) (j := 0) rfl rfl ?_
    refine q_get (pc := 75) (a := r) (v := .int (nI p)) rfl fl_X7_29 hs.1 rfl (congrArg Value.int tp_p) ?_
    exact q_iret (pc := 78) rfl rfl hP
  | succ m9 ih =>
    intro k S p m hk hz hm hmk hp hw
    have hk1 : k < 160 := by omega
    refine q_iload_n (pc := 12) (j := 1) rfl rfl ?_
    refine q_sipush (pc := 13) 160 rfl (by decide) ?_
    refine q_icmp_ge (pc := 16) 74 rfl (by decide) (fun h9 => absurd h9 (nI_ge (b := 160) hk1 (by decide))) (fun _ => ?_)
    refine q_aload_n (pc := 19) (j := 0) rfl rfl ?_
    refine q_callV (pc := 20) (as := []) (rest := []) (b := r) (st2 := [.int ((sgnS S r z m p).1)]) rfl ce_X7_readSign ml_X7_36 im_X7_readSign se_X7_readSign hs.1 rfl rfl rfl (by omega) (Nat.le_of_ble_eq_true rfl) (sp_X7_readSign (S := S) (z := z) (p := p) (m := m) hs hz hz1 (by omega) hm (by omega)) rfl ?_
    cases hsg : sgF (S.1 (r + 1)) z p with
    | inr f =>
      have e9 : sgnS S r z m p = (0, tpS S r f) := by rw [sgnS, hsg]
      have hle := (sgF_le (b := S.1 (r + 1)) hp).1 f hsg
      refine q_st (st2 := [.int 0]) (by rw [e9]) (q_S (S2 := tpS S r f) (by rw [e9]) ?_)
      refine q_if_ne (pc := 23) 31 rfl (by decide) (fun h9 => absurd h9 (by decide : ¬ ¬ (0 : Int32) = 0)) (fun _ => ?_)
      refine q_aload_n (pc := 26) (j := 0) rfl rfl ?_
      refine q_get (pc := 27) (a := r) (v := .int ((tpS S r f).1 r 4)) rfl fl_X7_29 hs.1 rfl rfl ?_
      refine q_st (st2 := [.int (nI f)]) (by rw [show ((tpS S r f).1 r 4) = nI f from tp_p]) ?_
      exact q_iret (pc := 30) rfl rfl (by rw [← hw, muS, hsg] at hP; exact hP)
    | inl q =>
      have e9 : sgnS S r z m p = (1, tpS (kpS S r m q.1 q.2.1 q.2.2.1 (nI (adF (S.1 (r + 1)) z 9 q.2.2.2))) r (q.2.2.2 + adF (S.1 (r + 1)) z 9 q.2.2.2)) := by rw [sgnS, hsg]
      have hle := adF_le (b := S.1 (r + 1)) 9 _ ((sgF_le (b := S.1 (r + 1)) hp).2 q hsg)
      refine q_st (st2 := [.int 1]) (by rw [e9]) (q_S (S2 := tpS (kpS S r m q.1 q.2.1 q.2.2.1 (nI (adF (S.1 (r + 1)) z 9 q.2.2.2))) r (q.2.2.2 + adF (S.1 (r + 1)) z 9 q.2.2.2)) (by rw [e9]) ?_)
      refine q_if_ne (pc := 23) 31 rfl (by decide) (fun _ => ?_) (fun h9 => absurd h9 (by decide : (1 : Int32) = 0 → False))
      refine q_aload_n (pc := 31) (j := 0) rfl rfl ?_
      refine q_get (pc := 32) (a := r) (v := .int ((tpS (kpS S r m q.1 q.2.1 q.2.2.1 (nI (adF (S.1 (r + 1)) z 9 q.2.2.2))) r (q.2.2.2 + adF (S.1 (r + 1)) z 9 q.2.2.2)).1 r 4)) rfl fl_X7_29 hs.1 rfl rfl ?_
      refine q_st (st2 := [.int (nI (q.2.2.2 + adF (S.1 (r + 1)) z 9 q.2.2.2))]) (by rw [show ((tpS (kpS S r m q.1 q.2.1 q.2.2.1 (nI (adF (S.1 (r + 1)) z 9 q.2.2.2))) r (q.2.2.2 + adF (S.1 (r + 1)) z 9 q.2.2.2)).1 r 4) = nI (q.2.2.2 + adF (S.1 (r + 1)) z 9 q.2.2.2) from tp_p]) ?_
      refine q_aload_n (pc := 35) (j := 0) rfl rfl ?_
      refine q_get (pc := 36) (a := r) (v := .int ((tpS (kpS S r m q.1 q.2.1 q.2.2.1 (nI (adF (S.1 (r + 1)) z 9 q.2.2.2))) r (q.2.2.2 + adF (S.1 (r + 1)) z 9 q.2.2.2)).1 r 1)) rfl fl_X7_15 hs.1 rfl rfl ?_
      refine q_st (st2 := [.int (nI z), .int (nI (q.2.2.2 + adF (S.1 (r + 1)) z 9 q.2.2.2))]) (by rw [show ((tpS (kpS S r m q.1 q.2.1 q.2.2.1 (nI (adF (S.1 (r + 1)) z 9 q.2.2.2))) r (q.2.2.2 + adF (S.1 (r + 1)) z 9 q.2.2.2)).1 r 1) = nI z from (tp_z (by decide)).trans ((kpS_f (by decide)).trans hz)]) ?_
      refine q_icmp_lt (pc := 39) 44 rfl (by decide) (fun h39 => ?_) (fun h39 => ?_)
      · refine q_aload_n (pc := 44) (j := 0) rfl rfl ?_
        refine q_bipush (pc := 45) 32 rfl (by decide) ?_
        refine q_callV (pc := 47) (as := [.int 32]) (rest := []) (b := r) (st2 := [.int (pB (nxB ((kpS S r m q.1 q.2.1 q.2.2.1 (nI (adF (S.1 (r + 1)) z 9 q.2.2.2))).1 (r + 1)) z (q.2.2.2 + adF (S.1 (r + 1)) z 9 q.2.2.2) 32))]) rfl ce_X7_isNext ml_X7_40 im_X7_isNext se_X7_isNext hs.1 rfl rfl rfl (by omega) (Nat.le_of_ble_eq_true rfl) (sp_X7_isNext (S := (kpS S r m q.1 q.2.1 q.2.2.1 (nI (adF (S.1 (r + 1)) z 9 q.2.2.2)))) (z := z) (p := (q.2.2.2 + adF (S.1 (r + 1)) z 9 q.2.2.2)) hs ((kpS_f (by decide)).trans hz) hz1 (by omega)) rfl ?_
        cases hb50 : (nxB ((kpS S r m q.1 q.2.1 q.2.2.1 (nI (adF (S.1 (r + 1)) z 9 q.2.2.2))).1 (r + 1)) z (q.2.2.2 + adF (S.1 (r + 1)) z 9 q.2.2.2) 32) with
        | false =>
          refine q_if_ne (pc := 50) 58 rfl (by decide) (fun h9 => absurd (by decide : pB false = 0) h9) (fun _ => ?_)
          rw [(show (kpS S r m q.1 q.2.1 q.2.2.1 (nI (adF (S.1 (r + 1)) z 9 q.2.2.2))).1 (r + 1) = S.1 (r + 1) from kpS_b (by omega) (by omega))] at hb50
          refine q_aload_n (pc := 53) (j := 0) rfl rfl ?_
          refine q_get (pc := 54) (a := r) (v := .int ((tpS (kpS S r m q.1 q.2.1 q.2.2.1 (nI (adF (S.1 (r + 1)) z 9 q.2.2.2))) r (q.2.2.2 + adF (S.1 (r + 1)) z 9 q.2.2.2)).1 r 4)) rfl fl_X7_29 hs.1 rfl rfl ?_
          refine q_st (st2 := [.int (nI (q.2.2.2 + adF (S.1 (r + 1)) z 9 q.2.2.2))]) (by rw [show ((tpS (kpS S r m q.1 q.2.1 q.2.2.1 (nI (adF (S.1 (r + 1)) z 9 q.2.2.2))) r (q.2.2.2 + adF (S.1 (r + 1)) z 9 q.2.2.2)).1 r 4) = nI (q.2.2.2 + adF (S.1 (r + 1)) z 9 q.2.2.2) from tp_p]) ?_
          exact q_iret (pc := 57) rfl rfl (by rw [← hw, muS, hsg] at hP; simp only [] at hP; rw [if_neg (by have := (nI_ltI (a := (q.2.2.2 + adF (S.1 (r + 1)) z 9 q.2.2.2)) (b := z) (by omega) (by omega)).mp h39; omega), if_neg (by rw [hb50]; decide)] at hP; exact hP)
        | true =>
          refine q_if_ne (pc := 50) 58 rfl (by decide) (fun _ => ?_) (fun h9 => absurd h9 (by decide : ¬ pB true = 0))
          rw [(show (kpS S r m q.1 q.2.1 q.2.2.1 (nI (adF (S.1 (r + 1)) z 9 q.2.2.2))).1 (r + 1) = S.1 (r + 1) from kpS_b (by omega) (by omega))] at hb50
          refine q_aload_n (pc := 58) (j := 0) rfl rfl ?_
          refine q_dup (pc := 59) rfl rfl ?_
          refine q_get (pc := 60) (a := r) (v := .int ((tpS (kpS S r m q.1 q.2.1 q.2.2.1 (nI (adF (S.1 (r + 1)) z 9 q.2.2.2))) r (q.2.2.2 + adF (S.1 (r + 1)) z 9 q.2.2.2)).1 r 4)) rfl fl_X7_29 hs.1 rfl rfl ?_
          refine q_st (st2 := [.int (nI (q.2.2.2 + adF (S.1 (r + 1)) z 9 q.2.2.2)), .ref r]) (by rw [show ((tpS (kpS S r m q.1 q.2.1 q.2.2.1 (nI (adF (S.1 (r + 1)) z 9 q.2.2.2))) r (q.2.2.2 + adF (S.1 (r + 1)) z 9 q.2.2.2)).1 r 4) = nI (q.2.2.2 + adF (S.1 (r + 1)) z 9 q.2.2.2) from tp_p]) ?_
          refine q_iconst (pc := 63) 1 rfl (by decide) ?_
          refine q_iadd (pc := 64) rfl ?_
          refine q_st (st2 := [.int (nI ((q.2.2.2 + adF (S.1 (r + 1)) z 9 q.2.2.2) + 1)), .ref r]) (by rw [nI_1 (q.2.2.2 + adF (S.1 (r + 1)) z 9 q.2.2.2)]) ?_
          refine q_putI (pc := 65) (a := r) rfl fl_X7_29 hs.1 rfl (fun _ h9 => by cases h9; rfl) rfl rfl ?_
          refine q_S tp_s ?_
          refine q_iinc (pc := 68) (j := 1) (n := 1) (nI (k + 1)) [some (.ref r), some (.int (nI (k + 1)))] rfl (by decide) rfl (nI_1 k) rfl ?_
          refine q_goto (pc := 71) 12 rfl (by decide) ?_
          exact ih (k + 1) _ _ (m + 1) (by omega) ((kpS_f (by decide)).trans hz) kpS_m (by omega) (by have := nx_in hb50; omega) (by rw [← hw, muS, hsg]; simp only []; rw [if_neg (by have := (nI_ltI (a := (q.2.2.2 + adF (S.1 (r + 1)) z 9 q.2.2.2)) (b := z) (by omega) (by omega)).mp h39; omega), if_pos hb50])
      · refine q_iconst (pc := 42) (-1) rfl (by decide) ?_
        exact q_iret (pc := 43) rfl rfl (by rw [← hw, muS, hsg] at hP; simp only [] at hP; rw [if_pos ((nI_leI (a := z) (b := (q.2.2.2 + adF (S.1 (r + 1)) z 9 q.2.2.2)) (by omega) (by omega)).mp (Int32.not_lt.mp h39))] at hP; exact hP)
theorem mu_0 {S : PSt} {r : Nat} : pSI (pSI S r 4 0) r 3 0 = tpS (pSI S r 3 0) r 0 := by
  unfold tpS pSI pU
  refine Prod.ext (funext fun c => funext fun j => ?_) rfl
  dsimp only; (repeat' split) <;> first | rfl | (exfalso; omega)
set_option maxRecDepth 100000 in
theorem sp_X7_readMusic {sh : List PSh} {S : PSt} {r z : Nat} (hs : isTp sh r) (hz : S.1 r 1 = nI z) (hz1 : z ≤ 160) : pF mX7_readMusic 5 [.ref r] sh S ((muS r z 160 (pSI S r 3 0) 0 0).2) (some (.int (muS r z 160 (pSI S r 3 0) 0 0).1)) := by
  refine pF.of (pG.of [some (.ref r), none] (by decide) tk_X7_readMusic (Nat.le_of_ble_eq_true rfl) rfl (fun X => ?_))
  refine q_aload_n (pc := 0) (j := 0) rfl rfl ?_
  refine q_iconst (pc := 1) 0 rfl (by decide) ?_
  refine q_putI (pc := 2) (a := r) rfl fl_X7_29 hs.1 rfl (fun _ h9 => by cases h9; rfl) rfl rfl ?_
  refine q_aload_n (pc := 5) (j := 0) rfl rfl ?_
  refine q_iconst (pc := 6) 0 rfl (by decide) ?_
  refine q_putI (pc := 7) (a := r) rfl fl_X7_26 hs.1 rfl (fun _ h9 => by cases h9; rfl) rfl rfl ?_
  refine q_iconst (pc := 10) 0 rfl (by decide) ?_
  refine q_istore_n (pc := 11) (j := 1) [some (.ref r), some (.int 0)] rfl (by decide) rfl ?_
  exact q_S mu_0 (lp_X7_readMusic (by decide) hs hz1 ⟨rfl, rfl⟩ 160 0 (pSI S r 3 0) 0 0 rfl (by simp [pSI, pU]; exact hz) (by simp [pSI, pU]; rfl) (Nat.le_refl _) (Nat.zero_le _) rfl)
end
