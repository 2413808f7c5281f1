-- ===== PART A: goes FIRST, ahead of the names: the tables' words, and 'selects' of the private methods out of them =====
/-- a private method of a class that the tables say can be made, by its rows of tables_1 -/
def lw_okq (q : MethodName × Nat) : Prop := (q.1.cls ≠ "java/lang/invoke/MethodHandle" ∧ q.1.cls ≠ "java/lang/invoke/VarHandle") ∧ Cond.instantiable q.1.cls q.2 ∈ tables_1 ∧ Cond.privateMethod q.1 ∈ tables_1 ∧ Cond.instanceMethod q.1 ∈ tables_1
theorem lw_p0 : lw_okq (⟨"EngravedLines", "refuse", "(I)I"⟩, 13) := ⟨⟨by decide +kernel, by decide +kernel⟩, List.mem_of_getElem? (i := 15) (by decide +kernel), List.mem_of_getElem? (i := 257) (by decide +kernel), List.mem_of_getElem? (i := 258) (by decide +kernel)⟩
theorem lw_p1 : lw_okq (⟨"EngravedLines", "isColumn", "(I)Z"⟩, 13) := ⟨⟨by decide +kernel, by decide +kernel⟩, List.mem_of_getElem? (i := 15) (by decide +kernel), List.mem_of_getElem? (i := 281) (by decide +kernel), List.mem_of_getElem? (i := 282) (by decide +kernel)⟩
theorem lw_p2 : lw_okq (⟨"EngravedLines", "isStretch", "(II)Z"⟩, 13) := ⟨⟨by decide +kernel, by decide +kernel⟩, List.mem_of_getElem? (i := 15) (by decide +kernel), List.mem_of_getElem? (i := 352) (by decide +kernel), List.mem_of_getElem? (i := 353) (by decide +kernel)⟩
theorem lw_p3 : lw_okq (⟨"EngravedLines$Stretch", "balance", "()F"⟩, 10) := ⟨⟨by decide +kernel, by decide +kernel⟩, List.mem_of_getElem? (i := 63) (by decide +kernel), List.mem_of_getElem? (i := 373) (by decide +kernel), List.mem_of_getElem? (i := 374) (by decide +kernel)⟩
theorem lw_p4 : lw_okq (⟨"EngravedLines$Stretch", "holdMore", "()Z"⟩, 10) := ⟨⟨by decide +kernel, by decide +kernel⟩, List.mem_of_getElem? (i := 63) (by decide +kernel), List.mem_of_getElem? (i := 383) (by decide +kernel), List.mem_of_getElem? (i := 384) (by decide +kernel)⟩
theorem lw_p5 : lw_okq (⟨"EngravedLines$Stretch", "stretched", "(I)F"⟩, 10) := ⟨⟨by decide +kernel, by decide +kernel⟩, List.mem_of_getElem? (i := 63) (by decide +kernel), List.mem_of_getElem? (i := 387) (by decide +kernel), List.mem_of_getElem? (i := 388) (by decide +kernel)⟩
theorem lw_p6 : lw_okq (⟨"EngravedLines$Stretch", "sum", "([F)F"⟩, 10) := ⟨⟨by decide +kernel, by decide +kernel⟩, List.mem_of_getElem? (i := 63) (by decide +kernel), List.mem_of_getElem? (i := 425) (by decide +kernel), List.mem_of_getElem? (i := 426) (by decide +kernel)⟩
theorem lw_p7 : lw_okq (⟨"EngravedLines", "traceLine", "(LEngravedLines$Skyline;II)V"⟩, 13) := ⟨⟨by decide +kernel, by decide +kernel⟩, List.mem_of_getElem? (i := 15) (by decide +kernel), List.mem_of_getElem? (i := 438) (by decide +kernel), List.mem_of_getElem? (i := 439) (by decide +kernel)⟩
theorem lw_p8 : lw_okq (⟨"EngravedLines$Skyline", "ink", "(IIII)V"⟩, 3) := ⟨⟨by decide +kernel, by decide +kernel⟩, List.mem_of_getElem? (i := 105) (by decide +kernel), List.mem_of_getElem? (i := 454) (by decide +kernel), List.mem_of_getElem? (i := 455) (by decide +kernel)⟩
theorem lw_p9 : lw_okq (⟨"EngravedLines", "distance", "(IIII)I"⟩, 13) := ⟨⟨by decide +kernel, by decide +kernel⟩, List.mem_of_getElem? (i := 15) (by decide +kernel), List.mem_of_getElem? (i := 483) (by decide +kernel), List.mem_of_getElem? (i := 484) (by decide +kernel)⟩
theorem lw_p10 : lw_okq (⟨"EngravedLines", "findBest", "()V"⟩, 13) := ⟨⟨by decide +kernel, by decide +kernel⟩, List.mem_of_getElem? (i := 15) (by decide +kernel), List.mem_of_getElem? (i := 492) (by decide +kernel), List.mem_of_getElem? (i := 493) (by decide +kernel)⟩
theorem lw_p11 : lw_okq (⟨"EngravedLines$Best", "reach", "(ILEngravedLines$Signs;I)V"⟩, 7) := ⟨⟨by decide +kernel, by decide +kernel⟩, List.mem_of_getElem? (i := 121) (by decide +kernel), List.mem_of_getElem? (i := 503) (by decide +kernel), List.mem_of_getElem? (i := 504) (by decide +kernel)⟩
theorem lw_p12 : lw_okq (⟨"EngravedLines$Best", "traceBack", "(I)V"⟩, 7) := ⟨⟨by decide +kernel, by decide +kernel⟩, List.mem_of_getElem? (i := 121) (by decide +kernel), List.mem_of_getElem? (i := 512) (by decide +kernel), List.mem_of_getElem? (i := 513) (by decide +kernel)⟩
theorem lw_p13 : lw_okq (⟨"EngravedLines", "standsOtherwise", "(I)Z"⟩, 13) := ⟨⟨by decide +kernel, by decide +kernel⟩, List.mem_of_getElem? (i := 15) (by decide +kernel), List.mem_of_getElem? (i := 543) (by decide +kernel), List.mem_of_getElem? (i := 544) (by decide +kernel)⟩
theorem lw_p14 : lw_okq (⟨"EngravedLines", "areNotes", "(II)Z"⟩, 13) := ⟨⟨by decide +kernel, by decide +kernel⟩, List.mem_of_getElem? (i := 15) (by decide +kernel), List.mem_of_getElem? (i := 551) (by decide +kernel), List.mem_of_getElem? (i := 552) (by decide +kernel)⟩
theorem lw_p15 : lw_okq (⟨"EngravedLines", "beamRise", "(II)F"⟩, 13) := ⟨⟨by decide +kernel, by decide +kernel⟩, List.mem_of_getElem? (i := 15) (by decide +kernel), List.mem_of_getElem? (i := 555) (by decide +kernel), List.mem_of_getElem? (i := 556) (by decide +kernel)⟩
def lw_privs_1 : List (MethodName × Nat) := [(⟨"EngravedLines", "refuse", "(I)I"⟩, 13), (⟨"EngravedLines", "isColumn", "(I)Z"⟩, 13), (⟨"EngravedLines", "isStretch", "(II)Z"⟩, 13), (⟨"EngravedLines$Stretch", "balance", "()F"⟩, 10), (⟨"EngravedLines$Stretch", "holdMore", "()Z"⟩, 10), (⟨"EngravedLines$Stretch", "stretched", "(I)F"⟩, 10), (⟨"EngravedLines$Stretch", "sum", "([F)F"⟩, 10), (⟨"EngravedLines", "traceLine", "(LEngravedLines$Skyline;II)V"⟩, 13), (⟨"EngravedLines$Skyline", "ink", "(IIII)V"⟩, 3), (⟨"EngravedLines", "distance", "(IIII)I"⟩, 13), (⟨"EngravedLines", "findBest", "()V"⟩, 13), (⟨"EngravedLines$Best", "reach", "(ILEngravedLines$Signs;I)V"⟩, 7), (⟨"EngravedLines$Best", "traceBack", "(I)V"⟩, 7), (⟨"EngravedLines", "standsOtherwise", "(I)Z"⟩, 13), (⟨"EngravedLines", "areNotes", "(II)Z"⟩, 13), (⟨"EngravedLines", "beamRise", "(II)F"⟩, 13)]
theorem lw_r1 : ∀ q ∈ lw_privs_1, lw_okq q := List.forall_mem_cons.mpr ⟨lw_p0, List.forall_mem_cons.mpr ⟨lw_p1, List.forall_mem_cons.mpr ⟨lw_p2, List.forall_mem_cons.mpr ⟨lw_p3, List.forall_mem_cons.mpr ⟨lw_p4, List.forall_mem_cons.mpr ⟨lw_p5, List.forall_mem_cons.mpr ⟨lw_p6, List.forall_mem_cons.mpr ⟨lw_p7, List.forall_mem_cons.mpr ⟨lw_p8, List.forall_mem_cons.mpr ⟨lw_p9, List.forall_mem_cons.mpr ⟨lw_p10, List.forall_mem_cons.mpr ⟨lw_p11, List.forall_mem_cons.mpr ⟨lw_p12, List.forall_mem_cons.mpr ⟨lw_p13, List.forall_mem_cons.mpr ⟨lw_p14, List.forall_mem_cons.mpr ⟨lw_p15, fun _ h => absurd h List.not_mem_nil⟩⟩⟩⟩⟩⟩⟩⟩⟩⟩⟩⟩⟩⟩⟩⟩
theorem lw_p16 : lw_okq (⟨"EngravedLines", "beamSlope", "(II)F"⟩, 13) := ⟨⟨by decide +kernel, by decide +kernel⟩, List.mem_of_getElem? (i := 15) (by decide +kernel), List.mem_of_getElem? (i := 560) (by decide +kernel), List.mem_of_getElem? (i := 561) (by decide +kernel)⟩
theorem lw_p17 : lw_okq (⟨"EngravedLines", "beamGoesUp", "(II)Z"⟩, 13) := ⟨⟨by decide +kernel, by decide +kernel⟩, List.mem_of_getElem? (i := 15) (by decide +kernel), List.mem_of_getElem? (i := 566) (by decide +kernel), List.mem_of_getElem? (i := 567) (by decide +kernel)⟩
theorem lw_p18 : lw_okq (⟨"EngravedLines", "beamLift", "(II)F"⟩, 13) := ⟨⟨by decide +kernel, by decide +kernel⟩, List.mem_of_getElem? (i := 15) (by decide +kernel), List.mem_of_getElem? (i := 570) (by decide +kernel), List.mem_of_getElem? (i := 571) (by decide +kernel)⟩
theorem lw_p19 : lw_okq (⟨"EngravedLines", "slurHeight", "(IIZ)I"⟩, 13) := ⟨⟨by decide +kernel, by decide +kernel⟩, List.mem_of_getElem? (i := 15) (by decide +kernel), List.mem_of_getElem? (i := 579) (by decide +kernel), List.mem_of_getElem? (i := 580) (by decide +kernel)⟩
theorem lw_p20 : lw_okq (⟨"EngravedLines", "inkTowards", "(IZ)I"⟩, 13) := ⟨⟨by decide +kernel, by decide +kernel⟩, List.mem_of_getElem? (i := 15) (by decide +kernel), List.mem_of_getElem? (i := 583) (by decide +kernel), List.mem_of_getElem? (i := 584) (by decide +kernel)⟩
theorem lw_p21 : lw_okq (⟨"EngravedLines$Tape", "readSign", "()Z"⟩, 5) := ⟨⟨by decide +kernel, by decide +kernel⟩, List.mem_of_getElem? (i := 156) (by decide +kernel), List.mem_of_getElem? (i := 608) (by decide +kernel), List.mem_of_getElem? (i := 609) (by decide +kernel)⟩
theorem lw_p22 : lw_okq (⟨"EngravedLines$Tape", "isNext", "(C)Z"⟩, 5) := ⟨⟨by decide +kernel, by decide +kernel⟩, List.mem_of_getElem? (i := 156) (by decide +kernel), List.mem_of_getElem? (i := 612) (by decide +kernel), List.mem_of_getElem? (i := 613) (by decide +kernel)⟩
theorem lw_p23 : lw_okq (⟨"EngravedLines$Tape", "readNumber", "(II)I"⟩, 5) := ⟨⟨by decide +kernel, by decide +kernel⟩, List.mem_of_getElem? (i := 156) (by decide +kernel), List.mem_of_getElem? (i := 617) (by decide +kernel), List.mem_of_getElem? (i := 618) (by decide +kernel)⟩
theorem lw_p24 : lw_okq (⟨"EngravedLines$Tape", "digit", "()I"⟩, 5) := ⟨⟨by decide +kernel, by decide +kernel⟩, List.mem_of_getElem? (i := 156) (by decide +kernel), List.mem_of_getElem? (i := 621) (by decide +kernel), List.mem_of_getElem? (i := 622) (by decide +kernel)⟩
theorem lw_p25 : lw_okq (⟨"EngravedLines$Tape", "readAdorn", "()I"⟩, 5) := ⟨⟨by decide +kernel, by decide +kernel⟩, List.mem_of_getElem? (i := 156) (by decide +kernel), List.mem_of_getElem? (i := 625) (by decide +kernel), List.mem_of_getElem? (i := 626) (by decide +kernel)⟩
theorem lw_p26 : lw_okq (⟨"EngravedLines$Tape", "keep", "(IIII)V"⟩, 5) := ⟨⟨by decide +kernel, by decide +kernel⟩, List.mem_of_getElem? (i := 156) (by decide +kernel), List.mem_of_getElem? (i := 629) (by decide +kernel), List.mem_of_getElem? (i := 630) (by decide +kernel)⟩
theorem lw_p27 : lw_okq (⟨"EngravedLines$Sheets", "change", "(IIJ)V"⟩, 3) := ⟨⟨by decide +kernel, by decide +kernel⟩, List.mem_of_getElem? (i := 183) (by decide +kernel), List.mem_of_getElem? (i := 691) (by decide +kernel), List.mem_of_getElem? (i := 692) (by decide +kernel)⟩
theorem lw_p28 : lw_okq (⟨"EngravedLines", "refuseLong", "(I)J"⟩, 13) := ⟨⟨by decide +kernel, by decide +kernel⟩, List.mem_of_getElem? (i := 15) (by decide +kernel), List.mem_of_getElem? (i := 721) (by decide +kernel), List.mem_of_getElem? (i := 722) (by decide +kernel)⟩
theorem lw_p29 : lw_okq (⟨"EngravedLines", "countNotes", "()I"⟩, 13) := ⟨⟨by decide +kernel, by decide +kernel⟩, List.mem_of_getElem? (i := 15) (by decide +kernel), List.mem_of_getElem? (i := 788) (by decide +kernel), List.mem_of_getElem? (i := 789) (by decide +kernel)⟩
theorem lw_p30 : lw_okq (⟨"EngravedLines", "sumDurations", "()I"⟩, 13) := ⟨⟨by decide +kernel, by decide +kernel⟩, List.mem_of_getElem? (i := 15) (by decide +kernel), List.mem_of_getElem? (i := 792) (by decide +kernel), List.mem_of_getElem? (i := 793) (by decide +kernel)⟩
theorem lw_p31 : lw_okq (⟨"EngravedLinesModel", "errs", "(I)I"⟩, 33) := ⟨⟨by decide +kernel, by decide +kernel⟩, List.mem_of_getElem? (i := 806) (by decide +kernel), List.mem_of_getElem? (i := 930) (by decide +kernel), List.mem_of_getElem? (i := 931) (by decide +kernel)⟩
def lw_privs_2 : List (MethodName × Nat) := [(⟨"EngravedLines", "beamSlope", "(II)F"⟩, 13), (⟨"EngravedLines", "beamGoesUp", "(II)Z"⟩, 13), (⟨"EngravedLines", "beamLift", "(II)F"⟩, 13), (⟨"EngravedLines", "slurHeight", "(IIZ)I"⟩, 13), (⟨"EngravedLines", "inkTowards", "(IZ)I"⟩, 13), (⟨"EngravedLines$Tape", "readSign", "()Z"⟩, 5), (⟨"EngravedLines$Tape", "isNext", "(C)Z"⟩, 5), (⟨"EngravedLines$Tape", "readNumber", "(II)I"⟩, 5), (⟨"EngravedLines$Tape", "digit", "()I"⟩, 5), (⟨"EngravedLines$Tape", "readAdorn", "()I"⟩, 5), (⟨"EngravedLines$Tape", "keep", "(IIII)V"⟩, 5), (⟨"EngravedLines$Sheets", "change", "(IIJ)V"⟩, 3), (⟨"EngravedLines", "refuseLong", "(I)J"⟩, 13), (⟨"EngravedLines", "countNotes", "()I"⟩, 13), (⟨"EngravedLines", "sumDurations", "()I"⟩, 13), (⟨"EngravedLinesModel", "errs", "(I)I"⟩, 33)]
theorem lw_r2 : ∀ q ∈ lw_privs_2, lw_okq q := List.forall_mem_cons.mpr ⟨lw_p16, List.forall_mem_cons.mpr ⟨lw_p17, List.forall_mem_cons.mpr ⟨lw_p18, List.forall_mem_cons.mpr ⟨lw_p19, List.forall_mem_cons.mpr ⟨lw_p20, List.forall_mem_cons.mpr ⟨lw_p21, List.forall_mem_cons.mpr ⟨lw_p22, List.forall_mem_cons.mpr ⟨lw_p23, List.forall_mem_cons.mpr ⟨lw_p24, List.forall_mem_cons.mpr ⟨lw_p25, List.forall_mem_cons.mpr ⟨lw_p26, List.forall_mem_cons.mpr ⟨lw_p27, List.forall_mem_cons.mpr ⟨lw_p28, List.forall_mem_cons.mpr ⟨lw_p29, List.forall_mem_cons.mpr ⟨lw_p30, List.forall_mem_cons.mpr ⟨lw_p31, fun _ h => absurd h List.not_mem_nil⟩⟩⟩⟩⟩⟩⟩⟩⟩⟩⟩⟩⟩⟩⟩⟩
theorem lw_p32 : lw_okq (⟨"EngravedLinesModel", "comes", "(IIIII)I"⟩, 33) := ⟨⟨by decide +kernel, by decide +kernel⟩, List.mem_of_getElem? (i := 806) (by decide +kernel), List.mem_of_getElem? (i := 936) (by decide +kernel), List.mem_of_getElem? (i := 937) (by decide +kernel)⟩
theorem lw_p33 : lw_okq (⟨"EngravedLinesModel", "sets", "(III)V"⟩, 33) := ⟨⟨by decide +kernel, by decide +kernel⟩, List.mem_of_getElem? (i := 806) (by decide +kernel), List.mem_of_getElem? (i := 940) (by decide +kernel), List.mem_of_getElem? (i := 941) (by decide +kernel)⟩
theorem lw_p34 : lw_okq (⟨"EngravedLinesModel", "isColumn", "(I)Z"⟩, 33) := ⟨⟨by decide +kernel, by decide +kernel⟩, List.mem_of_getElem? (i := 806) (by decide +kernel), List.mem_of_getElem? (i := 953) (by decide +kernel), List.mem_of_getElem? (i := 954) (by decide +kernel)⟩
theorem lw_p35 : lw_okq (⟨"EngravedLinesModel", "its", "(II)I"⟩, 33) := ⟨⟨by decide +kernel, by decide +kernel⟩, List.mem_of_getElem? (i := 806) (by decide +kernel), List.mem_of_getElem? (i := 957) (by decide +kernel), List.mem_of_getElem? (i := 958) (by decide +kernel)⟩
theorem lw_p36 : lw_okq (⟨"EngravedLinesModel", "top", "(I)I"⟩, 33) := ⟨⟨by decide +kernel, by decide +kernel⟩, List.mem_of_getElem? (i := 806) (by decide +kernel), List.mem_of_getElem? (i := 966) (by decide +kernel), List.mem_of_getElem? (i := 967) (by decide +kernel)⟩
theorem lw_p37 : lw_okq (⟨"EngravedLinesModel", "bottom", "(I)I"⟩, 33) := ⟨⟨by decide +kernel, by decide +kernel⟩, List.mem_of_getElem? (i := 806) (by decide +kernel), List.mem_of_getElem? (i := 973) (by decide +kernel), List.mem_of_getElem? (i := 974) (by decide +kernel)⟩
theorem lw_p38 : lw_okq (⟨"EngravedLinesModel", "ideal", "(I)F"⟩, 33) := ⟨⟨by decide +kernel, by decide +kernel⟩, List.mem_of_getElem? (i := 806) (by decide +kernel), List.mem_of_getElem? (i := 981) (by decide +kernel), List.mem_of_getElem? (i := 982) (by decide +kernel)⟩
theorem lw_p39 : lw_okq (⟨"EngravedLinesModel", "flex", "(I)F"⟩, 33) := ⟨⟨by decide +kernel, by decide +kernel⟩, List.mem_of_getElem? (i := 806) (by decide +kernel), List.mem_of_getElem? (i := 987) (by decide +kernel), List.mem_of_getElem? (i := 988) (by decide +kernel)⟩
theorem lw_p40 : lw_okq (⟨"EngravedLinesModel", "rod", "(I)F"⟩, 33) := ⟨⟨by decide +kernel, by decide +kernel⟩, List.mem_of_getElem? (i := 806) (by decide +kernel), List.mem_of_getElem? (i := 992) (by decide +kernel), List.mem_of_getElem? (i := 993) (by decide +kernel)⟩
theorem lw_p41 : lw_okq (⟨"EngravedLinesModel", "isStretch", "(II)Z"⟩, 33) := ⟨⟨by decide +kernel, by decide +kernel⟩, List.mem_of_getElem? (i := 806) (by decide +kernel), List.mem_of_getElem? (i := 1015) (by decide +kernel), List.mem_of_getElem? (i := 1016) (by decide +kernel)⟩
theorem lw_p42 : lw_okq (⟨"EngravedLinesModel", "laysOut", "(II)V"⟩, 33) := ⟨⟨by decide +kernel, by decide +kernel⟩, List.mem_of_getElem? (i := 806) (by decide +kernel), List.mem_of_getElem? (i := 1019) (by decide +kernel), List.mem_of_getElem? (i := 1020) (by decide +kernel)⟩
theorem lw_p43 : lw_okq (⟨"EngravedLinesModel", "forceOf", "(II)V"⟩, 33) := ⟨⟨by decide +kernel, by decide +kernel⟩, List.mem_of_getElem? (i := 806) (by decide +kernel), List.mem_of_getElem? (i := 1023) (by decide +kernel), List.mem_of_getElem? (i := 1024) (by decide +kernel)⟩
theorem lw_p44 : lw_okq (⟨"EngravedLinesModel", "wanted", "(I)F"⟩, 33) := ⟨⟨by decide +kernel, by decide +kernel⟩, List.mem_of_getElem? (i := 806) (by decide +kernel), List.mem_of_getElem? (i := 1027) (by decide +kernel), List.mem_of_getElem? (i := 1028) (by decide +kernel)⟩
theorem lw_p45 : lw_okq (⟨"EngravedLinesModel", "isGood", "(II)Z"⟩, 33) := ⟨⟨by decide +kernel, by decide +kernel⟩, List.mem_of_getElem? (i := 806) (by decide +kernel), List.mem_of_getElem? (i := 1043) (by decide +kernel), List.mem_of_getElem? (i := 1044) (by decide +kernel)⟩
theorem lw_p46 : lw_okq (⟨"EngravedLinesModel", "inks", "(II)V"⟩, 33) := ⟨⟨by decide +kernel, by decide +kernel⟩, List.mem_of_getElem? (i := 806) (by decide +kernel), List.mem_of_getElem? (i := 1053) (by decide +kernel), List.mem_of_getElem? (i := 1054) (by decide +kernel)⟩
theorem lw_p47 : lw_okq (⟨"EngravedLinesModel", "apartOf", "(IIII)I"⟩, 33) := ⟨⟨by decide +kernel, by decide +kernel⟩, List.mem_of_getElem? (i := 806) (by decide +kernel), List.mem_of_getElem? (i := 1061) (by decide +kernel), List.mem_of_getElem? (i := 1062) (by decide +kernel)⟩
def lw_privs_3 : List (MethodName × Nat) := [(⟨"EngravedLinesModel", "comes", "(IIIII)I"⟩, 33), (⟨"EngravedLinesModel", "sets", "(III)V"⟩, 33), (⟨"EngravedLinesModel", "isColumn", "(I)Z"⟩, 33), (⟨"EngravedLinesModel", "its", "(II)I"⟩, 33), (⟨"EngravedLinesModel", "top", "(I)I"⟩, 33), (⟨"EngravedLinesModel", "bottom", "(I)I"⟩, 33), (⟨"EngravedLinesModel", "ideal", "(I)F"⟩, 33), (⟨"EngravedLinesModel", "flex", "(I)F"⟩, 33), (⟨"EngravedLinesModel", "rod", "(I)F"⟩, 33), (⟨"EngravedLinesModel", "isStretch", "(II)Z"⟩, 33), (⟨"EngravedLinesModel", "laysOut", "(II)V"⟩, 33), (⟨"EngravedLinesModel", "forceOf", "(II)V"⟩, 33), (⟨"EngravedLinesModel", "wanted", "(I)F"⟩, 33), (⟨"EngravedLinesModel", "isGood", "(II)Z"⟩, 33), (⟨"EngravedLinesModel", "inks", "(II)V"⟩, 33), (⟨"EngravedLinesModel", "apartOf", "(IIII)I"⟩, 33)]
theorem lw_r3 : ∀ q ∈ lw_privs_3, lw_okq q := List.forall_mem_cons.mpr ⟨lw_p32, List.forall_mem_cons.mpr ⟨lw_p33, List.forall_mem_cons.mpr ⟨lw_p34, List.forall_mem_cons.mpr ⟨lw_p35, List.forall_mem_cons.mpr ⟨lw_p36, List.forall_mem_cons.mpr ⟨lw_p37, List.forall_mem_cons.mpr ⟨lw_p38, List.forall_mem_cons.mpr ⟨lw_p39, List.forall_mem_cons.mpr ⟨lw_p40, List.forall_mem_cons.mpr ⟨lw_p41, List.forall_mem_cons.mpr ⟨lw_p42, List.forall_mem_cons.mpr ⟨lw_p43, List.forall_mem_cons.mpr ⟨lw_p44, List.forall_mem_cons.mpr ⟨lw_p45, List.forall_mem_cons.mpr ⟨lw_p46, List.forall_mem_cons.mpr ⟨lw_p47, fun _ h => absurd h List.not_mem_nil⟩⟩⟩⟩⟩⟩⟩⟩⟩⟩⟩⟩⟩⟩⟩⟩
theorem lw_p48 : lw_okq (⟨"EngravedLinesModel", "breaks", "()Z"⟩, 33) := ⟨⟨by decide +kernel, by decide +kernel⟩, List.mem_of_getElem? (i := 806) (by decide +kernel), List.mem_of_getElem? (i := 1069) (by decide +kernel), List.mem_of_getElem? (i := 1070) (by decide +kernel)⟩
theorem lw_p49 : lw_okq (⟨"EngravedLinesModel", "bestTo", "(I)V"⟩, 33) := ⟨⟨by decide +kernel, by decide +kernel⟩, List.mem_of_getElem? (i := 806) (by decide +kernel), List.mem_of_getElem? (i := 1073) (by decide +kernel), List.mem_of_getElem? (i := 1074) (by decide +kernel)⟩
theorem lw_p50 : lw_okq (⟨"EngravedLinesModel", "isEnd", "(I)Z"⟩, 33) := ⟨⟨by decide +kernel, by decide +kernel⟩, List.mem_of_getElem? (i := 806) (by decide +kernel), List.mem_of_getElem? (i := 1077) (by decide +kernel), List.mem_of_getElem? (i := 1078) (by decide +kernel)⟩
theorem lw_p51 : lw_okq (⟨"EngravedLinesModel", "keepsLines", "()V"⟩, 33) := ⟨⟨by decide +kernel, by decide +kernel⟩, List.mem_of_getElem? (i := 806) (by decide +kernel), List.mem_of_getElem? (i := 1094) (by decide +kernel), List.mem_of_getElem? (i := 1095) (by decide +kernel)⟩
theorem lw_p52 : lw_okq (⟨"EngravedLinesModel", "isAsWas", "(I)Z"⟩, 33) := ⟨⟨by decide +kernel, by decide +kernel⟩, List.mem_of_getElem? (i := 806) (by decide +kernel), List.mem_of_getElem? (i := 1098) (by decide +kernel), List.mem_of_getElem? (i := 1099) (by decide +kernel)⟩
theorem lw_p53 : lw_okq (⟨"EngravedLinesModel", "areNotes", "(II)Z"⟩, 33) := ⟨⟨by decide +kernel, by decide +kernel⟩, List.mem_of_getElem? (i := 806) (by decide +kernel), List.mem_of_getElem? (i := 1107) (by decide +kernel), List.mem_of_getElem? (i := 1108) (by decide +kernel)⟩
theorem lw_p54 : lw_okq (⟨"EngravedLinesModel", "isUp", "(II)Z"⟩, 33) := ⟨⟨by decide +kernel, by decide +kernel⟩, List.mem_of_getElem? (i := 806) (by decide +kernel), List.mem_of_getElem? (i := 1112) (by decide +kernel), List.mem_of_getElem? (i := 1113) (by decide +kernel)⟩
theorem lw_p55 : lw_okq (⟨"EngravedLinesModel", "rise", "(II)F"⟩, 33) := ⟨⟨by decide +kernel, by decide +kernel⟩, List.mem_of_getElem? (i := 806) (by decide +kernel), List.mem_of_getElem? (i := 1116) (by decide +kernel), List.mem_of_getElem? (i := 1117) (by decide +kernel)⟩
theorem lw_p56 : lw_okq (⟨"EngravedLinesModel", "slope", "(II)F"⟩, 33) := ⟨⟨by decide +kernel, by decide +kernel⟩, List.mem_of_getElem? (i := 806) (by decide +kernel), List.mem_of_getElem? (i := 1120) (by decide +kernel), List.mem_of_getElem? (i := 1121) (by decide +kernel)⟩
theorem lw_p57 : lw_okq (⟨"EngravedLinesModel", "lift", "(II)F"⟩, 33) := ⟨⟨by decide +kernel, by decide +kernel⟩, List.mem_of_getElem? (i := 806) (by decide +kernel), List.mem_of_getElem? (i := 1130) (by decide +kernel), List.mem_of_getElem? (i := 1131) (by decide +kernel)⟩
theorem lw_p58 : lw_okq (⟨"EngravedLinesModel", "height", "(III)I"⟩, 33) := ⟨⟨by decide +kernel, by decide +kernel⟩, List.mem_of_getElem? (i := 806) (by decide +kernel), List.mem_of_getElem? (i := 1139) (by decide +kernel), List.mem_of_getElem? (i := 1140) (by decide +kernel)⟩
theorem lw_p59 : lw_okq (⟨"EngravedLinesModel", "ink", "(II)I"⟩, 33) := ⟨⟨by decide +kernel, by decide +kernel⟩, List.mem_of_getElem? (i := 806) (by decide +kernel), List.mem_of_getElem? (i := 1143) (by decide +kernel), List.mem_of_getElem? (i := 1144) (by decide +kernel)⟩
theorem lw_p60 : lw_okq (⟨"EngravedLinesModel", "sign", "()V"⟩, 33) := ⟨⟨by decide +kernel, by decide +kernel⟩, List.mem_of_getElem? (i := 806) (by decide +kernel), List.mem_of_getElem? (i := 1156) (by decide +kernel), List.mem_of_getElem? (i := 1157) (by decide +kernel)⟩
theorem lw_p61 : lw_okq (⟨"EngravedLinesModel", "takes", "(I)Z"⟩, 33) := ⟨⟨by decide +kernel, by decide +kernel⟩, List.mem_of_getElem? (i := 806) (by decide +kernel), List.mem_of_getElem? (i := 1160) (by decide +kernel), List.mem_of_getElem? (i := 1161) (by decide +kernel)⟩
theorem lw_p62 : lw_okq (⟨"EngravedLinesModel", "number", "(II)I"⟩, 33) := ⟨⟨by decide +kernel, by decide +kernel⟩, List.mem_of_getElem? (i := 806) (by decide +kernel), List.mem_of_getElem? (i := 1164) (by decide +kernel), List.mem_of_getElem? (i := 1165) (by decide +kernel)⟩
theorem lw_p63 : lw_okq (⟨"EngravedLinesModel", "isDigit", "()Z"⟩, 33) := ⟨⟨by decide +kernel, by decide +kernel⟩, List.mem_of_getElem? (i := 806) (by decide +kernel), List.mem_of_getElem? (i := 1168) (by decide +kernel), List.mem_of_getElem? (i := 1169) (by decide +kernel)⟩
def lw_privs_4 : List (MethodName × Nat) := [(⟨"EngravedLinesModel", "breaks", "()Z"⟩, 33), (⟨"EngravedLinesModel", "bestTo", "(I)V"⟩, 33), (⟨"EngravedLinesModel", "isEnd", "(I)Z"⟩, 33), (⟨"EngravedLinesModel", "keepsLines", "()V"⟩, 33), (⟨"EngravedLinesModel", "isAsWas", "(I)Z"⟩, 33), (⟨"EngravedLinesModel", "areNotes", "(II)Z"⟩, 33), (⟨"EngravedLinesModel", "isUp", "(II)Z"⟩, 33), (⟨"EngravedLinesModel", "rise", "(II)F"⟩, 33), (⟨"EngravedLinesModel", "slope", "(II)F"⟩, 33), (⟨"EngravedLinesModel", "lift", "(II)F"⟩, 33), (⟨"EngravedLinesModel", "height", "(III)I"⟩, 33), (⟨"EngravedLinesModel", "ink", "(II)I"⟩, 33), (⟨"EngravedLinesModel", "sign", "()V"⟩, 33), (⟨"EngravedLinesModel", "takes", "(I)Z"⟩, 33), (⟨"EngravedLinesModel", "number", "(II)I"⟩, 33), (⟨"EngravedLinesModel", "isDigit", "()Z"⟩, 33)]
theorem lw_r4 : ∀ q ∈ lw_privs_4, lw_okq q := List.forall_mem_cons.mpr ⟨lw_p48, List.forall_mem_cons.mpr ⟨lw_p49, List.forall_mem_cons.mpr ⟨lw_p50, List.forall_mem_cons.mpr ⟨lw_p51, List.forall_mem_cons.mpr ⟨lw_p52, List.forall_mem_cons.mpr ⟨lw_p53, List.forall_mem_cons.mpr ⟨lw_p54, List.forall_mem_cons.mpr ⟨lw_p55, List.forall_mem_cons.mpr ⟨lw_p56, List.forall_mem_cons.mpr ⟨lw_p57, List.forall_mem_cons.mpr ⟨lw_p58, List.forall_mem_cons.mpr ⟨lw_p59, List.forall_mem_cons.mpr ⟨lw_p60, List.forall_mem_cons.mpr ⟨lw_p61, List.forall_mem_cons.mpr ⟨lw_p62, List.forall_mem_cons.mpr ⟨lw_p63, fun _ h => absurd h List.not_mem_nil⟩⟩⟩⟩⟩⟩⟩⟩⟩⟩⟩⟩⟩⟩⟩⟩
theorem lw_p64 : lw_okq (⟨"EngravedLinesModel", "isPlace", "(II)Z"⟩, 33) := ⟨⟨by decide +kernel, by decide +kernel⟩, List.mem_of_getElem? (i := 806) (by decide +kernel), List.mem_of_getElem? (i := 1192) (by decide +kernel), List.mem_of_getElem? (i := 1193) (by decide +kernel)⟩
theorem lw_p65 : lw_okq (⟨"EngravedLinesModel", "isItem", "(II)Z"⟩, 33) := ⟨⟨by decide +kernel, by decide +kernel⟩, List.mem_of_getElem? (i := 806) (by decide +kernel), List.mem_of_getElem? (i := 1216) (by decide +kernel), List.mem_of_getElem? (i := 1217) (by decide +kernel)⟩
theorem lw_p66 : lw_okq (⟨"EngravedLinesModel", "errsLong", "(I)J"⟩, 33) := ⟨⟨by decide +kernel, by decide +kernel⟩, List.mem_of_getElem? (i := 806) (by decide +kernel), List.mem_of_getElem? (i := 1227) (by decide +kernel), List.mem_of_getElem? (i := 1228) (by decide +kernel)⟩
theorem lw_p67 : lw_okq (⟨"EngravedLinesModel", "isNought", "(II)Z"⟩, 33) := ⟨⟨by decide +kernel, by decide +kernel⟩, List.mem_of_getElem? (i := 806) (by decide +kernel), List.mem_of_getElem? (i := 1250) (by decide +kernel), List.mem_of_getElem? (i := 1251) (by decide +kernel)⟩
theorem lw_p68 : lw_okq (⟨"EngravedLinesModel", "notes", "()I"⟩, 33) := ⟨⟨by decide +kernel, by decide +kernel⟩, List.mem_of_getElem? (i := 806) (by decide +kernel), List.mem_of_getElem? (i := 1274) (by decide +kernel), List.mem_of_getElem? (i := 1275) (by decide +kernel)⟩
theorem lw_p69 : lw_okq (⟨"EngravedLinesModel", "durations", "()I"⟩, 33) := ⟨⟨by decide +kernel, by decide +kernel⟩, List.mem_of_getElem? (i := 806) (by decide +kernel), List.mem_of_getElem? (i := 1278) (by decide +kernel), List.mem_of_getElem? (i := 1279) (by decide +kernel)⟩
theorem lw_p70 : lw_okq (⟨"EngravedLinesModel", "shelved", "()I"⟩, 33) := ⟨⟨by decide +kernel, by decide +kernel⟩, List.mem_of_getElem? (i := 806) (by decide +kernel), List.mem_of_getElem? (i := 1282) (by decide +kernel), List.mem_of_getElem? (i := 1283) (by decide +kernel)⟩
def lw_privs_5 : List (MethodName × Nat) := [(⟨"EngravedLinesModel", "isPlace", "(II)Z"⟩, 33), (⟨"EngravedLinesModel", "isItem", "(II)Z"⟩, 33), (⟨"EngravedLinesModel", "errsLong", "(I)J"⟩, 33), (⟨"EngravedLinesModel", "isNought", "(II)Z"⟩, 33), (⟨"EngravedLinesModel", "notes", "()I"⟩, 33), (⟨"EngravedLinesModel", "durations", "()I"⟩, 33), (⟨"EngravedLinesModel", "shelved", "()I"⟩, 33)]
theorem lw_r5 : ∀ q ∈ lw_privs_5, lw_okq q := List.forall_mem_cons.mpr ⟨lw_p64, List.forall_mem_cons.mpr ⟨lw_p65, List.forall_mem_cons.mpr ⟨lw_p66, List.forall_mem_cons.mpr ⟨lw_p67, List.forall_mem_cons.mpr ⟨lw_p68, List.forall_mem_cons.mpr ⟨lw_p69, List.forall_mem_cons.mpr ⟨lw_p70, fun _ h => absurd h List.not_mem_nil⟩⟩⟩⟩⟩⟩⟩
def lw_privs : List (MethodName × Nat) := lw_privs_1 ++ (lw_privs_2 ++ (lw_privs_3 ++ (lw_privs_4 ++ (lw_privs_5))))
def lw_tbl : List Cond := k2_sels lw_privs ++ tables_1
theorem lw_privs_ok : ∀ q ∈ lw_privs, lw_okq q := by
  show ∀ q ∈ lw_privs_1 ++ (lw_privs_2 ++ (lw_privs_3 ++ (lw_privs_4 ++ (lw_privs_5)))), lw_okq q
  exact List.forall_mem_append.mpr ⟨lw_r1, List.forall_mem_append.mpr ⟨lw_r2, List.forall_mem_append.mpr ⟨lw_r3, List.forall_mem_append.mpr ⟨lw_r4, lw_r5⟩⟩⟩⟩
/-- the streams that the claim lets the run draw from -/
abbrev lw_cs : List Choice := [Jvm.Choice.named "NaN.bits"]
theorem lw_bits : nanBits ∈ lw_cs := by first | decide | exact List.mem_cons_self | simp [lw_cs, nanBits]
def RX0 : String := "EngravedLines$Best"
def TX0 : u_T := fun k => match k with
  | 0 => ("EngravedLines$Best", "before", "[I", true)
  | 1 => ("EngravedLines$Best", "totals", "[F", true)
  | 2 => ("EngravedLines$Best", "starts", "[I", true)
  | 3 => ("EngravedLines$Best", "trial", "LEngravedLines$Stretch;", true)
  | 4 => ("EngravedLines$Best", "lineCount", "I", false)
  | 5 => ("EngravedLines$Best", "isFound", "Z", false)
  | _ => ("EngravedLines$Best", "sum", "F", false)
def tyX0 : Nat → FieldType := fun k => match k with
  | 0 => .array .int
  | 1 => .array .float
  | 2 => .array .int
  | 3 => .object "EngravedLines$Stretch"
  | 4 => .int
  | 5 => .boolean
  | _ => .float
abbrev wsX00 : List Cond := u_ws RX0 TX0 7
theorem nmX0 : ∀ a, a < 7 → ∀ b, b < 7 → a ≠ b → (TX0 a).2.1 ≠ (TX0 b).2.1 := by decide +kernel
theorem tyX0_ok : ∀ k, k < 7 → parseFieldDescriptor (TX0 k).2.2.1 = some (tyX0 k) := by decide +kernel
abbrev cX0_init : ByteArray := prog_2_method_1_code
def yX0_init : MethodName := ⟨RX0, "<init>", "()V"⟩
abbrev cX0_find : ByteArray := prog_2_method_2_code
def yX0_find : MethodName := ⟨RX0, "find", "(LEngravedLines$Signs;II)V"⟩
abbrev cX0_first : ByteArray := prog_2_method_3_code
def yX0_first : MethodName := ⟨RX0, "first", "(I)I"⟩
abbrev cX0_last : ByteArray := prog_2_method_4_code
def yX0_last : MethodName := ⟨RX0, "last", "(I)I"⟩
abbrev cX0_reach : ByteArray := prog_2_method_5_code
def yX0_reach : MethodName := ⟨RX0, "reach", "(ILEngravedLines$Signs;I)V"⟩
abbrev cX0_traceBack : ByteArray := prog_2_method_6_code
def yX0_traceBack : MethodName := ⟨RX0, "traceBack", "(I)V"⟩
def RX1 : String := "EngravedLines$Page"
def TX1 : u_T := fun k => match k with
  | 0 => ("EngravedLines$Page", "columns", "LEngravedLines$Signs;", true)
  | 1 => ("EngravedLines$Page", "columnCount", "I", false)
  | 2 => ("EngravedLines$Page", "lineWidth", "I", false)
  | 3 => ("EngravedLines$Page", "onShelves", "LEngravedLines$Signs;", true)
  | 4 => ("EngravedLines$Page", "shelfKinds", "[I", true)
  | _ => ("EngravedLines$Page", "shelfSizes", "[I", true)
def tyX1 : Nat → FieldType := fun k => match k with
  | 0 => .object "EngravedLines$Signs"
  | 1 => .int
  | 2 => .int
  | 3 => .object "EngravedLines$Signs"
  | 4 => .array .int
  | _ => .array .int
abbrev wsX10 : List Cond := u_ws RX1 TX1 6
theorem nmX1 : ∀ a, a < 6 → ∀ b, b < 6 → a ≠ b → (TX1 a).2.1 ≠ (TX1 b).2.1 := by decide +kernel
theorem tyX1_ok : ∀ k, k < 6 → parseFieldDescriptor (TX1 k).2.2.1 = some (tyX1 k) := by decide +kernel
abbrev cX1_init : ByteArray := prog_3_method_1_code
def yX1_init : MethodName := ⟨RX1, "<init>", "()V"⟩
abbrev cX1_place : ByteArray := prog_3_method_2_code
def yX1_place : MethodName := ⟨RX1, "place", "(II)I"⟩
abbrev cX1_shelfKind : ByteArray := prog_3_method_3_code
def yX1_shelfKind : MethodName := ⟨RX1, "shelfKind", "(I)I"⟩
abbrev cX1_hasPlace : ByteArray := prog_3_method_4_code
def yX1_hasPlace : MethodName := ⟨RX1, "hasPlace", "(II)Z"⟩
abbrev cX1_clearShelf : ByteArray := prog_3_method_5_code
def yX1_clearShelf : MethodName := ⟨RX1, "clearShelf", "(III)V"⟩
abbrev cX1_countOnShelves : ByteArray := prog_3_method_6_code
def yX1_countOnShelves : MethodName := ⟨RX1, "countOnShelves", "()I"⟩
abbrev cX1_become : ByteArray := prog_3_method_7_code
def yX1_become : MethodName := ⟨RX1, "become", "(LEngravedLines$Page;)V"⟩
def RX2 : String := "EngravedLines$Point"
def TX2 : u_T := fun k => match k with
  | _ => ("", "", "", false)
def tyX2 : Nat → FieldType := fun k => match k with
  | _ => .int
abbrev wsX20 : List Cond := u_ws RX2 TX2 0
theorem nmX2 : ∀ a, a < 0 → ∀ b, b < 0 → a ≠ b → (TX2 a).2.1 ≠ (TX2 b).2.1 := by decide +kernel
theorem tyX2_ok : ∀ k, k < 0 → parseFieldDescriptor (TX2 k).2.2.1 = some (tyX2 k) := by decide +kernel
abbrev cX2_encode : ByteArray := prog_4_method_2_code
def yX2_encode : MethodName := ⟨RX2, "encode", "(ID)J"⟩
abbrev cX2_size : ByteArray := prog_4_method_3_code
def yX2_size : MethodName := ⟨RX2, "size", "(IJ)D"⟩
abbrev cX2_withSign : ByteArray := prog_4_method_4_code
def yX2_withSign : MethodName := ⟨RX2, "withSign", "(IJZ)J"⟩
abbrev cX2_remainder : ByteArray := prog_4_method_5_code
def yX2_remainder : MethodName := ⟨RX2, "remainder", "(DD)D"⟩
abbrev cX2_fractionBits : ByteArray := prog_4_method_6_code
def yX2_fractionBits : MethodName := ⟨RX2, "fractionBits", "(I)I"⟩
abbrev cX2_bias : ByteArray := prog_4_method_7_code
def yX2_bias : MethodName := ⟨RX2, "bias", "(I)I"⟩
abbrev cX2_signBit : ByteArray := prog_4_method_8_code
def yX2_signBit : MethodName := ⟨RX2, "signBit", "(I)J"⟩
def RX3 : String := "EngravedLines$Sheets"
def TX3 : u_T := fun k => match k with
  | 0 => ("EngravedLines$Sheets", "sorts", "[I", true)
  | 1 => ("EngravedLines$Sheets", "sizes", "[I", true)
  | _ => ("EngravedLines$Sheets", "numbers", "[J", true)
def tyX3 : Nat → FieldType := fun k => match k with
  | 0 => .array .int
  | 1 => .array .int
  | _ => .array .long
abbrev wsX30 : List Cond := u_ws RX3 TX3 3
theorem nmX3 : ∀ a, a < 3 → ∀ b, b < 3 → a ≠ b → (TX3 a).2.1 ≠ (TX3 b).2.1 := by decide +kernel
theorem tyX3_ok : ∀ k, k < 3 → parseFieldDescriptor (TX3 k).2.2.1 = some (tyX3 k) := by decide +kernel
abbrev cX3_init : ByteArray := prog_5_method_1_code
def yX3_init : MethodName := ⟨RX3, "<init>", "()V"⟩
abbrev cX3_sort : ByteArray := prog_5_method_2_code
def yX3_sort : MethodName := ⟨RX3, "sort", "(I)I"⟩
abbrev cX3_hasNumber : ByteArray := prog_5_method_3_code
def yX3_hasNumber : MethodName := ⟨RX3, "hasNumber", "(II)Z"⟩
abbrev cX3_clear : ByteArray := prog_5_method_4_code
def yX3_clear : MethodName := ⟨RX3, "clear", "(III)V"⟩
abbrev cX3_number : ByteArray := prog_5_method_5_code
def yX3_number : MethodName := ⟨RX3, "number", "(II)J"⟩
abbrev cX3_scale : ByteArray := prog_5_method_6_code
def yX3_scale : MethodName := ⟨RX3, "scale", "(IIJI)V"⟩
abbrev cX3_layFloat : ByteArray := prog_5_method_7_code
def yX3_layFloat : MethodName := ⟨RX3, "layFloat", "(IIF)V"⟩
abbrev cX3_asInt : ByteArray := prog_5_method_8_code
def yX3_asInt : MethodName := ⟨RX3, "asInt", "(II)I"⟩
abbrev cX3_isNought : ByteArray := prog_5_method_9_code
def yX3_isNought : MethodName := ⟨RX3, "isNought", "(II)Z"⟩
abbrev cX3_reduce : ByteArray := prog_5_method_10_code
def yX3_reduce : MethodName := ⟨RX3, "reduce", "(III)V"⟩
abbrev cX3_change : ByteArray := prog_5_method_11_code
def yX3_change : MethodName := ⟨RX3, "change", "(IIJ)V"⟩
def RX4 : String := "EngravedLines$Signs"
def TX4 : u_T := fun k => match k with
  | _ => ("EngravedLines$Signs", "parts", "[I", true)
def tyX4 : Nat → FieldType := fun k => match k with
  | _ => .array .int
abbrev wsX40 : List Cond := u_ws RX4 TX4 1
theorem nmX4 : ∀ a, a < 1 → ∀ b, b < 1 → a ≠ b → (TX4 a).2.1 ≠ (TX4 b).2.1 := by decide +kernel
theorem tyX4_ok : ∀ k, k < 1 → parseFieldDescriptor (TX4 k).2.2.1 = some (tyX4 k) := by decide +kernel
abbrev cX4_init : ByteArray := prog_6_method_1_code
def yX4_init : MethodName := ⟨RX4, "<init>", "()V"⟩
abbrev cX4_part : ByteArray := prog_6_method_2_code
def yX4_part : MethodName := ⟨RX4, "part", "(II)I"⟩
abbrev cX4_change : ByteArray := prog_6_method_3_code
def yX4_change : MethodName := ⟨RX4, "change", "(III)V"⟩
abbrev cX4_lay : ByteArray := prog_6_method_4_code
def yX4_lay : MethodName := ⟨RX4, "lay", "(IIIIII)V"⟩
abbrev cX4_clear : ByteArray := prog_6_method_5_code
def yX4_clear : MethodName := ⟨RX4, "clear", "(I)V"⟩
abbrev cX4_isMissing : ByteArray := prog_6_method_6_code
def yX4_isMissing : MethodName := ⟨RX4, "isMissing", "(I)Z"⟩
abbrev cX4_copySign : ByteArray := prog_6_method_7_code
def yX4_copySign : MethodName := ⟨RX4, "copySign", "(ILEngravedLines$Signs;I)V"⟩
abbrev cX4_become : ByteArray := prog_6_method_8_code
def yX4_become : MethodName := ⟨RX4, "become", "(LEngravedLines$Signs;)V"⟩
abbrev cX4_top : ByteArray := prog_6_method_9_code
def yX4_top : MethodName := ⟨RX4, "top", "(I)I"⟩
abbrev cX4_bottom : ByteArray := prog_6_method_10_code
def yX4_bottom : MethodName := ⟨RX4, "bottom", "(I)I"⟩
abbrev cX4_ideal : ByteArray := prog_6_method_11_code
def yX4_ideal : MethodName := ⟨RX4, "ideal", "(I)F"⟩
abbrev cX4_flex : ByteArray := prog_6_method_12_code
def yX4_flex : MethodName := ⟨RX4, "flex", "(IF)F"⟩
abbrev cX4_rod : ByteArray := prog_6_method_13_code
def yX4_rod : MethodName := ⟨RX4, "rod", "(I)F"⟩
def RX5 : String := "EngravedLines$Skyline"
def TX5 : u_T := fun k => match k with
  | 0 => ("EngravedLines$Skyline", "inked", "[Z", true)
  | 1 => ("EngravedLines$Skyline", "uppers", "[I", true)
  | _ => ("EngravedLines$Skyline", "lowers", "[I", true)
def tyX5 : Nat → FieldType := fun k => match k with
  | 0 => .array .boolean
  | 1 => .array .int
  | _ => .array .int
abbrev wsX50 : List Cond := u_ws RX5 TX5 3
theorem nmX5 : ∀ a, a < 3 → ∀ b, b < 3 → a ≠ b → (TX5 a).2.1 ≠ (TX5 b).2.1 := by decide +kernel
theorem tyX5_ok : ∀ k, k < 3 → parseFieldDescriptor (TX5 k).2.2.1 = some (tyX5 k) := by decide +kernel
abbrev cX5_init : ByteArray := prog_7_method_1_code
def yX5_init : MethodName := ⟨RX5, "<init>", "()V"⟩
abbrev cX5_trace : ByteArray := prog_7_method_2_code
def yX5_trace : MethodName := ⟨RX5, "trace", "(LEngravedLines$Signs;LEngravedLines$Stretch;)V"⟩
abbrev cX5_hasInk : ByteArray := prog_7_method_3_code
def yX5_hasInk : MethodName := ⟨RX5, "hasInk", "(I)Z"⟩
abbrev cX5_upper : ByteArray := prog_7_method_4_code
def yX5_upper : MethodName := ⟨RX5, "upper", "(I)I"⟩
abbrev cX5_lower : ByteArray := prog_7_method_5_code
def yX5_lower : MethodName := ⟨RX5, "lower", "(I)I"⟩
abbrev cX5_ink : ByteArray := prog_7_method_6_code
def yX5_ink : MethodName := ⟨RX5, "ink", "(IIII)V"⟩
def RX6 : String := "EngravedLines$Stretch"
def TX6 : u_T := fun k => match k with
  | 0 => ("EngravedLines$Stretch", "ideals", "[F", true)
  | 1 => ("EngravedLines$Stretch", "flexes", "[F", true)
  | 2 => ("EngravedLines$Stretch", "rods", "[F", true)
  | 3 => ("EngravedLines$Stretch", "areHeld", "[Z", true)
  | 4 => ("EngravedLines$Stretch", "lengths", "[F", true)
  | 5 => ("EngravedLines$Stretch", "places", "[F", true)
  | 6 => ("EngravedLines$Stretch", "first", "I", false)
  | 7 => ("EngravedLines$Stretch", "size", "I", false)
  | 8 => ("EngravedLines$Stretch", "lineWidth", "F", false)
  | _ => ("EngravedLines$Stretch", "pull", "F", false)
def tyX6 : Nat → FieldType := fun k => match k with
  | 0 => .array .float
  | 1 => .array .float
  | 2 => .array .float
  | 3 => .array .boolean
  | 4 => .array .float
  | 5 => .array .float
  | 6 => .int
  | 7 => .int
  | 8 => .float
  | _ => .float
abbrev wsX60 : List Cond := u_ws RX6 TX6 10
theorem nmX6 : ∀ a, a < 10 → ∀ b, b < 10 → a ≠ b → (TX6 a).2.1 ≠ (TX6 b).2.1 := by decide +kernel
theorem tyX6_ok : ∀ k, k < 10 → parseFieldDescriptor (TX6 k).2.2.1 = some (tyX6 k) := by decide +kernel
abbrev cX6_init : ByteArray := prog_8_method_1_code
def yX6_init : MethodName := ⟨RX6, "<init>", "()V"⟩
abbrev cX6_take : ByteArray := prog_8_method_2_code
def yX6_take : MethodName := ⟨RX6, "take", "(LEngravedLines$Signs;III)V"⟩
abbrev cX6_fits : ByteArray := prog_8_method_3_code
def yX6_fits : MethodName := ⟨RX6, "fits", "()Z"⟩
abbrev cX6_badness : ByteArray := prog_8_method_4_code
def yX6_badness : MethodName := ⟨RX6, "badness", "()F"⟩
abbrev cX6_settle : ByteArray := prog_8_method_5_code
def yX6_settle : MethodName := ⟨RX6, "settle", "(LEngravedLines$Signs;III)V"⟩
abbrev cX6_heldCount : ByteArray := prog_8_method_6_code
def yX6_heldCount : MethodName := ⟨RX6, "heldCount", "()I"⟩
abbrev cX6_length : ByteArray := prog_8_method_7_code
def yX6_length : MethodName := ⟨RX6, "length", "(I)F"⟩
abbrev cX6_place : ByteArray := prog_8_method_8_code
def yX6_place : MethodName := ⟨RX6, "place", "(I)F"⟩
abbrev cX6_cell : ByteArray := prog_8_method_9_code
def yX6_cell : MethodName := ⟨RX6, "cell", "(I)I"⟩
abbrev cX6_sum : ByteArray := prog_8_method_10_code
def yX6_sum : MethodName := ⟨RX6, "sum", "([F)F"⟩
abbrev cX6_balance : ByteArray := prog_8_method_11_code
def yX6_balance : MethodName := ⟨RX6, "balance", "()F"⟩
abbrev cX6_holdMore : ByteArray := prog_8_method_12_code
def yX6_holdMore : MethodName := ⟨RX6, "holdMore", "()Z"⟩
abbrev cX6_stretched : ByteArray := prog_8_method_13_code
def yX6_stretched : MethodName := ⟨RX6, "stretched", "(I)F"⟩
def RX7 : String := "EngravedLines$Tape"
def TX7 : u_T := fun k => match k with
  | 0 => ("EngravedLines$Tape", "bytes", "[I", true)
  | 1 => ("EngravedLines$Tape", "size", "I", false)
  | 2 => ("EngravedLines$Tape", "signs", "LEngravedLines$Signs;", true)
  | 3 => ("EngravedLines$Tape", "signCount", "I", false)
  | _ => ("EngravedLines$Tape", "next", "I", false)
def tyX7 : Nat → FieldType := fun k => match k with
  | 0 => .array .int
  | 1 => .int
  | 2 => .object "EngravedLines$Signs"
  | 3 => .int
  | _ => .int
abbrev wsX70 : List Cond := u_ws RX7 TX7 5
theorem nmX7 : ∀ a, a < 5 → ∀ b, b < 5 → a ≠ b → (TX7 a).2.1 ≠ (TX7 b).2.1 := by decide +kernel
theorem tyX7_ok : ∀ k, k < 5 → parseFieldDescriptor (TX7 k).2.2.1 = some (tyX7 k) := by decide +kernel
abbrev cX7_init : ByteArray := prog_9_method_1_code
def yX7_init : MethodName := ⟨RX7, "<init>", "()V"⟩
abbrev cX7_append : ByteArray := prog_9_method_2_code
def yX7_append : MethodName := ⟨RX7, "append", "(I)V"⟩
abbrev cX7_readMusic : ByteArray := prog_9_method_3_code
def yX7_readMusic : MethodName := ⟨RX7, "readMusic", "()I"⟩
abbrev cX7_isNext : ByteArray := prog_9_method_4_code
def yX7_isNext : MethodName := ⟨RX7, "isNext", "(C)Z"⟩
abbrev cX7_readSign : ByteArray := prog_9_method_5_code
def yX7_readSign : MethodName := ⟨RX7, "readSign", "()Z"⟩
abbrev cX7_readNumber : ByteArray := prog_9_method_6_code
def yX7_readNumber : MethodName := ⟨RX7, "readNumber", "(II)I"⟩
abbrev cX7_digit : ByteArray := prog_9_method_7_code
def yX7_digit : MethodName := ⟨RX7, "digit", "()I"⟩
abbrev cX7_readAdorn : ByteArray := prog_9_method_8_code
def yX7_readAdorn : MethodName := ⟨RX7, "readAdorn", "()I"⟩
abbrev cX7_keep : ByteArray := prog_9_method_9_code
def yX7_keep : MethodName := ⟨RX7, "keep", "(IIII)V"⟩
def RX8 : String := "EngravedLines"
def TX8 : u_T := fun k => match k with
  | 0 => ("EngravedLines", "now", "LEngravedLines$Page;", true)
  | 1 => ("EngravedLines", "kept", "LEngravedLines$Page;", true)
  | 2 => ("EngravedLines", "hasImage", "Z", false)
  | 3 => ("EngravedLines", "stretch", "LEngravedLines$Stretch;", true)
  | 4 => ("EngravedLines", "otherStretch", "LEngravedLines$Stretch;", true)
  | 5 => ("EngravedLines", "skyline", "LEngravedLines$Skyline;", true)
  | 6 => ("EngravedLines", "nextSkyline", "LEngravedLines$Skyline;", true)
  | 7 => ("EngravedLines", "best", "LEngravedLines$Best;", true)
  | 8 => ("EngravedLines", "otherBest", "LEngravedLines$Best;", true)
  | 9 => ("EngravedLines", "otherColumns", "LEngravedLines$Signs;", true)
  | 10 => ("EngravedLines", "tape", "LEngravedLines$Tape;", true)
  | 11 => ("EngravedLines", "sheets", "LEngravedLines$Sheets;", true)
  | _ => ("EngravedLines", "refusals", "[I", true)
def tyX8 : Nat → FieldType := fun k => match k with
  | 0 => .object "EngravedLines$Page"
  | 1 => .object "EngravedLines$Page"
  | 2 => .boolean
  | 3 => .object "EngravedLines$Stretch"
  | 4 => .object "EngravedLines$Stretch"
  | 5 => .object "EngravedLines$Skyline"
  | 6 => .object "EngravedLines$Skyline"
  | 7 => .object "EngravedLines$Best"
  | 8 => .object "EngravedLines$Best"
  | 9 => .object "EngravedLines$Signs"
  | 10 => .object "EngravedLines$Tape"
  | 11 => .object "EngravedLines$Sheets"
  | _ => .array .int
abbrev wsX80 : List Cond := u_ws RX8 TX8 13
theorem nmX8 : ∀ a, a < 13 → ∀ b, b < 13 → a ≠ b → (TX8 a).2.1 ≠ (TX8 b).2.1 := by decide +kernel
theorem tyX8_ok : ∀ k, k < 13 → parseFieldDescriptor (TX8 k).2.2.1 = some (tyX8 k) := by decide +kernel
abbrev cX8_init : ByteArray := prog_1_method_1_code
def yX8_init : MethodName := ⟨RX8, "<init>", "()V"⟩
abbrev cX8_add : ByteArray := prog_1_method_2_code
def yX8_add : MethodName := ⟨RX8, "add", "(II)I"⟩
abbrev cX8_drop : ByteArray := prog_1_method_3_code
def yX8_drop : MethodName := ⟨RX8, "drop", "()I"⟩
abbrev cX8_set : ByteArray := prog_1_method_4_code
def yX8_set : MethodName := ⟨RX8, "set", "(III)I"⟩
abbrev cX8_of : ByteArray := prog_1_method_5_code
def yX8_of : MethodName := ⟨RX8, "of", "(II)I"⟩
abbrev cX8_spring : ByteArray := prog_1_method_6_code
def yX8_spring : MethodName := ⟨RX8, "spring", "(II)I"⟩
abbrev cX8_width : ByteArray := prog_1_method_7_code
def yX8_width : MethodName := ⟨RX8, "width", "(I)I"⟩
abbrev cX8_force : ByteArray := prog_1_method_8_code
def yX8_force : MethodName := ⟨RX8, "force", "(II)I"⟩
abbrev cX8_held : ByteArray := prog_1_method_9_code
def yX8_held : MethodName := ⟨RX8, "held", "(II)I"⟩
abbrev cX8_at : ByteArray := prog_1_method_10_code
def yX8_at : MethodName := ⟨RX8, "at", "(IIII)I"⟩
abbrev cX8_bad : ByteArray := prog_1_method_11_code
def yX8_bad : MethodName := ⟨RX8, "bad", "(II)I"⟩
abbrev cX8_sky : ByteArray := prog_1_method_12_code
def yX8_sky : MethodName := ⟨RX8, "sky", "(IIII)I"⟩
abbrev cX8_apart : ByteArray := prog_1_method_13_code
def yX8_apart : MethodName := ⟨RX8, "apart", "(IIII)I"⟩
abbrev cX8_lines : ByteArray := prog_1_method_14_code
def yX8_lines : MethodName := ⟨RX8, "lines", "()I"⟩
abbrev cX8_line : ByteArray := prog_1_method_15_code
def yX8_line : MethodName := ⟨RX8, "line", "(II)I"⟩
abbrev cX8_total : ByteArray := prog_1_method_16_code
def yX8_total : MethodName := ⟨RX8, "total", "()I"⟩
abbrev cX8_moved : ByteArray := prog_1_method_17_code
def yX8_moved : MethodName := ⟨RX8, "moved", "(III)I"⟩
abbrev cX8_beam : ByteArray := prog_1_method_18_code
def yX8_beam : MethodName := ⟨RX8, "beam", "(III)I"⟩
abbrev cX8_slur : ByteArray := prog_1_method_19_code
def yX8_slur : MethodName := ⟨RX8, "slur", "(III)I"⟩
abbrev cX8_feed : ByteArray := prog_1_method_20_code
def yX8_feed : MethodName := ⟨RX8, "feed", "(I)I"⟩
abbrev cX8_music : ByteArray := prog_1_method_21_code
def yX8_music : MethodName := ⟨RX8, "music", "()I"⟩
abbrev cX8_shelf : ByteArray := prog_1_method_22_code
def yX8_shelf : MethodName := ⟨RX8, "shelf", "(III)I"⟩
abbrev cX8_store : ByteArray := prog_1_method_23_code
def yX8_store : MethodName := ⟨RX8, "store", "(III)I"⟩
abbrev cX8_fetch : ByteArray := prog_1_method_24_code
def yX8_fetch : MethodName := ⟨RX8, "fetch", "(III)I"⟩
abbrev cX8_comes : ByteArray := prog_1_method_25_code
def yX8_comes : MethodName := ⟨RX8, "comes", "(II)I"⟩
abbrev cX8_sheet : ByteArray := prog_1_method_26_code
def yX8_sheet : MethodName := ⟨RX8, "sheet", "(III)I"⟩
abbrev cX8_put : ByteArray := prog_1_method_27_code
def yX8_put : MethodName := ⟨RX8, "put", "(IIJI)I"⟩
abbrev cX8_bits : ByteArray := prog_1_method_28_code
def yX8_bits : MethodName := ⟨RX8, "bits", "(II)J"⟩
abbrev cX8_cast : ByteArray := prog_1_method_29_code
def yX8_cast : MethodName := ⟨RX8, "cast", "(II)I"⟩
abbrev cX8_rest : ByteArray := prog_1_method_30_code
def yX8_rest : MethodName := ⟨RX8, "rest", "(III)I"⟩
abbrev cX8_lays : ByteArray := prog_1_method_31_code
def yX8_lays : MethodName := ⟨RX8, "lays", "(III)I"⟩
abbrev cX8_image : ByteArray := prog_1_method_32_code
def yX8_image : MethodName := ⟨RX8, "image", "()I"⟩
abbrev cX8_restore : ByteArray := prog_1_method_33_code
def yX8_restore : MethodName := ⟨RX8, "restore", "()I"⟩
abbrev cX8_count : ByteArray := prog_1_method_34_code
def yX8_count : MethodName := ⟨RX8, "count", "(I)I"⟩
abbrev cX8_told : ByteArray := prog_1_method_35_code
def yX8_told : MethodName := ⟨RX8, "told", "(I)I"⟩
abbrev cX8_refuse : ByteArray := prog_1_method_36_code
def yX8_refuse : MethodName := ⟨RX8, "refuse", "(I)I"⟩
abbrev cX8_refuseLong : ByteArray := prog_1_method_37_code
def yX8_refuseLong : MethodName := ⟨RX8, "refuseLong", "(I)J"⟩
abbrev cX8_isColumn : ByteArray := prog_1_method_38_code
def yX8_isColumn : MethodName := ⟨RX8, "isColumn", "(I)Z"⟩
abbrev cX8_isStretch : ByteArray := prog_1_method_39_code
def yX8_isStretch : MethodName := ⟨RX8, "isStretch", "(II)Z"⟩
abbrev cX8_findBest : ByteArray := prog_1_method_40_code
def yX8_findBest : MethodName := ⟨RX8, "findBest", "()V"⟩
abbrev cX8_traceLine : ByteArray := prog_1_method_41_code
def yX8_traceLine : MethodName := ⟨RX8, "traceLine", "(LEngravedLines$Skyline;II)V"⟩
abbrev cX8_distance : ByteArray := prog_1_method_42_code
def yX8_distance : MethodName := ⟨RX8, "distance", "(IIII)I"⟩
abbrev cX8_standsOtherwise : ByteArray := prog_1_method_43_code
def yX8_standsOtherwise : MethodName := ⟨RX8, "standsOtherwise", "(I)Z"⟩
abbrev cX8_areNotes : ByteArray := prog_1_method_44_code
def yX8_areNotes : MethodName := ⟨RX8, "areNotes", "(II)Z"⟩
abbrev cX8_beamRise : ByteArray := prog_1_method_45_code
def yX8_beamRise : MethodName := ⟨RX8, "beamRise", "(II)F"⟩
abbrev cX8_beamSlope : ByteArray := prog_1_method_46_code
def yX8_beamSlope : MethodName := ⟨RX8, "beamSlope", "(II)F"⟩
abbrev cX8_beamGoesUp : ByteArray := prog_1_method_47_code
def yX8_beamGoesUp : MethodName := ⟨RX8, "beamGoesUp", "(II)Z"⟩
abbrev cX8_beamLift : ByteArray := prog_1_method_48_code
def yX8_beamLift : MethodName := ⟨RX8, "beamLift", "(II)F"⟩
abbrev cX8_slurHeight : ByteArray := prog_1_method_49_code
def yX8_slurHeight : MethodName := ⟨RX8, "slurHeight", "(IIZ)I"⟩
abbrev cX8_inkTowards : ByteArray := prog_1_method_50_code
def yX8_inkTowards : MethodName := ⟨RX8, "inkTowards", "(IZ)I"⟩
abbrev cX8_countNotes : ByteArray := prog_1_method_51_code
def yX8_countNotes : MethodName := ⟨RX8, "countNotes", "()I"⟩
abbrev cX8_sumDurations : ByteArray := prog_1_method_52_code
def yX8_sumDurations : MethodName := ⟨RX8, "sumDurations", "()I"⟩
abbrev cX8_isHeight : ByteArray := prog_1_method_53_code
def yX8_isHeight : MethodName := ⟨RX8, "isHeight", "(I)Z"⟩
abbrev cX8_isWithin : ByteArray := prog_1_method_54_code
def yX8_isWithin : MethodName := ⟨RX8, "isWithin", "(III)Z"⟩
abbrev cX8_isAllowed : ByteArray := prog_1_method_55_code
def yX8_isAllowed : MethodName := ⟨RX8, "isAllowed", "(II)Z"⟩
abbrev cX8_floatBits : ByteArray := prog_1_method_56_code
def yX8_floatBits : MethodName := ⟨RX8, "floatBits", "(F)I"⟩
abbrev cX8_readInt : ByteArray := prog_1_method_57_code
def yX8_readInt : MethodName := ⟨RX8, "readInt", "([II)I"⟩
abbrev cX8_writeInt : ByteArray := prog_1_method_58_code
def yX8_writeInt : MethodName := ⟨RX8, "writeInt", "([III)V"⟩
abbrev cX8_readFloat : ByteArray := prog_1_method_59_code
def yX8_readFloat : MethodName := ⟨RX8, "readFloat", "([FI)F"⟩
abbrev cX8_writeFloat : ByteArray := prog_1_method_60_code
def yX8_writeFloat : MethodName := ⟨RX8, "writeFloat", "([FIF)V"⟩
abbrev cX8_readLong : ByteArray := prog_1_method_61_code
def yX8_readLong : MethodName := ⟨RX8, "readLong", "([JI)J"⟩
abbrev cX8_writeLong : ByteArray := prog_1_method_62_code
def yX8_writeLong : MethodName := ⟨RX8, "writeLong", "([JIJ)V"⟩
abbrev cX8_readFlag : ByteArray := prog_1_method_63_code
def yX8_readFlag : MethodName := ⟨RX8, "readFlag", "([ZI)Z"⟩
abbrev cX8_writeFlag : ByteArray := prog_1_method_64_code
def yX8_writeFlag : MethodName := ⟨RX8, "writeFlag", "([ZIZ)V"⟩
abbrev cX8_copy : ByteArray := prog_1_method_65_code
def yX8_copy : MethodName := ⟨RX8, "copy", "([I[I)V"⟩
def RX9 : String := "EngravedLinesModel"
def TX9 : u_T := fun k => match k with
  | 0 => ("EngravedLinesModel", "now", "[I", true)
  | 1 => ("EngravedLinesModel", "kept", "[I", true)
  | 2 => ("EngravedLinesModel", "isKept", "Z", false)
  | 3 => ("EngravedLinesModel", "met", "[I", true)
  | 4 => ("EngravedLinesModel", "force", "F", false)
  | 5 => ("EngravedLinesModel", "heldMany", "I", false)
  | 6 => ("EngravedLinesModel", "isHeld", "[Z", true)
  | 7 => ("EngravedLinesModel", "length", "[F", true)
  | 8 => ("EngravedLinesModel", "at", "[F", true)
  | 9 => ("EngravedLinesModel", "badness", "F", false)
  | 10 => ("EngravedLinesModel", "upper", "[I", true)
  | 11 => ("EngravedLinesModel", "lower", "[I", true)
  | 12 => ("EngravedLinesModel", "aside", "[I", true)
  | 13 => ("EngravedLinesModel", "least", "[F", true)
  | 14 => ("EngravedLinesModel", "from", "[I", true)
  | 15 => ("EngravedLinesModel", "lineMany", "I", false)
  | 16 => ("EngravedLinesModel", "begin", "[I", true)
  | 17 => ("EngravedLinesModel", "end", "[I", true)
  | 18 => ("EngravedLinesModel", "wereMany", "I", false)
  | 19 => ("EngravedLinesModel", "wasBegin", "[I", true)
  | 20 => ("EngravedLinesModel", "wasEnd", "[I", true)
  | 21 => ("EngravedLinesModel", "wasAt", "[F", true)
  | 22 => ("EngravedLinesModel", "tape", "[I", true)
  | 23 => ("EngravedLinesModel", "taped", "I", false)
  | 24 => ("EngravedLinesModel", "place", "I", false)
  | 25 => ("EngravedLinesModel", "good", "Z", false)
  | 26 => ("EngravedLinesModel", "read", "[I", true)
  | 27 => ("EngravedLinesModel", "readMany", "I", false)
  | 28 => ("EngravedLinesModel", "sort", "[I", true)
  | 29 => ("EngravedLinesModel", "size", "[I", true)
  | 30 => ("EngravedLinesModel", "singles", "[F", true)
  | 31 => ("EngravedLinesModel", "doubles", "[D", true)
  | _ => ("EngravedLinesModel", "wholes", "[I", true)
def tyX9 : Nat → FieldType := fun k => match k with
  | 0 => .array .int
  | 1 => .array .int
  | 2 => .boolean
  | 3 => .array .int
  | 4 => .float
  | 5 => .int
  | 6 => .array .boolean
  | 7 => .array .float
  | 8 => .array .float
  | 9 => .float
  | 10 => .array .int
  | 11 => .array .int
  | 12 => .array .int
  | 13 => .array .float
  | 14 => .array .int
  | 15 => .int
  | 16 => .array .int
  | 17 => .array .int
  | 18 => .int
  | 19 => .array .int
  | 20 => .array .int
  | 21 => .array .float
  | 22 => .array .int
  | 23 => .int
  | 24 => .int
  | 25 => .boolean
  | 26 => .array .int
  | 27 => .int
  | 28 => .array .int
  | 29 => .array .int
  | 30 => .array .float
  | 31 => .array .double
  | _ => .array .int
abbrev wsX90 : List Cond := u_ws RX9 TX9 33
theorem nmX9 : ∀ a, a < 33 → ∀ b, b < 33 → a ≠ b → (TX9 a).2.1 ≠ (TX9 b).2.1 := by decide +kernel
theorem tyX9_ok : ∀ k, k < 33 → parseFieldDescriptor (TX9 k).2.2.1 = some (tyX9 k) := by decide +kernel
abbrev cX9_init : ByteArray := prog_11_method_1_code
def yX9_init : MethodName := ⟨RX9, "<init>", "()V"⟩
abbrev cX9_in : ByteArray := prog_11_method_2_code
def yX9_in : MethodName := ⟨RX9, "in", "(JJJ)Z"⟩
abbrev cX9_errs : ByteArray := prog_11_method_3_code
def yX9_errs : MethodName := ⟨RX9, "errs", "(I)I"⟩
abbrev cX9_errsLong : ByteArray := prog_11_method_4_code
def yX9_errsLong : MethodName := ⟨RX9, "errsLong", "(I)J"⟩
abbrev cX9_copy : ByteArray := prog_11_method_5_code
def yX9_copy : MethodName := ⟨RX9, "copy", "([I[I)V"⟩
abbrev cX9_its : ByteArray := prog_11_method_6_code
def yX9_its : MethodName := ⟨RX9, "its", "(II)I"⟩
abbrev cX9_sets : ByteArray := prog_11_method_7_code
def yX9_sets : MethodName := ⟨RX9, "sets", "(III)V"⟩
abbrev cX9_isColumn : ByteArray := prog_11_method_8_code
def yX9_isColumn : MethodName := ⟨RX9, "isColumn", "(I)Z"⟩
abbrev cX9_mayBe : ByteArray := prog_11_method_9_code
def yX9_mayBe : MethodName := ⟨RX9, "mayBe", "(II)Z"⟩
abbrev cX9_comes : ByteArray := prog_11_method_10_code
def yX9_comes : MethodName := ⟨RX9, "comes", "(IIIII)I"⟩
abbrev cX9_add : ByteArray := prog_11_method_11_code
def yX9_add : MethodName := ⟨RX9, "add", "(II)I"⟩
abbrev cX9_drop : ByteArray := prog_11_method_12_code
def yX9_drop : MethodName := ⟨RX9, "drop", "()I"⟩
abbrev cX9_set : ByteArray := prog_11_method_13_code
def yX9_set : MethodName := ⟨RX9, "set", "(III)I"⟩
abbrev cX9_topOf : ByteArray := prog_11_method_14_code
def yX9_topOf : MethodName := ⟨RX9, "topOf", "(III)I"⟩
abbrev cX9_top : ByteArray := prog_11_method_15_code
def yX9_top : MethodName := ⟨RX9, "top", "(I)I"⟩
abbrev cX9_bottom : ByteArray := prog_11_method_16_code
def yX9_bottom : MethodName := ⟨RX9, "bottom", "(I)I"⟩
abbrev cX9_of : ByteArray := prog_11_method_17_code
def yX9_of : MethodName := ⟨RX9, "of", "(II)I"⟩
abbrev cX9_ideal : ByteArray := prog_11_method_18_code
def yX9_ideal : MethodName := ⟨RX9, "ideal", "(I)F"⟩
abbrev cX9_flex : ByteArray := prog_11_method_19_code
def yX9_flex : MethodName := ⟨RX9, "flex", "(I)F"⟩
abbrev cX9_rod : ByteArray := prog_11_method_20_code
def yX9_rod : MethodName := ⟨RX9, "rod", "(I)F"⟩
abbrev cX9_spring : ByteArray := prog_11_method_21_code
def yX9_spring : MethodName := ⟨RX9, "spring", "(II)I"⟩
abbrev cX9_width : ByteArray := prog_11_method_22_code
def yX9_width : MethodName := ⟨RX9, "width", "(I)I"⟩
abbrev cX9_wanted : ByteArray := prog_11_method_23_code
def yX9_wanted : MethodName := ⟨RX9, "wanted", "(I)F"⟩
abbrev cX9_forceOf : ByteArray := prog_11_method_24_code
def yX9_forceOf : MethodName := ⟨RX9, "forceOf", "(II)V"⟩
abbrev cX9_laysOut : ByteArray := prog_11_method_25_code
def yX9_laysOut : MethodName := ⟨RX9, "laysOut", "(II)V"⟩
abbrev cX9_isStretch : ByteArray := prog_11_method_26_code
def yX9_isStretch : MethodName := ⟨RX9, "isStretch", "(II)Z"⟩
abbrev cX9_force : ByteArray := prog_11_method_27_code
def yX9_force : MethodName := ⟨RX9, "force", "(II)I"⟩
abbrev cX9_held : ByteArray := prog_11_method_28_code
def yX9_held : MethodName := ⟨RX9, "held", "(II)I"⟩
abbrev cX9_at : ByteArray := prog_11_method_29_code
def yX9_at : MethodName := ⟨RX9, "at", "(IIII)I"⟩
abbrev cX9_isGood : ByteArray := prog_11_method_30_code
def yX9_isGood : MethodName := ⟨RX9, "isGood", "(II)Z"⟩
abbrev cX9_bad : ByteArray := prog_11_method_31_code
def yX9_bad : MethodName := ⟨RX9, "bad", "(II)I"⟩
abbrev cX9_inks : ByteArray := prog_11_method_32_code
def yX9_inks : MethodName := ⟨RX9, "inks", "(II)V"⟩
abbrev cX9_sky : ByteArray := prog_11_method_33_code
def yX9_sky : MethodName := ⟨RX9, "sky", "(IIII)I"⟩
abbrev cX9_apartOf : ByteArray := prog_11_method_34_code
def yX9_apartOf : MethodName := ⟨RX9, "apartOf", "(IIII)I"⟩
abbrev cX9_apart : ByteArray := prog_11_method_35_code
def yX9_apart : MethodName := ⟨RX9, "apart", "(IIII)I"⟩
abbrev cX9_isEnd : ByteArray := prog_11_method_36_code
def yX9_isEnd : MethodName := ⟨RX9, "isEnd", "(I)Z"⟩
abbrev cX9_bestTo : ByteArray := prog_11_method_37_code
def yX9_bestTo : MethodName := ⟨RX9, "bestTo", "(I)V"⟩
abbrev cX9_breaks : ByteArray := prog_11_method_38_code
def yX9_breaks : MethodName := ⟨RX9, "breaks", "()Z"⟩
abbrev cX9_lines : ByteArray := prog_11_method_39_code
def yX9_lines : MethodName := ⟨RX9, "lines", "()I"⟩
abbrev cX9_line : ByteArray := prog_11_method_40_code
def yX9_line : MethodName := ⟨RX9, "line", "(II)I"⟩
abbrev cX9_total : ByteArray := prog_11_method_41_code
def yX9_total : MethodName := ⟨RX9, "total", "()I"⟩
abbrev cX9_keepsLines : ByteArray := prog_11_method_42_code
def yX9_keepsLines : MethodName := ⟨RX9, "keepsLines", "()V"⟩
abbrev cX9_isAsWas : ByteArray := prog_11_method_43_code
def yX9_isAsWas : MethodName := ⟨RX9, "isAsWas", "(I)Z"⟩
abbrev cX9_moved : ByteArray := prog_11_method_44_code
def yX9_moved : MethodName := ⟨RX9, "moved", "(III)I"⟩
abbrev cX9_whole : ByteArray := prog_11_method_45_code
def yX9_whole : MethodName := ⟨RX9, "whole", "(F)F"⟩
abbrev cX9_rise : ByteArray := prog_11_method_46_code
def yX9_rise : MethodName := ⟨RX9, "rise", "(II)F"⟩
abbrev cX9_slope : ByteArray := prog_11_method_47_code
def yX9_slope : MethodName := ⟨RX9, "slope", "(II)F"⟩
abbrev cX9_isUp : ByteArray := prog_11_method_48_code
def yX9_isUp : MethodName := ⟨RX9, "isUp", "(II)Z"⟩
abbrev cX9_lift : ByteArray := prog_11_method_49_code
def yX9_lift : MethodName := ⟨RX9, "lift", "(II)F"⟩
abbrev cX9_areNotes : ByteArray := prog_11_method_50_code
def yX9_areNotes : MethodName := ⟨RX9, "areNotes", "(II)Z"⟩
abbrev cX9_beam : ByteArray := prog_11_method_51_code
def yX9_beam : MethodName := ⟨RX9, "beam", "(III)I"⟩
abbrev cX9_ink : ByteArray := prog_11_method_52_code
def yX9_ink : MethodName := ⟨RX9, "ink", "(II)I"⟩
abbrev cX9_height : ByteArray := prog_11_method_53_code
def yX9_height : MethodName := ⟨RX9, "height", "(III)I"⟩
abbrev cX9_slur : ByteArray := prog_11_method_54_code
def yX9_slur : MethodName := ⟨RX9, "slur", "(III)I"⟩
abbrev cX9_feed : ByteArray := prog_11_method_55_code
def yX9_feed : MethodName := ⟨RX9, "feed", "(I)I"⟩
abbrev cX9_takes : ByteArray := prog_11_method_56_code
def yX9_takes : MethodName := ⟨RX9, "takes", "(I)Z"⟩
abbrev cX9_isDigit : ByteArray := prog_11_method_57_code
def yX9_isDigit : MethodName := ⟨RX9, "isDigit", "()Z"⟩
abbrev cX9_number : ByteArray := prog_11_method_58_code
def yX9_number : MethodName := ⟨RX9, "number", "(II)I"⟩
abbrev cX9_sign : ByteArray := prog_11_method_59_code
def yX9_sign : MethodName := ⟨RX9, "sign", "()V"⟩
abbrev cX9_music : ByteArray := prog_11_method_60_code
def yX9_music : MethodName := ⟨RX9, "music", "()I"⟩
abbrev cX9_isShelf : ByteArray := prog_11_method_61_code
def yX9_isShelf : MethodName := ⟨RX9, "isShelf", "(I)Z"⟩
abbrev cX9_shelfAt : ByteArray := prog_11_method_62_code
def yX9_shelfAt : MethodName := ⟨RX9, "shelfAt", "(I)I"⟩
abbrev cX9_isPlace : ByteArray := prog_11_method_63_code
def yX9_isPlace : MethodName := ⟨RX9, "isPlace", "(II)Z"⟩
abbrev cX9_placeAt : ByteArray := prog_11_method_64_code
def yX9_placeAt : MethodName := ⟨RX9, "placeAt", "(II)I"⟩
abbrev cX9_shelf : ByteArray := prog_11_method_65_code
def yX9_shelf : MethodName := ⟨RX9, "shelf", "(III)I"⟩
abbrev cX9_store : ByteArray := prog_11_method_66_code
def yX9_store : MethodName := ⟨RX9, "store", "(III)I"⟩
abbrev cX9_fetch : ByteArray := prog_11_method_67_code
def yX9_fetch : MethodName := ⟨RX9, "fetch", "(III)I"⟩
abbrev cX9_comes_ : ByteArray := prog_11_method_68_code
def yX9_comes_ : MethodName := ⟨RX9, "comes", "(II)I"⟩
abbrev cX9_isSheet : ByteArray := prog_11_method_69_code
def yX9_isSheet : MethodName := ⟨RX9, "isSheet", "(I)Z"⟩
abbrev cX9_sheet : ByteArray := prog_11_method_70_code
def yX9_sheet : MethodName := ⟨RX9, "sheet", "(III)I"⟩
abbrev cX9_isItem : ByteArray := prog_11_method_71_code
def yX9_isItem : MethodName := ⟨RX9, "isItem", "(II)Z"⟩
abbrev cX9_narrow : ByteArray := prog_11_method_72_code
def yX9_narrow : MethodName := ⟨RX9, "narrow", "(II)I"⟩
abbrev cX9_put : ByteArray := prog_11_method_73_code
def yX9_put : MethodName := ⟨RX9, "put", "(IIJI)I"⟩
abbrev cX9_bits : ByteArray := prog_11_method_74_code
def yX9_bits : MethodName := ⟨RX9, "bits", "(II)J"⟩
abbrev cX9_cast : ByteArray := prog_11_method_75_code
def yX9_cast : MethodName := ⟨RX9, "cast", "(II)I"⟩
abbrev cX9_isNought : ByteArray := prog_11_method_76_code
def yX9_isNought : MethodName := ⟨RX9, "isNought", "(II)Z"⟩
abbrev cX9_rest : ByteArray := prog_11_method_77_code
def yX9_rest : MethodName := ⟨RX9, "rest", "(III)I"⟩
abbrev cX9_lays : ByteArray := prog_11_method_78_code
def yX9_lays : MethodName := ⟨RX9, "lays", "(III)I"⟩
abbrev cX9_image : ByteArray := prog_11_method_79_code
def yX9_image : MethodName := ⟨RX9, "image", "()I"⟩
abbrev cX9_restore : ByteArray := prog_11_method_80_code
def yX9_restore : MethodName := ⟨RX9, "restore", "()I"⟩
abbrev cX9_notes : ByteArray := prog_11_method_81_code
def yX9_notes : MethodName := ⟨RX9, "notes", "()I"⟩
abbrev cX9_durations : ByteArray := prog_11_method_82_code
def yX9_durations : MethodName := ⟨RX9, "durations", "()I"⟩
abbrev cX9_shelved : ByteArray := prog_11_method_83_code
def yX9_shelved : MethodName := ⟨RX9, "shelved", "()I"⟩
abbrev cX9_count : ByteArray := prog_11_method_84_code
def yX9_count : MethodName := ⟨RX9, "count", "(I)I"⟩
abbrev cX9_told : ByteArray := prog_11_method_85_code
def yX9_told : MethodName := ⟨RX9, "told", "(I)I"⟩
def RJxe99ae : String := "java/lang/Double"
def TJxe99ae : u_T := fun k => match k with
  | _ => ("", "", "", false)
def tyJxe99ae : Nat → FieldType := fun k => match k with
  | _ => .int
abbrev wsJxe99ae0 : List Cond := u_ws RJxe99ae TJxe99ae 0
theorem nmJxe99ae : ∀ a, a < 0 → ∀ b, b < 0 → a ≠ b → (TJxe99ae a).2.1 ≠ (TJxe99ae b).2.1 := by decide +kernel
theorem tyJxe99ae_ok : ∀ k, k < 0 → parseFieldDescriptor (TJxe99ae k).2.2.1 = some (tyJxe99ae k) := by decide +kernel
abbrev cJxe99ae_isNaN_b9ae7 : ByteArray := prog_12_method_6_code
def yJxe99ae_isNaN_b9ae7 : MethodName := ⟨RJxe99ae, "isNaN", "(D)Z"⟩
abbrev cJxe99ae_doubleToLongBits_ccdee : ByteArray := prog_12_method_23_code
def yJxe99ae_doubleToLongBits_ccdee : MethodName := ⟨RJxe99ae, "doubleToLongBits", "(D)J"⟩
def RJxf58ca : String := "java/lang/Float"
def TJxf58ca : u_T := fun k => match k with
  | _ => ("", "", "", false)
def tyJxf58ca : Nat → FieldType := fun k => match k with
  | _ => .int
abbrev wsJxf58ca0 : List Cond := u_ws RJxf58ca TJxf58ca 0
theorem nmJxf58ca : ∀ a, a < 0 → ∀ b, b < 0 → a ≠ b → (TJxf58ca a).2.1 ≠ (TJxf58ca b).2.1 := by decide +kernel
theorem tyJxf58ca_ok : ∀ k, k < 0 → parseFieldDescriptor (TJxf58ca k).2.2.1 = some (tyJxf58ca k) := by decide +kernel
abbrev cJxf58ca_isNaN_12338 : ByteArray := prog_13_method_6_code
def yJxf58ca_isNaN_12338 : MethodName := ⟨RJxf58ca, "isNaN", "(F)Z"⟩
abbrev cJxf58ca_floatToIntBits_5c35a : ByteArray := prog_13_method_24_code
def yJxf58ca_floatToIntBits_5c35a : MethodName := ⟨RJxf58ca, "floatToIntBits", "(F)I"⟩
def RJ9 : String := "java/lang/Math"
def TJ9 : u_T := fun k => match k with
  | _ => ("", "", "", false)
def tyJ9 : Nat → FieldType := fun k => match k with
  | _ => .int
abbrev wsJ90 : List Cond := u_ws RJ9 TJ9 0
theorem nmJ9 : ∀ a, a < 0 → ∀ b, b < 0 → a ≠ b → (TJ9 a).2.1 ≠ (TJ9 b).2.1 := by decide +kernel
theorem tyJ9_ok : ∀ k, k < 0 → parseFieldDescriptor (TJ9 k).2.2.1 = some (tyJ9 k) := by decide +kernel
abbrev cJ9_max_7cf53 : ByteArray := prog_14_method_65_code
def yJ9_max_7cf53 : MethodName := ⟨RJ9, "max", "(II)I"⟩
abbrev cJ9_min_7cf53 : ByteArray := prog_14_method_69_code
def yJ9_min_7cf53 : MethodName := ⟨RJ9, "min", "(II)I"⟩
def RL : String := "EngravedLinesLaw"
abbrev cL_law : ByteArray := code
def yL_law : MethodName := ⟨RL, "law", "([I)Z"⟩
abbrev vwCl : List vw_C := [(RX0, TX0, 7), (RX1, TX1, 6), (RX3, TX3, 3), (RX4, TX4, 1), (RX5, TX5, 3), (RX6, TX6, 10), (RX7, TX7, 5), (RX8, TX8, 13), (RX9, TX9, 33)]
/-- the decoded code of a method: pc, instruction, length -/
abbrev pTab : Type := List (Nat × Instr × Nat)
def pTabOk (c : ByteArray) (t : pTab) : Bool := t.all fun q => decide (decode c q.1 = .ok (q.2.1, q.2.2))
