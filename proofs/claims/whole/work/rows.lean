section
-- ===== PART A: goes FIRST, ahead of the names: the tables' words, and 'selects' of the private methods out of them =====
/-- a private method of a class that the tables say can be made, by its rows of tables_1 -/
def lw_okq (q : MethodName × Nat) : Prop := (q.1.cls ≠ "java/lang/invoke/MethodHandle" ∧ q.1.cls ≠ "java/lang/invoke/VarHandle") ∧ Cond.instantiable q.1.cls q.2 ∈ tables_1 ∧ Cond.privateMethod q.1 ∈ tables_1 ∧ Cond.instanceMethod q.1 ∈ tables_1
theorem lw_p0 : lw_okq (⟨"EngravedLines", "refuse", "(I)I"⟩, 13) := ⟨⟨by decide +kernel, by decide +kernel⟩, List.mem_of_getElem? (i := 15) (by decide +kernel), List.mem_of_getElem? (i := 257) (by decide +kernel), List.mem_of_getElem? (i := 258) (by decide +kernel)⟩
theorem lw_p1 : lw_okq (⟨"EngravedLines", "isColumn", "(I)Z"⟩, 13) := ⟨⟨by decide +kernel, by decide +kernel⟩, List.mem_of_getElem? (i := 15) (by decide +kernel), List.mem_of_getElem? (i := 281) (by decide +kernel), List.mem_of_getElem? (i := 282) (by decide +kernel)⟩
theorem lw_p2 : lw_okq (⟨"EngravedLines", "isStretch", "(II)Z"⟩, 13) := ⟨⟨by decide +kernel, by decide +kernel⟩, List.mem_of_getElem? (i := 15) (by decide +kernel), List.mem_of_getElem? (i := 352) (by decide +kernel), List.mem_of_getElem? (i := 353) (by decide +kernel)⟩
theorem lw_p3 : lw_okq (⟨"EngravedLines$Stretch", "balance", "()F"⟩, 10) := ⟨⟨by decide +kernel, by decide +kernel⟩, List.mem_of_getElem? (i := 63) (by decide +kernel), List.mem_of_getElem? (i := 373) (by decide +kernel), List.mem_of_getElem? (i := 374) (by decide +kernel)⟩
theorem lw_p4 : lw_okq (⟨"EngravedLines$Stretch", "holdMore", "()Z"⟩, 10) := ⟨⟨by decide +kernel, by decide +kernel⟩, List.mem_of_getElem? (i := 63) (by decide +kernel), List.mem_of_getElem? (i := 383) (by decide +kernel), List.mem_of_getElem? (i := 384) (by decide +kernel)⟩
theorem lw_p5 : lw_okq (⟨"EngravedLines$Stretch", "stretched", "(I)F"⟩, 10) := ⟨⟨by decide +kernel, by decide +kernel⟩, List.mem_of_getElem? (i := 63) (by decide +kernel), List.mem_of_getElem? (i := 387) (by decide +kernel), List.mem_of_getElem? (i := 388) (by decide +kernel)⟩
theorem lw_p6 : lw_okq (⟨"EngravedLines$Stretch", "sum", "([F)F"⟩, 10) := ⟨⟨by decide +kernel, by decide +kernel⟩, List.mem_of_getElem? (i := 63) (by decide +kernel), List.mem_of_getElem? (i := 425) (by decide +kernel), List.mem_of_getElem? (i := 426) (by decide +kernel)⟩
theorem lw_p7 : lw_okq (⟨"EngravedLines", "traceLine", "(LEngravedLines$Skyline;II)V"⟩, 13) := ⟨⟨by decide +kernel, by decide +kernel⟩, List.mem_of_getElem? (i := 15) (by decide +kernel), List.mem_of_getElem? (i := 438) (by decide +kernel), List.mem_of_getElem? (i := 439) (by decide +kernel)⟩
theorem lw_p8 : lw_okq (⟨"EngravedLines$Skyline", "ink", "(IIII)V"⟩, 3) := ⟨⟨by decide +kernel, by decide +kernel⟩, List.mem_of_getElem? (i := 105) (by decide +kernel), List.mem_of_getElem? (i := 454) (by decide +kernel), List.mem_of_getElem? (i := 455) (by decide +kernel)⟩
theorem lw_p9 : lw_okq (⟨"EngravedLines", "distance", "(IIII)I"⟩, 13) := ⟨⟨by decide +kernel, by decide +kernel⟩, List.mem_of_getElem? (i := 15) (by decide +kernel), List.mem_of_getElem? (i := 483) (by decide +kernel), List.mem_of_getElem? (i := 484) (by decide +kernel)⟩
theorem lw_p10 : lw_okq (⟨"EngravedLines", "findBest", "()V"⟩, 13) := ⟨⟨by decide +kernel, by decide +kernel⟩, List.mem_of_getElem? (i := 15) (by decide +kernel), List.mem_of_getElem? (i := 492) (by decide +kernel), List.mem_of_getElem? (i := 493) (by decide +kernel)⟩
theorem lw_p11 : lw_okq (⟨"EngravedLines$Best", "reach", "(ILEngravedLines$Signs;I)V"⟩, 7) := ⟨⟨by decide +kernel, by decide +kernel⟩, List.mem_of_getElem? (i := 121) (by decide +kernel), List.mem_of_getElem? (i := 503) (by decide +kernel), List.mem_of_getElem? (i := 504) (by decide +kernel)⟩
theorem lw_p12 : lw_okq (⟨"EngravedLines$Best", "traceBack", "(I)V"⟩, 7) := ⟨⟨by decide +kernel, by decide +kernel⟩, List.mem_of_getElem? (i := 121) (by decide +kernel), List.mem_of_getElem? (i := 512) (by decide +kernel), List.mem_of_getElem? (i := 513) (by decide +kernel)⟩
theorem lw_p13 : lw_okq (⟨"EngravedLines", "standsOtherwise", "(I)Z"⟩, 13) := ⟨⟨by decide +kernel, by decide +kernel⟩, List.mem_of_getElem? (i := 15) (by decide +kernel), List.mem_of_getElem? (i := 543) (by decide +kernel), List.mem_of_getElem? (i := 544) (by decide +kernel)⟩
theorem lw_p14 : lw_okq (⟨"EngravedLines", "areNotes", "(II)Z"⟩, 13) := ⟨⟨by decide +kernel, by decide +kernel⟩, List.mem_of_getElem? (i := 15) (by decide +kernel), List.mem_of_getElem? (i := 551) (by decide +kernel), List.mem_of_getElem? (i := 552) (by decide +kernel)⟩
theorem lw_p15 : lw_okq (⟨"EngravedLines", "beamRise", "(II)F"⟩, 13) := ⟨⟨by decide +kernel, by decide +kernel⟩, List.mem_of_getElem? (i := 15) (by decide +kernel), List.mem_of_getElem? (i := 555) (by decide +kernel), List.mem_of_getElem? (i := 556) (by decide +kernel)⟩
def lw_privs_1 : List (MethodName × Nat) := [(⟨"EngravedLines", "refuse", "(I)I"⟩, 13), (⟨"EngravedLines", "isColumn", "(I)Z"⟩, 13), (⟨"EngravedLines", "isStretch", "(II)Z"⟩, 13), (⟨"EngravedLines$Stretch", "balance", "()F"⟩, 10), (⟨"EngravedLines$Stretch", "holdMore", "()Z"⟩, 10), (⟨"EngravedLines$Stretch", "stretched", "(I)F"⟩, 10), (⟨"EngravedLines$Stretch", "sum", "([F)F"⟩, 10), (⟨"EngravedLines", "traceLine", "(LEngravedLines$Skyline;II)V"⟩, 13), (⟨"EngravedLines$Skyline", "ink", "(IIII)V"⟩, 3), (⟨"EngravedLines", "distance", "(IIII)I"⟩, 13), (⟨"EngravedLines", "findBest", "()V"⟩, 13), (⟨"EngravedLines$Best", "reach", "(ILEngravedLines$Signs;I)V"⟩, 7), (⟨"EngravedLines$Best", "traceBack", "(I)V"⟩, 7), (⟨"EngravedLines", "standsOtherwise", "(I)Z"⟩, 13), (⟨"EngravedLines", "areNotes", "(II)Z"⟩, 13), (⟨"EngravedLines", "beamRise", "(II)F"⟩, 13)]
theorem lw_r1 : ∀ q ∈ lw_privs_1, lw_okq q := List.forall_mem_cons.mpr ⟨lw_p0, List.forall_mem_cons.mpr ⟨lw_p1, List.forall_mem_cons.mpr ⟨lw_p2, List.forall_mem_cons.mpr ⟨lw_p3, List.forall_mem_cons.mpr ⟨lw_p4, List.forall_mem_cons.mpr ⟨lw_p5, List.forall_mem_cons.mpr ⟨lw_p6, List.forall_mem_cons.mpr ⟨lw_p7, List.forall_mem_cons.mpr ⟨lw_p8, List.forall_mem_cons.mpr ⟨lw_p9, List.forall_mem_cons.mpr ⟨lw_p10, List.forall_mem_cons.mpr ⟨lw_p11, List.forall_mem_cons.mpr ⟨lw_p12, List.forall_mem_cons.mpr ⟨lw_p13, List.forall_mem_cons.mpr ⟨lw_p14, List.forall_mem_cons.mpr ⟨lw_p15, fun _ h => absurd h List.not_mem_nil⟩⟩⟩⟩⟩⟩⟩⟩⟩⟩⟩⟩⟩⟩⟩⟩
theorem lw_p16 : lw_okq (⟨"EngravedLines", "beamSlope", "(II)F"⟩, 13) := ⟨⟨by decide +kernel, by decide +kernel⟩, List.mem_of_getElem? (i := 15) (by decide +kernel), List.mem_of_getElem? (i := 560) (by decide +kernel), List.mem_of_getElem? (i := 561) (by decide +kernel)⟩
theorem lw_p17 : lw_okq (⟨"EngravedLines", "beamGoesUp", "(II)Z"⟩, 13) := ⟨⟨by decide +kernel, by decide +kernel⟩, List.mem_of_getElem? (i := 15) (by decide +kernel), List.mem_of_getElem? (i := 566) (by decide +kernel), List.mem_of_getElem? (i := 567) (by decide +kernel)⟩
theorem lw_p18 : lw_okq (⟨"EngravedLines", "beamLift", "(II)F"⟩, 13) := ⟨⟨by decide +kernel, by decide +kernel⟩, List.mem_of_getElem? (i := 15) (by decide +kernel), List.mem_of_getElem? (i := 570) (by decide +kernel), List.mem_of_getElem? (i := 571) (by decide +kernel)⟩
theorem lw_p19 : lw_okq (⟨"EngravedLines", "slurHeight", "(IIZ)I"⟩, 13) := ⟨⟨by decide +kernel, by decide +kernel⟩, List.mem_of_getElem? (i := 15) (by decide +kernel), List.mem_of_getElem? (i := 579) (by decide +kernel), List.mem_of_getElem? (i := 580) (by decide +kernel)⟩
theorem lw_p20 : lw_okq (⟨"EngravedLines", "inkTowards", "(IZ)I"⟩, 13) := ⟨⟨by decide +kernel, by decide +kernel⟩, List.mem_of_getElem? (i := 15) (by decide +kernel), List.mem_of_getElem? (i := 583) (by decide +kernel), List.mem_of_getElem? (i := 584) (by decide +kernel)⟩
theorem lw_p21 : lw_okq (⟨"EngravedLines$Tape", "readSign", "()Z"⟩, 5) := ⟨⟨by decide +kernel, by decide +kernel⟩, List.mem_of_getElem? (i := 156) (by decide +kernel), List.mem_of_getElem? (i := 608) (by decide +kernel), List.mem_of_getElem? (i := 609) (by decide +kernel)⟩
theorem lw_p22 : lw_okq (⟨"EngravedLines$Tape", "isNext", "(C)Z"⟩, 5) := ⟨⟨by decide +kernel, by decide +kernel⟩, List.mem_of_getElem? (i := 156) (by decide +kernel), List.mem_of_getElem? (i := 612) (by decide +kernel), List.mem_of_getElem? (i := 613) (by decide +kernel)⟩
theorem lw_p23 : lw_okq (⟨"EngravedLines$Tape", "readNumber", "(II)I"⟩, 5) := ⟨⟨by decide +kernel, by decide +kernel⟩, List.mem_of_getElem? (i := 156) (by decide +kernel), List.mem_of_getElem? (i := 617) (by decide +kernel), List.mem_of_getElem? (i := 618) (by decide +kernel)⟩
theorem lw_p24 : lw_okq (⟨"EngravedLines$Tape", "digit", "()I"⟩, 5) := ⟨⟨by decide +kernel, by decide +kernel⟩, List.mem_of_getElem? (i := 156) (by decide +kernel), List.mem_of_getElem? (i := 621) (by decide +kernel), List.mem_of_getElem? (i := 622) (by decide +kernel)⟩
theorem lw_p25 : lw_okq (⟨"EngravedLines$Tape", "readAdorn", "()I"⟩, 5) := ⟨⟨by decide +kernel, by decide +kernel⟩, List.mem_of_getElem? (i := 156) (by decide +kernel), List.mem_of_getElem? (i := 625) (by decide +kernel), List.mem_of_getElem? (i := 626) (by decide +kernel)⟩
theorem lw_p26 : lw_okq (⟨"EngravedLines$Tape", "keep", "(IIII)V"⟩, 5) := ⟨⟨by decide +kernel, by decide +kernel⟩, List.mem_of_getElem? (i := 156) (by decide +kernel), List.mem_of_getElem? (i := 629) (by decide +kernel), List.mem_of_getElem? (i := 630) (by decide +kernel)⟩
theorem lw_p27 : lw_okq (⟨"EngravedLines$Sheets", "change", "(IIJ)V"⟩, 3) := ⟨⟨by decide +kernel, by decide +kernel⟩, List.mem_of_getElem? (i := 183) (by decide +kernel), List.mem_of_getElem? (i := 691) (by decide +kernel), List.mem_of_getElem? (i := 692) (by decide +kernel)⟩
theorem lw_p28 : lw_okq (⟨"EngravedLines", "refuseLong", "(I)J"⟩, 13) := ⟨⟨by decide +kernel, by decide +kernel⟩, List.mem_of_getElem? (i := 15) (by decide +kernel), List.mem_of_getElem? (i := 721) (by decide +kernel), List.mem_of_getElem? (i := 722) (by decide +kernel)⟩
theorem lw_p29 : lw_okq (⟨"EngravedLines", "countNotes", "()I"⟩, 13) := ⟨⟨by decide +kernel, by decide +kernel⟩, List.mem_of_getElem? (i := 15) (by decide +kernel), List.mem_of_getElem? (i := 788) (by decide +kernel), List.mem_of_getElem? (i := 789) (by decide +kernel)⟩
theorem lw_p30 : lw_okq (⟨"EngravedLines", "sumDurations", "()I"⟩, 13) := ⟨⟨by decide +kernel, by decide +kernel⟩, List.mem_of_getElem? (i := 15) (by decide +kernel), List.mem_of_getElem? (i := 792) (by decide +kernel), List.mem_of_getElem? (i := 793) (by decide +kernel)⟩
theorem lw_p31 : lw_okq (⟨"EngravedLinesModel", "errs", "(I)I"⟩, 33) := ⟨⟨by decide +kernel, by decide +kernel⟩, List.mem_of_getElem? (i := 806) (by decide +kernel), List.mem_of_getElem? (i := 930) (by decide +kernel), List.mem_of_getElem? (i := 931) (by decide +kernel)⟩
def lw_privs_2 : List (MethodName × Nat) := [(⟨"EngravedLines", "beamSlope", "(II)F"⟩, 13), (⟨"EngravedLines", "beamGoesUp", "(II)Z"⟩, 13), (⟨"EngravedLines", "beamLift", "(II)F"⟩, 13), (⟨"EngravedLines", "slurHeight", "(IIZ)I"⟩, 13), (⟨"EngravedLines", "inkTowards", "(IZ)I"⟩, 13), (⟨"EngravedLines$Tape", "readSign", "()Z"⟩, 5), (⟨"EngravedLines$Tape", "isNext", "(C)Z"⟩, 5), (⟨"EngravedLines$Tape", "readNumber", "(II)I"⟩, 5), (⟨"EngravedLines$Tape", "digit", "()I"⟩, 5), (⟨"EngravedLines$Tape", "readAdorn", "()I"⟩, 5), (⟨"EngravedLines$Tape", "keep", "(IIII)V"⟩, 5), (⟨"EngravedLines$Sheets", "change", "(IIJ)V"⟩, 3), (⟨"EngravedLines", "refuseLong", "(I)J"⟩, 13), (⟨"EngravedLines", "countNotes", "()I"⟩, 13), (⟨"EngravedLines", "sumDurations", "()I"⟩, 13), (⟨"EngravedLinesModel", "errs", "(I)I"⟩, 33)]
theorem lw_r2 : ∀ q ∈ lw_privs_2, lw_okq q := List.forall_mem_cons.mpr ⟨lw_p16, List.forall_mem_cons.mpr ⟨lw_p17, List.forall_mem_cons.mpr ⟨lw_p18, List.forall_mem_cons.mpr ⟨lw_p19, List.forall_mem_cons.mpr ⟨lw_p20, List.forall_mem_cons.mpr ⟨lw_p21, List.forall_mem_cons.mpr ⟨lw_p22, List.forall_mem_cons.mpr ⟨lw_p23, List.forall_mem_cons.mpr ⟨lw_p24, List.forall_mem_cons.mpr ⟨lw_p25, List.forall_mem_cons.mpr ⟨lw_p26, List.forall_mem_cons.mpr ⟨lw_p27, List.forall_mem_cons.mpr ⟨lw_p28, List.forall_mem_cons.mpr ⟨lw_p29, List.forall_mem_cons.mpr ⟨lw_p30, List.forall_mem_cons.mpr ⟨lw_p31, fun _ h => absurd h List.not_mem_nil⟩⟩⟩⟩⟩⟩⟩⟩⟩⟩⟩⟩⟩⟩⟩⟩
theorem lw_p32 : lw_okq (⟨"EngravedLinesModel", "comes", "(IIIII)I"⟩, 33) := ⟨⟨by decide +kernel, by decide +kernel⟩, List.mem_of_getElem? (i := 806) (by decide +kernel), List.mem_of_getElem? (i := 936) (by decide +kernel), List.mem_of_getElem? (i := 937) (by decide +kernel)⟩
theorem lw_p33 : lw_okq (⟨"EngravedLinesModel", "sets", "(III)V"⟩, 33) := ⟨⟨by decide +kernel, by decide +kernel⟩, List.mem_of_getElem? (i := 806) (by decide +kernel), List.mem_of_getElem? (i := 940) (by decide +kernel), List.mem_of_getElem? (i := 941) (by decide +kernel)⟩
theorem lw_p34 : lw_okq (⟨"EngravedLinesModel", "isColumn", "(I)Z"⟩, 33) := ⟨⟨by decide +kernel, by decide +kernel⟩, List.mem_of_getElem? (i := 806) (by decide +kernel), List.mem_of_getElem? (i := 953) (by decide +kernel), List.mem_of_getElem? (i := 954) (by decide +kernel)⟩
theorem lw_p35 : lw_okq (⟨"EngravedLinesModel", "its", "(II)I"⟩, 33) := ⟨⟨by decide +kernel, by decide +kernel⟩, List.mem_of_getElem? (i := 806) (by decide +kernel), List.mem_of_getElem? (i := 957) (by decide +kernel), List.mem_of_getElem? (i := 958) (by decide +kernel)⟩
theorem lw_p36 : lw_okq (⟨"EngravedLinesModel", "top", "(I)I"⟩, 33) := ⟨⟨by decide +kernel, by decide +kernel⟩, List.mem_of_getElem? (i := 806) (by decide +kernel), List.mem_of_getElem? (i := 966) (by decide +kernel), List.mem_of_getElem? (i := 967) (by decide +kernel)⟩
theorem lw_p37 : lw_okq (⟨"EngravedLinesModel", "bottom", "(I)I"⟩, 33) := ⟨⟨by decide +kernel, by decide +kernel⟩, List.mem_of_getElem? (i := 806) (by decide +kernel), List.mem_of_getElem? (i := 973) (by decide +kernel), List.mem_of_getElem? (i := 974) (by decide +kernel)⟩
theorem lw_p38 : lw_okq (⟨"EngravedLinesModel", "ideal", "(I)F"⟩, 33) := ⟨⟨by decide +kernel, by decide +kernel⟩, List.mem_of_getElem? (i := 806) (by decide +kernel), List.mem_of_getElem? (i := 981) (by decide +kernel), List.mem_of_getElem? (i := 982) (by decide +kernel)⟩
theorem lw_p39 : lw_okq (⟨"EngravedLinesModel", "flex", "(I)F"⟩, 33) := ⟨⟨by decide +kernel, by decide +kernel⟩, List.mem_of_getElem? (i := 806) (by decide +kernel), List.mem_of_getElem? (i := 987) (by decide +kernel), List.mem_of_getElem? (i := 988) (by decide +kernel)⟩
theorem lw_p40 : lw_okq (⟨"EngravedLinesModel", "rod", "(I)F"⟩, 33) := ⟨⟨by decide +kernel, by decide +kernel⟩, List.mem_of_getElem? (i := 806) (by decide +kernel), List.mem_of_getElem? (i := 992) (by decide +kernel), List.mem_of_getElem? (i := 993) (by decide +kernel)⟩
theorem lw_p41 : lw_okq (⟨"EngravedLinesModel", "isStretch", "(II)Z"⟩, 33) := ⟨⟨by decide +kernel, by decide +kernel⟩, List.mem_of_getElem? (i := 806) (by decide +kernel), List.mem_of_getElem? (i := 1015) (by decide +kernel), List.mem_of_getElem? (i := 1016) (by decide +kernel)⟩
theorem lw_p42 : lw_okq (⟨"EngravedLinesModel", "laysOut", "(II)V"⟩, 33) := ⟨⟨by decide +kernel, by decide +kernel⟩, List.mem_of_getElem? (i := 806) (by decide +kernel), List.mem_of_getElem? (i := 1019) (by decide +kernel), List.mem_of_getElem? (i := 1020) (by decide +kernel)⟩
theorem lw_p43 : lw_okq (⟨"EngravedLinesModel", "forceOf", "(II)V"⟩, 33) := ⟨⟨by decide +kernel, by decide +kernel⟩, List.mem_of_getElem? (i := 806) (by decide +kernel), List.mem_of_getElem? (i := 1023) (by decide +kernel), List.mem_of_getElem? (i := 1024) (by decide +kernel)⟩
theorem lw_p44 : lw_okq (⟨"EngravedLinesModel", "wanted", "(I)F"⟩, 33) := ⟨⟨by decide +kernel, by decide +kernel⟩, List.mem_of_getElem? (i := 806) (by decide +kernel), List.mem_of_getElem? (i := 1027) (by decide +kernel), List.mem_of_getElem? (i := 1028) (by decide +kernel)⟩
theorem lw_p45 : lw_okq (⟨"EngravedLinesModel", "isGood", "(II)Z"⟩, 33) := ⟨⟨by decide +kernel, by decide +kernel⟩, List.mem_of_getElem? (i := 806) (by decide +kernel), List.mem_of_getElem? (i := 1043) (by decide +kernel), List.mem_of_getElem? (i := 1044) (by decide +kernel)⟩
theorem lw_p46 : lw_okq (⟨"EngravedLinesModel", "inks", "(II)V"⟩, 33) := ⟨⟨by decide +kernel, by decide +kernel⟩, List.mem_of_getElem? (i := 806) (by decide +kernel), List.mem_of_getElem? (i := 1053) (by decide +kernel), List.mem_of_getElem? (i := 1054) (by decide +kernel)⟩
theorem lw_p47 : lw_okq (⟨"EngravedLinesModel", "apartOf", "(IIII)I"⟩, 33) := ⟨⟨by decide +kernel, by decide +kernel⟩, List.mem_of_getElem? (i := 806) (by decide +kernel), List.mem_of_getElem? (i := 1061) (by decide +kernel), List.mem_of_getElem? (i := 1062) (by decide +kernel)⟩
def lw_privs_3 : List (MethodName × Nat) := [(⟨"EngravedLinesModel", "comes", "(IIIII)I"⟩, 33), (⟨"EngravedLinesModel", "sets", "(III)V"⟩, 33), (⟨"EngravedLinesModel", "isColumn", "(I)Z"⟩, 33), (⟨"EngravedLinesModel", "its", "(II)I"⟩, 33), (⟨"EngravedLinesModel", "top", "(I)I"⟩, 33), (⟨"EngravedLinesModel", "bottom", "(I)I"⟩, 33), (⟨"EngravedLinesModel", "ideal", "(I)F"⟩, 33), (⟨"EngravedLinesModel", "flex", "(I)F"⟩, 33), (⟨"EngravedLinesModel", "rod", "(I)F"⟩, 33), (⟨"EngravedLinesModel", "isStretch", "(II)Z"⟩, 33), (⟨"EngravedLinesModel", "laysOut", "(II)V"⟩, 33), (⟨"EngravedLinesModel", "forceOf", "(II)V"⟩, 33), (⟨"EngravedLinesModel", "wanted", "(I)F"⟩, 33), (⟨"EngravedLinesModel", "isGood", "(II)Z"⟩, 33), (⟨"EngravedLinesModel", "inks", "(II)V"⟩, 33), (⟨"EngravedLinesModel", "apartOf", "(IIII)I"⟩, 33)]
theorem lw_r3 : ∀ q ∈ lw_privs_3, lw_okq q := List.forall_mem_cons.mpr ⟨lw_p32, List.forall_mem_cons.mpr ⟨lw_p33, List.forall_mem_cons.mpr ⟨lw_p34, List.forall_mem_cons.mpr ⟨lw_p35, List.forall_mem_cons.mpr ⟨lw_p36, List.forall_mem_cons.mpr ⟨lw_p37, List.forall_mem_cons.mpr ⟨lw_p38, List.forall_mem_cons.mpr ⟨lw_p39, List.forall_mem_cons.mpr ⟨lw_p40, List.forall_mem_cons.mpr ⟨lw_p41, List.forall_mem_cons.mpr ⟨lw_p42, List.forall_mem_cons.mpr ⟨lw_p43, List.forall_mem_cons.mpr ⟨lw_p44, List.forall_mem_cons.mpr ⟨lw_p45, List.forall_mem_cons.mpr ⟨lw_p46, List.forall_mem_cons.mpr ⟨lw_p47, fun _ h => absurd h List.not_mem_nil⟩⟩⟩⟩⟩⟩⟩⟩⟩⟩⟩⟩⟩⟩⟩⟩
theorem lw_p48 : lw_okq (⟨"EngravedLinesModel", "breaks", "()Z"⟩, 33) := ⟨⟨by decide +kernel, by decide +kernel⟩, List.mem_of_getElem? (i := 806) (by decide +kernel), List.mem_of_getElem? (i := 1069) (by decide +kernel), List.mem_of_getElem? (i := 1070) (by decide +kernel)⟩
theorem lw_p49 : lw_okq (⟨"EngravedLinesModel", "bestTo", "(I)V"⟩, 33) := ⟨⟨by decide +kernel, by decide +kernel⟩, List.mem_of_getElem? (i := 806) (by decide +kernel), List.mem_of_getElem? (i := 1073) (by decide +kernel), List.mem_of_getElem? (i := 1074) (by decide +kernel)⟩
theorem lw_p50 : lw_okq (⟨"EngravedLinesModel", "isEnd", "(I)Z"⟩, 33) := ⟨⟨by decide +kernel, by decide +kernel⟩, List.mem_of_getElem? (i := 806) (by decide +kernel), List.mem_of_getElem? (i := 1077) (by decide +kernel), List.mem_of_getElem? (i := 1078) (by decide +kernel)⟩
theorem lw_p51 : lw_okq (⟨"EngravedLinesModel", "keepsLines", "()V"⟩, 33) := ⟨⟨by decide +kernel, by decide +kernel⟩, List.mem_of_getElem? (i := 806) (by decide +kernel), List.mem_of_getElem? (i := 1094) (by decide +kernel), List.mem_of_getElem? (i := 1095) (by decide +kernel)⟩
theorem lw_p52 : lw_okq (⟨"EngravedLinesModel", "isAsWas", "(I)Z"⟩, 33) := ⟨⟨by decide +kernel, by decide +kernel⟩, List.mem_of_getElem? (i := 806) (by decide +kernel), List.mem_of_getElem? (i := 1098) (by decide +kernel), List.mem_of_getElem? (i := 1099) (by decide +kernel)⟩
theorem lw_p53 : lw_okq (⟨"EngravedLinesModel", "areNotes", "(II)Z"⟩, 33) := ⟨⟨by decide +kernel, by decide +kernel⟩, List.mem_of_getElem? (i := 806) (by decide +kernel), List.mem_of_getElem? (i := 1107) (by decide +kernel), List.mem_of_getElem? (i := 1108) (by decide +kernel)⟩
theorem lw_p54 : lw_okq (⟨"EngravedLinesModel", "isUp", "(II)Z"⟩, 33) := ⟨⟨by decide +kernel, by decide +kernel⟩, List.mem_of_getElem? (i := 806) (by decide +kernel), List.mem_of_getElem? (i := 1112) (by decide +kernel), List.mem_of_getElem? (i := 1113) (by decide +kernel)⟩
theorem lw_p55 : lw_okq (⟨"EngravedLinesModel", "rise", "(II)F"⟩, 33) := ⟨⟨by decide +kernel, by decide +kernel⟩, List.mem_of_getElem? (i := 806) (by decide +kernel), List.mem_of_getElem? (i := 1116) (by decide +kernel), List.mem_of_getElem? (i := 1117) (by decide +kernel)⟩
theorem lw_p56 : lw_okq (⟨"EngravedLinesModel", "slope", "(II)F"⟩, 33) := ⟨⟨by decide +kernel, by decide +kernel⟩, List.mem_of_getElem? (i := 806) (by decide +kernel), List.mem_of_getElem? (i := 1120) (by decide +kernel), List.mem_of_getElem? (i := 1121) (by decide +kernel)⟩
theorem lw_p57 : lw_okq (⟨"EngravedLinesModel", "lift", "(II)F"⟩, 33) := ⟨⟨by decide +kernel, by decide +kernel⟩, List.mem_of_getElem? (i := 806) (by decide +kernel), List.mem_of_getElem? (i := 1130) (by decide +kernel), List.mem_of_getElem? (i := 1131) (by decide +kernel)⟩
theorem lw_p58 : lw_okq (⟨"EngravedLinesModel", "height", "(III)I"⟩, 33) := ⟨⟨by decide +kernel, by decide +kernel⟩, List.mem_of_getElem? (i := 806) (by decide +kernel), List.mem_of_getElem? (i := 1139) (by decide +kernel), List.mem_of_getElem? (i := 1140) (by decide +kernel)⟩
theorem lw_p59 : lw_okq (⟨"EngravedLinesModel", "ink", "(II)I"⟩, 33) := ⟨⟨by decide +kernel, by decide +kernel⟩, List.mem_of_getElem? (i := 806) (by decide +kernel), List.mem_of_getElem? (i := 1143) (by decide +kernel), List.mem_of_getElem? (i := 1144) (by decide +kernel)⟩
theorem lw_p60 : lw_okq (⟨"EngravedLinesModel", "sign", "()V"⟩, 33) := ⟨⟨by decide +kernel, by decide +kernel⟩, List.mem_of_getElem? (i := 806) (by decide +kernel), List.mem_of_getElem? (i := 1156) (by decide +kernel), List.mem_of_getElem? (i := 1157) (by decide +kernel)⟩
theorem lw_p61 : lw_okq (⟨"EngravedLinesModel", "takes", "(I)Z"⟩, 33) := ⟨⟨by decide +kernel, by decide +kernel⟩, List.mem_of_getElem? (i := 806) (by decide +kernel), List.mem_of_getElem? (i := 1160) (by decide +kernel), List.mem_of_getElem? (i := 1161) (by decide +kernel)⟩
theorem lw_p62 : lw_okq (⟨"EngravedLinesModel", "number", "(II)I"⟩, 33) := ⟨⟨by decide +kernel, by decide +kernel⟩, List.mem_of_getElem? (i := 806) (by decide +kernel), List.mem_of_getElem? (i := 1164) (by decide +kernel), List.mem_of_getElem? (i := 1165) (by decide +kernel)⟩
theorem lw_p63 : lw_okq (⟨"EngravedLinesModel", "isDigit", "()Z"⟩, 33) := ⟨⟨by decide +kernel, by decide +kernel⟩, List.mem_of_getElem? (i := 806) (by decide +kernel), List.mem_of_getElem? (i := 1168) (by decide +kernel), List.mem_of_getElem? (i := 1169) (by decide +kernel)⟩
def lw_privs_4 : List (MethodName × Nat) := [(⟨"EngravedLinesModel", "breaks", "()Z"⟩, 33), (⟨"EngravedLinesModel", "bestTo", "(I)V"⟩, 33), (⟨"EngravedLinesModel", "isEnd", "(I)Z"⟩, 33), (⟨"EngravedLinesModel", "keepsLines", "()V"⟩, 33), (⟨"EngravedLinesModel", "isAsWas", "(I)Z"⟩, 33), (⟨"EngravedLinesModel", "areNotes", "(II)Z"⟩, 33), (⟨"EngravedLinesModel", "isUp", "(II)Z"⟩, 33), (⟨"EngravedLinesModel", "rise", "(II)F"⟩, 33), (⟨"EngravedLinesModel", "slope", "(II)F"⟩, 33), (⟨"EngravedLinesModel", "lift", "(II)F"⟩, 33), (⟨"EngravedLinesModel", "height", "(III)I"⟩, 33), (⟨"EngravedLinesModel", "ink", "(II)I"⟩, 33), (⟨"EngravedLinesModel", "sign", "()V"⟩, 33), (⟨"EngravedLinesModel", "takes", "(I)Z"⟩, 33), (⟨"EngravedLinesModel", "number", "(II)I"⟩, 33), (⟨"EngravedLinesModel", "isDigit", "()Z"⟩, 33)]
theorem lw_r4 : ∀ q ∈ lw_privs_4, lw_okq q := List.forall_mem_cons.mpr ⟨lw_p48, List.forall_mem_cons.mpr ⟨lw_p49, List.forall_mem_cons.mpr ⟨lw_p50, List.forall_mem_cons.mpr ⟨lw_p51, List.forall_mem_cons.mpr ⟨lw_p52, List.forall_mem_cons.mpr ⟨lw_p53, List.forall_mem_cons.mpr ⟨lw_p54, List.forall_mem_cons.mpr ⟨lw_p55, List.forall_mem_cons.mpr ⟨lw_p56, List.forall_mem_cons.mpr ⟨lw_p57, List.forall_mem_cons.mpr ⟨lw_p58, List.forall_mem_cons.mpr ⟨lw_p59, List.forall_mem_cons.mpr ⟨lw_p60, List.forall_mem_cons.mpr ⟨lw_p61, List.forall_mem_cons.mpr ⟨lw_p62, List.forall_mem_cons.mpr ⟨lw_p63, fun _ h => absurd h List.not_mem_nil⟩⟩⟩⟩⟩⟩⟩⟩⟩⟩⟩⟩⟩⟩⟩⟩
theorem lw_p64 : lw_okq (⟨"EngravedLinesModel", "isPlace", "(II)Z"⟩, 33) := ⟨⟨by decide +kernel, by decide +kernel⟩, List.mem_of_getElem? (i := 806) (by decide +kernel), List.mem_of_getElem? (i := 1192) (by decide +kernel), List.mem_of_getElem? (i := 1193) (by decide +kernel)⟩
theorem lw_p65 : lw_okq (⟨"EngravedLinesModel", "isItem", "(II)Z"⟩, 33) := ⟨⟨by decide +kernel, by decide +kernel⟩, List.mem_of_getElem? (i := 806) (by decide +kernel), List.mem_of_getElem? (i := 1216) (by decide +kernel), List.mem_of_getElem? (i := 1217) (by decide +kernel)⟩
theorem lw_p66 : lw_okq (⟨"EngravedLinesModel", "errsLong", "(I)J"⟩, 33) := ⟨⟨by decide +kernel, by decide +kernel⟩, List.mem_of_getElem? (i := 806) (by decide +kernel), List.mem_of_getElem? (i := 1227) (by decide +kernel), List.mem_of_getElem? (i := 1228) (by decide +kernel)⟩
theorem lw_p67 : lw_okq (⟨"EngravedLinesModel", "isNought", "(II)Z"⟩, 33) := ⟨⟨by decide +kernel, by decide +kernel⟩, List.mem_of_getElem? (i := 806) (by decide +kernel), List.mem_of_getElem? (i := 1250) (by decide +kernel), List.mem_of_getElem? (i := 1251) (by decide +kernel)⟩
theorem lw_p68 : lw_okq (⟨"EngravedLinesModel", "notes", "()I"⟩, 33) := ⟨⟨by decide +kernel, by decide +kernel⟩, List.mem_of_getElem? (i := 806) (by decide +kernel), List.mem_of_getElem? (i := 1274) (by decide +kernel), List.mem_of_getElem? (i := 1275) (by decide +kernel)⟩
theorem lw_p69 : lw_okq (⟨"EngravedLinesModel", "durations", "()I"⟩, 33) := ⟨⟨by decide +kernel, by decide +kernel⟩, List.mem_of_getElem? (i := 806) (by decide +kernel), List.mem_of_getElem? (i := 1278) (by decide +kernel), List.mem_of_getElem? (i := 1279) (by decide +kernel)⟩
theorem lw_p70 : lw_okq (⟨"EngravedLinesModel", "shelved", "()I"⟩, 33) := ⟨⟨by decide +kernel, by decide +kernel⟩, List.mem_of_getElem? (i := 806) (by decide +kernel), List.mem_of_getElem? (i := 1282) (by decide +kernel), List.mem_of_getElem? (i := 1283) (by decide +kernel)⟩
def lw_privs_5 : List (MethodName × Nat) := [(⟨"EngravedLinesModel", "isPlace", "(II)Z"⟩, 33), (⟨"EngravedLinesModel", "isItem", "(II)Z"⟩, 33), (⟨"EngravedLinesModel", "errsLong", "(I)J"⟩, 33), (⟨"EngravedLinesModel", "isNought", "(II)Z"⟩, 33), (⟨"EngravedLinesModel", "notes", "()I"⟩, 33), (⟨"EngravedLinesModel", "durations", "()I"⟩, 33), (⟨"EngravedLinesModel", "shelved", "()I"⟩, 33)]
theorem lw_r5 : ∀ q ∈ lw_privs_5, lw_okq q := List.forall_mem_cons.mpr ⟨lw_p64, List.forall_mem_cons.mpr ⟨lw_p65, List.forall_mem_cons.mpr ⟨lw_p66, List.forall_mem_cons.mpr ⟨lw_p67, List.forall_mem_cons.mpr ⟨lw_p68, List.forall_mem_cons.mpr ⟨lw_p69, List.forall_mem_cons.mpr ⟨lw_p70, fun _ h => absurd h List.not_mem_nil⟩⟩⟩⟩⟩⟩⟩
def lw_privs : List (MethodName × Nat) := lw_privs_1 ++ (lw_privs_2 ++ (lw_privs_3 ++ (lw_privs_4 ++ (lw_privs_5))))
def lw_tbl : List Cond := k2_sels lw_privs ++ tables_1
theorem lw_privs_ok : ∀ q ∈ lw_privs, lw_okq q := by
  show ∀ q ∈ lw_privs_1 ++ (lw_privs_2 ++ (lw_privs_3 ++ (lw_privs_4 ++ (lw_privs_5)))), lw_okq q
  exact List.forall_mem_append.mpr ⟨lw_r1, List.forall_mem_append.mpr ⟨lw_r2, List.forall_mem_append.mpr ⟨lw_r3, List.forall_mem_append.mpr ⟨lw_r4, lw_r5⟩⟩⟩⟩
/-- the streams that the claim lets the run draw from -/
abbrev lw_cs : List Choice := [Jvm.Choice.named "NaN.bits"]
theorem lw_bits : nanBits ∈ lw_cs := by first | decide | exact List.mem_cons_self | simp [lw_cs, nanBits]
def RX0 : String := "EngravedLines$Best"
def TX0 : u_T := fun k => match k with
  | 0 => ("EngravedLines$Best", "before", "[I", true)
  | 1 => ("EngravedLines$Best", "totals", "[F", true)
  | 2 => ("EngravedLines$Best", "starts", "[I", true)
  | 3 => ("EngravedLines$Best", "trial", "LEngravedLines$Stretch;", true)
  | 4 => ("EngravedLines$Best", "lineCount", "I", false)
  | 5 => ("EngravedLines$Best", "isFound", "Z", false)
  | _ => ("EngravedLines$Best", "sum", "F", false)
def tyX0 : Nat → FieldType := fun k => match k with
  | 0 => .array .int
  | 1 => .array .float
  | 2 => .array .int
  | 3 => .object "EngravedLines$Stretch"
  | 4 => .int
  | 5 => .boolean
  | _ => .float
abbrev wsX00 : List Cond := u_ws RX0 TX0 7
theorem nmX0 : ∀ a, a < 7 → ∀ b, b < 7 → a ≠ b → (TX0 a).2.1 ≠ (TX0 b).2.1 := by decide +kernel
theorem tyX0_ok : ∀ k, k < 7 → parseFieldDescriptor (TX0 k).2.2.1 = some (tyX0 k) := by decide +kernel
abbrev cX0_init : ByteArray := prog_2_method_1_code
def yX0_init : MethodName := ⟨RX0, "<init>", "()V"⟩
abbrev cX0_find : ByteArray := prog_2_method_2_code
def yX0_find : MethodName := ⟨RX0, "find", "(LEngravedLines$Signs;II)V"⟩
abbrev cX0_first : ByteArray := prog_2_method_3_code
def yX0_first : MethodName := ⟨RX0, "first", "(I)I"⟩
abbrev cX0_last : ByteArray := prog_2_method_4_code
def yX0_last : MethodName := ⟨RX0, "last", "(I)I"⟩
abbrev cX0_reach : ByteArray := prog_2_method_5_code
def yX0_reach : MethodName := ⟨RX0, "reach", "(ILEngravedLines$Signs;I)V"⟩
abbrev cX0_traceBack : ByteArray := prog_2_method_6_code
def yX0_traceBack : MethodName := ⟨RX0, "traceBack", "(I)V"⟩
def RX1 : String := "EngravedLines$Page"
def TX1 : u_T := fun k => match k with
  | 0 => ("EngravedLines$Page", "columns", "LEngravedLines$Signs;", true)
  | 1 => ("EngravedLines$Page", "columnCount", "I", false)
  | 2 => ("EngravedLines$Page", "lineWidth", "I", false)
  | 3 => ("EngravedLines$Page", "onShelves", "LEngravedLines$Signs;", true)
  | 4 => ("EngravedLines$Page", "shelfKinds", "[I", true)
  | _ => ("EngravedLines$Page", "shelfSizes", "[I", true)
def tyX1 : Nat → FieldType := fun k => match k with
  | 0 => .object "EngravedLines$Signs"
  | 1 => .int
  | 2 => .int
  | 3 => .object "EngravedLines$Signs"
  | 4 => .array .int
  | _ => .array .int
abbrev wsX10 : List Cond := u_ws RX1 TX1 6
theorem nmX1 : ∀ a, a < 6 → ∀ b, b < 6 → a ≠ b → (TX1 a).2.1 ≠ (TX1 b).2.1 := by decide +kernel
theorem tyX1_ok : ∀ k, k < 6 → parseFieldDescriptor (TX1 k).2.2.1 = some (tyX1 k) := by decide +kernel
abbrev cX1_init : ByteArray := prog_3_method_1_code
def yX1_init : MethodName := ⟨RX1, "<init>", "()V"⟩
abbrev cX1_place : ByteArray := prog_3_method_2_code
def yX1_place : MethodName := ⟨RX1, "place", "(II)I"⟩
abbrev cX1_shelfKind : ByteArray := prog_3_method_3_code
def yX1_shelfKind : MethodName := ⟨RX1, "shelfKind", "(I)I"⟩
abbrev cX1_hasPlace : ByteArray := prog_3_method_4_code
def yX1_hasPlace : MethodName := ⟨RX1, "hasPlace", "(II)Z"⟩
abbrev cX1_clearShelf : ByteArray := prog_3_method_5_code
def yX1_clearShelf : MethodName := ⟨RX1, "clearShelf", "(III)V"⟩
abbrev cX1_countOnShelves : ByteArray := prog_3_method_6_code
def yX1_countOnShelves : MethodName := ⟨RX1, "countOnShelves", "()I"⟩
abbrev cX1_become : ByteArray := prog_3_method_7_code
def yX1_become : MethodName := ⟨RX1, "become", "(LEngravedLines$Page;)V"⟩
def RX2 : String := "EngravedLines$Point"
def TX2 : u_T := fun k => match k with
  | _ => ("", "", "", false)
def tyX2 : Nat → FieldType := fun k => match k with
  | _ => .int
abbrev wsX20 : List Cond := u_ws RX2 TX2 0
theorem nmX2 : ∀ a, a < 0 → ∀ b, b < 0 → a ≠ b → (TX2 a).2.1 ≠ (TX2 b).2.1 := by decide +kernel
theorem tyX2_ok : ∀ k, k < 0 → parseFieldDescriptor (TX2 k).2.2.1 = some (tyX2 k) := by decide +kernel
abbrev cX2_encode : ByteArray := prog_4_method_2_code
def yX2_encode : MethodName := ⟨RX2, "encode", "(ID)J"⟩
abbrev cX2_size : ByteArray := prog_4_method_3_code
def yX2_size : MethodName := ⟨RX2, "size", "(IJ)D"⟩
abbrev cX2_withSign : ByteArray := prog_4_method_4_code
def yX2_withSign : MethodName := ⟨RX2, "withSign", "(IJZ)J"⟩
abbrev cX2_remainder : ByteArray := prog_4_method_5_code
def yX2_remainder : MethodName := ⟨RX2, "remainder", "(DD)D"⟩
abbrev cX2_fractionBits : ByteArray := prog_4_method_6_code
def yX2_fractionBits : MethodName := ⟨RX2, "fractionBits", "(I)I"⟩
abbrev cX2_bias : ByteArray := prog_4_method_7_code
def yX2_bias : MethodName := ⟨RX2, "bias", "(I)I"⟩
abbrev cX2_signBit : ByteArray := prog_4_method_8_code
def yX2_signBit : MethodName := ⟨RX2, "signBit", "(I)J"⟩
def RX3 : String := "EngravedLines$Sheets"
def TX3 : u_T := fun k => match k with
  | 0 => ("EngravedLines$Sheets", "sorts", "[I", true)
  | 1 => ("EngravedLines$Sheets", "sizes", "[I", true)
  | _ => ("EngravedLines$Sheets", "numbers", "[J", true)
def tyX3 : Nat → FieldType := fun k => match k with
  | 0 => .array .int
  | 1 => .array .int
  | _ => .array .long
abbrev wsX30 : List Cond := u_ws RX3 TX3 3
theorem nmX3 : ∀ a, a < 3 → ∀ b, b < 3 → a ≠ b → (TX3 a).2.1 ≠ (TX3 b).2.1 := by decide +kernel
theorem tyX3_ok : ∀ k, k < 3 → parseFieldDescriptor (TX3 k).2.2.1 = some (tyX3 k) := by decide +kernel
abbrev cX3_init : ByteArray := prog_5_method_1_code
def yX3_init : MethodName := ⟨RX3, "<init>", "()V"⟩
abbrev cX3_sort : ByteArray := prog_5_method_2_code
def yX3_sort : MethodName := ⟨RX3, "sort", "(I)I"⟩
abbrev cX3_hasNumber : ByteArray := prog_5_method_3_code
def yX3_hasNumber : MethodName := ⟨RX3, "hasNumber", "(II)Z"⟩
abbrev cX3_clear : ByteArray := prog_5_method_4_code
def yX3_clear : MethodName := ⟨RX3, "clear", "(III)V"⟩
abbrev cX3_number : ByteArray := prog_5_method_5_code
def yX3_number : MethodName := ⟨RX3, "number", "(II)J"⟩
abbrev cX3_scale : ByteArray := prog_5_method_6_code
def yX3_scale : MethodName := ⟨RX3, "scale", "(IIJI)V"⟩
abbrev cX3_layFloat : ByteArray := prog_5_method_7_code
def yX3_layFloat : MethodName := ⟨RX3, "layFloat", "(IIF)V"⟩
abbrev cX3_asInt : ByteArray := prog_5_method_8_code
def yX3_asInt : MethodName := ⟨RX3, "asInt", "(II)I"⟩
abbrev cX3_isNought : ByteArray := prog_5_method_9_code
def yX3_isNought : MethodName := ⟨RX3, "isNought", "(II)Z"⟩
abbrev cX3_reduce : ByteArray := prog_5_method_10_code
def yX3_reduce : MethodName := ⟨RX3, "reduce", "(III)V"⟩
abbrev cX3_change : ByteArray := prog_5_method_11_code
def yX3_change : MethodName := ⟨RX3, "change", "(IIJ)V"⟩
def RX4 : String := "EngravedLines$Signs"
def TX4 : u_T := fun k => match k with
  | _ => ("EngravedLines$Signs", "parts", "[I", true)
def tyX4 : Nat → FieldType := fun k => match k with
  | _ => .array .int
abbrev wsX40 : List Cond := u_ws RX4 TX4 1
theorem nmX4 : ∀ a, a < 1 → ∀ b, b < 1 → a ≠ b → (TX4 a).2.1 ≠ (TX4 b).2.1 := by decide +kernel
theorem tyX4_ok : ∀ k, k < 1 → parseFieldDescriptor (TX4 k).2.2.1 = some (tyX4 k) := by decide +kernel
abbrev cX4_init : ByteArray := prog_6_method_1_code
def yX4_init : MethodName := ⟨RX4, "<init>", "()V"⟩
abbrev cX4_part : ByteArray := prog_6_method_2_code
def yX4_part : MethodName := ⟨RX4, "part", "(II)I"⟩
abbrev cX4_change : ByteArray := prog_6_method_3_code
def yX4_change : MethodName := ⟨RX4, "change", "(III)V"⟩
abbrev cX4_lay : ByteArray := prog_6_method_4_code
def yX4_lay : MethodName := ⟨RX4, "lay", "(IIIIII)V"⟩
abbrev cX4_clear : ByteArray := prog_6_method_5_code
def yX4_clear : MethodName := ⟨RX4, "clear", "(I)V"⟩
abbrev cX4_isMissing : ByteArray := prog_6_method_6_code
def yX4_isMissing : MethodName := ⟨RX4, "isMissing", "(I)Z"⟩
abbrev cX4_copySign : ByteArray := prog_6_method_7_code
def yX4_copySign : MethodName := ⟨RX4, "copySign", "(ILEngravedLines$Signs;I)V"⟩
abbrev cX4_become : ByteArray := prog_6_method_8_code
def yX4_become : MethodName := ⟨RX4, "become", "(LEngravedLines$Signs;)V"⟩
abbrev cX4_top : ByteArray := prog_6_method_9_code
def yX4_top : MethodName := ⟨RX4, "top", "(I)I"⟩
abbrev cX4_bottom : ByteArray := prog_6_method_10_code
def yX4_bottom : MethodName := ⟨RX4, "bottom", "(I)I"⟩
abbrev cX4_ideal : ByteArray := prog_6_method_11_code
def yX4_ideal : MethodName := ⟨RX4, "ideal", "(I)F"⟩
abbrev cX4_flex : ByteArray := prog_6_method_12_code
def yX4_flex : MethodName := ⟨RX4, "flex", "(IF)F"⟩
abbrev cX4_rod : ByteArray := prog_6_method_13_code
def yX4_rod : MethodName := ⟨RX4, "rod", "(I)F"⟩
def RX5 : String := "EngravedLines$Skyline"
def TX5 : u_T := fun k => match k with
  | 0 => ("EngravedLines$Skyline", "inked", "[Z", true)
  | 1 => ("EngravedLines$Skyline", "uppers", "[I", true)
  | _ => ("EngravedLines$Skyline", "lowers", "[I", true)
def tyX5 : Nat → FieldType := fun k => match k with
  | 0 => .array .boolean
  | 1 => .array .int
  | _ => .array .int
abbrev wsX50 : List Cond := u_ws RX5 TX5 3
theorem nmX5 : ∀ a, a < 3 → ∀ b, b < 3 → a ≠ b → (TX5 a).2.1 ≠ (TX5 b).2.1 := by decide +kernel
theorem tyX5_ok : ∀ k, k < 3 → parseFieldDescriptor (TX5 k).2.2.1 = some (tyX5 k) := by decide +kernel
abbrev cX5_init : ByteArray := prog_7_method_1_code
def yX5_init : MethodName := ⟨RX5, "<init>", "()V"⟩
abbrev cX5_trace : ByteArray := prog_7_method_2_code
def yX5_trace : MethodName := ⟨RX5, "trace", "(LEngravedLines$Signs;LEngravedLines$Stretch;)V"⟩
abbrev cX5_hasInk : ByteArray := prog_7_method_3_code
def yX5_hasInk : MethodName := ⟨RX5, "hasInk", "(I)Z"⟩
abbrev cX5_upper : ByteArray := prog_7_method_4_code
def yX5_upper : MethodName := ⟨RX5, "upper", "(I)I"⟩
abbrev cX5_lower : ByteArray := prog_7_method_5_code
def yX5_lower : MethodName := ⟨RX5, "lower", "(I)I"⟩
abbrev cX5_ink : ByteArray := prog_7_method_6_code
def yX5_ink : MethodName := ⟨RX5, "ink", "(IIII)V"⟩
def RX6 : String := "EngravedLines$Stretch"
def TX6 : u_T := fun k => match k with
  | 0 => ("EngravedLines$Stretch", "ideals", "[F", true)
  | 1 => ("EngravedLines$Stretch", "flexes", "[F", true)
  | 2 => ("EngravedLines$Stretch", "rods", "[F", true)
  | 3 => ("EngravedLines$Stretch", "areHeld", "[Z", true)
  | 4 => ("EngravedLines$Stretch", "lengths", "[F", true)
  | 5 => ("EngravedLines$Stretch", "places", "[F", true)
  | 6 => ("EngravedLines$Stretch", "first", "I", false)
  | 7 => ("EngravedLines$Stretch", "size", "I", false)
  | 8 => ("EngravedLines$Stretch", "lineWidth", "F", false)
  | _ => ("EngravedLines$Stretch", "pull", "F", false)
def tyX6 : Nat → FieldType := fun k => match k with
  | 0 => .array .float
  | 1 => .array .float
  | 2 => .array .float
  | 3 => .array .boolean
  | 4 => .array .float
  | 5 => .array .float
  | 6 => .int
  | 7 => .int
  | 8 => .float
  | _ => .float
abbrev wsX60 : List Cond := u_ws RX6 TX6 10
theorem nmX6 : ∀ a, a < 10 → ∀ b, b < 10 → a ≠ b → (TX6 a).2.1 ≠ (TX6 b).2.1 := by decide +kernel
theorem tyX6_ok : ∀ k, k < 10 → parseFieldDescriptor (TX6 k).2.2.1 = some (tyX6 k) := by decide +kernel
abbrev cX6_init : ByteArray := prog_8_method_1_code
def yX6_init : MethodName := ⟨RX6, "<init>", "()V"⟩
abbrev cX6_take : ByteArray := prog_8_method_2_code
def yX6_take : MethodName := ⟨RX6, "take", "(LEngravedLines$Signs;III)V"⟩
abbrev cX6_fits : ByteArray := prog_8_method_3_code
def yX6_fits : MethodName := ⟨RX6, "fits", "()Z"⟩
abbrev cX6_badness : ByteArray := prog_8_method_4_code
def yX6_badness : MethodName := ⟨RX6, "badness", "()F"⟩
abbrev cX6_settle : ByteArray := prog_8_method_5_code
def yX6_settle : MethodName := ⟨RX6, "settle", "(LEngravedLines$Signs;III)V"⟩
abbrev cX6_heldCount : ByteArray := prog_8_method_6_code
def yX6_heldCount : MethodName := ⟨RX6, "heldCount", "()I"⟩
abbrev cX6_length : ByteArray := prog_8_method_7_code
def yX6_length : MethodName := ⟨RX6, "length", "(I)F"⟩
abbrev cX6_place : ByteArray := prog_8_method_8_code
def yX6_place : MethodName := ⟨RX6, "place", "(I)F"⟩
abbrev cX6_cell : ByteArray := prog_8_method_9_code
def yX6_cell : MethodName := ⟨RX6, "cell", "(I)I"⟩
abbrev cX6_sum : ByteArray := prog_8_method_10_code
def yX6_sum : MethodName := ⟨RX6, "sum", "([F)F"⟩
abbrev cX6_balance : ByteArray := prog_8_method_11_code
def yX6_balance : MethodName := ⟨RX6, "balance", "()F"⟩
abbrev cX6_holdMore : ByteArray := prog_8_method_12_code
def yX6_holdMore : MethodName := ⟨RX6, "holdMore", "()Z"⟩
abbrev cX6_stretched : ByteArray := prog_8_method_13_code
def yX6_stretched : MethodName := ⟨RX6, "stretched", "(I)F"⟩
def RX7 : String := "EngravedLines$Tape"
def TX7 : u_T := fun k => match k with
  | 0 => ("EngravedLines$Tape", "bytes", "[I", true)
  | 1 => ("EngravedLines$Tape", "size", "I", false)
  | 2 => ("EngravedLines$Tape", "signs", "LEngravedLines$Signs;", true)
  | 3 => ("EngravedLines$Tape", "signCount", "I", false)
  | _ => ("EngravedLines$Tape", "next", "I", false)
def tyX7 : Nat → FieldType := fun k => match k with
  | 0 => .array .int
  | 1 => .int
  | 2 => .object "EngravedLines$Signs"
  | 3 => .int
  | _ => .int
abbrev wsX70 : List Cond := u_ws RX7 TX7 5
theorem nmX7 : ∀ a, a < 5 → ∀ b, b < 5 → a ≠ b → (TX7 a).2.1 ≠ (TX7 b).2.1 := by decide +kernel
theorem tyX7_ok : ∀ k, k < 5 → parseFieldDescriptor (TX7 k).2.2.1 = some (tyX7 k) := by decide +kernel
abbrev cX7_init : ByteArray := prog_9_method_1_code
def yX7_init : MethodName := ⟨RX7, "<init>", "()V"⟩
abbrev cX7_append : ByteArray := prog_9_method_2_code
def yX7_append : MethodName := ⟨RX7, "append", "(I)V"⟩
abbrev cX7_readMusic : ByteArray := prog_9_method_3_code
def yX7_readMusic : MethodName := ⟨RX7, "readMusic", "()I"⟩
abbrev cX7_isNext : ByteArray := prog_9_method_4_code
def yX7_isNext : MethodName := ⟨RX7, "isNext", "(C)Z"⟩
abbrev cX7_readSign : ByteArray := prog_9_method_5_code
def yX7_readSign : MethodName := ⟨RX7, "readSign", "()Z"⟩
abbrev cX7_readNumber : ByteArray := prog_9_method_6_code
def yX7_readNumber : MethodName := ⟨RX7, "readNumber", "(II)I"⟩
abbrev cX7_digit : ByteArray := prog_9_method_7_code
def yX7_digit : MethodName := ⟨RX7, "digit", "()I"⟩
abbrev cX7_readAdorn : ByteArray := prog_9_method_8_code
def yX7_readAdorn : MethodName := ⟨RX7, "readAdorn", "()I"⟩
abbrev cX7_keep : ByteArray := prog_9_method_9_code
def yX7_keep : MethodName := ⟨RX7, "keep", "(IIII)V"⟩
def RX8 : String := "EngravedLines"
def TX8 : u_T := fun k => match k with
  | 0 => ("EngravedLines", "now", "LEngravedLines$Page;", true)
  | 1 => ("EngravedLines", "kept", "LEngravedLines$Page;", true)
  | 2 => ("EngravedLines", "hasImage", "Z", false)
  | 3 => ("EngravedLines", "stretch", "LEngravedLines$Stretch;", true)
  | 4 => ("EngravedLines", "otherStretch", "LEngravedLines$Stretch;", true)
  | 5 => ("EngravedLines", "skyline", "LEngravedLines$Skyline;", true)
  | 6 => ("EngravedLines", "nextSkyline", "LEngravedLines$Skyline;", true)
  | 7 => ("EngravedLines", "best", "LEngravedLines$Best;", true)
  | 8 => ("EngravedLines", "otherBest", "LEngravedLines$Best;", true)
  | 9 => ("EngravedLines", "otherColumns", "LEngravedLines$Signs;", true)
  | 10 => ("EngravedLines", "tape", "LEngravedLines$Tape;", true)
  | 11 => ("EngravedLines", "sheets", "LEngravedLines$Sheets;", true)
  | _ => ("EngravedLines", "refusals", "[I", true)
def tyX8 : Nat → FieldType := fun k => match k with
  | 0 => .object "EngravedLines$Page"
  | 1 => .object "EngravedLines$Page"
  | 2 => .boolean
  | 3 => .object "EngravedLines$Stretch"
  | 4 => .object "EngravedLines$Stretch"
  | 5 => .object "EngravedLines$Skyline"
  | 6 => .object "EngravedLines$Skyline"
  | 7 => .object "EngravedLines$Best"
  | 8 => .object "EngravedLines$Best"
  | 9 => .object "EngravedLines$Signs"
  | 10 => .object "EngravedLines$Tape"
  | 11 => .object "EngravedLines$Sheets"
  | _ => .array .int
abbrev wsX80 : List Cond := u_ws RX8 TX8 13
theorem nmX8 : ∀ a, a < 13 → ∀ b, b < 13 → a ≠ b → (TX8 a).2.1 ≠ (TX8 b).2.1 := by decide +kernel
theorem tyX8_ok : ∀ k, k < 13 → parseFieldDescriptor (TX8 k).2.2.1 = some (tyX8 k) := by decide +kernel
abbrev cX8_init : ByteArray := prog_1_method_1_code
def yX8_init : MethodName := ⟨RX8, "<init>", "()V"⟩
abbrev cX8_add : ByteArray := prog_1_method_2_code
def yX8_add : MethodName := ⟨RX8, "add", "(II)I"⟩
abbrev cX8_drop : ByteArray := prog_1_method_3_code
def yX8_drop : MethodName := ⟨RX8, "drop", "()I"⟩
abbrev cX8_set : ByteArray := prog_1_method_4_code
def yX8_set : MethodName := ⟨RX8, "set", "(III)I"⟩
abbrev cX8_of : ByteArray := prog_1_method_5_code
def yX8_of : MethodName := ⟨RX8, "of", "(II)I"⟩
abbrev cX8_spring : ByteArray := prog_1_method_6_code
def yX8_spring : MethodName := ⟨RX8, "spring", "(II)I"⟩
abbrev cX8_width : ByteArray := prog_1_method_7_code
def yX8_width : MethodName := ⟨RX8, "width", "(I)I"⟩
abbrev cX8_force : ByteArray := prog_1_method_8_code
def yX8_force : MethodName := ⟨RX8, "force", "(II)I"⟩
abbrev cX8_held : ByteArray := prog_1_method_9_code
def yX8_held : MethodName := ⟨RX8, "held", "(II)I"⟩
abbrev cX8_at : ByteArray := prog_1_method_10_code
def yX8_at : MethodName := ⟨RX8, "at", "(IIII)I"⟩
abbrev cX8_bad : ByteArray := prog_1_method_11_code
def yX8_bad : MethodName := ⟨RX8, "bad", "(II)I"⟩
abbrev cX8_sky : ByteArray := prog_1_method_12_code
def yX8_sky : MethodName := ⟨RX8, "sky", "(IIII)I"⟩
abbrev cX8_apart : ByteArray := prog_1_method_13_code
def yX8_apart : MethodName := ⟨RX8, "apart", "(IIII)I"⟩
abbrev cX8_lines : ByteArray := prog_1_method_14_code
def yX8_lines : MethodName := ⟨RX8, "lines", "()I"⟩
abbrev cX8_line : ByteArray := prog_1_method_15_code
def yX8_line : MethodName := ⟨RX8, "line", "(II)I"⟩
abbrev cX8_total : ByteArray := prog_1_method_16_code
def yX8_total : MethodName := ⟨RX8, "total", "()I"⟩
abbrev cX8_moved : ByteArray := prog_1_method_17_code
def yX8_moved : MethodName := ⟨RX8, "moved", "(III)I"⟩
abbrev cX8_beam : ByteArray := prog_1_method_18_code
def yX8_beam : MethodName := ⟨RX8, "beam", "(III)I"⟩
abbrev cX8_slur : ByteArray := prog_1_method_19_code
def yX8_slur : MethodName := ⟨RX8, "slur", "(III)I"⟩
abbrev cX8_feed : ByteArray := prog_1_method_20_code
def yX8_feed : MethodName := ⟨RX8, "feed", "(I)I"⟩
abbrev cX8_music : ByteArray := prog_1_method_21_code
def yX8_music : MethodName := ⟨RX8, "music", "()I"⟩
abbrev cX8_shelf : ByteArray := prog_1_method_22_code
def yX8_shelf : MethodName := ⟨RX8, "shelf", "(III)I"⟩
abbrev cX8_store : ByteArray := prog_1_method_23_code
def yX8_store : MethodName := ⟨RX8, "store", "(III)I"⟩
abbrev cX8_fetch : ByteArray := prog_1_method_24_code
def yX8_fetch : MethodName := ⟨RX8, "fetch", "(III)I"⟩
abbrev cX8_comes : ByteArray := prog_1_method_25_code
def yX8_comes : MethodName := ⟨RX8, "comes", "(II)I"⟩
abbrev cX8_sheet : ByteArray := prog_1_method_26_code
def yX8_sheet : MethodName := ⟨RX8, "sheet", "(III)I"⟩
abbrev cX8_put : ByteArray := prog_1_method_27_code
def yX8_put : MethodName := ⟨RX8, "put", "(IIJI)I"⟩
abbrev cX8_bits : ByteArray := prog_1_method_28_code
def yX8_bits : MethodName := ⟨RX8, "bits", "(II)J"⟩
abbrev cX8_cast : ByteArray := prog_1_method_29_code
def yX8_cast : MethodName := ⟨RX8, "cast", "(II)I"⟩
abbrev cX8_rest : ByteArray := prog_1_method_30_code
def yX8_rest : MethodName := ⟨RX8, "rest", "(III)I"⟩
abbrev cX8_lays : ByteArray := prog_1_method_31_code
def yX8_lays : MethodName := ⟨RX8, "lays", "(III)I"⟩
abbrev cX8_image : ByteArray := prog_1_method_32_code
def yX8_image : MethodName := ⟨RX8, "image", "()I"⟩
abbrev cX8_restore : ByteArray := prog_1_method_33_code
def yX8_restore : MethodName := ⟨RX8, "restore", "()I"⟩
abbrev cX8_count : ByteArray := prog_1_method_34_code
def yX8_count : MethodName := ⟨RX8, "count", "(I)I"⟩
abbrev cX8_told : ByteArray := prog_1_method_35_code
def yX8_told : MethodName := ⟨RX8, "told", "(I)I"⟩
abbrev cX8_refuse : ByteArray := prog_1_method_36_code
def yX8_refuse : MethodName := ⟨RX8, "refuse", "(I)I"⟩
abbrev cX8_refuseLong : ByteArray := prog_1_method_37_code
def yX8_refuseLong : MethodName := ⟨RX8, "refuseLong", "(I)J"⟩
abbrev cX8_isColumn : ByteArray := prog_1_method_38_code
def yX8_isColumn : MethodName := ⟨RX8, "isColumn", "(I)Z"⟩
abbrev cX8_isStretch : ByteArray := prog_1_method_39_code
def yX8_isStretch : MethodName := ⟨RX8, "isStretch", "(II)Z"⟩
abbrev cX8_findBest : ByteArray := prog_1_method_40_code
def yX8_findBest : MethodName := ⟨RX8, "findBest", "()V"⟩
abbrev cX8_traceLine : ByteArray := prog_1_method_41_code
def yX8_traceLine : MethodName := ⟨RX8, "traceLine", "(LEngravedLines$Skyline;II)V"⟩
abbrev cX8_distance : ByteArray := prog_1_method_42_code
def yX8_distance : MethodName := ⟨RX8, "distance", "(IIII)I"⟩
abbrev cX8_standsOtherwise : ByteArray := prog_1_method_43_code
def yX8_standsOtherwise : MethodName := ⟨RX8, "standsOtherwise", "(I)Z"⟩
abbrev cX8_areNotes : ByteArray := prog_1_method_44_code
def yX8_areNotes : MethodName := ⟨RX8, "areNotes", "(II)Z"⟩
abbrev cX8_beamRise : ByteArray := prog_1_method_45_code
def yX8_beamRise : MethodName := ⟨RX8, "beamRise", "(II)F"⟩
abbrev cX8_beamSlope : ByteArray := prog_1_method_46_code
def yX8_beamSlope : MethodName := ⟨RX8, "beamSlope", "(II)F"⟩
abbrev cX8_beamGoesUp : ByteArray := prog_1_method_47_code
def yX8_beamGoesUp : MethodName := ⟨RX8, "beamGoesUp", "(II)Z"⟩
abbrev cX8_beamLift : ByteArray := prog_1_method_48_code
def yX8_beamLift : MethodName := ⟨RX8, "beamLift", "(II)F"⟩
abbrev cX8_slurHeight : ByteArray := prog_1_method_49_code
def yX8_slurHeight : MethodName := ⟨RX8, "slurHeight", "(IIZ)I"⟩
abbrev cX8_inkTowards : ByteArray := prog_1_method_50_code
def yX8_inkTowards : MethodName := ⟨RX8, "inkTowards", "(IZ)I"⟩
abbrev cX8_countNotes : ByteArray := prog_1_method_51_code
def yX8_countNotes : MethodName := ⟨RX8, "countNotes", "()I"⟩
abbrev cX8_sumDurations : ByteArray := prog_1_method_52_code
def yX8_sumDurations : MethodName := ⟨RX8, "sumDurations", "()I"⟩
abbrev cX8_isHeight : ByteArray := prog_1_method_53_code
def yX8_isHeight : MethodName := ⟨RX8, "isHeight", "(I)Z"⟩
abbrev cX8_isWithin : ByteArray := prog_1_method_54_code
def yX8_isWithin : MethodName := ⟨RX8, "isWithin", "(III)Z"⟩
abbrev cX8_isAllowed : ByteArray := prog_1_method_55_code
def yX8_isAllowed : MethodName := ⟨RX8, "isAllowed", "(II)Z"⟩
abbrev cX8_floatBits : ByteArray := prog_1_method_56_code
def yX8_floatBits : MethodName := ⟨RX8, "floatBits", "(F)I"⟩
abbrev cX8_readInt : ByteArray := prog_1_method_57_code
def yX8_readInt : MethodName := ⟨RX8, "readInt", "([II)I"⟩
abbrev cX8_writeInt : ByteArray := prog_1_method_58_code
def yX8_writeInt : MethodName := ⟨RX8, "writeInt", "([III)V"⟩
abbrev cX8_readFloat : ByteArray := prog_1_method_59_code
def yX8_readFloat : MethodName := ⟨RX8, "readFloat", "([FI)F"⟩
abbrev cX8_writeFloat : ByteArray := prog_1_method_60_code
def yX8_writeFloat : MethodName := ⟨RX8, "writeFloat", "([FIF)V"⟩
abbrev cX8_readLong : ByteArray := prog_1_method_61_code
def yX8_readLong : MethodName := ⟨RX8, "readLong", "([JI)J"⟩
abbrev cX8_writeLong : ByteArray := prog_1_method_62_code
def yX8_writeLong : MethodName := ⟨RX8, "writeLong", "([JIJ)V"⟩
abbrev cX8_readFlag : ByteArray := prog_1_method_63_code
def yX8_readFlag : MethodName := ⟨RX8, "readFlag", "([ZI)Z"⟩
abbrev cX8_writeFlag : ByteArray := prog_1_method_64_code
def yX8_writeFlag : MethodName := ⟨RX8, "writeFlag", "([ZIZ)V"⟩
abbrev cX8_copy : ByteArray := prog_1_method_65_code
def yX8_copy : MethodName := ⟨RX8, "copy", "([I[I)V"⟩
def RX9 : String := "EngravedLinesModel"
def TX9 : u_T := fun k => match k with
  | 0 => ("EngravedLinesModel", "now", "[I", true)
  | 1 => ("EngravedLinesModel", "kept", "[I", true)
  | 2 => ("EngravedLinesModel", "isKept", "Z", false)
  | 3 => ("EngravedLinesModel", "met", "[I", true)
  | 4 => ("EngravedLinesModel", "force", "F", false)
  | 5 => ("EngravedLinesModel", "heldMany", "I", false)
  | 6 => ("EngravedLinesModel", "isHeld", "[Z", true)
  | 7 => ("EngravedLinesModel", "length", "[F", true)
  | 8 => ("EngravedLinesModel", "at", "[F", true)
  | 9 => ("EngravedLinesModel", "badness", "F", false)
  | 10 => ("EngravedLinesModel", "upper", "[I", true)
  | 11 => ("EngravedLinesModel", "lower", "[I", true)
  | 12 => ("EngravedLinesModel", "aside", "[I", true)
  | 13 => ("EngravedLinesModel", "least", "[F", true)
  | 14 => ("EngravedLinesModel", "from", "[I", true)
  | 15 => ("EngravedLinesModel", "lineMany", "I", false)
  | 16 => ("EngravedLinesModel", "begin", "[I", true)
  | 17 => ("EngravedLinesModel", "end", "[I", true)
  | 18 => ("EngravedLinesModel", "wereMany", "I", false)
  | 19 => ("EngravedLinesModel", "wasBegin", "[I", true)
  | 20 => ("EngravedLinesModel", "wasEnd", "[I", true)
  | 21 => ("EngravedLinesModel", "wasAt", "[F", true)
  | 22 => ("EngravedLinesModel", "tape", "[I", true)
  | 23 => ("EngravedLinesModel", "taped", "I", false)
  | 24 => ("EngravedLinesModel", "place", "I", false)
  | 25 => ("EngravedLinesModel", "good", "Z", false)
  | 26 => ("EngravedLinesModel", "read", "[I", true)
  | 27 => ("EngravedLinesModel", "readMany", "I", false)
  | 28 => ("EngravedLinesModel", "sort", "[I", true)
  | 29 => ("EngravedLinesModel", "size", "[I", true)
  | 30 => ("EngravedLinesModel", "singles", "[F", true)
  | 31 => ("EngravedLinesModel", "doubles", "[D", true)
  | _ => ("EngravedLinesModel", "wholes", "[I", true)
def tyX9 : Nat → FieldType := fun k => match k with
  | 0 => .array .int
  | 1 => .array .int
  | 2 => .boolean
  | 3 => .array .int
  | 4 => .float
  | 5 => .int
  | 6 => .array .boolean
  | 7 => .array .float
  | 8 => .array .float
  | 9 => .float
  | 10 => .array .int
  | 11 => .array .int
  | 12 => .array .int
  | 13 => .array .float
  | 14 => .array .int
  | 15 => .int
  | 16 => .array .int
  | 17 => .array .int
  | 18 => .int
  | 19 => .array .int
  | 20 => .array .int
  | 21 => .array .float
  | 22 => .array .int
  | 23 => .int
  | 24 => .int
  | 25 => .boolean
  | 26 => .array .int
  | 27 => .int
  | 28 => .array .int
  | 29 => .array .int
  | 30 => .array .float
  | 31 => .array .double
  | _ => .array .int
abbrev wsX90 : List Cond := u_ws RX9 TX9 33
theorem nmX9 : ∀ a, a < 33 → ∀ b, b < 33 → a ≠ b → (TX9 a).2.1 ≠ (TX9 b).2.1 := by decide +kernel
theorem tyX9_ok : ∀ k, k < 33 → parseFieldDescriptor (TX9 k).2.2.1 = some (tyX9 k) := by decide +kernel
abbrev cX9_init : ByteArray := prog_11_method_1_code
def yX9_init : MethodName := ⟨RX9, "<init>", "()V"⟩
abbrev cX9_in : ByteArray := prog_11_method_2_code
def yX9_in : MethodName := ⟨RX9, "in", "(JJJ)Z"⟩
abbrev cX9_errs : ByteArray := prog_11_method_3_code
def yX9_errs : MethodName := ⟨RX9, "errs", "(I)I"⟩
abbrev cX9_errsLong : ByteArray := prog_11_method_4_code
def yX9_errsLong : MethodName := ⟨RX9, "errsLong", "(I)J"⟩
abbrev cX9_copy : ByteArray := prog_11_method_5_code
def yX9_copy : MethodName := ⟨RX9, "copy", "([I[I)V"⟩
abbrev cX9_its : ByteArray := prog_11_method_6_code
def yX9_its : MethodName := ⟨RX9, "its", "(II)I"⟩
abbrev cX9_sets : ByteArray := prog_11_method_7_code
def yX9_sets : MethodName := ⟨RX9, "sets", "(III)V"⟩
abbrev cX9_isColumn : ByteArray := prog_11_method_8_code
def yX9_isColumn : MethodName := ⟨RX9, "isColumn", "(I)Z"⟩
abbrev cX9_mayBe : ByteArray := prog_11_method_9_code
def yX9_mayBe : MethodName := ⟨RX9, "mayBe", "(II)Z"⟩
abbrev cX9_comes : ByteArray := prog_11_method_10_code
def yX9_comes : MethodName := ⟨RX9, "comes", "(IIIII)I"⟩
abbrev cX9_add : ByteArray := prog_11_method_11_code
def yX9_add : MethodName := ⟨RX9, "add", "(II)I"⟩
abbrev cX9_drop : ByteArray := prog_11_method_12_code
def yX9_drop : MethodName := ⟨RX9, "drop", "()I"⟩
abbrev cX9_set : ByteArray := prog_11_method_13_code
def yX9_set : MethodName := ⟨RX9, "set", "(III)I"⟩
abbrev cX9_topOf : ByteArray := prog_11_method_14_code
def yX9_topOf : MethodName := ⟨RX9, "topOf", "(III)I"⟩
abbrev cX9_top : ByteArray := prog_11_method_15_code
def yX9_top : MethodName := ⟨RX9, "top", "(I)I"⟩
abbrev cX9_bottom : ByteArray := prog_11_method_16_code
def yX9_bottom : MethodName := ⟨RX9, "bottom", "(I)I"⟩
abbrev cX9_of : ByteArray := prog_11_method_17_code
def yX9_of : MethodName := ⟨RX9, "of", "(II)I"⟩
abbrev cX9_ideal : ByteArray := prog_11_method_18_code
def yX9_ideal : MethodName := ⟨RX9, "ideal", "(I)F"⟩
abbrev cX9_flex : ByteArray := prog_11_method_19_code
def yX9_flex : MethodName := ⟨RX9, "flex", "(I)F"⟩
abbrev cX9_rod : ByteArray := prog_11_method_20_code
def yX9_rod : MethodName := ⟨RX9, "rod", "(I)F"⟩
abbrev cX9_spring : ByteArray := prog_11_method_21_code
def yX9_spring : MethodName := ⟨RX9, "spring", "(II)I"⟩
abbrev cX9_width : ByteArray := prog_11_method_22_code
def yX9_width : MethodName := ⟨RX9, "width", "(I)I"⟩
abbrev cX9_wanted : ByteArray := prog_11_method_23_code
def yX9_wanted : MethodName := ⟨RX9, "wanted", "(I)F"⟩
abbrev cX9_forceOf : ByteArray := prog_11_method_24_code
def yX9_forceOf : MethodName := ⟨RX9, "forceOf", "(II)V"⟩
abbrev cX9_laysOut : ByteArray := prog_11_method_25_code
def yX9_laysOut : MethodName := ⟨RX9, "laysOut", "(II)V"⟩
abbrev cX9_isStretch : ByteArray := prog_11_method_26_code
def yX9_isStretch : MethodName := ⟨RX9, "isStretch", "(II)Z"⟩
abbrev cX9_force : ByteArray := prog_11_method_27_code
def yX9_force : MethodName := ⟨RX9, "force", "(II)I"⟩
abbrev cX9_held : ByteArray := prog_11_method_28_code
def yX9_held : MethodName := ⟨RX9, "held", "(II)I"⟩
abbrev cX9_at : ByteArray := prog_11_method_29_code
def yX9_at : MethodName := ⟨RX9, "at", "(IIII)I"⟩
abbrev cX9_isGood : ByteArray := prog_11_method_30_code
def yX9_isGood : MethodName := ⟨RX9, "isGood", "(II)Z"⟩
abbrev cX9_bad : ByteArray := prog_11_method_31_code
def yX9_bad : MethodName := ⟨RX9, "bad", "(II)I"⟩
abbrev cX9_inks : ByteArray := prog_11_method_32_code
def yX9_inks : MethodName := ⟨RX9, "inks", "(II)V"⟩
abbrev cX9_sky : ByteArray := prog_11_method_33_code
def yX9_sky : MethodName := ⟨RX9, "sky", "(IIII)I"⟩
abbrev cX9_apartOf : ByteArray := prog_11_method_34_code
def yX9_apartOf : MethodName := ⟨RX9, "apartOf", "(IIII)I"⟩
abbrev cX9_apart : ByteArray := prog_11_method_35_code
def yX9_apart : MethodName := ⟨RX9, "apart", "(IIII)I"⟩
abbrev cX9_isEnd : ByteArray := prog_11_method_36_code
def yX9_isEnd : MethodName := ⟨RX9, "isEnd", "(I)Z"⟩
abbrev cX9_bestTo : ByteArray := prog_11_method_37_code
def yX9_bestTo : MethodName := ⟨RX9, "bestTo", "(I)V"⟩
abbrev cX9_breaks : ByteArray := prog_11_method_38_code
def yX9_breaks : MethodName := ⟨RX9, "breaks", "()Z"⟩
abbrev cX9_lines : ByteArray := prog_11_method_39_code
def yX9_lines : MethodName := ⟨RX9, "lines", "()I"⟩
abbrev cX9_line : ByteArray := prog_11_method_40_code
def yX9_line : MethodName := ⟨RX9, "line", "(II)I"⟩
abbrev cX9_total : ByteArray := prog_11_method_41_code
def yX9_total : MethodName := ⟨RX9, "total", "()I"⟩
abbrev cX9_keepsLines : ByteArray := prog_11_method_42_code
def yX9_keepsLines : MethodName := ⟨RX9, "keepsLines", "()V"⟩
abbrev cX9_isAsWas : ByteArray := prog_11_method_43_code
def yX9_isAsWas : MethodName := ⟨RX9, "isAsWas", "(I)Z"⟩
abbrev cX9_moved : ByteArray := prog_11_method_44_code
def yX9_moved : MethodName := ⟨RX9, "moved", "(III)I"⟩
abbrev cX9_whole : ByteArray := prog_11_method_45_code
def yX9_whole : MethodName := ⟨RX9, "whole", "(F)F"⟩
abbrev cX9_rise : ByteArray := prog_11_method_46_code
def yX9_rise : MethodName := ⟨RX9, "rise", "(II)F"⟩
abbrev cX9_slope : ByteArray := prog_11_method_47_code
def yX9_slope : MethodName := ⟨RX9, "slope", "(II)F"⟩
abbrev cX9_isUp : ByteArray := prog_11_method_48_code
def yX9_isUp : MethodName := ⟨RX9, "isUp", "(II)Z"⟩
abbrev cX9_lift : ByteArray := prog_11_method_49_code
def yX9_lift : MethodName := ⟨RX9, "lift", "(II)F"⟩
abbrev cX9_areNotes : ByteArray := prog_11_method_50_code
def yX9_areNotes : MethodName := ⟨RX9, "areNotes", "(II)Z"⟩
abbrev cX9_beam : ByteArray := prog_11_method_51_code
def yX9_beam : MethodName := ⟨RX9, "beam", "(III)I"⟩
abbrev cX9_ink : ByteArray := prog_11_method_52_code
def yX9_ink : MethodName := ⟨RX9, "ink", "(II)I"⟩
abbrev cX9_height : ByteArray := prog_11_method_53_code
def yX9_height : MethodName := ⟨RX9, "height", "(III)I"⟩
abbrev cX9_slur : ByteArray := prog_11_method_54_code
def yX9_slur : MethodName := ⟨RX9, "slur", "(III)I"⟩
abbrev cX9_feed : ByteArray := prog_11_method_55_code
def yX9_feed : MethodName := ⟨RX9, "feed", "(I)I"⟩
abbrev cX9_takes : ByteArray := prog_11_method_56_code
def yX9_takes : MethodName := ⟨RX9, "takes", "(I)Z"⟩
abbrev cX9_isDigit : ByteArray := prog_11_method_57_code
def yX9_isDigit : MethodName := ⟨RX9, "isDigit", "()Z"⟩
abbrev cX9_number : ByteArray := prog_11_method_58_code
def yX9_number : MethodName := ⟨RX9, "number", "(II)I"⟩
abbrev cX9_sign : ByteArray := prog_11_method_59_code
def yX9_sign : MethodName := ⟨RX9, "sign", "()V"⟩
abbrev cX9_music : ByteArray := prog_11_method_60_code
def yX9_music : MethodName := ⟨RX9, "music", "()I"⟩
abbrev cX9_isShelf : ByteArray := prog_11_method_61_code
def yX9_isShelf : MethodName := ⟨RX9, "isShelf", "(I)Z"⟩
abbrev cX9_shelfAt : ByteArray := prog_11_method_62_code
def yX9_shelfAt : MethodName := ⟨RX9, "shelfAt", "(I)I"⟩
abbrev cX9_isPlace : ByteArray := prog_11_method_63_code
def yX9_isPlace : MethodName := ⟨RX9, "isPlace", "(II)Z"⟩
abbrev cX9_placeAt : ByteArray := prog_11_method_64_code
def yX9_placeAt : MethodName := ⟨RX9, "placeAt", "(II)I"⟩
abbrev cX9_shelf : ByteArray := prog_11_method_65_code
def yX9_shelf : MethodName := ⟨RX9, "shelf", "(III)I"⟩
abbrev cX9_store : ByteArray := prog_11_method_66_code
def yX9_store : MethodName := ⟨RX9, "store", "(III)I"⟩
abbrev cX9_fetch : ByteArray := prog_11_method_67_code
def yX9_fetch : MethodName := ⟨RX9, "fetch", "(III)I"⟩
abbrev cX9_comes_ : ByteArray := prog_11_method_68_code
def yX9_comes_ : MethodName := ⟨RX9, "comes", "(II)I"⟩
abbrev cX9_isSheet : ByteArray := prog_11_method_69_code
def yX9_isSheet : MethodName := ⟨RX9, "isSheet", "(I)Z"⟩
abbrev cX9_sheet : ByteArray := prog_11_method_70_code
def yX9_sheet : MethodName := ⟨RX9, "sheet", "(III)I"⟩
abbrev cX9_isItem : ByteArray := prog_11_method_71_code
def yX9_isItem : MethodName := ⟨RX9, "isItem", "(II)Z"⟩
abbrev cX9_narrow : ByteArray := prog_11_method_72_code
def yX9_narrow : MethodName := ⟨RX9, "narrow", "(II)I"⟩
abbrev cX9_put : ByteArray := prog_11_method_73_code
def yX9_put : MethodName := ⟨RX9, "put", "(IIJI)I"⟩
abbrev cX9_bits : ByteArray := prog_11_method_74_code
def yX9_bits : MethodName := ⟨RX9, "bits", "(II)J"⟩
abbrev cX9_cast : ByteArray := prog_11_method_75_code
def yX9_cast : MethodName := ⟨RX9, "cast", "(II)I"⟩
abbrev cX9_isNought : ByteArray := prog_11_method_76_code
def yX9_isNought : MethodName := ⟨RX9, "isNought", "(II)Z"⟩
abbrev cX9_rest : ByteArray := prog_11_method_77_code
def yX9_rest : MethodName := ⟨RX9, "rest", "(III)I"⟩
abbrev cX9_lays : ByteArray := prog_11_method_78_code
def yX9_lays : MethodName := ⟨RX9, "lays", "(III)I"⟩
abbrev cX9_image : ByteArray := prog_11_method_79_code
def yX9_image : MethodName := ⟨RX9, "image", "()I"⟩
abbrev cX9_restore : ByteArray := prog_11_method_80_code
def yX9_restore : MethodName := ⟨RX9, "restore", "()I"⟩
abbrev cX9_notes : ByteArray := prog_11_method_81_code
def yX9_notes : MethodName := ⟨RX9, "notes", "()I"⟩
abbrev cX9_durations : ByteArray := prog_11_method_82_code
def yX9_durations : MethodName := ⟨RX9, "durations", "()I"⟩
abbrev cX9_shelved : ByteArray := prog_11_method_83_code
def yX9_shelved : MethodName := ⟨RX9, "shelved", "()I"⟩
abbrev cX9_count : ByteArray := prog_11_method_84_code
def yX9_count : MethodName := ⟨RX9, "count", "(I)I"⟩
abbrev cX9_told : ByteArray := prog_11_method_85_code
def yX9_told : MethodName := ⟨RX9, "told", "(I)I"⟩
def RJxe99ae : String := "java/lang/Double"
def TJxe99ae : u_T := fun k => match k with
  | _ => ("", "", "", false)
def tyJxe99ae : Nat → FieldType := fun k => match k with
  | _ => .int
abbrev wsJxe99ae0 : List Cond := u_ws RJxe99ae TJxe99ae 0
theorem nmJxe99ae : ∀ a, a < 0 → ∀ b, b < 0 → a ≠ b → (TJxe99ae a).2.1 ≠ (TJxe99ae b).2.1 := by decide +kernel
theorem tyJxe99ae_ok : ∀ k, k < 0 → parseFieldDescriptor (TJxe99ae k).2.2.1 = some (tyJxe99ae k) := by decide +kernel
abbrev cJxe99ae_isNaN_b9ae7 : ByteArray := prog_12_method_6_code
def yJxe99ae_isNaN_b9ae7 : MethodName := ⟨RJxe99ae, "isNaN", "(D)Z"⟩
abbrev cJxe99ae_doubleToLongBits_ccdee : ByteArray := prog_12_method_23_code
def yJxe99ae_doubleToLongBits_ccdee : MethodName := ⟨RJxe99ae, "doubleToLongBits", "(D)J"⟩
def RJxf58ca : String := "java/lang/Float"
def TJxf58ca : u_T := fun k => match k with
  | _ => ("", "", "", false)
def tyJxf58ca : Nat → FieldType := fun k => match k with
  | _ => .int
abbrev wsJxf58ca0 : List Cond := u_ws RJxf58ca TJxf58ca 0
theorem nmJxf58ca : ∀ a, a < 0 → ∀ b, b < 0 → a ≠ b → (TJxf58ca a).2.1 ≠ (TJxf58ca b).2.1 := by decide +kernel
theorem tyJxf58ca_ok : ∀ k, k < 0 → parseFieldDescriptor (TJxf58ca k).2.2.1 = some (tyJxf58ca k) := by decide +kernel
abbrev cJxf58ca_isNaN_12338 : ByteArray := prog_13_method_6_code
def yJxf58ca_isNaN_12338 : MethodName := ⟨RJxf58ca, "isNaN", "(F)Z"⟩
abbrev cJxf58ca_floatToIntBits_5c35a : ByteArray := prog_13_method_24_code
def yJxf58ca_floatToIntBits_5c35a : MethodName := ⟨RJxf58ca, "floatToIntBits", "(F)I"⟩
def RJ9 : String := "java/lang/Math"
def TJ9 : u_T := fun k => match k with
  | _ => ("", "", "", false)
def tyJ9 : Nat → FieldType := fun k => match k with
  | _ => .int
abbrev wsJ90 : List Cond := u_ws RJ9 TJ9 0
theorem nmJ9 : ∀ a, a < 0 → ∀ b, b < 0 → a ≠ b → (TJ9 a).2.1 ≠ (TJ9 b).2.1 := by decide +kernel
theorem tyJ9_ok : ∀ k, k < 0 → parseFieldDescriptor (TJ9 k).2.2.1 = some (tyJ9 k) := by decide +kernel
abbrev cJ9_max_7cf53 : ByteArray := prog_14_method_65_code
def yJ9_max_7cf53 : MethodName := ⟨RJ9, "max", "(II)I"⟩
abbrev cJ9_min_7cf53 : ByteArray := prog_14_method_69_code
def yJ9_min_7cf53 : MethodName := ⟨RJ9, "min", "(II)I"⟩
def RL : String := "EngravedLinesLaw"
abbrev cL_law : ByteArray := code
def yL_law : MethodName := ⟨RL, "law", "([I)Z"⟩
abbrev vwCl : List vw_C := [(RX0, TX0, 7), (RX1, TX1, 6), (RX3, TX3, 3), (RX4, TX4, 1), (RX5, TX5, 3), (RX6, TX6, 10), (RX7, TX7, 5), (RX8, TX8, 13), (RX9, TX9, 33)]
/-- the decoded code of a method: pc, instruction, length -/
abbrev pTab : Type := List (Nat × Instr × Nat)
def pTabOk (c : ByteArray) (t : pTab) : Bool := t.all fun q => decide (decode c q.1 = .ok (q.2.1, q.2.2))
end
section
def tbX0_init : pTab := [(0, .aload_n 0, 1), (1, .invokespecial 3, 3), (4, .aload_n 0, 1), (5, .bipush 33, 2), (7, .newarray .int, 2), (9, .putfield 9, 3), (12, .aload_n 0, 1), (13, .bipush 33, 2), (15, .newarray .float, 2), (17, .putfield 15, 3), (20, .aload_n 0, 1), (21, .bipush 33, 2), (23, .newarray .int, 2), (25, .putfield 19, 3), (28, .aload_n 0, 1), (29, .new 22, 3), (32, .dup, 1), (33, .invokespecial 24, 3), (36, .putfield 25, 3), (39, .aload_n 0, 1), (40, .iconst 0, 1), (41, .putfield 29, 3), (44, .aload_n 0, 1), (45, .iconst 0, 1), (46, .putfield 33, 3), (49, .aload_n 0, 1), (50, .fconst 0, 1), (51, .putfield 37, 3), (54, .return_, 1)]
theorem tbX0_init_ok : pTabOk cX0_init tbX0_init = true := by decide +kernel
def tbX0_find : pTab := [(0, .aload_n 0, 1), (1, .iconst 0, 1), (2, .putfield 33, 3), (5, .aload_n 1, 1), (6, .ifnonnull 4, 3), (9, .return_, 1), (10, .aload_n 0, 1), (11, .getfield 9, 3), (14, .iconst 0, 1), (15, .iconst 0, 1), (16, .invokestatic 41, 3), (19, .aload_n 0, 1), (20, .getfield 15, 3), (23, .iconst 0, 1), (24, .fconst 0, 1), (25, .invokestatic 45, 3), (28, .iconst 1, 1), (29, .istore 4, 2), (31, .iload 4, 2), (33, .iload_n 2, 1), (34, .if_icmp .gt 46, 3), (37, .aload_n 0, 1), (38, .getfield 9, 3), (41, .iload 4, 2), (43, .iconst (-1), 1), (44, .invokestatic 41, 3), (47, .iload 4, 2), (49, .iload_n 2, 1), (50, .if_icmp .eq 16, 3), (53, .aload_n 1, 1), (54, .iload 4, 2), (56, .iconst 1, 1), (57, .isub, 1), (58, .iconst 0, 1), (59, .invokevirtual 49, 3), (62, .iconst 2, 1), (63, .if_icmp .ne 11, 3), (66, .aload_n 0, 1), (67, .iload 4, 2), (69, .aload_n 1, 1), (70, .iload_n 3, 1), (71, .invokevirtual 55, 3), (74, .iinc 4 1, 3), (77, .goto (-46), 3), (80, .aload_n 0, 1), (81, .aload_n 0, 1), (82, .getfield 9, 3), (85, .iload_n 2, 1), (86, .invokestatic 59, 3), (89, .iconst (-1), 1), (90, .if_icmp .eq 7, 3), (93, .iconst 1, 1), (94, .goto 4, 3), (97, .iconst 0, 1), (98, .putfield 33, 3), (101, .aload_n 0, 1), (102, .aload_n 0, 1), (103, .getfield 15, 3), (106, .iload_n 2, 1), (107, .invokestatic 63, 3), (110, .putfield 37, 3), (113, .aload_n 0, 1), (114, .iload_n 2, 1), (115, .invokevirtual 67, 3), (118, .return_, 1)]
theorem tbX0_find_ok : pTabOk cX0_find tbX0_find = true := by decide +kernel
def tbX0_first : pTab := [(0, .aload_n 0, 1), (1, .getfield 19, 3), (4, .iload_n 1, 1), (5, .invokestatic 59, 3), (8, .ireturn, 1)]
theorem tbX0_first_ok : pTabOk cX0_first tbX0_first = true := by decide +kernel
def tbX0_last : pTab := [(0, .aload_n 0, 1), (1, .getfield 19, 3), (4, .iload_n 1, 1), (5, .iconst 1, 1), (6, .iadd, 1), (7, .invokestatic 59, 3), (10, .iconst 1, 1), (11, .isub, 1), (12, .ireturn, 1)]
theorem tbX0_last_ok : pTabOk cX0_last tbX0_last = true := by decide +kernel
def tbX0_reach : pTab := [(0, .iconst 0, 1), (1, .istore 4, 2), (3, .iload 4, 2), (5, .iload_n 1, 1), (6, .if_icmp .ge 117, 3), (9, .aload_n 0, 1), (10, .getfield 9, 3), (13, .iload 4, 2), (15, .invokestatic 59, 3), (18, .iconst (-1), 1), (19, .if_icmp .ne 6, 3), (22, .goto 95, 3), (25, .aload_n 0, 1), (26, .getfield 25, 3), (29, .aload_n 2, 1), (30, .iload 4, 2), (32, .iload_n 1, 1), (33, .iconst 1, 1), (34, .isub, 1), (35, .iload_n 3, 1), (36, .invokevirtual 71, 3), (39, .aload_n 0, 1), (40, .getfield 25, 3), (43, .invokevirtual 75, 3), (46, .ifCond .ne 6, 3), (49, .goto 68, 3), (52, .aload_n 0, 1), (53, .getfield 15, 3), (56, .iload 4, 2), (58, .invokestatic 63, 3), (61, .aload_n 0, 1), (62, .getfield 25, 3), (65, .invokevirtual 79, 3), (68, .fadd, 1), (69, .fstore 5, 2), (71, .aload_n 0, 1), (72, .getfield 9, 3), (75, .iload_n 1, 1), (76, .invokestatic 59, 3), (79, .iconst (-1), 1), (80, .if_icmp .eq 17, 3), (83, .fload 5, 2), (85, .aload_n 0, 1), (86, .getfield 15, 3), (89, .iload_n 1, 1), (90, .invokestatic 63, 3), (93, .fcmp .g, 1), (94, .ifCond .ge 23, 3), (97, .aload_n 0, 1), (98, .getfield 9, 3), (101, .iload_n 1, 1), (102, .iload 4, 2), (104, .invokestatic 41, 3), (107, .aload_n 0, 1), (108, .getfield 15, 3), (111, .iload_n 1, 1), (112, .fload 5, 2), (114, .invokestatic 45, 3), (117, .iinc 4 1, 3), (120, .goto (-117), 3), (123, .return_, 1)]
theorem tbX0_reach_ok : pTabOk cX0_reach tbX0_reach = true := by decide +kernel
def tbX0_traceBack : pTab := [(0, .aload_n 0, 1), (1, .iconst 0, 1), (2, .putfield 29, 3), (5, .aload_n 0, 1), (6, .getfield 33, 3), (9, .ifCond .ne 4, 3), (12, .return_, 1), (13, .iload_n 1, 1), (14, .istore_n 2, 1), (15, .iload_n 2, 1), (16, .ifCond .le 34, 3), (19, .aload_n 0, 1), (20, .getfield 29, 3), (23, .bipush 32, 2), (25, .if_icmp .ge 25, 3), (28, .aload_n 0, 1), (29, .dup, 1), (30, .getfield 29, 3), (33, .iconst 1, 1), (34, .iadd, 1), (35, .putfield 29, 3), (38, .aload_n 0, 1), (39, .getfield 9, 3), (42, .iload_n 2, 1), (43, .invokestatic 59, 3), (46, .istore_n 2, 1), (47, .goto (-32), 3), (50, .iload_n 1, 1), (51, .istore_n 2, 1), (52, .aload_n 0, 1), (53, .getfield 29, 3), (56, .istore_n 3, 1), (57, .iload_n 3, 1), (58, .ifCond .lt 27, 3), (61, .aload_n 0, 1), (62, .getfield 19, 3), (65, .iload_n 3, 1), (66, .iload_n 2, 1), (67, .invokestatic 41, 3), (70, .aload_n 0, 1), (71, .getfield 9, 3), (74, .iload_n 2, 1), (75, .invokestatic 59, 3), (78, .istore_n 2, 1), (79, .iinc 3 (-1), 3), (82, .goto (-25), 3), (85, .return_, 1)]
theorem tbX0_traceBack_ok : pTabOk cX0_traceBack tbX0_traceBack = true := by decide +kernel
def tbX1_init : pTab := [(0, .aload_n 0, 1), (1, .invokespecial 3, 3), (4, .aload_n 0, 1), (5, .new 9, 3), (8, .dup, 1), (9, .invokespecial 11, 3), (12, .putfield 12, 3), (15, .aload_n 0, 1), (16, .iconst 0, 1), (17, .putfield 18, 3), (20, .aload_n 0, 1), (21, .bipush 120, 2), (23, .putfield 22, 3), (26, .aload_n 0, 1), (27, .new 9, 3), (30, .dup, 1), (31, .invokespecial 11, 3), (34, .putfield 25, 3), (37, .aload_n 0, 1), (38, .iconst 3, 1), (39, .newarray .int, 2), (41, .dup, 1), (42, .iconst 0, 1), (43, .iconst (-1), 1), (44, .iastore, 1), (45, .dup, 1), (46, .iconst 1, 1), (47, .iconst (-1), 1), (48, .iastore, 1), (49, .dup, 1), (50, .iconst 2, 1), (51, .iconst (-1), 1), (52, .iastore, 1), (53, .putfield 28, 3), (56, .aload_n 0, 1), (57, .iconst 3, 1), (58, .newarray .int, 2), (60, .dup, 1), (61, .iconst 0, 1), (62, .iconst 0, 1), (63, .iastore, 1), (64, .dup, 1), (65, .iconst 1, 1), (66, .iconst 0, 1), (67, .iastore, 1), (68, .dup, 1), (69, .iconst 2, 1), (70, .iconst 0, 1), (71, .iastore, 1), (72, .putfield 32, 3), (75, .return_, 1)]
theorem tbX1_init_ok : pTabOk cX1_init tbX1_init = true := by decide +kernel
def tbX1_place : pTab := [(0, .iload_n 0, 1), (1, .bipush 12, 2), (3, .imul, 1), (4, .iload_n 1, 1), (5, .iadd, 1), (6, .ireturn, 1)]
theorem tbX1_place_ok : pTabOk cX1_place tbX1_place = true := by decide +kernel
def tbX1_shelfKind : pTab := [(0, .aload_n 0, 1), (1, .getfield 28, 3), (4, .iload_n 1, 1), (5, .invokestatic 35, 3), (8, .ireturn, 1)]
theorem tbX1_shelfKind_ok : pTabOk cX1_shelfKind tbX1_shelfKind = true := by decide +kernel
def tbX1_hasPlace : pTab := [(0, .aload_n 0, 1), (1, .iload_n 1, 1), (2, .invokevirtual 39, 3), (5, .iconst (-1), 1), (6, .if_icmp .eq 23, 3), (9, .iload_n 2, 1), (10, .ifCond .lt 19, 3), (13, .iload_n 2, 1), (14, .aload_n 0, 1), (15, .getfield 32, 3), (18, .iload_n 1, 1), (19, .invokestatic 35, 3), (22, .if_icmp .ge 7, 3), (25, .iconst 1, 1), (26, .goto 4, 3), (29, .iconst 0, 1), (30, .ireturn, 1)]
theorem tbX1_hasPlace_ok : pTabOk cX1_hasPlace tbX1_hasPlace = true := by decide +kernel
def tbX1_clearShelf : pTab := [(0, .aload_n 0, 1), (1, .getfield 28, 3), (4, .iload_n 1, 1), (5, .iload_n 2, 1), (6, .invokestatic 43, 3), (9, .aload_n 0, 1), (10, .getfield 32, 3), (13, .iload_n 1, 1), (14, .iload_n 2, 1), (15, .iconst (-1), 1), (16, .if_icmp .ne 7, 3), (19, .iconst 0, 1), (20, .goto 4, 3), (23, .iload_n 3, 1), (24, .invokestatic 43, 3), (27, .iconst 0, 1), (28, .istore 4, 2), (30, .iload 4, 2), (32, .bipush 12, 2), (34, .if_icmp .ge 22, 3), (37, .aload_n 0, 1), (38, .getfield 25, 3), (41, .iload_n 1, 1), (42, .iload 4, 2), (44, .invokestatic 47, 3), (47, .invokevirtual 51, 3), (50, .iinc 4 1, 3), (53, .goto (-23), 3), (56, .return_, 1)]
theorem tbX1_clearShelf_ok : pTabOk cX1_clearShelf tbX1_clearShelf = true := by decide +kernel
def tbX1_countOnShelves : pTab := [(0, .iconst 0, 1), (1, .istore_n 1, 1), (2, .iconst 0, 1), (3, .istore_n 2, 1), (4, .iload_n 2, 1), (5, .iconst 3, 1), (6, .if_icmp .ge 50, 3), (9, .iconst 0, 1), (10, .istore_n 3, 1), (11, .aload_n 0, 1), (12, .iload_n 2, 1), (13, .iload_n 3, 1), (14, .invokevirtual 55, 3), (17, .ifCond .eq 33, 3), (20, .iload_n 3, 1), (21, .bipush 12, 2), (23, .if_icmp .ge 27, 3), (26, .aload_n 0, 1), (27, .getfield 25, 3), (30, .iload_n 2, 1), (31, .iload_n 3, 1), (32, .invokestatic 47, 3), (35, .invokevirtual 59, 3), (38, .ifCond .ne 6, 3), (41, .iinc 1 1, 3), (44, .iinc 3 1, 3), (47, .goto (-36), 3), (50, .iinc 2 1, 3), (53, .goto (-49), 3), (56, .iload_n 1, 1), (57, .ireturn, 1)]
theorem tbX1_countOnShelves_ok : pTabOk cX1_countOnShelves tbX1_countOnShelves = true := by decide +kernel
def tbX1_become : pTab := [(0, .aload_n 1, 1), (1, .ifnonnull 4, 3), (4, .return_, 1), (5, .aload_n 0, 1), (6, .getfield 12, 3), (9, .aload_n 1, 1), (10, .getfield 12, 3), (13, .invokevirtual 63, 3), (16, .aload_n 0, 1), (17, .aload_n 1, 1), (18, .getfield 18, 3), (21, .putfield 18, 3), (24, .aload_n 0, 1), (25, .aload_n 1, 1), (26, .getfield 22, 3), (29, .putfield 22, 3), (32, .aload_n 0, 1), (33, .getfield 25, 3), (36, .aload_n 1, 1), (37, .getfield 25, 3), (40, .invokevirtual 63, 3), (43, .aload_n 1, 1), (44, .getfield 28, 3), (47, .aload_n 0, 1), (48, .getfield 28, 3), (51, .invokestatic 67, 3), (54, .aload_n 1, 1), (55, .getfield 32, 3), (58, .aload_n 0, 1), (59, .getfield 32, 3), (62, .invokestatic 67, 3), (65, .return_, 1)]
theorem tbX1_become_ok : pTabOk cX1_become tbX1_become = true := by decide +kernel
def tbX2_encode : pTab := [(0, .dload_n 1, 1), (1, .dconst 0, 1), (2, .dcmp .l, 1), (3, .ifCond .ne 5, 3), (6, .lconst 0, 1), (7, .lreturn, 1), (8, .iload_n 0, 1), (9, .invokestatic 9, 3), (12, .istore_n 3, 1), (13, .lconst 1, 1), (14, .iload_n 3, 1), (15, .lshl, 1), (16, .lstore 4, 2), (18, .lload 4, 2), (20, .l2d, 1), (21, .dstore 6, 2), (23, .dload_n 1, 1), (24, .dconst 0, 1), (25, .dcmp .g, 1), (26, .ifCond .ge 8, 3), (29, .dload_n 1, 1), (30, .dneg, 1), (31, .goto 4, 3), (34, .dload_n 1, 1), (35, .dstore 8, 2), (37, .iload_n 3, 1), (38, .istore 10, 2), (40, .iconst 0, 1), (41, .istore 11, 2), (43, .iload 11, 2), (45, .sipush 1100, 3), (48, .if_icmp .ge 32, 3), (51, .dload 8, 2), (53, .dload 6, 2), (55, .ldc2_w 15, 3), (58, .dmul, 1), (59, .dcmp .l, 1), (60, .ifCond .lt 20, 3), (63, .dload 8, 2), (65, .ldc2_w 15, 3), (68, .ddiv, 1), (69, .dstore 8, 2), (71, .iinc 10 1, 3), (74, .iinc 11 1, 3), (77, .goto (-34), 3), (80, .iconst 0, 1), (81, .istore 11, 2), (83, .iload 11, 2), (85, .sipush 1100, 3), (88, .if_icmp .ge 28, 3), (91, .dload 8, 2), (93, .dload 6, 2), (95, .dcmp .g, 1), (96, .ifCond .ge 20, 3), (99, .dload 8, 2), (101, .ldc2_w 15, 3), (104, .dmul, 1), (105, .dstore 8, 2), (107, .iinc 10 (-1), 3), (110, .iinc 11 1, 3), (113, .goto (-30), 3), (116, .iload 10, 2), (118, .iload_n 0, 1), (119, .invokestatic 17, 3), (122, .iadd, 1), (123, .i2l, 1), (124, .iload_n 3, 1), (125, .lshl, 1), (126, .lstore 11, 2), (128, .iload_n 0, 1), (129, .lload 11, 2), (131, .dload 8, 2), (133, .d2l, 1), (134, .lload 4, 2), (136, .lsub, 1), (137, .ladd, 1), (138, .dload_n 1, 1), (139, .dconst 0, 1), (140, .dcmp .g, 1), (141, .ifCond .ge 7, 3), (144, .iconst 1, 1), (145, .goto 4, 3), (148, .iconst 0, 1), (149, .invokestatic 20, 3), (152, .lreturn, 1)]
theorem tbX2_encode_ok : pTabOk cX2_encode tbX2_encode = true := by decide +kernel
def tbX2_size : pTab := [(0, .iload_n 0, 1), (1, .invokestatic 9, 3), (4, .istore_n 3, 1), (5, .lload_n 1, 1), (6, .iload_n 0, 1), (7, .invokestatic 24, 3), (10, .lconst 1, 1), (11, .lsub, 1), (12, .land, 1), (13, .lstore 4, 2), (15, .lload 4, 2), (17, .lconst 0, 1), (18, .lcmp, 1), (19, .ifCond .ne 5, 3), (22, .dconst 0, 1), (23, .dreturn, 1), (24, .lconst 1, 1), (25, .iload_n 3, 1), (26, .lshl, 1), (27, .lstore 6, 2), (29, .lload 6, 2), (31, .lload 4, 2), (33, .lload 6, 2), (35, .lconst 1, 1), (36, .lsub, 1), (37, .land, 1), (38, .ladd, 1), (39, .l2d, 1), (40, .dstore 8, 2), (42, .lload 4, 2), (44, .iload_n 3, 1), (45, .lshr, 1), (46, .l2i, 1), (47, .iload_n 0, 1), (48, .invokestatic 17, 3), (51, .isub, 1), (52, .iload_n 3, 1), (53, .isub, 1), (54, .istore 10, 2), (56, .iconst 0, 1), (57, .istore 11, 2), (59, .iload 11, 2), (61, .sipush 1100, 3), (64, .if_icmp .ge 24, 3), (67, .iload 11, 2), (69, .iload 10, 2), (71, .if_icmp .ge 17, 3), (74, .dload 8, 2), (76, .ldc2_w 15, 3), (79, .dmul, 1), (80, .dstore 8, 2), (82, .iinc 11 1, 3), (85, .goto (-26), 3), (88, .iconst 0, 1), (89, .istore 11, 2), (91, .iload 11, 2), (93, .sipush 1100, 3), (96, .if_icmp .ge 25, 3), (99, .iload 11, 2), (101, .iload 10, 2), (103, .ineg, 1), (104, .if_icmp .ge 17, 3), (107, .dload 8, 2), (109, .ldc2_w 15, 3), (112, .ddiv, 1), (113, .dstore 8, 2), (115, .iinc 11 1, 3), (118, .goto (-27), 3), (121, .dload 8, 2), (123, .dreturn, 1)]
theorem tbX2_size_ok : pTabOk cX2_size tbX2_size = true := by decide +kernel
def tbX2_withSign : pTab := [(0, .iload_n 3, 1), (1, .ifCond .ne 5, 3), (4, .lload_n 1, 1), (5, .lreturn, 1), (6, .lload_n 1, 1), (7, .iload_n 0, 1), (8, .invokestatic 24, 3), (11, .lor, 1), (12, .lstore 4, 2), (14, .iload_n 0, 1), (15, .ifCond .ne 10, 3), (18, .lload 4, 2), (20, .l2i, 1), (21, .i2l, 1), (22, .goto 5, 3), (25, .lload 4, 2), (27, .lreturn, 1)]
theorem tbX2_withSign_ok : pTabOk cX2_withSign tbX2_withSign = true := by decide +kernel
def tbX2_remainder : pTab := [(0, .dload_n 2, 1), (1, .dconst 0, 1), (2, .dcmp .l, 1), (3, .ifCond .gt 5, 3), (6, .dconst 0, 1), (7, .dreturn, 1), (8, .dload_n 2, 1), (9, .dstore 4, 2), (11, .iconst 0, 1), (12, .istore 6, 2), (14, .iload 6, 2), (16, .sipush 1100, 3), (19, .if_icmp .ge 28, 3), (22, .dload 4, 2), (24, .ldc2_w 15, 3), (27, .dmul, 1), (28, .dload_n 0, 1), (29, .dcmp .g, 1), (30, .ifCond .gt 17, 3), (33, .dload 4, 2), (35, .ldc2_w 15, 3), (38, .dmul, 1), (39, .dstore 4, 2), (41, .iinc 6 1, 3), (44, .goto (-30), 3), (47, .dload_n 0, 1), (48, .dstore 7, 2), (50, .iload 6, 2), (52, .istore 9, 2), (54, .iload 9, 2), (56, .ifCond .lt 32, 3), (59, .dload 7, 2), (61, .dload 4, 2), (63, .dcmp .l, 1), (64, .ifCond .lt 10, 3), (67, .dload 7, 2), (69, .dload 4, 2), (71, .dsub, 1), (72, .dstore 7, 2), (74, .dload 4, 2), (76, .ldc2_w 15, 3), (79, .ddiv, 1), (80, .dstore 4, 2), (82, .iinc 9 (-1), 3), (85, .goto (-31), 3), (88, .dload 7, 2), (90, .dreturn, 1)]
theorem tbX2_remainder_ok : pTabOk cX2_remainder tbX2_remainder = true := by decide +kernel
def tbX2_fractionBits : pTab := [(0, .iload_n 0, 1), (1, .ifCond .ne 8, 3), (4, .bipush 23, 2), (6, .goto 5, 3), (9, .bipush 52, 2), (11, .ireturn, 1)]
theorem tbX2_fractionBits_ok : pTabOk cX2_fractionBits tbX2_fractionBits = true := by decide +kernel
def tbX2_bias : pTab := [(0, .iload_n 0, 1), (1, .ifCond .ne 8, 3), (4, .bipush 127, 2), (6, .goto 6, 3), (9, .sipush 1023, 3), (12, .ireturn, 1)]
theorem tbX2_bias_ok : pTabOk cX2_bias tbX2_bias = true := by decide +kernel
def tbX2_signBit : pTab := [(0, .iload_n 0, 1), (1, .ifCond .ne 9, 3), (4, .ldc2_w 28, 3), (7, .goto 6, 3), (10, .ldc2_w 30, 3), (13, .lreturn, 1)]
theorem tbX2_signBit_ok : pTabOk cX2_signBit tbX2_signBit = true := by decide +kernel
def tbX3_init : pTab := [(0, .aload_n 0, 1), (1, .invokespecial 3, 3), (4, .aload_n 0, 1), (5, .iconst 4, 1), (6, .newarray .int, 2), (8, .dup, 1), (9, .iconst 0, 1), (10, .iconst (-1), 1), (11, .iastore, 1), (12, .dup, 1), (13, .iconst 1, 1), (14, .iconst (-1), 1), (15, .iastore, 1), (16, .dup, 1), (17, .iconst 2, 1), (18, .iconst (-1), 1), (19, .iastore, 1), (20, .dup, 1), (21, .iconst 3, 1), (22, .iconst (-1), 1), (23, .iastore, 1), (24, .putfield 9, 3), (27, .aload_n 0, 1), (28, .iconst 4, 1), (29, .newarray .int, 2), (31, .dup, 1), (32, .iconst 0, 1), (33, .iconst 0, 1), (34, .iastore, 1), (35, .dup, 1), (36, .iconst 1, 1), (37, .iconst 0, 1), (38, .iastore, 1), (39, .dup, 1), (40, .iconst 2, 1), (41, .iconst 0, 1), (42, .iastore, 1), (43, .dup, 1), (44, .iconst 3, 1), (45, .iconst 0, 1), (46, .iastore, 1), (47, .putfield 15, 3), (50, .aload_n 0, 1), (51, .sipush 160, 3), (54, .newarray .long, 2), (56, .putfield 18, 3), (59, .return_, 1)]
theorem tbX3_init_ok : pTabOk cX3_init tbX3_init = true := by decide +kernel
def tbX3_sort : pTab := [(0, .aload_n 0, 1), (1, .getfield 9, 3), (4, .iload_n 1, 1), (5, .invokestatic 22, 3), (8, .ireturn, 1)]
theorem tbX3_sort_ok : pTabOk cX3_sort tbX3_sort = true := by decide +kernel
def tbX3_hasNumber : pTab := [(0, .aload_n 0, 1), (1, .iload_n 1, 1), (2, .invokevirtual 26, 3), (5, .iconst (-1), 1), (6, .if_icmp .eq 23, 3), (9, .iload_n 2, 1), (10, .ifCond .lt 19, 3), (13, .iload_n 2, 1), (14, .aload_n 0, 1), (15, .getfield 15, 3), (18, .iload_n 1, 1), (19, .invokestatic 22, 3), (22, .if_icmp .ge 7, 3), (25, .iconst 1, 1), (26, .goto 4, 3), (29, .iconst 0, 1), (30, .ireturn, 1)]
theorem tbX3_hasNumber_ok : pTabOk cX3_hasNumber tbX3_hasNumber = true := by decide +kernel
def tbX3_clear : pTab := [(0, .aload_n 0, 1), (1, .getfield 9, 3), (4, .iload_n 1, 1), (5, .iload_n 2, 1), (6, .invokestatic 30, 3), (9, .aload_n 0, 1), (10, .getfield 15, 3), (13, .iload_n 1, 1), (14, .iload_n 3, 1), (15, .invokestatic 30, 3), (18, .iconst 0, 1), (19, .istore 4, 2), (21, .iload 4, 2), (23, .bipush 40, 2), (25, .if_icmp .ge 17, 3), (28, .aload_n 0, 1), (29, .iload_n 1, 1), (30, .iload 4, 2), (32, .lconst 0, 1), (33, .invokevirtual 34, 3), (36, .iinc 4 1, 3), (39, .goto (-18), 3), (42, .return_, 1)]
theorem tbX3_clear_ok : pTabOk cX3_clear tbX3_clear = true := by decide +kernel
def tbX3_number : pTab := [(0, .aload_n 0, 1), (1, .getfield 18, 3), (4, .iload_n 1, 1), (5, .bipush 40, 2), (7, .imul, 1), (8, .iload_n 2, 1), (9, .iadd, 1), (10, .invokestatic 38, 3), (13, .lreturn, 1)]
theorem tbX3_number_ok : pTabOk cX3_number tbX3_number = true := by decide +kernel
def tbX3_scale : pTab := [(0, .iconst 1, 1), (1, .iload 5, 2), (3, .ishl, 1), (4, .i2d, 1), (5, .dstore 6, 2), (7, .aload_n 0, 1), (8, .iload_n 1, 1), (9, .invokevirtual 26, 3), (12, .tableswitch 78 0 2 #[28, 47, 65], 28), (40, .aload_n 0, 1), (41, .iload_n 1, 1), (42, .iload_n 2, 1), (43, .lload_n 3, 1), (44, .l2f, 1), (45, .dload 6, 2), (47, .d2f, 1), (48, .fdiv, 1), (49, .invokestatic 42, 3), (52, .i2l, 1), (53, .invokevirtual 34, 3), (56, .goto 43, 3), (59, .aload_n 0, 1), (60, .iload_n 1, 1), (61, .iload_n 2, 1), (62, .iconst 1, 1), (63, .lload_n 3, 1), (64, .l2d, 1), (65, .dload 6, 2), (67, .ddiv, 1), (68, .invokestatic 46, 3), (71, .invokevirtual 34, 3), (74, .goto 25, 3), (77, .aload_n 0, 1), (78, .iload_n 1, 1), (79, .iload_n 2, 1), (80, .lload_n 3, 1), (81, .l2i, 1), (82, .i2s, 1), (83, .i2l, 1), (84, .invokevirtual 34, 3), (87, .goto 12, 3), (90, .aload_n 0, 1), (91, .iload_n 1, 1), (92, .iload_n 2, 1), (93, .lload_n 3, 1), (94, .l2i, 1), (95, .i2l, 1), (96, .invokevirtual 34, 3), (99, .return_, 1)]
theorem tbX3_scale_ok : pTabOk cX3_scale tbX3_scale = true := by decide +kernel
def tbX3_layFloat : pTab := [(0, .aload_n 0, 1), (1, .iload_n 1, 1), (2, .invokevirtual 26, 3), (5, .tableswitch 69 0 2 #[27, 41, 56], 27), (32, .aload_n 0, 1), (33, .iload_n 1, 1), (34, .iload_n 2, 1), (35, .fload_n 3, 1), (36, .invokestatic 42, 3), (39, .i2l, 1), (40, .invokevirtual 34, 3), (43, .goto 40, 3), (46, .aload_n 0, 1), (47, .iload_n 1, 1), (48, .iload_n 2, 1), (49, .iconst 1, 1), (50, .fload_n 3, 1), (51, .f2d, 1), (52, .invokestatic 46, 3), (55, .invokevirtual 34, 3), (58, .goto 25, 3), (61, .aload_n 0, 1), (62, .iload_n 1, 1), (63, .iload_n 2, 1), (64, .fload_n 3, 1), (65, .f2i, 1), (66, .i2s, 1), (67, .i2l, 1), (68, .invokevirtual 34, 3), (71, .goto 12, 3), (74, .aload_n 0, 1), (75, .iload_n 1, 1), (76, .iload_n 2, 1), (77, .fload_n 3, 1), (78, .f2i, 1), (79, .i2l, 1), (80, .invokevirtual 34, 3), (83, .return_, 1)]
theorem tbX3_layFloat_ok : pTabOk cX3_layFloat tbX3_layFloat = true := by decide +kernel
def tbX3_asInt : pTab := [(0, .aload_n 0, 1), (1, .iload_n 1, 1), (2, .invokevirtual 26, 3), (5, .istore_n 3, 1), (6, .aload_n 0, 1), (7, .iload_n 1, 1), (8, .iload_n 2, 1), (9, .invokevirtual 52, 3), (12, .lstore 4, 2), (14, .iload_n 3, 1), (15, .iconst 2, 1), (16, .if_icmp .eq 8, 3), (19, .iload_n 3, 1), (20, .iconst 3, 1), (21, .if_icmp .ne 7, 3), (24, .lload 4, 2), (26, .l2i, 1), (27, .ireturn, 1), (28, .iload_n 3, 1), (29, .lload 4, 2), (31, .invokestatic 56, 3), (34, .dstore 6, 2), (36, .lload 4, 2), (38, .lconst 0, 1), (39, .lcmp, 1), (40, .ifCond .ge 10, 3), (43, .dconst 0, 1), (44, .dload 6, 2), (46, .dsub, 1), (47, .goto 5, 3), (50, .dload 6, 2), (52, .d2i, 1), (53, .ireturn, 1)]
theorem tbX3_asInt_ok : pTabOk cX3_asInt tbX3_asInt = true := by decide +kernel
def tbX3_isNought : pTab := [(0, .aload_n 0, 1), (1, .iload_n 1, 1), (2, .invokevirtual 26, 3), (5, .istore_n 3, 1), (6, .aload_n 0, 1), (7, .iload_n 1, 1), (8, .iload_n 2, 1), (9, .invokevirtual 52, 3), (12, .lstore 4, 2), (14, .iload_n 3, 1), (15, .iconst 2, 1), (16, .if_icmp .eq 8, 3), (19, .iload_n 3, 1), (20, .iconst 3, 1), (21, .if_icmp .ne 18, 3), (24, .lload 4, 2), (26, .lconst 0, 1), (27, .lcmp, 1), (28, .ifCond .ne 7, 3), (31, .iconst 1, 1), (32, .goto 23, 3), (35, .iconst 0, 1), (36, .goto 19, 3), (39, .iload_n 3, 1), (40, .lload 4, 2), (42, .invokestatic 56, 3), (45, .dconst 0, 1), (46, .dcmp .l, 1), (47, .ifCond .ne 7, 3), (50, .iconst 1, 1), (51, .goto 4, 3), (54, .iconst 0, 1), (55, .ireturn, 1)]
theorem tbX3_isNought_ok : pTabOk cX3_isNought tbX3_isNought = true := by decide +kernel
def tbX3_reduce : pTab := [(0, .aload_n 0, 1), (1, .iload_n 1, 1), (2, .invokevirtual 26, 3), (5, .istore 4, 2), (7, .aload_n 0, 1), (8, .iload_n 1, 1), (9, .iload_n 2, 1), (10, .invokevirtual 52, 3), (13, .lstore 5, 2), (15, .aload_n 0, 1), (16, .iload_n 1, 1), (17, .iload_n 3, 1), (18, .invokevirtual 52, 3), (21, .lstore 7, 2), (23, .iload 4, 2), (25, .ifCond .eq 9, 3), (28, .iload 4, 2), (30, .iconst 1, 1), (31, .if_icmp .ne 55, 3), (34, .iload 4, 2), (36, .lload 5, 2), (38, .invokestatic 56, 3), (41, .iload 4, 2), (43, .lload 7, 2), (45, .invokestatic 56, 3), (48, .invokestatic 60, 3), (51, .dstore 9, 2), (53, .aload_n 0, 1), (54, .iload_n 1, 1), (55, .iload_n 2, 1), (56, .iload 4, 2), (58, .iload 4, 2), (60, .dload 9, 2), (62, .invokestatic 46, 3), (65, .lload 5, 2), (67, .lconst 0, 1), (68, .lcmp, 1), (69, .ifCond .ge 7, 3), (72, .iconst 1, 1), (73, .goto 4, 3), (76, .iconst 0, 1), (77, .invokestatic 64, 3), (80, .invokevirtual 34, 3), (83, .goto 21, 3), (86, .lload 7, 2), (88, .lconst 0, 1), (89, .lcmp, 1), (90, .ifCond .eq 14, 3), (93, .aload_n 0, 1), (94, .iload_n 1, 1), (95, .iload_n 2, 1), (96, .lload 5, 2), (98, .lload 7, 2), (100, .lrem, 1), (101, .invokevirtual 34, 3), (104, .return_, 1)]
theorem tbX3_reduce_ok : pTabOk cX3_reduce tbX3_reduce = true := by decide +kernel
def tbX3_change : pTab := [(0, .aload_n 0, 1), (1, .getfield 18, 3), (4, .iload_n 1, 1), (5, .bipush 40, 2), (7, .imul, 1), (8, .iload_n 2, 1), (9, .iadd, 1), (10, .lload_n 3, 1), (11, .invokestatic 68, 3), (14, .return_, 1)]
theorem tbX3_change_ok : pTabOk cX3_change tbX3_change = true := by decide +kernel
def tbX4_init : pTab := [(0, .aload_n 0, 1), (1, .invokespecial 3, 3), (4, .aload_n 0, 1), (5, .sipush 180, 3), (8, .newarray .int, 2), (10, .putfield 9, 3), (13, .return_, 1)]
theorem tbX4_init_ok : pTabOk cX4_init tbX4_init = true := by decide +kernel
def tbX4_part : pTab := [(0, .iload_n 1, 1), (1, .iconst 5, 1), (2, .imul, 1), (3, .iload_n 2, 1), (4, .iadd, 1), (5, .istore_n 3, 1), (6, .iload_n 2, 1), (7, .ifCond .lt 30, 3), (10, .iload_n 2, 1), (11, .iconst 5, 1), (12, .if_icmp .ge 25, 3), (15, .iload_n 3, 1), (16, .ifCond .lt 21, 3), (19, .iload_n 3, 1), (20, .aload_n 0, 1), (21, .getfield 9, 3), (24, .arraylength, 1), (25, .if_icmp .ge 12, 3), (28, .aload_n 0, 1), (29, .getfield 9, 3), (32, .iload_n 3, 1), (33, .iaload, 1), (34, .goto 4, 3), (37, .iconst 0, 1), (38, .ireturn, 1)]
theorem tbX4_part_ok : pTabOk cX4_part tbX4_part = true := by decide +kernel
def tbX4_change : pTab := [(0, .iload_n 1, 1), (1, .iconst 5, 1), (2, .imul, 1), (3, .iload_n 2, 1), (4, .iadd, 1), (5, .istore 4, 2), (7, .iload_n 2, 1), (8, .ifCond .lt 31, 3), (11, .iload_n 2, 1), (12, .iconst 5, 1), (13, .if_icmp .ge 26, 3), (16, .iload 4, 2), (18, .ifCond .lt 21, 3), (21, .iload 4, 2), (23, .aload_n 0, 1), (24, .getfield 9, 3), (27, .arraylength, 1), (28, .if_icmp .ge 11, 3), (31, .aload_n 0, 1), (32, .getfield 9, 3), (35, .iload 4, 2), (37, .iload_n 3, 1), (38, .iastore, 1), (39, .return_, 1)]
theorem tbX4_change_ok : pTabOk cX4_change tbX4_change = true := by decide +kernel
def tbX4_lay : pTab := [(0, .aload_n 0, 1), (1, .iload_n 1, 1), (2, .iconst 0, 1), (3, .iload_n 2, 1), (4, .invokevirtual 15, 3), (7, .aload_n 0, 1), (8, .iload_n 1, 1), (9, .iconst 1, 1), (10, .iload_n 3, 1), (11, .invokevirtual 15, 3), (14, .aload_n 0, 1), (15, .iload_n 1, 1), (16, .iconst 2, 1), (17, .iload 4, 2), (19, .invokevirtual 15, 3), (22, .aload_n 0, 1), (23, .iload_n 1, 1), (24, .iconst 3, 1), (25, .iload 5, 2), (27, .invokevirtual 15, 3), (30, .aload_n 0, 1), (31, .iload_n 1, 1), (32, .iconst 4, 1), (33, .iload 6, 2), (35, .invokevirtual 15, 3), (38, .return_, 1)]
theorem tbX4_lay_ok : pTabOk cX4_lay tbX4_lay = true := by decide +kernel
def tbX4_clear : pTab := [(0, .aload_n 0, 1), (1, .iload_n 1, 1), (2, .iconst (-1), 1), (3, .iconst 0, 1), (4, .iconst 0, 1), (5, .iconst 0, 1), (6, .iconst 0, 1), (7, .invokevirtual 19, 3), (10, .return_, 1)]
theorem tbX4_clear_ok : pTabOk cX4_clear tbX4_clear = true := by decide +kernel
def tbX4_isMissing : pTab := [(0, .aload_n 0, 1), (1, .iload_n 1, 1), (2, .iconst 0, 1), (3, .invokevirtual 23, 3), (6, .iconst (-1), 1), (7, .if_icmp .ne 7, 3), (10, .iconst 1, 1), (11, .goto 4, 3), (14, .iconst 0, 1), (15, .ireturn, 1)]
theorem tbX4_isMissing_ok : pTabOk cX4_isMissing tbX4_isMissing = true := by decide +kernel
def tbX4_copySign : pTab := [(0, .aload_n 2, 1), (1, .ifnonnull 4, 3), (4, .return_, 1), (5, .iconst 0, 1), (6, .istore 4, 2), (8, .iload 4, 2), (10, .iconst 5, 1), (11, .if_icmp .ge 23, 3), (14, .aload_n 0, 1), (15, .iload_n 1, 1), (16, .iload 4, 2), (18, .aload_n 2, 1), (19, .iload_n 3, 1), (20, .iload 4, 2), (22, .invokevirtual 23, 3), (25, .invokevirtual 15, 3), (28, .iinc 4 1, 3), (31, .goto (-23), 3), (34, .return_, 1)]
theorem tbX4_copySign_ok : pTabOk cX4_copySign tbX4_copySign = true := by decide +kernel
def tbX4_become : pTab := [(0, .aload_n 1, 1), (1, .ifnull 14, 3), (4, .aload_n 1, 1), (5, .getfield 9, 3), (8, .aload_n 0, 1), (9, .getfield 9, 3), (12, .invokestatic 27, 3), (15, .return_, 1)]
theorem tbX4_become_ok : pTabOk cX4_become tbX4_become = true := by decide +kernel
def tbX4_top : pTab := [(0, .aload_n 0, 1), (1, .iload_n 1, 1), (2, .iconst 2, 1), (3, .invokevirtual 23, 3), (6, .istore_n 2, 1), (7, .aload_n 0, 1), (8, .iload_n 1, 1), (9, .iconst 4, 1), (10, .invokevirtual 23, 3), (13, .istore_n 3, 1), (14, .aload_n 0, 1), (15, .iload_n 1, 1), (16, .iconst 0, 1), (17, .invokevirtual 23, 3), (20, .lookupswitch 49 #[(0, 28), (1, 45)], 28), (48, .iload_n 2, 1), (49, .ifCond .ge 10, 3), (52, .iload_n 2, 1), (53, .bipush 7, 2), (55, .iadd, 1), (56, .goto 6, 3), (59, .iload_n 2, 1), (60, .iconst 1, 1), (61, .iadd, 1), (62, .iload_n 3, 1), (63, .iadd, 1), (64, .ireturn, 1), (65, .iconst 3, 1), (66, .iload_n 3, 1), (67, .iadd, 1), (68, .ireturn, 1), (69, .iconst 4, 1), (70, .iload_n 3, 1), (71, .iadd, 1), (72, .ireturn, 1)]
theorem tbX4_top_ok : pTabOk cX4_top tbX4_top = true := by decide +kernel
def tbX4_bottom : pTab := [(0, .aload_n 0, 1), (1, .iload_n 1, 1), (2, .iconst 2, 1), (3, .invokevirtual 23, 3), (6, .istore_n 2, 1), (7, .aload_n 0, 1), (8, .iload_n 1, 1), (9, .iconst 0, 1), (10, .invokevirtual 23, 3), (13, .lookupswitch 45 #[(0, 27), (1, 42)], 27), (40, .iload_n 2, 1), (41, .ifCond .ge 9, 3), (44, .iload_n 2, 1), (45, .iconst 1, 1), (46, .isub, 1), (47, .goto 7, 3), (50, .iload_n 2, 1), (51, .bipush 7, 2), (53, .isub, 1), (54, .ireturn, 1), (55, .bipush (-3), 2), (57, .ireturn, 1), (58, .bipush (-4), 2), (60, .ireturn, 1)]
theorem tbX4_bottom_ok : pTabOk cX4_bottom tbX4_bottom = true := by decide +kernel
def tbX4_ideal : pTab := [(0, .aload_n 0, 1), (1, .iload_n 1, 1), (2, .iconst 0, 1), (3, .invokevirtual 23, 3), (6, .iconst 2, 1), (7, .if_icmp .ne 6, 3), (10, .ldc 31, 2), (12, .freturn, 1), (13, .aload_n 0, 1), (14, .iload_n 1, 1), (15, .iconst 1, 1), (16, .invokevirtual 23, 3), (19, .istore_n 2, 1), (20, .iconst 0, 1), (21, .istore_n 3, 1), (22, .iconst 1, 1), (23, .istore 4, 2), (25, .iload 4, 2), (27, .bipush 6, 2), (29, .if_icmp .gt 20, 3), (32, .iconst 1, 1), (33, .iload 4, 2), (35, .ishl, 1), (36, .iload_n 2, 1), (37, .if_icmp .gt 6, 3), (40, .iload 4, 2), (42, .istore_n 3, 1), (43, .iinc 4 1, 3), (46, .goto (-21), 3), (49, .iload_n 2, 1), (50, .i2f, 1), (51, .iconst 1, 1), (52, .iload_n 3, 1), (53, .ishl, 1), (54, .i2f, 1), (55, .fdiv, 1), (56, .fconst 1, 1), (57, .fsub, 1), (58, .fstore 4, 2), (60, .ldc 32, 2), (62, .fconst 1, 1), (63, .ldc 33, 2), (65, .iload_n 3, 1), (66, .i2f, 1), (67, .fload 4, 2), (69, .fadd, 1), (70, .fmul, 1), (71, .fadd, 1), (72, .fmul, 1), (73, .freturn, 1)]
theorem tbX4_ideal_ok : pTabOk cX4_ideal tbX4_ideal = true := by decide +kernel
def tbX4_flex : pTab := [(0, .aload_n 0, 1), (1, .iload_n 1, 1), (2, .iconst 0, 1), (3, .invokevirtual 23, 3), (6, .iconst 2, 1), (7, .if_icmp .ne 8, 3), (10, .ldc 34, 2), (12, .goto 7, 3), (15, .ldc 33, 2), (17, .fload_n 2, 1), (18, .fmul, 1), (19, .freturn, 1)]
theorem tbX4_flex_ok : pTabOk cX4_flex tbX4_flex = true := by decide +kernel
def tbX4_rod : pTab := [(0, .aload_n 0, 1), (1, .iload_n 1, 1), (2, .iconst 3, 1), (3, .invokevirtual 23, 3), (6, .iconst 1, 1), (7, .iadd, 1), (8, .i2f, 1), (9, .freturn, 1)]
theorem tbX4_rod_ok : pTabOk cX4_rod tbX4_rod = true := by decide +kernel
def tbX5_init : pTab := [(0, .aload_n 0, 1), (1, .invokespecial 3, 3), (4, .aload_n 0, 1), (5, .sipush 400, 3), (8, .newarray .boolean, 2), (10, .putfield 9, 3), (13, .aload_n 0, 1), (14, .sipush 400, 3), (17, .newarray .int, 2), (19, .putfield 15, 3), (22, .aload_n 0, 1), (23, .sipush 400, 3), (26, .newarray .int, 2), (28, .putfield 19, 3), (31, .return_, 1)]
theorem tbX5_init_ok : pTabOk cX5_init tbX5_init = true := by decide +kernel
def tbX5_trace : pTab := [(0, .iconst 0, 1), (1, .istore_n 3, 1), (2, .iload_n 3, 1), (3, .sipush 400, 3), (6, .if_icmp .ge 18, 3), (9, .aload_n 0, 1), (10, .getfield 9, 3), (13, .iload_n 3, 1), (14, .iconst 0, 1), (15, .invokestatic 22, 3), (18, .iinc 3 1, 3), (21, .goto (-19), 3), (24, .aload_n 1, 1), (25, .ifnull 7, 3), (28, .aload_n 2, 1), (29, .ifnonnull 4, 3), (32, .return_, 1), (33, .iconst 0, 1), (34, .istore_n 3, 1), (35, .iload_n 3, 1), (36, .aload_n 2, 1), (37, .getfield 26, 3), (40, .if_icmp .ge 63, 3), (43, .aload_n 2, 1), (44, .getfield 32, 3), (47, .iload_n 3, 1), (48, .iadd, 1), (49, .istore 4, 2), (51, .aload_n 2, 1), (52, .iload 4, 2), (54, .invokevirtual 35, 3), (57, .istore 5, 2), (59, .iload 5, 2), (61, .aload_n 1, 1), (62, .iload 4, 2), (64, .iconst 3, 1), (65, .invokevirtual 39, 3), (68, .iadd, 1), (69, .sipush 400, 3), (72, .invokestatic 45, 3), (75, .istore 6, 2), (77, .aload_n 0, 1), (78, .iload 5, 2), (80, .iload 6, 2), (82, .aload_n 1, 1), (83, .iload 4, 2), (85, .invokevirtual 50, 3), (88, .aload_n 1, 1), (89, .iload 4, 2), (91, .invokevirtual 53, 3), (94, .invokevirtual 56, 3), (97, .iinc 3 1, 3), (100, .goto (-65), 3), (103, .return_, 1)]
theorem tbX5_trace_ok : pTabOk cX5_trace tbX5_trace = true := by decide +kernel
def tbX5_hasInk : pTab := [(0, .aload_n 0, 1), (1, .getfield 9, 3), (4, .iload_n 1, 1), (5, .invokestatic 60, 3), (8, .ireturn, 1)]
theorem tbX5_hasInk_ok : pTabOk cX5_hasInk tbX5_hasInk = true := by decide +kernel
def tbX5_upper : pTab := [(0, .aload_n 0, 1), (1, .getfield 15, 3), (4, .iload_n 1, 1), (5, .invokestatic 64, 3), (8, .ireturn, 1)]
theorem tbX5_upper_ok : pTabOk cX5_upper tbX5_upper = true := by decide +kernel
def tbX5_lower : pTab := [(0, .aload_n 0, 1), (1, .getfield 19, 3), (4, .iload_n 1, 1), (5, .invokestatic 64, 3), (8, .ireturn, 1)]
theorem tbX5_lower_ok : pTabOk cX5_lower tbX5_lower = true := by decide +kernel
def tbX5_ink : pTab := [(0, .iload_n 1, 1), (1, .istore 5, 2), (3, .iload 5, 2), (5, .iload_n 2, 1), (6, .if_icmp .ge 93, 3), (9, .aload_n 0, 1), (10, .iload 5, 2), (12, .invokevirtual 68, 3), (15, .ifCond .ne 7, 3), (18, .iconst 1, 1), (19, .goto 4, 3), (22, .iconst 0, 1), (23, .istore 6, 2), (25, .aload_n 0, 1), (26, .getfield 15, 3), (29, .iload 5, 2), (31, .iload 6, 2), (33, .ifCond .eq 7, 3), (36, .iload_n 3, 1), (37, .goto 13, 3), (40, .iload_n 3, 1), (41, .aload_n 0, 1), (42, .iload 5, 2), (44, .invokevirtual 72, 3), (47, .invokestatic 75, 3), (50, .invokestatic 78, 3), (53, .aload_n 0, 1), (54, .getfield 19, 3), (57, .iload 5, 2), (59, .iload 6, 2), (61, .ifCond .eq 8, 3), (64, .iload 4, 2), (66, .goto 14, 3), (69, .iload 4, 2), (71, .aload_n 0, 1), (72, .iload 5, 2), (74, .invokevirtual 82, 3), (77, .invokestatic 45, 3), (80, .invokestatic 78, 3), (83, .aload_n 0, 1), (84, .getfield 9, 3), (87, .iload 5, 2), (89, .iconst 1, 1), (90, .invokestatic 22, 3), (93, .iinc 5 1, 3), (96, .goto (-93), 3), (99, .return_, 1)]
theorem tbX5_ink_ok : pTabOk cX5_ink tbX5_ink = true := by decide +kernel
def tbX6_init : pTab := [(0, .aload_n 0, 1), (1, .invokespecial 3, 3), (4, .aload_n 0, 1), (5, .bipush 32, 2), (7, .newarray .float, 2), (9, .putfield 9, 3), (12, .aload_n 0, 1), (13, .bipush 32, 2), (15, .newarray .float, 2), (17, .putfield 15, 3), (20, .aload_n 0, 1), (21, .bipush 32, 2), (23, .newarray .float, 2), (25, .putfield 18, 3), (28, .aload_n 0, 1), (29, .bipush 32, 2), (31, .newarray .boolean, 2), (33, .putfield 21, 3), (36, .aload_n 0, 1), (37, .bipush 32, 2), (39, .newarray .float, 2), (41, .putfield 25, 3), (44, .aload_n 0, 1), (45, .bipush 32, 2), (47, .newarray .float, 2), (49, .putfield 28, 3), (52, .aload_n 0, 1), (53, .iconst 0, 1), (54, .putfield 31, 3), (57, .aload_n 0, 1), (58, .iconst 0, 1), (59, .putfield 35, 3), (62, .aload_n 0, 1), (63, .fconst 0, 1), (64, .putfield 38, 3), (67, .aload_n 0, 1), (68, .fconst 0, 1), (69, .putfield 42, 3), (72, .return_, 1)]
theorem tbX6_init_ok : pTabOk cX6_init tbX6_init = true := by decide +kernel
def tbX6_take : pTab := [(0, .aload_n 0, 1), (1, .iload_n 2, 1), (2, .putfield 31, 3), (5, .aload_n 0, 1), (6, .iconst 0, 1), (7, .putfield 35, 3), (10, .aload_n 0, 1), (11, .iload 4, 2), (13, .i2f, 1), (14, .putfield 38, 3), (17, .aload_n 1, 1), (18, .ifnonnull 4, 3), (21, .return_, 1), (22, .iload_n 2, 1), (23, .istore 5, 2), (25, .iload 5, 2), (27, .iload_n 3, 1), (28, .if_icmp .gt 85, 3), (31, .aload_n 0, 1), (32, .getfield 35, 3), (35, .bipush 32, 2), (37, .if_icmp .ge 76, 3), (40, .aload_n 1, 1), (41, .iload 5, 2), (43, .invokevirtual 45, 3), (46, .fstore 6, 2), (48, .aload_n 0, 1), (49, .getfield 9, 3), (52, .aload_n 0, 1), (53, .getfield 35, 3), (56, .fload 6, 2), (58, .invokestatic 51, 3), (61, .aload_n 0, 1), (62, .getfield 15, 3), (65, .aload_n 0, 1), (66, .getfield 35, 3), (69, .aload_n 1, 1), (70, .iload 5, 2), (72, .fload 6, 2), (74, .invokevirtual 55, 3), (77, .invokestatic 51, 3), (80, .aload_n 0, 1), (81, .getfield 18, 3), (84, .aload_n 0, 1), (85, .getfield 35, 3), (88, .aload_n 1, 1), (89, .iload 5, 2), (91, .invokevirtual 59, 3), (94, .invokestatic 51, 3), (97, .aload_n 0, 1), (98, .dup, 1), (99, .getfield 35, 3), (102, .iconst 1, 1), (103, .iadd, 1), (104, .putfield 35, 3), (107, .iinc 5 1, 3), (110, .goto (-85), 3), (113, .return_, 1)]
theorem tbX6_take_ok : pTabOk cX6_take tbX6_take = true := by decide +kernel
def tbX6_fits : pTab := [(0, .aload_n 0, 1), (1, .aload_n 0, 1), (2, .getfield 18, 3), (5, .invokevirtual 62, 3), (8, .aload_n 0, 1), (9, .getfield 38, 3), (12, .fcmp .g, 1), (13, .ifCond .gt 7, 3), (16, .iconst 1, 1), (17, .goto 4, 3), (20, .iconst 0, 1), (21, .ireturn, 1)]
theorem tbX6_fits_ok : pTabOk cX6_fits tbX6_fits = true := by decide +kernel
def tbX6_badness : pTab := [(0, .aload_n 0, 1), (1, .aload_n 0, 1), (2, .getfield 15, 3), (5, .invokevirtual 62, 3), (8, .fstore_n 1, 1), (9, .fload_n 1, 1), (10, .fconst 0, 1), (11, .fcmp .l, 1), (12, .ifCond .le 21, 3), (15, .aload_n 0, 1), (16, .getfield 38, 3), (19, .aload_n 0, 1), (20, .aload_n 0, 1), (21, .getfield 9, 3), (24, .invokevirtual 62, 3), (27, .fsub, 1), (28, .fload_n 1, 1), (29, .fdiv, 1), (30, .goto 4, 3), (33, .fconst 0, 1), (34, .fstore_n 2, 1), (35, .ldc 66, 2), (37, .fload_n 2, 1), (38, .fmul, 1), (39, .fload_n 2, 1), (40, .fmul, 1), (41, .fstore_n 3, 1), (42, .fload_n 2, 1), (43, .fconst 0, 1), (44, .fcmp .g, 1), (45, .ifCond .ge 9, 3), (48, .fload_n 3, 1), (49, .fconst 2, 1), (50, .fmul, 1), (51, .goto 4, 3), (54, .fload_n 3, 1), (55, .freturn, 1)]
theorem tbX6_badness_ok : pTabOk cX6_badness tbX6_badness = true := by decide +kernel
def tbX6_settle : pTab := [(0, .aload_n 0, 1), (1, .aload_n 1, 1), (2, .iload_n 2, 1), (3, .iload_n 3, 1), (4, .iload 4, 2), (6, .invokevirtual 67, 3), (9, .iconst 0, 1), (10, .istore 5, 2), (12, .iload 5, 2), (14, .aload_n 0, 1), (15, .getfield 35, 3), (18, .if_icmp .ge 19, 3), (21, .aload_n 0, 1), (22, .getfield 21, 3), (25, .iload 5, 2), (27, .iconst 0, 1), (28, .invokestatic 71, 3), (31, .iinc 5 1, 3), (34, .goto (-22), 3), (37, .iconst 0, 1), (38, .istore 5, 2), (40, .iconst 0, 1), (41, .istore 6, 2), (43, .iload 6, 2), (45, .bipush 32, 2), (47, .if_icmp .gt 36, 3), (50, .iload 5, 2), (52, .ifCond .ne 31, 3), (55, .aload_n 0, 1), (56, .aload_n 0, 1), (57, .invokevirtual 75, 3), (60, .putfield 42, 3), (63, .aload_n 0, 1), (64, .invokevirtual 79, 3), (67, .ifCond .ne 7, 3), (70, .iconst 1, 1), (71, .goto 4, 3), (74, .iconst 0, 1), (75, .istore 5, 2), (77, .iinc 6 1, 3), (80, .goto (-37), 3), (83, .fconst 0, 1), (84, .fstore 6, 2), (86, .iconst 0, 1), (87, .istore 7, 2), (89, .iload 7, 2), (91, .aload_n 0, 1), (92, .getfield 35, 3), (95, .if_icmp .ge 73, 3), (98, .aload_n 0, 1), (99, .getfield 25, 3), (102, .iload 7, 2), (104, .aload_n 0, 1), (105, .getfield 21, 3), (108, .iload 7, 2), (110, .invokestatic 83, 3), (113, .ifCond .eq 15, 3), (116, .aload_n 0, 1), (117, .getfield 18, 3), (120, .iload 7, 2), (122, .invokestatic 87, 3), (125, .goto 9, 3), (128, .aload_n 0, 1), (129, .iload 7, 2), (131, .invokevirtual 91, 3), (134, .invokestatic 51, 3), (137, .aload_n 0, 1), (138, .getfield 28, 3), (141, .iload 7, 2), (143, .fload 6, 2), (145, .invokestatic 51, 3), (148, .fload 6, 2), (150, .aload_n 0, 1), (151, .getfield 25, 3), (154, .iload 7, 2), (156, .invokestatic 87, 3), (159, .fadd, 1), (160, .fstore 6, 2), (162, .iinc 7 1, 3), (165, .goto (-76), 3), (168, .return_, 1)]
theorem tbX6_settle_ok : pTabOk cX6_settle tbX6_settle = true := by decide +kernel
def tbX6_heldCount : pTab := [(0, .iconst 0, 1), (1, .istore_n 1, 1), (2, .iconst 0, 1), (3, .istore_n 2, 1), (4, .iload_n 2, 1), (5, .aload_n 0, 1), (6, .getfield 35, 3), (9, .if_icmp .ge 23, 3), (12, .aload_n 0, 1), (13, .getfield 21, 3), (16, .iload_n 2, 1), (17, .invokestatic 83, 3), (20, .ifCond .eq 6, 3), (23, .iinc 1 1, 3), (26, .iinc 2 1, 3), (29, .goto (-25), 3), (32, .iload_n 1, 1), (33, .ireturn, 1)]
theorem tbX6_heldCount_ok : pTabOk cX6_heldCount tbX6_heldCount = true := by decide +kernel
def tbX6_length : pTab := [(0, .aload_n 0, 1), (1, .getfield 25, 3), (4, .iload_n 1, 1), (5, .aload_n 0, 1), (6, .getfield 31, 3), (9, .isub, 1), (10, .invokestatic 87, 3), (13, .freturn, 1)]
theorem tbX6_length_ok : pTabOk cX6_length tbX6_length = true := by decide +kernel
def tbX6_place : pTab := [(0, .aload_n 0, 1), (1, .getfield 28, 3), (4, .iload_n 1, 1), (5, .aload_n 0, 1), (6, .getfield 31, 3), (9, .isub, 1), (10, .invokestatic 87, 3), (13, .freturn, 1)]
theorem tbX6_place_ok : pTabOk cX6_place tbX6_place = true := by decide +kernel
def tbX6_cell : pTab := [(0, .aload_n 0, 1), (1, .iload_n 1, 1), (2, .invokevirtual 94, 3), (5, .f2i, 1), (6, .ireturn, 1)]
theorem tbX6_cell_ok : pTabOk cX6_cell tbX6_cell = true := by decide +kernel
def tbX6_sum : pTab := [(0, .fconst 0, 1), (1, .fstore_n 2, 1), (2, .iconst 0, 1), (3, .istore_n 3, 1), (4, .iload_n 3, 1), (5, .aload_n 0, 1), (6, .getfield 35, 3), (9, .if_icmp .ge 17, 3), (12, .fload_n 2, 1), (13, .aload_n 1, 1), (14, .iload_n 3, 1), (15, .invokestatic 87, 3), (18, .fadd, 1), (19, .fstore_n 2, 1), (20, .iinc 3 1, 3), (23, .goto (-19), 3), (26, .fload_n 2, 1), (27, .freturn, 1)]
theorem tbX6_sum_ok : pTabOk cX6_sum tbX6_sum = true := by decide +kernel
def tbX6_balance : pTab := [(0, .fconst 0, 1), (1, .fstore_n 1, 1), (2, .fconst 0, 1), (3, .fstore_n 2, 1), (4, .fconst 0, 1), (5, .fstore_n 3, 1), (6, .iconst 0, 1), (7, .istore 4, 2), (9, .iload 4, 2), (11, .aload_n 0, 1), (12, .getfield 35, 3), (15, .if_icmp .ge 60, 3), (18, .aload_n 0, 1), (19, .getfield 21, 3), (22, .iload 4, 2), (24, .invokestatic 83, 3), (27, .ifCond .eq 18, 3), (30, .fload_n 1, 1), (31, .aload_n 0, 1), (32, .getfield 18, 3), (35, .iload 4, 2), (37, .invokestatic 87, 3), (40, .fadd, 1), (41, .fstore_n 1, 1), (42, .goto 27, 3), (45, .fload_n 2, 1), (46, .aload_n 0, 1), (47, .getfield 9, 3), (50, .iload 4, 2), (52, .invokestatic 87, 3), (55, .fadd, 1), (56, .fstore_n 2, 1), (57, .fload_n 3, 1), (58, .aload_n 0, 1), (59, .getfield 15, 3), (62, .iload 4, 2), (64, .invokestatic 87, 3), (67, .fadd, 1), (68, .fstore_n 3, 1), (69, .iinc 4 1, 3), (72, .goto (-63), 3), (75, .fload_n 3, 1), (76, .fconst 0, 1), (77, .fcmp .l, 1), (78, .ifCond .le 16, 3), (81, .aload_n 0, 1), (82, .getfield 38, 3), (85, .fload_n 1, 1), (86, .fsub, 1), (87, .fload_n 2, 1), (88, .fsub, 1), (89, .fload_n 3, 1), (90, .fdiv, 1), (91, .goto 4, 3), (94, .fconst 0, 1), (95, .freturn, 1)]
theorem tbX6_balance_ok : pTabOk cX6_balance tbX6_balance = true := by decide +kernel
def tbX6_holdMore : pTab := [(0, .iconst 0, 1), (1, .istore_n 1, 1), (2, .iconst 0, 1), (3, .istore_n 2, 1), (4, .iload_n 2, 1), (5, .aload_n 0, 1), (6, .getfield 35, 3), (9, .if_icmp .ge 48, 3), (12, .aload_n 0, 1), (13, .getfield 21, 3), (16, .iload_n 2, 1), (17, .invokestatic 83, 3), (20, .ifCond .ne 31, 3), (23, .aload_n 0, 1), (24, .iload_n 2, 1), (25, .invokevirtual 91, 3), (28, .aload_n 0, 1), (29, .getfield 18, 3), (32, .iload_n 2, 1), (33, .invokestatic 87, 3), (36, .fcmp .g, 1), (37, .ifCond .ge 14, 3), (40, .aload_n 0, 1), (41, .getfield 21, 3), (44, .iload_n 2, 1), (45, .iconst 1, 1), (46, .invokestatic 71, 3), (49, .iconst 1, 1), (50, .istore_n 1, 1), (51, .iinc 2 1, 3), (54, .goto (-50), 3), (57, .iload_n 1, 1), (58, .ireturn, 1)]
theorem tbX6_holdMore_ok : pTabOk cX6_holdMore tbX6_holdMore = true := by decide +kernel
def tbX6_stretched : pTab := [(0, .aload_n 0, 1), (1, .getfield 9, 3), (4, .iload_n 1, 1), (5, .invokestatic 87, 3), (8, .aload_n 0, 1), (9, .getfield 42, 3), (12, .aload_n 0, 1), (13, .getfield 15, 3), (16, .iload_n 1, 1), (17, .invokestatic 87, 3), (20, .fmul, 1), (21, .fadd, 1), (22, .freturn, 1)]
theorem tbX6_stretched_ok : pTabOk cX6_stretched tbX6_stretched = true := by decide +kernel
def tbX7_init : pTab := [(0, .aload_n 0, 1), (1, .invokespecial 3, 3), (4, .aload_n 0, 1), (5, .sipush 160, 3), (8, .newarray .int, 2), (10, .putfield 9, 3), (13, .aload_n 0, 1), (14, .iconst 0, 1), (15, .putfield 15, 3), (18, .aload_n 0, 1), (19, .new 19, 3), (22, .dup, 1), (23, .invokespecial 21, 3), (26, .putfield 22, 3), (29, .aload_n 0, 1), (30, .iconst 0, 1), (31, .putfield 26, 3), (34, .aload_n 0, 1), (35, .iconst 0, 1), (36, .putfield 29, 3), (39, .return_, 1)]
theorem tbX7_init_ok : pTabOk cX7_init tbX7_init = true := by decide +kernel
def tbX7_append : pTab := [(0, .aload_n 0, 1), (1, .getfield 15, 3), (4, .sipush 160, 3), (7, .if_icmp .ge 25, 3), (10, .aload_n 0, 1), (11, .getfield 9, 3), (14, .aload_n 0, 1), (15, .getfield 15, 3), (18, .iload_n 1, 1), (19, .invokestatic 32, 3), (22, .aload_n 0, 1), (23, .dup, 1), (24, .getfield 15, 3), (27, .iconst 1, 1), (28, .iadd, 1), (29, .putfield 15, 3), (32, .return_, 1)]
theorem tbX7_append_ok : pTabOk cX7_append tbX7_append = true := by decide +kernel
def tbX7_readMusic : pTab := [(0, .aload_n 0, 1), (1, .iconst 0, 1), (2, .putfield 29, 3), (5, .aload_n 0, 1), (6, .iconst 0, 1), (7, .putfield 26, 3), (10, .iconst 0, 1), (11, .istore_n 1, 1), (12, .iload_n 1, 1), (13, .sipush 160, 3), (16, .if_icmp .ge 58, 3), (19, .aload_n 0, 1), (20, .invokevirtual 36, 3), (23, .ifCond .ne 8, 3), (26, .aload_n 0, 1), (27, .getfield 29, 3), (30, .ireturn, 1), (31, .aload_n 0, 1), (32, .getfield 29, 3), (35, .aload_n 0, 1), (36, .getfield 15, 3), (39, .if_icmp .lt 5, 3), (42, .iconst (-1), 1), (43, .ireturn, 1), (44, .aload_n 0, 1), (45, .bipush 32, 2), (47, .invokevirtual 40, 3), (50, .ifCond .ne 8, 3), (53, .aload_n 0, 1), (54, .getfield 29, 3), (57, .ireturn, 1), (58, .aload_n 0, 1), (59, .dup, 1), (60, .getfield 29, 3), (63, .iconst 1, 1), (64, .iadd, 1), (65, .putfield 29, 3), (68, .iinc 1 1, 3), (71, .goto (-59), 3), (74, .aload_n 0, 1), (75, .getfield 29, 3), (78, .ireturn, 1)]
theorem tbX7_readMusic_ok : pTabOk cX7_readMusic tbX7_readMusic = true := by decide +kernel
def tbX7_isNext : pTab := [(0, .aload_n 0, 1), (1, .getfield 29, 3), (4, .aload_n 0, 1), (5, .getfield 15, 3), (8, .if_icmp .ge 22, 3), (11, .aload_n 0, 1), (12, .getfield 9, 3), (15, .aload_n 0, 1), (16, .getfield 29, 3), (19, .invokestatic 44, 3), (22, .iload_n 1, 1), (23, .if_icmp .ne 7, 3), (26, .iconst 1, 1), (27, .goto 4, 3), (30, .iconst 0, 1), (31, .ireturn, 1)]
theorem tbX7_isNext_ok : pTabOk cX7_isNext tbX7_isNext = true := by decide +kernel
def tbX7_readSign : pTab := [(0, .aload_n 0, 1), (1, .bipush 110, 2), (3, .invokevirtual 40, 3), (6, .ifCond .eq 7, 3), (9, .iconst 0, 1), (10, .goto 30, 3), (13, .aload_n 0, 1), (14, .bipush 114, 2), (16, .invokevirtual 40, 3), (19, .ifCond .eq 7, 3), (22, .iconst 1, 1), (23, .goto 17, 3), (26, .aload_n 0, 1), (27, .bipush 98, 2), (29, .invokevirtual 40, 3), (32, .ifCond .eq 7, 3), (35, .iconst 2, 1), (36, .goto 4, 3), (39, .iconst (-1), 1), (40, .istore_n 1, 1), (41, .iload_n 1, 1), (42, .iconst (-1), 1), (43, .if_icmp .ne 5, 3), (46, .iconst 0, 1), (47, .ireturn, 1), (48, .aload_n 0, 1), (49, .dup, 1), (50, .getfield 29, 3), (53, .iconst 1, 1), (54, .iadd, 1), (55, .putfield 29, 3), (58, .iload_n 1, 1), (59, .iconst 2, 1), (60, .if_icmp .ne 7, 3), (63, .iconst 1, 1), (64, .goto 10, 3), (67, .aload_n 0, 1), (68, .iconst 1, 1), (69, .bipush 64, 2), (71, .invokevirtual 48, 3), (74, .istore_n 2, 1), (75, .iload_n 2, 1), (76, .iconst (-1), 1), (77, .if_icmp .ne 5, 3), (80, .iconst 0, 1), (81, .ireturn, 1), (82, .iconst 0, 1), (83, .istore_n 3, 1), (84, .iload_n 1, 1), (85, .ifCond .ne 86, 3), (88, .aload_n 0, 1), (89, .bipush 43, 2), (91, .invokevirtual 40, 3), (94, .ifCond .ne 12, 3), (97, .aload_n 0, 1), (98, .bipush 45, 2), (100, .invokevirtual 40, 3), (103, .ifCond .eq 68, 3), (106, .aload_n 0, 1), (107, .bipush 43, 2), (109, .invokevirtual 40, 3), (112, .istore 4, 2), (114, .aload_n 0, 1), (115, .dup, 1), (116, .getfield 29, 3), (119, .iconst 1, 1), (120, .iadd, 1), (121, .putfield 29, 3), (124, .iload 4, 2), (126, .ifCond .eq 13, 3), (129, .aload_n 0, 1), (130, .iconst 0, 1), (131, .bipush 20, 2), (133, .invokevirtual 48, 3), (136, .goto 10, 3), (139, .aload_n 0, 1), (140, .iconst 1, 1), (141, .bipush 12, 2), (143, .invokevirtual 48, 3), (146, .istore 5, 2), (148, .iload 5, 2), (150, .iconst (-1), 1), (151, .if_icmp .ne 5, 3), (154, .iconst 0, 1), (155, .ireturn, 1), (156, .iload 4, 2), (158, .ifCond .eq 8, 3), (161, .iload 5, 2), (163, .goto 7, 3), (166, .iconst 0, 1), (167, .iload 5, 2), (169, .isub, 1), (170, .istore_n 3, 1), (171, .aload_n 0, 1), (172, .iload_n 1, 1), (173, .iload_n 2, 1), (174, .iload_n 3, 1), (175, .aload_n 0, 1), (176, .invokevirtual 52, 3), (179, .invokevirtual 56, 3), (182, .iconst 1, 1), (183, .ireturn, 1)]
theorem tbX7_readSign_ok : pTabOk cX7_readSign tbX7_readSign = true := by decide +kernel
def tbX7_readNumber : pTab := [(0, .aload_n 0, 1), (1, .invokevirtual 60, 3), (4, .istore_n 3, 1), (5, .iload_n 3, 1), (6, .iconst (-1), 1), (7, .if_icmp .eq 8, 3), (10, .iload_n 3, 1), (11, .iload_n 1, 1), (12, .if_icmp .ge 5, 3), (15, .iconst (-1), 1), (16, .ireturn, 1), (17, .aload_n 0, 1), (18, .dup, 1), (19, .getfield 29, 3), (22, .iconst 1, 1), (23, .iadd, 1), (24, .putfield 29, 3), (27, .iconst 0, 1), (28, .istore 4, 2), (30, .iload 4, 2), (32, .sipush 160, 3), (35, .if_icmp .ge 48, 3), (38, .iload_n 3, 1), (39, .ifCond .le 44, 3), (42, .aload_n 0, 1), (43, .invokevirtual 60, 3), (46, .iconst (-1), 1), (47, .if_icmp .eq 36, 3), (50, .iload_n 3, 1), (51, .bipush 10, 2), (53, .imul, 1), (54, .aload_n 0, 1), (55, .invokevirtual 60, 3), (58, .iadd, 1), (59, .istore_n 3, 1), (60, .iload_n 3, 1), (61, .iload_n 2, 1), (62, .if_icmp .le 5, 3), (65, .iconst (-1), 1), (66, .ireturn, 1), (67, .aload_n 0, 1), (68, .dup, 1), (69, .getfield 29, 3), (72, .iconst 1, 1), (73, .iadd, 1), (74, .putfield 29, 3), (77, .iinc 4 1, 3), (80, .goto (-50), 3), (83, .iload_n 3, 1), (84, .ireturn, 1)]
theorem tbX7_readNumber_ok : pTabOk cX7_readNumber tbX7_readNumber = true := by decide +kernel
def tbX7_digit : pTab := [(0, .aload_n 0, 1), (1, .getfield 29, 3), (4, .aload_n 0, 1), (5, .getfield 15, 3), (8, .if_icmp .ge 17, 3), (11, .aload_n 0, 1), (12, .getfield 9, 3), (15, .aload_n 0, 1), (16, .getfield 29, 3), (19, .invokestatic 44, 3), (22, .goto 4, 3), (25, .iconst 0, 1), (26, .istore_n 1, 1), (27, .iload_n 1, 1), (28, .bipush 48, 2), (30, .if_icmp .lt 16, 3), (33, .iload_n 1, 1), (34, .bipush 57, 2), (36, .if_icmp .gt 10, 3), (39, .iload_n 1, 1), (40, .bipush 48, 2), (42, .isub, 1), (43, .goto 4, 3), (46, .iconst (-1), 1), (47, .ireturn, 1)]
theorem tbX7_digit_ok : pTabOk cX7_digit tbX7_digit = true := by decide +kernel
def tbX7_readAdorn : pTab := [(0, .iconst 0, 1), (1, .istore_n 1, 1), (2, .iload_n 1, 1), (3, .bipush 9, 2), (5, .if_icmp .ge 28, 3), (8, .aload_n 0, 1), (9, .bipush 39, 2), (11, .invokevirtual 40, 3), (14, .ifCond .eq 19, 3), (17, .iinc 1 1, 3), (20, .aload_n 0, 1), (21, .dup, 1), (22, .getfield 29, 3), (25, .iconst 1, 1), (26, .iadd, 1), (27, .putfield 29, 3), (30, .goto (-28), 3), (33, .iload_n 1, 1), (34, .ireturn, 1)]
theorem tbX7_readAdorn_ok : pTabOk cX7_readAdorn tbX7_readAdorn = true := by decide +kernel
end
section
def tbX7_keep : pTab := [(0, .aload_n 0, 1), (1, .getfield 26, 3), (4, .bipush 32, 2), (6, .if_icmp .ge 20, 3), (9, .aload_n 0, 1), (10, .getfield 22, 3), (13, .aload_n 0, 1), (14, .getfield 26, 3), (17, .iload_n 1, 1), (18, .iload_n 2, 1), (19, .iload_n 3, 1), (20, .iconst 2, 1), (21, .iload 4, 2), (23, .invokevirtual 63, 3), (26, .aload_n 0, 1), (27, .dup, 1), (28, .getfield 26, 3), (31, .iconst 1, 1), (32, .iadd, 1), (33, .putfield 26, 3), (36, .return_, 1)]
theorem tbX7_keep_ok : pTabOk cX7_keep tbX7_keep = true := by decide +kernel
def tbX8_init : pTab := [(0, .aload_n 0, 1), (1, .invokespecial 1, 3), (4, .aload_n 0, 1), (5, .new 7, 3), (8, .dup, 1), (9, .invokespecial 9, 3), (12, .putfield 10, 3), (15, .aload_n 0, 1), (16, .new 7, 3), (19, .dup, 1), (20, .invokespecial 9, 3), (23, .putfield 16, 3), (26, .aload_n 0, 1), (27, .iconst 0, 1), (28, .putfield 19, 3), (31, .aload_n 0, 1), (32, .new 23, 3), (35, .dup, 1), (36, .invokespecial 25, 3), (39, .putfield 26, 3), (42, .aload_n 0, 1), (43, .new 23, 3), (46, .dup, 1), (47, .invokespecial 25, 3), (50, .putfield 30, 3), (53, .aload_n 0, 1), (54, .new 33, 3), (57, .dup, 1), (58, .invokespecial 35, 3), (61, .putfield 36, 3), (64, .aload_n 0, 1), (65, .new 33, 3), (68, .dup, 1), (69, .invokespecial 35, 3), (72, .putfield 40, 3), (75, .aload_n 0, 1), (76, .new 43, 3), (79, .dup, 1), (80, .invokespecial 45, 3), (83, .putfield 46, 3), (86, .aload_n 0, 1), (87, .new 43, 3), (90, .dup, 1), (91, .invokespecial 45, 3), (94, .putfield 50, 3), (97, .aload_n 0, 1), (98, .new 53, 3), (101, .dup, 1), (102, .invokespecial 55, 3), (105, .putfield 56, 3), (108, .aload_n 0, 1), (109, .new 60, 3), (112, .dup, 1), (113, .invokespecial 62, 3), (116, .putfield 63, 3), (119, .aload_n 0, 1), (120, .new 67, 3), (123, .dup, 1), (124, .invokespecial 69, 3), (127, .putfield 70, 3), (130, .aload_n 0, 1), (131, .bipush 8, 2), (133, .newarray .int, 2), (135, .putfield 74, 3), (138, .return_, 1)]
theorem tbX8_init_ok : pTabOk cX8_init tbX8_init = true := by decide +kernel
def tbX8_add : pTab := [(0, .iconst 0, 1), (1, .iload_n 1, 1), (2, .invokestatic 78, 3), (5, .ifCond .eq 11, 3), (8, .iconst 1, 1), (9, .iload_n 2, 1), (10, .invokestatic 78, 3), (13, .ifCond .ne 9, 3), (16, .aload_n 0, 1), (17, .iconst 1, 1), (18, .invokevirtual 82, 3), (21, .ireturn, 1), (22, .aload_n 0, 1), (23, .getfield 10, 3), (26, .getfield 86, 3), (29, .bipush 32, 2), (31, .if_icmp .lt 9, 3), (34, .aload_n 0, 1), (35, .iconst 4, 1), (36, .invokevirtual 82, 3), (39, .ireturn, 1), (40, .aload_n 0, 1), (41, .getfield 10, 3), (44, .getfield 86, 3), (47, .istore_n 3, 1), (48, .aload_n 0, 1), (49, .getfield 10, 3), (52, .getfield 90, 3), (55, .iload_n 3, 1), (56, .iload_n 1, 1), (57, .iload_n 2, 1), (58, .iconst 0, 1), (59, .iconst 2, 1), (60, .iconst 0, 1), (61, .invokevirtual 93, 3), (64, .aload_n 0, 1), (65, .getfield 10, 3), (68, .iload_n 3, 1), (69, .iconst 1, 1), (70, .iadd, 1), (71, .putfield 86, 3), (74, .iload_n 3, 1), (75, .ireturn, 1)]
theorem tbX8_add_ok : pTabOk cX8_add tbX8_add = true := by decide +kernel
def tbX8_drop : pTab := [(0, .aload_n 0, 1), (1, .getfield 10, 3), (4, .getfield 86, 3), (7, .ifCond .gt 9, 3), (10, .aload_n 0, 1), (11, .iconst 2, 1), (12, .invokevirtual 82, 3), (15, .ireturn, 1), (16, .aload_n 0, 1), (17, .getfield 10, 3), (20, .dup, 1), (21, .getfield 86, 3), (24, .iconst 1, 1), (25, .isub, 1), (26, .putfield 86, 3), (29, .aload_n 0, 1), (30, .getfield 10, 3), (33, .getfield 86, 3), (36, .ireturn, 1)]
theorem tbX8_drop_ok : pTabOk cX8_drop tbX8_drop = true := by decide +kernel
def tbX8_set : pTab := [(0, .aload_n 0, 1), (1, .iload_n 1, 1), (2, .invokevirtual 97, 3), (5, .ifCond .eq 20, 3), (8, .iload_n 2, 1), (9, .iconst 0, 1), (10, .iconst 4, 1), (11, .invokestatic 101, 3), (14, .ifCond .eq 11, 3), (17, .iload_n 2, 1), (18, .iload_n 3, 1), (19, .invokestatic 78, 3), (22, .ifCond .ne 9, 3), (25, .aload_n 0, 1), (26, .iconst 1, 1), (27, .invokevirtual 82, 3), (30, .ireturn, 1), (31, .aload_n 0, 1), (32, .getfield 10, 3), (35, .getfield 90, 3), (38, .iload_n 1, 1), (39, .iload_n 2, 1), (40, .invokevirtual 105, 3), (43, .istore 4, 2), (45, .aload_n 0, 1), (46, .getfield 10, 3), (49, .getfield 90, 3), (52, .iload_n 1, 1), (53, .iload_n 2, 1), (54, .iload_n 3, 1), (55, .invokevirtual 109, 3), (58, .iload 4, 2), (60, .ireturn, 1)]
theorem tbX8_set_ok : pTabOk cX8_set tbX8_set = true := by decide +kernel
def tbX8_of : pTab := [(0, .aload_n 0, 1), (1, .iload_n 1, 1), (2, .invokevirtual 97, 3), (5, .ifCond .eq 13, 3), (8, .iload_n 2, 1), (9, .iconst 0, 1), (10, .bipush 6, 2), (12, .invokestatic 101, 3), (15, .ifCond .ne 9, 3), (18, .aload_n 0, 1), (19, .iconst 1, 1), (20, .invokevirtual 82, 3), (23, .ireturn, 1), (24, .iload_n 2, 1), (25, .iconst 5, 1), (26, .if_icmp .ge 16, 3), (29, .aload_n 0, 1), (30, .getfield 10, 3), (33, .getfield 90, 3), (36, .iload_n 1, 1), (37, .iload_n 2, 1), (38, .invokevirtual 105, 3), (41, .ireturn, 1), (42, .iload_n 2, 1), (43, .iconst 5, 1), (44, .if_icmp .ne 17, 3), (47, .aload_n 0, 1), (48, .getfield 10, 3), (51, .getfield 90, 3), (54, .iload_n 1, 1), (55, .invokevirtual 113, 3), (58, .goto 14, 3), (61, .aload_n 0, 1), (62, .getfield 10, 3), (65, .getfield 90, 3), (68, .iload_n 1, 1), (69, .invokevirtual 116, 3), (72, .ireturn, 1)]
theorem tbX8_of_ok : pTabOk cX8_of tbX8_of = true := by decide +kernel
def tbX8_spring : pTab := [(0, .aload_n 0, 1), (1, .iload_n 1, 1), (2, .invokevirtual 97, 3), (5, .ifCond .eq 12, 3), (8, .iload_n 2, 1), (9, .iconst 0, 1), (10, .iconst 2, 1), (11, .invokestatic 101, 3), (14, .ifCond .ne 9, 3), (17, .aload_n 0, 1), (18, .iconst 1, 1), (19, .invokevirtual 82, 3), (22, .ireturn, 1), (23, .iload_n 2, 1), (24, .lookupswitch 69 #[(0, 28), (1, 43)], 28), (52, .aload_n 0, 1), (53, .getfield 10, 3), (56, .getfield 90, 3), (59, .iload_n 1, 1), (60, .invokevirtual 119, 3), (63, .invokestatic 123, 3), (66, .ireturn, 1), (67, .aload_n 0, 1), (68, .getfield 10, 3), (71, .getfield 90, 3), (74, .iload_n 1, 1), (75, .aload_n 0, 1), (76, .getfield 10, 3), (79, .getfield 90, 3), (82, .iload_n 1, 1), (83, .invokevirtual 119, 3), (86, .invokevirtual 127, 3), (89, .invokestatic 123, 3), (92, .ireturn, 1), (93, .aload_n 0, 1), (94, .getfield 10, 3), (97, .getfield 90, 3), (100, .iload_n 1, 1), (101, .invokevirtual 131, 3), (104, .invokestatic 123, 3), (107, .ireturn, 1)]
theorem tbX8_spring_ok : pTabOk cX8_spring tbX8_spring = true := by decide +kernel
def tbX8_width : pTab := [(0, .iload_n 1, 1), (1, .bipush 20, 2), (3, .sipush 380, 3), (6, .invokestatic 101, 3), (9, .ifCond .ne 9, 3), (12, .aload_n 0, 1), (13, .iconst 1, 1), (14, .invokevirtual 82, 3), (17, .ireturn, 1), (18, .aload_n 0, 1), (19, .getfield 10, 3), (22, .getfield 134, 3), (25, .istore_n 2, 1), (26, .aload_n 0, 1), (27, .getfield 10, 3), (30, .iload_n 1, 1), (31, .putfield 134, 3), (34, .iload_n 2, 1), (35, .ireturn, 1)]
theorem tbX8_width_ok : pTabOk cX8_width tbX8_width = true := by decide +kernel
def tbX8_force : pTab := [(0, .aload_n 0, 1), (1, .iload_n 1, 1), (2, .iload_n 2, 1), (3, .invokevirtual 137, 3), (6, .ifCond .ne 9, 3), (9, .aload_n 0, 1), (10, .iconst 1, 1), (11, .invokevirtual 82, 3), (14, .ireturn, 1), (15, .aload_n 0, 1), (16, .getfield 26, 3), (19, .aload_n 0, 1), (20, .getfield 10, 3), (23, .getfield 90, 3), (26, .iload_n 1, 1), (27, .iload_n 2, 1), (28, .aload_n 0, 1), (29, .getfield 10, 3), (32, .getfield 134, 3), (35, .invokevirtual 140, 3), (38, .aload_n 0, 1), (39, .getfield 26, 3), (42, .getfield 144, 3), (45, .invokestatic 123, 3), (48, .ireturn, 1)]
theorem tbX8_force_ok : pTabOk cX8_force tbX8_force = true := by decide +kernel
def tbX8_held : pTab := [(0, .aload_n 0, 1), (1, .iload_n 1, 1), (2, .iload_n 2, 1), (3, .invokevirtual 137, 3), (6, .ifCond .ne 9, 3), (9, .aload_n 0, 1), (10, .iconst 1, 1), (11, .invokevirtual 82, 3), (14, .ireturn, 1), (15, .aload_n 0, 1), (16, .getfield 26, 3), (19, .aload_n 0, 1), (20, .getfield 10, 3), (23, .getfield 90, 3), (26, .iload_n 1, 1), (27, .iload_n 2, 1), (28, .aload_n 0, 1), (29, .getfield 10, 3), (32, .getfield 134, 3), (35, .invokevirtual 140, 3), (38, .aload_n 0, 1), (39, .getfield 26, 3), (42, .invokevirtual 148, 3), (45, .ireturn, 1)]
theorem tbX8_held_ok : pTabOk cX8_held tbX8_held = true := by decide +kernel
def tbX8_at : pTab := [(0, .aload_n 0, 1), (1, .iload_n 1, 1), (2, .iload_n 2, 1), (3, .invokevirtual 137, 3), (6, .ifCond .eq 22, 3), (9, .iload_n 3, 1), (10, .iload_n 1, 1), (11, .iload_n 2, 1), (12, .invokestatic 101, 3), (15, .ifCond .eq 13, 3), (18, .iload 4, 2), (20, .iconst 0, 1), (21, .iconst 2, 1), (22, .invokestatic 101, 3), (25, .ifCond .ne 9, 3), (28, .aload_n 0, 1), (29, .iconst 1, 1), (30, .invokevirtual 82, 3), (33, .ireturn, 1), (34, .aload_n 0, 1), (35, .getfield 26, 3), (38, .aload_n 0, 1), (39, .getfield 10, 3), (42, .getfield 90, 3), (45, .iload_n 1, 1), (46, .iload_n 2, 1), (47, .aload_n 0, 1), (48, .getfield 10, 3), (51, .getfield 134, 3), (54, .invokevirtual 140, 3), (57, .iload 4, 2), (59, .lookupswitch 49 #[(0, 25), (1, 37)], 25), (84, .aload_n 0, 1), (85, .getfield 26, 3), (88, .iload_n 3, 1), (89, .invokevirtual 152, 3), (92, .invokestatic 123, 3), (95, .ireturn, 1), (96, .aload_n 0, 1), (97, .getfield 26, 3), (100, .iload_n 3, 1), (101, .invokevirtual 155, 3), (104, .invokestatic 123, 3), (107, .ireturn, 1), (108, .aload_n 0, 1), (109, .getfield 26, 3), (112, .iload_n 3, 1), (113, .invokevirtual 158, 3), (116, .ireturn, 1)]
theorem tbX8_at_ok : pTabOk cX8_at tbX8_at = true := by decide +kernel
def tbX8_bad : pTab := [(0, .aload_n 0, 1), (1, .iload_n 1, 1), (2, .iload_n 2, 1), (3, .invokevirtual 137, 3), (6, .ifCond .ne 9, 3), (9, .aload_n 0, 1), (10, .iconst 1, 1), (11, .invokevirtual 82, 3), (14, .ireturn, 1), (15, .aload_n 0, 1), (16, .getfield 26, 3), (19, .aload_n 0, 1), (20, .getfield 10, 3), (23, .getfield 90, 3), (26, .iload_n 1, 1), (27, .iload_n 2, 1), (28, .aload_n 0, 1), (29, .getfield 10, 3), (32, .getfield 134, 3), (35, .invokevirtual 161, 3), (38, .aload_n 0, 1), (39, .getfield 26, 3), (42, .invokevirtual 164, 3), (45, .ifCond .ne 9, 3), (48, .aload_n 0, 1), (49, .iconst 2, 1), (50, .invokevirtual 82, 3), (53, .ireturn, 1), (54, .aload_n 0, 1), (55, .getfield 26, 3), (58, .invokevirtual 168, 3), (61, .invokestatic 123, 3), (64, .ireturn, 1)]
theorem tbX8_bad_ok : pTabOk cX8_bad tbX8_bad = true := by decide +kernel
def tbX8_sky : pTab := [(0, .aload_n 0, 1), (1, .iload_n 1, 1), (2, .iload_n 2, 1), (3, .invokevirtual 137, 3), (6, .ifCond .eq 24, 3), (9, .iload_n 3, 1), (10, .iconst 0, 1), (11, .iconst 1, 1), (12, .invokestatic 101, 3), (15, .ifCond .eq 15, 3), (18, .iload 4, 2), (20, .iconst 0, 1), (21, .sipush 399, 3), (24, .invokestatic 101, 3), (27, .ifCond .ne 9, 3), (30, .aload_n 0, 1), (31, .iconst 1, 1), (32, .invokevirtual 82, 3), (35, .ireturn, 1), (36, .aload_n 0, 1), (37, .aload_n 0, 1), (38, .getfield 36, 3), (41, .iload_n 1, 1), (42, .iload_n 2, 1), (43, .invokevirtual 172, 3), (46, .aload_n 0, 1), (47, .getfield 36, 3), (50, .iload 4, 2), (52, .invokevirtual 176, 3), (55, .ifCond .ne 9, 3), (58, .aload_n 0, 1), (59, .iconst 2, 1), (60, .invokevirtual 82, 3), (63, .ireturn, 1), (64, .iload_n 3, 1), (65, .ifCond .ne 15, 3), (68, .aload_n 0, 1), (69, .getfield 36, 3), (72, .iload 4, 2), (74, .invokevirtual 179, 3), (77, .goto 12, 3), (80, .aload_n 0, 1), (81, .getfield 36, 3), (84, .iload 4, 2), (86, .invokevirtual 182, 3), (89, .ireturn, 1)]
theorem tbX8_sky_ok : pTabOk cX8_sky tbX8_sky = true := by decide +kernel
def tbX8_apart : pTab := [(0, .aload_n 0, 1), (1, .iload_n 1, 1), (2, .iload_n 2, 1), (3, .invokevirtual 137, 3), (6, .ifCond .eq 13, 3), (9, .aload_n 0, 1), (10, .iload_n 3, 1), (11, .iload 4, 2), (13, .invokevirtual 137, 3), (16, .ifCond .ne 9, 3), (19, .aload_n 0, 1), (20, .iconst 1, 1), (21, .invokevirtual 82, 3), (24, .ireturn, 1), (25, .aload_n 0, 1), (26, .iload_n 1, 1), (27, .iload_n 2, 1), (28, .iload_n 3, 1), (29, .iload 4, 2), (31, .invokevirtual 185, 3), (34, .ireturn, 1)]
theorem tbX8_apart_ok : pTabOk cX8_apart tbX8_apart = true := by decide +kernel
def tbX8_lines : pTab := [(0, .aload_n 0, 1), (1, .invokevirtual 189, 3), (4, .aload_n 0, 1), (5, .getfield 46, 3), (8, .getfield 192, 3), (11, .ifCond .eq 13, 3), (14, .aload_n 0, 1), (15, .getfield 46, 3), (18, .getfield 195, 3), (21, .goto 8, 3), (24, .aload_n 0, 1), (25, .iconst 2, 1), (26, .invokevirtual 82, 3), (29, .ireturn, 1)]
theorem tbX8_lines_ok : pTabOk cX8_lines tbX8_lines = true := by decide +kernel
def tbX8_line : pTab := [(0, .aload_n 0, 1), (1, .invokevirtual 189, 3), (4, .aload_n 0, 1), (5, .getfield 46, 3), (8, .getfield 192, 3), (11, .ifCond .ne 9, 3), (14, .aload_n 0, 1), (15, .iconst 2, 1), (16, .invokevirtual 82, 3), (19, .ireturn, 1), (20, .iload_n 2, 1), (21, .iconst 0, 1), (22, .iconst 3, 1), (23, .invokestatic 101, 3), (26, .ifCond .eq 29, 3), (29, .iload_n 1, 1), (30, .iconst 0, 1), (31, .aload_n 0, 1), (32, .getfield 46, 3), (35, .getfield 195, 3), (38, .iload_n 2, 1), (39, .iconst 3, 1), (40, .if_icmp .ne 7, 3), (43, .iconst 2, 1), (44, .goto 4, 3), (47, .iconst 1, 1), (48, .isub, 1), (49, .invokestatic 101, 3), (52, .ifCond .ne 9, 3), (55, .aload_n 0, 1), (56, .iconst 1, 1), (57, .invokevirtual 82, 3), (60, .ireturn, 1), (61, .aload_n 0, 1), (62, .getfield 46, 3), (65, .iload_n 1, 1), (66, .invokevirtual 198, 3), (69, .istore_n 3, 1), (70, .aload_n 0, 1), (71, .getfield 46, 3), (74, .iload_n 1, 1), (75, .invokevirtual 201, 3), (78, .istore 4, 2), (80, .iload_n 2, 1), (81, .tableswitch 66 0 2 #[27, 29, 32], 27), (108, .iload_n 3, 1), (109, .ireturn, 1), (110, .iload 4, 2), (112, .ireturn, 1), (113, .aload_n 0, 1), (114, .getfield 26, 3), (117, .aload_n 0, 1), (118, .getfield 10, 3), (121, .getfield 90, 3), (124, .iload_n 3, 1), (125, .iload 4, 2), (127, .aload_n 0, 1), (128, .getfield 10, 3), (131, .getfield 134, 3), (134, .invokevirtual 140, 3), (137, .aload_n 0, 1), (138, .getfield 26, 3), (141, .iload 4, 2), (143, .invokevirtual 158, 3), (146, .ireturn, 1), (147, .aload_n 0, 1), (148, .iload_n 3, 1), (149, .iload 4, 2), (151, .aload_n 0, 1), (152, .getfield 46, 3), (155, .iload_n 1, 1), (156, .iconst 1, 1), (157, .iadd, 1), (158, .invokevirtual 198, 3), (161, .aload_n 0, 1), (162, .getfield 46, 3), (165, .iload_n 1, 1), (166, .iconst 1, 1), (167, .iadd, 1), (168, .invokevirtual 201, 3), (171, .invokevirtual 185, 3), (174, .ireturn, 1)]
theorem tbX8_line_ok : pTabOk cX8_line tbX8_line = true := by decide +kernel
def tbX8_total : pTab := [(0, .aload_n 0, 1), (1, .invokevirtual 189, 3), (4, .aload_n 0, 1), (5, .getfield 46, 3), (8, .getfield 192, 3), (11, .ifCond .eq 16, 3), (14, .aload_n 0, 1), (15, .getfield 46, 3), (18, .getfield 204, 3), (21, .invokestatic 123, 3), (24, .goto 8, 3), (27, .aload_n 0, 1), (28, .iconst 2, 1), (29, .invokevirtual 82, 3), (32, .ireturn, 1)]
theorem tbX8_total_ok : pTabOk cX8_total tbX8_total = true := by decide +kernel
def tbX8_moved : pTab := [(0, .iload_n 3, 1), (1, .ifCond .ne 7, 3), (4, .iconst 1, 1), (5, .goto 4, 3), (8, .iconst 0, 1), (9, .istore 4, 2), (11, .aload_n 0, 1), (12, .iload_n 1, 1), (13, .invokevirtual 97, 3), (16, .ifCond .eq 24, 3), (19, .iconst 2, 1), (20, .iload_n 2, 1), (21, .invokestatic 78, 3), (24, .ifCond .eq 16, 3), (27, .iload 4, 2), (29, .ifCond .ne 17, 3), (32, .iconst 1, 1), (33, .iload_n 3, 1), (34, .invokestatic 78, 3), (37, .ifCond .ne 9, 3), (40, .aload_n 0, 1), (41, .iconst 1, 1), (42, .invokevirtual 82, 3), (45, .ireturn, 1), (46, .aload_n 0, 1), (47, .getfield 56, 3), (50, .aload_n 0, 1), (51, .getfield 10, 3), (54, .getfield 90, 3), (57, .invokevirtual 207, 3), (60, .aload_n 0, 1), (61, .getfield 56, 3), (64, .iload_n 1, 1), (65, .iconst 2, 1), (66, .iload_n 2, 1), (67, .invokevirtual 109, 3), (70, .iload 4, 2), (72, .ifCond .ne 13, 3), (75, .aload_n 0, 1), (76, .getfield 56, 3), (79, .iload_n 1, 1), (80, .iconst 1, 1), (81, .iload_n 3, 1), (82, .invokevirtual 109, 3), (85, .aload_n 0, 1), (86, .invokevirtual 189, 3), (89, .aload_n 0, 1), (90, .getfield 50, 3), (93, .aload_n 0, 1), (94, .getfield 56, 3), (97, .aload_n 0, 1), (98, .getfield 10, 3), (101, .getfield 86, 3), (104, .aload_n 0, 1), (105, .getfield 10, 3), (108, .getfield 134, 3), (111, .invokevirtual 211, 3), (114, .aload_n 0, 1), (115, .getfield 46, 3), (118, .getfield 192, 3), (121, .ifCond .eq 13, 3), (124, .aload_n 0, 1), (125, .getfield 50, 3), (128, .getfield 192, 3), (131, .ifCond .ne 9, 3), (134, .aload_n 0, 1), (135, .iconst 2, 1), (136, .invokevirtual 82, 3), (139, .ireturn, 1), (140, .iconst 0, 1), (141, .istore 5, 2), (143, .iconst 0, 1), (144, .istore 6, 2), (146, .iload 6, 2), (148, .aload_n 0, 1), (149, .getfield 46, 3), (152, .getfield 195, 3), (155, .if_icmp .ge 21, 3), (158, .aload_n 0, 1), (159, .iload 6, 2), (161, .invokevirtual 215, 3), (164, .ifCond .eq 6, 3), (167, .iinc 5 1, 3), (170, .iinc 6 1, 3), (173, .goto (-27), 3), (176, .iload 5, 2), (178, .ireturn, 1)]
theorem tbX8_moved_ok : pTabOk cX8_moved tbX8_moved = true := by decide +kernel
def tbX8_beam : pTab := [(0, .aload_n 0, 1), (1, .iload_n 1, 1), (2, .iload_n 2, 1), (3, .invokevirtual 137, 3), (6, .ifCond .eq 12, 3), (9, .iload_n 3, 1), (10, .iconst 0, 1), (11, .iconst 3, 1), (12, .invokestatic 101, 3), (15, .ifCond .ne 9, 3), (18, .aload_n 0, 1), (19, .iconst 1, 1), (20, .invokevirtual 82, 3), (23, .ireturn, 1), (24, .iload_n 1, 1), (25, .iload_n 2, 1), (26, .if_icmp .ne 9, 3), (29, .aload_n 0, 1), (30, .iconst 3, 1), (31, .invokevirtual 82, 3), (34, .ireturn, 1), (35, .aload_n 0, 1), (36, .iload_n 1, 1), (37, .iload_n 2, 1), (38, .invokevirtual 218, 3), (41, .ifCond .ne 9, 3), (44, .aload_n 0, 1), (45, .iconst 5, 1), (46, .invokevirtual 82, 3), (49, .ireturn, 1), (50, .aload_n 0, 1), (51, .getfield 26, 3), (54, .aload_n 0, 1), (55, .getfield 10, 3), (58, .getfield 90, 3), (61, .iload_n 1, 1), (62, .iload_n 2, 1), (63, .aload_n 0, 1), (64, .getfield 10, 3), (67, .getfield 134, 3), (70, .invokevirtual 140, 3), (73, .iload_n 3, 1), (74, .tableswitch 61 0 2 #[26, 36, 46], 26), (100, .aload_n 0, 1), (101, .iload_n 1, 1), (102, .iload_n 2, 1), (103, .invokevirtual 221, 3), (106, .invokestatic 123, 3), (109, .ireturn, 1), (110, .aload_n 0, 1), (111, .iload_n 1, 1), (112, .iload_n 2, 1), (113, .invokevirtual 225, 3), (116, .invokestatic 123, 3), (119, .ireturn, 1), (120, .aload_n 0, 1), (121, .iload_n 1, 1), (122, .iload_n 2, 1), (123, .invokevirtual 228, 3), (126, .ifCond .eq 7, 3), (129, .iconst 1, 1), (130, .goto 4, 3), (133, .iconst 0, 1), (134, .ireturn, 1), (135, .aload_n 0, 1), (136, .iload_n 1, 1), (137, .iload_n 2, 1), (138, .invokevirtual 231, 3), (141, .invokestatic 123, 3), (144, .ireturn, 1)]
theorem tbX8_beam_ok : pTabOk cX8_beam tbX8_beam = true := by decide +kernel
def tbX8_slur : pTab := [(0, .aload_n 0, 1), (1, .iload_n 1, 1), (2, .iload_n 2, 1), (3, .invokevirtual 137, 3), (6, .ifCond .eq 12, 3), (9, .iload_n 3, 1), (10, .iconst 0, 1), (11, .iconst 3, 1), (12, .invokestatic 101, 3), (15, .ifCond .ne 9, 3), (18, .aload_n 0, 1), (19, .iconst 1, 1), (20, .invokevirtual 82, 3), (23, .ireturn, 1), (24, .iload_n 2, 1), (25, .iload_n 1, 1), (26, .isub, 1), (27, .iconst 2, 1), (28, .if_icmp .ge 9, 3), (31, .aload_n 0, 1), (32, .iconst 3, 1), (33, .invokevirtual 82, 3), (36, .ireturn, 1), (37, .aload_n 0, 1), (38, .iload_n 1, 1), (39, .iload_n 2, 1), (40, .iconst 1, 1), (41, .invokevirtual 234, 3), (44, .istore 4, 2), (46, .aload_n 0, 1), (47, .iload_n 1, 1), (48, .iload_n 2, 1), (49, .iconst 0, 1), (50, .invokevirtual 234, 3), (53, .istore 5, 2), (55, .iload 5, 2), (57, .iload 4, 2), (59, .if_icmp .ge 7, 3), (62, .iconst 1, 1), (63, .goto 4, 3), (66, .iconst 0, 1), (67, .istore 6, 2), (69, .iload_n 3, 1), (70, .ifCond .ne 30, 3), (73, .iload 4, 2), (75, .invokestatic 238, 3), (78, .ifCond .ne 11, 3), (81, .iload 5, 2), (83, .invokestatic 238, 3), (86, .ifCond .eq 8, 3), (89, .iload 6, 2), (91, .goto 8, 3), (94, .aload_n 0, 1), (95, .iconst 2, 1), (96, .invokevirtual 82, 3), (99, .ireturn, 1), (100, .iload_n 3, 1), (101, .iconst 2, 1), (102, .if_icmp .eq 13, 3), (105, .iload_n 3, 1), (106, .iconst 1, 1), (107, .if_icmp .ne 13, 3), (110, .iload 6, 2), (112, .ifCond .ne 8, 3), (115, .iload 4, 2), (117, .goto 5, 3), (120, .iload 5, 2), (122, .istore 7, 2), (124, .iload 7, 2), (126, .invokestatic 238, 3), (129, .ifCond .eq 8, 3), (132, .iload 7, 2), (134, .goto 8, 3), (137, .aload_n 0, 1), (138, .iconst 2, 1), (139, .invokevirtual 82, 3), (142, .ireturn, 1)]
theorem tbX8_slur_ok : pTabOk cX8_slur tbX8_slur = true := by decide +kernel
def tbX8_feed : pTab := [(0, .iload_n 1, 1), (1, .iconst 0, 1), (2, .sipush 255, 3), (5, .invokestatic 101, 3), (8, .ifCond .ne 9, 3), (11, .aload_n 0, 1), (12, .iconst 1, 1), (13, .invokevirtual 82, 3), (16, .ireturn, 1), (17, .aload_n 0, 1), (18, .getfield 63, 3), (21, .getfield 241, 3), (24, .sipush 160, 3), (27, .if_icmp .lt 9, 3), (30, .aload_n 0, 1), (31, .iconst 4, 1), (32, .invokevirtual 82, 3), (35, .ireturn, 1), (36, .aload_n 0, 1), (37, .getfield 63, 3), (40, .iload_n 1, 1), (41, .invokevirtual 244, 3), (44, .aload_n 0, 1), (45, .getfield 63, 3), (48, .getfield 241, 3), (51, .ireturn, 1)]
theorem tbX8_feed_ok : pTabOk cX8_feed tbX8_feed = true := by decide +kernel
def tbX8_music : pTab := [(0, .aload_n 0, 1), (1, .getfield 63, 3), (4, .invokevirtual 248, 3), (7, .istore_n 1, 1), (8, .iload_n 1, 1), (9, .iconst (-1), 1), (10, .if_icmp .eq 16, 3), (13, .aload_n 0, 1), (14, .getfield 63, 3), (17, .iconst 0, 1), (18, .putfield 241, 3), (21, .bipush (-10), 2), (23, .iload_n 1, 1), (24, .isub, 1), (25, .ireturn, 1), (26, .aload_n 0, 1), (27, .getfield 63, 3), (30, .getfield 251, 3), (33, .bipush 32, 2), (35, .if_icmp .le 9, 3), (38, .aload_n 0, 1), (39, .iconst 4, 1), (40, .invokevirtual 82, 3), (43, .ireturn, 1), (44, .aload_n 0, 1), (45, .getfield 63, 3), (48, .iconst 0, 1), (49, .putfield 241, 3), (52, .aload_n 0, 1), (53, .getfield 10, 3), (56, .getfield 90, 3), (59, .aload_n 0, 1), (60, .getfield 63, 3), (63, .getfield 254, 3), (66, .invokevirtual 207, 3), (69, .aload_n 0, 1), (70, .getfield 10, 3), (73, .aload_n 0, 1), (74, .getfield 63, 3), (77, .getfield 251, 3), (80, .putfield 86, 3), (83, .aload_n 0, 1), (84, .getfield 10, 3), (87, .getfield 86, 3), (90, .ireturn, 1)]
theorem tbX8_music_ok : pTabOk cX8_music tbX8_music = true := by decide +kernel
def tbX8_shelf : pTab := [(0, .iload_n 2, 1), (1, .iconst (-1), 1), (2, .if_icmp .eq 11, 3), (5, .iconst 0, 1), (6, .iload_n 2, 1), (7, .invokestatic 78, 3), (10, .ifCond .eq 7, 3), (13, .iconst 1, 1), (14, .goto 4, 3), (17, .iconst 0, 1), (18, .istore 4, 2), (20, .iload_n 1, 1), (21, .iconst 0, 1), (22, .iconst 2, 1), (23, .invokestatic 101, 3), (26, .ifCond .eq 18, 3), (29, .iload 4, 2), (31, .ifCond .eq 13, 3), (34, .iload_n 3, 1), (35, .iconst 0, 1), (36, .bipush 12, 2), (38, .invokestatic 101, 3), (41, .ifCond .ne 9, 3), (44, .aload_n 0, 1), (45, .iconst 1, 1), (46, .invokevirtual 82, 3), (49, .ireturn, 1), (50, .aload_n 0, 1), (51, .getfield 10, 3), (54, .iload_n 1, 1), (55, .iload_n 2, 1), (56, .iload_n 3, 1), (57, .invokevirtual 257, 3), (60, .iconst 1, 1), (61, .ireturn, 1)]
theorem tbX8_shelf_ok : pTabOk cX8_shelf tbX8_shelf = true := by decide +kernel
def tbX8_store : pTab := [(0, .iload_n 1, 1), (1, .iconst 0, 1), (2, .iconst 2, 1), (3, .invokestatic 101, 3), (6, .ifCond .eq 11, 3), (9, .aload_n 0, 1), (10, .iload_n 3, 1), (11, .invokevirtual 97, 3), (14, .ifCond .ne 9, 3), (17, .aload_n 0, 1), (18, .iconst 1, 1), (19, .invokevirtual 82, 3), (22, .ireturn, 1), (23, .aload_n 0, 1), (24, .getfield 10, 3), (27, .iload_n 1, 1), (28, .iload_n 2, 1), (29, .invokevirtual 260, 3), (32, .ifCond .ne 10, 3), (35, .aload_n 0, 1), (36, .bipush 7, 2), (38, .invokevirtual 82, 3), (41, .ireturn, 1), (42, .aload_n 0, 1), (43, .getfield 10, 3), (46, .iload_n 1, 1), (47, .invokevirtual 263, 3), (50, .aload_n 0, 1), (51, .getfield 10, 3), (54, .getfield 90, 3), (57, .iload_n 3, 1), (58, .iconst 0, 1), (59, .invokevirtual 105, 3), (62, .if_icmp .eq 9, 3), (65, .aload_n 0, 1), (66, .iconst 5, 1), (67, .invokevirtual 82, 3), (70, .ireturn, 1), (71, .aload_n 0, 1), (72, .getfield 10, 3), (75, .getfield 266, 3), (78, .iload_n 1, 1), (79, .iload_n 2, 1), (80, .invokestatic 269, 3), (83, .aload_n 0, 1), (84, .getfield 10, 3), (87, .getfield 90, 3), (90, .iload_n 3, 1), (91, .invokevirtual 271, 3), (94, .iconst 1, 1), (95, .ireturn, 1)]
theorem tbX8_store_ok : pTabOk cX8_store tbX8_store = true := by decide +kernel
def tbX8_fetch : pTab := [(0, .iload_n 1, 1), (1, .iconst 0, 1), (2, .iconst 2, 1), (3, .invokestatic 101, 3), (6, .ifCond .eq 12, 3), (9, .iload_n 3, 1), (10, .iconst 0, 1), (11, .iconst 3, 1), (12, .invokestatic 101, 3), (15, .ifCond .ne 9, 3), (18, .aload_n 0, 1), (19, .iconst 1, 1), (20, .invokevirtual 82, 3), (23, .ireturn, 1), (24, .aload_n 0, 1), (25, .getfield 10, 3), (28, .iload_n 1, 1), (29, .iload_n 2, 1), (30, .invokevirtual 260, 3), (33, .ifCond .ne 10, 3), (36, .aload_n 0, 1), (37, .bipush 7, 2), (39, .invokevirtual 82, 3), (42, .ireturn, 1), (43, .iload_n 1, 1), (44, .iload_n 2, 1), (45, .invokestatic 269, 3), (48, .istore 4, 2), (50, .aload_n 0, 1), (51, .getfield 10, 3), (54, .getfield 266, 3), (57, .iload 4, 2), (59, .invokevirtual 275, 3), (62, .ifCond .eq 9, 3), (65, .aload_n 0, 1), (66, .iconst 2, 1), (67, .invokevirtual 82, 3), (70, .ireturn, 1), (71, .iload_n 3, 1), (72, .iconst 3, 1), (73, .if_icmp .ne 18, 3), (76, .aload_n 0, 1), (77, .getfield 10, 3), (80, .getfield 266, 3), (83, .iload 4, 2), (85, .invokevirtual 113, 3), (88, .goto 16, 3), (91, .aload_n 0, 1), (92, .getfield 10, 3), (95, .getfield 266, 3), (98, .iload 4, 2), (100, .iload_n 3, 1), (101, .invokevirtual 105, 3), (104, .ireturn, 1)]
theorem tbX8_fetch_ok : pTabOk cX8_fetch tbX8_fetch = true := by decide +kernel
def tbX8_comes : pTab := [(0, .iload_n 1, 1), (1, .iconst 0, 1), (2, .iconst 2, 1), (3, .invokestatic 101, 3), (6, .ifCond .ne 9, 3), (9, .aload_n 0, 1), (10, .iconst 1, 1), (11, .invokevirtual 82, 3), (14, .ireturn, 1), (15, .aload_n 0, 1), (16, .getfield 10, 3), (19, .iload_n 1, 1), (20, .iload_n 2, 1), (21, .invokevirtual 260, 3), (24, .ifCond .ne 10, 3), (27, .aload_n 0, 1), (28, .bipush 7, 2), (30, .invokevirtual 82, 3), (33, .ireturn, 1), (34, .iload_n 1, 1), (35, .iload_n 2, 1), (36, .invokestatic 269, 3), (39, .istore_n 3, 1), (40, .aload_n 0, 1), (41, .getfield 10, 3), (44, .getfield 266, 3), (47, .iload_n 3, 1), (48, .invokevirtual 275, 3), (51, .ifCond .eq 9, 3), (54, .aload_n 0, 1), (55, .iconst 2, 1), (56, .invokevirtual 82, 3), (59, .ireturn, 1), (60, .aload_n 0, 1), (61, .getfield 10, 3), (64, .getfield 86, 3), (67, .bipush 32, 2), (69, .if_icmp .lt 9, 3), (72, .aload_n 0, 1), (73, .iconst 4, 1), (74, .invokevirtual 82, 3), (77, .ireturn, 1), (78, .aload_n 0, 1), (79, .getfield 10, 3), (82, .getfield 86, 3), (85, .istore 4, 2), (87, .aload_n 0, 1), (88, .getfield 10, 3), (91, .getfield 90, 3), (94, .iload 4, 2), (96, .aload_n 0, 1), (97, .getfield 10, 3), (100, .getfield 266, 3), (103, .iload_n 3, 1), (104, .invokevirtual 271, 3), (107, .aload_n 0, 1), (108, .getfield 10, 3), (111, .iload 4, 2), (113, .iconst 1, 1), (114, .iadd, 1), (115, .putfield 86, 3), (118, .iload 4, 2), (120, .ireturn, 1)]
theorem tbX8_comes_ok : pTabOk cX8_comes tbX8_comes = true := by decide +kernel
def tbX8_sheet : pTab := [(0, .iload_n 1, 1), (1, .iconst 0, 1), (2, .iconst 3, 1), (3, .invokestatic 101, 3), (6, .ifCond .eq 12, 3), (9, .iload_n 2, 1), (10, .iconst (-1), 1), (11, .iconst 3, 1), (12, .invokestatic 101, 3), (15, .ifCond .ne 9, 3), (18, .aload_n 0, 1), (19, .iconst 1, 1), (20, .invokevirtual 82, 3), (23, .ireturn, 1), (24, .iload_n 2, 1), (25, .iconst (-1), 1), (26, .if_icmp .ne 15, 3), (29, .aload_n 0, 1), (30, .getfield 70, 3), (33, .iload_n 1, 1), (34, .iconst (-1), 1), (35, .iconst 0, 1), (36, .invokevirtual 278, 3), (39, .iconst 1, 1), (40, .ireturn, 1), (41, .iload_n 3, 1), (42, .ifCond .ge 9, 3), (45, .aload_n 0, 1), (46, .iconst 3, 1), (47, .invokevirtual 82, 3), (50, .ireturn, 1), (51, .iload_n 3, 1), (52, .bipush 40, 2), (54, .if_icmp .le 9, 3), (57, .aload_n 0, 1), (58, .iconst 1, 1), (59, .invokevirtual 82, 3), (62, .ireturn, 1), (63, .aload_n 0, 1), (64, .getfield 70, 3), (67, .iload_n 1, 1), (68, .iload_n 2, 1), (69, .iload_n 3, 1), (70, .invokevirtual 278, 3), (73, .iconst 1, 1), (74, .ireturn, 1)]
theorem tbX8_sheet_ok : pTabOk cX8_sheet tbX8_sheet = true := by decide +kernel
def tbX8_put : pTab := [(0, .iload_n 1, 1), (1, .iconst 0, 1), (2, .iconst 3, 1), (3, .invokestatic 101, 3), (6, .ifCond .eq 14, 3), (9, .iload 5, 2), (11, .iconst 0, 1), (12, .bipush 20, 2), (14, .invokestatic 101, 3), (17, .ifCond .ne 9, 3), (20, .aload_n 0, 1), (21, .iconst 1, 1), (22, .invokevirtual 82, 3), (25, .ireturn, 1), (26, .aload_n 0, 1), (27, .getfield 70, 3), (30, .iload_n 1, 1), (31, .iload_n 2, 1), (32, .invokevirtual 281, 3), (35, .ifCond .ne 10, 3), (38, .aload_n 0, 1), (39, .bipush 7, 2), (41, .invokevirtual 82, 3), (44, .ireturn, 1), (45, .aload_n 0, 1), (46, .getfield 70, 3), (49, .iload_n 1, 1), (50, .iload_n 2, 1), (51, .lload_n 3, 1), (52, .iload 5, 2), (54, .invokevirtual 284, 3), (57, .iconst 1, 1), (58, .ireturn, 1)]
theorem tbX8_put_ok : pTabOk cX8_put tbX8_put = true := by decide +kernel
def tbX8_bits : pTab := [(0, .iload_n 1, 1), (1, .iconst 0, 1), (2, .iconst 3, 1), (3, .invokestatic 101, 3), (6, .ifCond .ne 9, 3), (9, .aload_n 0, 1), (10, .iconst 1, 1), (11, .invokevirtual 288, 3), (14, .lreturn, 1), (15, .aload_n 0, 1), (16, .getfield 70, 3), (19, .iload_n 1, 1), (20, .iload_n 2, 1), (21, .invokevirtual 281, 3), (24, .ifCond .ne 10, 3), (27, .aload_n 0, 1), (28, .bipush 7, 2), (30, .invokevirtual 288, 3), (33, .lreturn, 1), (34, .aload_n 0, 1), (35, .getfield 70, 3), (38, .iload_n 1, 1), (39, .iload_n 2, 1), (40, .invokevirtual 292, 3), (43, .lreturn, 1)]
theorem tbX8_bits_ok : pTabOk cX8_bits tbX8_bits = true := by decide +kernel
def tbX8_cast : pTab := [(0, .iload_n 1, 1), (1, .iconst 0, 1), (2, .iconst 3, 1), (3, .invokestatic 101, 3), (6, .ifCond .ne 9, 3), (9, .aload_n 0, 1), (10, .iconst 1, 1), (11, .invokevirtual 82, 3), (14, .ireturn, 1), (15, .aload_n 0, 1), (16, .getfield 70, 3), (19, .iload_n 1, 1), (20, .iload_n 2, 1), (21, .invokevirtual 281, 3), (24, .ifCond .ne 10, 3), (27, .aload_n 0, 1), (28, .bipush 7, 2), (30, .invokevirtual 82, 3), (33, .ireturn, 1), (34, .aload_n 0, 1), (35, .getfield 70, 3), (38, .iload_n 1, 1), (39, .iload_n 2, 1), (40, .invokevirtual 296, 3), (43, .ireturn, 1)]
theorem tbX8_cast_ok : pTabOk cX8_cast tbX8_cast = true := by decide +kernel
def tbX8_rest : pTab := [(0, .iload_n 1, 1), (1, .iconst 0, 1), (2, .iconst 3, 1), (3, .invokestatic 101, 3), (6, .ifCond .ne 9, 3), (9, .aload_n 0, 1), (10, .iconst 1, 1), (11, .invokevirtual 82, 3), (14, .ireturn, 1), (15, .aload_n 0, 1), (16, .getfield 70, 3), (19, .iload_n 1, 1), (20, .iload_n 2, 1), (21, .invokevirtual 281, 3), (24, .ifCond .eq 15, 3), (27, .aload_n 0, 1), (28, .getfield 70, 3), (31, .iload_n 1, 1), (32, .iload_n 3, 1), (33, .invokevirtual 281, 3), (36, .ifCond .ne 10, 3), (39, .aload_n 0, 1), (40, .bipush 7, 2), (42, .invokevirtual 82, 3), (45, .ireturn, 1), (46, .aload_n 0, 1), (47, .getfield 70, 3), (50, .iload_n 1, 1), (51, .iload_n 3, 1), (52, .invokevirtual 299, 3), (55, .ifCond .eq 10, 3), (58, .aload_n 0, 1), (59, .bipush 6, 2), (61, .invokevirtual 82, 3), (64, .ireturn, 1), (65, .aload_n 0, 1), (66, .getfield 70, 3), (69, .iload_n 1, 1), (70, .iload_n 2, 1), (71, .iload_n 3, 1), (72, .invokevirtual 302, 3), (75, .iconst 1, 1), (76, .ireturn, 1)]
theorem tbX8_rest_ok : pTabOk cX8_rest tbX8_rest = true := by decide +kernel
def tbX8_lays : pTab := [(0, .iload_n 1, 1), (1, .iconst 0, 1), (2, .iconst 3, 1), (3, .invokestatic 101, 3), (6, .ifCond .eq 12, 3), (9, .aload_n 0, 1), (10, .iload_n 2, 1), (11, .iload_n 3, 1), (12, .invokevirtual 137, 3), (15, .ifCond .ne 9, 3), (18, .aload_n 0, 1), (19, .iconst 1, 1), (20, .invokevirtual 82, 3), (23, .ireturn, 1), (24, .aload_n 0, 1), (25, .getfield 70, 3), (28, .iload_n 1, 1), (29, .invokevirtual 305, 3), (32, .iconst (-1), 1), (33, .if_icmp .ne 10, 3), (36, .aload_n 0, 1), (37, .bipush 7, 2), (39, .invokevirtual 82, 3), (42, .ireturn, 1), (43, .aload_n 0, 1), (44, .getfield 26, 3), (47, .aload_n 0, 1), (48, .getfield 10, 3), (51, .getfield 90, 3), (54, .iload_n 2, 1), (55, .iload_n 3, 1), (56, .aload_n 0, 1), (57, .getfield 10, 3), (60, .getfield 134, 3), (63, .invokevirtual 140, 3), (66, .iconst 0, 1), (67, .istore 4, 2), (69, .iload_n 2, 1), (70, .istore 5, 2), (72, .iload 5, 2), (74, .iload_n 3, 1), (75, .if_icmp .gt 44, 3), (78, .aload_n 0, 1), (79, .getfield 70, 3), (82, .iload_n 1, 1), (83, .iload 4, 2), (85, .invokevirtual 281, 3), (88, .ifCond .eq 31, 3), (91, .aload_n 0, 1), (92, .getfield 70, 3), (95, .iload_n 1, 1), (96, .iload 4, 2), (98, .aload_n 0, 1), (99, .getfield 26, 3), (102, .iload 5, 2), (104, .invokevirtual 155, 3), (107, .invokevirtual 308, 3), (110, .iinc 4 1, 3), (113, .iinc 5 1, 3), (116, .goto (-44), 3), (119, .iload 4, 2), (121, .ireturn, 1)]
theorem tbX8_lays_ok : pTabOk cX8_lays tbX8_lays = true := by decide +kernel
def tbX8_image : pTab := [(0, .aload_n 0, 1), (1, .getfield 16, 3), (4, .aload_n 0, 1), (5, .getfield 10, 3), (8, .invokevirtual 312, 3), (11, .aload_n 0, 1), (12, .iconst 1, 1), (13, .putfield 19, 3), (16, .aload_n 0, 1), (17, .getfield 16, 3), (20, .getfield 86, 3), (23, .ireturn, 1)]
theorem tbX8_image_ok : pTabOk cX8_image tbX8_image = true := by decide +kernel
def tbX8_restore : pTab := [(0, .aload_n 0, 1), (1, .getfield 19, 3), (4, .ifCond .ne 9, 3), (7, .aload_n 0, 1), (8, .iconst 2, 1), (9, .invokevirtual 82, 3), (12, .ireturn, 1), (13, .aload_n 0, 1), (14, .getfield 10, 3), (17, .aload_n 0, 1), (18, .getfield 16, 3), (21, .invokevirtual 312, 3), (24, .aload_n 0, 1), (25, .getfield 10, 3), (28, .getfield 86, 3), (31, .ireturn, 1)]
theorem tbX8_restore_ok : pTabOk cX8_restore tbX8_restore = true := by decide +kernel
def tbX8_count : pTab := [(0, .iload_n 1, 1), (1, .tableswitch 81 0 5 #[39, 47, 55, 63, 68, 73], 39), (40, .aload_n 0, 1), (41, .getfield 10, 3), (44, .getfield 86, 3), (47, .ireturn, 1), (48, .aload_n 0, 1), (49, .getfield 10, 3), (52, .getfield 134, 3), (55, .ireturn, 1), (56, .aload_n 0, 1), (57, .getfield 63, 3), (60, .getfield 241, 3), (63, .ireturn, 1), (64, .aload_n 0, 1), (65, .invokevirtual 315, 3), (68, .ireturn, 1), (69, .aload_n 0, 1), (70, .invokevirtual 318, 3), (73, .ireturn, 1), (74, .aload_n 0, 1), (75, .getfield 10, 3), (78, .invokevirtual 321, 3), (81, .ireturn, 1), (82, .aload_n 0, 1), (83, .iconst 1, 1), (84, .invokevirtual 82, 3), (87, .ireturn, 1)]
theorem tbX8_count_ok : pTabOk cX8_count tbX8_count = true := by decide +kernel
def tbX8_told : pTab := [(0, .iload_n 1, 1), (1, .iconst 1, 1), (2, .bipush 7, 2), (4, .invokestatic 101, 3), (7, .ifCond .eq 14, 3), (10, .aload_n 0, 1), (11, .getfield 74, 3), (14, .iload_n 1, 1), (15, .invokestatic 324, 3), (18, .goto 8, 3), (21, .aload_n 0, 1), (22, .iconst 1, 1), (23, .invokevirtual 82, 3), (26, .ireturn, 1)]
theorem tbX8_told_ok : pTabOk cX8_told tbX8_told = true := by decide +kernel
def tbX8_refuse : pTab := [(0, .aload_n 0, 1), (1, .getfield 74, 3), (4, .iload_n 1, 1), (5, .aload_n 0, 1), (6, .getfield 74, 3), (9, .iload_n 1, 1), (10, .invokestatic 324, 3), (13, .iconst 1, 1), (14, .iadd, 1), (15, .invokestatic 328, 3), (18, .ldc_w 332, 3), (21, .iload_n 1, 1), (22, .isub, 1), (23, .ireturn, 1)]
theorem tbX8_refuse_ok : pTabOk cX8_refuse tbX8_refuse = true := by decide +kernel
def tbX8_refuseLong : pTab := [(0, .aload_n 0, 1), (1, .iload_n 1, 1), (2, .invokevirtual 82, 3), (5, .pop, 1), (6, .ldc2_w 333, 3), (9, .iload_n 1, 1), (10, .i2l, 1), (11, .lsub, 1), (12, .lreturn, 1)]
theorem tbX8_refuseLong_ok : pTabOk cX8_refuseLong tbX8_refuseLong = true := by decide +kernel
def tbX8_isColumn : pTab := [(0, .iload_n 1, 1), (1, .ifCond .lt 18, 3), (4, .iload_n 1, 1), (5, .aload_n 0, 1), (6, .getfield 10, 3), (9, .getfield 86, 3), (12, .if_icmp .ge 7, 3), (15, .iconst 1, 1), (16, .goto 4, 3), (19, .iconst 0, 1), (20, .ireturn, 1)]
theorem tbX8_isColumn_ok : pTabOk cX8_isColumn tbX8_isColumn = true := by decide +kernel
def tbX8_isStretch : pTab := [(0, .iload_n 1, 1), (1, .ifCond .lt 23, 3), (4, .iload_n 1, 1), (5, .iload_n 2, 1), (6, .if_icmp .gt 18, 3), (9, .iload_n 2, 1), (10, .aload_n 0, 1), (11, .getfield 10, 3), (14, .getfield 86, 3), (17, .if_icmp .ge 7, 3), (20, .iconst 1, 1), (21, .goto 4, 3), (24, .iconst 0, 1), (25, .ireturn, 1)]
theorem tbX8_isStretch_ok : pTabOk cX8_isStretch tbX8_isStretch = true := by decide +kernel
def tbX8_findBest : pTab := [(0, .aload_n 0, 1), (1, .getfield 46, 3), (4, .aload_n 0, 1), (5, .getfield 10, 3), (8, .getfield 90, 3), (11, .aload_n 0, 1), (12, .getfield 10, 3), (15, .getfield 86, 3), (18, .aload_n 0, 1), (19, .getfield 10, 3), (22, .getfield 134, 3), (25, .invokevirtual 211, 3), (28, .return_, 1)]
theorem tbX8_findBest_ok : pTabOk cX8_findBest tbX8_findBest = true := by decide +kernel
def tbX8_traceLine : pTab := [(0, .aload_n 1, 1), (1, .ifnonnull 4, 3), (4, .return_, 1), (5, .aload_n 0, 1), (6, .getfield 26, 3), (9, .aload_n 0, 1), (10, .getfield 10, 3), (13, .getfield 90, 3), (16, .iload_n 2, 1), (17, .iload_n 3, 1), (18, .aload_n 0, 1), (19, .getfield 10, 3), (22, .getfield 134, 3), (25, .invokevirtual 140, 3), (28, .aload_n 1, 1), (29, .aload_n 0, 1), (30, .getfield 10, 3), (33, .getfield 90, 3), (36, .aload_n 0, 1), (37, .getfield 26, 3), (40, .invokevirtual 335, 3), (43, .return_, 1)]
theorem tbX8_traceLine_ok : pTabOk cX8_traceLine tbX8_traceLine = true := by decide +kernel
def tbX8_distance : pTab := [(0, .aload_n 0, 1), (1, .aload_n 0, 1), (2, .getfield 36, 3), (5, .iload_n 1, 1), (6, .iload_n 2, 1), (7, .invokevirtual 172, 3), (10, .aload_n 0, 1), (11, .aload_n 0, 1), (12, .getfield 40, 3), (15, .iload_n 3, 1), (16, .iload 4, 2), (18, .invokevirtual 172, 3), (21, .bipush 8, 2), (23, .istore 5, 2), (25, .iconst 0, 1), (26, .istore 6, 2), (28, .iload 6, 2), (30, .sipush 400, 3), (33, .if_icmp .ge 61, 3), (36, .aload_n 0, 1), (37, .getfield 36, 3), (40, .iload 6, 2), (42, .invokevirtual 176, 3), (45, .ifCond .eq 43, 3), (48, .aload_n 0, 1), (49, .getfield 40, 3), (52, .iload 6, 2), (54, .invokevirtual 176, 3), (57, .ifCond .eq 31, 3), (60, .iload 5, 2), (62, .aload_n 0, 1), (63, .getfield 40, 3), (66, .iload 6, 2), (68, .invokevirtual 179, 3), (71, .aload_n 0, 1), (72, .getfield 36, 3), (75, .iload 6, 2), (77, .invokevirtual 182, 3), (80, .isub, 1), (81, .iconst 2, 1), (82, .iadd, 1), (83, .invokestatic 339, 3), (86, .istore 5, 2), (88, .iinc 6 1, 3), (91, .goto (-63), 3), (94, .iload 5, 2), (96, .ireturn, 1)]
theorem tbX8_distance_ok : pTabOk cX8_distance tbX8_distance = true := by decide +kernel
def tbX8_standsOtherwise : pTab := [(0, .aload_n 0, 1), (1, .getfield 46, 3), (4, .iload_n 1, 1), (5, .invokevirtual 198, 3), (8, .istore_n 2, 1), (9, .aload_n 0, 1), (10, .getfield 46, 3), (13, .iload_n 1, 1), (14, .invokevirtual 201, 3), (17, .istore_n 3, 1), (18, .iload_n 1, 1), (19, .aload_n 0, 1), (20, .getfield 50, 3), (23, .getfield 195, 3), (26, .if_icmp .ge 27, 3), (29, .iload_n 2, 1), (30, .aload_n 0, 1), (31, .getfield 50, 3), (34, .iload_n 1, 1), (35, .invokevirtual 198, 3), (38, .if_icmp .ne 15, 3), (41, .iload_n 3, 1), (42, .aload_n 0, 1), (43, .getfield 50, 3), (46, .iload_n 1, 1), (47, .invokevirtual 201, 3), (50, .if_icmp .eq 5, 3), (53, .iconst 1, 1), (54, .ireturn, 1), (55, .aload_n 0, 1), (56, .getfield 26, 3), (59, .aload_n 0, 1), (60, .getfield 10, 3), (63, .getfield 90, 3), (66, .iload_n 2, 1), (67, .iload_n 3, 1), (68, .aload_n 0, 1), (69, .getfield 10, 3), (72, .getfield 134, 3), (75, .invokevirtual 140, 3), (78, .aload_n 0, 1), (79, .getfield 30, 3), (82, .aload_n 0, 1), (83, .getfield 56, 3), (86, .iload_n 2, 1), (87, .iload_n 3, 1), (88, .aload_n 0, 1), (89, .getfield 10, 3), (92, .getfield 134, 3), (95, .invokevirtual 140, 3), (98, .iload_n 2, 1), (99, .istore 4, 2), (101, .iload 4, 2), (103, .iload_n 3, 1), (104, .if_icmp .gt 33, 3), (107, .aload_n 0, 1), (108, .getfield 26, 3), (111, .iload 4, 2), (113, .invokevirtual 155, 3), (116, .aload_n 0, 1), (117, .getfield 30, 3), (120, .iload 4, 2), (122, .invokevirtual 155, 3), (125, .fcmp .l, 1), (126, .ifCond .eq 5, 3), (129, .iconst 1, 1), (130, .ireturn, 1), (131, .iinc 4 1, 3), (134, .goto (-33), 3), (137, .iconst 0, 1), (138, .ireturn, 1)]
theorem tbX8_standsOtherwise_ok : pTabOk cX8_standsOtherwise tbX8_standsOtherwise = true := by decide +kernel
def tbX8_areNotes : pTab := [(0, .iload_n 1, 1), (1, .istore_n 3, 1), (2, .iload_n 3, 1), (3, .iload_n 2, 1), (4, .if_icmp .gt 26, 3), (7, .aload_n 0, 1), (8, .getfield 10, 3), (11, .getfield 90, 3), (14, .iload_n 3, 1), (15, .iconst 0, 1), (16, .invokevirtual 105, 3), (19, .ifCond .eq 5, 3), (22, .iconst 0, 1), (23, .ireturn, 1), (24, .iinc 3 1, 3), (27, .goto (-25), 3), (30, .iconst 1, 1), (31, .ireturn, 1)]
theorem tbX8_areNotes_ok : pTabOk cX8_areNotes tbX8_areNotes = true := by decide +kernel
def tbX8_beamRise : pTab := [(0, .aload_n 0, 1), (1, .getfield 10, 3), (4, .getfield 90, 3), (7, .iload_n 2, 1), (8, .iconst 2, 1), (9, .invokevirtual 105, 3), (12, .aload_n 0, 1), (13, .getfield 10, 3), (16, .getfield 90, 3), (19, .iload_n 1, 1), (20, .iconst 2, 1), (21, .invokevirtual 105, 3), (24, .isub, 1), (25, .istore_n 3, 1), (26, .aload_n 0, 1), (27, .getfield 26, 3), (30, .iload_n 2, 1), (31, .invokevirtual 155, 3), (34, .fstore 4, 2), (36, .fload 4, 2), (38, .fconst 0, 1), (39, .fcmp .l, 1), (40, .ifCond .le 15, 3), (43, .iload_n 3, 1), (44, .i2f, 1), (45, .ldc_w 344, 3), (48, .fmul, 1), (49, .fload 4, 2), (51, .fdiv, 1), (52, .goto 4, 3), (55, .fconst 0, 1), (56, .freturn, 1)]
theorem tbX8_beamRise_ok : pTabOk cX8_beamRise tbX8_beamRise = true := by decide +kernel
def tbX8_beamSlope : pTab := [(0, .aload_n 0, 1), (1, .iload_n 1, 1), (2, .iload_n 2, 1), (3, .invokevirtual 221, 3), (6, .ldc_w 345, 3), (9, .fmul, 1), (10, .ldc_w 344, 3), (13, .fadd, 1), (14, .fstore_n 3, 1), (15, .fload_n 3, 1), (16, .f2i, 1), (17, .istore 4, 2), (19, .iload 4, 2), (21, .i2f, 1), (22, .fload_n 3, 1), (23, .fcmp .l, 1), (24, .ifCond .le 6, 3), (27, .iinc 4 (-1), 3), (30, .iload 4, 2), (32, .i2f, 1), (33, .ldc_w 345, 3), (36, .fdiv, 1), (37, .fstore 5, 2), (39, .fload 5, 2), (41, .ldc_w 346, 3), (44, .fcmp .g, 1), (45, .ifCond .ge 7, 3), (48, .ldc_w 346, 3), (51, .freturn, 1), (52, .fload 5, 2), (54, .ldc_w 344, 3), (57, .fcmp .l, 1), (58, .ifCond .le 9, 3), (61, .ldc_w 344, 3), (64, .goto 5, 3), (67, .fload 5, 2), (69, .freturn, 1)]
theorem tbX8_beamSlope_ok : pTabOk cX8_beamSlope tbX8_beamSlope = true := by decide +kernel
def tbX8_beamGoesUp : pTab := [(0, .iconst 0, 1), (1, .istore_n 3, 1), (2, .iload_n 1, 1), (3, .istore 4, 2), (5, .iload 4, 2), (7, .iload_n 2, 1), (8, .if_icmp .gt 25, 3), (11, .iload_n 3, 1), (12, .aload_n 0, 1), (13, .getfield 10, 3), (16, .getfield 90, 3), (19, .iload 4, 2), (21, .iconst 2, 1), (22, .invokevirtual 105, 3), (25, .iadd, 1), (26, .istore_n 3, 1), (27, .iinc 4 1, 3), (30, .goto (-25), 3), (33, .iload_n 3, 1), (34, .ifCond .ge 7, 3), (37, .iconst 1, 1), (38, .goto 4, 3), (41, .iconst 0, 1), (42, .ireturn, 1)]
theorem tbX8_beamGoesUp_ok : pTabOk cX8_beamGoesUp tbX8_beamGoesUp = true := by decide +kernel
def tbX8_beamLift : pTab := [(0, .aload_n 0, 1), (1, .iload_n 1, 1), (2, .iload_n 2, 1), (3, .invokevirtual 228, 3), (6, .istore_n 3, 1), (7, .aload_n 0, 1), (8, .iload_n 1, 1), (9, .iload_n 2, 1), (10, .invokevirtual 225, 3), (13, .fstore 4, 2), (15, .iload_n 3, 1), (16, .ifCond .eq 8, 3), (19, .fload 4, 2), (21, .goto 7, 3), (24, .fconst 0, 1), (25, .fload 4, 2), (27, .fsub, 1), (28, .fstore 5, 2), (30, .fconst 0, 1), (31, .fstore 6, 2), (33, .iload_n 1, 1), (34, .istore 7, 2), (36, .iload 7, 2), (38, .iload_n 2, 1), (39, .if_icmp .gt 91, 3), (42, .aload_n 0, 1), (43, .getfield 10, 3), (46, .getfield 90, 3), (49, .iload 7, 2), (51, .iconst 2, 1), (52, .invokevirtual 105, 3), (55, .i2f, 1), (56, .fstore 8, 2), (58, .iload_n 3, 1), (59, .ifCond .eq 8, 3), (62, .fload 8, 2), (64, .goto 7, 3), (67, .fconst 0, 1), (68, .fload 8, 2), (70, .fsub, 1), (71, .fstore 9, 2), (73, .fload 9, 2), (75, .fload 5, 2), (77, .aload_n 0, 1), (78, .getfield 26, 3), (81, .iload 7, 2), (83, .invokevirtual 155, 3), (86, .aload_n 0, 1), (87, .getfield 26, 3), (90, .iload_n 2, 1), (91, .invokevirtual 155, 3), (94, .fsub, 1), (95, .fmul, 1), (96, .fconst 2, 1), (97, .fmul, 1), (98, .fsub, 1), (99, .fstore 10, 2), (101, .iload 7, 2), (103, .iload_n 1, 1), (104, .if_icmp .eq 11, 3), (107, .fload 10, 2), (109, .fload 6, 2), (111, .fcmp .l, 1), (112, .ifCond .le 8, 3), (115, .fload 10, 2), (117, .goto 5, 3), (120, .fload 6, 2), (122, .fstore 6, 2), (124, .iinc 7 1, 3), (127, .goto (-91), 3), (130, .fload 6, 2), (132, .ldc_w 347, 3), (135, .fadd, 1), (136, .freturn, 1)]
theorem tbX8_beamLift_ok : pTabOk cX8_beamLift tbX8_beamLift = true := by decide +kernel
def tbX8_slurHeight : pTab := [(0, .aload_n 0, 1), (1, .iload_n 1, 1), (2, .iload_n 3, 1), (3, .invokevirtual 348, 3), (6, .aload_n 0, 1), (7, .iload_n 2, 1), (8, .iload_n 3, 1), (9, .invokevirtual 348, 3), (12, .invokestatic 339, 3), (15, .istore 4, 2), (17, .iload_n 2, 1), (18, .iload_n 1, 1), (19, .isub, 1), (20, .iconst 1, 1), (21, .isub, 1), (22, .istore 5, 2), (24, .iconst 0, 1), (25, .istore 6, 2), (27, .iconst 1, 1), (28, .istore 7, 2), (30, .iload 7, 2), (32, .iload 5, 2), (34, .if_icmp .gt 54, 3), (37, .iconst 2, 1), (38, .iload 7, 2), (40, .iload 5, 2), (42, .iconst 1, 1), (43, .iadd, 1), (44, .iload 7, 2), (46, .isub, 1), (47, .invokestatic 352, 3), (50, .imul, 1), (51, .bipush 6, 2), (53, .invokestatic 352, 3), (56, .istore 8, 2), (58, .iload 6, 2), (60, .aload_n 0, 1), (61, .iload_n 1, 1), (62, .iload 7, 2), (64, .iadd, 1), (65, .iload_n 3, 1), (66, .invokevirtual 348, 3), (69, .iconst 1, 1), (70, .iadd, 1), (71, .iload 4, 2), (73, .isub, 1), (74, .iload 8, 2), (76, .isub, 1), (77, .invokestatic 339, 3), (80, .istore 6, 2), (82, .iinc 7 1, 3), (85, .goto (-55), 3), (88, .iload 6, 2), (90, .ireturn, 1)]
theorem tbX8_slurHeight_ok : pTabOk cX8_slurHeight tbX8_slurHeight = true := by decide +kernel
def tbX8_inkTowards : pTab := [(0, .iload_n 2, 1), (1, .ifCond .eq 17, 3), (4, .aload_n 0, 1), (5, .getfield 10, 3), (8, .getfield 90, 3), (11, .iload_n 1, 1), (12, .invokevirtual 113, 3), (15, .goto 16, 3), (18, .iconst 0, 1), (19, .aload_n 0, 1), (20, .getfield 10, 3), (23, .getfield 90, 3), (26, .iload_n 1, 1), (27, .invokevirtual 116, 3), (30, .isub, 1), (31, .ireturn, 1)]
theorem tbX8_inkTowards_ok : pTabOk cX8_inkTowards tbX8_inkTowards = true := by decide +kernel
def tbX8_countNotes : pTab := [(0, .iconst 0, 1), (1, .istore_n 1, 1), (2, .iconst 0, 1), (3, .istore_n 2, 1), (4, .iload_n 2, 1), (5, .aload_n 0, 1), (6, .getfield 10, 3), (9, .getfield 86, 3), (12, .if_icmp .ge 27, 3), (15, .aload_n 0, 1), (16, .getfield 10, 3), (19, .getfield 90, 3), (22, .iload_n 2, 1), (23, .iconst 0, 1), (24, .invokevirtual 105, 3), (27, .ifCond .ne 6, 3), (30, .iinc 1 1, 3), (33, .iinc 2 1, 3), (36, .goto (-32), 3), (39, .iload_n 1, 1), (40, .ireturn, 1)]
theorem tbX8_countNotes_ok : pTabOk cX8_countNotes tbX8_countNotes = true := by decide +kernel
def tbX8_sumDurations : pTab := [(0, .iconst 0, 1), (1, .istore_n 1, 1), (2, .iconst 0, 1), (3, .istore_n 2, 1), (4, .iload_n 2, 1), (5, .aload_n 0, 1), (6, .getfield 10, 3), (9, .getfield 86, 3), (12, .if_icmp .ge 40, 3), (15, .aload_n 0, 1), (16, .getfield 10, 3), (19, .getfield 90, 3), (22, .iload_n 2, 1), (23, .iconst 0, 1), (24, .invokevirtual 105, 3), (27, .iconst 2, 1), (28, .if_icmp .eq 18, 3), (31, .iload_n 1, 1), (32, .aload_n 0, 1), (33, .getfield 10, 3), (36, .getfield 90, 3), (39, .iload_n 2, 1), (40, .iconst 1, 1), (41, .invokevirtual 105, 3), (44, .iadd, 1), (45, .istore_n 1, 1), (46, .iinc 2 1, 3), (49, .goto (-45), 3), (52, .iload_n 1, 1), (53, .ireturn, 1)]
theorem tbX8_sumDurations_ok : pTabOk cX8_sumDurations tbX8_sumDurations = true := by decide +kernel
def tbX8_isHeight : pTab := [(0, .iload_n 0, 1), (1, .iconst 0, 1), (2, .bipush 40, 2), (4, .invokestatic 101, 3), (7, .ireturn, 1)]
theorem tbX8_isHeight_ok : pTabOk cX8_isHeight tbX8_isHeight = true := by decide +kernel
def tbX8_isWithin : pTab := [(0, .iload_n 0, 1), (1, .iload_n 1, 1), (2, .if_icmp .lt 12, 3), (5, .iload_n 0, 1), (6, .iload_n 2, 1), (7, .if_icmp .gt 7, 3), (10, .iconst 1, 1), (11, .goto 4, 3), (14, .iconst 0, 1), (15, .ireturn, 1)]
theorem tbX8_isWithin_ok : pTabOk cX8_isWithin tbX8_isWithin = true := by decide +kernel
def tbX8_isAllowed : pTab := [(0, .iload_n 1, 1), (1, .getstatic 355, 3), (4, .iload_n 0, 1), (5, .invokestatic 324, 3), (8, .getstatic 358, 3), (11, .iload_n 0, 1), (12, .invokestatic 324, 3), (15, .invokestatic 101, 3), (18, .ireturn, 1)]
theorem tbX8_isAllowed_ok : pTabOk cX8_isAllowed tbX8_isAllowed = true := by decide +kernel
def tbX8_floatBits : pTab := [(0, .iconst 0, 1), (1, .fload_n 0, 1), (2, .f2d, 1), (3, .invokestatic 361, 3), (6, .l2i, 1), (7, .ireturn, 1)]
theorem tbX8_floatBits_ok : pTabOk cX8_floatBits tbX8_floatBits = true := by decide +kernel
def tbX8_readInt : pTab := [(0, .aload_n 0, 1), (1, .ifnull 19, 3), (4, .iload_n 1, 1), (5, .ifCond .lt 15, 3), (8, .iload_n 1, 1), (9, .aload_n 0, 1), (10, .arraylength, 1), (11, .if_icmp .ge 9, 3), (14, .aload_n 0, 1), (15, .iload_n 1, 1), (16, .iaload, 1), (17, .goto 4, 3), (20, .iconst 0, 1), (21, .ireturn, 1)]
theorem tbX8_readInt_ok : pTabOk cX8_readInt tbX8_readInt = true := by decide +kernel
def tbX8_writeInt : pTab := [(0, .aload_n 0, 1), (1, .ifnull 17, 3), (4, .iload_n 1, 1), (5, .ifCond .lt 13, 3), (8, .iload_n 1, 1), (9, .aload_n 0, 1), (10, .arraylength, 1), (11, .if_icmp .ge 7, 3), (14, .aload_n 0, 1), (15, .iload_n 1, 1), (16, .iload_n 2, 1), (17, .iastore, 1), (18, .return_, 1)]
theorem tbX8_writeInt_ok : pTabOk cX8_writeInt tbX8_writeInt = true := by decide +kernel
def tbX8_readFloat : pTab := [(0, .aload_n 0, 1), (1, .ifnull 19, 3), (4, .iload_n 1, 1), (5, .ifCond .lt 15, 3), (8, .iload_n 1, 1), (9, .aload_n 0, 1), (10, .arraylength, 1), (11, .if_icmp .ge 9, 3), (14, .aload_n 0, 1), (15, .iload_n 1, 1), (16, .faload, 1), (17, .goto 4, 3), (20, .fconst 0, 1), (21, .freturn, 1)]
theorem tbX8_readFloat_ok : pTabOk cX8_readFloat tbX8_readFloat = true := by decide +kernel
def tbX8_writeFloat : pTab := [(0, .aload_n 0, 1), (1, .ifnull 17, 3), (4, .iload_n 1, 1), (5, .ifCond .lt 13, 3), (8, .iload_n 1, 1), (9, .aload_n 0, 1), (10, .arraylength, 1), (11, .if_icmp .ge 7, 3), (14, .aload_n 0, 1), (15, .iload_n 1, 1), (16, .fload_n 2, 1), (17, .fastore, 1), (18, .return_, 1)]
theorem tbX8_writeFloat_ok : pTabOk cX8_writeFloat tbX8_writeFloat = true := by decide +kernel
def tbX8_readLong : pTab := [(0, .aload_n 0, 1), (1, .ifnull 19, 3), (4, .iload_n 1, 1), (5, .ifCond .lt 15, 3), (8, .iload_n 1, 1), (9, .aload_n 0, 1), (10, .arraylength, 1), (11, .if_icmp .ge 9, 3), (14, .aload_n 0, 1), (15, .iload_n 1, 1), (16, .laload, 1), (17, .goto 4, 3), (20, .lconst 0, 1), (21, .lreturn, 1)]
theorem tbX8_readLong_ok : pTabOk cX8_readLong tbX8_readLong = true := by decide +kernel
end
section
def tbX8_writeLong : pTab := [(0, .aload_n 0, 1), (1, .ifnull 17, 3), (4, .iload_n 1, 1), (5, .ifCond .lt 13, 3), (8, .iload_n 1, 1), (9, .aload_n 0, 1), (10, .arraylength, 1), (11, .if_icmp .ge 7, 3), (14, .aload_n 0, 1), (15, .iload_n 1, 1), (16, .lload_n 2, 1), (17, .lastore, 1), (18, .return_, 1)]
theorem tbX8_writeLong_ok : pTabOk cX8_writeLong tbX8_writeLong = true := by decide +kernel
def tbX8_readFlag : pTab := [(0, .aload_n 0, 1), (1, .ifnull 23, 3), (4, .iload_n 1, 1), (5, .ifCond .lt 19, 3), (8, .iload_n 1, 1), (9, .aload_n 0, 1), (10, .arraylength, 1), (11, .if_icmp .ge 13, 3), (14, .aload_n 0, 1), (15, .iload_n 1, 1), (16, .baload, 1), (17, .ifCond .eq 7, 3), (20, .iconst 1, 1), (21, .goto 4, 3), (24, .iconst 0, 1), (25, .ireturn, 1)]
theorem tbX8_readFlag_ok : pTabOk cX8_readFlag tbX8_readFlag = true := by decide +kernel
def tbX8_writeFlag : pTab := [(0, .aload_n 0, 1), (1, .ifnull 17, 3), (4, .iload_n 1, 1), (5, .ifCond .lt 13, 3), (8, .iload_n 1, 1), (9, .aload_n 0, 1), (10, .arraylength, 1), (11, .if_icmp .ge 7, 3), (14, .aload_n 0, 1), (15, .iload_n 1, 1), (16, .iload_n 2, 1), (17, .bastore, 1), (18, .return_, 1)]
theorem tbX8_writeFlag_ok : pTabOk cX8_writeFlag tbX8_writeFlag = true := by decide +kernel
def tbX8_copy : pTab := [(0, .aload_n 0, 1), (1, .ifnull 7, 3), (4, .aload_n 1, 1), (5, .ifnonnull 4, 3), (8, .return_, 1), (9, .iconst 0, 1), (10, .istore_n 2, 1), (11, .iload_n 2, 1), (12, .aload_n 0, 1), (13, .arraylength, 1), (14, .if_icmp .ge 21, 3), (17, .iload_n 2, 1), (18, .aload_n 1, 1), (19, .arraylength, 1), (20, .if_icmp .ge 15, 3), (23, .aload_n 1, 1), (24, .iload_n 2, 1), (25, .aload_n 0, 1), (26, .iload_n 2, 1), (27, .iaload, 1), (28, .iastore, 1), (29, .iinc 2 1, 3), (32, .goto (-21), 3), (35, .return_, 1)]
theorem tbX8_copy_ok : pTabOk cX8_copy tbX8_copy = true := by decide +kernel
def tbX9_init : pTab := [(0, .aload_n 0, 1), (1, .invokespecial 3, 3), (4, .aload_n 0, 1), (5, .sipush 348, 3), (8, .newarray .int, 2), (10, .putfield 9, 3), (13, .aload_n 0, 1), (14, .sipush 348, 3), (17, .newarray .int, 2), (19, .putfield 13, 3), (22, .aload_n 0, 1), (23, .bipush 8, 2), (25, .newarray .int, 2), (27, .putfield 16, 3), (30, .aload_n 0, 1), (31, .bipush 32, 2), (33, .newarray .boolean, 2), (35, .putfield 19, 3), (38, .aload_n 0, 1), (39, .bipush 32, 2), (41, .newarray .float, 2), (43, .putfield 23, 3), (46, .aload_n 0, 1), (47, .bipush 32, 2), (49, .newarray .float, 2), (51, .putfield 27, 3), (54, .aload_n 0, 1), (55, .sipush 400, 3), (58, .newarray .int, 2), (60, .putfield 30, 3), (63, .aload_n 0, 1), (64, .sipush 400, 3), (67, .newarray .int, 2), (69, .putfield 33, 3), (72, .aload_n 0, 1), (73, .sipush 400, 3), (76, .newarray .int, 2), (78, .putfield 36, 3), (81, .aload_n 0, 1), (82, .bipush 33, 2), (84, .newarray .float, 2), (86, .putfield 39, 3), (89, .aload_n 0, 1), (90, .bipush 33, 2), (92, .newarray .int, 2), (94, .putfield 42, 3), (97, .aload_n 0, 1), (98, .bipush 33, 2), (100, .newarray .int, 2), (102, .putfield 45, 3), (105, .aload_n 0, 1), (106, .bipush 33, 2), (108, .newarray .int, 2), (110, .putfield 48, 3), (113, .aload_n 0, 1), (114, .bipush 33, 2), (116, .newarray .int, 2), (118, .putfield 51, 3), (121, .aload_n 0, 1), (122, .bipush 33, 2), (124, .newarray .int, 2), (126, .putfield 54, 3), (129, .aload_n 0, 1), (130, .bipush 32, 2), (132, .newarray .float, 2), (134, .putfield 57, 3), (137, .aload_n 0, 1), (138, .sipush 160, 3), (141, .newarray .int, 2), (143, .putfield 60, 3), (146, .aload_n 0, 1), (147, .sipush 800, 3), (150, .newarray .int, 2), (152, .putfield 63, 3), (155, .aload_n 0, 1), (156, .iconst 4, 1), (157, .newarray .int, 2), (159, .dup, 1), (160, .iconst 0, 1), (161, .iconst (-1), 1), (162, .iastore, 1), (163, .dup, 1), (164, .iconst 1, 1), (165, .iconst (-1), 1), (166, .iastore, 1), (167, .dup, 1), (168, .iconst 2, 1), (169, .iconst (-1), 1), (170, .iastore, 1), (171, .dup, 1), (172, .iconst 3, 1), (173, .iconst (-1), 1), (174, .iastore, 1), (175, .putfield 66, 3), (178, .aload_n 0, 1), (179, .iconst 4, 1), (180, .newarray .int, 2), (182, .putfield 69, 3), (185, .aload_n 0, 1), (186, .sipush 160, 3), (189, .newarray .float, 2), (191, .putfield 72, 3), (194, .aload_n 0, 1), (195, .sipush 160, 3), (198, .newarray .double, 2), (200, .putfield 75, 3), (203, .aload_n 0, 1), (204, .sipush 160, 3), (207, .newarray .int, 2), (209, .putfield 79, 3), (212, .aload_n 0, 1), (213, .getfield 9, 3), (216, .iconst 1, 1), (217, .bipush 120, 2), (219, .iastore, 1), (220, .iconst 0, 1), (221, .istore_n 1, 1), (222, .iload_n 1, 1), (223, .iconst 3, 1), (224, .if_icmp .ge 23, 3), (227, .aload_n 0, 1), (228, .getfield 9, 3), (231, .sipush 162, 3), (234, .bipush 62, 2), (236, .iload_n 1, 1), (237, .imul, 1), (238, .iadd, 1), (239, .iconst (-1), 1), (240, .iastore, 1), (241, .iinc 1 1, 3), (244, .goto (-22), 3), (247, .return_, 1)]
theorem tbX9_init_ok : pTabOk cX9_init tbX9_init = true := by decide +kernel
def tbX9_in : pTab := [(0, .lload_n 0, 1), (1, .lload_n 2, 1), (2, .lcmp, 1), (3, .ifCond .lt 14, 3), (6, .lload_n 0, 1), (7, .lload 4, 2), (9, .lcmp, 1), (10, .ifCond .gt 7, 3), (13, .iconst 1, 1), (14, .goto 4, 3), (17, .iconst 0, 1), (18, .ireturn, 1)]
theorem tbX9_in_ok : pTabOk cX9_in tbX9_in = true := by decide +kernel
def tbX9_errs : pTab := [(0, .aload_n 0, 1), (1, .getfield 16, 3), (4, .ldc 82, 2), (6, .iload_n 1, 1), (7, .isub, 1), (8, .dup2, 1), (9, .iaload, 1), (10, .iconst 1, 1), (11, .iadd, 1), (12, .iastore, 1), (13, .iload_n 1, 1), (14, .ireturn, 1)]
theorem tbX9_errs_ok : pTabOk cX9_errs tbX9_errs = true := by decide +kernel
def tbX9_errsLong : pTab := [(0, .aload_n 0, 1), (1, .getfield 16, 3), (4, .ldc 82, 2), (6, .iload_n 1, 1), (7, .isub, 1), (8, .dup2, 1), (9, .iaload, 1), (10, .iconst 1, 1), (11, .iadd, 1), (12, .iastore, 1), (13, .ldc2_w 83, 3), (16, .iload_n 1, 1), (17, .ldc 82, 2), (19, .isub, 1), (20, .i2l, 1), (21, .ladd, 1), (22, .lreturn, 1)]
theorem tbX9_errsLong_ok : pTabOk cX9_errsLong tbX9_errsLong = true := by decide +kernel
def tbX9_copy : pTab := [(0, .iconst 0, 1), (1, .istore_n 2, 1), (2, .iload_n 2, 1), (3, .sipush 348, 3), (6, .if_icmp .ge 15, 3), (9, .aload_n 1, 1), (10, .iload_n 2, 1), (11, .aload_n 0, 1), (12, .iload_n 2, 1), (13, .iaload, 1), (14, .iastore, 1), (15, .iinc 2 1, 3), (18, .goto (-16), 3), (21, .return_, 1)]
theorem tbX9_copy_ok : pTabOk cX9_copy tbX9_copy = true := by decide +kernel
def tbX9_its : pTab := [(0, .aload_n 0, 1), (1, .getfield 9, 3), (4, .iconst 2, 1), (5, .iconst 5, 1), (6, .iload_n 1, 1), (7, .imul, 1), (8, .iadd, 1), (9, .iload_n 2, 1), (10, .iadd, 1), (11, .iaload, 1), (12, .ireturn, 1)]
theorem tbX9_its_ok : pTabOk cX9_its tbX9_its = true := by decide +kernel
def tbX9_sets : pTab := [(0, .aload_n 0, 1), (1, .getfield 9, 3), (4, .iconst 2, 1), (5, .iconst 5, 1), (6, .iload_n 1, 1), (7, .imul, 1), (8, .iadd, 1), (9, .iload_n 2, 1), (10, .iadd, 1), (11, .iload_n 3, 1), (12, .iastore, 1), (13, .return_, 1)]
theorem tbX9_sets_ok : pTabOk cX9_sets tbX9_sets = true := by decide +kernel
def tbX9_isColumn : pTab := [(0, .iload_n 1, 1), (1, .i2l, 1), (2, .lconst 0, 1), (3, .aload_n 0, 1), (4, .getfield 9, 3), (7, .iconst 0, 1), (8, .iaload, 1), (9, .iconst 1, 1), (10, .isub, 1), (11, .i2l, 1), (12, .invokestatic 85, 3), (15, .ireturn, 1)]
theorem tbX9_isColumn_ok : pTabOk cX9_isColumn tbX9_isColumn = true := by decide +kernel
def tbX9_mayBe : pTab := [(0, .iload_n 0, 1), (1, .tableswitch 87 0 4 #[35, 45, 55, 67, 77], 35), (36, .iload_n 1, 1), (37, .i2l, 1), (38, .lconst 0, 1), (39, .ldc2_w 89, 3), (42, .invokestatic 85, 3), (45, .ireturn, 1), (46, .iload_n 1, 1), (47, .i2l, 1), (48, .lconst 1, 1), (49, .ldc2_w 91, 3), (52, .invokestatic 85, 3), (55, .ireturn, 1), (56, .iload_n 1, 1), (57, .i2l, 1), (58, .ldc2_w 93, 3), (61, .ldc2_w 95, 3), (64, .invokestatic 85, 3), (67, .ireturn, 1), (68, .iload_n 1, 1), (69, .i2l, 1), (70, .lconst 1, 1), (71, .ldc2_w 97, 3), (74, .invokestatic 85, 3), (77, .ireturn, 1), (78, .iload_n 1, 1), (79, .i2l, 1), (80, .lconst 0, 1), (81, .ldc2_w 99, 3), (84, .invokestatic 85, 3), (87, .ireturn, 1), (88, .iconst 0, 1), (89, .ireturn, 1)]
theorem tbX9_mayBe_ok : pTabOk cX9_mayBe tbX9_mayBe = true := by decide +kernel
def tbX9_comes : pTab := [(0, .aload_n 0, 1), (1, .getfield 9, 3), (4, .iconst 0, 1), (5, .iaload, 1), (6, .istore 6, 2), (8, .aload_n 0, 1), (9, .getfield 9, 3), (12, .iconst 0, 1), (13, .dup2, 1), (14, .iaload, 1), (15, .iconst 1, 1), (16, .iadd, 1), (17, .iastore, 1), (18, .aload_n 0, 1), (19, .iload 6, 2), (21, .iconst 0, 1), (22, .iload_n 1, 1), (23, .invokevirtual 101, 3), (26, .aload_n 0, 1), (27, .iload 6, 2), (29, .iconst 1, 1), (30, .iload_n 2, 1), (31, .invokevirtual 101, 3), (34, .aload_n 0, 1), (35, .iload 6, 2), (37, .iconst 2, 1), (38, .iload_n 3, 1), (39, .invokevirtual 101, 3), (42, .aload_n 0, 1), (43, .iload 6, 2), (45, .iconst 3, 1), (46, .iload 4, 2), (48, .invokevirtual 101, 3), (51, .aload_n 0, 1), (52, .iload 6, 2), (54, .iconst 4, 1), (55, .iload 5, 2), (57, .invokevirtual 101, 3), (60, .iload 6, 2), (62, .ireturn, 1)]
theorem tbX9_comes_ok : pTabOk cX9_comes tbX9_comes = true := by decide +kernel
def tbX9_add : pTab := [(0, .iconst 0, 1), (1, .iload_n 1, 1), (2, .invokestatic 105, 3), (5, .ifCond .eq 11, 3), (8, .iconst 1, 1), (9, .iload_n 2, 1), (10, .invokestatic 105, 3), (13, .ifCond .ne 10, 3), (16, .aload_n 0, 1), (17, .ldc 109, 2), (19, .invokevirtual 110, 3), (22, .ireturn, 1), (23, .aload_n 0, 1), (24, .getfield 9, 3), (27, .iconst 0, 1), (28, .iaload, 1), (29, .bipush 32, 2), (31, .if_icmp .ne 12, 3), (34, .aload_n 0, 1), (35, .ldc 114, 2), (37, .invokevirtual 110, 3), (40, .goto 12, 3), (43, .aload_n 0, 1), (44, .iload_n 1, 1), (45, .iload_n 2, 1), (46, .iconst 0, 1), (47, .iconst 2, 1), (48, .iconst 0, 1), (49, .invokevirtual 115, 3), (52, .ireturn, 1)]
theorem tbX9_add_ok : pTabOk cX9_add tbX9_add = true := by decide +kernel
def tbX9_drop : pTab := [(0, .aload_n 0, 1), (1, .getfield 9, 3), (4, .iconst 0, 1), (5, .iaload, 1), (6, .ifCond .ne 10, 3), (9, .aload_n 0, 1), (10, .ldc 119, 2), (12, .invokevirtual 110, 3), (15, .ireturn, 1), (16, .aload_n 0, 1), (17, .getfield 9, 3), (20, .iconst 0, 1), (21, .dup2, 1), (22, .iaload, 1), (23, .iconst 1, 1), (24, .isub, 1), (25, .iastore, 1), (26, .aload_n 0, 1), (27, .getfield 9, 3), (30, .iconst 0, 1), (31, .iaload, 1), (32, .ireturn, 1)]
theorem tbX9_drop_ok : pTabOk cX9_drop tbX9_drop = true := by decide +kernel
def tbX9_set : pTab := [(0, .aload_n 0, 1), (1, .iload_n 1, 1), (2, .invokevirtual 120, 3), (5, .ifCond .eq 11, 3), (8, .iload_n 2, 1), (9, .iload_n 3, 1), (10, .invokestatic 105, 3), (13, .ifCond .ne 10, 3), (16, .aload_n 0, 1), (17, .ldc 109, 2), (19, .invokevirtual 110, 3), (22, .ireturn, 1), (23, .aload_n 0, 1), (24, .iload_n 1, 1), (25, .iload_n 2, 1), (26, .invokevirtual 124, 3), (29, .istore 4, 2), (31, .aload_n 0, 1), (32, .iload_n 1, 1), (33, .iload_n 2, 1), (34, .iload_n 3, 1), (35, .invokevirtual 101, 3), (38, .iload 4, 2), (40, .ireturn, 1)]
theorem tbX9_set_ok : pTabOk cX9_set tbX9_set = true := by decide +kernel
def tbX9_topOf : pTab := [(0, .iload_n 0, 1), (1, .iconst 2, 1), (2, .if_icmp .ne 7, 3), (5, .iconst 4, 1), (6, .goto 26, 3), (9, .iload_n 0, 1), (10, .iconst 1, 1), (11, .if_icmp .ne 7, 3), (14, .iconst 3, 1), (15, .goto 17, 3), (18, .iload_n 1, 1), (19, .ifCond .ge 10, 3), (22, .iload_n 1, 1), (23, .bipush 7, 2), (25, .iadd, 1), (26, .goto 6, 3), (29, .iload_n 1, 1), (30, .iconst 1, 1), (31, .iadd, 1), (32, .iload_n 2, 1), (33, .iadd, 1), (34, .ireturn, 1)]
theorem tbX9_topOf_ok : pTabOk cX9_topOf tbX9_topOf = true := by decide +kernel
def tbX9_top : pTab := [(0, .aload_n 0, 1), (1, .iload_n 1, 1), (2, .iconst 0, 1), (3, .invokevirtual 124, 3), (6, .aload_n 0, 1), (7, .iload_n 1, 1), (8, .iconst 2, 1), (9, .invokevirtual 124, 3), (12, .aload_n 0, 1), (13, .iload_n 1, 1), (14, .iconst 4, 1), (15, .invokevirtual 124, 3), (18, .invokestatic 128, 3), (21, .ireturn, 1)]
theorem tbX9_top_ok : pTabOk cX9_top tbX9_top = true := by decide +kernel
def tbX9_bottom : pTab := [(0, .aload_n 0, 1), (1, .iload_n 1, 1), (2, .iconst 2, 1), (3, .invokevirtual 124, 3), (6, .istore_n 2, 1), (7, .aload_n 0, 1), (8, .iload_n 1, 1), (9, .iconst 0, 1), (10, .invokevirtual 124, 3), (13, .iconst 2, 1), (14, .if_icmp .ne 8, 3), (17, .bipush (-4), 2), (19, .goto 32, 3), (22, .aload_n 0, 1), (23, .iload_n 1, 1), (24, .iconst 0, 1), (25, .invokevirtual 124, 3), (28, .iconst 1, 1), (29, .if_icmp .ne 8, 3), (32, .bipush (-3), 2), (34, .goto 17, 3), (37, .iload_n 2, 1), (38, .ifCond .ge 9, 3), (41, .iload_n 2, 1), (42, .iconst 1, 1), (43, .isub, 1), (44, .goto 7, 3), (47, .iload_n 2, 1), (48, .bipush 7, 2), (50, .isub, 1), (51, .ireturn, 1)]
theorem tbX9_bottom_ok : pTabOk cX9_bottom tbX9_bottom = true := by decide +kernel
def tbX9_of : pTab := [(0, .aload_n 0, 1), (1, .iload_n 1, 1), (2, .invokevirtual 120, 3), (5, .ifCond .eq 15, 3), (8, .iload_n 2, 1), (9, .i2l, 1), (10, .lconst 0, 1), (11, .ldc2_w 132, 3), (14, .invokestatic 85, 3), (17, .ifCond .ne 10, 3), (20, .aload_n 0, 1), (21, .ldc 109, 2), (23, .invokevirtual 110, 3), (26, .ireturn, 1), (27, .iload_n 2, 1), (28, .iconst 5, 1), (29, .if_icmp .ge 12, 3), (32, .aload_n 0, 1), (33, .iload_n 1, 1), (34, .iload_n 2, 1), (35, .invokevirtual 124, 3), (38, .goto 21, 3), (41, .iload_n 2, 1), (42, .iconst 5, 1), (43, .if_icmp .ne 11, 3), (46, .aload_n 0, 1), (47, .iload_n 1, 1), (48, .invokevirtual 134, 3), (51, .goto 8, 3), (54, .aload_n 0, 1), (55, .iload_n 1, 1), (56, .invokevirtual 137, 3), (59, .ireturn, 1)]
theorem tbX9_of_ok : pTabOk cX9_of tbX9_of = true := by decide +kernel
def tbX9_ideal : pTab := [(0, .aload_n 0, 1), (1, .iload_n 1, 1), (2, .iconst 0, 1), (3, .invokevirtual 124, 3), (6, .iconst 2, 1), (7, .if_icmp .ne 6, 3), (10, .ldc 140, 2), (12, .freturn, 1), (13, .iconst 0, 1), (14, .istore_n 2, 1), (15, .iconst 1, 1), (16, .istore_n 3, 1), (17, .iconst 2, 1), (18, .iload_n 3, 1), (19, .imul, 1), (20, .aload_n 0, 1), (21, .iload_n 1, 1), (22, .iconst 1, 1), (23, .invokevirtual 124, 3), (26, .if_icmp .gt 13, 3), (29, .iload_n 3, 1), (30, .iconst 2, 1), (31, .imul, 1), (32, .istore_n 3, 1), (33, .iinc 2 1, 3), (36, .goto (-19), 3), (39, .aload_n 0, 1), (40, .iload_n 1, 1), (41, .iconst 1, 1), (42, .invokevirtual 124, 3), (45, .i2f, 1), (46, .iload_n 3, 1), (47, .i2f, 1), (48, .fdiv, 1), (49, .fstore 4, 2), (51, .fload 4, 2), (53, .fconst 1, 1), (54, .fsub, 1), (55, .fstore 4, 2), (57, .iload_n 2, 1), (58, .i2f, 1), (59, .fload 4, 2), (61, .fadd, 1), (62, .fstore 5, 2), (64, .fload 5, 2), (66, .fconst 2, 1), (67, .fdiv, 1), (68, .fstore 5, 2), (70, .fconst 1, 1), (71, .fload 5, 2), (73, .fadd, 1), (74, .fstore 5, 2), (76, .ldc 141, 2), (78, .fload 5, 2), (80, .fmul, 1), (81, .freturn, 1)]
theorem tbX9_ideal_ok : pTabOk cX9_ideal tbX9_ideal = true := by decide +kernel
def tbX9_flex : pTab := [(0, .aload_n 0, 1), (1, .iload_n 1, 1), (2, .iconst 0, 1), (3, .invokevirtual 124, 3), (6, .iconst 2, 1), (7, .if_icmp .ne 8, 3), (10, .ldc 142, 2), (12, .goto 10, 3), (15, .aload_n 0, 1), (16, .iload_n 1, 1), (17, .invokevirtual 143, 3), (20, .fconst 2, 1), (21, .fdiv, 1), (22, .freturn, 1)]
theorem tbX9_flex_ok : pTabOk cX9_flex tbX9_flex = true := by decide +kernel
def tbX9_rod : pTab := [(0, .aload_n 0, 1), (1, .iload_n 1, 1), (2, .iconst 3, 1), (3, .invokevirtual 124, 3), (6, .i2f, 1), (7, .fconst 1, 1), (8, .fadd, 1), (9, .freturn, 1)]
theorem tbX9_rod_ok : pTabOk cX9_rod tbX9_rod = true := by decide +kernel
def tbX9_spring : pTab := [(0, .aload_n 0, 1), (1, .iload_n 1, 1), (2, .invokevirtual 120, 3), (5, .ifCond .eq 15, 3), (8, .iload_n 2, 1), (9, .i2l, 1), (10, .lconst 0, 1), (11, .ldc2_w 89, 3), (14, .invokestatic 85, 3), (17, .ifCond .ne 10, 3), (20, .aload_n 0, 1), (21, .ldc 109, 2), (23, .invokevirtual 110, 3), (26, .ireturn, 1), (27, .iload_n 2, 1), (28, .ifCond .ne 11, 3), (31, .aload_n 0, 1), (32, .iload_n 1, 1), (33, .invokevirtual 143, 3), (36, .goto 21, 3), (39, .iload_n 2, 1), (40, .iconst 1, 1), (41, .if_icmp .ne 11, 3), (44, .aload_n 0, 1), (45, .iload_n 1, 1), (46, .invokevirtual 147, 3), (49, .goto 8, 3), (52, .aload_n 0, 1), (53, .iload_n 1, 1), (54, .invokevirtual 150, 3), (57, .invokestatic 153, 3), (60, .ireturn, 1)]
theorem tbX9_spring_ok : pTabOk cX9_spring tbX9_spring = true := by decide +kernel
def tbX9_width : pTab := [(0, .iload_n 1, 1), (1, .i2l, 1), (2, .ldc2_w 95, 3), (5, .ldc2_w 159, 3), (8, .invokestatic 85, 3), (11, .ifCond .ne 10, 3), (14, .aload_n 0, 1), (15, .ldc 109, 2), (17, .invokevirtual 110, 3), (20, .ireturn, 1), (21, .aload_n 0, 1), (22, .getfield 9, 3), (25, .iconst 1, 1), (26, .iaload, 1), (27, .istore_n 2, 1), (28, .aload_n 0, 1), (29, .getfield 9, 3), (32, .iconst 1, 1), (33, .iload_n 1, 1), (34, .iastore, 1), (35, .iload_n 2, 1), (36, .ireturn, 1)]
theorem tbX9_width_ok : pTabOk cX9_width tbX9_width = true := by decide +kernel
def tbX9_wanted : pTab := [(0, .aload_n 0, 1), (1, .getfield 161, 3), (4, .aload_n 0, 1), (5, .iload_n 1, 1), (6, .invokevirtual 147, 3), (9, .fmul, 1), (10, .fstore_n 2, 1), (11, .aload_n 0, 1), (12, .iload_n 1, 1), (13, .invokevirtual 143, 3), (16, .fload_n 2, 1), (17, .fadd, 1), (18, .freturn, 1)]
theorem tbX9_wanted_ok : pTabOk cX9_wanted tbX9_wanted = true := by decide +kernel
def tbX9_forceOf : pTab := [(0, .aload_n 0, 1), (1, .fconst 0, 1), (2, .putfield 161, 3), (5, .aload_n 0, 1), (6, .getfield 165, 3), (9, .iload_n 2, 1), (10, .iload_n 1, 1), (11, .isub, 1), (12, .iconst 1, 1), (13, .iadd, 1), (14, .if_icmp .ne 4, 3), (17, .return_, 1), (18, .fconst 0, 1), (19, .fstore_n 3, 1), (20, .fconst 0, 1), (21, .fstore 4, 2), (23, .fconst 0, 1), (24, .fstore 5, 2), (26, .iload_n 1, 1), (27, .istore 6, 2), (29, .iload 6, 2), (31, .iload_n 2, 1), (32, .if_icmp .gt 53, 3), (35, .aload_n 0, 1), (36, .getfield 19, 3), (39, .iload 6, 2), (41, .baload, 1), (42, .ifCond .eq 15, 3), (45, .fload_n 3, 1), (46, .aload_n 0, 1), (47, .iload 6, 2), (49, .invokevirtual 150, 3), (52, .fadd, 1), (53, .fstore_n 3, 1), (54, .goto 25, 3), (57, .fload 4, 2), (59, .aload_n 0, 1), (60, .iload 6, 2), (62, .invokevirtual 143, 3), (65, .fadd, 1), (66, .fstore 4, 2), (68, .fload 5, 2), (70, .aload_n 0, 1), (71, .iload 6, 2), (73, .invokevirtual 147, 3), (76, .fadd, 1), (77, .fstore 5, 2), (79, .iinc 6 1, 3), (82, .goto (-53), 3), (85, .aload_n 0, 1), (86, .getfield 9, 3), (89, .iconst 1, 1), (90, .iaload, 1), (91, .i2f, 1), (92, .fload_n 3, 1), (93, .fsub, 1), (94, .fstore 6, 2), (96, .fload 6, 2), (98, .fload 4, 2), (100, .fsub, 1), (101, .fstore 6, 2), (103, .aload_n 0, 1), (104, .fload 6, 2), (106, .fload 5, 2), (108, .fdiv, 1), (109, .putfield 161, 3), (112, .return_, 1)]
theorem tbX9_forceOf_ok : pTabOk cX9_forceOf tbX9_forceOf = true := by decide +kernel
def tbX9_laysOut : pTab := [(0, .aload_n 0, 1), (1, .iconst 0, 1), (2, .putfield 165, 3), (5, .iload_n 1, 1), (6, .istore_n 3, 1), (7, .iload_n 3, 1), (8, .iload_n 2, 1), (9, .if_icmp .gt 16, 3), (12, .aload_n 0, 1), (13, .getfield 19, 3), (16, .iload_n 3, 1), (17, .iconst 0, 1), (18, .bastore, 1), (19, .iinc 3 1, 3), (22, .goto (-15), 3), (25, .iconst 1, 1), (26, .istore_n 3, 1), (27, .iload_n 3, 1), (28, .ifCond .eq 75, 3), (31, .aload_n 0, 1), (32, .iload_n 1, 1), (33, .iload_n 2, 1), (34, .invokevirtual 169, 3), (37, .iconst 0, 1), (38, .istore_n 3, 1), (39, .iload_n 1, 1), (40, .istore 4, 2), (42, .iload 4, 2), (44, .iload_n 2, 1), (45, .if_icmp .gt 55, 3), (48, .aload_n 0, 1), (49, .getfield 19, 3), (52, .iload 4, 2), (54, .baload, 1), (55, .ifCond .ne 39, 3), (58, .aload_n 0, 1), (59, .iload 4, 2), (61, .invokevirtual 173, 3), (64, .aload_n 0, 1), (65, .iload 4, 2), (67, .invokevirtual 150, 3), (70, .fcmp .g, 1), (71, .ifCond .ge 23, 3), (74, .aload_n 0, 1), (75, .getfield 19, 3), (78, .iload 4, 2), (80, .iconst 1, 1), (81, .bastore, 1), (82, .aload_n 0, 1), (83, .dup, 1), (84, .getfield 165, 3), (87, .iconst 1, 1), (88, .iadd, 1), (89, .putfield 165, 3), (92, .iconst 1, 1), (93, .istore_n 3, 1), (94, .iinc 4 1, 3), (97, .goto (-55), 3), (100, .goto (-73), 3), (103, .fconst 0, 1), (104, .fstore 4, 2), (106, .iload_n 1, 1), (107, .istore 5, 2), (109, .iload 5, 2), (111, .iload_n 2, 1), (112, .if_icmp .gt 62, 3), (115, .aload_n 0, 1), (116, .getfield 23, 3), (119, .iload 5, 2), (121, .aload_n 0, 1), (122, .getfield 19, 3), (125, .iload 5, 2), (127, .baload, 1), (128, .ifCond .eq 12, 3), (131, .aload_n 0, 1), (132, .iload 5, 2), (134, .invokevirtual 150, 3), (137, .goto 9, 3), (140, .aload_n 0, 1), (141, .iload 5, 2), (143, .invokevirtual 173, 3), (146, .fastore, 1), (147, .aload_n 0, 1), (148, .getfield 27, 3), (151, .iload 5, 2), (153, .fload 4, 2), (155, .fastore, 1), (156, .fload 4, 2), (158, .aload_n 0, 1), (159, .getfield 23, 3), (162, .iload 5, 2), (164, .faload, 1), (165, .fadd, 1), (166, .fstore 4, 2), (168, .iinc 5 1, 3), (171, .goto (-62), 3), (174, .return_, 1)]
theorem tbX9_laysOut_ok : pTabOk cX9_laysOut tbX9_laysOut = true := by decide +kernel
def tbX9_isStretch : pTab := [(0, .iload_n 1, 1), (1, .ifCond .lt 22, 3), (4, .iload_n 1, 1), (5, .iload_n 2, 1), (6, .if_icmp .gt 17, 3), (9, .iload_n 2, 1), (10, .aload_n 0, 1), (11, .getfield 9, 3), (14, .iconst 0, 1), (15, .iaload, 1), (16, .if_icmp .ge 7, 3), (19, .iconst 1, 1), (20, .goto 4, 3), (23, .iconst 0, 1), (24, .ireturn, 1)]
theorem tbX9_isStretch_ok : pTabOk cX9_isStretch tbX9_isStretch = true := by decide +kernel
def tbX9_force : pTab := [(0, .aload_n 0, 1), (1, .iload_n 1, 1), (2, .iload_n 2, 1), (3, .invokevirtual 176, 3), (6, .ifCond .ne 10, 3), (9, .aload_n 0, 1), (10, .ldc 109, 2), (12, .invokevirtual 110, 3), (15, .ireturn, 1), (16, .aload_n 0, 1), (17, .iload_n 1, 1), (18, .iload_n 2, 1), (19, .invokevirtual 179, 3), (22, .aload_n 0, 1), (23, .getfield 161, 3), (26, .invokestatic 153, 3), (29, .ireturn, 1)]
theorem tbX9_force_ok : pTabOk cX9_force tbX9_force = true := by decide +kernel
def tbX9_held : pTab := [(0, .aload_n 0, 1), (1, .iload_n 1, 1), (2, .iload_n 2, 1), (3, .invokevirtual 176, 3), (6, .ifCond .ne 10, 3), (9, .aload_n 0, 1), (10, .ldc 109, 2), (12, .invokevirtual 110, 3), (15, .ireturn, 1), (16, .aload_n 0, 1), (17, .iload_n 1, 1), (18, .iload_n 2, 1), (19, .invokevirtual 179, 3), (22, .aload_n 0, 1), (23, .getfield 165, 3), (26, .ireturn, 1)]
theorem tbX9_held_ok : pTabOk cX9_held tbX9_held = true := by decide +kernel
def tbX9_at : pTab := [(0, .aload_n 0, 1), (1, .iload_n 1, 1), (2, .iload_n 2, 1), (3, .invokevirtual 176, 3), (6, .ifCond .eq 28, 3), (9, .iload_n 3, 1), (10, .i2l, 1), (11, .iload_n 1, 1), (12, .i2l, 1), (13, .iload_n 2, 1), (14, .i2l, 1), (15, .invokestatic 85, 3), (18, .ifCond .eq 16, 3), (21, .iload 4, 2), (23, .i2l, 1), (24, .lconst 0, 1), (25, .ldc2_w 89, 3), (28, .invokestatic 85, 3), (31, .ifCond .ne 10, 3), (34, .aload_n 0, 1), (35, .ldc 109, 2), (37, .invokevirtual 110, 3), (40, .ireturn, 1), (41, .aload_n 0, 1), (42, .iload_n 1, 1), (43, .iload_n 2, 1), (44, .invokevirtual 179, 3), (47, .iload 4, 2), (49, .iconst 2, 1), (50, .if_icmp .ne 13, 3), (53, .aload_n 0, 1), (54, .getfield 27, 3), (57, .iload_n 3, 1), (58, .faload, 1), (59, .f2i, 1), (60, .goto 26, 3), (63, .iload 4, 2), (65, .ifCond .ne 12, 3), (68, .aload_n 0, 1), (69, .getfield 23, 3), (72, .iload_n 3, 1), (73, .faload, 1), (74, .goto 9, 3), (77, .aload_n 0, 1), (78, .getfield 27, 3), (81, .iload_n 3, 1), (82, .faload, 1), (83, .invokestatic 153, 3), (86, .ireturn, 1)]
theorem tbX9_at_ok : pTabOk cX9_at tbX9_at = true := by decide +kernel
def tbX9_isGood : pTab := [(0, .fconst 0, 1), (1, .fstore_n 3, 1), (2, .fconst 0, 1), (3, .fstore 4, 2), (5, .fconst 0, 1), (6, .fstore 5, 2), (8, .iload_n 1, 1), (9, .istore 6, 2), (11, .iload 6, 2), (13, .iload_n 2, 1), (14, .if_icmp .gt 40, 3), (17, .fload_n 3, 1), (18, .aload_n 0, 1), (19, .iload 6, 2), (21, .invokevirtual 150, 3), (24, .fadd, 1), (25, .fstore_n 3, 1), (26, .fload 4, 2), (28, .aload_n 0, 1), (29, .iload 6, 2), (31, .invokevirtual 143, 3), (34, .fadd, 1), (35, .fstore 4, 2), (37, .fload 5, 2), (39, .aload_n 0, 1), (40, .iload 6, 2), (42, .invokevirtual 147, 3), (45, .fadd, 1), (46, .fstore 5, 2), (48, .iinc 6 1, 3), (51, .goto (-40), 3), (54, .fload_n 3, 1), (55, .aload_n 0, 1), (56, .getfield 9, 3), (59, .iconst 1, 1), (60, .iaload, 1), (61, .i2f, 1), (62, .fcmp .l, 1), (63, .ifCond .le 5, 3), (66, .iconst 0, 1), (67, .ireturn, 1), (68, .aload_n 0, 1), (69, .getfield 9, 3), (72, .iconst 1, 1), (73, .iaload, 1), (74, .i2f, 1), (75, .fload 4, 2), (77, .fsub, 1), (78, .fstore 6, 2), (80, .fload 6, 2), (82, .fload 5, 2), (84, .fdiv, 1), (85, .fstore 6, 2), (87, .aload_n 0, 1), (88, .ldc 182, 2), (90, .fload 6, 2), (92, .fmul, 1), (93, .putfield 183, 3), (96, .aload_n 0, 1), (97, .aload_n 0, 1), (98, .getfield 183, 3), (101, .fload 6, 2), (103, .fmul, 1), (104, .putfield 183, 3), (107, .aload_n 0, 1), (108, .fload 6, 2), (110, .fconst 0, 1), (111, .fcmp .g, 1), (112, .ifCond .ge 12, 3), (115, .aload_n 0, 1), (116, .getfield 183, 3), (119, .fconst 2, 1), (120, .fmul, 1), (121, .goto 7, 3), (124, .aload_n 0, 1), (125, .getfield 183, 3), (128, .putfield 183, 3), (131, .iconst 1, 1), (132, .ireturn, 1)]
theorem tbX9_isGood_ok : pTabOk cX9_isGood tbX9_isGood = true := by decide +kernel
def tbX9_bad : pTab := [(0, .aload_n 0, 1), (1, .iload_n 1, 1), (2, .iload_n 2, 1), (3, .invokevirtual 176, 3), (6, .ifCond .ne 10, 3), (9, .aload_n 0, 1), (10, .ldc 109, 2), (12, .invokevirtual 110, 3), (15, .ireturn, 1), (16, .aload_n 0, 1), (17, .iload_n 1, 1), (18, .iload_n 2, 1), (19, .invokevirtual 186, 3), (22, .ifCond .eq 13, 3), (25, .aload_n 0, 1), (26, .getfield 183, 3), (29, .invokestatic 153, 3), (32, .goto 9, 3), (35, .aload_n 0, 1), (36, .ldc 119, 2), (38, .invokevirtual 110, 3), (41, .ireturn, 1)]
theorem tbX9_bad_ok : pTabOk cX9_bad tbX9_bad = true := by decide +kernel
def tbX9_inks : pTab := [(0, .aload_n 0, 1), (1, .iload_n 1, 1), (2, .iload_n 2, 1), (3, .invokevirtual 179, 3), (6, .iconst 0, 1), (7, .istore_n 3, 1), (8, .iload_n 3, 1), (9, .sipush 400, 3), (12, .if_icmp .ge 27, 3), (15, .aload_n 0, 1), (16, .getfield 30, 3), (19, .iload_n 3, 1), (20, .sipush (-1000), 3), (23, .iastore, 1), (24, .aload_n 0, 1), (25, .getfield 33, 3), (28, .iload_n 3, 1), (29, .sipush (-1000), 3), (32, .iastore, 1), (33, .iinc 3 1, 3), (36, .goto (-28), 3), (39, .iload_n 1, 1), (40, .istore_n 3, 1), (41, .iload_n 3, 1), (42, .iload_n 2, 1), (43, .if_icmp .gt 150, 3), (46, .aload_n 0, 1), (47, .getfield 27, 3), (50, .iload_n 3, 1), (51, .faload, 1), (52, .f2i, 1), (53, .istore 4, 2), (55, .iload 4, 2), (57, .istore 5, 2), (59, .iload 5, 2), (61, .iload 4, 2), (63, .aload_n 0, 1), (64, .iload_n 3, 1), (65, .iconst 3, 1), (66, .invokevirtual 124, 3), (69, .iadd, 1), (70, .if_icmp .ge 117, 3), (73, .iload 5, 2), (75, .sipush 400, 3), (78, .if_icmp .ge 109, 3), (81, .aload_n 0, 1), (82, .getfield 30, 3), (85, .iload 5, 2), (87, .aload_n 0, 1), (88, .getfield 30, 3), (91, .iload 5, 2), (93, .iaload, 1), (94, .sipush (-1000), 3), (97, .if_icmp .eq 18, 3), (100, .aload_n 0, 1), (101, .iload_n 3, 1), (102, .invokevirtual 134, 3), (105, .aload_n 0, 1), (106, .getfield 30, 3), (109, .iload 5, 2), (111, .iaload, 1), (112, .if_icmp .le 11, 3), (115, .aload_n 0, 1), (116, .iload_n 3, 1), (117, .invokevirtual 134, 3), (120, .goto 10, 3), (123, .aload_n 0, 1), (124, .getfield 30, 3), (127, .iload 5, 2), (129, .iaload, 1), (130, .iastore, 1), (131, .aload_n 0, 1), (132, .getfield 33, 3), (135, .iload 5, 2), (137, .aload_n 0, 1), (138, .getfield 33, 3), (141, .iload 5, 2), (143, .iaload, 1), (144, .sipush (-1000), 3), (147, .if_icmp .eq 18, 3), (150, .aload_n 0, 1), (151, .iload_n 3, 1), (152, .invokevirtual 137, 3), (155, .aload_n 0, 1), (156, .getfield 33, 3), (159, .iload 5, 2), (161, .iaload, 1), (162, .if_icmp .ge 11, 3), (165, .aload_n 0, 1), (166, .iload_n 3, 1), (167, .invokevirtual 137, 3), (170, .goto 10, 3), (173, .aload_n 0, 1), (174, .getfield 33, 3), (177, .iload 5, 2), (179, .iaload, 1), (180, .iastore, 1), (181, .iinc 5 1, 3), (184, .goto (-125), 3), (187, .iinc 3 1, 3), (190, .goto (-149), 3), (193, .return_, 1)]
theorem tbX9_inks_ok : pTabOk cX9_inks tbX9_inks = true := by decide +kernel
def tbX9_sky : pTab := [(0, .aload_n 0, 1), (1, .iload_n 1, 1), (2, .iload_n 2, 1), (3, .invokevirtual 176, 3), (6, .ifCond .eq 26, 3), (9, .iload_n 3, 1), (10, .i2l, 1), (11, .lconst 0, 1), (12, .lconst 1, 1), (13, .invokestatic 85, 3), (16, .ifCond .eq 16, 3), (19, .iload 4, 2), (21, .i2l, 1), (22, .lconst 0, 1), (23, .ldc2_w 189, 3), (26, .invokestatic 85, 3), (29, .ifCond .ne 10, 3), (32, .aload_n 0, 1), (33, .ldc 109, 2), (35, .invokevirtual 110, 3), (38, .ireturn, 1), (39, .aload_n 0, 1), (40, .iload_n 1, 1), (41, .iload_n 2, 1), (42, .invokevirtual 191, 3), (45, .iload_n 3, 1), (46, .ifCond .ne 13, 3), (49, .aload_n 0, 1), (50, .getfield 30, 3), (53, .iload 4, 2), (55, .iaload, 1), (56, .goto 10, 3), (59, .aload_n 0, 1), (60, .getfield 33, 3), (63, .iload 4, 2), (65, .iaload, 1), (66, .istore 5, 2), (68, .iload 5, 2), (70, .sipush (-1000), 3), (73, .if_icmp .ne 12, 3), (76, .aload_n 0, 1), (77, .ldc 119, 2), (79, .invokevirtual 110, 3), (82, .goto 5, 3), (85, .iload 5, 2), (87, .ireturn, 1)]
theorem tbX9_sky_ok : pTabOk cX9_sky tbX9_sky = true := by decide +kernel
def tbX9_apartOf : pTab := [(0, .aload_n 0, 1), (1, .iload_n 1, 1), (2, .iload_n 2, 1), (3, .invokevirtual 191, 3), (6, .iconst 0, 1), (7, .istore 5, 2), (9, .iload 5, 2), (11, .sipush 400, 3), (14, .if_icmp .ge 23, 3), (17, .aload_n 0, 1), (18, .getfield 36, 3), (21, .iload 5, 2), (23, .aload_n 0, 1), (24, .getfield 33, 3), (27, .iload 5, 2), (29, .iaload, 1), (30, .iastore, 1), (31, .iinc 5 1, 3), (34, .goto (-25), 3), (37, .aload_n 0, 1), (38, .iload_n 3, 1), (39, .iload 4, 2), (41, .invokevirtual 191, 3), (44, .bipush 8, 2), (46, .istore 5, 2), (48, .iconst 0, 1), (49, .istore 6, 2), (51, .iload 6, 2), (53, .sipush 400, 3), (56, .if_icmp .ge 76, 3), (59, .aload_n 0, 1), (60, .getfield 36, 3), (63, .iload 6, 2), (65, .iaload, 1), (66, .sipush (-1000), 3), (69, .if_icmp .eq 57, 3), (72, .aload_n 0, 1), (73, .getfield 30, 3), (76, .iload 6, 2), (78, .iaload, 1), (79, .sipush (-1000), 3), (82, .if_icmp .eq 44, 3), (85, .aload_n 0, 1), (86, .getfield 30, 3), (89, .iload 6, 2), (91, .iaload, 1), (92, .aload_n 0, 1), (93, .getfield 36, 3), (96, .iload 6, 2), (98, .iaload, 1), (99, .isub, 1), (100, .iconst 2, 1), (101, .iadd, 1), (102, .iload 5, 2), (104, .if_icmp .le 22, 3), (107, .aload_n 0, 1), (108, .getfield 30, 3), (111, .iload 6, 2), (113, .iaload, 1), (114, .aload_n 0, 1), (115, .getfield 36, 3), (118, .iload 6, 2), (120, .iaload, 1), (121, .isub, 1), (122, .iconst 2, 1), (123, .iadd, 1), (124, .istore 5, 2), (126, .iinc 6 1, 3), (129, .goto (-78), 3), (132, .iload 5, 2), (134, .ireturn, 1)]
theorem tbX9_apartOf_ok : pTabOk cX9_apartOf tbX9_apartOf = true := by decide +kernel
def tbX9_apart : pTab := [(0, .aload_n 0, 1), (1, .iload_n 1, 1), (2, .iload_n 2, 1), (3, .invokevirtual 176, 3), (6, .ifCond .eq 25, 3), (9, .aload_n 0, 1), (10, .iload_n 3, 1), (11, .iload 4, 2), (13, .invokevirtual 176, 3), (16, .ifCond .eq 15, 3), (19, .aload_n 0, 1), (20, .iload_n 1, 1), (21, .iload_n 2, 1), (22, .iload_n 3, 1), (23, .iload 4, 2), (25, .invokevirtual 194, 3), (28, .goto 9, 3), (31, .aload_n 0, 1), (32, .ldc 109, 2), (34, .invokevirtual 110, 3), (37, .ireturn, 1)]
theorem tbX9_apart_ok : pTabOk cX9_apart tbX9_apart = true := by decide +kernel
def tbX9_isEnd : pTab := [(0, .iload_n 1, 1), (1, .aload_n 0, 1), (2, .getfield 9, 3), (5, .iconst 0, 1), (6, .iaload, 1), (7, .if_icmp .eq 15, 3), (10, .aload_n 0, 1), (11, .iload_n 1, 1), (12, .iconst 1, 1), (13, .isub, 1), (14, .iconst 0, 1), (15, .invokevirtual 124, 3), (18, .iconst 2, 1), (19, .if_icmp .ne 7, 3), (22, .iconst 1, 1), (23, .goto 4, 3), (26, .iconst 0, 1), (27, .ireturn, 1)]
theorem tbX9_isEnd_ok : pTabOk cX9_isEnd tbX9_isEnd = true := by decide +kernel
def tbX9_bestTo : pTab := [(0, .aload_n 0, 1), (1, .getfield 42, 3), (4, .iload_n 1, 1), (5, .iconst (-1), 1), (6, .iastore, 1), (7, .aload_n 0, 1), (8, .iload_n 1, 1), (9, .invokevirtual 198, 3), (12, .ifCond .ne 4, 3), (15, .return_, 1), (16, .iconst 0, 1), (17, .istore_n 2, 1), (18, .iload_n 2, 1), (19, .iload_n 1, 1), (20, .if_icmp .ge 82, 3), (23, .iload_n 2, 1), (24, .ifCond .le 12, 3), (27, .aload_n 0, 1), (28, .getfield 42, 3), (31, .iload_n 2, 1), (32, .iaload, 1), (33, .ifCond .lt 63, 3), (36, .aload_n 0, 1), (37, .iload_n 2, 1), (38, .iload_n 1, 1), (39, .iconst 1, 1), (40, .isub, 1), (41, .invokevirtual 186, 3), (44, .ifCond .ne 6, 3), (47, .goto 49, 3), (50, .aload_n 0, 1), (51, .getfield 39, 3), (54, .iload_n 2, 1), (55, .faload, 1), (56, .aload_n 0, 1), (57, .getfield 183, 3), (60, .fadd, 1), (61, .fstore_n 3, 1), (62, .aload_n 0, 1), (63, .getfield 42, 3), (66, .iload_n 1, 1), (67, .iaload, 1), (68, .ifCond .lt 14, 3), (71, .fload_n 3, 1), (72, .aload_n 0, 1), (73, .getfield 39, 3), (76, .iload_n 1, 1), (77, .faload, 1), (78, .fcmp .g, 1), (79, .ifCond .ge 17, 3), (82, .aload_n 0, 1), (83, .getfield 39, 3), (86, .iload_n 1, 1), (87, .fload_n 3, 1), (88, .fastore, 1), (89, .aload_n 0, 1), (90, .getfield 42, 3), (93, .iload_n 1, 1), (94, .iload_n 2, 1), (95, .iastore, 1), (96, .iinc 2 1, 3), (99, .goto (-81), 3), (102, .return_, 1)]
theorem tbX9_bestTo_ok : pTabOk cX9_bestTo tbX9_bestTo = true := by decide +kernel
def tbX9_breaks : pTab := [(0, .aload_n 0, 1), (1, .getfield 9, 3), (4, .iconst 0, 1), (5, .iaload, 1), (6, .istore_n 1, 1), (7, .aload_n 0, 1), (8, .getfield 39, 3), (11, .iconst 0, 1), (12, .fconst 0, 1), (13, .fastore, 1), (14, .aload_n 0, 1), (15, .iconst 0, 1), (16, .putfield 201, 3), (19, .iconst 1, 1), (20, .istore_n 2, 1), (21, .iload_n 2, 1), (22, .iload_n 1, 1), (23, .if_icmp .gt 14, 3), (26, .aload_n 0, 1), (27, .iload_n 2, 1), (28, .invokevirtual 204, 3), (31, .iinc 2 1, 3), (34, .goto (-13), 3), (37, .iload_n 1, 1), (38, .ifCond .le 14, 3), (41, .aload_n 0, 1), (42, .getfield 42, 3), (45, .iload_n 1, 1), (46, .iaload, 1), (47, .ifCond .ge 5, 3), (50, .iconst 0, 1), (51, .ireturn, 1), (52, .iload_n 1, 1), (53, .istore_n 2, 1), (54, .iload_n 2, 1), (55, .ifCond .le 23, 3), (58, .aload_n 0, 1), (59, .dup, 1), (60, .getfield 201, 3), (63, .iconst 1, 1), (64, .iadd, 1), (65, .putfield 201, 3), (68, .aload_n 0, 1), (69, .getfield 42, 3), (72, .iload_n 2, 1), (73, .iaload, 1), (74, .istore_n 2, 1), (75, .goto (-21), 3), (78, .aload_n 0, 1), (79, .getfield 201, 3), (82, .istore_n 2, 1), (83, .iload_n 1, 1), (84, .istore_n 3, 1), (85, .iload_n 3, 1), (86, .ifCond .le 37, 3), (89, .iinc 2 (-1), 3), (92, .aload_n 0, 1), (93, .getfield 45, 3), (96, .iload_n 2, 1), (97, .aload_n 0, 1), (98, .getfield 42, 3), (101, .iload_n 3, 1), (102, .iaload, 1), (103, .iastore, 1), (104, .aload_n 0, 1), (105, .getfield 48, 3), (108, .iload_n 2, 1), (109, .iload_n 3, 1), (110, .iconst 1, 1), (111, .isub, 1), (112, .iastore, 1), (113, .aload_n 0, 1), (114, .getfield 42, 3), (117, .iload_n 3, 1), (118, .iaload, 1), (119, .istore_n 3, 1), (120, .goto (-35), 3), (123, .iconst 1, 1), (124, .ireturn, 1)]
theorem tbX9_breaks_ok : pTabOk cX9_breaks tbX9_breaks = true := by decide +kernel
def tbX9_lines : pTab := [(0, .aload_n 0, 1), (1, .invokevirtual 208, 3), (4, .ifCond .eq 10, 3), (7, .aload_n 0, 1), (8, .getfield 201, 3), (11, .goto 9, 3), (14, .aload_n 0, 1), (15, .ldc 119, 2), (17, .invokevirtual 110, 3), (20, .ireturn, 1)]
theorem tbX9_lines_ok : pTabOk cX9_lines tbX9_lines = true := by decide +kernel
def tbX9_line : pTab := [(0, .aload_n 0, 1), (1, .invokevirtual 208, 3), (4, .ifCond .ne 10, 3), (7, .aload_n 0, 1), (8, .ldc 119, 2), (10, .invokevirtual 110, 3), (13, .ireturn, 1), (14, .iload_n 1, 1), (15, .i2l, 1), (16, .lconst 0, 1), (17, .aload_n 0, 1), (18, .getfield 201, 3), (21, .iconst 1, 1), (22, .isub, 1), (23, .i2l, 1), (24, .invokestatic 85, 3), (27, .ifCond .eq 30, 3), (30, .iload_n 2, 1), (31, .i2l, 1), (32, .lconst 0, 1), (33, .ldc2_w 212, 3), (36, .invokestatic 85, 3), (39, .ifCond .eq 18, 3), (42, .iload_n 2, 1), (43, .iconst 3, 1), (44, .if_icmp .ne 20, 3), (47, .iload_n 1, 1), (48, .aload_n 0, 1), (49, .getfield 201, 3), (52, .iconst 1, 1), (53, .isub, 1), (54, .if_icmp .ne 10, 3), (57, .aload_n 0, 1), (58, .ldc 109, 2), (60, .invokevirtual 110, 3), (63, .ireturn, 1), (64, .iload_n 2, 1), (65, .iconst 2, 1), (66, .if_icmp .ge 23, 3), (69, .iload_n 2, 1), (70, .ifCond .ne 12, 3), (73, .aload_n 0, 1), (74, .getfield 45, 3), (77, .iload_n 1, 1), (78, .iaload, 1), (79, .goto 9, 3), (82, .aload_n 0, 1), (83, .getfield 48, 3), (86, .iload_n 1, 1), (87, .iaload, 1), (88, .ireturn, 1), (89, .iload_n 2, 1), (90, .iconst 3, 1), (91, .if_icmp .ne 36, 3), (94, .aload_n 0, 1), (95, .aload_n 0, 1), (96, .getfield 45, 3), (99, .iload_n 1, 1), (100, .iaload, 1), (101, .aload_n 0, 1), (102, .getfield 48, 3), (105, .iload_n 1, 1), (106, .iaload, 1), (107, .aload_n 0, 1), (108, .getfield 45, 3), (111, .iload_n 1, 1), (112, .iconst 1, 1), (113, .iadd, 1), (114, .iaload, 1), (115, .aload_n 0, 1), (116, .getfield 48, 3), (119, .iload_n 1, 1), (120, .iconst 1, 1), (121, .iadd, 1), (122, .iaload, 1), (123, .invokevirtual 194, 3), (126, .ireturn, 1), (127, .aload_n 0, 1), (128, .aload_n 0, 1), (129, .getfield 45, 3), (132, .iload_n 1, 1), (133, .iaload, 1), (134, .aload_n 0, 1), (135, .getfield 48, 3), (138, .iload_n 1, 1), (139, .iaload, 1), (140, .invokevirtual 179, 3), (143, .aload_n 0, 1), (144, .getfield 27, 3), (147, .aload_n 0, 1), (148, .getfield 48, 3), (151, .iload_n 1, 1), (152, .iaload, 1), (153, .faload, 1), (154, .f2i, 1), (155, .ireturn, 1)]
theorem tbX9_line_ok : pTabOk cX9_line tbX9_line = true := by decide +kernel
def tbX9_total : pTab := [(0, .aload_n 0, 1), (1, .invokevirtual 208, 3), (4, .ifCond .ne 10, 3), (7, .aload_n 0, 1), (8, .ldc 119, 2), (10, .invokevirtual 110, 3), (13, .ireturn, 1), (14, .aload_n 0, 1), (15, .getfield 39, 3), (18, .aload_n 0, 1), (19, .getfield 9, 3), (22, .iconst 0, 1), (23, .iaload, 1), (24, .faload, 1), (25, .invokestatic 153, 3), (28, .ireturn, 1)]
theorem tbX9_total_ok : pTabOk cX9_total tbX9_total = true := by decide +kernel
def tbX9_keepsLines : pTab := [(0, .aload_n 0, 1), (1, .aload_n 0, 1), (2, .getfield 201, 3), (5, .putfield 214, 3), (8, .iconst 0, 1), (9, .istore_n 1, 1), (10, .iload_n 1, 1), (11, .aload_n 0, 1), (12, .getfield 201, 3), (15, .if_icmp .ge 84, 3), (18, .aload_n 0, 1), (19, .getfield 51, 3), (22, .iload_n 1, 1), (23, .aload_n 0, 1), (24, .getfield 45, 3), (27, .iload_n 1, 1), (28, .iaload, 1), (29, .iastore, 1), (30, .aload_n 0, 1), (31, .getfield 54, 3), (34, .iload_n 1, 1), (35, .aload_n 0, 1), (36, .getfield 48, 3), (39, .iload_n 1, 1), (40, .iaload, 1), (41, .iastore, 1), (42, .aload_n 0, 1), (43, .aload_n 0, 1), (44, .getfield 45, 3), (47, .iload_n 1, 1), (48, .iaload, 1), (49, .aload_n 0, 1), (50, .getfield 48, 3), (53, .iload_n 1, 1), (54, .iaload, 1), (55, .invokevirtual 179, 3), (58, .aload_n 0, 1), (59, .getfield 45, 3), (62, .iload_n 1, 1), (63, .iaload, 1), (64, .istore_n 2, 1), (65, .iload_n 2, 1), (66, .aload_n 0, 1), (67, .getfield 48, 3), (70, .iload_n 1, 1), (71, .iaload, 1), (72, .if_icmp .gt 21, 3), (75, .aload_n 0, 1), (76, .getfield 57, 3), (79, .iload_n 2, 1), (80, .aload_n 0, 1), (81, .getfield 27, 3), (84, .iload_n 2, 1), (85, .faload, 1), (86, .fastore, 1), (87, .iinc 2 1, 3), (90, .goto (-25), 3), (93, .iinc 1 1, 3), (96, .goto (-86), 3), (99, .return_, 1)]
theorem tbX9_keepsLines_ok : pTabOk cX9_keepsLines tbX9_keepsLines = true := by decide +kernel
def tbX9_isAsWas : pTab := [(0, .iload_n 1, 1), (1, .aload_n 0, 1), (2, .getfield 201, 3), (5, .if_icmp .ge 33, 3), (8, .aload_n 0, 1), (9, .getfield 45, 3), (12, .iload_n 1, 1), (13, .iaload, 1), (14, .aload_n 0, 1), (15, .getfield 51, 3), (18, .iload_n 1, 1), (19, .iaload, 1), (20, .if_icmp .ne 18, 3), (23, .aload_n 0, 1), (24, .getfield 48, 3), (27, .iload_n 1, 1), (28, .iaload, 1), (29, .aload_n 0, 1), (30, .getfield 54, 3), (33, .iload_n 1, 1), (34, .iaload, 1), (35, .if_icmp .eq 5, 3), (38, .iconst 0, 1), (39, .ireturn, 1), (40, .aload_n 0, 1), (41, .aload_n 0, 1), (42, .getfield 45, 3), (45, .iload_n 1, 1), (46, .iaload, 1), (47, .aload_n 0, 1), (48, .getfield 48, 3), (51, .iload_n 1, 1), (52, .iaload, 1), (53, .invokevirtual 179, 3), (56, .aload_n 0, 1), (57, .getfield 45, 3), (60, .iload_n 1, 1), (61, .iaload, 1), (62, .istore_n 2, 1), (63, .iload_n 2, 1), (64, .aload_n 0, 1), (65, .getfield 48, 3), (68, .iload_n 1, 1), (69, .iaload, 1), (70, .if_icmp .gt 27, 3), (73, .aload_n 0, 1), (74, .getfield 27, 3), (77, .iload_n 2, 1), (78, .faload, 1), (79, .aload_n 0, 1), (80, .getfield 57, 3), (83, .iload_n 2, 1), (84, .faload, 1), (85, .fcmp .l, 1), (86, .ifCond .eq 5, 3), (89, .iconst 0, 1), (90, .ireturn, 1), (91, .iinc 2 1, 3), (94, .goto (-31), 3), (97, .iconst 1, 1), (98, .ireturn, 1)]
theorem tbX9_isAsWas_ok : pTabOk cX9_isAsWas tbX9_isAsWas = true := by decide +kernel
def tbX9_moved : pTab := [(0, .aload_n 0, 1), (1, .iload_n 1, 1), (2, .invokevirtual 120, 3), (5, .ifCond .eq 23, 3), (8, .iconst 2, 1), (9, .iload_n 2, 1), (10, .invokestatic 105, 3), (13, .ifCond .eq 15, 3), (16, .iload_n 3, 1), (17, .i2l, 1), (18, .lconst 0, 1), (19, .ldc2_w 91, 3), (22, .invokestatic 85, 3), (25, .ifCond .ne 10, 3), (28, .aload_n 0, 1), (29, .ldc 109, 2), (31, .invokevirtual 110, 3), (34, .ireturn, 1), (35, .aload_n 0, 1), (36, .invokevirtual 208, 3), (39, .ifCond .ne 10, 3), (42, .aload_n 0, 1), (43, .ldc 119, 2), (45, .invokevirtual 110, 3), (48, .ireturn, 1), (49, .aload_n 0, 1), (50, .invokevirtual 217, 3), (53, .aload_n 0, 1), (54, .iload_n 1, 1), (55, .iconst 2, 1), (56, .invokevirtual 124, 3), (59, .istore 4, 2), (61, .aload_n 0, 1), (62, .iload_n 1, 1), (63, .iconst 1, 1), (64, .invokevirtual 124, 3), (67, .istore 5, 2), (69, .aload_n 0, 1), (70, .iload_n 1, 1), (71, .iconst 2, 1), (72, .iload_n 2, 1), (73, .invokevirtual 101, 3), (76, .aload_n 0, 1), (77, .iload_n 1, 1), (78, .iconst 1, 1), (79, .iload_n 3, 1), (80, .ifCond .ne 8, 3), (83, .iload 5, 2), (85, .goto 4, 3), (88, .iload_n 3, 1), (89, .invokevirtual 101, 3), (92, .aload_n 0, 1), (93, .invokevirtual 208, 3), (96, .istore 6, 2), (98, .iconst 0, 1), (99, .istore 7, 2), (101, .iconst 0, 1), (102, .istore 8, 2), (104, .iload 8, 2), (106, .aload_n 0, 1), (107, .getfield 214, 3), (110, .if_icmp .ge 33, 3), (113, .iload 6, 2), (115, .ifCond .eq 28, 3), (118, .iload 7, 2), (120, .aload_n 0, 1), (121, .iload 8, 2), (123, .invokevirtual 220, 3), (126, .ifCond .eq 7, 3), (129, .iconst 0, 1), (130, .goto 4, 3), (133, .iconst 1, 1), (134, .iadd, 1), (135, .istore 7, 2), (137, .iinc 8 1, 3), (140, .goto (-36), 3), (143, .aload_n 0, 1), (144, .iload_n 1, 1), (145, .iconst 2, 1), (146, .iload 4, 2), (148, .invokevirtual 101, 3), (151, .aload_n 0, 1), (152, .iload_n 1, 1), (153, .iconst 1, 1), (154, .iload 5, 2), (156, .invokevirtual 101, 3), (159, .iload 6, 2), (161, .ifCond .eq 8, 3), (164, .iload 7, 2), (166, .goto 9, 3), (169, .aload_n 0, 1), (170, .ldc 119, 2), (172, .invokevirtual 110, 3), (175, .ireturn, 1)]
theorem tbX9_moved_ok : pTabOk cX9_moved tbX9_moved = true := by decide +kernel
def tbX9_whole : pTab := [(0, .fload_n 0, 1), (1, .f2i, 1), (2, .istore_n 1, 1), (3, .iload_n 1, 1), (4, .i2f, 1), (5, .fload_n 0, 1), (6, .fcmp .l, 1), (7, .ifCond .le 10, 3), (10, .iload_n 1, 1), (11, .iconst 1, 1), (12, .isub, 1), (13, .i2f, 1), (14, .goto 5, 3), (17, .iload_n 1, 1), (18, .i2f, 1), (19, .freturn, 1)]
theorem tbX9_whole_ok : pTabOk cX9_whole tbX9_whole = true := by decide +kernel
def tbX9_rise : pTab := [(0, .aload_n 0, 1), (1, .iload_n 2, 1), (2, .iconst 2, 1), (3, .invokevirtual 124, 3), (6, .aload_n 0, 1), (7, .iload_n 1, 1), (8, .iconst 2, 1), (9, .invokevirtual 124, 3), (12, .isub, 1), (13, .i2f, 1), (14, .fconst 2, 1), (15, .fdiv, 1), (16, .fstore_n 3, 1), (17, .fload_n 3, 1), (18, .aload_n 0, 1), (19, .getfield 27, 3), (22, .iload_n 2, 1), (23, .faload, 1), (24, .fdiv, 1), (25, .freturn, 1)]
theorem tbX9_rise_ok : pTabOk cX9_rise tbX9_rise = true := by decide +kernel
def tbX9_slope : pTab := [(0, .aload_n 0, 1), (1, .iload_n 1, 1), (2, .iload_n 2, 1), (3, .invokevirtual 223, 3), (6, .ldc 227, 2), (8, .fmul, 1), (9, .fstore_n 3, 1), (10, .fload_n 3, 1), (11, .ldc 228, 2), (13, .fadd, 1), (14, .fstore_n 3, 1), (15, .fload_n 3, 1), (16, .invokestatic 229, 3), (19, .ldc 227, 2), (21, .fdiv, 1), (22, .fstore_n 3, 1), (23, .fload_n 3, 1), (24, .ldc 233, 2), (26, .fcmp .g, 1), (27, .ifCond .ge 8, 3), (30, .ldc 233, 2), (32, .goto 16, 3), (35, .fload_n 3, 1), (36, .ldc 228, 2), (38, .fcmp .l, 1), (39, .ifCond .le 8, 3), (42, .ldc 228, 2), (44, .goto 4, 3), (47, .fload_n 3, 1), (48, .freturn, 1)]
theorem tbX9_slope_ok : pTabOk cX9_slope tbX9_slope = true := by decide +kernel
def tbX9_isUp : pTab := [(0, .iconst 0, 1), (1, .istore_n 3, 1), (2, .iload_n 1, 1), (3, .istore 4, 2), (5, .iload 4, 2), (7, .iload_n 2, 1), (8, .if_icmp .gt 19, 3), (11, .iload_n 3, 1), (12, .aload_n 0, 1), (13, .iload 4, 2), (15, .iconst 2, 1), (16, .invokevirtual 124, 3), (19, .iadd, 1), (20, .istore_n 3, 1), (21, .iinc 4 1, 3), (24, .goto (-19), 3), (27, .iload_n 3, 1), (28, .ifCond .ge 7, 3), (31, .iconst 1, 1), (32, .goto 4, 3), (35, .iconst 0, 1), (36, .ireturn, 1)]
theorem tbX9_isUp_ok : pTabOk cX9_isUp tbX9_isUp = true := by decide +kernel
def tbX9_lift : pTab := [(0, .aload_n 0, 1), (1, .iload_n 1, 1), (2, .iload_n 2, 1), (3, .invokevirtual 234, 3), (6, .istore_n 3, 1), (7, .aload_n 0, 1), (8, .iload_n 1, 1), (9, .iload_n 2, 1), (10, .invokevirtual 237, 3), (13, .fstore 4, 2), (15, .iload_n 3, 1), (16, .ifCond .eq 8, 3), (19, .fload 4, 2), (21, .goto 7, 3), (24, .fconst 0, 1), (25, .fload 4, 2), (27, .fsub, 1), (28, .fstore 4, 2), (30, .fconst 0, 1), (31, .fstore 5, 2), (33, .iload_n 1, 1), (34, .istore 6, 2), (36, .iload 6, 2), (38, .iload_n 2, 1), (39, .if_icmp .gt 93, 3), (42, .aload_n 0, 1), (43, .iload 6, 2), (45, .iconst 2, 1), (46, .invokevirtual 124, 3), (49, .i2f, 1), (50, .fstore 7, 2), (52, .iload_n 3, 1), (53, .ifCond .eq 8, 3), (56, .fload 7, 2), (58, .goto 7, 3), (61, .fconst 0, 1), (62, .fload 7, 2), (64, .fsub, 1), (65, .fstore 7, 2), (67, .aload_n 0, 1), (68, .getfield 27, 3), (71, .iload 6, 2), (73, .faload, 1), (74, .aload_n 0, 1), (75, .getfield 27, 3), (78, .iload_n 2, 1), (79, .faload, 1), (80, .fsub, 1), (81, .fstore 8, 2), (83, .fload 4, 2), (85, .fload 8, 2), (87, .fmul, 1), (88, .fstore 8, 2), (90, .fload 8, 2), (92, .fconst 2, 1), (93, .fmul, 1), (94, .fstore 8, 2), (96, .fload 7, 2), (98, .fload 8, 2), (100, .fsub, 1), (101, .fstore 9, 2), (103, .iload 6, 2), (105, .iload_n 1, 1), (106, .if_icmp .eq 11, 3), (109, .fload 9, 2), (111, .fload 5, 2), (113, .fcmp .l, 1), (114, .ifCond .le 8, 3), (117, .fload 9, 2), (119, .goto 5, 3), (122, .fload 5, 2), (124, .fstore 5, 2), (126, .iinc 6 1, 3), (129, .goto (-93), 3), (132, .fload 5, 2), (134, .ldc 240, 2), (136, .fadd, 1), (137, .freturn, 1)]
theorem tbX9_lift_ok : pTabOk cX9_lift tbX9_lift = true := by decide +kernel
def tbX9_areNotes : pTab := [(0, .iload_n 1, 1), (1, .istore_n 3, 1), (2, .iload_n 3, 1), (3, .iload_n 2, 1), (4, .if_icmp .gt 20, 3), (7, .aload_n 0, 1), (8, .iload_n 3, 1), (9, .iconst 0, 1), (10, .invokevirtual 124, 3), (13, .ifCond .eq 5, 3), (16, .iconst 0, 1), (17, .ireturn, 1), (18, .iinc 3 1, 3), (21, .goto (-19), 3), (24, .iconst 1, 1), (25, .ireturn, 1)]
theorem tbX9_areNotes_ok : pTabOk cX9_areNotes tbX9_areNotes = true := by decide +kernel
def tbX9_beam : pTab := [(0, .aload_n 0, 1), (1, .iload_n 1, 1), (2, .iload_n 2, 1), (3, .invokevirtual 176, 3), (6, .ifCond .eq 15, 3), (9, .iload_n 3, 1), (10, .i2l, 1), (11, .lconst 0, 1), (12, .ldc2_w 212, 3), (15, .invokestatic 85, 3), (18, .ifCond .ne 10, 3), (21, .aload_n 0, 1), (22, .ldc 109, 2), (24, .invokevirtual 110, 3), (27, .ireturn, 1), (28, .iload_n 1, 1), (29, .iload_n 2, 1), (30, .if_icmp .ne 10, 3), (33, .aload_n 0, 1), (34, .ldc 241, 2), (36, .invokevirtual 110, 3), (39, .ireturn, 1), (40, .aload_n 0, 1), (41, .iload_n 1, 1), (42, .iload_n 2, 1), (43, .invokevirtual 242, 3), (46, .ifCond .ne 10, 3), (49, .aload_n 0, 1), (50, .ldc 245, 2), (52, .invokevirtual 110, 3), (55, .ireturn, 1), (56, .aload_n 0, 1), (57, .iload_n 1, 1), (58, .iload_n 2, 1), (59, .invokevirtual 179, 3), (62, .iload_n 3, 1), (63, .iconst 2, 1), (64, .if_icmp .ne 20, 3), (67, .aload_n 0, 1), (68, .iload_n 1, 1), (69, .iload_n 2, 1), (70, .invokevirtual 234, 3), (73, .ifCond .eq 7, 3), (76, .iconst 1, 1), (77, .goto 43, 3), (80, .iconst 0, 1), (81, .goto 39, 3), (84, .iload_n 3, 1), (85, .ifCond .ne 12, 3), (88, .aload_n 0, 1), (89, .iload_n 1, 1), (90, .iload_n 2, 1), (91, .invokevirtual 223, 3), (94, .goto 23, 3), (97, .iload_n 3, 1), (98, .iconst 1, 1), (99, .if_icmp .ne 12, 3), (102, .aload_n 0, 1), (103, .iload_n 1, 1), (104, .iload_n 2, 1), (105, .invokevirtual 237, 3), (108, .goto 9, 3), (111, .aload_n 0, 1), (112, .iload_n 1, 1), (113, .iload_n 2, 1), (114, .invokevirtual 246, 3), (117, .invokestatic 153, 3), (120, .ireturn, 1)]
theorem tbX9_beam_ok : pTabOk cX9_beam tbX9_beam = true := by decide +kernel
end
section
def tbX9_ink : pTab := [(0, .iload_n 2, 1), (1, .ifCond .ne 11, 3), (4, .aload_n 0, 1), (5, .iload_n 1, 1), (6, .invokevirtual 134, 3), (9, .goto 9, 3), (12, .aload_n 0, 1), (13, .iload_n 1, 1), (14, .invokevirtual 137, 3), (17, .ineg, 1), (18, .ireturn, 1)]
theorem tbX9_ink_ok : pTabOk cX9_ink tbX9_ink = true := by decide +kernel
def tbX9_height : pTab := [(0, .aload_n 0, 1), (1, .iload_n 1, 1), (2, .iload_n 3, 1), (3, .invokevirtual 249, 3), (6, .aload_n 0, 1), (7, .iload_n 2, 1), (8, .iload_n 3, 1), (9, .invokevirtual 249, 3), (12, .if_icmp .le 12, 3), (15, .aload_n 0, 1), (16, .iload_n 1, 1), (17, .iload_n 3, 1), (18, .invokevirtual 249, 3), (21, .goto 9, 3), (24, .aload_n 0, 1), (25, .iload_n 2, 1), (26, .iload_n 3, 1), (27, .invokevirtual 249, 3), (30, .istore 4, 2), (32, .iconst 0, 1), (33, .istore 5, 2), (35, .iload_n 2, 1), (36, .iload_n 1, 1), (37, .isub, 1), (38, .iconst 1, 1), (39, .isub, 1), (40, .istore 6, 2), (42, .iconst 1, 1), (43, .istore 7, 2), (45, .iload 7, 2), (47, .iload 6, 2), (49, .if_icmp .gt 90, 3), (52, .iload 7, 2), (54, .iload 6, 2), (56, .iconst 1, 1), (57, .iadd, 1), (58, .iload 7, 2), (60, .isub, 1), (61, .if_icmp .ge 8, 3), (64, .iload 7, 2), (66, .goto 10, 3), (69, .iload 6, 2), (71, .iconst 1, 1), (72, .iadd, 1), (73, .iload 7, 2), (75, .isub, 1), (76, .istore 8, 2), (78, .iconst 2, 1), (79, .iload 8, 2), (81, .imul, 1), (82, .bipush 6, 2), (84, .if_icmp .le 8, 3), (87, .bipush 6, 2), (89, .goto 7, 3), (92, .iconst 2, 1), (93, .iload 8, 2), (95, .imul, 1), (96, .istore 9, 2), (98, .aload_n 0, 1), (99, .iload_n 1, 1), (100, .iload 7, 2), (102, .iadd, 1), (103, .iload_n 3, 1), (104, .invokevirtual 249, 3), (107, .iconst 1, 1), (108, .iadd, 1), (109, .iload 4, 2), (111, .isub, 1), (112, .iload 9, 2), (114, .isub, 1), (115, .istore 10, 2), (117, .iload 10, 2), (119, .iload 5, 2), (121, .if_icmp .le 8, 3), (124, .iload 10, 2), (126, .goto 5, 3), (129, .iload 5, 2), (131, .istore 5, 2), (133, .iinc 7 1, 3), (136, .goto (-91), 3), (139, .iload 5, 2), (141, .bipush 40, 2), (143, .if_icmp .le 7, 3), (146, .iconst (-1), 1), (147, .goto 5, 3), (150, .iload 5, 2), (152, .ireturn, 1)]
theorem tbX9_height_ok : pTabOk cX9_height tbX9_height = true := by decide +kernel
def tbX9_slur : pTab := [(0, .aload_n 0, 1), (1, .iload_n 1, 1), (2, .iload_n 2, 1), (3, .invokevirtual 176, 3), (6, .ifCond .eq 15, 3), (9, .iload_n 3, 1), (10, .i2l, 1), (11, .lconst 0, 1), (12, .ldc2_w 212, 3), (15, .invokestatic 85, 3), (18, .ifCond .ne 10, 3), (21, .aload_n 0, 1), (22, .ldc 109, 2), (24, .invokevirtual 110, 3), (27, .ireturn, 1), (28, .iload_n 2, 1), (29, .iload_n 1, 1), (30, .isub, 1), (31, .iconst 2, 1), (32, .if_icmp .ge 10, 3), (35, .aload_n 0, 1), (36, .ldc 241, 2), (38, .invokevirtual 110, 3), (41, .ireturn, 1), (42, .aload_n 0, 1), (43, .iload_n 1, 1), (44, .iload_n 2, 1), (45, .iconst 0, 1), (46, .invokevirtual 252, 3), (49, .istore 4, 2), (51, .aload_n 0, 1), (52, .iload_n 1, 1), (53, .iload_n 2, 1), (54, .iconst 1, 1), (55, .invokevirtual 252, 3), (58, .istore 5, 2), (60, .iload 4, 2), (62, .ifCond .lt 19, 3), (65, .iload 5, 2), (67, .ifCond .lt 10, 3), (70, .iload 4, 2), (72, .iload 5, 2), (74, .if_icmp .gt 7, 3), (77, .iconst 0, 1), (78, .goto 4, 3), (81, .iconst 1, 1), (82, .istore 6, 2), (84, .iload_n 3, 1), (85, .iconst 2, 1), (86, .if_icmp .ne 8, 3), (89, .iload 4, 2), (91, .goto 25, 3), (94, .iload_n 3, 1), (95, .iconst 3, 1), (96, .if_icmp .ne 8, 3), (99, .iload 5, 2), (101, .goto 15, 3), (104, .iload 6, 2), (106, .ifCond .ne 8, 3), (109, .iload 4, 2), (111, .goto 5, 3), (114, .iload 5, 2), (116, .istore 7, 2), (118, .iload 7, 2), (120, .ifCond .ge 10, 3), (123, .aload_n 0, 1), (124, .ldc 119, 2), (126, .invokevirtual 110, 3), (129, .ireturn, 1), (130, .iload_n 3, 1), (131, .ifCond .ne 8, 3), (134, .iload 6, 2), (136, .goto 5, 3), (139, .iload 7, 2), (141, .ireturn, 1)]
theorem tbX9_slur_ok : pTabOk cX9_slur tbX9_slur = true := by decide +kernel
def tbX9_feed : pTab := [(0, .iload_n 1, 1), (1, .i2l, 1), (2, .lconst 0, 1), (3, .ldc2_w 255, 3), (6, .invokestatic 85, 3), (9, .ifCond .ne 10, 3), (12, .aload_n 0, 1), (13, .ldc 109, 2), (15, .invokevirtual 110, 3), (18, .ireturn, 1), (19, .aload_n 0, 1), (20, .getfield 257, 3), (23, .sipush 160, 3), (26, .if_icmp .ne 10, 3), (29, .aload_n 0, 1), (30, .ldc 114, 2), (32, .invokevirtual 110, 3), (35, .ireturn, 1), (36, .aload_n 0, 1), (37, .getfield 60, 3), (40, .aload_n 0, 1), (41, .getfield 257, 3), (44, .iload_n 1, 1), (45, .iastore, 1), (46, .aload_n 0, 1), (47, .dup, 1), (48, .getfield 257, 3), (51, .iconst 1, 1), (52, .iadd, 1), (53, .putfield 257, 3), (56, .aload_n 0, 1), (57, .getfield 257, 3), (60, .ireturn, 1)]
theorem tbX9_feed_ok : pTabOk cX9_feed tbX9_feed = true := by decide +kernel
def tbX9_takes : pTab := [(0, .aload_n 0, 1), (1, .getfield 260, 3), (4, .ifCond .eq 31, 3), (7, .aload_n 0, 1), (8, .getfield 264, 3), (11, .aload_n 0, 1), (12, .getfield 257, 3), (15, .if_icmp .ge 20, 3), (18, .aload_n 0, 1), (19, .getfield 60, 3), (22, .aload_n 0, 1), (23, .getfield 264, 3), (26, .iaload, 1), (27, .iload_n 1, 1), (28, .if_icmp .ne 7, 3), (31, .iconst 1, 1), (32, .goto 4, 3), (35, .iconst 0, 1), (36, .istore_n 2, 1), (37, .aload_n 0, 1), (38, .dup, 1), (39, .getfield 264, 3), (42, .iload_n 2, 1), (43, .ifCond .eq 7, 3), (46, .iconst 1, 1), (47, .goto 4, 3), (50, .iconst 0, 1), (51, .iadd, 1), (52, .putfield 264, 3), (55, .iload_n 2, 1), (56, .ireturn, 1)]
theorem tbX9_takes_ok : pTabOk cX9_takes tbX9_takes = true := by decide +kernel
def tbX9_isDigit : pTab := [(0, .aload_n 0, 1), (1, .getfield 264, 3), (4, .aload_n 0, 1), (5, .getfield 257, 3), (8, .if_icmp .ge 29, 3), (11, .aload_n 0, 1), (12, .getfield 60, 3), (15, .aload_n 0, 1), (16, .getfield 264, 3), (19, .iaload, 1), (20, .i2l, 1), (21, .ldc2_w 267, 3), (24, .ldc2_w 269, 3), (27, .invokestatic 85, 3), (30, .ifCond .eq 7, 3), (33, .iconst 1, 1), (34, .goto 4, 3), (37, .iconst 0, 1), (38, .ireturn, 1)]
theorem tbX9_isDigit_ok : pTabOk cX9_isDigit tbX9_isDigit = true := by decide +kernel
def tbX9_number : pTab := [(0, .aload_n 0, 1), (1, .aload_n 0, 1), (2, .getfield 260, 3), (5, .ifCond .eq 38, 3), (8, .aload_n 0, 1), (9, .invokevirtual 271, 3), (12, .ifCond .eq 31, 3), (15, .aload_n 0, 1), (16, .getfield 60, 3), (19, .aload_n 0, 1), (20, .getfield 264, 3), (23, .iaload, 1), (24, .bipush 48, 2), (26, .isub, 1), (27, .iload_n 1, 1), (28, .ifCond .le 7, 3), (31, .iconst 1, 1), (32, .goto 4, 3), (35, .iconst 0, 1), (36, .if_icmp .lt 7, 3), (39, .iconst 1, 1), (40, .goto 4, 3), (43, .iconst 0, 1), (44, .putfield 260, 3), (47, .iconst 0, 1), (48, .istore_n 3, 1), (49, .iconst 1, 1), (50, .istore 4, 2), (52, .aload_n 0, 1), (53, .getfield 260, 3), (56, .ifCond .eq 78, 3), (59, .aload_n 0, 1), (60, .invokevirtual 271, 3), (63, .ifCond .eq 71, 3), (66, .iload 4, 2), (68, .ifCond .ne 7, 3), (71, .iload_n 3, 1), (72, .ifCond .le 62, 3), (75, .bipush 10, 2), (77, .iload_n 3, 1), (78, .imul, 1), (79, .aload_n 0, 1), (80, .getfield 60, 3), (83, .aload_n 0, 1), (84, .getfield 264, 3), (87, .iaload, 1), (88, .iadd, 1), (89, .bipush 48, 2), (91, .isub, 1), (92, .istore_n 3, 1), (93, .aload_n 0, 1), (94, .iload_n 3, 1), (95, .iload_n 2, 1), (96, .if_icmp .gt 7, 3), (99, .iconst 1, 1), (100, .goto 4, 3), (103, .iconst 0, 1), (104, .putfield 260, 3), (107, .aload_n 0, 1), (108, .dup, 1), (109, .getfield 264, 3), (112, .aload_n 0, 1), (113, .getfield 260, 3), (116, .ifCond .eq 7, 3), (119, .iconst 1, 1), (120, .goto 4, 3), (123, .iconst 0, 1), (124, .iadd, 1), (125, .putfield 264, 3), (128, .iconst 0, 1), (129, .istore 4, 2), (131, .goto (-79), 3), (134, .iload_n 3, 1), (135, .ireturn, 1)]
theorem tbX9_number_ok : pTabOk cX9_number tbX9_number = true := by decide +kernel
def tbX9_sign : pTab := [(0, .iconst 5, 1), (1, .aload_n 0, 1), (2, .getfield 274, 3), (5, .imul, 1), (6, .istore_n 1, 1), (7, .aload_n 0, 1), (8, .getfield 63, 3), (11, .iload_n 1, 1), (12, .iconst 0, 1), (13, .iadd, 1), (14, .iconst 2, 1), (15, .iastore, 1), (16, .aload_n 0, 1), (17, .getfield 63, 3), (20, .iload_n 1, 1), (21, .iconst 1, 1), (22, .iadd, 1), (23, .iconst 1, 1), (24, .iastore, 1), (25, .aload_n 0, 1), (26, .getfield 63, 3), (29, .iload_n 1, 1), (30, .iconst 2, 1), (31, .iadd, 1), (32, .iconst 0, 1), (33, .iastore, 1), (34, .aload_n 0, 1), (35, .getfield 63, 3), (38, .iload_n 1, 1), (39, .iconst 3, 1), (40, .iadd, 1), (41, .iconst 2, 1), (42, .iastore, 1), (43, .aload_n 0, 1), (44, .bipush 110, 2), (46, .invokevirtual 277, 3), (49, .istore_n 2, 1), (50, .iload_n 2, 1), (51, .ifCond .ne 12, 3), (54, .aload_n 0, 1), (55, .bipush 114, 2), (57, .invokevirtual 277, 3), (60, .ifCond .eq 98, 3), (63, .aload_n 0, 1), (64, .getfield 63, 3), (67, .iload_n 1, 1), (68, .iconst 0, 1), (69, .iadd, 1), (70, .iload_n 2, 1), (71, .ifCond .eq 7, 3), (74, .iconst 0, 1), (75, .goto 4, 3), (78, .iconst 1, 1), (79, .iastore, 1), (80, .aload_n 0, 1), (81, .getfield 63, 3), (84, .iload_n 1, 1), (85, .iconst 1, 1), (86, .iadd, 1), (87, .aload_n 0, 1), (88, .iconst 1, 1), (89, .bipush 64, 2), (91, .invokevirtual 280, 3), (94, .iastore, 1), (95, .iload_n 2, 1), (96, .ifCond .eq 30, 3), (99, .aload_n 0, 1), (100, .bipush 43, 2), (102, .invokevirtual 277, 3), (105, .ifCond .eq 21, 3), (108, .aload_n 0, 1), (109, .getfield 63, 3), (112, .iload_n 1, 1), (113, .iconst 2, 1), (114, .iadd, 1), (115, .aload_n 0, 1), (116, .iconst 0, 1), (117, .bipush 20, 2), (119, .invokevirtual 280, 3), (122, .iastore, 1), (123, .goto 60, 3), (126, .iload_n 2, 1), (127, .ifCond .eq 56, 3), (130, .aload_n 0, 1), (131, .bipush 45, 2), (133, .invokevirtual 277, 3), (136, .ifCond .eq 47, 3), (139, .aload_n 0, 1), (140, .getfield 63, 3), (143, .iload_n 1, 1), (144, .iconst 2, 1), (145, .iadd, 1), (146, .aload_n 0, 1), (147, .iconst 1, 1), (148, .bipush 12, 2), (150, .invokevirtual 280, 3), (153, .ineg, 1), (154, .iastore, 1), (155, .goto 28, 3), (158, .aload_n 0, 1), (159, .aload_n 0, 1), (160, .getfield 260, 3), (163, .ifCond .eq 16, 3), (166, .aload_n 0, 1), (167, .bipush 98, 2), (169, .invokevirtual 277, 3), (172, .ifCond .eq 7, 3), (175, .iconst 1, 1), (176, .goto 4, 3), (179, .iconst 0, 1), (180, .putfield 260, 3), (183, .iconst 0, 1), (184, .istore_n 3, 1), (185, .iload_n 3, 1), (186, .bipush 9, 2), (188, .if_icmp .ge 18, 3), (191, .aload_n 0, 1), (192, .bipush 39, 2), (194, .invokevirtual 277, 3), (197, .ifCond .eq 9, 3), (200, .iinc 3 1, 3), (203, .goto (-18), 3), (206, .aload_n 0, 1), (207, .getfield 63, 3), (210, .iload_n 1, 1), (211, .iconst 4, 1), (212, .iadd, 1), (213, .iload_n 3, 1), (214, .iastore, 1), (215, .aload_n 0, 1), (216, .dup, 1), (217, .getfield 274, 3), (220, .iconst 1, 1), (221, .iadd, 1), (222, .putfield 274, 3), (225, .return_, 1)]
theorem tbX9_sign_ok : pTabOk cX9_sign tbX9_sign = true := by decide +kernel
def tbX9_music : pTab := [(0, .aload_n 0, 1), (1, .iconst 0, 1), (2, .putfield 264, 3), (5, .aload_n 0, 1), (6, .iconst 1, 1), (7, .putfield 260, 3), (10, .aload_n 0, 1), (11, .iconst 0, 1), (12, .putfield 274, 3), (15, .aload_n 0, 1), (16, .invokevirtual 283, 3), (19, .aload_n 0, 1), (20, .bipush 32, 2), (22, .invokevirtual 277, 3), (25, .ifCond .eq 10, 3), (28, .aload_n 0, 1), (29, .invokevirtual 283, 3), (32, .goto (-13), 3), (35, .aload_n 0, 1), (36, .getfield 260, 3), (39, .ifCond .eq 14, 3), (42, .aload_n 0, 1), (43, .getfield 264, 3), (46, .aload_n 0, 1), (47, .getfield 257, 3), (50, .if_icmp .ge 16, 3), (53, .aload_n 0, 1), (54, .iconst 0, 1), (55, .putfield 257, 3), (58, .bipush (-10), 2), (60, .aload_n 0, 1), (61, .getfield 264, 3), (64, .isub, 1), (65, .ireturn, 1), (66, .aload_n 0, 1), (67, .getfield 274, 3), (70, .bipush 32, 2), (72, .if_icmp .le 10, 3), (75, .aload_n 0, 1), (76, .ldc 114, 2), (78, .invokevirtual 110, 3), (81, .ireturn, 1), (82, .aload_n 0, 1), (83, .iconst 0, 1), (84, .putfield 257, 3), (87, .aload_n 0, 1), (88, .getfield 9, 3), (91, .iconst 0, 1), (92, .iconst 0, 1), (93, .iastore, 1), (94, .iconst 0, 1), (95, .istore_n 1, 1), (96, .iload_n 1, 1), (97, .aload_n 0, 1), (98, .getfield 274, 3), (101, .if_icmp .ge 53, 3), (104, .aload_n 0, 1), (105, .aload_n 0, 1), (106, .getfield 63, 3), (109, .iconst 5, 1), (110, .iload_n 1, 1), (111, .imul, 1), (112, .iaload, 1), (113, .aload_n 0, 1), (114, .getfield 63, 3), (117, .iconst 5, 1), (118, .iload_n 1, 1), (119, .imul, 1), (120, .iconst 1, 1), (121, .iadd, 1), (122, .iaload, 1), (123, .aload_n 0, 1), (124, .getfield 63, 3), (127, .iconst 5, 1), (128, .iload_n 1, 1), (129, .imul, 1), (130, .iconst 2, 1), (131, .iadd, 1), (132, .iaload, 1), (133, .iconst 2, 1), (134, .aload_n 0, 1), (135, .getfield 63, 3), (138, .iconst 5, 1), (139, .iload_n 1, 1), (140, .imul, 1), (141, .iconst 4, 1), (142, .iadd, 1), (143, .iaload, 1), (144, .invokevirtual 115, 3), (147, .istore_n 2, 1), (148, .iinc 1 1, 3), (151, .goto (-55), 3), (154, .aload_n 0, 1), (155, .getfield 274, 3), (158, .ireturn, 1)]
theorem tbX9_music_ok : pTabOk cX9_music tbX9_music = true := by decide +kernel
def tbX9_isShelf : pTab := [(0, .iload_n 0, 1), (1, .i2l, 1), (2, .lconst 0, 1), (3, .ldc2_w 89, 3), (6, .invokestatic 85, 3), (9, .ireturn, 1)]
theorem tbX9_isShelf_ok : pTabOk cX9_isShelf tbX9_isShelf = true := by decide +kernel
def tbX9_shelfAt : pTab := [(0, .sipush 162, 3), (3, .bipush 62, 2), (5, .iload_n 0, 1), (6, .imul, 1), (7, .iadd, 1), (8, .ireturn, 1)]
theorem tbX9_shelfAt_ok : pTabOk cX9_shelfAt tbX9_shelfAt = true := by decide +kernel
def tbX9_isPlace : pTab := [(0, .aload_n 0, 1), (1, .getfield 9, 3), (4, .iload_n 1, 1), (5, .invokestatic 286, 3), (8, .iaload, 1), (9, .ifCond .lt 30, 3), (12, .iload_n 2, 1), (13, .i2l, 1), (14, .lconst 0, 1), (15, .aload_n 0, 1), (16, .getfield 9, 3), (19, .iload_n 1, 1), (20, .invokestatic 286, 3), (23, .iconst 1, 1), (24, .iadd, 1), (25, .iaload, 1), (26, .iconst 1, 1), (27, .isub, 1), (28, .i2l, 1), (29, .invokestatic 85, 3), (32, .ifCond .eq 7, 3), (35, .iconst 1, 1), (36, .goto 4, 3), (39, .iconst 0, 1), (40, .ireturn, 1)]
theorem tbX9_isPlace_ok : pTabOk cX9_isPlace tbX9_isPlace = true := by decide +kernel
def tbX9_placeAt : pTab := [(0, .iload_n 0, 1), (1, .invokestatic 286, 3), (4, .iconst 2, 1), (5, .iadd, 1), (6, .iconst 5, 1), (7, .iload_n 1, 1), (8, .imul, 1), (9, .iadd, 1), (10, .ireturn, 1)]
theorem tbX9_placeAt_ok : pTabOk cX9_placeAt tbX9_placeAt = true := by decide +kernel
def tbX9_shelf : pTab := [(0, .iload_n 1, 1), (1, .invokestatic 289, 3), (4, .ifCond .eq 29, 3), (7, .iload_n 2, 1), (8, .i2l, 1), (9, .ldc2_w 292, 3), (12, .ldc2_w 89, 3), (15, .invokestatic 85, 3), (18, .ifCond .eq 15, 3), (21, .iload_n 3, 1), (22, .i2l, 1), (23, .lconst 0, 1), (24, .ldc2_w 97, 3), (27, .invokestatic 85, 3), (30, .ifCond .ne 10, 3), (33, .aload_n 0, 1), (34, .ldc 109, 2), (36, .invokevirtual 110, 3), (39, .ireturn, 1), (40, .aload_n 0, 1), (41, .getfield 9, 3), (44, .iload_n 1, 1), (45, .invokestatic 286, 3), (48, .iload_n 2, 1), (49, .iastore, 1), (50, .aload_n 0, 1), (51, .getfield 9, 3), (54, .iload_n 1, 1), (55, .invokestatic 286, 3), (58, .iconst 1, 1), (59, .iadd, 1), (60, .iload_n 2, 1), (61, .ifCond .ge 7, 3), (64, .iconst 0, 1), (65, .goto 4, 3), (68, .iload_n 3, 1), (69, .iastore, 1), (70, .iconst 0, 1), (71, .istore 4, 2), (73, .iload 4, 2), (75, .bipush 12, 2), (77, .if_icmp .ge 21, 3), (80, .aload_n 0, 1), (81, .getfield 9, 3), (84, .iload_n 1, 1), (85, .iload 4, 2), (87, .invokestatic 294, 3), (90, .iconst (-1), 1), (91, .iastore, 1), (92, .iinc 4 1, 3), (95, .goto (-22), 3), (98, .iconst 1, 1), (99, .ireturn, 1)]
theorem tbX9_shelf_ok : pTabOk cX9_shelf tbX9_shelf = true := by decide +kernel
def tbX9_store : pTab := [(0, .iload_n 1, 1), (1, .invokestatic 289, 3), (4, .ifCond .eq 11, 3), (7, .aload_n 0, 1), (8, .iload_n 3, 1), (9, .invokevirtual 120, 3), (12, .ifCond .ne 10, 3), (15, .aload_n 0, 1), (16, .ldc 109, 2), (18, .invokevirtual 110, 3), (21, .ireturn, 1), (22, .aload_n 0, 1), (23, .iload_n 1, 1), (24, .iload_n 2, 1), (25, .invokevirtual 297, 3), (28, .ifCond .ne 11, 3), (31, .aload_n 0, 1), (32, .ldc_w 300, 3), (35, .invokevirtual 110, 3), (38, .ireturn, 1), (39, .aload_n 0, 1), (40, .getfield 9, 3), (43, .iload_n 1, 1), (44, .invokestatic 286, 3), (47, .iaload, 1), (48, .aload_n 0, 1), (49, .iload_n 3, 1), (50, .iconst 0, 1), (51, .invokevirtual 124, 3), (54, .if_icmp .eq 10, 3), (57, .aload_n 0, 1), (58, .ldc 245, 2), (60, .invokevirtual 110, 3), (63, .ireturn, 1), (64, .iconst 0, 1), (65, .istore 4, 2), (67, .iload 4, 2), (69, .iconst 5, 1), (70, .if_icmp .ge 29, 3), (73, .aload_n 0, 1), (74, .getfield 9, 3), (77, .iload_n 1, 1), (78, .iload_n 2, 1), (79, .invokestatic 294, 3), (82, .iload 4, 2), (84, .iadd, 1), (85, .aload_n 0, 1), (86, .iload_n 3, 1), (87, .iload 4, 2), (89, .invokevirtual 124, 3), (92, .iastore, 1), (93, .iinc 4 1, 3), (96, .goto (-29), 3), (99, .iconst 1, 1), (100, .ireturn, 1)]
theorem tbX9_store_ok : pTabOk cX9_store tbX9_store = true := by decide +kernel
def tbX9_fetch : pTab := [(0, .iload_n 1, 1), (1, .invokestatic 289, 3), (4, .ifCond .eq 15, 3), (7, .iload_n 3, 1), (8, .i2l, 1), (9, .lconst 0, 1), (10, .ldc2_w 212, 3), (13, .invokestatic 85, 3), (16, .ifCond .ne 10, 3), (19, .aload_n 0, 1), (20, .ldc 109, 2), (22, .invokevirtual 110, 3), (25, .ireturn, 1), (26, .aload_n 0, 1), (27, .iload_n 1, 1), (28, .iload_n 2, 1), (29, .invokevirtual 297, 3), (32, .ifCond .ne 11, 3), (35, .aload_n 0, 1), (36, .ldc_w 300, 3), (39, .invokevirtual 110, 3), (42, .ireturn, 1), (43, .iload_n 1, 1), (44, .iload_n 2, 1), (45, .invokestatic 294, 3), (48, .istore 4, 2), (50, .aload_n 0, 1), (51, .getfield 9, 3), (54, .iload 4, 2), (56, .iaload, 1), (57, .ifCond .ge 10, 3), (60, .aload_n 0, 1), (61, .ldc 119, 2), (63, .invokevirtual 110, 3), (66, .ireturn, 1), (67, .iload_n 3, 1), (68, .iconst 3, 1), (69, .if_icmp .ge 15, 3), (72, .aload_n 0, 1), (73, .getfield 9, 3), (76, .iload 4, 2), (78, .iload_n 3, 1), (79, .iadd, 1), (80, .iaload, 1), (81, .goto 31, 3), (84, .aload_n 0, 1), (85, .getfield 9, 3), (88, .iload 4, 2), (90, .iaload, 1), (91, .aload_n 0, 1), (92, .getfield 9, 3), (95, .iload 4, 2), (97, .iconst 2, 1), (98, .iadd, 1), (99, .iaload, 1), (100, .aload_n 0, 1), (101, .getfield 9, 3), (104, .iload 4, 2), (106, .iconst 4, 1), (107, .iadd, 1), (108, .iaload, 1), (109, .invokestatic 128, 3), (112, .ireturn, 1)]
theorem tbX9_fetch_ok : pTabOk cX9_fetch tbX9_fetch = true := by decide +kernel
def tbX9_comes_ : pTab := [(0, .iload_n 1, 1), (1, .invokestatic 289, 3), (4, .ifCond .ne 10, 3), (7, .aload_n 0, 1), (8, .ldc 109, 2), (10, .invokevirtual 110, 3), (13, .ireturn, 1), (14, .aload_n 0, 1), (15, .iload_n 1, 1), (16, .iload_n 2, 1), (17, .invokevirtual 297, 3), (20, .ifCond .ne 11, 3), (23, .aload_n 0, 1), (24, .ldc_w 300, 3), (27, .invokevirtual 110, 3), (30, .ireturn, 1), (31, .iload_n 1, 1), (32, .iload_n 2, 1), (33, .invokestatic 294, 3), (36, .istore_n 3, 1), (37, .aload_n 0, 1), (38, .getfield 9, 3), (41, .iload_n 3, 1), (42, .iaload, 1), (43, .ifCond .ge 10, 3), (46, .aload_n 0, 1), (47, .ldc 119, 2), (49, .invokevirtual 110, 3), (52, .ireturn, 1), (53, .aload_n 0, 1), (54, .getfield 9, 3), (57, .iconst 0, 1), (58, .iaload, 1), (59, .bipush 32, 2), (61, .if_icmp .ne 12, 3), (64, .aload_n 0, 1), (65, .ldc 114, 2), (67, .invokevirtual 110, 3), (70, .goto 45, 3), (73, .aload_n 0, 1), (74, .aload_n 0, 1), (75, .getfield 9, 3), (78, .iload_n 3, 1), (79, .iaload, 1), (80, .aload_n 0, 1), (81, .getfield 9, 3), (84, .iload_n 3, 1), (85, .iconst 1, 1), (86, .iadd, 1), (87, .iaload, 1), (88, .aload_n 0, 1), (89, .getfield 9, 3), (92, .iload_n 3, 1), (93, .iconst 2, 1), (94, .iadd, 1), (95, .iaload, 1), (96, .aload_n 0, 1), (97, .getfield 9, 3), (100, .iload_n 3, 1), (101, .iconst 3, 1), (102, .iadd, 1), (103, .iaload, 1), (104, .aload_n 0, 1), (105, .getfield 9, 3), (108, .iload_n 3, 1), (109, .iconst 4, 1), (110, .iadd, 1), (111, .iaload, 1), (112, .invokevirtual 115, 3), (115, .ireturn, 1)]
theorem tbX9_comes__ok : pTabOk cX9_comes_ tbX9_comes_ = true := by decide +kernel
def tbX9_isSheet : pTab := [(0, .iload_n 0, 1), (1, .i2l, 1), (2, .lconst 0, 1), (3, .ldc2_w 212, 3), (6, .invokestatic 85, 3), (9, .ireturn, 1)]
theorem tbX9_isSheet_ok : pTabOk cX9_isSheet tbX9_isSheet = true := by decide +kernel
def tbX9_sheet : pTab := [(0, .iload_n 1, 1), (1, .invokestatic 301, 3), (4, .ifCond .eq 17, 3), (7, .iload_n 2, 1), (8, .i2l, 1), (9, .ldc2_w 292, 3), (12, .ldc2_w 212, 3), (15, .invokestatic 85, 3), (18, .ifCond .ne 10, 3), (21, .aload_n 0, 1), (22, .ldc 109, 2), (24, .invokevirtual 110, 3), (27, .ireturn, 1), (28, .iload_n 2, 1), (29, .ifCond .lt 14, 3), (32, .iload_n 3, 1), (33, .ifCond .ge 10, 3), (36, .aload_n 0, 1), (37, .ldc 241, 2), (39, .invokevirtual 110, 3), (42, .ireturn, 1), (43, .iload_n 2, 1), (44, .ifCond .lt 16, 3), (47, .iload_n 3, 1), (48, .bipush 40, 2), (50, .if_icmp .le 10, 3), (53, .aload_n 0, 1), (54, .ldc 109, 2), (56, .invokevirtual 110, 3), (59, .ireturn, 1), (60, .aload_n 0, 1), (61, .getfield 66, 3), (64, .iload_n 1, 1), (65, .iload_n 2, 1), (66, .iastore, 1), (67, .aload_n 0, 1), (68, .getfield 69, 3), (71, .iload_n 1, 1), (72, .iload_n 2, 1), (73, .ifCond .ge 7, 3), (76, .iconst 0, 1), (77, .goto 4, 3), (80, .iload_n 3, 1), (81, .iastore, 1), (82, .bipush 40, 2), (84, .iload_n 1, 1), (85, .imul, 1), (86, .istore 4, 2), (88, .iload 4, 2), (90, .bipush 40, 2), (92, .iload_n 1, 1), (93, .imul, 1), (94, .bipush 40, 2), (96, .iadd, 1), (97, .if_icmp .ge 33, 3), (100, .aload_n 0, 1), (101, .getfield 72, 3), (104, .iload 4, 2), (106, .fconst 0, 1), (107, .fastore, 1), (108, .aload_n 0, 1), (109, .getfield 75, 3), (112, .iload 4, 2), (114, .dconst 0, 1), (115, .dastore, 1), (116, .aload_n 0, 1), (117, .getfield 79, 3), (120, .iload 4, 2), (122, .iconst 0, 1), (123, .iastore, 1), (124, .iinc 4 1, 3), (127, .goto (-39), 3), (130, .iconst 1, 1), (131, .ireturn, 1)]
theorem tbX9_sheet_ok : pTabOk cX9_sheet tbX9_sheet = true := by decide +kernel
def tbX9_isItem : pTab := [(0, .aload_n 0, 1), (1, .getfield 66, 3), (4, .iload_n 1, 1), (5, .iaload, 1), (6, .ifCond .lt 25, 3), (9, .iload_n 2, 1), (10, .i2l, 1), (11, .lconst 0, 1), (12, .aload_n 0, 1), (13, .getfield 69, 3), (16, .iload_n 1, 1), (17, .iaload, 1), (18, .iconst 1, 1), (19, .isub, 1), (20, .i2l, 1), (21, .invokestatic 85, 3), (24, .ifCond .eq 7, 3), (27, .iconst 1, 1), (28, .goto 4, 3), (31, .iconst 0, 1), (32, .ireturn, 1)]
theorem tbX9_isItem_ok : pTabOk cX9_isItem tbX9_isItem = true := by decide +kernel
def tbX9_narrow : pTab := [(0, .iload_n 0, 1), (1, .iconst 2, 1), (2, .if_icmp .ne 8, 3), (5, .iload_n 1, 1), (6, .i2s, 1), (7, .goto 4, 3), (10, .iload_n 1, 1), (11, .ireturn, 1)]
theorem tbX9_narrow_ok : pTabOk cX9_narrow tbX9_narrow = true := by decide +kernel
def tbX9_put : pTab := [(0, .iload_n 1, 1), (1, .invokestatic 301, 3), (4, .ifCond .eq 16, 3), (7, .iload 5, 2), (9, .i2l, 1), (10, .lconst 0, 1), (11, .ldc2_w 95, 3), (14, .invokestatic 85, 3), (17, .ifCond .ne 10, 3), (20, .aload_n 0, 1), (21, .ldc 109, 2), (23, .invokevirtual 110, 3), (26, .ireturn, 1), (27, .aload_n 0, 1), (28, .iload_n 1, 1), (29, .iload_n 2, 1), (30, .invokevirtual 304, 3), (33, .ifCond .ne 11, 3), (36, .aload_n 0, 1), (37, .ldc_w 300, 3), (40, .invokevirtual 110, 3), (43, .ireturn, 1), (44, .bipush 40, 2), (46, .iload_n 1, 1), (47, .imul, 1), (48, .iload_n 2, 1), (49, .iadd, 1), (50, .istore 6, 2), (52, .aload_n 0, 1), (53, .getfield 66, 3), (56, .iload_n 1, 1), (57, .iaload, 1), (58, .ifCond .ne 25, 3), (61, .lload_n 3, 1), (62, .l2f, 1), (63, .fstore 7, 2), (65, .aload_n 0, 1), (66, .getfield 72, 3), (69, .iload 6, 2), (71, .fload 7, 2), (73, .iconst 1, 1), (74, .iload 5, 2), (76, .ishl, 1), (77, .i2f, 1), (78, .fdiv, 1), (79, .fastore, 1), (80, .goto 53, 3), (83, .aload_n 0, 1), (84, .getfield 66, 3), (87, .iload_n 1, 1), (88, .iaload, 1), (89, .iconst 1, 1), (90, .if_icmp .ne 25, 3), (93, .lload_n 3, 1), (94, .l2d, 1), (95, .dstore 7, 2), (97, .aload_n 0, 1), (98, .getfield 75, 3), (101, .iload 6, 2), (103, .dload 7, 2), (105, .iconst 1, 1), (106, .iload 5, 2), (108, .ishl, 1), (109, .i2d, 1), (110, .ddiv, 1), (111, .dastore, 1), (112, .goto 21, 3), (115, .aload_n 0, 1), (116, .getfield 79, 3), (119, .iload 6, 2), (121, .aload_n 0, 1), (122, .getfield 66, 3), (125, .iload_n 1, 1), (126, .iaload, 1), (127, .lload_n 3, 1), (128, .l2i, 1), (129, .invokestatic 307, 3), (132, .iastore, 1), (133, .iconst 1, 1), (134, .ireturn, 1)]
theorem tbX9_put_ok : pTabOk cX9_put tbX9_put = true := by decide +kernel
def tbX9_bits : pTab := [(0, .iload_n 1, 1), (1, .invokestatic 301, 3), (4, .ifCond .ne 10, 3), (7, .aload_n 0, 1), (8, .ldc 109, 2), (10, .invokevirtual 310, 3), (13, .lreturn, 1), (14, .aload_n 0, 1), (15, .iload_n 1, 1), (16, .iload_n 2, 1), (17, .invokevirtual 304, 3), (20, .ifCond .ne 11, 3), (23, .aload_n 0, 1), (24, .ldc_w 300, 3), (27, .invokevirtual 310, 3), (30, .lreturn, 1), (31, .bipush 40, 2), (33, .iload_n 1, 1), (34, .imul, 1), (35, .iload_n 2, 1), (36, .iadd, 1), (37, .istore_n 3, 1), (38, .aload_n 0, 1), (39, .getfield 66, 3), (42, .iload_n 1, 1), (43, .iaload, 1), (44, .ifCond .ne 16, 3), (47, .aload_n 0, 1), (48, .getfield 72, 3), (51, .iload_n 3, 1), (52, .faload, 1), (53, .invokestatic 153, 3), (56, .i2l, 1), (57, .goto 32, 3), (60, .aload_n 0, 1), (61, .getfield 66, 3), (64, .iload_n 1, 1), (65, .iaload, 1), (66, .iconst 1, 1), (67, .if_icmp .ne 15, 3), (70, .aload_n 0, 1), (71, .getfield 75, 3), (74, .iload_n 3, 1), (75, .daload, 1), (76, .invokestatic 314, 3), (79, .goto 10, 3), (82, .aload_n 0, 1), (83, .getfield 79, 3), (86, .iload_n 3, 1), (87, .iaload, 1), (88, .i2l, 1), (89, .lreturn, 1)]
theorem tbX9_bits_ok : pTabOk cX9_bits tbX9_bits = true := by decide +kernel
def tbX9_cast : pTab := [(0, .iload_n 1, 1), (1, .invokestatic 301, 3), (4, .ifCond .ne 10, 3), (7, .aload_n 0, 1), (8, .ldc 109, 2), (10, .invokevirtual 110, 3), (13, .ireturn, 1), (14, .aload_n 0, 1), (15, .iload_n 1, 1), (16, .iload_n 2, 1), (17, .invokevirtual 304, 3), (20, .ifCond .ne 11, 3), (23, .aload_n 0, 1), (24, .ldc_w 300, 3), (27, .invokevirtual 110, 3), (30, .ireturn, 1), (31, .bipush 40, 2), (33, .iload_n 1, 1), (34, .imul, 1), (35, .iload_n 2, 1), (36, .iadd, 1), (37, .istore_n 3, 1), (38, .aload_n 0, 1), (39, .getfield 66, 3), (42, .iload_n 1, 1), (43, .iaload, 1), (44, .ifCond .ne 13, 3), (47, .aload_n 0, 1), (48, .getfield 72, 3), (51, .iload_n 3, 1), (52, .faload, 1), (53, .f2i, 1), (54, .goto 29, 3), (57, .aload_n 0, 1), (58, .getfield 66, 3), (61, .iload_n 1, 1), (62, .iaload, 1), (63, .iconst 1, 1), (64, .if_icmp .ne 13, 3), (67, .aload_n 0, 1), (68, .getfield 75, 3), (71, .iload_n 3, 1), (72, .daload, 1), (73, .d2i, 1), (74, .goto 9, 3), (77, .aload_n 0, 1), (78, .getfield 79, 3), (81, .iload_n 3, 1), (82, .iaload, 1), (83, .ireturn, 1)]
theorem tbX9_cast_ok : pTabOk cX9_cast tbX9_cast = true := by decide +kernel
def tbX9_isNought : pTab := [(0, .aload_n 0, 1), (1, .getfield 66, 3), (4, .iload_n 1, 1), (5, .iaload, 1), (6, .ifCond .ne 22, 3), (9, .aload_n 0, 1), (10, .getfield 72, 3), (13, .iload_n 2, 1), (14, .faload, 1), (15, .fconst 0, 1), (16, .fcmp .l, 1), (17, .ifCond .ne 7, 3), (20, .iconst 1, 1), (21, .goto 50, 3), (24, .iconst 0, 1), (25, .goto 46, 3), (28, .aload_n 0, 1), (29, .getfield 66, 3), (32, .iload_n 1, 1), (33, .iaload, 1), (34, .iconst 1, 1), (35, .if_icmp .ne 22, 3), (38, .aload_n 0, 1), (39, .getfield 75, 3), (42, .iload_n 2, 1), (43, .daload, 1), (44, .dconst 0, 1), (45, .dcmp .l, 1), (46, .ifCond .ne 7, 3), (49, .iconst 1, 1), (50, .goto 21, 3), (53, .iconst 0, 1), (54, .goto 17, 3), (57, .aload_n 0, 1), (58, .getfield 79, 3), (61, .iload_n 2, 1), (62, .iaload, 1), (63, .ifCond .ne 7, 3), (66, .iconst 1, 1), (67, .goto 4, 3), (70, .iconst 0, 1), (71, .ireturn, 1)]
theorem tbX9_isNought_ok : pTabOk cX9_isNought tbX9_isNought = true := by decide +kernel
def tbX9_rest : pTab := [(0, .iload_n 1, 1), (1, .invokestatic 301, 3), (4, .ifCond .ne 10, 3), (7, .aload_n 0, 1), (8, .ldc 109, 2), (10, .invokevirtual 110, 3), (13, .ireturn, 1), (14, .aload_n 0, 1), (15, .iload_n 1, 1), (16, .iload_n 2, 1), (17, .invokevirtual 304, 3), (20, .ifCond .eq 12, 3), (23, .aload_n 0, 1), (24, .iload_n 1, 1), (25, .iload_n 3, 1), (26, .invokevirtual 304, 3), (29, .ifCond .ne 11, 3), (32, .aload_n 0, 1), (33, .ldc_w 300, 3), (36, .invokevirtual 110, 3), (39, .ireturn, 1), (40, .bipush 40, 2), (42, .iload_n 1, 1), (43, .imul, 1), (44, .iload_n 2, 1), (45, .iadd, 1), (46, .istore 4, 2), (48, .bipush 40, 2), (50, .iload_n 1, 1), (51, .imul, 1), (52, .iload_n 3, 1), (53, .iadd, 1), (54, .istore 5, 2), (56, .aload_n 0, 1), (57, .iload_n 1, 1), (58, .iload 5, 2), (60, .invokevirtual 320, 3), (63, .ifCond .eq 11, 3), (66, .aload_n 0, 1), (67, .ldc_w 323, 3), (70, .invokevirtual 110, 3), (73, .ireturn, 1), (74, .aload_n 0, 1), (75, .getfield 66, 3), (78, .iload_n 1, 1), (79, .iaload, 1), (80, .ifCond .ne 28, 3), (83, .aload_n 0, 1), (84, .getfield 72, 3), (87, .iload 4, 2), (89, .aload_n 0, 1), (90, .getfield 72, 3), (93, .iload 4, 2), (95, .faload, 1), (96, .aload_n 0, 1), (97, .getfield 72, 3), (100, .iload 5, 2), (102, .faload, 1), (103, .frem, 1), (104, .fastore, 1), (105, .goto 60, 3), (108, .aload_n 0, 1), (109, .getfield 66, 3), (112, .iload_n 1, 1), (113, .iaload, 1), (114, .iconst 1, 1), (115, .if_icmp .ne 28, 3), (118, .aload_n 0, 1), (119, .getfield 75, 3), (122, .iload 4, 2), (124, .aload_n 0, 1), (125, .getfield 75, 3), (128, .iload 4, 2), (130, .daload, 1), (131, .aload_n 0, 1), (132, .getfield 75, 3), (135, .iload 5, 2), (137, .daload, 1), (138, .drem, 1), (139, .dastore, 1), (140, .goto 25, 3), (143, .aload_n 0, 1), (144, .getfield 79, 3), (147, .iload 4, 2), (149, .aload_n 0, 1), (150, .getfield 79, 3), (153, .iload 4, 2), (155, .iaload, 1), (156, .aload_n 0, 1), (157, .getfield 79, 3), (160, .iload 5, 2), (162, .iaload, 1), (163, .irem, 1), (164, .iastore, 1), (165, .iconst 1, 1), (166, .ireturn, 1)]
theorem tbX9_rest_ok : pTabOk cX9_rest tbX9_rest = true := by decide +kernel
def tbX9_lays : pTab := [(0, .iload_n 1, 1), (1, .invokestatic 301, 3), (4, .ifCond .eq 12, 3), (7, .aload_n 0, 1), (8, .iload_n 2, 1), (9, .iload_n 3, 1), (10, .invokevirtual 176, 3), (13, .ifCond .ne 10, 3), (16, .aload_n 0, 1), (17, .ldc 109, 2), (19, .invokevirtual 110, 3), (22, .ireturn, 1), (23, .aload_n 0, 1), (24, .getfield 66, 3), (27, .iload_n 1, 1), (28, .iaload, 1), (29, .ifCond .ge 11, 3), (32, .aload_n 0, 1), (33, .ldc_w 300, 3), (36, .invokevirtual 110, 3), (39, .ireturn, 1), (40, .aload_n 0, 1), (41, .iload_n 2, 1), (42, .iload_n 3, 1), (43, .invokevirtual 179, 3), (46, .iconst 0, 1), (47, .istore 4, 2), (49, .iload 4, 2), (51, .aload_n 0, 1), (52, .getfield 69, 3), (55, .iload_n 1, 1), (56, .iaload, 1), (57, .if_icmp .ge 110, 3), (60, .iload_n 2, 1), (61, .iload 4, 2), (63, .iadd, 1), (64, .iload_n 3, 1), (65, .if_icmp .gt 102, 3), (68, .bipush 40, 2), (70, .iload_n 1, 1), (71, .imul, 1), (72, .iload 4, 2), (74, .iadd, 1), (75, .istore 5, 2), (77, .aload_n 0, 1), (78, .getfield 66, 3), (81, .iload_n 1, 1), (82, .iaload, 1), (83, .ifCond .ne 22, 3), (86, .aload_n 0, 1), (87, .getfield 72, 3), (90, .iload 5, 2), (92, .aload_n 0, 1), (93, .getfield 27, 3), (96, .iload_n 2, 1), (97, .iload 4, 2), (99, .iadd, 1), (100, .faload, 1), (101, .fastore, 1), (102, .goto 59, 3), (105, .aload_n 0, 1), (106, .getfield 66, 3), (109, .iload_n 1, 1), (110, .iaload, 1), (111, .iconst 1, 1), (112, .if_icmp .ne 23, 3), (115, .aload_n 0, 1), (116, .getfield 75, 3), (119, .iload 5, 2), (121, .aload_n 0, 1), (122, .getfield 27, 3), (125, .iload_n 2, 1), (126, .iload 4, 2), (128, .iadd, 1), (129, .faload, 1), (130, .f2d, 1), (131, .dastore, 1), (132, .goto 29, 3), (135, .aload_n 0, 1), (136, .getfield 79, 3), (139, .iload 5, 2), (141, .aload_n 0, 1), (142, .getfield 66, 3), (145, .iload_n 1, 1), (146, .iaload, 1), (147, .aload_n 0, 1), (148, .getfield 27, 3), (151, .iload_n 2, 1), (152, .iload 4, 2), (154, .iadd, 1), (155, .faload, 1), (156, .f2i, 1), (157, .invokestatic 307, 3), (160, .iastore, 1), (161, .iinc 4 1, 3), (164, .goto (-115), 3), (167, .iload 4, 2), (169, .ireturn, 1)]
theorem tbX9_lays_ok : pTabOk cX9_lays tbX9_lays = true := by decide +kernel
def tbX9_image : pTab := [(0, .aload_n 0, 1), (1, .getfield 9, 3), (4, .aload_n 0, 1), (5, .getfield 13, 3), (8, .invokestatic 324, 3), (11, .aload_n 0, 1), (12, .iconst 1, 1), (13, .putfield 328, 3), (16, .aload_n 0, 1), (17, .getfield 9, 3), (20, .iconst 0, 1), (21, .iaload, 1), (22, .ireturn, 1)]
theorem tbX9_image_ok : pTabOk cX9_image tbX9_image = true := by decide +kernel
def tbX9_restore : pTab := [(0, .aload_n 0, 1), (1, .getfield 328, 3), (4, .ifCond .ne 10, 3), (7, .aload_n 0, 1), (8, .ldc 119, 2), (10, .invokevirtual 110, 3), (13, .ireturn, 1), (14, .aload_n 0, 1), (15, .getfield 13, 3), (18, .aload_n 0, 1), (19, .getfield 9, 3), (22, .invokestatic 324, 3), (25, .aload_n 0, 1), (26, .getfield 9, 3), (29, .iconst 0, 1), (30, .iaload, 1), (31, .ireturn, 1)]
theorem tbX9_restore_ok : pTabOk cX9_restore tbX9_restore = true := by decide +kernel
def tbX9_notes : pTab := [(0, .iconst 0, 1), (1, .istore_n 1, 1), (2, .iconst 0, 1), (3, .istore_n 2, 1), (4, .iload_n 2, 1), (5, .aload_n 0, 1), (6, .getfield 9, 3), (9, .iconst 0, 1), (10, .iaload, 1), (11, .if_icmp .ge 26, 3), (14, .iload_n 1, 1), (15, .aload_n 0, 1), (16, .iload_n 2, 1), (17, .iconst 0, 1), (18, .invokevirtual 124, 3), (21, .ifCond .ne 7, 3), (24, .iconst 1, 1), (25, .goto 4, 3), (28, .iconst 0, 1), (29, .iadd, 1), (30, .istore_n 1, 1), (31, .iinc 2 1, 3), (34, .goto (-30), 3), (37, .iload_n 1, 1), (38, .ireturn, 1)]
theorem tbX9_notes_ok : pTabOk cX9_notes tbX9_notes = true := by decide +kernel
def tbX9_durations : pTab := [(0, .iconst 0, 1), (1, .istore_n 1, 1), (2, .iconst 0, 1), (3, .istore_n 2, 1), (4, .iload_n 2, 1), (5, .aload_n 0, 1), (6, .getfield 9, 3), (9, .iconst 0, 1), (10, .iaload, 1), (11, .if_icmp .ge 32, 3), (14, .iload_n 1, 1), (15, .aload_n 0, 1), (16, .iload_n 2, 1), (17, .iconst 0, 1), (18, .invokevirtual 124, 3), (21, .iconst 2, 1), (22, .if_icmp .ne 7, 3), (25, .iconst 0, 1), (26, .goto 9, 3), (29, .aload_n 0, 1), (30, .iload_n 2, 1), (31, .iconst 1, 1), (32, .invokevirtual 124, 3), (35, .iadd, 1), (36, .istore_n 1, 1), (37, .iinc 2 1, 3), (40, .goto (-36), 3), (43, .iload_n 1, 1), (44, .ireturn, 1)]
theorem tbX9_durations_ok : pTabOk cX9_durations tbX9_durations = true := by decide +kernel
def tbX9_shelved : pTab := [(0, .iconst 0, 1), (1, .istore_n 1, 1), (2, .iconst 0, 1), (3, .istore_n 2, 1), (4, .iload_n 2, 1), (5, .iconst 3, 1), (6, .if_icmp .ge 53, 3), (9, .iconst 0, 1), (10, .istore_n 3, 1), (11, .iload_n 3, 1), (12, .bipush 12, 2), (14, .if_icmp .ge 39, 3), (17, .iload_n 1, 1), (18, .aload_n 0, 1), (19, .iload_n 2, 1), (20, .iload_n 3, 1), (21, .invokevirtual 297, 3), (24, .ifCond .eq 20, 3), (27, .aload_n 0, 1), (28, .getfield 9, 3), (31, .iload_n 2, 1), (32, .iload_n 3, 1), (33, .invokestatic 294, 3), (36, .iaload, 1), (37, .ifCond .lt 7, 3), (40, .iconst 1, 1), (41, .goto 4, 3), (44, .iconst 0, 1), (45, .iadd, 1), (46, .istore_n 1, 1), (47, .iinc 3 1, 3), (50, .goto (-39), 3), (53, .iinc 2 1, 3), (56, .goto (-52), 3), (59, .iload_n 1, 1), (60, .ireturn, 1)]
theorem tbX9_shelved_ok : pTabOk cX9_shelved tbX9_shelved = true := by decide +kernel
def tbX9_count : pTab := [(0, .iload_n 1, 1), (1, .tableswitch 73 0 5 #[39, 46, 53, 58, 63, 68], 39), (40, .aload_n 0, 1), (41, .getfield 9, 3), (44, .iconst 0, 1), (45, .iaload, 1), (46, .ireturn, 1), (47, .aload_n 0, 1), (48, .getfield 9, 3), (51, .iconst 1, 1), (52, .iaload, 1), (53, .ireturn, 1), (54, .aload_n 0, 1), (55, .getfield 257, 3), (58, .ireturn, 1), (59, .aload_n 0, 1), (60, .invokevirtual 331, 3), (63, .ireturn, 1), (64, .aload_n 0, 1), (65, .invokevirtual 335, 3), (68, .ireturn, 1), (69, .aload_n 0, 1), (70, .invokevirtual 338, 3), (73, .ireturn, 1), (74, .aload_n 0, 1), (75, .ldc 109, 2), (77, .invokevirtual 110, 3), (80, .ireturn, 1)]
theorem tbX9_count_ok : pTabOk cX9_count tbX9_count = true := by decide +kernel
def tbX9_told : pTab := [(0, .iload_n 1, 1), (1, .i2l, 1), (2, .lconst 1, 1), (3, .ldc2_w 341, 3), (6, .invokestatic 85, 3), (9, .ifCond .eq 12, 3), (12, .aload_n 0, 1), (13, .getfield 16, 3), (16, .iload_n 1, 1), (17, .iaload, 1), (18, .goto 9, 3), (21, .aload_n 0, 1), (22, .ldc 109, 2), (24, .invokevirtual 110, 3), (27, .ireturn, 1)]
theorem tbX9_told_ok : pTabOk cX9_told tbX9_told = true := by decide +kernel
def tbJxe99ae_isNaN_b9ae7 : pTab := [(0, .dload_n 0, 1), (1, .dload_n 0, 1), (2, .dcmp .l, 1), (3, .ifCond .eq 7, 3), (6, .iconst 1, 1), (7, .goto 4, 3), (10, .iconst 0, 1), (11, .ireturn, 1)]
theorem tbJxe99ae_isNaN_b9ae7_ok : pTabOk cJxe99ae_isNaN_b9ae7 tbJxe99ae_isNaN_b9ae7 = true := by decide +kernel
def tbJxe99ae_doubleToLongBits_ccdee : pTab := [(0, .dload_n 0, 1), (1, .invokestatic 122, 3), (4, .ifCond .ne 8, 3), (7, .dload_n 0, 1), (8, .invokestatic 134, 3), (11, .lreturn, 1), (12, .ldc2_w 137, 3), (15, .lreturn, 1)]
theorem tbJxe99ae_doubleToLongBits_ccdee_ok : pTabOk cJxe99ae_doubleToLongBits_ccdee tbJxe99ae_doubleToLongBits_ccdee = true := by decide +kernel
def tbJxf58ca_isNaN_12338 : pTab := [(0, .fload_n 0, 1), (1, .fload_n 0, 1), (2, .fcmp .l, 1), (3, .ifCond .eq 7, 3), (6, .iconst 1, 1), (7, .goto 4, 3), (10, .iconst 0, 1), (11, .ireturn, 1)]
theorem tbJxf58ca_isNaN_12338_ok : pTabOk cJxf58ca_isNaN_12338 tbJxf58ca_isNaN_12338 = true := by decide +kernel
def tbJxf58ca_floatToIntBits_5c35a : pTab := [(0, .fload_n 0, 1), (1, .invokestatic 59, 3), (4, .ifCond .ne 8, 3), (7, .fload_n 0, 1), (8, .invokestatic 74, 3), (11, .ireturn, 1), (12, .ldc 77, 2), (14, .ireturn, 1)]
theorem tbJxf58ca_floatToIntBits_5c35a_ok : pTabOk cJxf58ca_floatToIntBits_5c35a tbJxf58ca_floatToIntBits_5c35a = true := by decide +kernel
def tbJ9_max_7cf53 : pTab := [(0, .iload_n 0, 1), (1, .iload_n 1, 1), (2, .if_icmp .lt 7, 3), (5, .iload_n 0, 1), (6, .goto 4, 3), (9, .iload_n 1, 1), (10, .ireturn, 1)]
theorem tbJ9_max_7cf53_ok : pTabOk cJ9_max_7cf53 tbJ9_max_7cf53 = true := by decide +kernel
def tbJ9_min_7cf53 : pTab := [(0, .iload_n 0, 1), (1, .iload_n 1, 1), (2, .if_icmp .gt 7, 3), (5, .iload_n 0, 1), (6, .goto 4, 3), (9, .iload_n 1, 1), (10, .ireturn, 1)]
theorem tbJ9_min_7cf53_ok : pTabOk cJ9_min_7cf53 tbJ9_min_7cf53 = true := by decide +kernel
end
section
def tbL_law_0 : pTab := [(0, .new 7, 3), (3, .dup, 1), (4, .invokespecial 9, 3), (7, .astore_n 1, 1), (8, .new 10, 3), (11, .dup, 1), (12, .invokespecial 12, 3), (15, .astore_n 2, 1), (16, .iconst 0, 1), (17, .istore_n 3, 1), (18, .iload_n 3, 1), (19, .aload_n 0, 1), (20, .arraylength, 1), (21, .bipush 6, 2), (23, .isub, 1), (24, .if_icmp .gt 1339, 3), (27, .aload_n 0, 1), (28, .iload_n 3, 1), (29, .iaload, 1), (30, .bipush 63, 2), (32, .iand, 1), (33, .tableswitch 1324 0 33 #[151, 184, 197, 240, 273, 306, 329, 362, 395, 448, 481, 534, 587, 600, 633, 646, 689, 732, 775, 798, 811, 854, 897, 940, 973, 1016, 1099, 1133, 1166, 1209, 1252, 1265, 1278, 1301], 151), (184, .aload_n 1, 1), (185, .aload_n 0, 1), (186, .iload_n 3, 1), (187, .iconst 1, 1), (188, .iadd, 1), (189, .iaload, 1), (190, .aload_n 0, 1), (191, .iload_n 3, 1), (192, .iconst 2, 1), (193, .iadd, 1), (194, .iaload, 1), (195, .invokevirtual 13, 3), (198, .aload_n 2, 1), (199, .aload_n 0, 1), (200, .iload_n 3, 1), (201, .iconst 1, 1), (202, .iadd, 1), (203, .iaload, 1), (204, .aload_n 0, 1), (205, .iload_n 3, 1), (206, .iconst 2, 1), (207, .iadd, 1), (208, .iaload, 1), (209, .invokevirtual 17, 3), (212, .if_icmp .eq 1145, 3), (215, .iconst 0, 1), (216, .ireturn, 1), (217, .aload_n 1, 1)]
theorem tbL_law_0_ok : pTabOk cL_law tbL_law_0 = true := by decide +kernel
def tbL_law_1 : pTab := [(218, .invokevirtual 18, 3), (221, .aload_n 2, 1), (222, .invokevirtual 22, 3), (225, .if_icmp .eq 1132, 3), (228, .iconst 0, 1), (229, .ireturn, 1), (230, .aload_n 1, 1), (231, .aload_n 0, 1), (232, .iload_n 3, 1), (233, .iconst 1, 1), (234, .iadd, 1), (235, .iaload, 1), (236, .aload_n 0, 1), (237, .iload_n 3, 1), (238, .iconst 2, 1), (239, .iadd, 1), (240, .iaload, 1), (241, .aload_n 0, 1), (242, .iload_n 3, 1), (243, .iconst 3, 1), (244, .iadd, 1), (245, .iaload, 1), (246, .invokevirtual 23, 3), (249, .aload_n 2, 1), (250, .aload_n 0, 1), (251, .iload_n 3, 1), (252, .iconst 1, 1), (253, .iadd, 1), (254, .iaload, 1), (255, .aload_n 0, 1), (256, .iload_n 3, 1), (257, .iconst 2, 1), (258, .iadd, 1), (259, .iaload, 1), (260, .aload_n 0, 1), (261, .iload_n 3, 1), (262, .iconst 3, 1), (263, .iadd, 1), (264, .iaload, 1), (265, .invokevirtual 27, 3), (268, .if_icmp .eq 1089, 3), (271, .iconst 0, 1), (272, .ireturn, 1), (273, .aload_n 1, 1), (274, .aload_n 0, 1), (275, .iload_n 3, 1), (276, .iconst 1, 1), (277, .iadd, 1), (278, .iaload, 1), (279, .aload_n 0, 1)]
theorem tbL_law_1_ok : pTabOk cL_law tbL_law_1 = true := by decide +kernel
def tbL_law_2 : pTab := [(280, .iload_n 3, 1), (281, .iconst 2, 1), (282, .iadd, 1), (283, .iaload, 1), (284, .invokevirtual 28, 3), (287, .aload_n 2, 1), (288, .aload_n 0, 1), (289, .iload_n 3, 1), (290, .iconst 1, 1), (291, .iadd, 1), (292, .iaload, 1), (293, .aload_n 0, 1), (294, .iload_n 3, 1), (295, .iconst 2, 1), (296, .iadd, 1), (297, .iaload, 1), (298, .invokevirtual 31, 3), (301, .if_icmp .eq 1056, 3), (304, .iconst 0, 1), (305, .ireturn, 1), (306, .aload_n 1, 1), (307, .aload_n 0, 1), (308, .iload_n 3, 1), (309, .iconst 1, 1), (310, .iadd, 1), (311, .iaload, 1), (312, .aload_n 0, 1), (313, .iload_n 3, 1), (314, .iconst 2, 1), (315, .iadd, 1), (316, .iaload, 1), (317, .invokevirtual 32, 3), (320, .aload_n 2, 1), (321, .aload_n 0, 1), (322, .iload_n 3, 1), (323, .iconst 1, 1), (324, .iadd, 1), (325, .iaload, 1), (326, .aload_n 0, 1), (327, .iload_n 3, 1), (328, .iconst 2, 1), (329, .iadd, 1), (330, .iaload, 1), (331, .invokevirtual 35, 3), (334, .if_icmp .eq 1023, 3), (337, .iconst 0, 1), (338, .ireturn, 1), (339, .aload_n 1, 1), (340, .aload_n 0, 1), (341, .iload_n 3, 1)]
theorem tbL_law_2_ok : pTabOk cL_law tbL_law_2 = true := by decide +kernel
def tbL_law_3 : pTab := [(342, .iconst 1, 1), (343, .iadd, 1), (344, .iaload, 1), (345, .invokevirtual 36, 3), (348, .aload_n 2, 1), (349, .aload_n 0, 1), (350, .iload_n 3, 1), (351, .iconst 1, 1), (352, .iadd, 1), (353, .iaload, 1), (354, .invokevirtual 40, 3), (357, .if_icmp .eq 1000, 3), (360, .iconst 0, 1), (361, .ireturn, 1), (362, .aload_n 1, 1), (363, .aload_n 0, 1), (364, .iload_n 3, 1), (365, .iconst 1, 1), (366, .iadd, 1), (367, .iaload, 1), (368, .aload_n 0, 1), (369, .iload_n 3, 1), (370, .iconst 2, 1), (371, .iadd, 1), (372, .iaload, 1), (373, .invokevirtual 41, 3), (376, .aload_n 2, 1), (377, .aload_n 0, 1), (378, .iload_n 3, 1), (379, .iconst 1, 1), (380, .iadd, 1), (381, .iaload, 1), (382, .aload_n 0, 1), (383, .iload_n 3, 1), (384, .iconst 2, 1), (385, .iadd, 1), (386, .iaload, 1), (387, .invokevirtual 44, 3), (390, .if_icmp .eq 967, 3), (393, .iconst 0, 1), (394, .ireturn, 1), (395, .aload_n 1, 1), (396, .aload_n 0, 1), (397, .iload_n 3, 1), (398, .iconst 1, 1), (399, .iadd, 1), (400, .iaload, 1), (401, .aload_n 0, 1), (402, .iload_n 3, 1), (403, .iconst 2, 1)]
theorem tbL_law_3_ok : pTabOk cL_law tbL_law_3 = true := by decide +kernel
def tbL_law_4 : pTab := [(404, .iadd, 1), (405, .iaload, 1), (406, .invokevirtual 45, 3), (409, .aload_n 2, 1), (410, .aload_n 0, 1), (411, .iload_n 3, 1), (412, .iconst 1, 1), (413, .iadd, 1), (414, .iaload, 1), (415, .aload_n 0, 1), (416, .iload_n 3, 1), (417, .iconst 2, 1), (418, .iadd, 1), (419, .iaload, 1), (420, .invokevirtual 48, 3), (423, .if_icmp .eq 934, 3), (426, .iconst 0, 1), (427, .ireturn, 1), (428, .aload_n 1, 1), (429, .aload_n 0, 1), (430, .iload_n 3, 1), (431, .iconst 1, 1), (432, .iadd, 1), (433, .iaload, 1), (434, .aload_n 0, 1), (435, .iload_n 3, 1), (436, .iconst 2, 1), (437, .iadd, 1), (438, .iaload, 1), (439, .aload_n 0, 1), (440, .iload_n 3, 1), (441, .iconst 3, 1), (442, .iadd, 1), (443, .iaload, 1), (444, .aload_n 0, 1), (445, .iload_n 3, 1), (446, .iconst 4, 1), (447, .iadd, 1), (448, .iaload, 1), (449, .invokevirtual 49, 3), (452, .aload_n 2, 1), (453, .aload_n 0, 1), (454, .iload_n 3, 1), (455, .iconst 1, 1), (456, .iadd, 1), (457, .iaload, 1), (458, .aload_n 0, 1), (459, .iload_n 3, 1), (460, .iconst 2, 1), (461, .iadd, 1)]
theorem tbL_law_4_ok : pTabOk cL_law tbL_law_4 = true := by decide +kernel
def tbL_law_5 : pTab := [(462, .iaload, 1), (463, .aload_n 0, 1), (464, .iload_n 3, 1), (465, .iconst 3, 1), (466, .iadd, 1), (467, .iaload, 1), (468, .aload_n 0, 1), (469, .iload_n 3, 1), (470, .iconst 4, 1), (471, .iadd, 1), (472, .iaload, 1), (473, .invokevirtual 53, 3), (476, .if_icmp .eq 881, 3), (479, .iconst 0, 1), (480, .ireturn, 1), (481, .aload_n 1, 1), (482, .aload_n 0, 1), (483, .iload_n 3, 1), (484, .iconst 1, 1), (485, .iadd, 1), (486, .iaload, 1), (487, .aload_n 0, 1), (488, .iload_n 3, 1), (489, .iconst 2, 1), (490, .iadd, 1), (491, .iaload, 1), (492, .invokevirtual 54, 3), (495, .aload_n 2, 1), (496, .aload_n 0, 1), (497, .iload_n 3, 1), (498, .iconst 1, 1), (499, .iadd, 1), (500, .iaload, 1), (501, .aload_n 0, 1), (502, .iload_n 3, 1), (503, .iconst 2, 1), (504, .iadd, 1), (505, .iaload, 1), (506, .invokevirtual 57, 3), (509, .if_icmp .eq 848, 3), (512, .iconst 0, 1), (513, .ireturn, 1), (514, .aload_n 1, 1), (515, .aload_n 0, 1), (516, .iload_n 3, 1), (517, .iconst 1, 1), (518, .iadd, 1), (519, .iaload, 1), (520, .aload_n 0, 1), (521, .iload_n 3, 1)]
theorem tbL_law_5_ok : pTabOk cL_law tbL_law_5 = true := by decide +kernel
def tbL_law_6 : pTab := [(522, .iconst 2, 1), (523, .iadd, 1), (524, .iaload, 1), (525, .aload_n 0, 1), (526, .iload_n 3, 1), (527, .iconst 3, 1), (528, .iadd, 1), (529, .iaload, 1), (530, .aload_n 0, 1), (531, .iload_n 3, 1), (532, .iconst 4, 1), (533, .iadd, 1), (534, .iaload, 1), (535, .invokevirtual 58, 3), (538, .aload_n 2, 1), (539, .aload_n 0, 1), (540, .iload_n 3, 1), (541, .iconst 1, 1), (542, .iadd, 1), (543, .iaload, 1), (544, .aload_n 0, 1), (545, .iload_n 3, 1), (546, .iconst 2, 1), (547, .iadd, 1), (548, .iaload, 1), (549, .aload_n 0, 1), (550, .iload_n 3, 1), (551, .iconst 3, 1), (552, .iadd, 1), (553, .iaload, 1), (554, .aload_n 0, 1), (555, .iload_n 3, 1), (556, .iconst 4, 1), (557, .iadd, 1), (558, .iaload, 1), (559, .invokevirtual 61, 3), (562, .if_icmp .eq 795, 3), (565, .iconst 0, 1), (566, .ireturn, 1), (567, .aload_n 1, 1), (568, .aload_n 0, 1), (569, .iload_n 3, 1), (570, .iconst 1, 1), (571, .iadd, 1), (572, .iaload, 1), (573, .aload_n 0, 1), (574, .iload_n 3, 1), (575, .iconst 2, 1), (576, .iadd, 1), (577, .iaload, 1)]
theorem tbL_law_6_ok : pTabOk cL_law tbL_law_6 = true := by decide +kernel
end
section
def tbL_law_7 : pTab := [(578, .aload_n 0, 1), (579, .iload_n 3, 1), (580, .iconst 3, 1), (581, .iadd, 1), (582, .iaload, 1), (583, .aload_n 0, 1), (584, .iload_n 3, 1), (585, .iconst 4, 1), (586, .iadd, 1), (587, .iaload, 1), (588, .invokevirtual 62, 3), (591, .aload_n 2, 1), (592, .aload_n 0, 1), (593, .iload_n 3, 1), (594, .iconst 1, 1), (595, .iadd, 1), (596, .iaload, 1), (597, .aload_n 0, 1), (598, .iload_n 3, 1), (599, .iconst 2, 1), (600, .iadd, 1), (601, .iaload, 1), (602, .aload_n 0, 1), (603, .iload_n 3, 1), (604, .iconst 3, 1), (605, .iadd, 1), (606, .iaload, 1), (607, .aload_n 0, 1), (608, .iload_n 3, 1), (609, .iconst 4, 1), (610, .iadd, 1), (611, .iaload, 1), (612, .invokevirtual 65, 3), (615, .if_icmp .eq 742, 3), (618, .iconst 0, 1), (619, .ireturn, 1), (620, .aload_n 1, 1), (621, .invokevirtual 66, 3), (624, .aload_n 2, 1), (625, .invokevirtual 69, 3), (628, .if_icmp .eq 729, 3), (631, .iconst 0, 1), (632, .ireturn, 1), (633, .aload_n 1, 1), (634, .aload_n 0, 1), (635, .iload_n 3, 1), (636, .iconst 1, 1), (637, .iadd, 1), (638, .iaload, 1), (639, .aload_n 0, 1)]
theorem tbL_law_7_ok : pTabOk cL_law tbL_law_7 = true := by decide +kernel
def tbL_law_8 : pTab := [(640, .iload_n 3, 1), (641, .iconst 2, 1), (642, .iadd, 1), (643, .iaload, 1), (644, .invokevirtual 70, 3), (647, .aload_n 2, 1), (648, .aload_n 0, 1), (649, .iload_n 3, 1), (650, .iconst 1, 1), (651, .iadd, 1), (652, .iaload, 1), (653, .aload_n 0, 1), (654, .iload_n 3, 1), (655, .iconst 2, 1), (656, .iadd, 1), (657, .iaload, 1), (658, .invokevirtual 73, 3), (661, .if_icmp .eq 696, 3), (664, .iconst 0, 1), (665, .ireturn, 1), (666, .aload_n 1, 1), (667, .invokevirtual 74, 3), (670, .aload_n 2, 1), (671, .invokevirtual 77, 3), (674, .if_icmp .eq 683, 3), (677, .iconst 0, 1), (678, .ireturn, 1), (679, .aload_n 1, 1), (680, .aload_n 0, 1), (681, .iload_n 3, 1), (682, .iconst 1, 1), (683, .iadd, 1), (684, .iaload, 1), (685, .aload_n 0, 1), (686, .iload_n 3, 1), (687, .iconst 2, 1), (688, .iadd, 1), (689, .iaload, 1), (690, .aload_n 0, 1), (691, .iload_n 3, 1), (692, .iconst 3, 1), (693, .iadd, 1), (694, .iaload, 1), (695, .invokevirtual 78, 3), (698, .aload_n 2, 1), (699, .aload_n 0, 1), (700, .iload_n 3, 1), (701, .iconst 1, 1), (702, .iadd, 1), (703, .iaload, 1)]
theorem tbL_law_8_ok : pTabOk cL_law tbL_law_8 = true := by decide +kernel
def tbL_law_9 : pTab := [(704, .aload_n 0, 1), (705, .iload_n 3, 1), (706, .iconst 2, 1), (707, .iadd, 1), (708, .iaload, 1), (709, .aload_n 0, 1), (710, .iload_n 3, 1), (711, .iconst 3, 1), (712, .iadd, 1), (713, .iaload, 1), (714, .invokevirtual 81, 3), (717, .if_icmp .eq 640, 3), (720, .iconst 0, 1), (721, .ireturn, 1), (722, .aload_n 1, 1), (723, .aload_n 0, 1), (724, .iload_n 3, 1), (725, .iconst 1, 1), (726, .iadd, 1), (727, .iaload, 1), (728, .aload_n 0, 1), (729, .iload_n 3, 1), (730, .iconst 2, 1), (731, .iadd, 1), (732, .iaload, 1), (733, .aload_n 0, 1), (734, .iload_n 3, 1), (735, .iconst 3, 1), (736, .iadd, 1), (737, .iaload, 1), (738, .invokevirtual 82, 3), (741, .aload_n 2, 1), (742, .aload_n 0, 1), (743, .iload_n 3, 1), (744, .iconst 1, 1), (745, .iadd, 1), (746, .iaload, 1), (747, .aload_n 0, 1), (748, .iload_n 3, 1), (749, .iconst 2, 1), (750, .iadd, 1), (751, .iaload, 1), (752, .aload_n 0, 1), (753, .iload_n 3, 1), (754, .iconst 3, 1), (755, .iadd, 1), (756, .iaload, 1), (757, .invokevirtual 85, 3), (760, .if_icmp .eq 597, 3), (763, .iconst 0, 1)]
theorem tbL_law_9_ok : pTabOk cL_law tbL_law_9 = true := by decide +kernel
def tbL_law_10 : pTab := [(764, .ireturn, 1), (765, .aload_n 1, 1), (766, .aload_n 0, 1), (767, .iload_n 3, 1), (768, .iconst 1, 1), (769, .iadd, 1), (770, .iaload, 1), (771, .aload_n 0, 1), (772, .iload_n 3, 1), (773, .iconst 2, 1), (774, .iadd, 1), (775, .iaload, 1), (776, .aload_n 0, 1), (777, .iload_n 3, 1), (778, .iconst 3, 1), (779, .iadd, 1), (780, .iaload, 1), (781, .invokevirtual 86, 3), (784, .aload_n 2, 1), (785, .aload_n 0, 1), (786, .iload_n 3, 1), (787, .iconst 1, 1), (788, .iadd, 1), (789, .iaload, 1), (790, .aload_n 0, 1), (791, .iload_n 3, 1), (792, .iconst 2, 1), (793, .iadd, 1), (794, .iaload, 1), (795, .aload_n 0, 1), (796, .iload_n 3, 1), (797, .iconst 3, 1), (798, .iadd, 1), (799, .iaload, 1), (800, .invokevirtual 89, 3), (803, .if_icmp .eq 554, 3), (806, .iconst 0, 1), (807, .ireturn, 1), (808, .aload_n 1, 1), (809, .aload_n 0, 1), (810, .iload_n 3, 1), (811, .iconst 1, 1), (812, .iadd, 1), (813, .iaload, 1), (814, .invokevirtual 90, 3), (817, .aload_n 2, 1), (818, .aload_n 0, 1), (819, .iload_n 3, 1), (820, .iconst 1, 1), (821, .iadd, 1)]
theorem tbL_law_10_ok : pTabOk cL_law tbL_law_10 = true := by decide +kernel
def tbL_law_11 : pTab := [(822, .iaload, 1), (823, .invokevirtual 93, 3), (826, .if_icmp .eq 531, 3), (829, .iconst 0, 1), (830, .ireturn, 1), (831, .aload_n 1, 1), (832, .invokevirtual 94, 3), (835, .aload_n 2, 1), (836, .invokevirtual 97, 3), (839, .if_icmp .eq 518, 3), (842, .iconst 0, 1), (843, .ireturn, 1), (844, .aload_n 1, 1), (845, .aload_n 0, 1), (846, .iload_n 3, 1), (847, .iconst 1, 1), (848, .iadd, 1), (849, .iaload, 1), (850, .aload_n 0, 1), (851, .iload_n 3, 1), (852, .iconst 2, 1), (853, .iadd, 1), (854, .iaload, 1), (855, .aload_n 0, 1), (856, .iload_n 3, 1), (857, .iconst 3, 1), (858, .iadd, 1), (859, .iaload, 1), (860, .invokevirtual 98, 3), (863, .aload_n 2, 1), (864, .aload_n 0, 1), (865, .iload_n 3, 1), (866, .iconst 1, 1), (867, .iadd, 1), (868, .iaload, 1), (869, .aload_n 0, 1), (870, .iload_n 3, 1), (871, .iconst 2, 1), (872, .iadd, 1), (873, .iaload, 1), (874, .aload_n 0, 1), (875, .iload_n 3, 1), (876, .iconst 3, 1), (877, .iadd, 1), (878, .iaload, 1), (879, .invokevirtual 101, 3), (882, .if_icmp .eq 475, 3), (885, .iconst 0, 1), (886, .ireturn, 1), (887, .aload_n 1, 1)]
theorem tbL_law_11_ok : pTabOk cL_law tbL_law_11 = true := by decide +kernel
def tbL_law_12 : pTab := [(888, .aload_n 0, 1), (889, .iload_n 3, 1), (890, .iconst 1, 1), (891, .iadd, 1), (892, .iaload, 1), (893, .aload_n 0, 1), (894, .iload_n 3, 1), (895, .iconst 2, 1), (896, .iadd, 1), (897, .iaload, 1), (898, .aload_n 0, 1), (899, .iload_n 3, 1), (900, .iconst 3, 1), (901, .iadd, 1), (902, .iaload, 1), (903, .invokevirtual 102, 3), (906, .aload_n 2, 1), (907, .aload_n 0, 1), (908, .iload_n 3, 1), (909, .iconst 1, 1), (910, .iadd, 1), (911, .iaload, 1), (912, .aload_n 0, 1), (913, .iload_n 3, 1), (914, .iconst 2, 1), (915, .iadd, 1), (916, .iaload, 1), (917, .aload_n 0, 1), (918, .iload_n 3, 1), (919, .iconst 3, 1), (920, .iadd, 1), (921, .iaload, 1), (922, .invokevirtual 105, 3), (925, .if_icmp .eq 432, 3), (928, .iconst 0, 1), (929, .ireturn, 1), (930, .aload_n 1, 1), (931, .aload_n 0, 1), (932, .iload_n 3, 1), (933, .iconst 1, 1), (934, .iadd, 1), (935, .iaload, 1), (936, .aload_n 0, 1), (937, .iload_n 3, 1), (938, .iconst 2, 1), (939, .iadd, 1), (940, .iaload, 1), (941, .aload_n 0, 1), (942, .iload_n 3, 1), (943, .iconst 3, 1)]
theorem tbL_law_12_ok : pTabOk cL_law tbL_law_12 = true := by decide +kernel
def tbL_law_13 : pTab := [(944, .iadd, 1), (945, .iaload, 1), (946, .invokevirtual 106, 3), (949, .aload_n 2, 1), (950, .aload_n 0, 1), (951, .iload_n 3, 1), (952, .iconst 1, 1), (953, .iadd, 1), (954, .iaload, 1), (955, .aload_n 0, 1), (956, .iload_n 3, 1), (957, .iconst 2, 1), (958, .iadd, 1), (959, .iaload, 1), (960, .aload_n 0, 1), (961, .iload_n 3, 1), (962, .iconst 3, 1), (963, .iadd, 1), (964, .iaload, 1), (965, .invokevirtual 109, 3), (968, .if_icmp .eq 389, 3), (971, .iconst 0, 1), (972, .ireturn, 1), (973, .aload_n 1, 1), (974, .aload_n 0, 1), (975, .iload_n 3, 1), (976, .iconst 1, 1), (977, .iadd, 1), (978, .iaload, 1), (979, .aload_n 0, 1), (980, .iload_n 3, 1), (981, .iconst 2, 1), (982, .iadd, 1), (983, .iaload, 1), (984, .invokevirtual 110, 3), (987, .aload_n 2, 1), (988, .aload_n 0, 1), (989, .iload_n 3, 1), (990, .iconst 1, 1), (991, .iadd, 1), (992, .iaload, 1), (993, .aload_n 0, 1), (994, .iload_n 3, 1), (995, .iconst 2, 1), (996, .iadd, 1), (997, .iaload, 1), (998, .invokevirtual 113, 3), (1001, .if_icmp .eq 356, 3), (1004, .iconst 0, 1), (1005, .ireturn, 1)]
theorem tbL_law_13_ok : pTabOk cL_law tbL_law_13 = true := by decide +kernel
end
section
def tbL_law_14 : pTab := [(1006, .aload_n 1, 1), (1007, .aload_n 0, 1), (1008, .iload_n 3, 1), (1009, .iconst 1, 1), (1010, .iadd, 1), (1011, .iaload, 1), (1012, .aload_n 0, 1), (1013, .iload_n 3, 1), (1014, .iconst 2, 1), (1015, .iadd, 1), (1016, .iaload, 1), (1017, .aload_n 0, 1), (1018, .iload_n 3, 1), (1019, .iconst 3, 1), (1020, .iadd, 1), (1021, .iaload, 1), (1022, .invokevirtual 114, 3), (1025, .aload_n 2, 1), (1026, .aload_n 0, 1), (1027, .iload_n 3, 1), (1028, .iconst 1, 1), (1029, .iadd, 1), (1030, .iaload, 1), (1031, .aload_n 0, 1), (1032, .iload_n 3, 1), (1033, .iconst 2, 1), (1034, .iadd, 1), (1035, .iaload, 1), (1036, .aload_n 0, 1), (1037, .iload_n 3, 1), (1038, .iconst 3, 1), (1039, .iadd, 1), (1040, .iaload, 1), (1041, .invokevirtual 117, 3), (1044, .if_icmp .eq 313, 3), (1047, .iconst 0, 1), (1048, .ireturn, 1), (1049, .aload_n 1, 1), (1050, .aload_n 0, 1), (1051, .iload_n 3, 1), (1052, .iconst 1, 1), (1053, .iadd, 1), (1054, .iaload, 1), (1055, .aload_n 0, 1), (1056, .iload_n 3, 1), (1057, .iconst 2, 1), (1058, .iadd, 1), (1059, .iaload, 1), (1060, .aload_n 0, 1), (1061, .iload_n 3, 1)]
theorem tbL_law_14_ok : pTabOk cL_law tbL_law_14 = true := by decide +kernel
def tbL_law_15 : pTab := [(1062, .iconst 3, 1), (1063, .iadd, 1), (1064, .iaload, 1), (1065, .i2l, 1), (1066, .bipush 32, 2), (1068, .lshl, 1), (1069, .aload_n 0, 1), (1070, .iload_n 3, 1), (1071, .iconst 4, 1), (1072, .iadd, 1), (1073, .iaload, 1), (1074, .i2l, 1), (1075, .ldc2_w 118, 3), (1078, .land, 1), (1079, .lor, 1), (1080, .aload_n 0, 1), (1081, .iload_n 3, 1), (1082, .iconst 5, 1), (1083, .iadd, 1), (1084, .iaload, 1), (1085, .invokevirtual 120, 3), (1088, .aload_n 2, 1), (1089, .aload_n 0, 1), (1090, .iload_n 3, 1), (1091, .iconst 1, 1), (1092, .iadd, 1), (1093, .iaload, 1), (1094, .aload_n 0, 1), (1095, .iload_n 3, 1), (1096, .iconst 2, 1), (1097, .iadd, 1), (1098, .iaload, 1), (1099, .aload_n 0, 1), (1100, .iload_n 3, 1), (1101, .iconst 3, 1), (1102, .iadd, 1), (1103, .iaload, 1), (1104, .i2l, 1), (1105, .bipush 32, 2), (1107, .lshl, 1), (1108, .aload_n 0, 1), (1109, .iload_n 3, 1), (1110, .iconst 4, 1), (1111, .iadd, 1), (1112, .iaload, 1), (1113, .i2l, 1), (1114, .ldc2_w 118, 3), (1117, .land, 1), (1118, .lor, 1), (1119, .aload_n 0, 1)]
theorem tbL_law_15_ok : pTabOk cL_law tbL_law_15 = true := by decide +kernel
def tbL_law_16 : pTab := [(1120, .iload_n 3, 1), (1121, .iconst 5, 1), (1122, .iadd, 1), (1123, .iaload, 1), (1124, .invokevirtual 124, 3), (1127, .if_icmp .eq 230, 3), (1130, .iconst 0, 1), (1131, .ireturn, 1), (1132, .aload_n 1, 1), (1133, .aload_n 0, 1), (1134, .iload_n 3, 1), (1135, .iconst 1, 1), (1136, .iadd, 1), (1137, .iaload, 1), (1138, .aload_n 0, 1), (1139, .iload_n 3, 1), (1140, .iconst 2, 1), (1141, .iadd, 1), (1142, .iaload, 1), (1143, .invokevirtual 125, 3), (1146, .aload_n 2, 1), (1147, .aload_n 0, 1), (1148, .iload_n 3, 1), (1149, .iconst 1, 1), (1150, .iadd, 1), (1151, .iaload, 1), (1152, .aload_n 0, 1), (1153, .iload_n 3, 1), (1154, .iconst 2, 1), (1155, .iadd, 1), (1156, .iaload, 1), (1157, .invokevirtual 129, 3), (1160, .lcmp, 1), (1161, .ifCond .eq 196, 3), (1164, .iconst 0, 1), (1165, .ireturn, 1), (1166, .aload_n 1, 1), (1167, .aload_n 0, 1), (1168, .iload_n 3, 1), (1169, .iconst 1, 1), (1170, .iadd, 1), (1171, .iaload, 1), (1172, .aload_n 0, 1), (1173, .iload_n 3, 1), (1174, .iconst 2, 1), (1175, .iadd, 1), (1176, .iaload, 1), (1177, .invokevirtual 130, 3), (1180, .aload_n 2, 1), (1181, .aload_n 0, 1)]
theorem tbL_law_16_ok : pTabOk cL_law tbL_law_16 = true := by decide +kernel
def tbL_law_17 : pTab := [(1182, .iload_n 3, 1), (1183, .iconst 1, 1), (1184, .iadd, 1), (1185, .iaload, 1), (1186, .aload_n 0, 1), (1187, .iload_n 3, 1), (1188, .iconst 2, 1), (1189, .iadd, 1), (1190, .iaload, 1), (1191, .invokevirtual 133, 3), (1194, .if_icmp .eq 163, 3), (1197, .iconst 0, 1), (1198, .ireturn, 1), (1199, .aload_n 1, 1), (1200, .aload_n 0, 1), (1201, .iload_n 3, 1), (1202, .iconst 1, 1), (1203, .iadd, 1), (1204, .iaload, 1), (1205, .aload_n 0, 1), (1206, .iload_n 3, 1), (1207, .iconst 2, 1), (1208, .iadd, 1), (1209, .iaload, 1), (1210, .aload_n 0, 1), (1211, .iload_n 3, 1), (1212, .iconst 3, 1), (1213, .iadd, 1), (1214, .iaload, 1), (1215, .invokevirtual 134, 3), (1218, .aload_n 2, 1), (1219, .aload_n 0, 1), (1220, .iload_n 3, 1), (1221, .iconst 1, 1), (1222, .iadd, 1), (1223, .iaload, 1), (1224, .aload_n 0, 1), (1225, .iload_n 3, 1), (1226, .iconst 2, 1), (1227, .iadd, 1), (1228, .iaload, 1), (1229, .aload_n 0, 1), (1230, .iload_n 3, 1), (1231, .iconst 3, 1), (1232, .iadd, 1), (1233, .iaload, 1), (1234, .invokevirtual 137, 3), (1237, .if_icmp .eq 120, 3), (1240, .iconst 0, 1), (1241, .ireturn, 1)]
theorem tbL_law_17_ok : pTabOk cL_law tbL_law_17 = true := by decide +kernel
def tbL_law_18 : pTab := [(1242, .aload_n 1, 1), (1243, .aload_n 0, 1), (1244, .iload_n 3, 1), (1245, .iconst 1, 1), (1246, .iadd, 1), (1247, .iaload, 1), (1248, .aload_n 0, 1), (1249, .iload_n 3, 1), (1250, .iconst 2, 1), (1251, .iadd, 1), (1252, .iaload, 1), (1253, .aload_n 0, 1), (1254, .iload_n 3, 1), (1255, .iconst 3, 1), (1256, .iadd, 1), (1257, .iaload, 1), (1258, .invokevirtual 138, 3), (1261, .aload_n 2, 1), (1262, .aload_n 0, 1), (1263, .iload_n 3, 1), (1264, .iconst 1, 1), (1265, .iadd, 1), (1266, .iaload, 1), (1267, .aload_n 0, 1), (1268, .iload_n 3, 1), (1269, .iconst 2, 1), (1270, .iadd, 1), (1271, .iaload, 1), (1272, .aload_n 0, 1), (1273, .iload_n 3, 1), (1274, .iconst 3, 1), (1275, .iadd, 1), (1276, .iaload, 1), (1277, .invokevirtual 141, 3), (1280, .if_icmp .eq 77, 3), (1283, .iconst 0, 1), (1284, .ireturn, 1), (1285, .aload_n 1, 1), (1286, .invokevirtual 142, 3), (1289, .aload_n 2, 1), (1290, .invokevirtual 145, 3), (1293, .if_icmp .eq 64, 3), (1296, .iconst 0, 1), (1297, .ireturn, 1), (1298, .aload_n 1, 1), (1299, .invokevirtual 146, 3), (1302, .aload_n 2, 1), (1303, .invokevirtual 149, 3), (1306, .if_icmp .eq 51, 3), (1309, .iconst 0, 1)]
theorem tbL_law_18_ok : pTabOk cL_law tbL_law_18 = true := by decide +kernel
def tbL_law_19 : pTab := [(1310, .ireturn, 1), (1311, .aload_n 1, 1), (1312, .aload_n 0, 1), (1313, .iload_n 3, 1), (1314, .iconst 1, 1), (1315, .iadd, 1), (1316, .iaload, 1), (1317, .invokevirtual 150, 3), (1320, .aload_n 2, 1), (1321, .aload_n 0, 1), (1322, .iload_n 3, 1), (1323, .iconst 1, 1), (1324, .iadd, 1), (1325, .iaload, 1), (1326, .invokevirtual 153, 3), (1329, .if_icmp .eq 28, 3), (1332, .iconst 0, 1), (1333, .ireturn, 1), (1334, .aload_n 1, 1), (1335, .aload_n 0, 1), (1336, .iload_n 3, 1), (1337, .iconst 1, 1), (1338, .iadd, 1), (1339, .iaload, 1), (1340, .invokevirtual 154, 3), (1343, .aload_n 2, 1), (1344, .aload_n 0, 1), (1345, .iload_n 3, 1), (1346, .iconst 1, 1), (1347, .iadd, 1), (1348, .iaload, 1), (1349, .invokevirtual 157, 3), (1352, .if_icmp .eq 5, 3), (1355, .iconst 0, 1), (1356, .ireturn, 1), (1357, .iinc 3 6, 3), (1360, .goto (-1342), 3), (1363, .iconst 1, 1), (1364, .ireturn, 1)]
theorem tbL_law_19_ok : pTabOk cL_law tbL_law_19 = true := by decide +kernel
theorem pTabOk_app {c : ByteArray} {a b : pTab} (ha : pTabOk c a = true) (hb : pTabOk c b = true) : pTabOk c (a ++ b) = true := by unfold pTabOk at *; rw [List.all_append, ha, hb]; rfl
def tbL_law : pTab := tbL_law_0 ++ (tbL_law_1 ++ (tbL_law_2 ++ (tbL_law_3 ++ (tbL_law_4 ++ (tbL_law_5 ++ (tbL_law_6 ++ (tbL_law_7 ++ (tbL_law_8 ++ (tbL_law_9 ++ (tbL_law_10 ++ (tbL_law_11 ++ (tbL_law_12 ++ (tbL_law_13 ++ (tbL_law_14 ++ (tbL_law_15 ++ (tbL_law_16 ++ (tbL_law_17 ++ (tbL_law_18 ++ (tbL_law_19)))))))))))))))))))
theorem tbL_law_ok : pTabOk cL_law tbL_law = true := pTabOk_app tbL_law_0_ok (pTabOk_app tbL_law_1_ok (pTabOk_app tbL_law_2_ok (pTabOk_app tbL_law_3_ok (pTabOk_app tbL_law_4_ok (pTabOk_app tbL_law_5_ok (pTabOk_app tbL_law_6_ok (pTabOk_app tbL_law_7_ok (pTabOk_app tbL_law_8_ok (pTabOk_app tbL_law_9_ok (pTabOk_app tbL_law_10_ok (pTabOk_app tbL_law_11_ok (pTabOk_app tbL_law_12_ok (pTabOk_app tbL_law_13_ok (pTabOk_app tbL_law_14_ok (pTabOk_app tbL_law_15_ok (pTabOk_app tbL_law_16_ok (pTabOk_app tbL_law_17_ok (pTabOk_app tbL_law_18_ok (tbL_law_19_ok)))))))))))))))))))
end
section
/-! THE PURE MACHINE: the program's cells by their order (a reference is the number of a cell), a list of shapes and four rows of contents;
    'pWP' says of a method at a pc that it comes to its end; one rule an instruction, each proved from the kit's row once for all. -/
/-- a shape: an array (type 0 int, 1 float, 2 boolean, 3 long, 4 double; length), or an object (class, its fields: 0 an int, 1 a float, 2 null, r + 3 the cell r) -/
abbrev PSh : Type := (Nat × Nat) ⊕ (Nat × List Nat)
/-- contents by cell and place: ints (booleans too), floats, longs, doubles -/
abbrev PSt : Type := (Nat → Nat → Int32) × (Nat → Nat → UInt32) × (Nat → Nat → Int64) × (Nat → Nat → UInt64)
abbrev PL : Type := List (Option Value)
abbrev PQ : Type := Option Value → List PSh → PSt → Prop
/-- a method: name, code, locals, return type, table -/
abbrev PM : Type := MethodName × ByteArray × Nat × Option FieldType × pTab
def pTr (ad : Nat → Nat) (v : Value) : Value := match v with
  | .ref r => .ref (ad r)
  | v => v
theorem pTr_cat (ad : Nat → Nat) (v : Value) : (pTr ad v).category = v.category := by cases v <;> rfl
def pFv (S : PSt) (k j : Nat) (f : Nat) : Value := match f with
  | 0 => .int (S.1 k j)
  | 1 => .float (S.2.1 k j)
  | 2 => .null
  | r + 3 => .ref r
def pArr (S : PSt) (k : Nat) (t : Nat) : (Nat → Int32) ⊕ (Nat → Int64) ⊕ (Nat → UInt32) ⊕ (Nat → UInt64) ⊕ (Nat → Option Nat) := match t with
  | 0 => .inl (S.1 k)
  | 1 => .inr (.inr (.inl (S.2.1 k)))
  | 2 => .inl (S.1 k)
  | 3 => .inr (.inl (S.2.2.1 k))
  | _ => .inr (.inr (.inr (.inl (S.2.2.2 k))))
def pEl (tc ad : Nat → Nat) (S : PSt) (k : Nat) (e : PSh) : va_E := match e with
  | .inl q => .inl (tc q.1, q.2, pArr S k q.1)
  | .inr q => .inr (q.1, q.2.mapIdx fun j f => pTr ad (pFv S k j f))
def pW (tc ad : Nat → Nat) (sh : List PSh) (S : PSt) : va_W := sh.mapIdx fun k e => (ad k, pEl tc ad S k e)
theorem pW_at {tc ad : Nat → Nat} {sh : List PSh} {S : PSt} {k : Nat} {e : PSh} (h : sh[k]? = some e) : (pW tc ad sh S)[k]? = some (ad k, pEl tc ad S k e) := by
  unfold pW
  rw [List.getElem?_mapIdx, h]
  rfl
theorem pW_of {tc ad : Nat → Nat} {sh : List PSh} {S : PSt} {k : Nat} {q : Nat × va_E} (h : (pW tc ad sh S)[k]? = some q) : ∃ e, sh[k]? = some e ∧ q = (ad k, pEl tc ad S k e) := by
  unfold pW at h
  rw [List.getElem?_mapIdx] at h
  cases he : sh[k]? with
  | none => rw [he] at h; cases h
  | some e => rw [he] at h; exact ⟨e, rfl, (Option.some.inj h).symm⟩
def pU {α : Type} (f : Nat → Nat → α) (k j : Nat) (x : α) : Nat → Nat → α := fun a b => if a = k ∧ b = j then x else f a b
def pSI (S : PSt) (k j : Nat) (x : Int32) : PSt := (pU S.1 k j x, S.2)
def pSF (S : PSt) (k j : Nat) (x : UInt32) : PSt := (S.1, pU S.2.1 k j x, S.2.2)
def pSJ (S : PSt) (k j : Nat) (x : Int64) : PSt := (S.1, S.2.1, pU S.2.2.1 k j x, S.2.2.2)
def pSD (S : PSt) (k j : Nat) (x : UInt64) : PSt := (S.1, S.2.1, S.2.2.1, pU S.2.2.2 k j x)
theorem pU_ne {α : Type} {f : Nat → Nat → α} {k j a : Nat} {x : α} (h : a ≠ k) : pU f k j x a = f a := by
  funext b
  simp [pU, h]
/-- contents that agree at a cell tell the same of it -/
theorem pEl_same {tc ad : Nat → Nat} {S S' : PSt} {k : Nat} (h1 : S'.1 k = S.1 k) (h2 : S'.2.1 k = S.2.1 k) (h3 : S'.2.2.1 k = S.2.2.1 k) (h4 : S'.2.2.2 k = S.2.2.2 k) (e : PSh) : pEl tc ad S' k e = pEl tc ad S k e := by
  cases e with
  | inl q =>
    obtain ⟨t, n⟩ := q
    show Sum.inl (tc t, n, pArr S' k t) = Sum.inl (tc t, n, pArr S k t)
    have : pArr S' k t = pArr S k t := by
      unfold pArr
      split <;> simp only [h1, h2, h3, h4]
    rw [this]
  | inr q =>
    obtain ⟨c, fs⟩ := q
    show Sum.inr (c, fs.mapIdx fun j f => pTr ad (pFv S' k j f)) = Sum.inr (c, fs.mapIdx fun j f => pTr ad (pFv S k j f))
    have : ∀ j f, pFv S' k j f = pFv S k j f := by
      intro j f
      unfold pFv
      split <;> simp only [h1, h2]
    simp only [this]
theorem pW_set {tc ad : Nat → Nat} {sh : List PSh} {S S' : PSt} {k : Nat} {e : PSh} {el : va_E} (h : sh[k]? = some e) (hel : pEl tc ad S' k e = el) (ho : ∀ a, a ≠ k → S'.1 a = S.1 a ∧ S'.2.1 a = S.2.1 a ∧ S'.2.2.1 a = S.2.2.1 a ∧ S'.2.2.2 a = S.2.2.2 a) :
    (pW tc ad sh S).set k (ad k, el) = pW tc ad sh S' := by
  apply List.ext_getElem?
  intro i
  have hk : k < sh.length := (List.getElem?_eq_some_iff.mp h).1
  by_cases hi : i = k
  · subst hi
    rw [pW_at h, hel, List.getElem?_set_self (by unfold pW; rw [List.length_mapIdx]; exact hk)]
  · rw [List.getElem?_set_ne (fun q => hi q.symm)]
    unfold pW
    rw [List.getElem?_mapIdx, List.getElem?_mapIdx]
    cases hs : sh[i]? with
    | none => rfl
    | some e2 =>
      obtain ⟨a1, a2, a3, a4⟩ := ho i hi
      show some (ad i, pEl tc ad S i e2) = some (ad i, pEl tc ad S' i e2)
      rw [pEl_same a1 a2 a3 a4]
/-- the shape changes at a cell: a reference comes to a field -/
theorem pW_setSh {tc ad : Nat → Nat} {sh : List PSh} {S : PSt} {k : Nat} {e e' : PSh} {el : va_E} (h : sh[k]? = some e) (hel : pEl tc ad S k e' = el) :
    (pW tc ad sh S).set k (ad k, el) = pW tc ad (sh.set k e') S := by
  apply List.ext_getElem?
  intro i
  have hk : k < sh.length := (List.getElem?_eq_some_iff.mp h).1
  by_cases hi : i = k
  · subst hi
    rw [pW_at (e := e') (by rw [List.getElem?_set_self hk]), hel, List.getElem?_set_self (by unfold pW; rw [List.length_mapIdx]; exact hk)]
  · rw [List.getElem?_set_ne (fun q => hi q.symm)]
    unfold pW
    rw [List.getElem?_mapIdx, List.getElem?_mapIdx, List.getElem?_set_ne (fun q => hi q.symm)]
/-- a cell comes behind the last one -/
theorem pW_push {tc ad ad' : Nat → Nat} {sh : List PSh} {S S' : PSt} {q : Nat} {e : PSh} {el : va_E} (hq : ad' sh.length = q) (hel : pEl tc ad' S' sh.length e = el) (ha : ∀ k, k < sh.length → ad' k = ad k)
    (hr : ∀ (k c : Nat) (fs : List Nat), sh[k]? = some (.inr (c, fs)) → ∀ r, r + 3 ∈ fs → ad' r = ad r)
    (ho : ∀ a, a ≠ sh.length → S'.1 a = S.1 a ∧ S'.2.1 a = S.2.1 a ∧ S'.2.2.1 a = S.2.2.1 a ∧ S'.2.2.2 a = S.2.2.2 a) :
    pW tc ad sh S ++ [(q, el)] = pW tc ad' (sh ++ [e]) S' := by
  apply List.ext_getElem?
  intro i
  have hl : (pW tc ad sh S).length = sh.length := by unfold pW; rw [List.length_mapIdx]
  by_cases hi : i < sh.length
  · rw [List.getElem?_append_left (by rw [hl]; exact hi)]
    unfold pW
    rw [List.getElem?_mapIdx, List.getElem?_mapIdx, List.getElem?_append_left hi]
    cases hs : sh[i]? with
    | none => rfl
    | some e2 =>
      obtain ⟨a1, a2, a3, a4⟩ := ho i (by omega)
      show some (ad i, pEl tc ad S i e2) = some (ad' i, pEl tc ad' S' i e2)
      rw [pEl_same a1 a2 a3 a4, ha i hi]
      cases e2 with
      | inl q => rfl
      | inr q =>
        obtain ⟨c, fs⟩ := q
        have : (fs.mapIdx fun j f => pTr ad (pFv S i j f)) = (fs.mapIdx fun j f => pTr ad' (pFv S i j f)) := by
          apply List.ext_getElem?
          intro j
          rw [List.getElem?_mapIdx, List.getElem?_mapIdx]
          cases hf : fs[j]? with
          | none => rfl
          | some f =>
            have hm := List.mem_of_getElem? hf
            match f, hm with
            | 0, _ => rfl
            | 1, _ => rfl
            | 2, _ => rfl
            | r + 3, hm => show some (Value.ref (ad r)) = some (Value.ref (ad' r)); rw [hr i c fs hs r hm]
        show some (ad i, Sum.inr (c, _)) = some (ad i, Sum.inr (c, _))
        rw [this]
  · by_cases hi2 : i = sh.length
    · subst hi2
      rw [List.getElem?_append_right (by rw [hl]; exact Nat.le_refl _), hl, Nat.sub_self, pW_at (e := e) (by rw [List.getElem?_append_right (Nat.le_refl _), Nat.sub_self]; rfl), hq, hel]
      rfl
    · rw [List.getElem?_eq_none (by rw [List.length_append, hl]; simp; omega), List.getElem?_eq_none (by unfold pW; rw [List.length_mapIdx, List.length_append]; simp; omega)]
/-- references in shapes are of cells that there are -/
def pShOk (sh : List PSh) : Prop := ∀ (k c : Nat) (fs : List Nat), sh[k]? = some (.inr (c, fs)) → ∀ r, r + 3 ∈ fs → r < sh.length
def pNoR (n : Nat) (v : Value) : Bool := match v with
  | .ref r => r != n
  | _ => true
def pNoL (n : Nat) (o : Option Value) : Bool := match o with
  | some v => pNoR n v
  | none => true
def pAdd (ad : Nat → Nat) (n q : Nat) : Nat → Nat := fun k => if k = n then q else ad k
theorem pTr_add {ad : Nat → Nat} {n q : Nat} {v : Value} (h : pNoR n v = true) : pTr (pAdd ad n q) v = pTr ad v := by
  cases v <;> try rfl
  rename_i r
  have : r ≠ n := by simpa [pNoR] using h
  simp [pTr, pAdd, this]
theorem pTr_adds {ad : Nat → Nat} {n q : Nat} {st : List Value} (h : st.all (pNoR n) = true) : st.map (pTr (pAdd ad n q)) = st.map (pTr ad) := by
  apply List.map_congr_left
  intro v hv
  exact pTr_add (List.all_eq_true.mp h v hv)
/-- the locals as the kit's list -/
def pAs (ad : Nat → Nat) (L : PL) : List (Nat × Value) := (L.zipIdx).filterMap fun q => q.1.map fun v => (q.2, pTr ad v)
theorem pAs_mem {ad : Nat → Nat} {L : PL} {j : Nat} {w : Value} : (j, w) ∈ pAs ad L ↔ ∃ v, L[j]? = some (some v) ∧ w = pTr ad v := by
  unfold pAs
  rw [List.mem_filterMap]
  constructor
  · rintro ⟨⟨o, i⟩, h1, h2⟩
    rw [List.mem_zipIdx_iff_getElem?] at h1
    cases o with
    | none => cases h2
    | some v =>
      have h3 : (i, pTr ad v) = (j, w) := Option.some.inj h2
      cases h3
      exact ⟨v, h1, rfl⟩
  · rintro ⟨v, h1, rfl⟩
    exact ⟨(some v, j), List.mem_zipIdx_iff_getElem?.mpr h1, rfl⟩
theorem pAs_add {ad : Nat → Nat} {n q : Nat} {L : PL} (h : L.all (pNoL n) = true) {ls : Array Slot} {nL : Nat} (hl : lv_has ls nL (pAs ad L)) : lv_has ls nL (pAs (pAdd ad n q) L) := by
  refine ⟨hl.1, hl.2.1, fun p hp => ?_⟩
  obtain ⟨j, w⟩ := p
  obtain ⟨v, h1, rfl⟩ := pAs_mem.mp hp
  have h2 := List.all_eq_true.mp h _ (List.mem_of_getElem? h1)
  rw [pTr_add h2]
  exact hl.2.2 (j, pTr ad v) (pAs_mem.mpr ⟨v, h1, rfl⟩)
def pLd (L : PL) (i : Nat) : Option Value := L.getD i none
theorem pLd_at {ad : Nat → Nat} {L : PL} {ls : Array Slot} {nL i : Nat} {v : Value} (h : lv_has ls nL (pAs ad L)) (hv : pLd L i = some v) : ls[i]? = some (.val (pTr ad v)) := by
  refine h.2.2 (i, pTr ad v) (pAs_mem.mpr ⟨v, ?_, rfl⟩)
  unfold pLd at hv
  rw [List.getD_eq_getElem?_getD] at hv
  cases hL : L[i]? with
  | none => rw [hL] at hv; cases hv
  | some o => rw [hL] at hv; exact congrArg some hv
/-- a wide value just ahead is lost -/
def pKl (L : PL) (i : Nat) : PL := match i with
  | 0 => L
  | j + 1 => match pLd L j with
    | some v => if v.category = 2 then L.set j none else L
    | none => L
def pS1 (L : PL) (i : Nat) (v : Value) : PL := (pKl L i).set i (some v)
def pS2 (L : PL) (i : Nat) (v : Value) : PL := ((pKl L i).set i (some v)).set (i + 1) none
theorem pKl_at {L : PL} {i j : Nat} {w : Value} (h : (pKl L i)[j]? = some (some w)) : L[j]? = some (some w) ∧ ¬ (j + 1 = i ∧ w.category = 2) := by
  unfold pKl at h
  cases i with
  | zero => exact ⟨h, fun q => by omega⟩
  | succ i =>
    dsimp only at h
    have hset : ∀ {M : PL}, (M.set i none)[j]? = some (some w) → M[j]? = some (some w) ∧ j ≠ i := by
      intro M hM
      by_cases hj : j = i
      · subst hj
        rw [List.getElem?_set] at hM
        split at hM
        · split at hM <;> cases hM
        · rename_i hne; exact absurd rfl hne
      · rw [List.getElem?_set_ne (fun q => hj q.symm)] at hM
        exact ⟨hM, hj⟩
    cases hv : pLd L i with
    | none =>
      rw [hv] at h
      refine ⟨h, fun q => ?_⟩
      have e : j = i := by omega
      subst e
      unfold pLd at hv
      rw [List.getD_eq_getElem?_getD, h] at hv
      cases hv
    | some v =>
      rw [hv] at h
      dsimp only at h
      split at h
      · exact ⟨(hset h).1, fun q => (hset h).2 (by omega)⟩
      · rename_i hc
        refine ⟨h, fun q => ?_⟩
        have e : j = i := by omega
        subst e
        unfold pLd at hv
        rw [List.getD_eq_getElem?_getD, h] at hv
        cases hv
        exact hc q.2
theorem pS1_has {ad : Nat → Nat} {L : PL} {i : Nat} {v : Value} {ls : Array Slot} {nL : Nat} (h : lv_has ls nL ((i, pTr ad v) :: (pAs ad L).filter (fun q => !(q.1 == i) && !(q.1 + 1 == i && q.2.category == 2)))) : lv_has ls nL (pAs ad (pS1 L i v)) := by
  refine ⟨h.1, h.2.1, fun p hp => h.2.2 p ?_⟩
  obtain ⟨j, w⟩ := p
  obtain ⟨x, h1, rfl⟩ := pAs_mem.mp hp
  unfold pS1 at h1
  by_cases hj : j = i
  · subst hj
    rw [List.getElem?_set] at h1
    split at h1
    · split at h1
      · cases h1; exact List.mem_cons_self
      · cases h1
    · rename_i hne; exact absurd rfl hne
  · rw [List.getElem?_set_ne (fun q => hj q.symm)] at h1
    obtain ⟨h2, h3⟩ := pKl_at h1
    refine List.mem_cons_of_mem _ (List.mem_filter.mpr ⟨pAs_mem.mpr ⟨x, h2, rfl⟩, ?_⟩)
    simp only [pTr_cat, Bool.and_eq_true, Bool.not_eq_true', beq_eq_false_iff_ne, ne_eq, Bool.and_eq_false_iff]
    refine ⟨hj, ?_⟩
    by_cases e : j + 1 = i
    · exact Or.inr fun q => h3 ⟨e, q⟩
    · exact Or.inl e
theorem pS2_has {ad : Nat → Nat} {L : PL} {i : Nat} {v : Value} {ls : Array Slot} {nL : Nat} (h : lv_has ls nL ((i, pTr ad v) :: (pAs ad L).filter (fun q => !(q.1 == i) && (!(q.1 == i + 1) && !(q.1 + 1 == i && q.2.category == 2))))) : lv_has ls nL (pAs ad (pS2 L i v)) := by
  refine ⟨h.1, h.2.1, fun p hp => h.2.2 p ?_⟩
  obtain ⟨j, w⟩ := p
  obtain ⟨x, h1, rfl⟩ := pAs_mem.mp hp
  unfold pS2 at h1
  by_cases hj1 : j = i + 1
  · subst hj1
    rw [List.getElem?_set] at h1
    split at h1
    · split at h1 <;> cases h1
    · rename_i hne; exact absurd rfl hne
  rw [List.getElem?_set_ne (fun q => hj1 q.symm)] at h1
  by_cases hj : j = i
  · subst hj
    rw [List.getElem?_set] at h1
    split at h1
    · split at h1
      · cases h1; exact List.mem_cons_self
      · cases h1
    · rename_i hne; exact absurd rfl hne
  · rw [List.getElem?_set_ne (fun q => hj q.symm)] at h1
    obtain ⟨h2, h3⟩ := pKl_at h1
    refine List.mem_cons_of_mem _ (List.mem_filter.mpr ⟨pAs_mem.mpr ⟨x, h2, rfl⟩, ?_⟩)
    simp only [pTr_cat, Bool.and_eq_true, Bool.not_eq_true', beq_eq_false_iff_ne, ne_eq, Bool.and_eq_false_iff]
    refine ⟨hj, hj1, ?_⟩
    by_cases e : j + 1 = i
    · exact Or.inr fun q => h3 ⟨e, q⟩
    · exact Or.inl e
/-- forgetting locals -/
theorem pAs_weak {ad : Nat → Nat} {L L' : PL} {ls : Array Slot} {nL : Nat} (hw : ∀ (i : Nat) (v : Value), L'[i]? = some (some v) → L[i]? = some (some v)) (h : lv_has ls nL (pAs ad L)) : lv_has ls nL (pAs ad L') := by
  refine ⟨h.1, h.2.1, fun p hp => h.2.2 p ?_⟩
  obtain ⟨j, w⟩ := p
  obtain ⟨x, h1, rfl⟩ := pAs_mem.mp hp
  exact pAs_mem.mpr ⟨x, hw j x h1, rfl⟩
/-! the words -/
def pGood : List Cond := lw_tbl.filter goodWord
def pIsNest (w : Cond) : Bool := match w with
  | .fieldLinkNest _ _ _ _ _ _ => true
  | .methodLinkNest _ _ _ _ => true
  | _ => false
def pNest : List Cond := lw_tbl.filter pIsNest
theorem pGood_in {w : Cond} (i : Nat) (h : lw_tbl[i]? = some w) (hg : goodWord w = true) : w ∈ pGood := List.mem_filter.mpr ⟨List.mem_of_getElem? h, hg⟩
theorem pNest_in {w : Cond} (i : Nat) (h : lw_tbl[i]? = some w) (hg : pIsNest w = true) : w ∈ pNest := List.mem_filter.mpr ⟨List.mem_of_getElem? h, hg⟩
theorem pGood_ok {ws : List Cond} (h : ∀ w ∈ ws, w ∈ pGood) : GoodIn pGood ws := fun w hw => ⟨h w hw, good_of_word (List.mem_filter.mp (h w hw)).2⟩
theorem pNest_warm {s U : State} (hW : s.WarmedH U.vm) {w : Cond} (hw : w ∈ pNest) (h : va_Nw w s) : va_Nw w U := by
  have := (List.mem_filter.mp hw).2
  unfold pIsNest at this
  split at this
  · exact va_Nw.warmF hW h
  · exact va_Nw.warmM hW h
  · cases this
theorem pNest_tab {w : Cond} (hw : w ∈ pNest) : w.onTables = true := by
  have := (List.mem_filter.mp hw).2
  unfold pIsNest at this
  split at this
  · rfl
  · rfl
  · cases this
def pTys (tc : Nat → ClassId) : List (ClassId × FieldType) := [(tc 0, .int), (tc 1, .float), (tc 2, .boolean), (tc 3, .long), (tc 4, .double)]
def pKK (D : va_G) (tc : Nat → ClassId) (U : State) : Prop := va_K D vwCl (pTys tc) U ∧ ∀ w ∈ pNest, va_Nw w U
theorem pKK.moved {D : va_G} {tc : Nat → ClassId} {s U : State} (hW : s.WarmedH U.vm) (h : pKK D tc s) : pKK D tc U := ⟨va_K.moved hW.alike h.1, fun w hw => pNest_warm hW hw (h.2 w hw)⟩
theorem pKK.same {D : va_G} {tc : Nat → ClassId} {s U : State} (hv : s.vm = U.vm) (h : pKK D tc s) : pKK D tc U := ⟨va_K.moved (by rw [hv]; exact Vm.Alike.refl _) h.1, fun w hw => va_Nw.same (pNest_tab hw) hv (h.2 w hw)⟩
/-- the arrays that nobody writes: the script (1000), LEAST, MOST -/
def pRoC (X : Nat × (Nat → Int32)) (j : Nat) : Nat × (Nat → Int32) := match j with
  | 0 => X
  | 1 => (5, fun k => ([0, 1, -12, 1, 0] : List Int32).getD k 0)
  | _ => (5, fun k => ([2, 64, 20, 12, 9] : List Int32).getD k 0)
def pRO (ad : Nat → Nat) (X : Nat × (Nat → Int32)) (A : Nat → Prop) (U : State) (H : Heap) : Prop :=
  (∀ j, j < 3 → ad (1000 + j) < H.size ∧ ¬ A (ad (1000 + j)) ∧ va_X (ad (1000 + j)) (pRoC X j).1 (pRoC X j).2 U H) ∧
  va_Z "EngravedLines" "LEAST" "[I" (.ref (ad 1001)) A U H ∧ va_Z "EngravedLines" "MOST" "[I" (.ref (ad 1002)) A U H
theorem pRO.moved {ad : Nat → Nat} {X : Nat × (Nat → Int32)} {A : Nat → Prop} {u U : State} {H : Heap} (hvm : u.vm.Alike U.vm) (h : pRO ad X A u H) : pRO ad X A U H :=
  ⟨fun j hj => ⟨(h.1 j hj).1, (h.1 j hj).2.1, (h.1 j hj).2.2.moved hvm⟩, va_Z.moved hvm h.2.1, va_Z.moved hvm h.2.2⟩
theorem pRO.kept {ad : Nat → Nat} {X : Nat × (Nat → Int32)} {A : Nat → Prop} {U : State} {H H1 : Heap} (h : pRO ad X A U H) (hz : H.size ≤ H1.size) (hq : ∀ a : Nat, a < H.size → ¬ A a → H1[a]? = H[a]?) : pRO ad X A U H1 :=
  ⟨fun j hj => ⟨Nat.lt_of_lt_of_le (h.1 j hj).1 hz, (h.1 j hj).2.1, (h.1 j hj).2.2.kept (hq _ (h.1 j hj).1 (h.1 j hj).2.1)⟩, h.2.1.kept hq, h.2.2.kept hq⟩
theorem pRO.narrow {ad : Nat → Nat} {X : Nat × (Nat → Int32)} {A B : Nat → Prop} {U : State} {H : Heap} (h : pRO ad X A U H) (hAB : ∀ q, B q → A q) : pRO ad X B U H :=
  ⟨fun j hj => ⟨(h.1 j hj).1, fun q => (h.1 j hj).2.1 (hAB _ q), (h.1 j hj).2.2⟩, h.2.1.narrow hAB, h.2.2.narrow hAB⟩
theorem pRO.ads {ad ad' : Nat → Nat} {X : Nat × (Nat → Int32)} {A : Nat → Prop} {U : State} {H : Heap} (he : ∀ k, 1000 ≤ k → ad' k = ad k) (h : pRO ad X A U H) : pRO ad' X A U H := by
  refine ⟨fun j hj => ?_, ?_, ?_⟩
  · rw [he (1000 + j) (by omega)]; exact h.1 j hj
  · rw [he 1001 (by omega)]; exact h.2.1
  · rw [he 1002 (by omega)]; exact h.2.2
/-! contracts and walks -/
def pRoom (d mc ms : Nat) : Room := { frames := d, cells := mc, slots := ms, locals := 39 * d }
def pWs (M : PM) : List Cond := .code M.1 M.2.1 M.2.2.1 M.2.2.2.1 :: pGood
def pPc (av : List Value) (D : va_G) (tc ad : Nat → Nat) (X : Nat × (Nat → Int32)) (sh : List PSh) (S : PSt) (sz : Nat) : Array Value → State → Prop := fun v U =>
  v = (av.map (pTr ad)).toArray ∧ U.heap.size = sz ∧ va_P D vwCl (pW tc ad sh S) U.heap ∧ pKK D tc U ∧ va_D (fun _ => True) (pW tc ad sh S) ∧ pRO ad X (va_A (pW tc ad sh S) sz) U U.heap
def pQc (A : Nat → Prop) (D : va_G) (tc ad : Nat → Nat) (n0 : Nat) (Q : PQ) : Array Value → State → Outcome → State → Prop := fun _ st o t =>
  (∃ (r : Option Value) (sh : List PSh) (S : PSt) (ad' : Nat → Nat), (∀ k, ¬ (n0 ≤ k ∧ k < sh.length) → ad' k = ad k) ∧ n0 ≤ sh.length ∧ sh.length < 1000 ∧ pShOk sh ∧ o = .returned (r.map (pTr ad')) ∧ Q r sh S ∧ va_P D vwCl (pW tc ad' sh S) t.heap ∧ va_D A (pW tc ad' sh S)) ∧ va_F A st t
/-- the contract of a method: from the arguments av, the shapes sh, the contents S it returns, with Q; calls that stand open below it: d -/
def pSpec (M : PM) (d mc ms : Nat) (av : List Value) (X : Nat × (Nat → Int32)) (sh : List PSh) (S : PSt) (Q : PQ) : Prop :=
  sh.length < 1000 → pShOk sh → ∀ (l : Launch) (D : va_G) (tc ad : Nat → Nat) (sz : Nat), Met l M.1 (pWs M) (pRoom d mc ms) (pPc av D tc ad X sh S sz) (pQc (va_A (pW tc ad sh S) sz) D tc ad sh.length Q) mc ms (va_A (pW tc ad sh S) sz)
def pCtx (M : PM) (p : Program) (s : State) (m : MethodId) (args : Array Value) (meth : Method) (c : Code) : Prop :=
  p.tables.exec = Jvm.exec ∧ c.code = M.2.1 ∧ c.maxLocals = M.2.2.1 ∧ meth.sig.returnType = M.2.2.2.1 ∧ s.vm.findClass M.1.cls = some m.cls ∧ meth.locks = false ∧ (M.1.name = "<init>" → meth.name = "<init>") ∧ ∀ w ∈ pGood, w.before args s = true
/-- what moves on: addresses, the world, the locals -/
def pNow (n0 nL : Nat) (D : va_G) (tc ad0 ad : Nat → Nat) (A : Nat → Prop) (s : State) (H : Heap) (locs : List Loc) (ls : Array Slot) (L : PL) (sh : List PSh) (S : PSt) : Prop :=
  (∀ k, ¬ (n0 ≤ k ∧ k < sh.length) → ad k = ad0 k) ∧ n0 ≤ sh.length ∧ sh.length < 1000 ∧ pShOk sh ∧ va_P D vwCl (pW tc ad sh S) H ∧ va_D A (pW tc ad sh S) ∧ va_S A s.heap H locs ∧ lv_has ls nL (pAs ad L)
/-- the method goes on from pc with the locals L, the stack st, cells and slots made so far, and comes to its end with Q -/
def pWP (M : PM) (d mc ms n0 : Nat) (X : Nat × (Nat → Int32)) (Q : PQ) (pc : Nat) (L : PL) (st : List Value) (kc ks : Nat) (sh : List PSh) (S : PSt) : Prop :=
  ∀ (p : Program) (l : Launch) (e : Env) (R : Room) (s : State) (m : MethodId) (args : Array Value) (below : List Frame) (meth : Method) (c : Code) (D : va_G) (tc ad0 : Nat → Nat) (A : Nat → Prop),
    pTabOk M.2.1 M.2.2.2.2 = true → pCtx M p s m args meth c → (d ≤ R.frames ∧ 39 * d ≤ R.locals ∧ mc ≤ R.cells ∧ ms ≤ R.slots) → pKK D tc s → pRO ad0 X A s s.heap → (∀ q, s.heap.size ≤ q → A q) →
    ∀ (ad : Nat → Nat) (H : Heap) (locs : List Loc) (ls : Array Slot), pNow n0 M.2.2.1 D tc ad0 ad A s H locs ls L sh S →
      W p l e R s m args below meth c H locs kc ks (MQ below (pQc A D tc ad0 n0 Q) args s mc ms A) (F0 m pc ls (st.map (pTr ad)))
end
section
/-! rules of the pure machine: written by wip/whole/gen/rules.py -/
def pLook (t : pTab) (pc : Nat) : Option (Instr × Nat) := (t.find? fun q => q.1 == pc).map fun q => q.2
theorem pLook_ok {c : ByteArray} {t : pTab} {pc len : Nat} {i : Instr} (ht : pTabOk c t = true) (h : pLook t pc = some (i, len)) : decode c pc = .ok (i, len) := by
  unfold pLook at h
  cases hf : t.find? (fun q => q.1 == pc) with
  | none => rw [hf] at h; cases h
  | some q =>
    rw [hf] at h
    have h1 : q.2 = (i, len) := Option.some.inj h
    have h2 : q.1 = pc := by simpa using List.find?_some hf
    have h3 := List.all_eq_true.mp ht q (List.mem_of_find?_eq_some hf)
    have h4 := of_decide_eq_true h3
    rw [h2, h1] at h4
    exact h4
theorem pNow.st {n0 nL : Nat} {D : va_G} {tc ad0 ad : Nat → Nat} {A : Nat → Prop} {s : State} {H : Heap} {locs : List Loc} {ls ls' : Array Slot} {L L' : PL} {sh : List PSh} {S : PSt} (h : pNow n0 nL D tc ad0 ad A s H locs ls L sh S) (hl : lv_has ls' nL (pAs ad L')) : pNow n0 nL D tc ad0 ad A s H locs ls' L' sh S :=
  ⟨h.1, h.2.1, h.2.2.1, h.2.2.2.1, h.2.2.2.2.1, h.2.2.2.2.2.1, h.2.2.2.2.2.2.1, hl⟩
theorem pNow.ls {n0 nL : Nat} {D : va_G} {tc ad0 ad : Nat → Nat} {A : Nat → Prop} {s : State} {H : Heap} {locs : List Loc} {ls : Array Slot} {L : PL} {sh : List PSh} {S : PSt} (h : pNow n0 nL D tc ad0 ad A s H locs ls L sh S) : lv_has ls nL (pAs ad L) := h.2.2.2.2.2.2.2
section PR
variable {M : PM} {d mc ms n0 : Nat} {X : Nat × (Nat → Int32)} {Q : PQ} {pc : Nat} {L : PL} {st : List Value} {kc ks : Nat} {sh : List PSh} {S : PSt}
theorem pr_iconst {n : Int} (hi : pLook M.2.2.2.2 pc = some (.iconst n, 1)) (k : pWP M d mc ms n0 X Q (pc + 1) L (.int (Int32.ofInt n) :: st) kc ks sh S) : pWP M d mc ms n0 X Q pc L st kc ks sh S := by
  intro p l e R s m args below meth c D tc ad0 A hT hC hR hK hO hA ad H locs ls hN
  exact lv_iconst hC.1 hC.2.1 (pLook_ok hT hi) rfl (k p l e R s m args below meth c D tc ad0 A hT hC hR hK hO hA ad H locs ls hN)
theorem pr_bipush {n : Int} (hi : pLook M.2.2.2.2 pc = some (.bipush n, 2)) (k : pWP M d mc ms n0 X Q (pc + 2) L (.int (Int8.ofInt n).toInt32 :: st) kc ks sh S) : pWP M d mc ms n0 X Q pc L st kc ks sh S := by
  intro p l e R s m args below meth c D tc ad0 A hT hC hR hK hO hA ad H locs ls hN
  exact lv_bipush hC.1 hC.2.1 (pLook_ok hT hi) rfl (k p l e R s m args below meth c D tc ad0 A hT hC hR hK hO hA ad H locs ls hN)
theorem pr_sipush {n : Int} (hi : pLook M.2.2.2.2 pc = some (.sipush n, 3)) (k : pWP M d mc ms n0 X Q (pc + 3) L (.int (Int16.ofInt n).toInt32 :: st) kc ks sh S) : pWP M d mc ms n0 X Q pc L st kc ks sh S := by
  intro p l e R s m args below meth c D tc ad0 A hT hC hR hK hO hA ad H locs ls hN
  exact lv_sipush hC.1 hC.2.1 (pLook_ok hT hi) rfl (k p l e R s m args below meth c D tc ad0 A hT hC hR hK hO hA ad H locs ls hN)
theorem pr_lconst {n : Fin 2} (hi : pLook M.2.2.2.2 pc = some (.lconst n, 1)) (k : pWP M d mc ms n0 X Q (pc + 1) L (.long (Int64.ofNat (n : Nat)) :: st) kc ks sh S) : pWP M d mc ms n0 X Q pc L st kc ks sh S := by
  intro p l e R s m args below meth c D tc ad0 A hT hC hR hK hO hA ad H locs ls hN
  exact lv_lconst hC.1 hC.2.1 (pLook_ok hT hi) rfl (k p l e R s m args below meth c D tc ad0 A hT hC hR hK hO hA ad H locs ls hN)
theorem pr_fconst0  (hi : pLook M.2.2.2.2 pc = some (.fconst 0, 1)) (k : pWP M d mc ms n0 X Q (pc + 1) L (.float FP.fconst0 :: st) kc ks sh S) : pWP M d mc ms n0 X Q pc L st kc ks sh S := by
  intro p l e R s m args below meth c D tc ad0 A hT hC hR hK hO hA ad H locs ls hN
  exact lv_fconst0 hC.1 hC.2.1 (pLook_ok hT hi)  (k p l e R s m args below meth c D tc ad0 A hT hC hR hK hO hA ad H locs ls hN)
theorem pr_fconst1  (hi : pLook M.2.2.2.2 pc = some (.fconst 1, 1)) (k : pWP M d mc ms n0 X Q (pc + 1) L (.float FP.fconst1 :: st) kc ks sh S) : pWP M d mc ms n0 X Q pc L st kc ks sh S := by
  intro p l e R s m args below meth c D tc ad0 A hT hC hR hK hO hA ad H locs ls hN
  exact lv_fconst1 hC.1 hC.2.1 (pLook_ok hT hi)  (k p l e R s m args below meth c D tc ad0 A hT hC hR hK hO hA ad H locs ls hN)
theorem pr_fconst2  (hi : pLook M.2.2.2.2 pc = some (.fconst 2, 1)) (k : pWP M d mc ms n0 X Q (pc + 1) L (.float FP.fconst2 :: st) kc ks sh S) : pWP M d mc ms n0 X Q pc L st kc ks sh S := by
  intro p l e R s m args below meth c D tc ad0 A hT hC hR hK hO hA ad H locs ls hN
  exact lv_fconst2 hC.1 hC.2.1 (pLook_ok hT hi)  (k p l e R s m args below meth c D tc ad0 A hT hC hR hK hO hA ad H locs ls hN)
theorem pr_dconst0  (hi : pLook M.2.2.2.2 pc = some (.dconst 0, 1)) (k : pWP M d mc ms n0 X Q (pc + 1) L (.double FP.dconst0 :: st) kc ks sh S) : pWP M d mc ms n0 X Q pc L st kc ks sh S := by
  intro p l e R s m args below meth c D tc ad0 A hT hC hR hK hO hA ad H locs ls hN
  exact lv_dconst0 hC.1 hC.2.1 (pLook_ok hT hi)  (k p l e R s m args below meth c D tc ad0 A hT hC hR hK hO hA ad H locs ls hN)
theorem pr_dconst1  (hi : pLook M.2.2.2.2 pc = some (.dconst 1, 1)) (k : pWP M d mc ms n0 X Q (pc + 1) L (.double FP.dconst1 :: st) kc ks sh S) : pWP M d mc ms n0 X Q pc L st kc ks sh S := by
  intro p l e R s m args below meth c D tc ad0 A hT hC hR hK hO hA ad H locs ls hN
  exact lv_dconst1 hC.1 hC.2.1 (pLook_ok hT hi)  (k p l e R s m args below meth c D tc ad0 A hT hC hR hK hO hA ad H locs ls hN)
theorem pr_iload_n {j : Fin 4} {x : Int32} (hi : pLook M.2.2.2.2 pc = some (.iload_n j, 1)) (hl : pLd L (j : Nat) = some (.int x)) (k : pWP M d mc ms n0 X Q (pc + 1) L (.int x :: st) kc ks sh S) : pWP M d mc ms n0 X Q pc L st kc ks sh S := by
  intro p l e R s m args below meth c D tc ad0 A hT hC hR hK hO hA ad H locs ls hN
  exact lv_iload_n hC.1 hC.2.1 (pLook_ok hT hi) rfl (pLd_at hN.ls hl) (k p l e R s m args below meth c D tc ad0 A hT hC hR hK hO hA ad H locs ls hN)
theorem pr_iload {j : Nat} {x : Int32} (hi : pLook M.2.2.2.2 pc = some (.iload j, 2)) (hl : pLd L j = some (.int x)) (k : pWP M d mc ms n0 X Q (pc + 2) L (.int x :: st) kc ks sh S) : pWP M d mc ms n0 X Q pc L st kc ks sh S := by
  intro p l e R s m args below meth c D tc ad0 A hT hC hR hK hO hA ad H locs ls hN
  exact lv_iload hC.1 hC.2.1 (pLook_ok hT hi) (pLd_at hN.ls hl) (k p l e R s m args below meth c D tc ad0 A hT hC hR hK hO hA ad H locs ls hN)
theorem pr_lload_n {j : Fin 4} {x : Int64} (hi : pLook M.2.2.2.2 pc = some (.lload_n j, 1)) (hl : pLd L (j : Nat) = some (.long x)) (k : pWP M d mc ms n0 X Q (pc + 1) L (.long x :: st) kc ks sh S) : pWP M d mc ms n0 X Q pc L st kc ks sh S := by
  intro p l e R s m args below meth c D tc ad0 A hT hC hR hK hO hA ad H locs ls hN
  exact lv_lload_n hC.1 hC.2.1 (pLook_ok hT hi) rfl (pLd_at hN.ls hl) (k p l e R s m args below meth c D tc ad0 A hT hC hR hK hO hA ad H locs ls hN)
theorem pr_lload {j : Nat} {x : Int64} (hi : pLook M.2.2.2.2 pc = some (.lload j, 2)) (hl : pLd L j = some (.long x)) (k : pWP M d mc ms n0 X Q (pc + 2) L (.long x :: st) kc ks sh S) : pWP M d mc ms n0 X Q pc L st kc ks sh S := by
  intro p l e R s m args below meth c D tc ad0 A hT hC hR hK hO hA ad H locs ls hN
  exact lv_lload hC.1 hC.2.1 (pLook_ok hT hi) (pLd_at hN.ls hl) (k p l e R s m args below meth c D tc ad0 A hT hC hR hK hO hA ad H locs ls hN)
theorem pr_fload_n {j : Fin 4} {x : UInt32} (hi : pLook M.2.2.2.2 pc = some (.fload_n j, 1)) (hl : pLd L (j : Nat) = some (.float x)) (k : pWP M d mc ms n0 X Q (pc + 1) L (.float x :: st) kc ks sh S) : pWP M d mc ms n0 X Q pc L st kc ks sh S := by
  intro p l e R s m args below meth c D tc ad0 A hT hC hR hK hO hA ad H locs ls hN
  exact lv_fload_n hC.1 hC.2.1 (pLook_ok hT hi) rfl (pLd_at hN.ls hl) (k p l e R s m args below meth c D tc ad0 A hT hC hR hK hO hA ad H locs ls hN)
theorem pr_fload {j : Nat} {x : UInt32} (hi : pLook M.2.2.2.2 pc = some (.fload j, 2)) (hl : pLd L j = some (.float x)) (k : pWP M d mc ms n0 X Q (pc + 2) L (.float x :: st) kc ks sh S) : pWP M d mc ms n0 X Q pc L st kc ks sh S := by
  intro p l e R s m args below meth c D tc ad0 A hT hC hR hK hO hA ad H locs ls hN
  exact lv_fload hC.1 hC.2.1 (pLook_ok hT hi) (pLd_at hN.ls hl) (k p l e R s m args below meth c D tc ad0 A hT hC hR hK hO hA ad H locs ls hN)
theorem pr_dload_n {j : Fin 4} {x : UInt64} (hi : pLook M.2.2.2.2 pc = some (.dload_n j, 1)) (hl : pLd L (j : Nat) = some (.double x)) (k : pWP M d mc ms n0 X Q (pc + 1) L (.double x :: st) kc ks sh S) : pWP M d mc ms n0 X Q pc L st kc ks sh S := by
  intro p l e R s m args below meth c D tc ad0 A hT hC hR hK hO hA ad H locs ls hN
  exact lv_dload_n hC.1 hC.2.1 (pLook_ok hT hi) rfl (pLd_at hN.ls hl) (k p l e R s m args below meth c D tc ad0 A hT hC hR hK hO hA ad H locs ls hN)
theorem pr_dload {j : Nat} {x : UInt64} (hi : pLook M.2.2.2.2 pc = some (.dload j, 2)) (hl : pLd L j = some (.double x)) (k : pWP M d mc ms n0 X Q (pc + 2) L (.double x :: st) kc ks sh S) : pWP M d mc ms n0 X Q pc L st kc ks sh S := by
  intro p l e R s m args below meth c D tc ad0 A hT hC hR hK hO hA ad H locs ls hN
  exact lv_dload hC.1 hC.2.1 (pLook_ok hT hi) (pLd_at hN.ls hl) (k p l e R s m args below meth c D tc ad0 A hT hC hR hK hO hA ad H locs ls hN)
theorem pr_aload_n {j : Fin 4} {x : Nat} (hi : pLook M.2.2.2.2 pc = some (.aload_n j, 1)) (hl : pLd L (j : Nat) = some (.ref x)) (k : pWP M d mc ms n0 X Q (pc + 1) L (.ref x :: st) kc ks sh S) : pWP M d mc ms n0 X Q pc L st kc ks sh S := by
  intro p l e R s m args below meth c D tc ad0 A hT hC hR hK hO hA ad H locs ls hN
  exact lv_aload_n hC.1 hC.2.1 (pLook_ok hT hi) rfl (pLd_at hN.ls hl) (k p l e R s m args below meth c D tc ad0 A hT hC hR hK hO hA ad H locs ls hN)
theorem pr_aload {j : Nat} {x : Nat} (hi : pLook M.2.2.2.2 pc = some (.aload j, 2)) (hl : pLd L j = some (.ref x)) (k : pWP M d mc ms n0 X Q (pc + 2) L (.ref x :: st) kc ks sh S) : pWP M d mc ms n0 X Q pc L st kc ks sh S := by
  intro p l e R s m args below meth c D tc ad0 A hT hC hR hK hO hA ad H locs ls hN
  exact lv_aload hC.1 hC.2.1 (pLook_ok hT hi) (pLd_at hN.ls hl) (k p l e R s m args below meth c D tc ad0 A hT hC hR hK hO hA ad H locs ls hN)
theorem pr_istore_n {j : Fin 4} {x : Int32} (hi : pLook M.2.2.2.2 pc = some (.istore_n j, 1)) (hj : (j : Nat) < M.2.2.1) (k : pWP M d mc ms n0 X Q (pc + 1) (pS1 L (j : Nat) (.int x)) st kc ks sh S) : pWP M d mc ms n0 X Q pc L (.int x :: st) kc ks sh S := by
  intro p l e R s m args below meth c D tc ad0 A hT hC hR hK hO hA ad H locs ls hN
  exact lv_istore_n hC.1 hC.2.1 (pLook_ok hT hi) rfl hN.ls hj rfl (fun ls2 h2 => k p l e R s m args below meth c D tc ad0 A hT hC hR hK hO hA ad H locs ls2 (hN.st (pS1_has (v := .int x) h2)))
theorem pr_istore {j : Nat} {x : Int32} (hi : pLook M.2.2.2.2 pc = some (.istore j, 2)) (hj : j < M.2.2.1) (k : pWP M d mc ms n0 X Q (pc + 2) (pS1 L j (.int x)) st kc ks sh S) : pWP M d mc ms n0 X Q pc L (.int x :: st) kc ks sh S := by
  intro p l e R s m args below meth c D tc ad0 A hT hC hR hK hO hA ad H locs ls hN
  exact lv_istore hC.1 hC.2.1 (pLook_ok hT hi)  hN.ls hj rfl (fun ls2 h2 => k p l e R s m args below meth c D tc ad0 A hT hC hR hK hO hA ad H locs ls2 (hN.st (pS1_has (v := .int x) h2)))
theorem pr_lstore_n {j : Fin 4} {x : Int64} (hi : pLook M.2.2.2.2 pc = some (.lstore_n j, 1)) (hj : (j : Nat) + 1 < M.2.2.1) (k : pWP M d mc ms n0 X Q (pc + 1) (pS2 L (j : Nat) (.long x)) st kc ks sh S) : pWP M d mc ms n0 X Q pc L (.long x :: st) kc ks sh S := by
  intro p l e R s m args below meth c D tc ad0 A hT hC hR hK hO hA ad H locs ls hN
  exact lv_lstore_n hC.1 hC.2.1 (pLook_ok hT hi) rfl hN.ls hj rfl (fun ls2 h2 => k p l e R s m args below meth c D tc ad0 A hT hC hR hK hO hA ad H locs ls2 (hN.st (pS2_has (v := .long x) h2)))
theorem pr_lstore {j : Nat} {x : Int64} (hi : pLook M.2.2.2.2 pc = some (.lstore j, 2)) (hj : j + 1 < M.2.2.1) (k : pWP M d mc ms n0 X Q (pc + 2) (pS2 L j (.long x)) st kc ks sh S) : pWP M d mc ms n0 X Q pc L (.long x :: st) kc ks sh S := by
  intro p l e R s m args below meth c D tc ad0 A hT hC hR hK hO hA ad H locs ls hN
  exact lv_lstore hC.1 hC.2.1 (pLook_ok hT hi)  hN.ls hj rfl (fun ls2 h2 => k p l e R s m args below meth c D tc ad0 A hT hC hR hK hO hA ad H locs ls2 (hN.st (pS2_has (v := .long x) h2)))
theorem pr_fstore_n {j : Fin 4} {x : UInt32} (hi : pLook M.2.2.2.2 pc = some (.fstore_n j, 1)) (hj : (j : Nat) < M.2.2.1) (k : pWP M d mc ms n0 X Q (pc + 1) (pS1 L (j : Nat) (.float x)) st kc ks sh S) : pWP M d mc ms n0 X Q pc L (.float x :: st) kc ks sh S := by
  intro p l e R s m args below meth c D tc ad0 A hT hC hR hK hO hA ad H locs ls hN
  exact lv_fstore_n hC.1 hC.2.1 (pLook_ok hT hi) rfl hN.ls hj rfl (fun ls2 h2 => k p l e R s m args below meth c D tc ad0 A hT hC hR hK hO hA ad H locs ls2 (hN.st (pS1_has (v := .float x) h2)))
theorem pr_fstore {j : Nat} {x : UInt32} (hi : pLook M.2.2.2.2 pc = some (.fstore j, 2)) (hj : j < M.2.2.1) (k : pWP M d mc ms n0 X Q (pc + 2) (pS1 L j (.float x)) st kc ks sh S) : pWP M d mc ms n0 X Q pc L (.float x :: st) kc ks sh S := by
  intro p l e R s m args below meth c D tc ad0 A hT hC hR hK hO hA ad H locs ls hN
  exact lv_fstore hC.1 hC.2.1 (pLook_ok hT hi)  hN.ls hj rfl (fun ls2 h2 => k p l e R s m args below meth c D tc ad0 A hT hC hR hK hO hA ad H locs ls2 (hN.st (pS1_has (v := .float x) h2)))
theorem pr_dstore_n {j : Fin 4} {x : UInt64} (hi : pLook M.2.2.2.2 pc = some (.dstore_n j, 1)) (hj : (j : Nat) + 1 < M.2.2.1) (k : pWP M d mc ms n0 X Q (pc + 1) (pS2 L (j : Nat) (.double x)) st kc ks sh S) : pWP M d mc ms n0 X Q pc L (.double x :: st) kc ks sh S := by
  intro p l e R s m args below meth c D tc ad0 A hT hC hR hK hO hA ad H locs ls hN
  exact lv_dstore_n hC.1 hC.2.1 (pLook_ok hT hi) rfl hN.ls hj rfl (fun ls2 h2 => k p l e R s m args below meth c D tc ad0 A hT hC hR hK hO hA ad H locs ls2 (hN.st (pS2_has (v := .double x) h2)))
theorem pr_dstore {j : Nat} {x : UInt64} (hi : pLook M.2.2.2.2 pc = some (.dstore j, 2)) (hj : j + 1 < M.2.2.1) (k : pWP M d mc ms n0 X Q (pc + 2) (pS2 L j (.double x)) st kc ks sh S) : pWP M d mc ms n0 X Q pc L (.double x :: st) kc ks sh S := by
  intro p l e R s m args below meth c D tc ad0 A hT hC hR hK hO hA ad H locs ls hN
  exact lv_dstore hC.1 hC.2.1 (pLook_ok hT hi)  hN.ls hj rfl (fun ls2 h2 => k p l e R s m args below meth c D tc ad0 A hT hC hR hK hO hA ad H locs ls2 (hN.st (pS2_has (v := .double x) h2)))
theorem pr_astore_n {j : Fin 4} {x : Nat} (hi : pLook M.2.2.2.2 pc = some (.astore_n j, 1)) (hj : (j : Nat) < M.2.2.1) (k : pWP M d mc ms n0 X Q (pc + 1) (pS1 L (j : Nat) (.ref x)) st kc ks sh S) : pWP M d mc ms n0 X Q pc L (.ref x :: st) kc ks sh S := by
  intro p l e R s m args below meth c D tc ad0 A hT hC hR hK hO hA ad H locs ls hN
  exact lv_astore_n hC.1 hC.2.1 (pLook_ok hT hi) rfl hN.ls hj rfl (fun ls2 h2 => k p l e R s m args below meth c D tc ad0 A hT hC hR hK hO hA ad H locs ls2 (hN.st (pS1_has (v := .ref x) h2)))
theorem pr_astore {j : Nat} {x : Nat} (hi : pLook M.2.2.2.2 pc = some (.astore j, 2)) (hj : j < M.2.2.1) (k : pWP M d mc ms n0 X Q (pc + 2) (pS1 L j (.ref x)) st kc ks sh S) : pWP M d mc ms n0 X Q pc L (.ref x :: st) kc ks sh S := by
  intro p l e R s m args below meth c D tc ad0 A hT hC hR hK hO hA ad H locs ls hN
  exact lv_astore hC.1 hC.2.1 (pLook_ok hT hi)  hN.ls hj rfl (fun ls2 h2 => k p l e R s m args below meth c D tc ad0 A hT hC hR hK hO hA ad H locs ls2 (hN.st (pS1_has (v := .ref x) h2)))
theorem pr_iinc {j : Nat} {n : Int} {x : Int32} (hi : pLook M.2.2.2.2 pc = some (.iinc j n, 3)) (hj : j < M.2.2.1) (hl : pLd L j = some (.int x)) (k : pWP M d mc ms n0 X Q (pc + 3) (pS1 L j (.int (x + Int32.ofInt n))) st kc ks sh S) : pWP M d mc ms n0 X Q pc L st kc ks sh S := by
  intro p l e R s m args below meth c D tc ad0 A hT hC hR hK hO hA ad H locs ls hN
  have hm : (j, Value.int x) ∈ pAs ad L := pAs_mem.mpr ⟨.int x, by
    unfold pLd at hl
    rw [List.getD_eq_getElem?_getD] at hl
    cases hL : L[j]? with
    | none => rw [hL] at hl; cases hl
    | some o => rw [hL] at hl; exact congrArg some hl, rfl⟩
  obtain ⟨i9, h9⟩ := List.getElem?_of_mem hm
  exact lv_iinc hC.1 hC.2.1 (pLook_ok hT hi) hN.ls h9 rfl hj rfl (fun ls2 h2 => k p l e R s m args below meth c D tc ad0 A hT hC hR hK hO hA ad H locs ls2 (hN.st (pS1_has (v := .int _) h2)))
theorem pr_iadd  {x : Int32} {y : Int32} (hi : pLook M.2.2.2.2 pc = some (.iadd, 1)) (k : pWP M d mc ms n0 X Q (pc + 1) L (.int (x + y) :: st) kc ks sh S) : pWP M d mc ms n0 X Q pc L (.int y :: .int x :: st) kc ks sh S := by
  intro p l e R s m args below meth c D tc ad0 A hT hC hR hK hO hA ad H locs ls hN
  exact lv_iadd hC.1 hC.2.1 (pLook_ok hT hi)  (k p l e R s m args below meth c D tc ad0 A hT hC hR hK hO hA ad H locs ls hN)
theorem pr_isub  {x : Int32} {y : Int32} (hi : pLook M.2.2.2.2 pc = some (.isub, 1)) (k : pWP M d mc ms n0 X Q (pc + 1) L (.int (x - y) :: st) kc ks sh S) : pWP M d mc ms n0 X Q pc L (.int y :: .int x :: st) kc ks sh S := by
  intro p l e R s m args below meth c D tc ad0 A hT hC hR hK hO hA ad H locs ls hN
  exact lv_isub hC.1 hC.2.1 (pLook_ok hT hi)  (k p l e R s m args below meth c D tc ad0 A hT hC hR hK hO hA ad H locs ls hN)
theorem pr_imul  {x : Int32} {y : Int32} (hi : pLook M.2.2.2.2 pc = some (.imul, 1)) (k : pWP M d mc ms n0 X Q (pc + 1) L (.int (x * y) :: st) kc ks sh S) : pWP M d mc ms n0 X Q pc L (.int y :: .int x :: st) kc ks sh S := by
  intro p l e R s m args below meth c D tc ad0 A hT hC hR hK hO hA ad H locs ls hN
  exact lv_imul hC.1 hC.2.1 (pLook_ok hT hi)  (k p l e R s m args below meth c D tc ad0 A hT hC hR hK hO hA ad H locs ls hN)
theorem pr_iand  {x : Int32} {y : Int32} (hi : pLook M.2.2.2.2 pc = some (.iand, 1)) (k : pWP M d mc ms n0 X Q (pc + 1) L (.int (x &&& y) :: st) kc ks sh S) : pWP M d mc ms n0 X Q pc L (.int y :: .int x :: st) kc ks sh S := by
  intro p l e R s m args below meth c D tc ad0 A hT hC hR hK hO hA ad H locs ls hN
  exact lv_iand hC.1 hC.2.1 (pLook_ok hT hi)  (k p l e R s m args below meth c D tc ad0 A hT hC hR hK hO hA ad H locs ls hN)
theorem pr_ineg  {x : Int32} (hi : pLook M.2.2.2.2 pc = some (.ineg, 1)) (k : pWP M d mc ms n0 X Q (pc + 1) L (.int (-x) :: st) kc ks sh S) : pWP M d mc ms n0 X Q pc L (.int x :: st) kc ks sh S := by
  intro p l e R s m args below meth c D tc ad0 A hT hC hR hK hO hA ad H locs ls hN
  exact lv_ineg hC.1 hC.2.1 (pLook_ok hT hi)  (k p l e R s m args below meth c D tc ad0 A hT hC hR hK hO hA ad H locs ls hN)
theorem pr_ishl  {x : Int32} {y : Int32} (hi : pLook M.2.2.2.2 pc = some (.ishl, 1)) (k : pWP M d mc ms n0 X Q (pc + 1) L (.int (x <<< (y &&& 31)) :: st) kc ks sh S) : pWP M d mc ms n0 X Q pc L (.int y :: .int x :: st) kc ks sh S := by
  intro p l e R s m args below meth c D tc ad0 A hT hC hR hK hO hA ad H locs ls hN
  exact lv_ishl hC.1 hC.2.1 (pLook_ok hT hi)  (k p l e R s m args below meth c D tc ad0 A hT hC hR hK hO hA ad H locs ls hN)
theorem pr_ladd  {x : Int64} {y : Int64} (hi : pLook M.2.2.2.2 pc = some (.ladd, 1)) (k : pWP M d mc ms n0 X Q (pc + 1) L (.long (x + y) :: st) kc ks sh S) : pWP M d mc ms n0 X Q pc L (.long y :: .long x :: st) kc ks sh S := by
  intro p l e R s m args below meth c D tc ad0 A hT hC hR hK hO hA ad H locs ls hN
  exact lv_ladd hC.1 hC.2.1 (pLook_ok hT hi)  (k p l e R s m args below meth c D tc ad0 A hT hC hR hK hO hA ad H locs ls hN)
theorem pr_lsub  {x : Int64} {y : Int64} (hi : pLook M.2.2.2.2 pc = some (.lsub, 1)) (k : pWP M d mc ms n0 X Q (pc + 1) L (.long (x - y) :: st) kc ks sh S) : pWP M d mc ms n0 X Q pc L (.long y :: .long x :: st) kc ks sh S := by
  intro p l e R s m args below meth c D tc ad0 A hT hC hR hK hO hA ad H locs ls hN
  exact lv_lsub hC.1 hC.2.1 (pLook_ok hT hi)  (k p l e R s m args below meth c D tc ad0 A hT hC hR hK hO hA ad H locs ls hN)
theorem pr_land  {x : Int64} {y : Int64} (hi : pLook M.2.2.2.2 pc = some (.land, 1)) (k : pWP M d mc ms n0 X Q (pc + 1) L (.long (x &&& y) :: st) kc ks sh S) : pWP M d mc ms n0 X Q pc L (.long y :: .long x :: st) kc ks sh S := by
  intro p l e R s m args below meth c D tc ad0 A hT hC hR hK hO hA ad H locs ls hN
  exact lv_land hC.1 hC.2.1 (pLook_ok hT hi)  (k p l e R s m args below meth c D tc ad0 A hT hC hR hK hO hA ad H locs ls hN)
theorem pr_lor  {x : Int64} {y : Int64} (hi : pLook M.2.2.2.2 pc = some (.lor, 1)) (k : pWP M d mc ms n0 X Q (pc + 1) L (.long (x ||| y) :: st) kc ks sh S) : pWP M d mc ms n0 X Q pc L (.long y :: .long x :: st) kc ks sh S := by
  intro p l e R s m args below meth c D tc ad0 A hT hC hR hK hO hA ad H locs ls hN
  exact lv_lor hC.1 hC.2.1 (pLook_ok hT hi)  (k p l e R s m args below meth c D tc ad0 A hT hC hR hK hO hA ad H locs ls hN)
theorem pr_lshl  {x : Int64} {y : Int32} (hi : pLook M.2.2.2.2 pc = some (.lshl, 1)) (k : pWP M d mc ms n0 X Q (pc + 1) L (.long (x <<< (y.toInt64 &&& 63)) :: st) kc ks sh S) : pWP M d mc ms n0 X Q pc L (.int y :: .long x :: st) kc ks sh S := by
  intro p l e R s m args below meth c D tc ad0 A hT hC hR hK hO hA ad H locs ls hN
  exact lv_lshl hC.1 hC.2.1 (pLook_ok hT hi) rfl (k p l e R s m args below meth c D tc ad0 A hT hC hR hK hO hA ad H locs ls hN)
theorem pr_lshr  {x : Int64} {y : Int32} (hi : pLook M.2.2.2.2 pc = some (.lshr, 1)) (k : pWP M d mc ms n0 X Q (pc + 1) L (.long (x >>> (y.toInt64 &&& 63)) :: st) kc ks sh S) : pWP M d mc ms n0 X Q pc L (.int y :: .long x :: st) kc ks sh S := by
  intro p l e R s m args below meth c D tc ad0 A hT hC hR hK hO hA ad H locs ls hN
  exact lv_lshr hC.1 hC.2.1 (pLook_ok hT hi) rfl (k p l e R s m args below meth c D tc ad0 A hT hC hR hK hO hA ad H locs ls hN)
theorem pr_i2l  {x : Int32} (hi : pLook M.2.2.2.2 pc = some (.i2l, 1)) (k : pWP M d mc ms n0 X Q (pc + 1) L (.long x.toInt64 :: st) kc ks sh S) : pWP M d mc ms n0 X Q pc L (.int x :: st) kc ks sh S := by
  intro p l e R s m args below meth c D tc ad0 A hT hC hR hK hO hA ad H locs ls hN
  exact lv_i2l hC.1 hC.2.1 (pLook_ok hT hi) rfl (k p l e R s m args below meth c D tc ad0 A hT hC hR hK hO hA ad H locs ls hN)
theorem pr_l2i  {x : Int64} (hi : pLook M.2.2.2.2 pc = some (.l2i, 1)) (k : pWP M d mc ms n0 X Q (pc + 1) L (.int x.toInt32 :: st) kc ks sh S) : pWP M d mc ms n0 X Q pc L (.long x :: st) kc ks sh S := by
  intro p l e R s m args below meth c D tc ad0 A hT hC hR hK hO hA ad H locs ls hN
  exact lv_l2i hC.1 hC.2.1 (pLook_ok hT hi) rfl (k p l e R s m args below meth c D tc ad0 A hT hC hR hK hO hA ad H locs ls hN)
theorem pr_i2s  {x : Int32} (hi : pLook M.2.2.2.2 pc = some (.i2s, 1)) (k : pWP M d mc ms n0 X Q (pc + 1) L (.int x.toInt16.toInt32 :: st) kc ks sh S) : pWP M d mc ms n0 X Q pc L (.int x :: st) kc ks sh S := by
  intro p l e R s m args below meth c D tc ad0 A hT hC hR hK hO hA ad H locs ls hN
  exact lv_i2s hC.1 hC.2.1 (pLook_ok hT hi) rfl (k p l e R s m args below meth c D tc ad0 A hT hC hR hK hO hA ad H locs ls hN)
theorem pr_i2f  {x : Int32} (hi : pLook M.2.2.2.2 pc = some (.i2f, 1)) (k : pWP M d mc ms n0 X Q (pc + 1) L (.float (FP.i2f x) :: st) kc ks sh S) : pWP M d mc ms n0 X Q pc L (.int x :: st) kc ks sh S := by
  intro p l e R s m args below meth c D tc ad0 A hT hC hR hK hO hA ad H locs ls hN
  exact lv_i2f hC.1 hC.2.1 (pLook_ok hT hi)  (k p l e R s m args below meth c D tc ad0 A hT hC hR hK hO hA ad H locs ls hN)
theorem pr_l2f  {x : Int64} (hi : pLook M.2.2.2.2 pc = some (.l2f, 1)) (k : pWP M d mc ms n0 X Q (pc + 1) L (.float (FP.l2f x) :: st) kc ks sh S) : pWP M d mc ms n0 X Q pc L (.long x :: st) kc ks sh S := by
  intro p l e R s m args below meth c D tc ad0 A hT hC hR hK hO hA ad H locs ls hN
  exact lv_l2f hC.1 hC.2.1 (pLook_ok hT hi)  (k p l e R s m args below meth c D tc ad0 A hT hC hR hK hO hA ad H locs ls hN)
theorem pr_f2i  {x : UInt32} (hi : pLook M.2.2.2.2 pc = some (.f2i, 1)) (k : pWP M d mc ms n0 X Q (pc + 1) L (.int (FP.f2i x) :: st) kc ks sh S) : pWP M d mc ms n0 X Q pc L (.float x :: st) kc ks sh S := by
  intro p l e R s m args below meth c D tc ad0 A hT hC hR hK hO hA ad H locs ls hN
  exact lv_f2i hC.1 hC.2.1 (pLook_ok hT hi)  (k p l e R s m args below meth c D tc ad0 A hT hC hR hK hO hA ad H locs ls hN)
theorem pr_i2d  {x : Int32} (hi : pLook M.2.2.2.2 pc = some (.i2d, 1)) (k : pWP M d mc ms n0 X Q (pc + 1) L (.double (FP.i2d x) :: st) kc ks sh S) : pWP M d mc ms n0 X Q pc L (.int x :: st) kc ks sh S := by
  intro p l e R s m args below meth c D tc ad0 A hT hC hR hK hO hA ad H locs ls hN
  exact lv_i2d hC.1 hC.2.1 (pLook_ok hT hi)  (k p l e R s m args below meth c D tc ad0 A hT hC hR hK hO hA ad H locs ls hN)
theorem pr_l2d  {x : Int64} (hi : pLook M.2.2.2.2 pc = some (.l2d, 1)) (k : pWP M d mc ms n0 X Q (pc + 1) L (.double (FP.l2d x) :: st) kc ks sh S) : pWP M d mc ms n0 X Q pc L (.long x :: st) kc ks sh S := by
  intro p l e R s m args below meth c D tc ad0 A hT hC hR hK hO hA ad H locs ls hN
  exact lv_l2d hC.1 hC.2.1 (pLook_ok hT hi)  (k p l e R s m args below meth c D tc ad0 A hT hC hR hK hO hA ad H locs ls hN)
theorem pr_d2i  {x : UInt64} (hi : pLook M.2.2.2.2 pc = some (.d2i, 1)) (k : pWP M d mc ms n0 X Q (pc + 1) L (.int (FP.d2i x) :: st) kc ks sh S) : pWP M d mc ms n0 X Q pc L (.double x :: st) kc ks sh S := by
  intro p l e R s m args below meth c D tc ad0 A hT hC hR hK hO hA ad H locs ls hN
  exact lv_d2i hC.1 hC.2.1 (pLook_ok hT hi)  (k p l e R s m args below meth c D tc ad0 A hT hC hR hK hO hA ad H locs ls hN)
theorem pr_d2l  {x : UInt64} (hi : pLook M.2.2.2.2 pc = some (.d2l, 1)) (k : pWP M d mc ms n0 X Q (pc + 1) L (.long (FP.d2l x) :: st) kc ks sh S) : pWP M d mc ms n0 X Q pc L (.double x :: st) kc ks sh S := by
  intro p l e R s m args below meth c D tc ad0 A hT hC hR hK hO hA ad H locs ls hN
  exact lv_d2l hC.1 hC.2.1 (pLook_ok hT hi)  (k p l e R s m args below meth c D tc ad0 A hT hC hR hK hO hA ad H locs ls hN)
theorem pr_dneg  {x : UInt64} (hi : pLook M.2.2.2.2 pc = some (.dneg, 1)) (k : pWP M d mc ms n0 X Q (pc + 1) L (.double (FP.dneg x) :: st) kc ks sh S) : pWP M d mc ms n0 X Q pc L (.double x :: st) kc ks sh S := by
  intro p l e R s m args below meth c D tc ad0 A hT hC hR hK hO hA ad H locs ls hN
  exact lv_dneg hC.1 hC.2.1 (pLook_ok hT hi)  (k p l e R s m args below meth c D tc ad0 A hT hC hR hK hO hA ad H locs ls hN)
theorem pr_fcmp {op : CmpOp} {x : UInt32} {y : UInt32} (hi : pLook M.2.2.2.2 pc = some (.fcmp op, 1)) (k : pWP M d mc ms n0 X Q (pc + 1) L (.int (Op.cmpValue (FP.fcmp x y) op) :: st) kc ks sh S) : pWP M d mc ms n0 X Q pc L (.float y :: .float x :: st) kc ks sh S := by
  intro p l e R s m args below meth c D tc ad0 A hT hC hR hK hO hA ad H locs ls hN
  exact lv_fcmp hC.1 hC.2.1 (pLook_ok hT hi)  (k p l e R s m args below meth c D tc ad0 A hT hC hR hK hO hA ad H locs ls hN)
theorem pr_dcmp {op : CmpOp} {x : UInt64} {y : UInt64} (hi : pLook M.2.2.2.2 pc = some (.dcmp op, 1)) (k : pWP M d mc ms n0 X Q (pc + 1) L (.int (Op.cmpValue (FP.dcmp x y) op) :: st) kc ks sh S) : pWP M d mc ms n0 X Q pc L (.double y :: .double x :: st) kc ks sh S := by
  intro p l e R s m args below meth c D tc ad0 A hT hC hR hK hO hA ad H locs ls hN
  exact lv_dcmp hC.1 hC.2.1 (pLook_ok hT hi)  (k p l e R s m args below meth c D tc ad0 A hT hC hR hK hO hA ad H locs ls hN)
theorem pr_dup {v : Value} (hi : pLook M.2.2.2.2 pc = some (.dup, 1)) (hv : v.category = 1) (k : pWP M d mc ms n0 X Q (pc + 1) L (v :: v :: st) kc ks sh S) : pWP M d mc ms n0 X Q pc L (v :: st) kc ks sh S := by
  intro p l e R s m args below meth c D tc ad0 A hT hC hR hK hO hA ad H locs ls hN
  exact lv_dup hC.1 hC.2.1 (pLook_ok hT hi) (by rw [pTr_cat]; exact hv) (k p l e R s m args below meth c D tc ad0 A hT hC hR hK hO hA ad H locs ls hN)
theorem pr_pop {v : Value} (hi : pLook M.2.2.2.2 pc = some (.pop, 1)) (hv : v.category = 1) (k : pWP M d mc ms n0 X Q (pc + 1) L st kc ks sh S) : pWP M d mc ms n0 X Q pc L (v :: st) kc ks sh S := by
  intro p l e R s m args below meth c D tc ad0 A hT hC hR hK hO hA ad H locs ls hN
  exact lv_pop hC.1 hC.2.1 (pLook_ok hT hi) (by rw [pTr_cat]; exact hv) (k p l e R s m args below meth c D tc ad0 A hT hC hR hK hO hA ad H locs ls hN)
theorem pr_dup2 {v w : Value} (hi : pLook M.2.2.2.2 pc = some (.dup2, 1)) (hv : v.category = 1) (hw : w.category = 1) (k : pWP M d mc ms n0 X Q (pc + 1) L (v :: w :: v :: w :: st) kc ks sh S) : pWP M d mc ms n0 X Q pc L (v :: w :: st) kc ks sh S := by
  intro p l e R s m args below meth c D tc ad0 A hT hC hR hK hO hA ad H locs ls hN
  exact lv_dup2_11 hC.1 hC.2.1 (pLook_ok hT hi) (by rw [pTr_cat]; exact hv) (by rw [pTr_cat]; exact hw) (k p l e R s m args below meth c D tc ad0 A hT hC hR hK hO hA ad H locs ls hN)
theorem pr_lcmp {x y : Int64} (hi : pLook M.2.2.2.2 pc = some (.lcmp, 1)) (k : pWP M d mc ms n0 X Q (pc + 1) L (.int (lg_cmp x y) :: st) kc ks sh S) : pWP M d mc ms n0 X Q pc L (.long y :: .long x :: st) kc ks sh S := by
  intro p l e R s m args below meth c D tc ad0 A hT hC hR hK hO hA ad H locs ls hN
  exact W.lcmp hC.1 hC.2.1 (pLook_ok hT hi) (k p l e R s m args below meth c D tc ad0 A hT hC hR hK hO hA ad H locs ls hN)
theorem pr_fadd {x y : UInt32} (hi : pLook M.2.2.2.2 pc = some (.fadd, 1)) (hne : vf_n32 (FP.fadd x y)) (k : pWP M d mc ms n0 X Q (pc + 1) L (.float (FP.fadd x y) :: st) kc ks sh S) : pWP M d mc ms n0 X Q pc L (.float y :: .float x :: st) kc ks sh S := by
  intro p l e R s m args below meth c D tc ad0 A hT hC hR hK hO hA ad H locs ls hN
  exact lv_fadd hC.1 hC.2.1 (pLook_ok hT hi) hne (k p l e R s m args below meth c D tc ad0 A hT hC hR hK hO hA ad H locs ls hN)
theorem pr_fsub {x y : UInt32} (hi : pLook M.2.2.2.2 pc = some (.fsub, 1)) (hne : vf_n32 (FP.fsub x y)) (k : pWP M d mc ms n0 X Q (pc + 1) L (.float (FP.fsub x y) :: st) kc ks sh S) : pWP M d mc ms n0 X Q pc L (.float y :: .float x :: st) kc ks sh S := by
  intro p l e R s m args below meth c D tc ad0 A hT hC hR hK hO hA ad H locs ls hN
  exact lv_fsub hC.1 hC.2.1 (pLook_ok hT hi) hne (k p l e R s m args below meth c D tc ad0 A hT hC hR hK hO hA ad H locs ls hN)
theorem pr_fmul {x y : UInt32} (hi : pLook M.2.2.2.2 pc = some (.fmul, 1)) (hne : vf_n32 (FP.fmul x y)) (k : pWP M d mc ms n0 X Q (pc + 1) L (.float (FP.fmul x y) :: st) kc ks sh S) : pWP M d mc ms n0 X Q pc L (.float y :: .float x :: st) kc ks sh S := by
  intro p l e R s m args below meth c D tc ad0 A hT hC hR hK hO hA ad H locs ls hN
  exact lv_fmul hC.1 hC.2.1 (pLook_ok hT hi) hne (k p l e R s m args below meth c D tc ad0 A hT hC hR hK hO hA ad H locs ls hN)
theorem pr_fdiv {x y : UInt32} (hi : pLook M.2.2.2.2 pc = some (.fdiv, 1)) (hne : vf_n32 (FP.fdiv x y)) (k : pWP M d mc ms n0 X Q (pc + 1) L (.float (FP.fdiv x y) :: st) kc ks sh S) : pWP M d mc ms n0 X Q pc L (.float y :: .float x :: st) kc ks sh S := by
  intro p l e R s m args below meth c D tc ad0 A hT hC hR hK hO hA ad H locs ls hN
  exact lv_fdiv hC.1 hC.2.1 (pLook_ok hT hi) hne (k p l e R s m args below meth c D tc ad0 A hT hC hR hK hO hA ad H locs ls hN)
theorem pr_frem {x y : UInt32} (hi : pLook M.2.2.2.2 pc = some (.frem, 1)) (hne : vf_n32 (FP.frem x y)) (k : pWP M d mc ms n0 X Q (pc + 1) L (.float (FP.frem x y) :: st) kc ks sh S) : pWP M d mc ms n0 X Q pc L (.float y :: .float x :: st) kc ks sh S := by
  intro p l e R s m args below meth c D tc ad0 A hT hC hR hK hO hA ad H locs ls hN
  exact lv_frem hC.1 hC.2.1 (pLook_ok hT hi) hne (k p l e R s m args below meth c D tc ad0 A hT hC hR hK hO hA ad H locs ls hN)
theorem pr_dadd {x y : UInt64} (hi : pLook M.2.2.2.2 pc = some (.dadd, 1)) (hne : vf_n64 (FP.dadd x y)) (k : pWP M d mc ms n0 X Q (pc + 1) L (.double (FP.dadd x y) :: st) kc ks sh S) : pWP M d mc ms n0 X Q pc L (.double y :: .double x :: st) kc ks sh S := by
  intro p l e R s m args below meth c D tc ad0 A hT hC hR hK hO hA ad H locs ls hN
  exact lv_dadd hC.1 hC.2.1 (pLook_ok hT hi) hne (k p l e R s m args below meth c D tc ad0 A hT hC hR hK hO hA ad H locs ls hN)
theorem pr_dsub {x y : UInt64} (hi : pLook M.2.2.2.2 pc = some (.dsub, 1)) (hne : vf_n64 (FP.dsub x y)) (k : pWP M d mc ms n0 X Q (pc + 1) L (.double (FP.dsub x y) :: st) kc ks sh S) : pWP M d mc ms n0 X Q pc L (.double y :: .double x :: st) kc ks sh S := by
  intro p l e R s m args below meth c D tc ad0 A hT hC hR hK hO hA ad H locs ls hN
  exact lv_dsub hC.1 hC.2.1 (pLook_ok hT hi) hne (k p l e R s m args below meth c D tc ad0 A hT hC hR hK hO hA ad H locs ls hN)
theorem pr_dmul {x y : UInt64} (hi : pLook M.2.2.2.2 pc = some (.dmul, 1)) (hne : vf_n64 (FP.dmul x y)) (k : pWP M d mc ms n0 X Q (pc + 1) L (.double (FP.dmul x y) :: st) kc ks sh S) : pWP M d mc ms n0 X Q pc L (.double y :: .double x :: st) kc ks sh S := by
  intro p l e R s m args below meth c D tc ad0 A hT hC hR hK hO hA ad H locs ls hN
  exact lv_dmul hC.1 hC.2.1 (pLook_ok hT hi) hne (k p l e R s m args below meth c D tc ad0 A hT hC hR hK hO hA ad H locs ls hN)
theorem pr_ddiv {x y : UInt64} (hi : pLook M.2.2.2.2 pc = some (.ddiv, 1)) (hne : vf_n64 (FP.ddiv x y)) (k : pWP M d mc ms n0 X Q (pc + 1) L (.double (FP.ddiv x y) :: st) kc ks sh S) : pWP M d mc ms n0 X Q pc L (.double y :: .double x :: st) kc ks sh S := by
  intro p l e R s m args below meth c D tc ad0 A hT hC hR hK hO hA ad H locs ls hN
  exact lv_ddiv hC.1 hC.2.1 (pLook_ok hT hi) hne (k p l e R s m args below meth c D tc ad0 A hT hC hR hK hO hA ad H locs ls hN)
theorem pr_drem {x y : UInt64} (hi : pLook M.2.2.2.2 pc = some (.drem, 1)) (hne : vf_n64 (FP.drem x y)) (k : pWP M d mc ms n0 X Q (pc + 1) L (.double (FP.drem x y) :: st) kc ks sh S) : pWP M d mc ms n0 X Q pc L (.double y :: .double x :: st) kc ks sh S := by
  intro p l e R s m args below meth c D tc ad0 A hT hC hR hK hO hA ad H locs ls hN
  exact lv_drem hC.1 hC.2.1 (pLook_ok hT hi) hne (k p l e R s m args below meth c D tc ad0 A hT hC hR hK hO hA ad H locs ls hN)
theorem pr_f2d {x : UInt32} (hi : pLook M.2.2.2.2 pc = some (.f2d, 1)) (hne : vf_n64 (FP.f2d x)) (k : pWP M d mc ms n0 X Q (pc + 1) L (.double (FP.f2d x) :: st) kc ks sh S) : pWP M d mc ms n0 X Q pc L (.float x :: st) kc ks sh S := by
  intro p l e R s m args below meth c D tc ad0 A hT hC hR hK hO hA ad H locs ls hN
  exact lv_f2d hC.1 hC.2.1 (pLook_ok hT hi) hne (k p l e R s m args below meth c D tc ad0 A hT hC hR hK hO hA ad H locs ls hN)
theorem pr_d2f {x : UInt64} (hi : pLook M.2.2.2.2 pc = some (.d2f, 1)) (hne : vf_n32 (FP.d2f x)) (k : pWP M d mc ms n0 X Q (pc + 1) L (.float (FP.d2f x) :: st) kc ks sh S) : pWP M d mc ms n0 X Q pc L (.double x :: st) kc ks sh S := by
  intro p l e R s m args below meth c D tc ad0 A hT hC hR hK hO hA ad H locs ls hN
  exact lv_d2f hC.1 hC.2.1 (pLook_ok hT hi) hne (k p l e R s m args below meth c D tc ad0 A hT hC hR hK hO hA ad H locs ls hN)
theorem pr_irem {x y : Int32} (hi : pLook M.2.2.2.2 pc = some (.irem, 1)) (hne : ¬ y = 0) (k : pWP M d mc ms n0 X Q (pc + 1) L (.int (x - x / y * y) :: st) kc ks sh S) : pWP M d mc ms n0 X Q pc L (.int y :: .int x :: st) kc ks sh S := by
  intro p l e R s m args below meth c D tc ad0 A hT hC hR hK hO hA ad H locs ls hN
  exact lv_irem hC.1 hC.2.1 (pLook_ok hT hi) hne (k p l e R s m args below meth c D tc ad0 A hT hC hR hK hO hA ad H locs ls hN)
theorem pr_lrem {x y : Int64} (hi : pLook M.2.2.2.2 pc = some (.lrem, 1)) (hne : ¬ y = 0) (k : pWP M d mc ms n0 X Q (pc + 1) L (.long (x - x / y * y) :: st) kc ks sh S) : pWP M d mc ms n0 X Q pc L (.long y :: .long x :: st) kc ks sh S := by
  intro p l e R s m args below meth c D tc ad0 A hT hC hR hK hO hA ad H locs ls hN
  exact lv_lrem hC.1 hC.2.1 (pLook_ok hT hi) hne (k p l e R s m args below meth c D tc ad0 A hT hC hR hK hO hA ad H locs ls hN)
theorem pr_if_eq {x : Int32} {off : Int} (tgt : Nat) (hi : pLook M.2.2.2.2 pc = some (.ifCond .eq off, 3)) (ht : (pc : Int) + off = (tgt : Int)) (k1 : x = 0 → pWP M d mc ms n0 X Q tgt L st kc ks sh S) (k2 : ¬ (x = 0) → pWP M d mc ms n0 X Q (pc + 3) L st kc ks sh S) : pWP M d mc ms n0 X Q pc L (.int x :: st) kc ks sh S := by
  intro p l e R s m args below meth c D tc ad0 A hT hC hR hK hO hA ad H locs ls hN
  exact lv_if_eq hC.1 hC.2.1 (pLook_ok hT hi) ht (fun h => k1 h p l e R s m args below meth c D tc ad0 A hT hC hR hK hO hA ad H locs ls hN) (fun h => k2 h p l e R s m args below meth c D tc ad0 A hT hC hR hK hO hA ad H locs ls hN)
theorem pr_icmp_eq {x y : Int32} {off : Int} (tgt : Nat) (hi : pLook M.2.2.2.2 pc = some (.if_icmp .eq off, 3)) (ht : (pc : Int) + off = (tgt : Int)) (k1 : x = y → pWP M d mc ms n0 X Q tgt L st kc ks sh S) (k2 : ¬ (x = y) → pWP M d mc ms n0 X Q (pc + 3) L st kc ks sh S) : pWP M d mc ms n0 X Q pc L (.int y :: .int x :: st) kc ks sh S := by
  intro p l e R s m args below meth c D tc ad0 A hT hC hR hK hO hA ad H locs ls hN
  exact lv_icmp_eq hC.1 hC.2.1 (pLook_ok hT hi) ht (fun h => k1 h p l e R s m args below meth c D tc ad0 A hT hC hR hK hO hA ad H locs ls hN) (fun h => k2 h p l e R s m args below meth c D tc ad0 A hT hC hR hK hO hA ad H locs ls hN)
theorem pr_if_ne {x : Int32} {off : Int} (tgt : Nat) (hi : pLook M.2.2.2.2 pc = some (.ifCond .ne off, 3)) (ht : (pc : Int) + off = (tgt : Int)) (k1 : ¬ x = 0 → pWP M d mc ms n0 X Q tgt L st kc ks sh S) (k2 : x = 0 → pWP M d mc ms n0 X Q (pc + 3) L st kc ks sh S) : pWP M d mc ms n0 X Q pc L (.int x :: st) kc ks sh S := by
  intro p l e R s m args below meth c D tc ad0 A hT hC hR hK hO hA ad H locs ls hN
  exact lv_if_ne hC.1 hC.2.1 (pLook_ok hT hi) ht (fun h => k1 h p l e R s m args below meth c D tc ad0 A hT hC hR hK hO hA ad H locs ls hN) (fun h => k2 h p l e R s m args below meth c D tc ad0 A hT hC hR hK hO hA ad H locs ls hN)
theorem pr_icmp_ne {x y : Int32} {off : Int} (tgt : Nat) (hi : pLook M.2.2.2.2 pc = some (.if_icmp .ne off, 3)) (ht : (pc : Int) + off = (tgt : Int)) (k1 : ¬ x = y → pWP M d mc ms n0 X Q tgt L st kc ks sh S) (k2 : x = y → pWP M d mc ms n0 X Q (pc + 3) L st kc ks sh S) : pWP M d mc ms n0 X Q pc L (.int y :: .int x :: st) kc ks sh S := by
  intro p l e R s m args below meth c D tc ad0 A hT hC hR hK hO hA ad H locs ls hN
  exact lv_icmp_ne hC.1 hC.2.1 (pLook_ok hT hi) ht (fun h => k1 h p l e R s m args below meth c D tc ad0 A hT hC hR hK hO hA ad H locs ls hN) (fun h => k2 h p l e R s m args below meth c D tc ad0 A hT hC hR hK hO hA ad H locs ls hN)
theorem pr_if_lt {x : Int32} {off : Int} (tgt : Nat) (hi : pLook M.2.2.2.2 pc = some (.ifCond .lt off, 3)) (ht : (pc : Int) + off = (tgt : Int)) (k1 : x < 0 → pWP M d mc ms n0 X Q tgt L st kc ks sh S) (k2 : ¬ (x < 0) → pWP M d mc ms n0 X Q (pc + 3) L st kc ks sh S) : pWP M d mc ms n0 X Q pc L (.int x :: st) kc ks sh S := by
  intro p l e R s m args below meth c D tc ad0 A hT hC hR hK hO hA ad H locs ls hN
  exact lv_if_lt hC.1 hC.2.1 (pLook_ok hT hi) ht (fun h => k1 h p l e R s m args below meth c D tc ad0 A hT hC hR hK hO hA ad H locs ls hN) (fun h => k2 h p l e R s m args below meth c D tc ad0 A hT hC hR hK hO hA ad H locs ls hN)
theorem pr_icmp_lt {x y : Int32} {off : Int} (tgt : Nat) (hi : pLook M.2.2.2.2 pc = some (.if_icmp .lt off, 3)) (ht : (pc : Int) + off = (tgt : Int)) (k1 : x < y → pWP M d mc ms n0 X Q tgt L st kc ks sh S) (k2 : ¬ (x < y) → pWP M d mc ms n0 X Q (pc + 3) L st kc ks sh S) : pWP M d mc ms n0 X Q pc L (.int y :: .int x :: st) kc ks sh S := by
  intro p l e R s m args below meth c D tc ad0 A hT hC hR hK hO hA ad H locs ls hN
  exact lv_icmp_lt hC.1 hC.2.1 (pLook_ok hT hi) ht (fun h => k1 h p l e R s m args below meth c D tc ad0 A hT hC hR hK hO hA ad H locs ls hN) (fun h => k2 h p l e R s m args below meth c D tc ad0 A hT hC hR hK hO hA ad H locs ls hN)
theorem pr_if_ge {x : Int32} {off : Int} (tgt : Nat) (hi : pLook M.2.2.2.2 pc = some (.ifCond .ge off, 3)) (ht : (pc : Int) + off = (tgt : Int)) (k1 : 0 ≤ x → pWP M d mc ms n0 X Q tgt L st kc ks sh S) (k2 : ¬ (0 ≤ x) → pWP M d mc ms n0 X Q (pc + 3) L st kc ks sh S) : pWP M d mc ms n0 X Q pc L (.int x :: st) kc ks sh S := by
  intro p l e R s m args below meth c D tc ad0 A hT hC hR hK hO hA ad H locs ls hN
  exact lv_if_ge hC.1 hC.2.1 (pLook_ok hT hi) ht (fun h => k1 h p l e R s m args below meth c D tc ad0 A hT hC hR hK hO hA ad H locs ls hN) (fun h => k2 h p l e R s m args below meth c D tc ad0 A hT hC hR hK hO hA ad H locs ls hN)
theorem pr_icmp_ge {x y : Int32} {off : Int} (tgt : Nat) (hi : pLook M.2.2.2.2 pc = some (.if_icmp .ge off, 3)) (ht : (pc : Int) + off = (tgt : Int)) (k1 : y ≤ x → pWP M d mc ms n0 X Q tgt L st kc ks sh S) (k2 : ¬ (y ≤ x) → pWP M d mc ms n0 X Q (pc + 3) L st kc ks sh S) : pWP M d mc ms n0 X Q pc L (.int y :: .int x :: st) kc ks sh S := by
  intro p l e R s m args below meth c D tc ad0 A hT hC hR hK hO hA ad H locs ls hN
  exact lv_icmp_ge hC.1 hC.2.1 (pLook_ok hT hi) ht (fun h => k1 h p l e R s m args below meth c D tc ad0 A hT hC hR hK hO hA ad H locs ls hN) (fun h => k2 h p l e R s m args below meth c D tc ad0 A hT hC hR hK hO hA ad H locs ls hN)
theorem pr_if_gt {x : Int32} {off : Int} (tgt : Nat) (hi : pLook M.2.2.2.2 pc = some (.ifCond .gt off, 3)) (ht : (pc : Int) + off = (tgt : Int)) (k1 : 0 < x → pWP M d mc ms n0 X Q tgt L st kc ks sh S) (k2 : ¬ (0 < x) → pWP M d mc ms n0 X Q (pc + 3) L st kc ks sh S) : pWP M d mc ms n0 X Q pc L (.int x :: st) kc ks sh S := by
  intro p l e R s m args below meth c D tc ad0 A hT hC hR hK hO hA ad H locs ls hN
  exact lv_if_gt hC.1 hC.2.1 (pLook_ok hT hi) ht (fun h => k1 h p l e R s m args below meth c D tc ad0 A hT hC hR hK hO hA ad H locs ls hN) (fun h => k2 h p l e R s m args below meth c D tc ad0 A hT hC hR hK hO hA ad H locs ls hN)
theorem pr_icmp_gt {x y : Int32} {off : Int} (tgt : Nat) (hi : pLook M.2.2.2.2 pc = some (.if_icmp .gt off, 3)) (ht : (pc : Int) + off = (tgt : Int)) (k1 : y < x → pWP M d mc ms n0 X Q tgt L st kc ks sh S) (k2 : ¬ (y < x) → pWP M d mc ms n0 X Q (pc + 3) L st kc ks sh S) : pWP M d mc ms n0 X Q pc L (.int y :: .int x :: st) kc ks sh S := by
  intro p l e R s m args below meth c D tc ad0 A hT hC hR hK hO hA ad H locs ls hN
  exact lv_icmp_gt hC.1 hC.2.1 (pLook_ok hT hi) ht (fun h => k1 h p l e R s m args below meth c D tc ad0 A hT hC hR hK hO hA ad H locs ls hN) (fun h => k2 h p l e R s m args below meth c D tc ad0 A hT hC hR hK hO hA ad H locs ls hN)
theorem pr_if_le {x : Int32} {off : Int} (tgt : Nat) (hi : pLook M.2.2.2.2 pc = some (.ifCond .le off, 3)) (ht : (pc : Int) + off = (tgt : Int)) (k1 : x ≤ 0 → pWP M d mc ms n0 X Q tgt L st kc ks sh S) (k2 : ¬ (x ≤ 0) → pWP M d mc ms n0 X Q (pc + 3) L st kc ks sh S) : pWP M d mc ms n0 X Q pc L (.int x :: st) kc ks sh S := by
  intro p l e R s m args below meth c D tc ad0 A hT hC hR hK hO hA ad H locs ls hN
  exact lv_if_le hC.1 hC.2.1 (pLook_ok hT hi) ht (fun h => k1 h p l e R s m args below meth c D tc ad0 A hT hC hR hK hO hA ad H locs ls hN) (fun h => k2 h p l e R s m args below meth c D tc ad0 A hT hC hR hK hO hA ad H locs ls hN)
theorem pr_icmp_le {x y : Int32} {off : Int} (tgt : Nat) (hi : pLook M.2.2.2.2 pc = some (.if_icmp .le off, 3)) (ht : (pc : Int) + off = (tgt : Int)) (k1 : x ≤ y → pWP M d mc ms n0 X Q tgt L st kc ks sh S) (k2 : ¬ (x ≤ y) → pWP M d mc ms n0 X Q (pc + 3) L st kc ks sh S) : pWP M d mc ms n0 X Q pc L (.int y :: .int x :: st) kc ks sh S := by
  intro p l e R s m args below meth c D tc ad0 A hT hC hR hK hO hA ad H locs ls hN
  exact lv_icmp_le hC.1 hC.2.1 (pLook_ok hT hi) ht (fun h => k1 h p l e R s m args below meth c D tc ad0 A hT hC hR hK hO hA ad H locs ls hN) (fun h => k2 h p l e R s m args below meth c D tc ad0 A hT hC hR hK hO hA ad H locs ls hN)
theorem pr_goto {off : Int} (tgt : Nat) (hi : pLook M.2.2.2.2 pc = some (.goto off, 3)) (ht : (pc : Int) + off = (tgt : Int)) (k : pWP M d mc ms n0 X Q tgt L st kc ks sh S) : pWP M d mc ms n0 X Q pc L st kc ks sh S := by
  intro p l e R s m args below meth c D tc ad0 A hT hC hR hK hO hA ad H locs ls hN
  exact lv_goto hC.1 hC.2.1 (pLook_ok hT hi) ht (k p l e R s m args below meth c D tc ad0 A hT hC hR hK hO hA ad H locs ls hN)
theorem pr_ifnull {x : Nat} {off : Int} (hi : pLook M.2.2.2.2 pc = some (.ifnull off, 3)) (k : pWP M d mc ms n0 X Q (pc + 3) L st kc ks sh S) : pWP M d mc ms n0 X Q pc L (.ref x :: st) kc ks sh S := by
  intro p l e R s m args below meth c D tc ad0 A hT hC hR hK hO hA ad H locs ls hN
  exact lv_ifnull hC.1 hC.2.1 (pLook_ok hT hi) (k p l e R s m args below meth c D tc ad0 A hT hC hR hK hO hA ad H locs ls hN)
theorem pr_ifnonnull {x : Nat} {off : Int} (tgt : Nat) (hi : pLook M.2.2.2.2 pc = some (.ifnonnull off, 3)) (ht : (pc : Int) + off = (tgt : Int)) (k : pWP M d mc ms n0 X Q tgt L st kc ks sh S) : pWP M d mc ms n0 X Q pc L (.ref x :: st) kc ks sh S := by
  intro p l e R s m args below meth c D tc ad0 A hT hC hR hK hO hA ad H locs ls hN
  exact lv_ifnonnull hC.1 hC.2.1 (pLook_ok hT hi) ht (k p l e R s m args below meth c D tc ad0 A hT hC hR hK hO hA ad H locs ls hN)
theorem pr_tableOut {dflt lo hi9 : Int} {offs : Array Int} {len : Nat} {x : Int32} (tgt : Nat) (hi : pLook M.2.2.2.2 pc = some (.tableswitch dflt lo hi9 offs, len)) (h : x.toInt < lo ∨ hi9 < x.toInt) (ht : (pc : Int) + dflt = (tgt : Int)) (k : pWP M d mc ms n0 X Q tgt L st kc ks sh S) : pWP M d mc ms n0 X Q pc L (.int x :: st) kc ks sh S := by
  intro p l e R s m args below meth c D tc ad0 A hT hC hR hK hO hA ad H locs ls hN
  exact lv_tableOut hC.1 hC.2.1 (pLook_ok hT hi) h ht (k p l e R s m args below meth c D tc ad0 A hT hC hR hK hO hA ad H locs ls hN)
theorem pr_tableIn {dflt lo hi9 : Int} {offs : Array Int} {len : Nat} {x : Int32} {off : Int} (tgt : Nat) (hi : pLook M.2.2.2.2 pc = some (.tableswitch dflt lo hi9 offs, len)) (h1 : ¬ x.toInt < lo) (h2 : ¬ hi9 < x.toInt) (ho : offs[(x.toInt - lo).toNat]? = some off) (ht : (pc : Int) + off = (tgt : Int)) (k : pWP M d mc ms n0 X Q tgt L st kc ks sh S) : pWP M d mc ms n0 X Q pc L (.int x :: st) kc ks sh S := by
  intro p l e R s m args below meth c D tc ad0 A hT hC hR hK hO hA ad H locs ls hN
  exact lv_tableIn hC.1 hC.2.1 (pLook_ok hT hi) h1 h2 ho ht (k p l e R s m args below meth c D tc ad0 A hT hC hR hK hO hA ad H locs ls hN)
theorem pr_lookup {dflt : Int} {ps : Array (Int × Int)} {len : Nat} {x : Int32} {off : Int} (tgt : Nat) (hi : pLook M.2.2.2.2 pc = some (.lookupswitch dflt ps, len)) (hp : (ps.toList.zip (ps.toList.drop 1)).all (fun (a, next) => a.1 < next.1) = true) (ho : Op.lookupswitch.offset ps.toList dflt x.toInt = off) (ht : (pc : Int) + off = (tgt : Int)) (k : pWP M d mc ms n0 X Q tgt L st kc ks sh S) : pWP M d mc ms n0 X Q pc L (.int x :: st) kc ks sh S := by
  intro p l e R s m args below meth c D tc ad0 A hT hC hR hK hO hA ad H locs ls hN
  exact lv_lookup hC.1 hC.2.1 (pLook_ok hT hi) hp ho ht (k p l e R s m args below meth c D tc ad0 A hT hC hR hK hO hA ad H locs ls hN)
end PR
end
section
/-! rules of the pure machine: fields, arrays, constants, ends, calls -/
def pTyp (c : Nat) : Nat → FieldType := match c with
  | 0 => tyX0
  | 1 => tyX1
  | 2 => tyX3
  | 3 => tyX4
  | 4 => tyX5
  | 5 => tyX6
  | 6 => tyX7
  | 7 => tyX8
  | _ => tyX9
/-- a field site: in the class own the pool's entry idx is field j of the class c -/
def pFL (own : String) (idx c j : Nat) : Prop := ∃ (C : String) (T : u_T) (N : Nat), vwCl[c]? = some (C, T, N) ∧ j < N ∧
  (Cond.fieldLink own idx (T j).1 (T j).2.1 (T j).2.2.1 ∈ pGood ∨ ∃ h, Cond.fieldLinkNest own idx (T j).1 (T j).2.1 (T j).2.2.1 h ∈ pNest)
def pClOk (c : Nat) (q : vw_C) : Prop := (∀ w ∈ u_ws q.1 q.2.1 q.2.2, w ∈ pGood) ∧ (∀ k, k < q.2.2 → parseFieldDescriptor (q.2.1 k).2.2.1 = some (pTyp c k)) ∧ (∀ a, a < q.2.2 → ∀ b, b < q.2.2 → a ≠ b → (q.2.1 a).2.1 ≠ (q.2.1 b).2.1) ∧ (∀ a, a < q.2.2 → (q.2.1 a).1 = q.1)
theorem pCl0 : pClOk 0 (RX0, TX0, 7) := ⟨by decide +kernel, tyX0_ok, nmX0, by decide +kernel⟩
theorem pCl1 : pClOk 1 (RX1, TX1, 6) := ⟨by decide +kernel, tyX1_ok, nmX1, by decide +kernel⟩
theorem pCl2 : pClOk 2 (RX3, TX3, 3) := ⟨by decide +kernel, tyX3_ok, nmX3, by decide +kernel⟩
theorem pCl3 : pClOk 3 (RX4, TX4, 1) := ⟨by decide +kernel, tyX4_ok, nmX4, by decide +kernel⟩
theorem pCl4 : pClOk 4 (RX5, TX5, 3) := ⟨by decide +kernel, tyX5_ok, nmX5, by decide +kernel⟩
theorem pCl5 : pClOk 5 (RX6, TX6, 10) := ⟨by decide +kernel, tyX6_ok, nmX6, by decide +kernel⟩
theorem pCl6 : pClOk 6 (RX7, TX7, 5) := ⟨by decide +kernel, tyX7_ok, nmX7, by decide +kernel⟩
theorem pCl7 : pClOk 7 (RX8, TX8, 13) := ⟨by decide +kernel, tyX8_ok, nmX8, by decide +kernel⟩
theorem pCl8 : pClOk 8 (RX9, TX9, 33) := ⟨by decide +kernel, tyX9_ok, nmX9, by decide +kernel⟩
theorem pCl {c : Nat} {q : vw_C} (h : vwCl[c]? = some q) : pClOk c q := by
  match c, h with
  | 0, h => cases h; exact pCl0
  | 1, h => cases h; exact pCl1
  | 2, h => cases h; exact pCl2
  | 3, h => cases h; exact pCl3
  | 4, h => cases h; exact pCl4
  | 5, h => cases h; exact pCl5
  | 6, h => cases h; exact pCl6
  | 7, h => cases h; exact pCl7
  | 8, h => cases h; exact pCl8
  | n + 9, h => cases h
theorem pNow.hP {n0 nL : Nat} {D : va_G} {tc ad0 ad : Nat → Nat} {A : Nat → Prop} {s : State} {H : Heap} {locs : List Loc} {ls : Array Slot} {L : PL} {sh : List PSh} {S : PSt} (h : pNow n0 nL D tc ad0 ad A s H locs ls L sh S) : va_P D vwCl (pW tc ad sh S) H := h.2.2.2.2.1
theorem pNow.hD {n0 nL : Nat} {D : va_G} {tc ad0 ad : Nat → Nat} {A : Nat → Prop} {s : State} {H : Heap} {locs : List Loc} {ls : Array Slot} {L : PL} {sh : List PSh} {S : PSt} (h : pNow n0 nL D tc ad0 ad A s H locs ls L sh S) : va_D A (pW tc ad sh S) := h.2.2.2.2.2.1
theorem pNow.hS {n0 nL : Nat} {D : va_G} {tc ad0 ad : Nat → Nat} {A : Nat → Prop} {s : State} {H : Heap} {locs : List Loc} {ls : Array Slot} {L : PL} {sh : List PSh} {S : PSt} (h : pNow n0 nL D tc ad0 ad A s H locs ls L sh S) : va_S A s.heap H locs := h.2.2.2.2.2.2.1
theorem pNow.wr {n0 nL : Nat} {D : va_G} {tc ad0 ad : Nat → Nat} {A : Nat → Prop} {s : State} {H H1 : Heap} {locs locs1 : List Loc} {ls : Array Slot} {L : PL} {sh : List PSh} {S S' : PSt} (h : pNow n0 nL D tc ad0 ad A s H locs ls L sh S) (hP : va_P D vwCl (pW tc ad sh S') H1) (hD : va_D A (pW tc ad sh S')) (hS : va_S A s.heap H1 locs1) : pNow n0 nL D tc ad0 ad A s H1 locs1 ls L sh S' :=
  ⟨h.1, h.2.1, h.2.2.1, h.2.2.2.1, hP, hD, hS, h.2.2.2.2.2.2.2⟩
section PH
variable {M : PM} {d mc ms n0 : Nat} {X : Nat × (Nat → Int32)} {Q : PQ} {pc : Nat} {L : PL} {st : List Value} {kc ks : Nat} {sh : List PSh} {S : PSt}
theorem pr_get {a c j idx f : Nat} {fs : List Nat} {v : Value} (hi : pLook M.2.2.2.2 pc = some (.getfield idx, 3)) (hF : pFL M.1.cls idx c j) (hs : sh[a]? = some (.inr (c, fs))) (hf : fs[j]? = some f) (hv : pFv S a j f = v) (k : pWP M d mc ms n0 X Q (pc + 3) L (v :: st) kc ks sh S) : pWP M d mc ms n0 X Q pc L (.ref a :: st) kc ks sh S := by
  intro p l e R s m args below meth c1 D tc ad0 A hT hC hR hK hO hA ad H locs ls hN
  obtain ⟨C, T, N, h1, h2, h3⟩ := hF
  obtain ⟨g1, g2, g3, g4⟩ := pCl h1
  have hts := hC.2.2.2.2.2.2.2
  have hv2 : (fs.mapIdx fun j f => pTr ad (pFv S a j f))[j]? = some (pTr ad v) := by rw [List.getElem?_mapIdx, hf, ← hv]; rfl
  have kk := k p l e R s m args below meth c1 D tc ad0 A hT hC hR hK hO hA ad H locs ls hN
  rcases h3 with h3 | ⟨host, h3⟩
  · exact va_get (D := D) (ci := c) (C := C) (T := T) (N := N) hC.1 hC.2.1 hts g1 hC.2.2.2.2.1 hK.1 hN.hP a (pW_at hs) h1 j h2 (hts _ h3) (fun _ h9 => h9) hv2 (pLook_ok hT hi) kk
  · exact va_getN (D := D) (ci := c) (C := C) (T := T) (N := N) hC.1 hC.2.1 hts g1 hC.2.2.2.2.1 hK.1 hN.hP a (pW_at hs) h1 j h2 (va_Nw.use (pNest_tab h3) (hK.2 _ h3)) (fun _ h9 => h9) hv2 (pLook_ok hT hi) kk
/-- a field is written: the contents change, or the shape (a reference); S2, sh2: what comes -/
theorem pr_put0 {a c j idx : Nat} {fs : List Nat} {v : Value} {sh2 : List PSh} {S2 : PSt} (hi : pLook M.2.2.2.2 pc = some (.putfield idx, 3)) (hF : pFL M.1.cls idx c j) (hs : sh[a]? = some (.inr (c, fs)))
    (hj : j < fs.length) (hfin : ∀ q, vwCl[c]? = some q → (q.2.1 j).2.2.2 = false ∨ ((q.2.1 j).2.2.2 = true ∧ q.1 = M.1.cls ∧ M.1.name = "<init>" ∧ Cond.fieldLink M.1.cls idx (q.2.1 j).1 (q.2.1 j).2.1 (q.2.1 j).2.2.1 ∈ pGood))
    (hn : ∀ ad : Nat → Nat, narrow (pTyp c j) (pTr ad v) = pTr ad v) (hfit : ∀ ad : Nat → Nat, fits (pTyp c j) (pTr ad v) = true)
    (hw : ∀ tc ad : Nat → Nat, (pW tc ad sh S).set a (ad a, .inr (c, (fs.mapIdx fun j f => pTr ad (pFv S a j f)).set j (pTr ad v))) = pW tc ad sh2 S2) (hl2 : sh2.length = sh.length) (hok : pShOk sh → pShOk sh2)
    (k : pWP M d mc ms n0 X Q (pc + 3) L st kc ks sh2 S2) : pWP M d mc ms n0 X Q pc L (v :: .ref a :: st) kc ks sh S := by
  intro p l e R s m args below meth c1 D tc ad0 A hT hC hR hK hO hA ad H locs ls hN
  obtain ⟨C, T, N, h1, h2, h3⟩ := hF
  obtain ⟨g1, g2, g3, g4⟩ := pCl h1
  have hts := hC.2.2.2.2.2.2.2
  have kk : ∀ (H1 : Heap) (locs1 : List Loc), va_P D vwCl ((pW tc ad sh S).set a (ad a, .inr (c, (fs.mapIdx fun j f => pTr ad (pFv S a j f)).set j (pTr ad v)))) H1 → va_D A ((pW tc ad sh S).set a (ad a, .inr (c, (fs.mapIdx fun j f => pTr ad (pFv S a j f)).set j (pTr ad v)))) → va_S A s.heap H1 locs1 → W p l e R s m args below meth c1 H1 locs1 kc ks (MQ below (pQc A D tc ad0 n0 Q) args s mc ms A) (F0 m (pc + 3) ls (st.map (pTr ad))) := by
    intro H1 locs1 hP hD hS
    rw [hw] at hP hD
    refine k p l e R s m args below meth c1 D tc ad0 A hT hC hR hK hO hA ad H1 locs1 ls ⟨?_, ?_, ?_, hok hN.2.2.2.1, hP, hD, hS, hN.ls⟩
    · rw [hl2]; exact hN.1
    · rw [hl2]; exact hN.2.1
    · rw [hl2]; exact hN.2.2.1
  have hjl : j < (fs.mapIdx fun j f => pTr ad (pFv S a j f)).length := by rw [List.length_mapIdx]; exact hj
  rcases hfin _ h1 with hf | ⟨hf, hc, hin, h3'⟩
  · rcases h3 with h3 | ⟨host, h3⟩
    · exact va_put (D := D) (ci := c) (C := C) (T := T) (N := N) hC.1 hC.2.1 hts g1 (pTyp c) g2 g3 hC.2.2.2.2.1 hK.1 hN.hP hN.hD hN.hS a (pW_at hs) h1 j h2 (hts _ h3) (fun _ h9 => h9) hf (g2 j h2) (hn ad) (hfit ad) hjl (pLook_ok hT hi) kk
    · exact va_putN (D := D) (ci := c) (C := C) (T := T) (N := N) hC.1 hC.2.1 hts g1 (pTyp c) g2 g3 hC.2.2.2.2.1 hK.1 hN.hP hN.hD hN.hS a (pW_at hs) h1 j h2 (va_Nw.use (pNest_tab h3) (hK.2 _ h3)) (fun _ h9 => h9) hf (g2 j h2) (hn ad) (hfit ad) hjl (pLook_ok hT hi) kk
  · exact va_putF (D := D) (ci := c) (C := C) (T := T) (N := N) hC.1 hC.2.1 hts g1 (pTyp c) g2 g3 hC.2.2.2.2.1 hK.1 hN.hP hN.hD hN.hS a (pW_at hs) h1 j h2 (hts _ h3') (fun _ h9 => h9) hf (hC.2.2.2.2.2.2.1 hin) ((g4 j h2).trans hc) (g2 j h2) (hn ad) (hfit ad) hjl (pLook_ok hT hi) kk
theorem pFs_set {ad : Nat → Nat} {S S' : PSt} {a j : Nat} {fs : List Nat} {v : Value} {f : Nat} (hf : fs[j]? = some f) (hv : pFv S' a j f = v) (ho : ∀ i g, i ≠ j → pFv S' a i g = pFv S a i g) :
    (fs.mapIdx fun j f => pTr ad (pFv S a j f)).set j (pTr ad v) = fs.mapIdx fun j f => pTr ad (pFv S' a j f) := by
  have hj : j < fs.length := (List.getElem?_eq_some_iff.mp hf).1
  apply List.ext_getElem?
  intro i
  by_cases hi : i = j
  · subst hi
    rw [List.getElem?_set_self (by rw [List.length_mapIdx]; exact hj), List.getElem?_mapIdx, hf, ← hv]
    rfl
  · rw [List.getElem?_set_ne (fun q => hi q.symm), List.getElem?_mapIdx, List.getElem?_mapIdx]
    cases hg : fs[i]? with
    | none => rfl
    | some g => show some (pTr ad (pFv S a i g)) = some (pTr ad (pFv S' a i g)); rw [ho i g hi]
theorem pr_putI {a c j idx : Nat} {fs : List Nat} {x : Int32} (hi : pLook M.2.2.2.2 pc = some (.putfield idx, 3)) (hF : pFL M.1.cls idx c j) (hs : sh[a]? = some (.inr (c, fs))) (hf : fs[j]? = some 0)
    (hfin : ∀ q, vwCl[c]? = some q → (q.2.1 j).2.2.2 = false ∨ ((q.2.1 j).2.2.2 = true ∧ q.1 = M.1.cls ∧ M.1.name = "<init>" ∧ Cond.fieldLink M.1.cls idx (q.2.1 j).1 (q.2.1 j).2.1 (q.2.1 j).2.2.1 ∈ pGood))
    (hn : narrow (pTyp c j) (.int x) = .int x) (hfit : fits (pTyp c j) (.int x) = true) (k : pWP M d mc ms n0 X Q (pc + 3) L st kc ks sh (pSI S a j x)) : pWP M d mc ms n0 X Q pc L (.int x :: .ref a :: st) kc ks sh S := by
  refine pr_put0 (v := .int x) hi hF hs (List.getElem?_eq_some_iff.mp hf).1 hfin (fun _ => hn) (fun _ => hfit) (fun tc ad => ?_) rfl (fun h => h) k
  rw [pFs_set (S' := pSI S a j x) hf (by simp [pFv, pSI, pU]) (fun i g hig => by unfold pFv; split <;> simp [pSI, pU, hig])]
  exact pW_set hs rfl (fun b hb => ⟨pU_ne hb, rfl, rfl, rfl⟩)
theorem pr_putF {a c j idx : Nat} {fs : List Nat} {x : UInt32} (hi : pLook M.2.2.2.2 pc = some (.putfield idx, 3)) (hF : pFL M.1.cls idx c j) (hs : sh[a]? = some (.inr (c, fs))) (hf : fs[j]? = some 1)
    (hfin : ∀ q, vwCl[c]? = some q → (q.2.1 j).2.2.2 = false ∨ ((q.2.1 j).2.2.2 = true ∧ q.1 = M.1.cls ∧ M.1.name = "<init>" ∧ Cond.fieldLink M.1.cls idx (q.2.1 j).1 (q.2.1 j).2.1 (q.2.1 j).2.2.1 ∈ pGood))
    (hn : narrow (pTyp c j) (.float x) = .float x) (hfit : fits (pTyp c j) (.float x) = true) (k : pWP M d mc ms n0 X Q (pc + 3) L st kc ks sh (pSF S a j x)) : pWP M d mc ms n0 X Q pc L (.float x :: .ref a :: st) kc ks sh S := by
  refine pr_put0 (v := .float x) hi hF hs (List.getElem?_eq_some_iff.mp hf).1 hfin (fun _ => hn) (fun _ => hfit) (fun tc ad => ?_) rfl (fun h => h) k
  rw [pFs_set (S' := pSF S a j x) hf (by simp [pFv, pSF, pU]) (fun i g hig => by unfold pFv; split <;> simp [pSF, pU, hig])]
  exact pW_set hs rfl (fun b hb => ⟨rfl, pU_ne hb, rfl, rfl⟩)
/-- a reference comes to a field (a constructor's) -/
theorem pr_putR {a c j idx r : Nat} {fs : List Nat} (hi : pLook M.2.2.2.2 pc = some (.putfield idx, 3)) (hF : pFL M.1.cls idx c j) (hs : sh[a]? = some (.inr (c, fs))) (hj : j < fs.length)
    (hfin : ∀ q, vwCl[c]? = some q → (q.2.1 j).2.2.2 = false ∨ ((q.2.1 j).2.2.2 = true ∧ q.1 = M.1.cls ∧ M.1.name = "<init>" ∧ Cond.fieldLink M.1.cls idx (q.2.1 j).1 (q.2.1 j).2.1 (q.2.1 j).2.2.1 ∈ pGood))
    (hn : ∀ b : Nat, narrow (pTyp c j) (.ref b) = .ref b) (hfit : ∀ b : Nat, fits (pTyp c j) (.ref b) = true) (hr : r < sh.length) (k : pWP M d mc ms n0 X Q (pc + 3) L st kc ks (sh.set a (.inr (c, fs.set j (r + 3)))) S) : pWP M d mc ms n0 X Q pc L (.ref r :: .ref a :: st) kc ks sh S := by
  refine pr_put0 (v := .ref r) hi hF hs hj hfin (fun ad => hn (ad r)) (fun ad => hfit (ad r)) (fun tc ad => ?_) (List.length_set ..) (fun h => ?_) k
  · refine pW_setSh hs ?_
    show Sum.inr (c, (fs.set j (r + 3)).mapIdx fun j f => pTr ad (pFv S a j f)) = Sum.inr (c, _)
    have : ((fs.set j (r + 3)).mapIdx fun j f => pTr ad (pFv S a j f)) = (fs.mapIdx fun j f => pTr ad (pFv S a j f)).set j (.ref (ad r)) := by
      apply List.ext_getElem?
      intro i
      by_cases hij : i = j
      · subst hij
        rw [List.getElem?_mapIdx, List.getElem?_set_self hj, List.getElem?_set_self (by rw [List.length_mapIdx]; exact hj)]
        rfl
      · rw [List.getElem?_mapIdx, List.getElem?_set_ne (fun q => hij q.symm), List.getElem?_set_ne (fun q => hij q.symm), List.getElem?_mapIdx]
    rw [this]
    rfl
  · intro k9 c9 fs9 h9 r9 hr9
    rw [List.length_set]
    by_cases hk : k9 = a
    · subst hk
      rw [List.getElem?_set_self (List.getElem?_eq_some_iff.mp hs).1] at h9
      cases h9
      rcases List.mem_or_eq_of_mem_set hr9 with q | q
      · exact h _ _ _ hs r9 q
      · have : r9 = r := by omega
        rw [this]; exact hr
    · rw [List.getElem?_set_ne (fun q => hk q.symm)] at h9
      exact h _ _ _ h9 r9 hr9
end PH
end
section
/-! arrays, constants: written by wip/whole/gen/arrays.py -/
section PA
variable {M : PM} {d mc ms n0 : Nat} {X : Nat × (Nat → Int32)} {Q : PQ} {pc : Nat} {L : PL} {st : List Value} {kc ks : Nat} {sh : List PSh} {S : PSt}
theorem pr_iald {a n : Nat} {i : Int32} (hi : pLook M.2.2.2.2 pc = some (.iaload, 1)) (hs : sh[a]? = some (.inl (0, n))) (hin : vp_in i n) (k : pWP M d mc ms n0 X Q (pc + 1) L (.int (S.1 a i.toNatClampNeg) :: st) kc ks sh S) : pWP M d mc ms n0 X Q pc L (.int i :: .ref a :: st) kc ks sh S := by
  intro p l e R s m args below meth c D tc ad0 A hT hC hR hK hO hA ad H locs ls hN
  exact va_iald (D := D) (cA := tc 0) (n := n) (f := S.1 a) hC.1 hC.2.1 hK.1 hN.hP a 0 (pW_at hs) rfl hin (pLook_ok hT hi) (k p l e R s m args below meth c D tc ad0 A hT hC hR hK hO hA ad H locs ls hN)
theorem pr_fald {a n : Nat} {i : Int32} (hi : pLook M.2.2.2.2 pc = some (.faload, 1)) (hs : sh[a]? = some (.inl (1, n))) (hin : vp_in i n) (k : pWP M d mc ms n0 X Q (pc + 1) L (.float (S.2.1 a i.toNatClampNeg) :: st) kc ks sh S) : pWP M d mc ms n0 X Q pc L (.int i :: .ref a :: st) kc ks sh S := by
  intro p l e R s m args below meth c D tc ad0 A hT hC hR hK hO hA ad H locs ls hN
  exact va_fald (D := D) (cA := tc 1) (n := n) (f := S.2.1 a) hC.1 hC.2.1 hK.1 hN.hP a 1 (pW_at hs) rfl hin (pLook_ok hT hi) (k p l e R s m args below meth c D tc ad0 A hT hC hR hK hO hA ad H locs ls hN)
theorem pr_zald {a n : Nat} {i : Int32} (hi : pLook M.2.2.2.2 pc = some (.baload, 1)) (hs : sh[a]? = some (.inl (2, n))) (hin : vp_in i n) (k : pWP M d mc ms n0 X Q (pc + 1) L (.int (S.1 a i.toNatClampNeg) :: st) kc ks sh S) : pWP M d mc ms n0 X Q pc L (.int i :: .ref a :: st) kc ks sh S := by
  intro p l e R s m args below meth c D tc ad0 A hT hC hR hK hO hA ad H locs ls hN
  exact va_zald (D := D) (cA := tc 2) (n := n) (f := S.1 a) hC.1 hC.2.1 hK.1 hN.hP a 2 (pW_at hs) rfl hin (pLook_ok hT hi) (k p l e R s m args below meth c D tc ad0 A hT hC hR hK hO hA ad H locs ls hN)
theorem pr_lald {a n : Nat} {i : Int32} (hi : pLook M.2.2.2.2 pc = some (.laload, 1)) (hs : sh[a]? = some (.inl (3, n))) (hin : vp_in i n) (k : pWP M d mc ms n0 X Q (pc + 1) L (.long (S.2.2.1 a i.toNatClampNeg) :: st) kc ks sh S) : pWP M d mc ms n0 X Q pc L (.int i :: .ref a :: st) kc ks sh S := by
  intro p l e R s m args below meth c D tc ad0 A hT hC hR hK hO hA ad H locs ls hN
  exact va_lald (D := D) (cA := tc 3) (n := n) (f := S.2.2.1 a) hC.1 hC.2.1 hK.1 hN.hP a 3 (pW_at hs) rfl hin (pLook_ok hT hi) (k p l e R s m args below meth c D tc ad0 A hT hC hR hK hO hA ad H locs ls hN)
theorem pr_dald {a n : Nat} {i : Int32} (hi : pLook M.2.2.2.2 pc = some (.daload, 1)) (hs : sh[a]? = some (.inl (4, n))) (hin : vp_in i n) (k : pWP M d mc ms n0 X Q (pc + 1) L (.double (S.2.2.2 a i.toNatClampNeg) :: st) kc ks sh S) : pWP M d mc ms n0 X Q pc L (.int i :: .ref a :: st) kc ks sh S := by
  intro p l e R s m args below meth c D tc ad0 A hT hC hR hK hO hA ad H locs ls hN
  exact va_dald (D := D) (cA := tc 4) (n := n) (f := S.2.2.2 a) hC.1 hC.2.1 hK.1 hN.hP a 4 (pW_at hs) rfl hin (pLook_ok hT hi) (k p l e R s m args below meth c D tc ad0 A hT hC hR hK hO hA ad H locs ls hN)
theorem pr_ialdR {j : Nat} {i : Int32} (hj : j < 3) (hi : pLook M.2.2.2.2 pc = some (.iaload, 1)) (hin : vp_in i (pRoC X j).1) (k : pWP M d mc ms n0 X Q (pc + 1) L (.int ((pRoC X j).2 i.toNatClampNeg) :: st) kc ks sh S) : pWP M d mc ms n0 X Q pc L (.int i :: .ref (1000 + j) :: st) kc ks sh S := by
  intro p l e R s m args below meth c D tc ad0 A hT hC hR hK hO hA ad H locs ls hN
  have ea : ad (1000 + j) = ad0 (1000 + j) := hN.1 _ (fun q => by have := hN.2.2.1; omega)
  obtain ⟨o1, o2, o3⟩ := hO.1 j hj
  rw [← ea] at o1 o2 o3
  exact va_sld hC.1 hC.2.1 o3 o1 o2 hN.hS hin (pLook_ok hT hi) (k p l e R s m args below meth c D tc ad0 A hT hC hR hK hO hA ad H locs ls hN)
theorem pr_alen {a t n : Nat} (hi : pLook M.2.2.2.2 pc = some (.arraylength, 1)) (hs : sh[a]? = some (.inl (t, n))) (ht : t < 5) (k : pWP M d mc ms n0 X Q (pc + 1) L (.int (Int32.ofNat n) :: st) kc ks sh S) : pWP M d mc ms n0 X Q pc L (.ref a :: st) kc ks sh S := by
  intro p l e R s m args below meth c D tc ad0 A hT hC hR hK hO hA ad H locs ls hN
  have hty : ∃ ty, (pTys tc)[t]? = some (tc t, ty) := by
    match t, ht with
    | 0, _ => exact ⟨_, rfl⟩
    | 1, _ => exact ⟨_, rfl⟩
    | 2, _ => exact ⟨_, rfl⟩
    | 3, _ => exact ⟨_, rfl⟩
    | 4, _ => exact ⟨_, rfl⟩
  obtain ⟨ty, hty⟩ := hty
  exact va_alen (D := D) (cA := tc t) (x := (n, pArr S a t)) hC.1 hC.2.1 hK.1 hN.hP a t (pW_at hs) hty rfl (pLook_ok hT hi) (k p l e R s m args below meth c D tc ad0 A hT hC hR hK hO hA ad H locs ls hN)
theorem pr_alenR {j : Nat} (hj : j < 3) (hi : pLook M.2.2.2.2 pc = some (.arraylength, 1)) (k : pWP M d mc ms n0 X Q (pc + 1) L (.int (Int32.ofNat (pRoC X j).1) :: st) kc ks sh S) : pWP M d mc ms n0 X Q pc L (.ref (1000 + j) :: st) kc ks sh S := by
  intro p l e R s m args below meth c D tc ad0 A hT hC hR hK hO hA ad H locs ls hN
  have ea : ad (1000 + j) = ad0 (1000 + j) := hN.1 _ (fun q => by have := hN.2.2.1; omega)
  obtain ⟨o1, o2, o3⟩ := hO.1 j hj
  rw [← ea] at o1 o2 o3
  exact va_slen hC.1 hC.2.1 o3 o1 o2 hN.hS (pLook_ok hT hi) (k p l e R s m args below meth c D tc ad0 A hT hC hR hK hO hA ad H locs ls hN)
theorem pr_iast {a n : Nat} {i : Int32} {x : Int32} (hi : pLook M.2.2.2.2 pc = some (.iastore, 1)) (hs : sh[a]? = some (.inl (0, n))) (hin : vp_in i n) (k : pWP M d mc ms n0 X Q (pc + 1) L st kc ks sh (pSI S a i.toNatClampNeg x)) : pWP M d mc ms n0 X Q pc L (.int x :: .int i :: .ref a :: st) kc ks sh S := by
  intro p l e9 R s m args below meth c D tc ad0 A hT hC hR hK hO hA ad H locs ls hN
  have e : (pW tc ad sh S).set a (ad a, .inl (tc 0, n, .inl (upd (S.1 a) i.toNatClampNeg x))) = pW tc ad sh (pSI S a i.toNatClampNeg x) := by
    refine pW_set hs ?_ (fun b hb => ⟨pU_ne hb, rfl, rfl, rfl⟩)
    show Sum.inl (tc 0, n, pArr (pSI S a i.toNatClampNeg x) a 0) = Sum.inl (tc 0, n, _)
    congr 3
    first | (show Sum.inl _ = Sum.inl _; congr 1; funext b; simp [pSI, pU, upd]; done) | (simp only [pArr]; congr; funext b; simp [pSI, pU, upd, vf_upd, vp_updL]; done)
  refine va_iast (D := D) (cA := tc 0) (n := n) (f := S.1 a) hC.1 hC.2.1 hK.1 hN.hP hN.hD hN.hS a 0 (pW_at hs) rfl hin (pLook_ok hT hi) (fun H1 locs1 hP hD hS => ?_)
  rw [e] at hP hD
  exact k p l e9 R s m args below meth c D tc ad0 A hT hC hR hK hO hA ad H1 locs1 ls (hN.wr hP hD hS)
theorem pr_fast {a n : Nat} {i : Int32} {x : UInt32} (hi : pLook M.2.2.2.2 pc = some (.fastore, 1)) (hs : sh[a]? = some (.inl (1, n))) (hin : vp_in i n) (k : pWP M d mc ms n0 X Q (pc + 1) L st kc ks sh (pSF S a i.toNatClampNeg x)) : pWP M d mc ms n0 X Q pc L (.float x :: .int i :: .ref a :: st) kc ks sh S := by
  intro p l e9 R s m args below meth c D tc ad0 A hT hC hR hK hO hA ad H locs ls hN
  have e : (pW tc ad sh S).set a (ad a, .inl (tc 1, n, .inr (.inr (.inl (vf_upd (S.2.1 a) i.toNatClampNeg x))))) = pW tc ad sh (pSF S a i.toNatClampNeg x) := by
    refine pW_set hs ?_ (fun b hb => ⟨rfl, pU_ne hb, rfl, rfl⟩)
    show Sum.inl (tc 1, n, pArr (pSF S a i.toNatClampNeg x) a 1) = Sum.inl (tc 1, n, _)
    congr 3
    first | (show Sum.inl _ = Sum.inl _; congr 1; funext b; simp [pSF, pU, upd]; done) | (simp only [pArr]; congr; funext b; simp [pSF, pU, upd, vf_upd, vp_updL]; done)
  refine va_fast (D := D) (cA := tc 1) (n := n) (f := S.2.1 a) hC.1 hC.2.1 hK.1 hN.hP hN.hD hN.hS a 1 (pW_at hs) rfl hin (pLook_ok hT hi) (fun H1 locs1 hP hD hS => ?_)
  rw [e] at hP hD
  exact k p l e9 R s m args below meth c D tc ad0 A hT hC hR hK hO hA ad H1 locs1 ls (hN.wr hP hD hS)
theorem pr_zast {a n : Nat} {i : Int32} {x : Int32} (hi : pLook M.2.2.2.2 pc = some (.bastore, 1)) (hs : sh[a]? = some (.inl (2, n))) (hin : vp_in i n) (hx : vp_nar .boolean x = x) (k : pWP M d mc ms n0 X Q (pc + 1) L st kc ks sh (pSI S a i.toNatClampNeg x)) : pWP M d mc ms n0 X Q pc L (.int x :: .int i :: .ref a :: st) kc ks sh S := by
  intro p l e9 R s m args below meth c D tc ad0 A hT hC hR hK hO hA ad H locs ls hN
  have e : (pW tc ad sh S).set a (ad a, .inl (tc 2, n, .inl (upd (S.1 a) i.toNatClampNeg (vp_nar .boolean x)))) = pW tc ad sh (pSI S a i.toNatClampNeg x) := by
    refine pW_set hs ?_ (fun b hb => ⟨pU_ne hb, rfl, rfl, rfl⟩)
    show Sum.inl (tc 2, n, pArr (pSI S a i.toNatClampNeg x) a 2) = Sum.inl (tc 2, n, _)
    congr 3
    first | (show Sum.inl _ = Sum.inl _; congr 1; funext b; simp [pSI, pU, upd, hx]; done) | (simp only [pArr]; congr; funext b; simp [pSI, pU, upd, vf_upd, vp_updL, hx]; done)
  refine va_zast (D := D) (cA := tc 2) (n := n) (f := S.1 a) hC.1 hC.2.1 hK.1 hN.hP hN.hD hN.hS a 2 (pW_at hs) rfl hin (pLook_ok hT hi) (fun H1 locs1 hP hD hS => ?_)
  rw [e] at hP hD
  exact k p l e9 R s m args below meth c D tc ad0 A hT hC hR hK hO hA ad H1 locs1 ls (hN.wr hP hD hS)
theorem pr_last {a n : Nat} {i : Int32} {x : Int64} (hi : pLook M.2.2.2.2 pc = some (.lastore, 1)) (hs : sh[a]? = some (.inl (3, n))) (hin : vp_in i n) (k : pWP M d mc ms n0 X Q (pc + 1) L st kc ks sh (pSJ S a i.toNatClampNeg x)) : pWP M d mc ms n0 X Q pc L (.long x :: .int i :: .ref a :: st) kc ks sh S := by
  intro p l e9 R s m args below meth c D tc ad0 A hT hC hR hK hO hA ad H locs ls hN
  have e : (pW tc ad sh S).set a (ad a, .inl (tc 3, n, .inr (.inl (vp_updL (S.2.2.1 a) i.toNatClampNeg x)))) = pW tc ad sh (pSJ S a i.toNatClampNeg x) := by
    refine pW_set hs ?_ (fun b hb => ⟨rfl, rfl, pU_ne hb, rfl⟩)
    show Sum.inl (tc 3, n, pArr (pSJ S a i.toNatClampNeg x) a 3) = Sum.inl (tc 3, n, _)
    congr 3
    first | (show Sum.inl _ = Sum.inl _; congr 1; funext b; simp [pSJ, pU, upd]; done) | (simp only [pArr]; congr; funext b; simp [pSJ, pU, upd, vf_upd, vp_updL]; done)
  refine va_last (D := D) (cA := tc 3) (n := n) (f := S.2.2.1 a) hC.1 hC.2.1 hK.1 hN.hP hN.hD hN.hS a 3 (pW_at hs) rfl hin (pLook_ok hT hi) (fun H1 locs1 hP hD hS => ?_)
  rw [e] at hP hD
  exact k p l e9 R s m args below meth c D tc ad0 A hT hC hR hK hO hA ad H1 locs1 ls (hN.wr hP hD hS)
theorem pr_dast {a n : Nat} {i : Int32} {x : UInt64} (hi : pLook M.2.2.2.2 pc = some (.dastore, 1)) (hs : sh[a]? = some (.inl (4, n))) (hin : vp_in i n) (k : pWP M d mc ms n0 X Q (pc + 1) L st kc ks sh (pSD S a i.toNatClampNeg x)) : pWP M d mc ms n0 X Q pc L (.double x :: .int i :: .ref a :: st) kc ks sh S := by
  intro p l e9 R s m args below meth c D tc ad0 A hT hC hR hK hO hA ad H locs ls hN
  have e : (pW tc ad sh S).set a (ad a, .inl (tc 4, n, .inr (.inr (.inr (.inl (vf_upd (S.2.2.2 a) i.toNatClampNeg x)))))) = pW tc ad sh (pSD S a i.toNatClampNeg x) := by
    refine pW_set hs ?_ (fun b hb => ⟨rfl, rfl, rfl, pU_ne hb⟩)
    show Sum.inl (tc 4, n, pArr (pSD S a i.toNatClampNeg x) a 4) = Sum.inl (tc 4, n, _)
    congr 3
    first | (show Sum.inl _ = Sum.inl _; congr 1; funext b; simp [pSD, pU, upd]; done) | (simp only [pArr]; congr; funext b; simp [pSD, pU, upd, vf_upd, vp_updL]; done)
  refine va_dast (D := D) (cA := tc 4) (n := n) (f := S.2.2.2 a) hC.1 hC.2.1 hK.1 hN.hP hN.hD hN.hS a 4 (pW_at hs) rfl hin (pLook_ok hT hi) (fun H1 locs1 hP hD hS => ?_)
  rw [e] at hP hD
  exact k p l e9 R s m args below meth c D tc ad0 A hT hC hR hK hO hA ad H1 locs1 ls (hN.wr hP hD hS)
theorem pr_ldc {idx : Nat} {v : Int32} (hi : pLook M.2.2.2.2 pc = some (.ldc idx, 2)) (hc : Cond.constant M.1.cls idx v ∈ pGood) (k : pWP M d mc ms n0 X Q (pc + 2) L (.int v :: st) kc ks sh S) : pWP M d mc ms n0 X Q pc L st kc ks sh S := by
  intro p l e R s m args below meth c D tc ad0 A hT hC hR hK hO hA ad H locs ls hN
  exact lv_ldc hC.1 hC.2.1 hC.2.2.2.2.1 (hC.2.2.2.2.2.2.2 _ hc) (pLook_ok hT hi) (k p l e R s m args below meth c D tc ad0 A hT hC hR hK hO hA ad H locs ls hN)
theorem pr_ldcf {idx : Nat} {v : UInt32} (hi : pLook M.2.2.2.2 pc = some (.ldc idx, 2)) (hc : Cond.constantFloat M.1.cls idx v ∈ pGood) (k : pWP M d mc ms n0 X Q (pc + 2) L (.float v :: st) kc ks sh S) : pWP M d mc ms n0 X Q pc L st kc ks sh S := by
  intro p l e R s m args below meth c D tc ad0 A hT hC hR hK hO hA ad H locs ls hN
  exact lv_ldcf hC.1 hC.2.1 hC.2.2.2.2.1 (hC.2.2.2.2.2.2.2 _ hc) (pLook_ok hT hi) (k p l e R s m args below meth c D tc ad0 A hT hC hR hK hO hA ad H locs ls hN)
theorem pr_ldcw {idx : Nat} {v : Int32} (hi : pLook M.2.2.2.2 pc = some (.ldc_w idx, 3)) (hc : Cond.constant M.1.cls idx v ∈ pGood) (k : pWP M d mc ms n0 X Q (pc + 3) L (.int v :: st) kc ks sh S) : pWP M d mc ms n0 X Q pc L st kc ks sh S := by
  intro p l e R s m args below meth c D tc ad0 A hT hC hR hK hO hA ad H locs ls hN
  exact lv_ldcw hC.1 hC.2.1 hC.2.2.2.2.1 (hC.2.2.2.2.2.2.2 _ hc) (pLook_ok hT hi) (k p l e R s m args below meth c D tc ad0 A hT hC hR hK hO hA ad H locs ls hN)
end PA
section PAW
variable {p : Program} {l : Launch} {e : Env} {R : Room} {s : State} {m : MethodId} {args : Array Value} {below : List Frame} {meth : Method} {c : Code} {H : Heap} {locs : List Loc} {cells slots : Nat} {Q : State → Prop} {cc : ByteArray} {pc : Nat} {ls : Array Slot} {rest : List Value}
theorem pw_ldcwf0 {T : State} (X : Stand p l e R s m args below meth c T locs cells slots) (hexec : p.tables.exec = Jvm.exec) {own : String} {index : Nat} {b : UInt32} (hown : s.vm.findClass own = some m.cls)
    (hconst : (Cond.constantFloat own index b).before args s = true) {g : JFrame} (hg : g.method = m) (hdg : decode c.code g.pc = .ok (.ldc_w index, 3)) :
    ∀ target, Steps p.tables e below (T.setTop { g with pc := g.pc + 3, stack := .float b :: g.stack }) target → Steps p.tables e below (T.setTop g) target := by
  obtain ⟨k, cf, hk, hcf, hcp⟩ := Cond.constantFloat_spec hown hconst
  obtain ⟨k2, hk2, he⟩ := X.warmed.alike.2.2 _ _ hk
  intro target hrest
  subst hg
  jvm_step X.here [hexec, hdg, ldc_w.wp_float (s := T) (f := g) X.here.top hk2 (by rw [he]; exact hcf) hcp]
  exact hrest
theorem pw_ldcwf (hexec : p.tables.exec = Jvm.exec) (hb : c.code = cc) {own : String} {index : Nat} {v : UInt32} (hown : s.vm.findClass own = some m.cls) (hconst : (Jvm.Cond.constantFloat own index v).before args s = true) (hdg : decode cc pc = .ok (.ldc_w index, 3)) (k : W p l e R s m args below meth c H locs cells slots Q (F0 m (pc + 3) ls (.float v :: rest))) : W p l e R s m args below meth c H locs cells slots Q (F0 m pc ls rest) := by
  intro T hT X
  obtain ⟨t, a, b⟩ := k T hT X
  exact ⟨t, pw_ldcwf0 X hexec hown hconst (g := F0 m pc ls rest) rfl (by rw [hb]; exact hdg) t a, b⟩
end PAW
section PB
variable {M : PM} {d mc ms n0 : Nat} {X : Nat × (Nat → Int32)} {Q : PQ} {pc : Nat} {L : PL} {st : List Value} {kc ks : Nat} {sh : List PSh} {S : PSt}
theorem pr_ldcwf {idx : Nat} {v : UInt32} (hi : pLook M.2.2.2.2 pc = some (.ldc_w idx, 3)) (hc : Cond.constantFloat M.1.cls idx v ∈ pGood) (k : pWP M d mc ms n0 X Q (pc + 3) L (.float v :: st) kc ks sh S) : pWP M d mc ms n0 X Q pc L st kc ks sh S := by
  intro p l e R s m args below meth c D tc ad0 A hT hC hR hK hO hA ad H locs ls hN
  exact pw_ldcwf hC.1 hC.2.1 hC.2.2.2.2.1 (hC.2.2.2.2.2.2.2 _ hc) (pLook_ok hT hi) (k p l e R s m args below meth c D tc ad0 A hT hC hR hK hO hA ad H locs ls hN)
theorem pr_ldc2 {idx : Nat} {v : Int64} (hi : pLook M.2.2.2.2 pc = some (.ldc2_w idx, 3)) (hc : Cond.constantLong M.1.cls idx v ∈ pGood) (k : pWP M d mc ms n0 X Q (pc + 3) L (.long v :: st) kc ks sh S) : pWP M d mc ms n0 X Q pc L st kc ks sh S := by
  intro p l e R s m args below meth c D tc ad0 A hT hC hR hK hO hA ad H locs ls hN
  exact lv_ldc2 hC.1 hC.2.1 hC.2.2.2.2.1 (hC.2.2.2.2.2.2.2 _ hc) (pLook_ok hT hi) (k p l e R s m args below meth c D tc ad0 A hT hC hR hK hO hA ad H locs ls hN)
theorem pr_ldc2d {idx : Nat} {v : UInt64} (hi : pLook M.2.2.2.2 pc = some (.ldc2_w idx, 3)) (hc : Cond.constantDouble M.1.cls idx v ∈ pGood) (k : pWP M d mc ms n0 X Q (pc + 3) L (.double v :: st) kc ks sh S) : pWP M d mc ms n0 X Q pc L st kc ks sh S := by
  intro p l e R s m args below meth c D tc ad0 A hT hC hR hK hO hA ad H locs ls hN
  exact lv_ldc2d hC.1 hC.2.1 hC.2.2.2.2.1 (hC.2.2.2.2.2.2.2 _ hc) (pLook_ok hT hi) (k p l e R s m args below meth c D tc ad0 A hT hC hR hK hO hA ad H locs ls hN)
theorem pr_getsLEAST {idx : Nat} (hi : pLook M.2.2.2.2 pc = some (.getstatic idx, 3)) (hc : Cond.fieldLink M.1.cls idx "EngravedLines" "LEAST" "[I" ∈ pGood) (k : pWP M d mc ms n0 X Q (pc + 3) L (.ref 1001 :: st) kc ks sh S) : pWP M d mc ms n0 X Q pc L st kc ks sh S := by
  intro p l e R s m args below meth c D tc ad0 A hT hC hR hK hO hA ad H locs ls hN
  have ea : ad 1001 = ad0 1001 := hN.1 _ (fun q => by have := hN.2.2.1; omega)
  have hZ := hO.2.1
  rw [← ea] at hZ
  exact va_gets hC.1 hC.2.1 hZ hN.hS hC.2.2.2.2.1 (hC.2.2.2.2.2.2.2 _ hc) (fun _ h9 => h9) (pLook_ok hT hi) (k p l e R s m args below meth c D tc ad0 A hT hC hR hK hO hA ad H locs ls hN)
theorem pr_getsMOST {idx : Nat} (hi : pLook M.2.2.2.2 pc = some (.getstatic idx, 3)) (hc : Cond.fieldLink M.1.cls idx "EngravedLines" "MOST" "[I" ∈ pGood) (k : pWP M d mc ms n0 X Q (pc + 3) L (.ref 1002 :: st) kc ks sh S) : pWP M d mc ms n0 X Q pc L st kc ks sh S := by
  intro p l e R s m args below meth c D tc ad0 A hT hC hR hK hO hA ad H locs ls hN
  have ea : ad 1002 = ad0 1002 := hN.1 _ (fun q => by have := hN.2.2.1; omega)
  have hZ := hO.2.2
  rw [← ea] at hZ
  exact va_gets hC.1 hC.2.1 hZ hN.hS hC.2.2.2.2.1 (hC.2.2.2.2.2.2.2 _ hc) (fun _ h9 => h9) (pLook_ok hT hi) (k p l e R s m args below meth c D tc ad0 A hT hC hR hK hO hA ad H locs ls hN)
theorem pr_forget {L2 : PL} (hw : ∀ (i : Nat) (v : Value), L2[i]? = some (some v) → L[i]? = some (some v)) (k : pWP M d mc ms n0 X Q pc L2 st kc ks sh S) : pWP M d mc ms n0 X Q pc L st kc ks sh S := by
  intro p l e R s m args below meth c D tc ad0 A hT hC hR hK hO hA ad H locs ls hN
  exact k p l e R s m args below meth c D tc ad0 A hT hC hR hK hO hA ad H locs ls (hN.st (pAs_weak hw hN.ls))
theorem pr_post {Q2 : PQ} (hq : ∀ r sh2 S2, Q2 r sh2 S2 → Q r sh2 S2) (k : pWP M d mc ms n0 X Q2 pc L st kc ks sh S) : pWP M d mc ms n0 X Q pc L st kc ks sh S := by
  intro p l e R s m args below meth c D tc ad0 A hT hC hR hK hO hA ad H locs ls hN
  intro T hT9 X9
  obtain ⟨t, a1, o, b1, b2, ⟨⟨r, sh3, S3, ad3, c1, c2, c3, c4, c5, c6, c7⟩, b3⟩, b4⟩ := k p l e R s m args below meth c D tc ad0 A hT hC hR hK hO hA ad H locs ls hN T hT9 X9
  exact ⟨t, a1, o, b1, b2, ⟨⟨r, sh3, S3, ad3, c1, c2, c3, c4, c5, hq _ _ _ c6, c7⟩, b3⟩, b4⟩
theorem pr_lret {x : Int64} (hi : pLook M.2.2.2.2 pc = some (.lreturn, 1)) (hr : M.2.2.2.1 = some .long) (hk : kc ≤ mc ∧ ks ≤ ms) (hq : Q (some (.long x)) sh S) : pWP M d mc ms n0 X Q pc L [.long x] kc ks sh S := by
  intro p l e R s m args below meth c D tc ad0 A hT hC hR hK hO hA ad H locs ls hN
  refine W.widen hk.1 hk.2 ?_
  exact W.lret hC.1 hC.2.1 (hC.2.2.2.1.trans hr) (fun t ht _ => ⟨⟨some (.long x), sh, S, ad, hN.1, hN.2.1, hN.2.2.1, hN.2.2.2.1, rfl, hq, by rw [ht]; exact hN.hP, hN.hD⟩, hN.hS.F ht⟩) hN.hS.2.2 (pLook_ok hT hi) hC.2.2.2.2.2.1
theorem pr_fret {x : UInt32} (hi : pLook M.2.2.2.2 pc = some (.freturn, 1)) (hr : M.2.2.2.1 = some .float) (hk : kc ≤ mc ∧ ks ≤ ms) (hq : Q (some (.float x)) sh S) : pWP M d mc ms n0 X Q pc L [.float x] kc ks sh S := by
  intro p l e R s m args below meth c D tc ad0 A hT hC hR hK hO hA ad H locs ls hN
  refine W.widen hk.1 hk.2 ?_
  exact W.fret hC.1 hC.2.1 (hC.2.2.2.1.trans hr) (fun t ht _ => ⟨⟨some (.float x), sh, S, ad, hN.1, hN.2.1, hN.2.2.1, hN.2.2.2.1, rfl, hq, by rw [ht]; exact hN.hP, hN.hD⟩, hN.hS.F ht⟩) hN.hS.2.2 (pLook_ok hT hi) hC.2.2.2.2.2.1
theorem pr_dret {x : UInt64} (hi : pLook M.2.2.2.2 pc = some (.dreturn, 1)) (hr : M.2.2.2.1 = some .double) (hk : kc ≤ mc ∧ ks ≤ ms) (hq : Q (some (.double x)) sh S) : pWP M d mc ms n0 X Q pc L [.double x] kc ks sh S := by
  intro p l e R s m args below meth c D tc ad0 A hT hC hR hK hO hA ad H locs ls hN
  refine W.widen hk.1 hk.2 ?_
  exact W.dret hC.1 hC.2.1 (hC.2.2.2.1.trans hr) (fun t ht _ => ⟨⟨some (.double x), sh, S, ad, hN.1, hN.2.1, hN.2.2.1, hN.2.2.2.1, rfl, hq, by rw [ht]; exact hN.hP, hN.hD⟩, hN.hS.F ht⟩) hN.hS.2.2 (pLook_ok hT hi) hC.2.2.2.2.2.1
theorem pr_iret {x : Int32} (hi : pLook M.2.2.2.2 pc = some (.ireturn, 1)) (hr : M.2.2.2.1 = some .int) (hk : kc ≤ mc ∧ ks ≤ ms) (hq : Q (some (.int x)) sh S) : pWP M d mc ms n0 X Q pc L [.int x] kc ks sh S := by
  intro p l e R s m args below meth c D tc ad0 A hT hC hR hK hO hA ad H locs ls hN
  refine W.widen hk.1 hk.2 ?_
  exact W.iret hC.1 hC.2.1 (hC.2.2.2.1.trans hr) (fun t ht _ => ⟨⟨some (.int x), sh, S, ad, hN.1, hN.2.1, hN.2.2.1, hN.2.2.2.1, rfl, hq, by rw [ht]; exact hN.hP, hN.hD⟩, hN.hS.F ht⟩) hN.hS.2.2 (pLook_ok hT hi) hC.2.2.2.2.2.1
theorem pr_zret {x : Int32} {ty : FieldType} (hi : pLook M.2.2.2.2 pc = some (.ireturn, 1)) (hr : M.2.2.2.1 = some ty) (hn : narrow ty (.int x) = .int x) (hk : kc ≤ mc ∧ ks ≤ ms) (hq : Q (some (.int x)) sh S) : pWP M d mc ms n0 X Q pc L [.int x] kc ks sh S := by
  intro p l e R s m args below meth c D tc ad0 A hT hC hR hK hO hA ad H locs ls hN
  refine W.widen hk.1 hk.2 ?_
  exact W.zret hC.1 hC.2.1 (hC.2.2.2.1.trans hr) hn (fun t ht _ => ⟨⟨some (.int x), sh, S, ad, hN.1, hN.2.1, hN.2.2.1, hN.2.2.2.1, rfl, hq, by rw [ht]; exact hN.hP, hN.hD⟩, hN.hS.F ht⟩) hN.hS.2.2 (pLook_ok hT hi) hC.2.2.2.2.2.1
theorem pr_vret (hi : pLook M.2.2.2.2 pc = some (.return_, 1)) (hr : M.2.2.2.1 = none) (hk : kc ≤ mc ∧ ks ≤ ms) (hq : Q none sh S) : pWP M d mc ms n0 X Q pc L [] kc ks sh S := by
  intro p l e R s m args below meth c D tc ad0 A hT hC hR hK hO hA ad H locs ls hN
  refine W.widen hk.1 hk.2 ?_
  exact W.vret hC.1 hC.2.1 (hC.2.2.2.1.trans hr) (fun t ht _ => ⟨⟨none, sh, S, ad, hN.1, hN.2.1, hN.2.2.1, hN.2.2.2.1, rfl, hq, by rw [ht]; exact hN.hP, hN.hD⟩, hN.hS.F ht⟩) hN.hS.2.2 (pLook_ok hT hi) hC.2.2.2.2.2.1
end PB
end
section
/-! the pure machine: a contract from a walk, calls -/
/-- the locals at a method's entry -/
def pArgs (av : List Value) : PL := match av with
  | [] => []
  | v :: vs => if v.category = 2 then some v :: none :: pArgs vs else some v :: pArgs vs
def pL0 (n : Nat) (av : List Value) : PL := pArgs av ++ List.replicate (n - (pArgs av).length) none
theorem pArgs_in (ad : Nat → Nat) : ∀ (av : List Value) (i j : Nat) (v : Value), (pArgs av)[j]? = some (some v) → (i + j, pTr ad v) ∈ lv_args i (av.map (pTr ad)) := by
  intro av
  induction av with
  | nil => intro i j v h; cases h
  | cons w vs ih =>
    intro i j v h
    show (i + j, pTr ad v) ∈ (i, pTr ad w) :: lv_args (if (pTr ad w).category = 2 then i + 2 else i + 1) (vs.map (pTr ad))
    rw [pTr_cat]
    unfold pArgs at h
    by_cases hc : w.category = 2
    · rw [if_pos hc] at h ⊢
      match j, h with
      | 0, h => cases h; exact List.mem_cons_self
      | 1, h => cases h
      | j + 2, h =>
        have := ih (i + 2) j v h
        rw [show i + (j + 2) = i + 2 + j by omega]
        exact List.mem_cons_of_mem _ this
    · rw [if_neg hc] at h ⊢
      match j, h with
      | 0, h => cases h; exact List.mem_cons_self
      | j + 1, h =>
        have := ih (i + 1) j v h
        rw [show i + (j + 1) = i + 1 + j by omega]
        exact List.mem_cons_of_mem _ this
theorem pArgs_len (ad : Nat → Nat) (av : List Value) : (lg_sl (av.map (pTr ad))).length = (pArgs av).length := by
  induction av with
  | nil => rfl
  | cons w vs ih =>
    unfold lg_sl at ih ⊢
    rw [List.map_cons, List.flatMap_cons, List.length_append, ih]
    have e : pArgs (w :: vs) = if w.category = 2 then some w :: none :: pArgs vs else some w :: pArgs vs := rfl
    rw [e, pTr_cat]
    by_cases hc : w.category = 2
    · rw [if_pos hc, if_pos hc]; simp; omega
    · rw [if_neg hc, if_neg hc]; simp; omega
theorem pSpec.of {M : PM} {d mc ms : Nat} {av : List Value} {X : Nat × (Nat → Int32)} {sh : List PSh} {S : PSt} {Q : PQ} (hy : plainName M.1.cls = true) (hT : pTabOk M.2.1 M.2.2.2.2 = true) (ha : (pArgs av).length ≤ M.2.2.1)
    (h : pWP M d mc ms sh.length X Q 0 (pL0 M.2.2.1 av) [] 0 0 sh S) : pSpec M d mc ms av X sh S Q := by
  intro h1000 hok l D tc ad sz
  refine Met.ofW (cc := M.2.1) (maxL := M.2.2.1) (ret := M.2.2.2.1) hy rfl ?_
  intro p e s m args below meth c s₁ B hml hv
  obtain ⟨rfl, hsz, hP, hK, hD0, hO⟩ := hv
  have hts := atoms_spec (ws := pWs M) B.pre
  subst hsz
  rw [lg_entry_eq]
  have hl := lv_entry (av.map (pTr ad)) (n := M.2.2.1) (by rw [pArgs_len]; exact ha)
  have hC : pCtx M p s m (av.map (pTr ad)).toArray meth c := ⟨B.exec, B.bytes, hml, B.returns, findClass_of_methodNamed B.named, B.notSynchronized, fun hi => (name_of_methodNamed B.named B.method).1.trans hi, fun w hw => hts w (List.mem_cons_of_mem _ hw)⟩
  refine h p l e _ s m _ below meth c D tc ad (va_A (pW tc ad sh S) s.heap.size) hT hC ⟨Nat.le_refl _, Nat.le_refl _, Nat.le_refl _, Nat.le_refl _⟩ hK hO (fun q hq => Or.inr hq) ad s.heap [] _ ⟨fun _ _ => rfl, Nat.le_refl _, h1000, hok, hP, hD0.self, va_S.rf, ?_⟩
  refine ⟨hl.1, hl.2.1, fun q hq => hl.2.2 q ?_⟩
  obtain ⟨j, w⟩ := q
  obtain ⟨v, h1, rfl⟩ := pAs_mem.mp hq
  have h2 : (pArgs av)[j]? = some (some v) := by
    unfold pL0 at h1
    by_cases hj : j < (pArgs av).length
    · rw [List.getElem?_append_left hj] at h1; exact h1
    · rw [List.getElem?_append_right (by omega), List.getElem?_replicate] at h1
      split at h1 <;> cases h1
  have h3 := pArgs_in ad av 0 j v h2
  rwa [Nat.zero_add] at h3
/-- what a callee must be among the words -/
def pCallee (M : PM) (n : Nat) : Prop := (M.1.cls ≠ "java/lang/invoke/MethodHandle" ∧ M.1.cls ≠ "java/lang/invoke/VarHandle" ∧ (parseMethodDescriptor M.1.desc).map (fun d => d.parameters.length) = some n) ∧ Cond.code M.1 M.2.1 M.2.2.1 M.2.2.2.1 ∈ pGood ∧ Cond.initialized M.1.cls ∈ pGood ∧ M.2.2.1 ≤ 20
/-- a call site: in the class own the pool's entry idx is the method M -/
def pML (own : String) (idx : Nat) (M : PM) : Prop := Cond.methodLink own idx M.1 ∈ pGood ∨ ∃ h, Cond.methodLinkNest own idx M.1 h ∈ pNest
theorem pWs_good {M : PM} {n : Nat} (h : pCallee M n) : GoodIn pGood (pWs M) := pGood_ok fun w hw => by
  rcases List.mem_cons.mp hw with rfl | hw
  · exact h.2.1
  · exact hw
theorem pPc_blind {av : List Value} {D : va_G} {tc ad : Nat → Nat} {X : Nat × (Nat → Int32)} {sh : List PSh} {S : PSt} {sz : Nat} : FrameBlind (pPc av D tc ad X sh S sz) := fun a U g mk q => by
  obtain ⟨q0, q1, qP, qK, qD, qO⟩ := q
  exact ⟨q0, q1, qP, pKK.same (s := U) (U := U.calling g mk a) rfl qK, qD, pRO.moved (U := U.calling g mk a) (Vm.Alike.refl U.vm) qO⟩
theorem pA_in {tc ad : Nat → Nat} {sh : List PSh} {S : PSt} {A : Nat → Prop} {s : State} {H : Heap} {locs : List Loc} (hD : va_D A (pW tc ad sh S)) (hS : va_S A s.heap H locs) (hA : ∀ q, s.heap.size ≤ q → A q) : ∀ q, va_A (pW tc ad sh S) H.size q → A q := by
  intro q h
  rcases h with ⟨k, e, h⟩ | h
  · exact hD.2 k (q, e) h
  · exact hA q (Nat.le_trans hS.1 h)
theorem pPc_at {av : List Value} {n0 nL : Nat} {D : va_G} {tc ad0 ad : Nat → Nat} {X : Nat × (Nat → Int32)} {A : Nat → Prop} {s : State} {H : Heap} {locs : List Loc} {ls : Array Slot} {L : PL} {sh : List PSh} {S : PSt} (hN : pNow n0 nL D tc ad0 ad A s H locs ls L sh S) (hK : pKK D tc s) (hO : pRO ad0 X A s s.heap) (hA : ∀ q, s.heap.size ≤ q → A q) :
    ∀ U : State, U.heap = H → s.WarmedH U.vm → pPc av D tc ad X sh S H.size (av.map (pTr ad)).toArray U := by
  intro U hU hW
  refine ⟨rfl, by rw [hU], by rw [hU]; exact hN.hP, hK.moved hW, hN.hD.weaken (fun _ _ _ _ => trivial), ?_⟩
  rw [hU]
  have h1 : pRO ad X A s s.heap := pRO.ads (fun k hk => hN.1 k (fun q => by have := hN.2.2.1; omega)) hO
  exact ((h1.kept hN.hS.1 hN.hS.2.1).moved hW.alike).narrow (pA_in hN.hD hN.hS hA)
/-- behind a call: the callee's end is the caller's next state -/
theorem pr_back {M : PM} {d mc ms n0 : Nat} {X : Nat × (Nat → Int32)} {Q Q1 : PQ} {pc kc ks mc1 ms1 : Nat} {L : PL} {st rest : List Value} {sh : List PSh} {S : PSt} {p : Program} {l : Launch} {e : Env} {R : Room} {s : State} {m : MethodId} {args : Array Value} {below : List Frame} {meth : Method} {c : Code} {D : va_G} {tc ad0 : Nat → Nat} {A : Nat → Prop} {ad : Nat → Nat} {H : Heap} {locs : List Loc} {ls : Array Slot} {a9 : Array Value}
    (hT : pTabOk M.2.1 M.2.2.2.2 = true) (hC : pCtx M p s m args meth c) (hR : d ≤ R.frames ∧ 39 * d ≤ R.locals ∧ mc ≤ R.cells ∧ ms ≤ R.slots) (hK : pKK D tc s) (hO : pRO ad0 X A s s.heap) (hA : ∀ q, s.heap.size ≤ q → A q) (hN : pNow n0 M.2.2.1 D tc ad0 ad A s H locs ls L sh S)
    (hrun : va_Run p l e R s m args below meth c H locs kc ks mc1 ms1 (F0 m pc ls st) (rest.map (pTr ad)) (pQc (va_A (pW tc ad sh S) H.size) D tc ad sh.length Q1 a9) (va_A (pW tc ad sh S) H.size))
    (hsame : ∀ r sh2 S2, Q1 r sh2 S2 → (∀ ad2 : Nat → Nat, (∀ k, ¬ (sh.length ≤ k ∧ k < sh2.length) → ad2 k = ad k) → rest.map (pTr ad2) = rest.map (pTr ad) ∧ ∀ (j : Nat) (v : Value), L[j]? = some (some v) → pTr ad2 v = pTr ad v))
    (k : ∀ r sh2 S2, Q1 r sh2 S2 → pWP M d mc ms n0 X Q (pc + 3) L (r.toList ++ rest) (kc + mc1) (ks + ms1) sh2 S2) : W p l e R s m args below meth c H locs kc ks (MQ below (pQc A D tc ad0 n0 Q) args s mc ms A) (F0 m pc ls st) := by
  intro T hT9 X9
  obtain ⟨v, st₀, t, T', L9, h0, X', hL, e1, e2, ⟨⟨r, sh2, S2, ad2, hag, hn, h1000, hok, hv, hq, hP1, hD1⟩, hz, hk⟩, hst⟩ := hrun T hT9 X9
  cases hv
  rw [h0] at hz hk
  have hAin := pA_in hN.hD hN.hS hA
  have hS2 : va_S A s.heap T'.heap (locs ++ L9) := ⟨Nat.le_trans hN.hS.1 (by rw [e1]; exact hz), fun q h1 h2 => by rw [e1, hk q (Nat.lt_of_lt_of_le h1 hN.hS.1) (fun z => h2 (hAin q z))]; exact hN.hS.2.1 q h1 h2, fun q hq => by
      rcases List.mem_append.mp hq with h | h
      · exact hN.hS.2.2 q h
      · exact hAin _ (hL q h)⟩
  obtain ⟨hr1, hr2⟩ := hsame r sh2 S2 hq ad2 hag
  have hls : lv_has ls M.2.2.1 (pAs ad2 L) := by
    refine ⟨hN.ls.1, hN.ls.2.1, fun q hq9 => ?_⟩
    obtain ⟨j, w⟩ := q
    obtain ⟨v, h1, rfl⟩ := pAs_mem.mp hq9
    rw [hr2 j v h1]
    exact hN.ls.2.2 (j, pTr ad v) (pAs_mem.mpr ⟨v, h1, rfl⟩)
  have hN2 : pNow n0 M.2.2.1 D tc ad0 ad2 A s T'.heap (locs ++ L9) ls L sh2 S2 := by
    refine ⟨fun k hk9 => ?_, Nat.le_trans hN.2.1 hn, h1000, hok, by rw [e1]; exact hP1, hD1.weaken (fun k q _ h => hAin q.1 h), hS2, hls⟩
    have a1 : ad2 k = ad k := hag k (fun q => hk9 ⟨Nat.le_trans hN.2.1 q.1, q.2⟩)
    rw [a1]
    exact hN.1 k (fun q => hk9 ⟨q.1, Nat.lt_of_lt_of_le q.2 hn⟩)
  obtain ⟨t2, a1, b1⟩ := k r sh2 S2 hq p l e R s m args below meth c D tc ad0 A hT hC hR hK hO hA ad2 T'.heap (locs ++ L9) ls hN2 T' rfl X'
  refine ⟨t2, hst t2 ?_, b1⟩
  have he : (r.map (pTr ad2)).toList ++ rest.map (pTr ad) = (r.toList ++ rest).map (pTr ad2) := by
    rw [List.map_append, hr1]
    cases r <;> rfl
  show Steps p.tables e below (T'.setTop { F0 m pc ls st with pc := pc + 3, stack := (r.map (pTr ad2)).toList ++ rest.map (pTr ad) }) t2
  rw [he]
  exact a1
theorem pCat {ad : Nat → Nat} {rest : List Value} (h : (rest.map fun v => v.category).sum ≤ 8) : ((rest.map (pTr ad)).map fun v => v.category).sum ≤ 8 := by
  have : (rest.map (pTr ad)).map (fun v => v.category) = rest.map (fun v => v.category) := by
    rw [List.map_map]
    exact List.map_congr_left fun v _ => pTr_cat ad v
  rw [this]
  exact h
section PCALL
variable {M M1 : PM} {d d1 mc ms n0 : Nat} {X : Nat × (Nat → Int32)} {Q Q1 : PQ} {pc : Nat} {L : PL} {rest : List Value} {kc ks mc1 ms1 : Nat} {sh : List PSh} {S : PSt} {idx n : Nat} {as : List Value}
/-- a static call -/
theorem pr_callS (hi : pLook M.2.2.2.2 pc = some (.invokestatic idx, 3)) (hce : pCallee M1 n) (hml : pML M.1.cls idx M1) (hst : Cond.static M1.1 ∈ pGood) (hn : as.length = n) (hd : d1 + 1 ≤ d) (hcat : (rest.map fun v => v.category).sum ≤ 8) (hm : kc + mc1 ≤ mc ∧ ks + ms1 ≤ ms)
    (hsp : pSpec M1 d1 mc1 ms1 as X sh S Q1)
    (hsame : ∀ r sh2 S2, Q1 r sh2 S2 → (∀ ad ad2 : Nat → Nat, (∀ k, ¬ (sh.length ≤ k ∧ k < sh2.length) → ad2 k = ad k) → rest.map (pTr ad2) = rest.map (pTr ad) ∧ ∀ (j : Nat) (v : Value), L[j]? = some (some v) → pTr ad2 v = pTr ad v))
    (k : ∀ r sh2 S2, Q1 r sh2 S2 → pWP M d mc ms n0 X Q (pc + 3) L (r.toList ++ rest) (kc + mc1) (ks + ms1) sh2 S2) : pWP M d mc ms n0 X Q pc L (as.reverse ++ rest) kc ks sh S := by
  intro p l e R s m args below meth c D tc ad0 A hT hC hR hK hO hA ad H locs ls hN
  have hts := hC.2.2.2.2.2.2.2
  have hM := hsp hN.2.2.1 hN.2.2.2.1 l D tc ad H.size
  have hfix : CallFix p m c M.2.1 M.2.2.1 s args pGood M.1.cls := ⟨hC.1, hC.2.1, hC.2.2.1, hC.2.2.2.2.1, hts⟩
  have hRm : (pRoom d1 mc1 ms1).frames + 1 ≤ R.frames ∧ 8 + (M1.2.2.1 + 11) + (pRoom d1 mc1 ms1).locals ≤ R.locals := by
    refine ⟨Nat.le_trans hd hR.1, ?_⟩
    show 8 + (M1.2.2.1 + 11) + 39 * d1 ≤ R.locals
    have h20 := hce.2.2.2
    have := hR.2.1
    omega
  have hstk : (as.reverse ++ rest).map (pTr ad) = (as.map (pTr ad)).reverse ++ rest.map (pTr ad) := by rw [List.map_append, List.map_reverse]
  have hf : kc + mc1 ≤ R.cells ∧ ks + ms1 ≤ R.slots := ⟨Nat.le_trans hm.1 hR.2.2.1, Nat.le_trans hm.2 hR.2.2.2⟩
  have hlen : (as.map (pTr ad)).length = n := by rw [List.length_map]; exact hn
  rcases hml with hml | ⟨host, hml⟩
  · exact pr_back hT hC hR hK hO hA hN (va_runS hfix hM ⟨callB_of n hts (pWs_good hce) rfl rfl rfl (hts _ hce.2.2.1) (hts _ hml) hce.1 hRm, hts _ hst⟩ ⟨pPc_blind, pPc_at hN hK hO hA⟩ rfl hlen hN.ls.1 hstk (lv_room (pCat hcat)) (pLook_ok hT hi) hf) (fun r sh2 S2 h ad2 ha => hsame r sh2 S2 h ad ad2 ha) k
  · exact pr_back hT hC hR hK hO hA hN (va_runSN hfix hM ⟨va_cnB n hts (pWs_good hce) rfl rfl rfl (hK.2 _ hml) (hts _ hce.2.2.1) hce.1 hRm, hts _ hst, trivial⟩ ⟨pPc_blind, pPc_at hN hK hO hA⟩ rfl hlen hN.ls.1 hstk (lv_room (pCat hcat)) (pLook_ok hT hi) hf) (fun r sh2 S2 h ad2 ha => hsame r sh2 S2 h ad ad2 ha) k
/-- a call of an object's method -/
theorem pr_callV {b cI : Nat} {fs : List Nat} {qc : vw_C} (hi : pLook M.2.2.2.2 pc = some (.invokevirtual idx, 3)) (hce : pCallee M1 n) (hml : pML M.1.cls idx M1) (hin : Cond.instanceMethod M1.1 ∈ pGood) (hse : Cond.selects M1.1.cls M1.1 M1.1 ∈ pGood) (hb : sh[b]? = some (.inr (cI, fs))) (hcl : vwCl[cI]? = some qc) (hqc : qc.1 = M1.1.cls) (hn : as.length = n) (hd : d1 + 1 ≤ d) (hcat : (rest.map fun v => v.category).sum ≤ 8) (hm : kc + mc1 ≤ mc ∧ ks + ms1 ≤ ms)
    (hsp : pSpec M1 d1 mc1 ms1 (.ref b :: as) X sh S Q1)
    (hsame : ∀ r sh2 S2, Q1 r sh2 S2 → (∀ ad ad2 : Nat → Nat, (∀ k, ¬ (sh.length ≤ k ∧ k < sh2.length) → ad2 k = ad k) → rest.map (pTr ad2) = rest.map (pTr ad) ∧ ∀ (j : Nat) (v : Value), L[j]? = some (some v) → pTr ad2 v = pTr ad v))
    (k : ∀ r sh2 S2, Q1 r sh2 S2 → pWP M d mc ms n0 X Q (pc + 3) L (r.toList ++ rest) (kc + mc1) (ks + ms1) sh2 S2) : pWP M d mc ms n0 X Q pc L (as.reverse ++ .ref b :: rest) kc ks sh S := by
  intro p l e R s m args below meth c D tc ad0 A hT hC hR hK hO hA ad H locs ls hN
  have hts := hC.2.2.2.2.2.2.2
  have hM := hsp hN.2.2.1 hN.2.2.2.1 l D tc ad H.size
  have hfix : CallFix p m c M.2.1 M.2.2.1 s args pGood M.1.cls := ⟨hC.1, hC.2.1, hC.2.2.1, hC.2.2.2.2.1, hts⟩
  have hRm : (pRoom d1 mc1 ms1).frames + 1 ≤ R.frames ∧ 8 + (M1.2.2.1 + 11) + (pRoom d1 mc1 ms1).locals ≤ R.locals := by
    refine ⟨Nat.le_trans hd hR.1, ?_⟩
    show 8 + (M1.2.2.1 + 11) + 39 * d1 ≤ R.locals
    have h20 := hce.2.2.2
    have := hR.2.1
    omega
  have hstk : (as.reverse ++ .ref b :: rest).map (pTr ad) = (as.map (pTr ad)).reverse ++ .ref (ad b) :: rest.map (pTr ad) := by rw [List.map_append, List.map_reverse]; rfl
  have hf : kc + mc1 ≤ R.cells ∧ ks + ms1 ≤ R.slots := ⟨Nat.le_trans hm.1 hR.2.2.1, Nat.le_trans hm.2 hR.2.2.2⟩
  have hlen : (as.map (pTr ad)).length = n := by rw [List.length_map]; exact hn
  have hpv : PreV s H M1.1.cls (ad b) (pPc (.ref b :: as) D tc ad X sh S H.size) (as.map (pTr ad)) := ⟨pPc_blind, by rw [← hqc]; exact va_recv hK.1 hN.hP hcl (pW_at hb), pPc_at (av := .ref b :: as) hN hK hO hA⟩
  rcases hml with hml | ⟨host, hml⟩
  · exact pr_back hT hC hR hK hO hA hN (va_runV hfix hM ⟨callB_of n hts (pWs_good hce) rfl rfl rfl (hts _ hce.2.2.1) (hts _ hml) hce.1 hRm, hts _ hin, hts _ hse⟩ hpv rfl hlen hN.ls.1 hstk (lv_room (pCat hcat)) (pLook_ok hT hi) hf) (fun r sh2 S2 h ad2 ha => hsame r sh2 S2 h ad ad2 ha) k
  · exact pr_back hT hC hR hK hO hA hN (va_runVN hfix hM ⟨va_cnB n hts (pWs_good hce) rfl rfl rfl (hK.2 _ hml) (hts _ hce.2.2.1) hce.1 hRm, hts _ hin, hts _ hse⟩ hpv rfl hlen hN.ls.1 hstk (lv_room (pCat hcat)) (pLook_ok hT hi) hf) (fun r sh2 S2 h ad2 ha => hsame r sh2 S2 h ad ad2 ha) k
/-- a constructor's call -/
theorem pr_callI {b : Nat} (hi : pLook M.2.2.2.2 pc = some (.invokespecial idx, 3)) (hce : pCallee M1 n) (hml : pML M.1.cls idx M1) (hin : Cond.instanceMethod M1.1 ∈ pGood) (hnm : M1.1.name = "<init>") (hrt : M1.2.2.2.1 = none) (hn : as.length = n) (hd : d1 + 1 ≤ d) (hcat : (rest.map fun v => v.category).sum ≤ 8) (hm : kc + mc1 ≤ mc ∧ ks + ms1 ≤ ms)
    (hsp : pSpec M1 d1 mc1 ms1 (.ref b :: as) X sh S Q1)
    (hsame : ∀ r sh2 S2, Q1 r sh2 S2 → (∀ ad ad2 : Nat → Nat, (∀ k, ¬ (sh.length ≤ k ∧ k < sh2.length) → ad2 k = ad k) → rest.map (pTr ad2) = rest.map (pTr ad) ∧ ∀ (j : Nat) (v : Value), L[j]? = some (some v) → pTr ad2 v = pTr ad v))
    (k : ∀ r sh2 S2, Q1 r sh2 S2 → pWP M d mc ms n0 X Q (pc + 3) L (r.toList ++ rest) (kc + mc1) (ks + ms1) sh2 S2) : pWP M d mc ms n0 X Q pc L (as.reverse ++ .ref b :: rest) kc ks sh S := by
  intro p l e R s m args below meth c D tc ad0 A hT hC hR hK hO hA ad H locs ls hN
  have hts := hC.2.2.2.2.2.2.2
  have hM := hsp hN.2.2.1 hN.2.2.2.1 l D tc ad H.size
  have hfix : CallFix p m c M.2.1 M.2.2.1 s args pGood M.1.cls := ⟨hC.1, hC.2.1, hC.2.2.1, hC.2.2.2.2.1, hts⟩
  have hRm : (pRoom d1 mc1 ms1).frames + 1 ≤ R.frames ∧ 8 + (M1.2.2.1 + 11) + (pRoom d1 mc1 ms1).locals ≤ R.locals := by
    refine ⟨Nat.le_trans hd hR.1, ?_⟩
    show 8 + (M1.2.2.1 + 11) + 39 * d1 ≤ R.locals
    have h20 := hce.2.2.2
    have := hR.2.1
    omega
  have hstk : (as.reverse ++ .ref b :: rest).map (pTr ad) = (as.map (pTr ad)).reverse ++ .ref (ad b) :: rest.map (pTr ad) := by rw [List.map_append, List.map_reverse]; rfl
  have hf : kc + mc1 ≤ R.cells ∧ ks + ms1 ≤ R.slots := ⟨Nat.le_trans hm.1 hR.2.2.1, Nat.le_trans hm.2 hR.2.2.2⟩
  have hlen : (as.map (pTr ad)).length = n := by rw [List.length_map]; exact hn
  have hps : PreS s H (pPc (.ref b :: as) D tc ad X sh S H.size) (.ref (ad b) :: as.map (pTr ad)) := ⟨pPc_blind, pPc_at (av := .ref b :: as) hN hK hO hA⟩
  have hgd : pWs M1 = Cond.code M1.1 M1.2.1 M1.2.2.1 none :: pGood := by unfold pWs; rw [hrt]
  rcases hml with hml | ⟨host, hml⟩
  · exact pr_back hT hC hR hK hO hA hN (va_runI hfix hM ⟨callB_of n hts (pWs_good hce) hgd rfl rfl (hts _ hce.2.2.1) (hts _ hml) hce.1 hRm, hnm, hts _ hin⟩ hps rfl hlen hN.ls.1 hstk (lv_room (pCat hcat)) (pLook_ok hT hi) hf) (fun r sh2 S2 h ad2 ha => hsame r sh2 S2 h ad ad2 ha) k
  · exact pr_back hT hC hR hK hO hA hN (va_runIN hfix hM ⟨va_cnB n hts (pWs_good hce) hgd rfl rfl (hK.2 _ hml) (hts _ hce.2.2.1) hce.1 hRm, hnm, hts _ hin⟩ hps rfl hlen hN.ls.1 hstk (lv_room (pCat hcat)) (pLook_ok hT hi) hf) (fun r sh2 S2 h ad2 ha => hsame r sh2 S2 h ad ad2 ha) k
/-- a callee that makes nothing leaves all addresses -/
theorem pSame0 {sh2 : List PSh} (h : sh2.length = sh.length) : ∀ ad ad2 : Nat → Nat, (∀ k, ¬ (sh.length ≤ k ∧ k < sh2.length) → ad2 k = ad k) → rest.map (pTr ad2) = rest.map (pTr ad) ∧ ∀ (j : Nat) (v : Value), L[j]? = some (some v) → pTr ad2 v = pTr ad v := by
  intro ad ad2 ha
  have : ad2 = ad := funext fun k => ha k (by omega)
  rw [this]
  exact ⟨rfl, fun _ _ _ => rfl⟩
def pOld (n : Nat) (v : Value) : Bool := match v with
  | .ref r => decide (r < n) || decide (1000 ≤ r)
  | _ => true
def pOldL (n : Nat) (o : Option Value) : Bool := match o with
  | some v => pOld n v
  | none => true
theorem pSameN {sh2 : List PSh} (h2 : sh2.length < 1000) (hr : rest.all (pOld sh.length) = true) (hL : L.all (pOldL sh.length) = true) : ∀ ad ad2 : Nat → Nat, (∀ k, ¬ (sh.length ≤ k ∧ k < sh2.length) → ad2 k = ad k) → rest.map (pTr ad2) = rest.map (pTr ad) ∧ ∀ (j : Nat) (v : Value), L[j]? = some (some v) → pTr ad2 v = pTr ad v := by
  intro ad ad2 ha
  have key : ∀ v : Value, pOld sh.length v = true → pTr ad2 v = pTr ad v := by
    intro v hv
    cases v <;> try rfl
    rename_i r
    simp only [pOld, Bool.or_eq_true, decide_eq_true_eq] at hv
    show Value.ref (ad2 r) = Value.ref (ad r)
    have hne : ¬ (sh.length ≤ r ∧ r < sh2.length) := fun q => hv.elim (fun h => absurd q.1 (Nat.not_le.mpr h)) (fun h => absurd (Nat.lt_trans q.2 h2) (Nat.not_lt.mpr h))
    rw [ha r hne]
  refine ⟨List.map_congr_left fun v hv => key v (List.all_eq_true.mp hr v hv), fun j v hj => key v ?_⟩
  exact List.all_eq_true.mp hL _ (List.mem_of_getElem? hj)
end PCALL
end
section
/-! the pure machine: cells that are made, the JDK's own -/
def pSZ (S : PSt) (n : Nat) : PSt := (fun a b => if a = n then 0 else S.1 a b, fun a b => if a = n then 0 else S.2.1 a b, fun a b => if a = n then 0 else S.2.2.1 a b, fun a b => if a = n then 0 else S.2.2.2 a b)
theorem pSZ_ne {S : PSt} {n a : Nat} (h : a ≠ n) : (pSZ S n).1 a = S.1 a ∧ (pSZ S n).2.1 a = S.2.1 a ∧ (pSZ S n).2.2.1 a = S.2.2.1 a ∧ (pSZ S n).2.2.2 a = S.2.2.2 a := by
  simp [pSZ, h]
def pDef (f : Nat) : Value := match f with
  | 0 => .int 0
  | 1 => .float 0
  | _ => .null
theorem pDef_eq {ad : Nat → Nat} {S : PSt} {n j f : Nat} (h : f ≤ 2) : pTr ad (pFv (pSZ S n) n j f) = pDef f := by
  match f, h with
  | 0, _ => simp [pFv, pSZ, pDef, pTr]
  | 1, _ => simp [pFv, pSZ, pDef, pTr]
  | 2, _ => rfl
theorem pNow.grow {n0 nL : Nat} {D : va_G} {tc ad0 ad : Nat → Nat} {A : Nat → Prop} {s : State} {H H1 : Heap} {locs locs1 : List Loc} {ls : Array Slot} {L : PL} {sh : List PSh} {S : PSt} {e : PSh} {q : Nat} {el : va_E} (h : pNow n0 nL D tc ad0 ad A s H locs ls L sh S) (hlen : sh.length + 1 < 1000) (hL : L.all (pNoL sh.length) = true)
    (hel : pEl tc (pAdd ad sh.length q) (pSZ S sh.length) sh.length e = el) (hok : ∀ c fs, e = .inr (c, fs) → ∀ f ∈ fs, f ≤ 2) (hP : va_P D vwCl (pW tc ad sh S ++ [(q, el)]) H1) (hD : va_D A (pW tc ad sh S ++ [(q, el)])) (hS : va_S A s.heap H1 locs1) :
    pNow n0 nL D tc ad0 (pAdd ad sh.length q) A s H1 locs1 ls L (sh ++ [e]) (pSZ S sh.length) := by
  have ep : pW tc ad sh S ++ [(q, el)] = pW tc (pAdd ad sh.length q) (sh ++ [e]) (pSZ S sh.length) := by
    refine pW_push (by simp [pAdd]) hel (fun k hk => by simp [pAdd]; omega) (fun k c fs hk r hr => ?_) (fun a ha => pSZ_ne ha)
    have := h.2.2.2.1 k c fs hk r hr
    simp [pAdd]
    omega
  rw [ep] at hP hD
  refine ⟨fun k hk => ?_, ?_, ?_, ?_, hP, hD, hS, pAs_add hL h.ls⟩
  · rw [List.length_append] at hk
    have h1 := h.2.1
    have hk2 : k ≠ sh.length := fun q => hk ⟨by omega, by rw [q]; simp⟩
    have : pAdd ad sh.length q k = ad k := by simp [pAdd, hk2]
    rw [this]
    exact h.1 k (fun q => hk ⟨q.1, by have := q.2; simp; omega⟩)
  · rw [List.length_append]; have := h.2.1; simp; omega
  · rw [List.length_append]; simp; omega
  · intro k c fs hk r hr
    rw [List.length_append]
    by_cases hk2 : k < sh.length
    · rw [List.getElem?_append_left hk2] at hk
      have := h.2.2.2.1 k c fs hk r hr
      simp; omega
    · rw [List.getElem?_append_right (by omega)] at hk
      have hk3 : k - sh.length = 0 := by
        cases hz : k - sh.length with
        | zero => rfl
        | succ z => rw [hz] at hk; cases hk
      rw [hk3] at hk
      have he : e = .inr (c, fs) := Option.some.inj hk
      have := hok c fs he _ hr
      omega
section PMADE
variable {M : PM} {d mc ms n0 : Nat} {X : Nat × (Nat → Int32)} {Q : PQ} {pc : Nat} {L : PL} {st : List Value} {kc ks : Nat} {sh : List PSh} {S : PSt}
theorem pr_new {idx cI : Nat} {qc : vw_C} {fs : List Nat} (hi : pLook M.2.2.2.2 pc = some (.new idx, 3)) (hcl : vwCl[cI]? = some qc) (hlink : Cond.classLink M.1.cls idx qc.1 ∈ pGood) (hinst : Cond.instantiable qc.1 qc.2.2 ∈ pGood) (hini : Cond.initialized qc.1 ∈ pGood) (hfs : ∀ j, j < qc.2.2 → defaultValue (pTyp cI j) = vp_V (fs.map pDef) j) (h2 : ∀ f ∈ fs, f ≤ 2)
    (hlen : sh.length + 1 < 1000) (hst : st.all (pNoR sh.length) = true) (hL : L.all (pNoL sh.length) = true) (hm : kc + 1 ≤ mc ∧ ks + qc.2.2 ≤ ms)
    (k : pWP M d mc ms n0 X Q (pc + 3) L (.ref sh.length :: st) (kc + 1) (ks + qc.2.2) (sh ++ [.inr (cI, fs)]) (pSZ S sh.length)) : pWP M d mc ms n0 X Q pc L st kc ks sh S := by
  intro p l e R s m args below meth c D tc ad0 A hT hC hR hK hO hA ad H locs ls hN
  obtain ⟨C, T, N⟩ := qc
  obtain ⟨g1, g2, g3, g4⟩ := pCl hcl
  have hts := hC.2.2.2.2.2.2.2
  refine va_new (D := D) (ci := cI) (fs := fs.map pDef) (C := C) (T := T) (N := N) hC.1 hC.2.1 hts g1 (pTyp cI) g2 hC.2.2.2.2.1 (hts _ hlink) (hts _ hinst) (hts _ hini) hK.1 hN.hP hN.hD hN.hS hA hcl hfs (Nat.le_trans hm.1 hR.2.2.1) (Nat.le_trans hm.2 hR.2.2.2) (pLook_ok hT hi) (fun q H1 hP hD hS => ?_)
  have hel : pEl tc (pAdd ad sh.length q) (pSZ S sh.length) sh.length (.inr (cI, fs)) = .inr (cI, fs.map pDef) := by
    show Sum.inr (cI, fs.mapIdx fun j f => pTr (pAdd ad sh.length q) (pFv (pSZ S sh.length) sh.length j f)) = Sum.inr (cI, fs.map pDef)
    have : (fs.mapIdx fun j f => pTr (pAdd ad sh.length q) (pFv (pSZ S sh.length) sh.length j f)) = fs.map pDef := by
      apply List.ext_getElem?
      intro i
      rw [List.getElem?_mapIdx, List.getElem?_map]
      cases hf : fs[i]? with
      | none => rfl
      | some f => exact congrArg some (pDef_eq (h2 f (List.mem_of_getElem? hf)))
    rw [this]
  have kk := k p l e R s m args below meth c D tc ad0 A hT hC hR hK hO hA (pAdd ad sh.length q) H1 locs ls (hN.grow hlen hL hel (fun c9 fs9 he => by cases he; exact h2) hP hD hS)
  rw [List.map_cons, pTr_adds hst] at kk
  have e1 : pTr (pAdd ad sh.length q) (.ref sh.length) = .ref q := by simp [pTr, pAdd]
  rw [e1] at kk
  exact kk
theorem pr_objInit {idx a : Nat} (hi : pLook M.2.2.2.2 pc = some (.invokespecial idx, 3)) (h1 : Cond.methodLink M.1.cls idx Lib.objectInit ∈ pGood) (h2 : Cond.instanceMethod Lib.objectInit ∈ pGood) (h3 : Cond.code Lib.objectInit ⟨#[0xb1]⟩ 1 none ∈ pGood) (hd : 1 ≤ d) (hcat : (st.map fun v => v.category).sum ≤ 8)
    (k : pWP M d mc ms n0 X Q (pc + 3) L st kc ks sh S) : pWP M d mc ms n0 X Q pc L (.ref a :: st) kc ks sh S := by
  intro p l e R s m args below meth c D tc ad0 A hT hC hR hK hO hA ad H locs ls hN
  have hts := hC.2.2.2.2.2.2.2
  have hr := hR.1
  have hr2 := hR.2.1
  refine W.objInit hC.1 hC.2.1 hC.2.2.2.2.1 (hts _ h1) (hts _ h2) (hts _ h3) rfl (hN.ls.1.trans hC.2.2.1.symm) rfl (pLook_ok hT hi) (by omega) (by have := lv_room (m := m) (pc := pc) (ls := ls) (rest := List.map (pTr ad) (Value.ref a :: st)) (pCat (ad := ad) hcat); omega) ?_
  exact k p l e R s m args below meth c D tc ad0 A hT hC hR hK hO hA ad H locs ls hN
theorem pr_max {idx : Nat} {x y : Int32} (hi : pLook M.2.2.2.2 pc = some (.invokestatic idx, 3)) (h1 : Cond.methodLink M.1.cls idx Lib.Math.max.name ∈ pGood) (h2 : Cond.static Lib.Math.max.name ∈ pGood) (h3 : Cond.initialized "java/lang/Math" ∈ pGood) (h4 : Cond.code Lib.Math.max.name Lib.Math.max.code 2 (some .int) ∈ pGood) (hd : 1 ≤ d) (hm : kc ≤ mc ∧ ks ≤ ms) (hcat : (st.map fun v => v.category).sum ≤ 8)
    (k : pWP M d mc ms n0 X Q (pc + 3) L (.int (if x < y then y else x) :: st) kc ks sh S) : pWP M d mc ms n0 X Q pc L (.int y :: .int x :: st) kc ks sh S := by
  intro p l e R s m args below meth c D tc ad0 A hT hC hR hK hO hA ad H locs ls hN
  have hts := hC.2.2.2.2.2.2.2
  have hr := hR.1
  have hr2 := hR.2.1
  have hc9 := pCat (ad := ad) hcat
  exact va_mmax hC.1 hC.2.1 (hC.2.2.1.trans hN.ls.1.symm) hC.2.2.2.2.1 (hts _ h1) (hts _ h2) (hts _ h3) (hts _ h4) (by omega) (by omega) (Nat.le_trans hm.1 hR.2.2.1) (Nat.le_trans hm.2 hR.2.2.2) (pLook_ok hT hi) (k p l e R s m args below meth c D tc ad0 A hT hC hR hK hO hA ad H locs ls hN)
theorem pr_min {idx : Nat} {x y : Int32} (hi : pLook M.2.2.2.2 pc = some (.invokestatic idx, 3)) (h1 : Cond.methodLink M.1.cls idx Lib.Math.min.name ∈ pGood) (h2 : Cond.static Lib.Math.min.name ∈ pGood) (h3 : Cond.initialized "java/lang/Math" ∈ pGood) (h4 : Cond.code Lib.Math.min.name Lib.Math.min.code 2 (some .int) ∈ pGood) (hd : 1 ≤ d) (hm : kc ≤ mc ∧ ks ≤ ms) (hcat : (st.map fun v => v.category).sum ≤ 8)
    (k : pWP M d mc ms n0 X Q (pc + 3) L (.int (if y < x then y else x) :: st) kc ks sh S) : pWP M d mc ms n0 X Q pc L (.int y :: .int x :: st) kc ks sh S := by
  intro p l e R s m args below meth c D tc ad0 A hT hC hR hK hO hA ad H locs ls hN
  have hts := hC.2.2.2.2.2.2.2
  have hr := hR.1
  have hr2 := hR.2.1
  have hc9 := pCat (ad := ad) hcat
  exact va_mmin hC.1 hC.2.1 (hC.2.2.1.trans hN.ls.1.symm) hC.2.2.2.2.1 (hts _ h1) (hts _ h2) (hts _ h3) (hts _ h4) (by omega) (by omega) (Nat.le_trans hm.1 hR.2.2.1) (Nat.le_trans hm.2 hR.2.2.2) (pLook_ok hT hi) (k p l e R s m args below meth c D tc ad0 A hT hC hR hK hO hA ad H locs ls hN)
theorem pr_rawF {idx : Nat} {x : UInt32} (hi : pLook M.2.2.2.2 pc = some (.invokestatic idx, 3)) (h1 : Cond.methodLink M.1.cls idx ⟨"java/lang/Float", "floatToRawIntBits", "(F)I"⟩ ∈ pGood) (h2 : Cond.native ⟨"java/lang/Float", "floatToRawIntBits", "(F)I"⟩ ∈ pGood) (h3 : Cond.static ⟨"java/lang/Float", "floatToRawIntBits", "(F)I"⟩ ∈ pGood) (h4 : Cond.initialized "java/lang/Float" ∈ pGood) (hd : 1 ≤ d) (hcat : (st.map fun v => v.category).sum ≤ 8)
    (k : pWP M d mc ms n0 X Q (pc + 3) L (.int x.toInt32 :: st) kc ks sh S) : pWP M d mc ms n0 X Q pc L (.float x :: st) kc ks sh S := by
  intro p l e R s m args below meth c D tc ad0 A hT hC hR hK hO hA ad H locs ls hN
  have hts := hC.2.2.2.2.2.2.2
  have hr := hR.1
  have hr2 := hR.2.1
  have hc9 := pCat (ad := ad) hcat
  exact vn_f2i hC.1 hC.2.1 (hC.2.2.1.trans hN.ls.1.symm) hC.2.2.2.2.1 (hts _ h1) (hts _ h2) (hts _ h3) (hts _ h4) (by omega) (by omega) (pLook_ok hT hi) (k p l e R s m args below meth c D tc ad0 A hT hC hR hK hO hA ad H locs ls hN)
theorem pr_rawD {idx : Nat} {x : UInt64} (hi : pLook M.2.2.2.2 pc = some (.invokestatic idx, 3)) (h1 : Cond.methodLink M.1.cls idx ⟨"java/lang/Double", "doubleToRawLongBits", "(D)J"⟩ ∈ pGood) (h2 : Cond.native ⟨"java/lang/Double", "doubleToRawLongBits", "(D)J"⟩ ∈ pGood) (h3 : Cond.static ⟨"java/lang/Double", "doubleToRawLongBits", "(D)J"⟩ ∈ pGood) (h4 : Cond.initialized "java/lang/Double" ∈ pGood) (hd : 1 ≤ d) (hcat : (st.map fun v => v.category).sum ≤ 8)
    (k : pWP M d mc ms n0 X Q (pc + 3) L (.long x.toInt64 :: st) kc ks sh S) : pWP M d mc ms n0 X Q pc L (.double x :: st) kc ks sh S := by
  intro p l e R s m args below meth c D tc ad0 A hT hC hR hK hO hA ad H locs ls hN
  have hts := hC.2.2.2.2.2.2.2
  have hr := hR.1
  have hr2 := hR.2.1
  have hc9 := pCat (ad := ad) hcat
  exact vn_d2l hC.1 hC.2.1 (hC.2.2.1.trans hN.ls.1.symm) hC.2.2.2.2.1 (hts _ h1) (hts _ h2) (hts _ h3) (hts _ h4) (by omega) (by omega) (pLook_ok hT hi) (k p l e R s m args below meth c D tc ad0 A hT hC hR hK hO hA ad H locs ls hN)
theorem pr_newa0 {x : Int32} {n : Nat} (hi : pLook M.2.2.2.2 pc = some (.newarray .int, 2)) (hac : Cond.arrayClass .int ∈ pGood) (hx : ¬ x < 0) (hn : x.toNatClampNeg = n) (hb : n * 8 ≤ 536870912) (hlen : sh.length + 1 < 1000) (hst : st.all (pNoR sh.length) = true) (hL : L.all (pNoL sh.length) = true) (hm : kc + 1 ≤ mc ∧ ks + n ≤ ms)
    (k : pWP M d mc ms n0 X Q (pc + 2) L (.ref sh.length :: st) (kc + 1) (ks + n) (sh ++ [.inl (0, n)]) (pSZ S sh.length)) : pWP M d mc ms n0 X Q pc L (.int x :: st) kc ks sh S := by
  intro p l e R s m args below meth c D tc ad0 A hT hC hR hK hO hA ad H locs ls hN
  have hts := hC.2.2.2.2.2.2.2
  refine va_newa (atype := .int) (ty := .int) (D := D) (tys := pTys tc) (N' := n) (a0 := (n, .inl (fun _ => 0))) hC.1 hC.2.1 (hts _ hac) rfl hK.1 hN.hP hN.hD hN.hS hA (fun cA => rfl) hx hn (Nat.le_trans (Nat.mul_le_mul_left n (by decide)) hb) (Nat.le_trans hm.1 hR.2.2.1) (Nat.le_trans hm.2 hR.2.2.2) (pLook_ok hT hi) (fun q cA H1 hK2 hP hD hS => ?_)
  have a1 : va_RA s cA .int := (hK2.2 5 (cA, .int) rfl).2
  have a2 : va_RA s (tc 0) .int := (hK.1.2 0 (tc 0, .int) rfl).2
  have ec : cA = tc 0 := Option.some.inj ((show s.vm.findClass _ = some cA from a1).symm.trans (show s.vm.findClass _ = some (tc 0) from a2))
  subst ec
  have hel : pEl tc (pAdd ad sh.length q) (pSZ S sh.length) sh.length (.inl (0, n)) = .inl (tc 0, n, .inl (fun _ => 0)) := by
    show Sum.inl (tc 0, n, pArr (pSZ S sh.length) sh.length 0) = Sum.inl (tc 0, n, _)
    have : pArr (pSZ S sh.length) sh.length 0 = .inl (fun _ => 0) := by simp [pArr, pSZ]
    rw [this]
  have kk := k p l e R s m args below meth c D tc ad0 A hT hC hR hK hO hA (pAdd ad sh.length q) H1 locs ls (hN.grow hlen hL hel (fun c9 fs9 he => by cases he) hP hD hS)
  rw [List.map_cons, pTr_adds hst] at kk
  have e1 : pTr (pAdd ad sh.length q) (.ref sh.length) = .ref q := by simp [pTr, pAdd]
  rw [e1] at kk
  exact kk
theorem pr_newa1 {x : Int32} {n : Nat} (hi : pLook M.2.2.2.2 pc = some (.newarray .float, 2)) (hac : Cond.arrayClass .float ∈ pGood) (hx : ¬ x < 0) (hn : x.toNatClampNeg = n) (hb : n * 8 ≤ 536870912) (hlen : sh.length + 1 < 1000) (hst : st.all (pNoR sh.length) = true) (hL : L.all (pNoL sh.length) = true) (hm : kc + 1 ≤ mc ∧ ks + n ≤ ms)
    (k : pWP M d mc ms n0 X Q (pc + 2) L (.ref sh.length :: st) (kc + 1) (ks + n) (sh ++ [.inl (1, n)]) (pSZ S sh.length)) : pWP M d mc ms n0 X Q pc L (.int x :: st) kc ks sh S := by
  intro p l e R s m args below meth c D tc ad0 A hT hC hR hK hO hA ad H locs ls hN
  have hts := hC.2.2.2.2.2.2.2
  refine va_newa (atype := .float) (ty := .float) (D := D) (tys := pTys tc) (N' := n) (a0 := (n, .inr (.inr (.inl (fun _ => 0))))) hC.1 hC.2.1 (hts _ hac) rfl hK.1 hN.hP hN.hD hN.hS hA (fun cA => rfl) hx hn (Nat.le_trans (Nat.mul_le_mul_left n (by decide)) hb) (Nat.le_trans hm.1 hR.2.2.1) (Nat.le_trans hm.2 hR.2.2.2) (pLook_ok hT hi) (fun q cA H1 hK2 hP hD hS => ?_)
  have a1 : va_RA s cA .float := (hK2.2 5 (cA, .float) rfl).2
  have a2 : va_RA s (tc 1) .float := (hK.1.2 1 (tc 1, .float) rfl).2
  have ec : cA = tc 1 := Option.some.inj ((show s.vm.findClass _ = some cA from a1).symm.trans (show s.vm.findClass _ = some (tc 1) from a2))
  subst ec
  have hel : pEl tc (pAdd ad sh.length q) (pSZ S sh.length) sh.length (.inl (1, n)) = .inl (tc 1, n, .inr (.inr (.inl (fun _ => 0)))) := by
    show Sum.inl (tc 1, n, pArr (pSZ S sh.length) sh.length 1) = Sum.inl (tc 1, n, _)
    have : pArr (pSZ S sh.length) sh.length 1 = .inr (.inr (.inl (fun _ => 0))) := by simp [pArr, pSZ]
    rw [this]
  have kk := k p l e R s m args below meth c D tc ad0 A hT hC hR hK hO hA (pAdd ad sh.length q) H1 locs ls (hN.grow hlen hL hel (fun c9 fs9 he => by cases he) hP hD hS)
  rw [List.map_cons, pTr_adds hst] at kk
  have e1 : pTr (pAdd ad sh.length q) (.ref sh.length) = .ref q := by simp [pTr, pAdd]
  rw [e1] at kk
  exact kk
theorem pr_newa2 {x : Int32} {n : Nat} (hi : pLook M.2.2.2.2 pc = some (.newarray .boolean, 2)) (hac : Cond.arrayClass .boolean ∈ pGood) (hx : ¬ x < 0) (hn : x.toNatClampNeg = n) (hb : n * 8 ≤ 536870912) (hlen : sh.length + 1 < 1000) (hst : st.all (pNoR sh.length) = true) (hL : L.all (pNoL sh.length) = true) (hm : kc + 1 ≤ mc ∧ ks + n ≤ ms)
    (k : pWP M d mc ms n0 X Q (pc + 2) L (.ref sh.length :: st) (kc + 1) (ks + n) (sh ++ [.inl (2, n)]) (pSZ S sh.length)) : pWP M d mc ms n0 X Q pc L (.int x :: st) kc ks sh S := by
  intro p l e R s m args below meth c D tc ad0 A hT hC hR hK hO hA ad H locs ls hN
  have hts := hC.2.2.2.2.2.2.2
  refine va_newa (atype := .boolean) (ty := .boolean) (D := D) (tys := pTys tc) (N' := n) (a0 := (n, .inl (fun _ => 0))) hC.1 hC.2.1 (hts _ hac) rfl hK.1 hN.hP hN.hD hN.hS hA (fun cA => rfl) hx hn (Nat.le_trans (Nat.mul_le_mul_left n (by decide)) hb) (Nat.le_trans hm.1 hR.2.2.1) (Nat.le_trans hm.2 hR.2.2.2) (pLook_ok hT hi) (fun q cA H1 hK2 hP hD hS => ?_)
  have a1 : va_RA s cA .boolean := (hK2.2 5 (cA, .boolean) rfl).2
  have a2 : va_RA s (tc 2) .boolean := (hK.1.2 2 (tc 2, .boolean) rfl).2
  have ec : cA = tc 2 := Option.some.inj ((show s.vm.findClass _ = some cA from a1).symm.trans (show s.vm.findClass _ = some (tc 2) from a2))
  subst ec
  have hel : pEl tc (pAdd ad sh.length q) (pSZ S sh.length) sh.length (.inl (2, n)) = .inl (tc 2, n, .inl (fun _ => 0)) := by
    show Sum.inl (tc 2, n, pArr (pSZ S sh.length) sh.length 2) = Sum.inl (tc 2, n, _)
    have : pArr (pSZ S sh.length) sh.length 2 = .inl (fun _ => 0) := by simp [pArr, pSZ]
    rw [this]
  have kk := k p l e R s m args below meth c D tc ad0 A hT hC hR hK hO hA (pAdd ad sh.length q) H1 locs ls (hN.grow hlen hL hel (fun c9 fs9 he => by cases he) hP hD hS)
  rw [List.map_cons, pTr_adds hst] at kk
  have e1 : pTr (pAdd ad sh.length q) (.ref sh.length) = .ref q := by simp [pTr, pAdd]
  rw [e1] at kk
  exact kk
theorem pr_newa3 {x : Int32} {n : Nat} (hi : pLook M.2.2.2.2 pc = some (.newarray .long, 2)) (hac : Cond.arrayClass .long ∈ pGood) (hx : ¬ x < 0) (hn : x.toNatClampNeg = n) (hb : n * 8 ≤ 536870912) (hlen : sh.length + 1 < 1000) (hst : st.all (pNoR sh.length) = true) (hL : L.all (pNoL sh.length) = true) (hm : kc + 1 ≤ mc ∧ ks + n ≤ ms)
    (k : pWP M d mc ms n0 X Q (pc + 2) L (.ref sh.length :: st) (kc + 1) (ks + n) (sh ++ [.inl (3, n)]) (pSZ S sh.length)) : pWP M d mc ms n0 X Q pc L (.int x :: st) kc ks sh S := by
  intro p l e R s m args below meth c D tc ad0 A hT hC hR hK hO hA ad H locs ls hN
  have hts := hC.2.2.2.2.2.2.2
  refine va_newa (atype := .long) (ty := .long) (D := D) (tys := pTys tc) (N' := n) (a0 := (n, .inr (.inl (fun _ => 0)))) hC.1 hC.2.1 (hts _ hac) rfl hK.1 hN.hP hN.hD hN.hS hA (fun cA => rfl) hx hn (Nat.le_trans (Nat.mul_le_mul_left n (by decide)) hb) (Nat.le_trans hm.1 hR.2.2.1) (Nat.le_trans hm.2 hR.2.2.2) (pLook_ok hT hi) (fun q cA H1 hK2 hP hD hS => ?_)
  have a1 : va_RA s cA .long := (hK2.2 5 (cA, .long) rfl).2
  have a2 : va_RA s (tc 3) .long := (hK.1.2 3 (tc 3, .long) rfl).2
  have ec : cA = tc 3 := Option.some.inj ((show s.vm.findClass _ = some cA from a1).symm.trans (show s.vm.findClass _ = some (tc 3) from a2))
  subst ec
  have hel : pEl tc (pAdd ad sh.length q) (pSZ S sh.length) sh.length (.inl (3, n)) = .inl (tc 3, n, .inr (.inl (fun _ => 0))) := by
    show Sum.inl (tc 3, n, pArr (pSZ S sh.length) sh.length 3) = Sum.inl (tc 3, n, _)
    have : pArr (pSZ S sh.length) sh.length 3 = .inr (.inl (fun _ => 0)) := by simp [pArr, pSZ]
    rw [this]
  have kk := k p l e R s m args below meth c D tc ad0 A hT hC hR hK hO hA (pAdd ad sh.length q) H1 locs ls (hN.grow hlen hL hel (fun c9 fs9 he => by cases he) hP hD hS)
  rw [List.map_cons, pTr_adds hst] at kk
  have e1 : pTr (pAdd ad sh.length q) (.ref sh.length) = .ref q := by simp [pTr, pAdd]
  rw [e1] at kk
  exact kk
theorem pr_newa4 {x : Int32} {n : Nat} (hi : pLook M.2.2.2.2 pc = some (.newarray .double, 2)) (hac : Cond.arrayClass .double ∈ pGood) (hx : ¬ x < 0) (hn : x.toNatClampNeg = n) (hb : n * 8 ≤ 536870912) (hlen : sh.length + 1 < 1000) (hst : st.all (pNoR sh.length) = true) (hL : L.all (pNoL sh.length) = true) (hm : kc + 1 ≤ mc ∧ ks + n ≤ ms)
    (k : pWP M d mc ms n0 X Q (pc + 2) L (.ref sh.length :: st) (kc + 1) (ks + n) (sh ++ [.inl (4, n)]) (pSZ S sh.length)) : pWP M d mc ms n0 X Q pc L (.int x :: st) kc ks sh S := by
  intro p l e R s m args below meth c D tc ad0 A hT hC hR hK hO hA ad H locs ls hN
  have hts := hC.2.2.2.2.2.2.2
  refine va_newa (atype := .double) (ty := .double) (D := D) (tys := pTys tc) (N' := n) (a0 := (n, .inr (.inr (.inr (.inl (fun _ => 0)))))) hC.1 hC.2.1 (hts _ hac) rfl hK.1 hN.hP hN.hD hN.hS hA (fun cA => rfl) hx hn (Nat.le_trans (Nat.mul_le_mul_left n (by decide)) hb) (Nat.le_trans hm.1 hR.2.2.1) (Nat.le_trans hm.2 hR.2.2.2) (pLook_ok hT hi) (fun q cA H1 hK2 hP hD hS => ?_)
  have a1 : va_RA s cA .double := (hK2.2 5 (cA, .double) rfl).2
  have a2 : va_RA s (tc 4) .double := (hK.1.2 4 (tc 4, .double) rfl).2
  have ec : cA = tc 4 := Option.some.inj ((show s.vm.findClass _ = some cA from a1).symm.trans (show s.vm.findClass _ = some (tc 4) from a2))
  subst ec
  have hel : pEl tc (pAdd ad sh.length q) (pSZ S sh.length) sh.length (.inl (4, n)) = .inl (tc 4, n, .inr (.inr (.inr (.inl (fun _ => 0))))) := by
    show Sum.inl (tc 4, n, pArr (pSZ S sh.length) sh.length 4) = Sum.inl (tc 4, n, _)
    have : pArr (pSZ S sh.length) sh.length 4 = .inr (.inr (.inr (.inl (fun _ => 0)))) := by simp [pArr, pSZ]
    rw [this]
  have kk := k p l e R s m args below meth c D tc ad0 A hT hC hR hK hO hA (pAdd ad sh.length q) H1 locs ls (hN.grow hlen hL hel (fun c9 fs9 he => by cases he) hP hD hS)
  rw [List.map_cons, pTr_adds hst] at kk
  have e1 : pTr (pAdd ad sh.length q) (.ref sh.length) = .ref q := by simp [pTr, pAdd]
  rw [e1] at kk
  exact kk
end PMADE
end
