/-! sites: written by wip/whole/gen/sites.py; a word by its place in lw_tbl -/
theorem se_X8_isColumn : Cond.selects RX8 yX8_isColumn yX8_isColumn ∈ pGood := pGood_in 0 (by decide +kernel) (by decide +kernel)
theorem se_X8_refuse : Cond.selects RX8 yX8_refuse yX8_refuse ∈ pGood := pGood_in 1 (by decide +kernel) (by decide +kernel)
theorem se_X7_readSign : Cond.selects RX7 yX7_readSign yX7_readSign ∈ pGood := pGood_in 2 (by decide +kernel) (by decide +kernel)
theorem se_X7_isNext : Cond.selects RX7 yX7_isNext yX7_isNext ∈ pGood := pGood_in 3 (by decide +kernel) (by decide +kernel)
theorem se_X7_readNumber : Cond.selects RX7 yX7_readNumber yX7_readNumber ∈ pGood := pGood_in 4 (by decide +kernel) (by decide +kernel)
theorem se_X7_digit : Cond.selects RX7 yX7_digit yX7_digit ∈ pGood := pGood_in 5 (by decide +kernel) (by decide +kernel)
theorem se_X7_readAdorn : Cond.selects RX7 yX7_readAdorn yX7_readAdorn ∈ pGood := pGood_in 6 (by decide +kernel) (by decide +kernel)
theorem se_X7_keep : Cond.selects RX7 yX7_keep yX7_keep ∈ pGood := pGood_in 7 (by decide +kernel) (by decide +kernel)
theorem se_X8_countNotes : Cond.selects RX8 yX8_countNotes yX8_countNotes ∈ pGood := pGood_in 8 (by decide +kernel) (by decide +kernel)
theorem se_X8_sumDurations : Cond.selects RX8 yX8_sumDurations yX8_sumDurations ∈ pGood := pGood_in 9 (by decide +kernel) (by decide +kernel)
theorem se_X8_isStretch : Cond.selects RX8 yX8_isStretch yX8_isStretch ∈ pGood := pGood_in 10 (by decide +kernel) (by decide +kernel)
theorem se_X6_balance : Cond.selects RX6 yX6_balance yX6_balance ∈ pGood := pGood_in 11 (by decide +kernel) (by decide +kernel)
theorem se_X6_holdMore : Cond.selects RX6 yX6_holdMore yX6_holdMore ∈ pGood := pGood_in 12 (by decide +kernel) (by decide +kernel)
theorem se_X6_stretched : Cond.selects RX6 yX6_stretched yX6_stretched ∈ pGood := pGood_in 13 (by decide +kernel) (by decide +kernel)
theorem se_X8_findBest : Cond.selects RX8 yX8_findBest yX8_findBest ∈ pGood := pGood_in 14 (by decide +kernel) (by decide +kernel)
theorem se_X0_reach : Cond.selects RX0 yX0_reach yX0_reach ∈ pGood := pGood_in 15 (by decide +kernel) (by decide +kernel)
theorem se_X6_sum : Cond.selects RX6 yX6_sum yX6_sum ∈ pGood := pGood_in 16 (by decide +kernel) (by decide +kernel)
theorem se_X0_traceBack : Cond.selects RX0 yX0_traceBack yX0_traceBack ∈ pGood := pGood_in 17 (by decide +kernel) (by decide +kernel)
theorem se_X8_distance : Cond.selects RX8 yX8_distance yX8_distance ∈ pGood := pGood_in 18 (by decide +kernel) (by decide +kernel)
theorem se_X8_traceLine : Cond.selects RX8 yX8_traceLine yX8_traceLine ∈ pGood := pGood_in 19 (by decide +kernel) (by decide +kernel)
theorem se_X5_ink : Cond.selects RX5 yX5_ink yX5_ink ∈ pGood := pGood_in 20 (by decide +kernel) (by decide +kernel)
theorem se_X8_areNotes : Cond.selects RX8 yX8_areNotes yX8_areNotes ∈ pGood := pGood_in 21 (by decide +kernel) (by decide +kernel)
theorem se_X8_beamRise : Cond.selects RX8 yX8_beamRise yX8_beamRise ∈ pGood := pGood_in 22 (by decide +kernel) (by decide +kernel)
theorem se_X8_beamSlope : Cond.selects RX8 yX8_beamSlope yX8_beamSlope ∈ pGood := pGood_in 23 (by decide +kernel) (by decide +kernel)
theorem se_X8_beamGoesUp : Cond.selects RX8 yX8_beamGoesUp yX8_beamGoesUp ∈ pGood := pGood_in 24 (by decide +kernel) (by decide +kernel)
theorem se_X8_beamLift : Cond.selects RX8 yX8_beamLift yX8_beamLift ∈ pGood := pGood_in 25 (by decide +kernel) (by decide +kernel)
theorem se_X8_slurHeight : Cond.selects RX8 yX8_slurHeight yX8_slurHeight ∈ pGood := pGood_in 26 (by decide +kernel) (by decide +kernel)
theorem se_X8_inkTowards : Cond.selects RX8 yX8_inkTowards yX8_inkTowards ∈ pGood := pGood_in 27 (by decide +kernel) (by decide +kernel)
theorem se_X8_standsOtherwise : Cond.selects RX8 yX8_standsOtherwise yX8_standsOtherwise ∈ pGood := pGood_in 28 (by decide +kernel) (by decide +kernel)
theorem in_L : Cond.initialized RL ∈ pGood := pGood_in 29 (by decide +kernel) (by decide +kernel)
theorem in_X8 : Cond.initialized RX8 ∈ pGood := pGood_in 30 (by decide +kernel) (by decide +kernel)
theorem in_X1 : Cond.initialized RX1 ∈ pGood := pGood_in 31 (by decide +kernel) (by decide +kernel)
theorem in_X4 : Cond.initialized RX4 ∈ pGood := pGood_in 32 (by decide +kernel) (by decide +kernel)
theorem in_X6 : Cond.initialized RX6 ∈ pGood := pGood_in 33 (by decide +kernel) (by decide +kernel)
theorem in_X5 : Cond.initialized RX5 ∈ pGood := pGood_in 34 (by decide +kernel) (by decide +kernel)
theorem in_X0 : Cond.initialized RX0 ∈ pGood := pGood_in 35 (by decide +kernel) (by decide +kernel)
theorem in_X7 : Cond.initialized RX7 ∈ pGood := pGood_in 36 (by decide +kernel) (by decide +kernel)
theorem in_X3 : Cond.initialized RX3 ∈ pGood := pGood_in 37 (by decide +kernel) (by decide +kernel)
theorem in_X2 : Cond.initialized RX2 ∈ pGood := pGood_in 38 (by decide +kernel) (by decide +kernel)
theorem in_Jxf58ca : Cond.initialized RJxf58ca ∈ pGood := pGood_in 39 (by decide +kernel) (by decide +kernel)
theorem in_J9 : Cond.initialized RJ9 ∈ pGood := pGood_in 40 (by decide +kernel) (by decide +kernel)
theorem in_J0 : Cond.initialized RJ0 ∈ pGood := pGood_in 41 (by decide +kernel) (by decide +kernel)
theorem in_J1 : Cond.initialized RJ1 ∈ pGood := pGood_in 42 (by decide +kernel) (by decide +kernel)
theorem in_J3 : Cond.initialized RJ3 ∈ pGood := pGood_in 43 (by decide +kernel) (by decide +kernel)
theorem in_J2 : Cond.initialized RJ2 ∈ pGood := pGood_in 44 (by decide +kernel) (by decide +kernel)
theorem cl_L_10 : Cond.classLink RL 10 RX8 ∈ pGood := pGood_in 45 (by decide +kernel) (by decide +kernel)
theorem ib_X8 : Cond.instantiable RX8 13 ∈ pGood := pGood_in 46 (by decide +kernel) (by decide +kernel)
theorem im_X8_init : Cond.instanceMethod yX8_init ∈ pGood := pGood_in 48 (by decide +kernel) (by decide +kernel)
def mX8_init : PM := (yX8_init, cX8_init, 1, none, tbX8_init)
theorem co_X8_init : Cond.code mX8_init.1 mX8_init.2.1 mX8_init.2.2.1 mX8_init.2.2.2.1 ∈ pGood := pGood_in 49 (by decide +kernel) (by decide +kernel)
theorem tk_X8_init : pTabOk mX8_init.2.1 mX8_init.2.2.2.2 = true := tbX8_init_ok
theorem ml_X8_1 : Cond.methodLink RX8 1 Lib.objectInit ∈ pGood := pGood_in 50 (by decide +kernel) (by decide +kernel)
theorem im_Obj_init : Cond.instanceMethod Lib.objectInit ∈ pGood := pGood_in 51 (by decide +kernel) (by decide +kernel)
theorem co_Obj_init : Cond.code Lib.objectInit ⟨#[0xb1]⟩ 1 none ∈ pGood := pGood_in 52 (by decide +kernel) (by decide +kernel)
theorem cl_X8_7 : Cond.classLink RX8 7 RX1 ∈ pGood := pGood_in 53 (by decide +kernel) (by decide +kernel)
theorem ib_X1 : Cond.instantiable RX1 6 ∈ pGood := pGood_in 54 (by decide +kernel) (by decide +kernel)
theorem im_X1_init : Cond.instanceMethod yX1_init ∈ pGood := pGood_in 56 (by decide +kernel) (by decide +kernel)
def mX1_init : PM := (yX1_init, cX1_init, 1, none, tbX1_init)
theorem co_X1_init : Cond.code mX1_init.1 mX1_init.2.1 mX1_init.2.2.1 mX1_init.2.2.2.1 ∈ pGood := pGood_in 57 (by decide +kernel) (by decide +kernel)
theorem tk_X1_init : pTabOk mX1_init.2.1 mX1_init.2.2.2.2 = true := tbX1_init_ok
theorem ml_X1_3 : Cond.methodLink RX1 3 Lib.objectInit ∈ pGood := pGood_in 58 (by decide +kernel) (by decide +kernel)
theorem cl_X1_9 : Cond.classLink RX1 9 RX4 ∈ pGood := pGood_in 59 (by decide +kernel) (by decide +kernel)
theorem ib_X4 : Cond.instantiable RX4 1 ∈ pGood := pGood_in 60 (by decide +kernel) (by decide +kernel)
theorem im_X4_init : Cond.instanceMethod yX4_init ∈ pGood := pGood_in 62 (by decide +kernel) (by decide +kernel)
def mX4_init : PM := (yX4_init, cX4_init, 1, none, tbX4_init)
theorem co_X4_init : Cond.code mX4_init.1 mX4_init.2.1 mX4_init.2.2.1 mX4_init.2.2.2.1 ∈ pGood := pGood_in 63 (by decide +kernel) (by decide +kernel)
theorem tk_X4_init : pTabOk mX4_init.2.1 mX4_init.2.2.2.2 = true := tbX4_init_ok
theorem ml_X4_3 : Cond.methodLink RX4 3 Lib.objectInit ∈ pGood := pGood_in 64 (by decide +kernel) (by decide +kernel)
theorem fl_X4_9 : pFL RX4 9 3 0 := ⟨RX4, TX4, 1, rfl, by decide, Or.inl (pGood_in 65 (by decide +kernel) (by decide +kernel))⟩
theorem ff_X4_9 : Cond.fieldLink RX4 9 (TX4 0).1 (TX4 0).2.1 (TX4 0).2.2.1 ∈ pGood := pGood_in 65 (by decide +kernel) (by decide +kernel)
theorem ac_int : Cond.arrayClass .int ∈ pGood := pGood_in 69 (by decide +kernel) (by decide +kernel)
theorem fl_X1_12 : pFL RX1 12 1 0 := ⟨RX1, TX1, 6, rfl, by decide, Or.inl (pGood_in 70 (by decide +kernel) (by decide +kernel))⟩
theorem ff_X1_12 : Cond.fieldLink RX1 12 (TX1 0).1 (TX1 0).2.1 (TX1 0).2.2.1 ∈ pGood := pGood_in 70 (by decide +kernel) (by decide +kernel)
theorem fl_X8_90 : pFL RX8 90 1 0 := ⟨RX1, TX1, 6, rfl, by decide, Or.inr ⟨"EngravedLines", pNest_in 71 (by decide +kernel) (by decide +kernel)⟩⟩
theorem fl_X1_18 : pFL RX1 18 1 1 := ⟨RX1, TX1, 6, rfl, by decide, Or.inl (pGood_in 72 (by decide +kernel) (by decide +kernel))⟩
theorem fl_X8_86 : pFL RX8 86 1 1 := ⟨RX1, TX1, 6, rfl, by decide, Or.inr ⟨"EngravedLines", pNest_in 73 (by decide +kernel) (by decide +kernel)⟩⟩
theorem fl_X1_22 : pFL RX1 22 1 2 := ⟨RX1, TX1, 6, rfl, by decide, Or.inl (pGood_in 74 (by decide +kernel) (by decide +kernel))⟩
theorem fl_X8_134 : pFL RX8 134 1 2 := ⟨RX1, TX1, 6, rfl, by decide, Or.inr ⟨"EngravedLines", pNest_in 75 (by decide +kernel) (by decide +kernel)⟩⟩
theorem fl_X1_25 : pFL RX1 25 1 3 := ⟨RX1, TX1, 6, rfl, by decide, Or.inl (pGood_in 76 (by decide +kernel) (by decide +kernel))⟩
theorem ff_X1_25 : Cond.fieldLink RX1 25 (TX1 3).1 (TX1 3).2.1 (TX1 3).2.2.1 ∈ pGood := pGood_in 76 (by decide +kernel) (by decide +kernel)
theorem fl_X8_266 : pFL RX8 266 1 3 := ⟨RX1, TX1, 6, rfl, by decide, Or.inr ⟨"EngravedLines", pNest_in 77 (by decide +kernel) (by decide +kernel)⟩⟩
theorem fl_X1_28 : pFL RX1 28 1 4 := ⟨RX1, TX1, 6, rfl, by decide, Or.inl (pGood_in 78 (by decide +kernel) (by decide +kernel))⟩
theorem ff_X1_28 : Cond.fieldLink RX1 28 (TX1 4).1 (TX1 4).2.1 (TX1 4).2.2.1 ∈ pGood := pGood_in 78 (by decide +kernel) (by decide +kernel)
theorem fl_X1_32 : pFL RX1 32 1 5 := ⟨RX1, TX1, 6, rfl, by decide, Or.inl (pGood_in 79 (by decide +kernel) (by decide +kernel))⟩
theorem ff_X1_32 : Cond.fieldLink RX1 32 (TX1 5).1 (TX1 5).2.1 (TX1 5).2.2.1 ∈ pGood := pGood_in 79 (by decide +kernel) (by decide +kernel)
theorem cl_X8_23 : Cond.classLink RX8 23 RX6 ∈ pGood := pGood_in 93 (by decide +kernel) (by decide +kernel)
theorem ib_X6 : Cond.instantiable RX6 10 ∈ pGood := pGood_in 94 (by decide +kernel) (by decide +kernel)
theorem im_X6_init : Cond.instanceMethod yX6_init ∈ pGood := pGood_in 96 (by decide +kernel) (by decide +kernel)
def mX6_init : PM := (yX6_init, cX6_init, 1, none, tbX6_init)
theorem co_X6_init : Cond.code mX6_init.1 mX6_init.2.1 mX6_init.2.2.1 mX6_init.2.2.2.1 ∈ pGood := pGood_in 97 (by decide +kernel) (by decide +kernel)
theorem tk_X6_init : pTabOk mX6_init.2.1 mX6_init.2.2.2.2 = true := tbX6_init_ok
theorem ml_X6_3 : Cond.methodLink RX6 3 Lib.objectInit ∈ pGood := pGood_in 98 (by decide +kernel) (by decide +kernel)
theorem fl_X6_9 : pFL RX6 9 5 0 := ⟨RX6, TX6, 10, rfl, by decide, Or.inl (pGood_in 99 (by decide +kernel) (by decide +kernel))⟩
theorem ff_X6_9 : Cond.fieldLink RX6 9 (TX6 0).1 (TX6 0).2.1 (TX6 0).2.2.1 ∈ pGood := pGood_in 99 (by decide +kernel) (by decide +kernel)
theorem fl_X6_15 : pFL RX6 15 5 1 := ⟨RX6, TX6, 10, rfl, by decide, Or.inl (pGood_in 100 (by decide +kernel) (by decide +kernel))⟩
theorem ff_X6_15 : Cond.fieldLink RX6 15 (TX6 1).1 (TX6 1).2.1 (TX6 1).2.2.1 ∈ pGood := pGood_in 100 (by decide +kernel) (by decide +kernel)
theorem fl_X6_18 : pFL RX6 18 5 2 := ⟨RX6, TX6, 10, rfl, by decide, Or.inl (pGood_in 101 (by decide +kernel) (by decide +kernel))⟩
theorem ff_X6_18 : Cond.fieldLink RX6 18 (TX6 2).1 (TX6 2).2.1 (TX6 2).2.2.1 ∈ pGood := pGood_in 101 (by decide +kernel) (by decide +kernel)
theorem fl_X6_21 : pFL RX6 21 5 3 := ⟨RX6, TX6, 10, rfl, by decide, Or.inl (pGood_in 102 (by decide +kernel) (by decide +kernel))⟩
theorem ff_X6_21 : Cond.fieldLink RX6 21 (TX6 3).1 (TX6 3).2.1 (TX6 3).2.2.1 ∈ pGood := pGood_in 102 (by decide +kernel) (by decide +kernel)
theorem fl_X6_25 : pFL RX6 25 5 4 := ⟨RX6, TX6, 10, rfl, by decide, Or.inl (pGood_in 103 (by decide +kernel) (by decide +kernel))⟩
theorem ff_X6_25 : Cond.fieldLink RX6 25 (TX6 4).1 (TX6 4).2.1 (TX6 4).2.2.1 ∈ pGood := pGood_in 103 (by decide +kernel) (by decide +kernel)
theorem fl_X6_28 : pFL RX6 28 5 5 := ⟨RX6, TX6, 10, rfl, by decide, Or.inl (pGood_in 104 (by decide +kernel) (by decide +kernel))⟩
theorem ff_X6_28 : Cond.fieldLink RX6 28 (TX6 5).1 (TX6 5).2.1 (TX6 5).2.2.1 ∈ pGood := pGood_in 104 (by decide +kernel) (by decide +kernel)
theorem fl_X6_31 : pFL RX6 31 5 6 := ⟨RX6, TX6, 10, rfl, by decide, Or.inl (pGood_in 105 (by decide +kernel) (by decide +kernel))⟩
theorem fl_X5_32 : pFL RX5 32 5 6 := ⟨RX6, TX6, 10, rfl, by decide, Or.inr ⟨"EngravedLines", pNest_in 106 (by decide +kernel) (by decide +kernel)⟩⟩
theorem fl_X6_35 : pFL RX6 35 5 7 := ⟨RX6, TX6, 10, rfl, by decide, Or.inl (pGood_in 107 (by decide +kernel) (by decide +kernel))⟩
theorem fl_X5_26 : pFL RX5 26 5 7 := ⟨RX6, TX6, 10, rfl, by decide, Or.inr ⟨"EngravedLines", pNest_in 108 (by decide +kernel) (by decide +kernel)⟩⟩
theorem fl_X6_38 : pFL RX6 38 5 8 := ⟨RX6, TX6, 10, rfl, by decide, Or.inl (pGood_in 109 (by decide +kernel) (by decide +kernel))⟩
theorem fl_X6_42 : pFL RX6 42 5 9 := ⟨RX6, TX6, 10, rfl, by decide, Or.inl (pGood_in 110 (by decide +kernel) (by decide +kernel))⟩
theorem fl_X8_144 : pFL RX8 144 5 9 := ⟨RX6, TX6, 10, rfl, by decide, Or.inr ⟨"EngravedLines", pNest_in 111 (by decide +kernel) (by decide +kernel)⟩⟩
theorem ac_float : Cond.arrayClass .float ∈ pGood := pGood_in 133 (by decide +kernel) (by decide +kernel)
theorem ac_boolean : Cond.arrayClass .boolean ∈ pGood := pGood_in 134 (by decide +kernel) (by decide +kernel)
theorem cl_X8_33 : Cond.classLink RX8 33 RX5 ∈ pGood := pGood_in 135 (by decide +kernel) (by decide +kernel)
theorem ib_X5 : Cond.instantiable RX5 3 ∈ pGood := pGood_in 136 (by decide +kernel) (by decide +kernel)
theorem im_X5_init : Cond.instanceMethod yX5_init ∈ pGood := pGood_in 138 (by decide +kernel) (by decide +kernel)
def mX5_init : PM := (yX5_init, cX5_init, 1, none, tbX5_init)
theorem co_X5_init : Cond.code mX5_init.1 mX5_init.2.1 mX5_init.2.2.1 mX5_init.2.2.2.1 ∈ pGood := pGood_in 139 (by decide +kernel) (by decide +kernel)
theorem tk_X5_init : pTabOk mX5_init.2.1 mX5_init.2.2.2.2 = true := tbX5_init_ok
theorem ml_X5_3 : Cond.methodLink RX5 3 Lib.objectInit ∈ pGood := pGood_in 140 (by decide +kernel) (by decide +kernel)
theorem fl_X5_9 : pFL RX5 9 4 0 := ⟨RX5, TX5, 3, rfl, by decide, Or.inl (pGood_in 141 (by decide +kernel) (by decide +kernel))⟩
theorem ff_X5_9 : Cond.fieldLink RX5 9 (TX5 0).1 (TX5 0).2.1 (TX5 0).2.2.1 ∈ pGood := pGood_in 141 (by decide +kernel) (by decide +kernel)
theorem fl_X5_15 : pFL RX5 15 4 1 := ⟨RX5, TX5, 3, rfl, by decide, Or.inl (pGood_in 142 (by decide +kernel) (by decide +kernel))⟩
theorem ff_X5_15 : Cond.fieldLink RX5 15 (TX5 1).1 (TX5 1).2.1 (TX5 1).2.2.1 ∈ pGood := pGood_in 142 (by decide +kernel) (by decide +kernel)
theorem fl_X5_19 : pFL RX5 19 4 2 := ⟨RX5, TX5, 3, rfl, by decide, Or.inl (pGood_in 143 (by decide +kernel) (by decide +kernel))⟩
theorem ff_X5_19 : Cond.fieldLink RX5 19 (TX5 2).1 (TX5 2).2.1 (TX5 2).2.2.1 ∈ pGood := pGood_in 143 (by decide +kernel) (by decide +kernel)
theorem cl_X8_43 : Cond.classLink RX8 43 RX0 ∈ pGood := pGood_in 151 (by decide +kernel) (by decide +kernel)
theorem ib_X0 : Cond.instantiable RX0 7 ∈ pGood := pGood_in 152 (by decide +kernel) (by decide +kernel)
theorem im_X0_init : Cond.instanceMethod yX0_init ∈ pGood := pGood_in 154 (by decide +kernel) (by decide +kernel)
def mX0_init : PM := (yX0_init, cX0_init, 1, none, tbX0_init)
theorem co_X0_init : Cond.code mX0_init.1 mX0_init.2.1 mX0_init.2.2.1 mX0_init.2.2.2.1 ∈ pGood := pGood_in 155 (by decide +kernel) (by decide +kernel)
theorem tk_X0_init : pTabOk mX0_init.2.1 mX0_init.2.2.2.2 = true := tbX0_init_ok
theorem ml_X0_3 : Cond.methodLink RX0 3 Lib.objectInit ∈ pGood := pGood_in 156 (by decide +kernel) (by decide +kernel)
theorem cl_X0_22 : Cond.classLink RX0 22 RX6 ∈ pGood := pGood_in 157 (by decide +kernel) (by decide +kernel)
theorem fl_X0_9 : pFL RX0 9 0 0 := ⟨RX0, TX0, 7, rfl, by decide, Or.inl (pGood_in 159 (by decide +kernel) (by decide +kernel))⟩
theorem ff_X0_9 : Cond.fieldLink RX0 9 (TX0 0).1 (TX0 0).2.1 (TX0 0).2.2.1 ∈ pGood := pGood_in 159 (by decide +kernel) (by decide +kernel)
theorem fl_X0_15 : pFL RX0 15 0 1 := ⟨RX0, TX0, 7, rfl, by decide, Or.inl (pGood_in 160 (by decide +kernel) (by decide +kernel))⟩
theorem ff_X0_15 : Cond.fieldLink RX0 15 (TX0 1).1 (TX0 1).2.1 (TX0 1).2.2.1 ∈ pGood := pGood_in 160 (by decide +kernel) (by decide +kernel)
theorem fl_X0_19 : pFL RX0 19 0 2 := ⟨RX0, TX0, 7, rfl, by decide, Or.inl (pGood_in 161 (by decide +kernel) (by decide +kernel))⟩
theorem ff_X0_19 : Cond.fieldLink RX0 19 (TX0 2).1 (TX0 2).2.1 (TX0 2).2.2.1 ∈ pGood := pGood_in 161 (by decide +kernel) (by decide +kernel)
theorem fl_X0_25 : pFL RX0 25 0 3 := ⟨RX0, TX0, 7, rfl, by decide, Or.inl (pGood_in 162 (by decide +kernel) (by decide +kernel))⟩
theorem ff_X0_25 : Cond.fieldLink RX0 25 (TX0 3).1 (TX0 3).2.1 (TX0 3).2.2.1 ∈ pGood := pGood_in 162 (by decide +kernel) (by decide +kernel)
theorem fl_X0_29 : pFL RX0 29 0 4 := ⟨RX0, TX0, 7, rfl, by decide, Or.inl (pGood_in 163 (by decide +kernel) (by decide +kernel))⟩
theorem fl_X8_195 : pFL RX8 195 0 4 := ⟨RX0, TX0, 7, rfl, by decide, Or.inr ⟨"EngravedLines", pNest_in 164 (by decide +kernel) (by decide +kernel)⟩⟩
theorem fl_X0_33 : pFL RX0 33 0 5 := ⟨RX0, TX0, 7, rfl, by decide, Or.inl (pGood_in 165 (by decide +kernel) (by decide +kernel))⟩
theorem fl_X8_192 : pFL RX8 192 0 5 := ⟨RX0, TX0, 7, rfl, by decide, Or.inr ⟨"EngravedLines", pNest_in 166 (by decide +kernel) (by decide +kernel)⟩⟩
theorem fl_X0_37 : pFL RX0 37 0 6 := ⟨RX0, TX0, 7, rfl, by decide, Or.inl (pGood_in 167 (by decide +kernel) (by decide +kernel))⟩
theorem fl_X8_204 : pFL RX8 204 0 6 := ⟨RX0, TX0, 7, rfl, by decide, Or.inr ⟨"EngravedLines", pNest_in 168 (by decide +kernel) (by decide +kernel)⟩⟩
theorem cl_X8_53 : Cond.classLink RX8 53 RX4 ∈ pGood := pGood_in 184 (by decide +kernel) (by decide +kernel)
theorem cl_X8_60 : Cond.classLink RX8 60 RX7 ∈ pGood := pGood_in 186 (by decide +kernel) (by decide +kernel)
theorem ib_X7 : Cond.instantiable RX7 5 ∈ pGood := pGood_in 187 (by decide +kernel) (by decide +kernel)
theorem im_X7_init : Cond.instanceMethod yX7_init ∈ pGood := pGood_in 189 (by decide +kernel) (by decide +kernel)
def mX7_init : PM := (yX7_init, cX7_init, 1, none, tbX7_init)
theorem co_X7_init : Cond.code mX7_init.1 mX7_init.2.1 mX7_init.2.2.1 mX7_init.2.2.2.1 ∈ pGood := pGood_in 190 (by decide +kernel) (by decide +kernel)
theorem tk_X7_init : pTabOk mX7_init.2.1 mX7_init.2.2.2.2 = true := tbX7_init_ok
theorem ml_X7_3 : Cond.methodLink RX7 3 Lib.objectInit ∈ pGood := pGood_in 191 (by decide +kernel) (by decide +kernel)
theorem cl_X7_19 : Cond.classLink RX7 19 RX4 ∈ pGood := pGood_in 192 (by decide +kernel) (by decide +kernel)
theorem fl_X7_9 : pFL RX7 9 6 0 := ⟨RX7, TX7, 5, rfl, by decide, Or.inl (pGood_in 194 (by decide +kernel) (by decide +kernel))⟩
theorem ff_X7_9 : Cond.fieldLink RX7 9 (TX7 0).1 (TX7 0).2.1 (TX7 0).2.2.1 ∈ pGood := pGood_in 194 (by decide +kernel) (by decide +kernel)
theorem fl_X7_15 : pFL RX7 15 6 1 := ⟨RX7, TX7, 5, rfl, by decide, Or.inl (pGood_in 195 (by decide +kernel) (by decide +kernel))⟩
theorem fl_X8_241 : pFL RX8 241 6 1 := ⟨RX7, TX7, 5, rfl, by decide, Or.inr ⟨"EngravedLines", pNest_in 196 (by decide +kernel) (by decide +kernel)⟩⟩
theorem fl_X7_22 : pFL RX7 22 6 2 := ⟨RX7, TX7, 5, rfl, by decide, Or.inl (pGood_in 197 (by decide +kernel) (by decide +kernel))⟩
theorem ff_X7_22 : Cond.fieldLink RX7 22 (TX7 2).1 (TX7 2).2.1 (TX7 2).2.2.1 ∈ pGood := pGood_in 197 (by decide +kernel) (by decide +kernel)
theorem fl_X8_254 : pFL RX8 254 6 2 := ⟨RX7, TX7, 5, rfl, by decide, Or.inr ⟨"EngravedLines", pNest_in 198 (by decide +kernel) (by decide +kernel)⟩⟩
theorem fl_X7_26 : pFL RX7 26 6 3 := ⟨RX7, TX7, 5, rfl, by decide, Or.inl (pGood_in 199 (by decide +kernel) (by decide +kernel))⟩
theorem fl_X8_251 : pFL RX8 251 6 3 := ⟨RX7, TX7, 5, rfl, by decide, Or.inr ⟨"EngravedLines", pNest_in 200 (by decide +kernel) (by decide +kernel)⟩⟩
theorem fl_X7_29 : pFL RX7 29 6 4 := ⟨RX7, TX7, 5, rfl, by decide, Or.inl (pGood_in 201 (by decide +kernel) (by decide +kernel))⟩
theorem cl_X8_67 : Cond.classLink RX8 67 RX3 ∈ pGood := pGood_in 213 (by decide +kernel) (by decide +kernel)
theorem ib_X3 : Cond.instantiable RX3 3 ∈ pGood := pGood_in 214 (by decide +kernel) (by decide +kernel)
theorem im_X3_init : Cond.instanceMethod yX3_init ∈ pGood := pGood_in 216 (by decide +kernel) (by decide +kernel)
def mX3_init : PM := (yX3_init, cX3_init, 1, none, tbX3_init)
theorem co_X3_init : Cond.code mX3_init.1 mX3_init.2.1 mX3_init.2.2.1 mX3_init.2.2.2.1 ∈ pGood := pGood_in 217 (by decide +kernel) (by decide +kernel)
theorem tk_X3_init : pTabOk mX3_init.2.1 mX3_init.2.2.2.2 = true := tbX3_init_ok
theorem ml_X3_3 : Cond.methodLink RX3 3 Lib.objectInit ∈ pGood := pGood_in 218 (by decide +kernel) (by decide +kernel)
theorem fl_X3_9 : pFL RX3 9 2 0 := ⟨RX3, TX3, 3, rfl, by decide, Or.inl (pGood_in 219 (by decide +kernel) (by decide +kernel))⟩
theorem ff_X3_9 : Cond.fieldLink RX3 9 (TX3 0).1 (TX3 0).2.1 (TX3 0).2.2.1 ∈ pGood := pGood_in 219 (by decide +kernel) (by decide +kernel)
theorem fl_X3_15 : pFL RX3 15 2 1 := ⟨RX3, TX3, 3, rfl, by decide, Or.inl (pGood_in 220 (by decide +kernel) (by decide +kernel))⟩
theorem ff_X3_15 : Cond.fieldLink RX3 15 (TX3 1).1 (TX3 1).2.1 (TX3 1).2.2.1 ∈ pGood := pGood_in 220 (by decide +kernel) (by decide +kernel)
theorem fl_X3_18 : pFL RX3 18 2 2 := ⟨RX3, TX3, 3, rfl, by decide, Or.inl (pGood_in 221 (by decide +kernel) (by decide +kernel))⟩
theorem ff_X3_18 : Cond.fieldLink RX3 18 (TX3 2).1 (TX3 2).2.1 (TX3 2).2.2.1 ∈ pGood := pGood_in 221 (by decide +kernel) (by decide +kernel)
theorem ac_long : Cond.arrayClass .long ∈ pGood := pGood_in 229 (by decide +kernel) (by decide +kernel)
theorem fl_X8_10 : pFL RX8 10 7 0 := ⟨RX8, TX8, 13, rfl, by decide, Or.inl (pGood_in 230 (by decide +kernel) (by decide +kernel))⟩
theorem ff_X8_10 : Cond.fieldLink RX8 10 (TX8 0).1 (TX8 0).2.1 (TX8 0).2.2.1 ∈ pGood := pGood_in 230 (by decide +kernel) (by decide +kernel)
theorem fl_X8_16 : pFL RX8 16 7 1 := ⟨RX8, TX8, 13, rfl, by decide, Or.inl (pGood_in 231 (by decide +kernel) (by decide +kernel))⟩
theorem ff_X8_16 : Cond.fieldLink RX8 16 (TX8 1).1 (TX8 1).2.1 (TX8 1).2.2.1 ∈ pGood := pGood_in 231 (by decide +kernel) (by decide +kernel)
theorem fl_X8_19 : pFL RX8 19 7 2 := ⟨RX8, TX8, 13, rfl, by decide, Or.inl (pGood_in 232 (by decide +kernel) (by decide +kernel))⟩
theorem fl_X8_26 : pFL RX8 26 7 3 := ⟨RX8, TX8, 13, rfl, by decide, Or.inl (pGood_in 233 (by decide +kernel) (by decide +kernel))⟩
theorem ff_X8_26 : Cond.fieldLink RX8 26 (TX8 3).1 (TX8 3).2.1 (TX8 3).2.2.1 ∈ pGood := pGood_in 233 (by decide +kernel) (by decide +kernel)
theorem fl_X8_30 : pFL RX8 30 7 4 := ⟨RX8, TX8, 13, rfl, by decide, Or.inl (pGood_in 234 (by decide +kernel) (by decide +kernel))⟩
theorem ff_X8_30 : Cond.fieldLink RX8 30 (TX8 4).1 (TX8 4).2.1 (TX8 4).2.2.1 ∈ pGood := pGood_in 234 (by decide +kernel) (by decide +kernel)
theorem fl_X8_36 : pFL RX8 36 7 5 := ⟨RX8, TX8, 13, rfl, by decide, Or.inl (pGood_in 235 (by decide +kernel) (by decide +kernel))⟩
theorem ff_X8_36 : Cond.fieldLink RX8 36 (TX8 5).1 (TX8 5).2.1 (TX8 5).2.2.1 ∈ pGood := pGood_in 235 (by decide +kernel) (by decide +kernel)
theorem fl_X8_40 : pFL RX8 40 7 6 := ⟨RX8, TX8, 13, rfl, by decide, Or.inl (pGood_in 236 (by decide +kernel) (by decide +kernel))⟩
theorem ff_X8_40 : Cond.fieldLink RX8 40 (TX8 6).1 (TX8 6).2.1 (TX8 6).2.2.1 ∈ pGood := pGood_in 236 (by decide +kernel) (by decide +kernel)
theorem fl_X8_46 : pFL RX8 46 7 7 := ⟨RX8, TX8, 13, rfl, by decide, Or.inl (pGood_in 237 (by decide +kernel) (by decide +kernel))⟩
theorem ff_X8_46 : Cond.fieldLink RX8 46 (TX8 7).1 (TX8 7).2.1 (TX8 7).2.2.1 ∈ pGood := pGood_in 237 (by decide +kernel) (by decide +kernel)
theorem fl_X8_50 : pFL RX8 50 7 8 := ⟨RX8, TX8, 13, rfl, by decide, Or.inl (pGood_in 238 (by decide +kernel) (by decide +kernel))⟩
theorem ff_X8_50 : Cond.fieldLink RX8 50 (TX8 8).1 (TX8 8).2.1 (TX8 8).2.2.1 ∈ pGood := pGood_in 238 (by decide +kernel) (by decide +kernel)
theorem fl_X8_56 : pFL RX8 56 7 9 := ⟨RX8, TX8, 13, rfl, by decide, Or.inl (pGood_in 239 (by decide +kernel) (by decide +kernel))⟩
theorem ff_X8_56 : Cond.fieldLink RX8 56 (TX8 9).1 (TX8 9).2.1 (TX8 9).2.2.1 ∈ pGood := pGood_in 239 (by decide +kernel) (by decide +kernel)
theorem fl_X8_63 : pFL RX8 63 7 10 := ⟨RX8, TX8, 13, rfl, by decide, Or.inl (pGood_in 240 (by decide +kernel) (by decide +kernel))⟩
theorem ff_X8_63 : Cond.fieldLink RX8 63 (TX8 10).1 (TX8 10).2.1 (TX8 10).2.2.1 ∈ pGood := pGood_in 240 (by decide +kernel) (by decide +kernel)
theorem fl_X8_70 : pFL RX8 70 7 11 := ⟨RX8, TX8, 13, rfl, by decide, Or.inl (pGood_in 241 (by decide +kernel) (by decide +kernel))⟩
theorem ff_X8_70 : Cond.fieldLink RX8 70 (TX8 11).1 (TX8 11).2.1 (TX8 11).2.2.1 ∈ pGood := pGood_in 241 (by decide +kernel) (by decide +kernel)
theorem fl_X8_74 : pFL RX8 74 7 12 := ⟨RX8, TX8, 13, rfl, by decide, Or.inl (pGood_in 242 (by decide +kernel) (by decide +kernel))⟩
theorem ff_X8_74 : Cond.fieldLink RX8 74 (TX8 12).1 (TX8 12).2.1 (TX8 12).2.2.1 ∈ pGood := pGood_in 242 (by decide +kernel) (by decide +kernel)
theorem im_X8_set : Cond.instanceMethod yX8_set ∈ pGood := pGood_in 271 (by decide +kernel) (by decide +kernel)
theorem se_X8_set : Cond.selects RX8 yX8_set yX8_set ∈ pGood := pGood_in 272 (by decide +kernel) (by decide +kernel)
def mX8_set : PM := (yX8_set, cX8_set, 5, (some .int), tbX8_set)
theorem co_X8_set : Cond.code mX8_set.1 mX8_set.2.1 mX8_set.2.2.1 mX8_set.2.2.2.1 ∈ pGood := pGood_in 273 (by decide +kernel) (by decide +kernel)
theorem tk_X8_set : pTabOk mX8_set.2.1 mX8_set.2.2.2.2 = true := tbX8_set_ok
theorem im_X8_isColumn : Cond.instanceMethod yX8_isColumn ∈ pGood := pGood_in 276 (by decide +kernel) (by decide +kernel)
def mX8_isColumn : PM := (yX8_isColumn, cX8_isColumn, 2, (some .boolean), tbX8_isColumn)
theorem co_X8_isColumn : Cond.code mX8_isColumn.1 mX8_isColumn.2.1 mX8_isColumn.2.2.1 mX8_isColumn.2.2.2.1 ∈ pGood := pGood_in 277 (by decide +kernel) (by decide +kernel)
theorem tk_X8_isColumn : pTabOk mX8_isColumn.2.1 mX8_isColumn.2.2.2.2 = true := tbX8_isColumn_ok
theorem st_X8_isWithin : Cond.static yX8_isWithin ∈ pGood := pGood_in 279 (by decide +kernel) (by decide +kernel)
def mX8_isWithin : PM := (yX8_isWithin, cX8_isWithin, 3, (some .boolean), tbX8_isWithin)
theorem co_X8_isWithin : Cond.code mX8_isWithin.1 mX8_isWithin.2.1 mX8_isWithin.2.2.1 mX8_isWithin.2.2.2.1 ∈ pGood := pGood_in 280 (by decide +kernel) (by decide +kernel)
theorem tk_X8_isWithin : pTabOk mX8_isWithin.2.1 mX8_isWithin.2.2.2.2 = true := tbX8_isWithin_ok
theorem st_X8_isAllowed : Cond.static yX8_isAllowed ∈ pGood := pGood_in 282 (by decide +kernel) (by decide +kernel)
def mX8_isAllowed : PM := (yX8_isAllowed, cX8_isAllowed, 2, (some .boolean), tbX8_isAllowed)
theorem co_X8_isAllowed : Cond.code mX8_isAllowed.1 mX8_isAllowed.2.1 mX8_isAllowed.2.2.1 mX8_isAllowed.2.2.2.1 ∈ pGood := pGood_in 283 (by decide +kernel) (by decide +kernel)
theorem tk_X8_isAllowed : pTabOk mX8_isAllowed.2.1 mX8_isAllowed.2.2.2.2 = true := tbX8_isAllowed_ok
theorem fl_X8_355 : Cond.fieldLink RX8 355 "EngravedLines" "LEAST" "[I" ∈ pGood := pGood_in 284 (by decide +kernel) (by decide +kernel)
theorem st_X8_readInt : Cond.static yX8_readInt ∈ pGood := pGood_in 287 (by decide +kernel) (by decide +kernel)
def mX8_readInt : PM := (yX8_readInt, cX8_readInt, 2, (some .int), tbX8_readInt)
theorem co_X8_readInt : Cond.code mX8_readInt.1 mX8_readInt.2.1 mX8_readInt.2.2.1 mX8_readInt.2.2.2.1 ∈ pGood := pGood_in 288 (by decide +kernel) (by decide +kernel)
theorem tk_X8_readInt : pTabOk mX8_readInt.2.1 mX8_readInt.2.2.2.2 = true := tbX8_readInt_ok
theorem fl_X8_358 : Cond.fieldLink RX8 358 "EngravedLines" "MOST" "[I" ∈ pGood := pGood_in 289 (by decide +kernel) (by decide +kernel)
theorem im_X8_refuse : Cond.instanceMethod yX8_refuse ∈ pGood := pGood_in 293 (by decide +kernel) (by decide +kernel)
def mX8_refuse : PM := (yX8_refuse, cX8_refuse, 2, (some .int), tbX8_refuse)
theorem co_X8_refuse : Cond.code mX8_refuse.1 mX8_refuse.2.1 mX8_refuse.2.2.1 mX8_refuse.2.2.2.1 ∈ pGood := pGood_in 294 (by decide +kernel) (by decide +kernel)
theorem tk_X8_refuse : pTabOk mX8_refuse.2.1 mX8_refuse.2.2.2.2 = true := tbX8_refuse_ok
theorem st_X8_writeInt : Cond.static yX8_writeInt ∈ pGood := pGood_in 296 (by decide +kernel) (by decide +kernel)
def mX8_writeInt : PM := (yX8_writeInt, cX8_writeInt, 3, none, tbX8_writeInt)
theorem co_X8_writeInt : Cond.code mX8_writeInt.1 mX8_writeInt.2.1 mX8_writeInt.2.2.1 mX8_writeInt.2.2.2.1 ∈ pGood := pGood_in 297 (by decide +kernel) (by decide +kernel)
theorem tk_X8_writeInt : pTabOk mX8_writeInt.2.1 mX8_writeInt.2.2.2.2 = true := tbX8_writeInt_ok
theorem kc_X8_332 : Cond.constant RX8 332 (-2147483000) ∈ pGood := pGood_in 298 (by decide +kernel) (by decide +kernel)
theorem im_X4_part : Cond.instanceMethod yX4_part ∈ pGood := pGood_in 300 (by decide +kernel) (by decide +kernel)
theorem se_X4_part : Cond.selects RX4 yX4_part yX4_part ∈ pGood := pGood_in 301 (by decide +kernel) (by decide +kernel)
def mX4_part : PM := (yX4_part, cX4_part, 4, (some .int), tbX4_part)
theorem co_X4_part : Cond.code mX4_part.1 mX4_part.2.1 mX4_part.2.2.1 mX4_part.2.2.2.1 ∈ pGood := pGood_in 302 (by decide +kernel) (by decide +kernel)
theorem tk_X4_part : pTabOk mX4_part.2.1 mX4_part.2.2.2.2 = true := tbX4_part_ok
theorem im_X4_change : Cond.instanceMethod yX4_change ∈ pGood := pGood_in 304 (by decide +kernel) (by decide +kernel)
theorem se_X4_change : Cond.selects RX4 yX4_change yX4_change ∈ pGood := pGood_in 305 (by decide +kernel) (by decide +kernel)
def mX4_change : PM := (yX4_change, cX4_change, 5, none, tbX4_change)
theorem co_X4_change : Cond.code mX4_change.1 mX4_change.2.1 mX4_change.2.2.1 mX4_change.2.2.2.1 ∈ pGood := pGood_in 306 (by decide +kernel) (by decide +kernel)
theorem tk_X4_change : pTabOk mX4_change.2.1 mX4_change.2.2.2.2 = true := tbX4_change_ok
theorem im_X8_of : Cond.instanceMethod yX8_of ∈ pGood := pGood_in 308 (by decide +kernel) (by decide +kernel)
theorem se_X8_of : Cond.selects RX8 yX8_of yX8_of ∈ pGood := pGood_in 309 (by decide +kernel) (by decide +kernel)
def mX8_of : PM := (yX8_of, cX8_of, 3, (some .int), tbX8_of)
theorem co_X8_of : Cond.code mX8_of.1 mX8_of.2.1 mX8_of.2.2.1 mX8_of.2.2.2.1 ∈ pGood := pGood_in 310 (by decide +kernel) (by decide +kernel)
theorem tk_X8_of : pTabOk mX8_of.2.1 mX8_of.2.2.2.2 = true := tbX8_of_ok
theorem im_X4_top : Cond.instanceMethod yX4_top ∈ pGood := pGood_in 312 (by decide +kernel) (by decide +kernel)
theorem se_X4_top : Cond.selects RX4 yX4_top yX4_top ∈ pGood := pGood_in 313 (by decide +kernel) (by decide +kernel)
def mX4_top : PM := (yX4_top, cX4_top, 4, (some .int), tbX4_top)
theorem co_X4_top : Cond.code mX4_top.1 mX4_top.2.1 mX4_top.2.2.1 mX4_top.2.2.2.1 ∈ pGood := pGood_in 314 (by decide +kernel) (by decide +kernel)
theorem tk_X4_top : pTabOk mX4_top.2.1 mX4_top.2.2.2.2 = true := tbX4_top_ok
theorem im_X4_bottom : Cond.instanceMethod yX4_bottom ∈ pGood := pGood_in 317 (by decide +kernel) (by decide +kernel)
theorem se_X4_bottom : Cond.selects RX4 yX4_bottom yX4_bottom ∈ pGood := pGood_in 318 (by decide +kernel) (by decide +kernel)
def mX4_bottom : PM := (yX4_bottom, cX4_bottom, 3, (some .int), tbX4_bottom)
theorem co_X4_bottom : Cond.code mX4_bottom.1 mX4_bottom.2.1 mX4_bottom.2.2.1 mX4_bottom.2.2.2.1 ∈ pGood := pGood_in 319 (by decide +kernel) (by decide +kernel)
theorem tk_X4_bottom : pTabOk mX4_bottom.2.1 mX4_bottom.2.2.2.2 = true := tbX4_bottom_ok
theorem im_X8_spring : Cond.instanceMethod yX8_spring ∈ pGood := pGood_in 321 (by decide +kernel) (by decide +kernel)
theorem se_X8_spring : Cond.selects RX8 yX8_spring yX8_spring ∈ pGood := pGood_in 322 (by decide +kernel) (by decide +kernel)
def mX8_spring : PM := (yX8_spring, cX8_spring, 3, (some .int), tbX8_spring)
theorem co_X8_spring : Cond.code mX8_spring.1 mX8_spring.2.1 mX8_spring.2.2.1 mX8_spring.2.2.2.1 ∈ pGood := pGood_in 323 (by decide +kernel) (by decide +kernel)
theorem tk_X8_spring : pTabOk mX8_spring.2.1 mX8_spring.2.2.2.2 = true := tbX8_spring_ok
theorem im_X4_ideal : Cond.instanceMethod yX4_ideal ∈ pGood := pGood_in 325 (by decide +kernel) (by decide +kernel)
theorem se_X4_ideal : Cond.selects RX4 yX4_ideal yX4_ideal ∈ pGood := pGood_in 326 (by decide +kernel) (by decide +kernel)
def mX4_ideal : PM := (yX4_ideal, cX4_ideal, 5, (some .float), tbX4_ideal)
theorem co_X4_ideal : Cond.code mX4_ideal.1 mX4_ideal.2.1 mX4_ideal.2.2.1 mX4_ideal.2.2.2.1 ∈ pGood := pGood_in 327 (by decide +kernel) (by decide +kernel)
theorem tk_X4_ideal : pTabOk mX4_ideal.2.1 mX4_ideal.2.2.2.2 = true := tbX4_ideal_ok
theorem kc_X4_31 : Cond.constantFloat RX4 31 1077936128 ∈ pGood := pGood_in 328 (by decide +kernel) (by decide +kernel)
theorem kc_X4_32 : Cond.constantFloat RX4 32 1086324736 ∈ pGood := pGood_in 329 (by decide +kernel) (by decide +kernel)
theorem kc_X4_33 : Cond.constantFloat RX4 33 1056964608 ∈ pGood := pGood_in 330 (by decide +kernel) (by decide +kernel)
theorem st_X8_floatBits : Cond.static yX8_floatBits ∈ pGood := pGood_in 332 (by decide +kernel) (by decide +kernel)
def mX8_floatBits : PM := (yX8_floatBits, cX8_floatBits, 1, (some .int), tbX8_floatBits)
theorem co_X8_floatBits : Cond.code mX8_floatBits.1 mX8_floatBits.2.1 mX8_floatBits.2.2.1 mX8_floatBits.2.2.2.1 ∈ pGood := pGood_in 333 (by decide +kernel) (by decide +kernel)
theorem tk_X8_floatBits : pTabOk mX8_floatBits.2.1 mX8_floatBits.2.2.2.2 = true := tbX8_floatBits_ok
theorem st_X2_encode : Cond.static yX2_encode ∈ pGood := pGood_in 335 (by decide +kernel) (by decide +kernel)
def mX2_encode : PM := (yX2_encode, cX2_encode, 13, (some .long), tbX2_encode)
theorem co_X2_encode : Cond.code mX2_encode.1 mX2_encode.2.1 mX2_encode.2.2.1 mX2_encode.2.2.2.1 ∈ pGood := pGood_in 336 (by decide +kernel) (by decide +kernel)
theorem tk_X2_encode : pTabOk mX2_encode.2.1 mX2_encode.2.2.2.2 = true := tbX2_encode_ok
theorem st_X2_fractionBits : Cond.static yX2_fractionBits ∈ pGood := pGood_in 338 (by decide +kernel) (by decide +kernel)
def mX2_fractionBits : PM := (yX2_fractionBits, cX2_fractionBits, 1, (some .int), tbX2_fractionBits)
theorem co_X2_fractionBits : Cond.code mX2_fractionBits.1 mX2_fractionBits.2.1 mX2_fractionBits.2.2.1 mX2_fractionBits.2.2.2.1 ∈ pGood := pGood_in 339 (by decide +kernel) (by decide +kernel)
theorem tk_X2_fractionBits : pTabOk mX2_fractionBits.2.1 mX2_fractionBits.2.2.2.2 = true := tbX2_fractionBits_ok
theorem kc_X2_15 : Cond.constantDouble RX2 15 4611686018427387904 ∈ pGood := pGood_in 340 (by decide +kernel) (by decide +kernel)
theorem st_X2_bias : Cond.static yX2_bias ∈ pGood := pGood_in 342 (by decide +kernel) (by decide +kernel)
def mX2_bias : PM := (yX2_bias, cX2_bias, 1, (some .int), tbX2_bias)
theorem co_X2_bias : Cond.code mX2_bias.1 mX2_bias.2.1 mX2_bias.2.2.1 mX2_bias.2.2.2.1 ∈ pGood := pGood_in 343 (by decide +kernel) (by decide +kernel)
theorem tk_X2_bias : pTabOk mX2_bias.2.1 mX2_bias.2.2.2.2 = true := tbX2_bias_ok
theorem st_X2_withSign : Cond.static yX2_withSign ∈ pGood := pGood_in 345 (by decide +kernel) (by decide +kernel)
def mX2_withSign : PM := (yX2_withSign, cX2_withSign, 6, (some .long), tbX2_withSign)
theorem co_X2_withSign : Cond.code mX2_withSign.1 mX2_withSign.2.1 mX2_withSign.2.2.1 mX2_withSign.2.2.2.1 ∈ pGood := pGood_in 346 (by decide +kernel) (by decide +kernel)
theorem tk_X2_withSign : pTabOk mX2_withSign.2.1 mX2_withSign.2.2.2.2 = true := tbX2_withSign_ok
theorem st_X2_signBit : Cond.static yX2_signBit ∈ pGood := pGood_in 348 (by decide +kernel) (by decide +kernel)
def mX2_signBit : PM := (yX2_signBit, cX2_signBit, 1, (some .long), tbX2_signBit)
theorem co_X2_signBit : Cond.code mX2_signBit.1 mX2_signBit.2.1 mX2_signBit.2.2.1 mX2_signBit.2.2.2.1 ∈ pGood := pGood_in 349 (by decide +kernel) (by decide +kernel)
theorem tk_X2_signBit : pTabOk mX2_signBit.2.1 mX2_signBit.2.2.2.2 = true := tbX2_signBit_ok
theorem kc_X2_28 : Cond.constantLong RX2 28 2147483648 ∈ pGood := pGood_in 350 (by decide +kernel) (by decide +kernel)
theorem kc_X2_30 : Cond.constantLong RX2 30 (-9223372036854775808) ∈ pGood := pGood_in 351 (by decide +kernel) (by decide +kernel)
theorem im_X4_flex : Cond.instanceMethod yX4_flex ∈ pGood := pGood_in 353 (by decide +kernel) (by decide +kernel)
theorem se_X4_flex : Cond.selects RX4 yX4_flex yX4_flex ∈ pGood := pGood_in 354 (by decide +kernel) (by decide +kernel)
def mX4_flex : PM := (yX4_flex, cX4_flex, 3, (some .float), tbX4_flex)
theorem co_X4_flex : Cond.code mX4_flex.1 mX4_flex.2.1 mX4_flex.2.2.1 mX4_flex.2.2.2.1 ∈ pGood := pGood_in 355 (by decide +kernel) (by decide +kernel)
theorem tk_X4_flex : pTabOk mX4_flex.2.1 mX4_flex.2.2.2.2 = true := tbX4_flex_ok
theorem kc_X4_34 : Cond.constantFloat RX4 34 1048576000 ∈ pGood := pGood_in 356 (by decide +kernel) (by decide +kernel)
theorem im_X4_rod : Cond.instanceMethod yX4_rod ∈ pGood := pGood_in 358 (by decide +kernel) (by decide +kernel)
theorem se_X4_rod : Cond.selects RX4 yX4_rod yX4_rod ∈ pGood := pGood_in 359 (by decide +kernel) (by decide +kernel)
def mX4_rod : PM := (yX4_rod, cX4_rod, 2, (some .float), tbX4_rod)
theorem co_X4_rod : Cond.code mX4_rod.1 mX4_rod.2.1 mX4_rod.2.2.1 mX4_rod.2.2.2.1 ∈ pGood := pGood_in 360 (by decide +kernel) (by decide +kernel)
theorem tk_X4_rod : pTabOk mX4_rod.2.1 mX4_rod.2.2.2.2 = true := tbX4_rod_ok
theorem im_X8_width : Cond.instanceMethod yX8_width ∈ pGood := pGood_in 362 (by decide +kernel) (by decide +kernel)
theorem se_X8_width : Cond.selects RX8 yX8_width yX8_width ∈ pGood := pGood_in 363 (by decide +kernel) (by decide +kernel)
def mX8_width : PM := (yX8_width, cX8_width, 3, (some .int), tbX8_width)
theorem co_X8_width : Cond.code mX8_width.1 mX8_width.2.1 mX8_width.2.2.1 mX8_width.2.2.2.1 ∈ pGood := pGood_in 364 (by decide +kernel) (by decide +kernel)
theorem tk_X8_width : pTabOk mX8_width.2.1 mX8_width.2.2.2.2 = true := tbX8_width_ok
theorem im_X8_feed : Cond.instanceMethod yX8_feed ∈ pGood := pGood_in 366 (by decide +kernel) (by decide +kernel)
theorem se_X8_feed : Cond.selects RX8 yX8_feed yX8_feed ∈ pGood := pGood_in 367 (by decide +kernel) (by decide +kernel)
def mX8_feed : PM := (yX8_feed, cX8_feed, 2, (some .int), tbX8_feed)
theorem co_X8_feed : Cond.code mX8_feed.1 mX8_feed.2.1 mX8_feed.2.2.1 mX8_feed.2.2.2.1 ∈ pGood := pGood_in 368 (by decide +kernel) (by decide +kernel)
theorem tk_X8_feed : pTabOk mX8_feed.2.1 mX8_feed.2.2.2.2 = true := tbX8_feed_ok
theorem im_X7_append : Cond.instanceMethod yX7_append ∈ pGood := pGood_in 370 (by decide +kernel) (by decide +kernel)
theorem se_X7_append : Cond.selects RX7 yX7_append yX7_append ∈ pGood := pGood_in 371 (by decide +kernel) (by decide +kernel)
def mX7_append : PM := (yX7_append, cX7_append, 2, none, tbX7_append)
theorem co_X7_append : Cond.code mX7_append.1 mX7_append.2.1 mX7_append.2.2.1 mX7_append.2.2.2.1 ∈ pGood := pGood_in 372 (by decide +kernel) (by decide +kernel)
theorem tk_X7_append : pTabOk mX7_append.2.1 mX7_append.2.2.2.2 = true := tbX7_append_ok
theorem im_X8_music : Cond.instanceMethod yX8_music ∈ pGood := pGood_in 375 (by decide +kernel) (by decide +kernel)
theorem se_X8_music : Cond.selects RX8 yX8_music yX8_music ∈ pGood := pGood_in 376 (by decide +kernel) (by decide +kernel)
def mX8_music : PM := (yX8_music, cX8_music, 2, (some .int), tbX8_music)
theorem co_X8_music : Cond.code mX8_music.1 mX8_music.2.1 mX8_music.2.2.1 mX8_music.2.2.2.1 ∈ pGood := pGood_in 377 (by decide +kernel) (by decide +kernel)
theorem tk_X8_music : pTabOk mX8_music.2.1 mX8_music.2.2.2.2 = true := tbX8_music_ok
theorem im_X7_readMusic : Cond.instanceMethod yX7_readMusic ∈ pGood := pGood_in 379 (by decide +kernel) (by decide +kernel)
theorem se_X7_readMusic : Cond.selects RX7 yX7_readMusic yX7_readMusic ∈ pGood := pGood_in 380 (by decide +kernel) (by decide +kernel)
def mX7_readMusic : PM := (yX7_readMusic, cX7_readMusic, 2, (some .int), tbX7_readMusic)
theorem co_X7_readMusic : Cond.code mX7_readMusic.1 mX7_readMusic.2.1 mX7_readMusic.2.2.1 mX7_readMusic.2.2.2.1 ∈ pGood := pGood_in 381 (by decide +kernel) (by decide +kernel)
theorem tk_X7_readMusic : pTabOk mX7_readMusic.2.1 mX7_readMusic.2.2.2.2 = true := tbX7_readMusic_ok
theorem im_X7_readSign : Cond.instanceMethod yX7_readSign ∈ pGood := pGood_in 384 (by decide +kernel) (by decide +kernel)
def mX7_readSign : PM := (yX7_readSign, cX7_readSign, 6, (some .boolean), tbX7_readSign)
theorem co_X7_readSign : Cond.code mX7_readSign.1 mX7_readSign.2.1 mX7_readSign.2.2.1 mX7_readSign.2.2.2.1 ∈ pGood := pGood_in 385 (by decide +kernel) (by decide +kernel)
theorem tk_X7_readSign : pTabOk mX7_readSign.2.1 mX7_readSign.2.2.2.2 = true := tbX7_readSign_ok
theorem im_X7_isNext : Cond.instanceMethod yX7_isNext ∈ pGood := pGood_in 388 (by decide +kernel) (by decide +kernel)
def mX7_isNext : PM := (yX7_isNext, cX7_isNext, 2, (some .boolean), tbX7_isNext)
theorem co_X7_isNext : Cond.code mX7_isNext.1 mX7_isNext.2.1 mX7_isNext.2.2.1 mX7_isNext.2.2.2.1 ∈ pGood := pGood_in 389 (by decide +kernel) (by decide +kernel)
theorem tk_X7_isNext : pTabOk mX7_isNext.2.1 mX7_isNext.2.2.2.2 = true := tbX7_isNext_ok
theorem im_X7_readNumber : Cond.instanceMethod yX7_readNumber ∈ pGood := pGood_in 393 (by decide +kernel) (by decide +kernel)
def mX7_readNumber : PM := (yX7_readNumber, cX7_readNumber, 5, (some .int), tbX7_readNumber)
theorem co_X7_readNumber : Cond.code mX7_readNumber.1 mX7_readNumber.2.1 mX7_readNumber.2.2.1 mX7_readNumber.2.2.2.1 ∈ pGood := pGood_in 394 (by decide +kernel) (by decide +kernel)
theorem tk_X7_readNumber : pTabOk mX7_readNumber.2.1 mX7_readNumber.2.2.2.2 = true := tbX7_readNumber_ok
theorem im_X7_digit : Cond.instanceMethod yX7_digit ∈ pGood := pGood_in 397 (by decide +kernel) (by decide +kernel)
def mX7_digit : PM := (yX7_digit, cX7_digit, 2, (some .int), tbX7_digit)
theorem co_X7_digit : Cond.code mX7_digit.1 mX7_digit.2.1 mX7_digit.2.2.1 mX7_digit.2.2.2.1 ∈ pGood := pGood_in 398 (by decide +kernel) (by decide +kernel)
theorem tk_X7_digit : pTabOk mX7_digit.2.1 mX7_digit.2.2.2.2 = true := tbX7_digit_ok
theorem im_X7_readAdorn : Cond.instanceMethod yX7_readAdorn ∈ pGood := pGood_in 401 (by decide +kernel) (by decide +kernel)
def mX7_readAdorn : PM := (yX7_readAdorn, cX7_readAdorn, 2, (some .int), tbX7_readAdorn)
theorem co_X7_readAdorn : Cond.code mX7_readAdorn.1 mX7_readAdorn.2.1 mX7_readAdorn.2.2.1 mX7_readAdorn.2.2.2.1 ∈ pGood := pGood_in 402 (by decide +kernel) (by decide +kernel)
theorem tk_X7_readAdorn : pTabOk mX7_readAdorn.2.1 mX7_readAdorn.2.2.2.2 = true := tbX7_readAdorn_ok
theorem im_X7_keep : Cond.instanceMethod yX7_keep ∈ pGood := pGood_in 405 (by decide +kernel) (by decide +kernel)
def mX7_keep : PM := (yX7_keep, cX7_keep, 5, none, tbX7_keep)
theorem co_X7_keep : Cond.code mX7_keep.1 mX7_keep.2.1 mX7_keep.2.2.1 mX7_keep.2.2.2.1 ∈ pGood := pGood_in 406 (by decide +kernel) (by decide +kernel)
theorem tk_X7_keep : pTabOk mX7_keep.2.1 mX7_keep.2.2.2.2 = true := tbX7_keep_ok
theorem im_X4_lay : Cond.instanceMethod yX4_lay ∈ pGood := pGood_in 408 (by decide +kernel) (by decide +kernel)
theorem se_X4_lay : Cond.selects RX4 yX4_lay yX4_lay ∈ pGood := pGood_in 409 (by decide +kernel) (by decide +kernel)
def mX4_lay : PM := (yX4_lay, cX4_lay, 7, none, tbX4_lay)
theorem co_X4_lay : Cond.code mX4_lay.1 mX4_lay.2.1 mX4_lay.2.2.1 mX4_lay.2.2.2.1 ∈ pGood := pGood_in 410 (by decide +kernel) (by decide +kernel)
theorem tk_X4_lay : pTabOk mX4_lay.2.1 mX4_lay.2.2.2.2 = true := tbX4_lay_ok
theorem im_X4_become : Cond.instanceMethod yX4_become ∈ pGood := pGood_in 413 (by decide +kernel) (by decide +kernel)
theorem se_X4_become : Cond.selects RX4 yX4_become yX4_become ∈ pGood := pGood_in 414 (by decide +kernel) (by decide +kernel)
def mX4_become : PM := (yX4_become, cX4_become, 2, none, tbX4_become)
theorem co_X4_become : Cond.code mX4_become.1 mX4_become.2.1 mX4_become.2.2.1 mX4_become.2.2.2.1 ∈ pGood := pGood_in 415 (by decide +kernel) (by decide +kernel)
theorem tk_X4_become : pTabOk mX4_become.2.1 mX4_become.2.2.2.2 = true := tbX4_become_ok
theorem st_X8_copy : Cond.static yX8_copy ∈ pGood := pGood_in 417 (by decide +kernel) (by decide +kernel)
def mX8_copy : PM := (yX8_copy, cX8_copy, 3, none, tbX8_copy)
theorem co_X8_copy : Cond.code mX8_copy.1 mX8_copy.2.1 mX8_copy.2.2.1 mX8_copy.2.2.2.1 ∈ pGood := pGood_in 418 (by decide +kernel) (by decide +kernel)
theorem tk_X8_copy : pTabOk mX8_copy.2.1 mX8_copy.2.2.2.2 = true := tbX8_copy_ok
theorem im_X8_shelf : Cond.instanceMethod yX8_shelf ∈ pGood := pGood_in 420 (by decide +kernel) (by decide +kernel)
theorem se_X8_shelf : Cond.selects RX8 yX8_shelf yX8_shelf ∈ pGood := pGood_in 421 (by decide +kernel) (by decide +kernel)
def mX8_shelf : PM := (yX8_shelf, cX8_shelf, 5, (some .int), tbX8_shelf)
theorem co_X8_shelf : Cond.code mX8_shelf.1 mX8_shelf.2.1 mX8_shelf.2.2.1 mX8_shelf.2.2.2.1 ∈ pGood := pGood_in 422 (by decide +kernel) (by decide +kernel)
theorem tk_X8_shelf : pTabOk mX8_shelf.2.1 mX8_shelf.2.2.2.2 = true := tbX8_shelf_ok
theorem im_X1_clearShelf : Cond.instanceMethod yX1_clearShelf ∈ pGood := pGood_in 424 (by decide +kernel) (by decide +kernel)
theorem se_X1_clearShelf : Cond.selects RX1 yX1_clearShelf yX1_clearShelf ∈ pGood := pGood_in 425 (by decide +kernel) (by decide +kernel)
def mX1_clearShelf : PM := (yX1_clearShelf, cX1_clearShelf, 5, none, tbX1_clearShelf)
theorem co_X1_clearShelf : Cond.code mX1_clearShelf.1 mX1_clearShelf.2.1 mX1_clearShelf.2.2.1 mX1_clearShelf.2.2.2.1 ∈ pGood := pGood_in 426 (by decide +kernel) (by decide +kernel)
theorem tk_X1_clearShelf : pTabOk mX1_clearShelf.2.1 mX1_clearShelf.2.2.2.2 = true := tbX1_clearShelf_ok
theorem st_X1_place : Cond.static yX1_place ∈ pGood := pGood_in 429 (by decide +kernel) (by decide +kernel)
def mX1_place : PM := (yX1_place, cX1_place, 2, (some .int), tbX1_place)
theorem co_X1_place : Cond.code mX1_place.1 mX1_place.2.1 mX1_place.2.2.1 mX1_place.2.2.2.1 ∈ pGood := pGood_in 430 (by decide +kernel) (by decide +kernel)
theorem tk_X1_place : pTabOk mX1_place.2.1 mX1_place.2.2.2.2 = true := tbX1_place_ok
theorem im_X4_clear : Cond.instanceMethod yX4_clear ∈ pGood := pGood_in 432 (by decide +kernel) (by decide +kernel)
theorem se_X4_clear : Cond.selects RX4 yX4_clear yX4_clear ∈ pGood := pGood_in 433 (by decide +kernel) (by decide +kernel)
def mX4_clear : PM := (yX4_clear, cX4_clear, 2, none, tbX4_clear)
theorem co_X4_clear : Cond.code mX4_clear.1 mX4_clear.2.1 mX4_clear.2.2.1 mX4_clear.2.2.2.1 ∈ pGood := pGood_in 434 (by decide +kernel) (by decide +kernel)
theorem tk_X4_clear : pTabOk mX4_clear.2.1 mX4_clear.2.2.2.2 = true := tbX4_clear_ok
theorem im_X8_store : Cond.instanceMethod yX8_store ∈ pGood := pGood_in 437 (by decide +kernel) (by decide +kernel)
theorem se_X8_store : Cond.selects RX8 yX8_store yX8_store ∈ pGood := pGood_in 438 (by decide +kernel) (by decide +kernel)
def mX8_store : PM := (yX8_store, cX8_store, 4, (some .int), tbX8_store)
theorem co_X8_store : Cond.code mX8_store.1 mX8_store.2.1 mX8_store.2.2.1 mX8_store.2.2.2.1 ∈ pGood := pGood_in 439 (by decide +kernel) (by decide +kernel)
theorem tk_X8_store : pTabOk mX8_store.2.1 mX8_store.2.2.2.2 = true := tbX8_store_ok
theorem im_X1_hasPlace : Cond.instanceMethod yX1_hasPlace ∈ pGood := pGood_in 441 (by decide +kernel) (by decide +kernel)
theorem se_X1_hasPlace : Cond.selects RX1 yX1_hasPlace yX1_hasPlace ∈ pGood := pGood_in 442 (by decide +kernel) (by decide +kernel)
def mX1_hasPlace : PM := (yX1_hasPlace, cX1_hasPlace, 3, (some .boolean), tbX1_hasPlace)
theorem co_X1_hasPlace : Cond.code mX1_hasPlace.1 mX1_hasPlace.2.1 mX1_hasPlace.2.2.1 mX1_hasPlace.2.2.2.1 ∈ pGood := pGood_in 443 (by decide +kernel) (by decide +kernel)
theorem tk_X1_hasPlace : pTabOk mX1_hasPlace.2.1 mX1_hasPlace.2.2.2.2 = true := tbX1_hasPlace_ok
theorem im_X1_shelfKind : Cond.instanceMethod yX1_shelfKind ∈ pGood := pGood_in 445 (by decide +kernel) (by decide +kernel)
theorem se_X1_shelfKind : Cond.selects RX1 yX1_shelfKind yX1_shelfKind ∈ pGood := pGood_in 446 (by decide +kernel) (by decide +kernel)
def mX1_shelfKind : PM := (yX1_shelfKind, cX1_shelfKind, 2, (some .int), tbX1_shelfKind)
theorem co_X1_shelfKind : Cond.code mX1_shelfKind.1 mX1_shelfKind.2.1 mX1_shelfKind.2.2.1 mX1_shelfKind.2.2.2.1 ∈ pGood := pGood_in 447 (by decide +kernel) (by decide +kernel)
theorem tk_X1_shelfKind : pTabOk mX1_shelfKind.2.1 mX1_shelfKind.2.2.2.2 = true := tbX1_shelfKind_ok
theorem im_X4_copySign : Cond.instanceMethod yX4_copySign ∈ pGood := pGood_in 452 (by decide +kernel) (by decide +kernel)
theorem se_X4_copySign : Cond.selects RX4 yX4_copySign yX4_copySign ∈ pGood := pGood_in 453 (by decide +kernel) (by decide +kernel)
def mX4_copySign : PM := (yX4_copySign, cX4_copySign, 5, none, tbX4_copySign)
theorem co_X4_copySign : Cond.code mX4_copySign.1 mX4_copySign.2.1 mX4_copySign.2.2.1 mX4_copySign.2.2.2.1 ∈ pGood := pGood_in 454 (by decide +kernel) (by decide +kernel)
theorem tk_X4_copySign : pTabOk mX4_copySign.2.1 mX4_copySign.2.2.2.2 = true := tbX4_copySign_ok
theorem im_X8_fetch : Cond.instanceMethod yX8_fetch ∈ pGood := pGood_in 456 (by decide +kernel) (by decide +kernel)
theorem se_X8_fetch : Cond.selects RX8 yX8_fetch yX8_fetch ∈ pGood := pGood_in 457 (by decide +kernel) (by decide +kernel)
def mX8_fetch : PM := (yX8_fetch, cX8_fetch, 5, (some .int), tbX8_fetch)
theorem co_X8_fetch : Cond.code mX8_fetch.1 mX8_fetch.2.1 mX8_fetch.2.2.1 mX8_fetch.2.2.2.1 ∈ pGood := pGood_in 458 (by decide +kernel) (by decide +kernel)
theorem tk_X8_fetch : pTabOk mX8_fetch.2.1 mX8_fetch.2.2.2.2 = true := tbX8_fetch_ok
theorem im_X4_isMissing : Cond.instanceMethod yX4_isMissing ∈ pGood := pGood_in 460 (by decide +kernel) (by decide +kernel)
theorem se_X4_isMissing : Cond.selects RX4 yX4_isMissing yX4_isMissing ∈ pGood := pGood_in 461 (by decide +kernel) (by decide +kernel)
def mX4_isMissing : PM := (yX4_isMissing, cX4_isMissing, 2, (some .boolean), tbX4_isMissing)
theorem co_X4_isMissing : Cond.code mX4_isMissing.1 mX4_isMissing.2.1 mX4_isMissing.2.2.1 mX4_isMissing.2.2.2.1 ∈ pGood := pGood_in 462 (by decide +kernel) (by decide +kernel)
theorem tk_X4_isMissing : pTabOk mX4_isMissing.2.1 mX4_isMissing.2.2.2.2 = true := tbX4_isMissing_ok
theorem im_X8_image : Cond.instanceMethod yX8_image ∈ pGood := pGood_in 464 (by decide +kernel) (by decide +kernel)
theorem se_X8_image : Cond.selects RX8 yX8_image yX8_image ∈ pGood := pGood_in 465 (by decide +kernel) (by decide +kernel)
def mX8_image : PM := (yX8_image, cX8_image, 1, (some .int), tbX8_image)
theorem co_X8_image : Cond.code mX8_image.1 mX8_image.2.1 mX8_image.2.2.1 mX8_image.2.2.2.1 ∈ pGood := pGood_in 466 (by decide +kernel) (by decide +kernel)
theorem tk_X8_image : pTabOk mX8_image.2.1 mX8_image.2.2.2.2 = true := tbX8_image_ok
theorem im_X1_become : Cond.instanceMethod yX1_become ∈ pGood := pGood_in 468 (by decide +kernel) (by decide +kernel)
theorem se_X1_become : Cond.selects RX1 yX1_become yX1_become ∈ pGood := pGood_in 469 (by decide +kernel) (by decide +kernel)
def mX1_become : PM := (yX1_become, cX1_become, 2, none, tbX1_become)
theorem co_X1_become : Cond.code mX1_become.1 mX1_become.2.1 mX1_become.2.2.1 mX1_become.2.2.2.1 ∈ pGood := pGood_in 470 (by decide +kernel) (by decide +kernel)
theorem tk_X1_become : pTabOk mX1_become.2.1 mX1_become.2.2.2.2 = true := tbX1_become_ok
theorem im_X8_restore : Cond.instanceMethod yX8_restore ∈ pGood := pGood_in 474 (by decide +kernel) (by decide +kernel)
theorem se_X8_restore : Cond.selects RX8 yX8_restore yX8_restore ∈ pGood := pGood_in 475 (by decide +kernel) (by decide +kernel)
def mX8_restore : PM := (yX8_restore, cX8_restore, 1, (some .int), tbX8_restore)
theorem co_X8_restore : Cond.code mX8_restore.1 mX8_restore.2.1 mX8_restore.2.2.1 mX8_restore.2.2.2.1 ∈ pGood := pGood_in 476 (by decide +kernel) (by decide +kernel)
theorem tk_X8_restore : pTabOk mX8_restore.2.1 mX8_restore.2.2.2.2 = true := tbX8_restore_ok
theorem im_X8_count : Cond.instanceMethod yX8_count ∈ pGood := pGood_in 478 (by decide +kernel) (by decide +kernel)
theorem se_X8_count : Cond.selects RX8 yX8_count yX8_count ∈ pGood := pGood_in 479 (by decide +kernel) (by decide +kernel)
def mX8_count : PM := (yX8_count, cX8_count, 2, (some .int), tbX8_count)
theorem co_X8_count : Cond.code mX8_count.1 mX8_count.2.1 mX8_count.2.2.1 mX8_count.2.2.2.1 ∈ pGood := pGood_in 480 (by decide +kernel) (by decide +kernel)
theorem tk_X8_count : pTabOk mX8_count.2.1 mX8_count.2.2.2.2 = true := tbX8_count_ok
theorem im_X8_countNotes : Cond.instanceMethod yX8_countNotes ∈ pGood := pGood_in 483 (by decide +kernel) (by decide +kernel)
def mX8_countNotes : PM := (yX8_countNotes, cX8_countNotes, 3, (some .int), tbX8_countNotes)
theorem co_X8_countNotes : Cond.code mX8_countNotes.1 mX8_countNotes.2.1 mX8_countNotes.2.2.1 mX8_countNotes.2.2.2.1 ∈ pGood := pGood_in 484 (by decide +kernel) (by decide +kernel)
theorem tk_X8_countNotes : pTabOk mX8_countNotes.2.1 mX8_countNotes.2.2.2.2 = true := tbX8_countNotes_ok
theorem im_X8_sumDurations : Cond.instanceMethod yX8_sumDurations ∈ pGood := pGood_in 487 (by decide +kernel) (by decide +kernel)
def mX8_sumDurations : PM := (yX8_sumDurations, cX8_sumDurations, 3, (some .int), tbX8_sumDurations)
theorem co_X8_sumDurations : Cond.code mX8_sumDurations.1 mX8_sumDurations.2.1 mX8_sumDurations.2.2.1 mX8_sumDurations.2.2.2.1 ∈ pGood := pGood_in 488 (by decide +kernel) (by decide +kernel)
theorem tk_X8_sumDurations : pTabOk mX8_sumDurations.2.1 mX8_sumDurations.2.2.2.2 = true := tbX8_sumDurations_ok
theorem im_X1_countOnShelves : Cond.instanceMethod yX1_countOnShelves ∈ pGood := pGood_in 490 (by decide +kernel) (by decide +kernel)
theorem se_X1_countOnShelves : Cond.selects RX1 yX1_countOnShelves yX1_countOnShelves ∈ pGood := pGood_in 491 (by decide +kernel) (by decide +kernel)
def mX1_countOnShelves : PM := (yX1_countOnShelves, cX1_countOnShelves, 4, (some .int), tbX1_countOnShelves)
theorem co_X1_countOnShelves : Cond.code mX1_countOnShelves.1 mX1_countOnShelves.2.1 mX1_countOnShelves.2.2.1 mX1_countOnShelves.2.2.2.1 ∈ pGood := pGood_in 492 (by decide +kernel) (by decide +kernel)
theorem tk_X1_countOnShelves : pTabOk mX1_countOnShelves.2.1 mX1_countOnShelves.2.2.2.2 = true := tbX1_countOnShelves_ok
theorem st_L_mod : Cond.static yL_mod ∈ pGood := pGood_in 496 (by decide +kernel) (by decide +kernel)
def mL_mod : PM := (yL_mod, cL_mod, 3, (some .int), tbL_mod)
theorem co_L_mod : Cond.code mL_mod.1 mL_mod.2.1 mL_mod.2.2.1 mL_mod.2.2.2.1 ∈ pGood := pGood_in 497 (by decide +kernel) (by decide +kernel)
theorem tk_L_mod : pTabOk mL_mod.2.1 mL_mod.2.2.2.2 = true := tbL_mod_ok
theorem st_L_cell : Cond.static yL_cell ∈ pGood := pGood_in 499 (by decide +kernel) (by decide +kernel)
def mL_cell : PM := (yL_cell, cL_cell, 2, (some .int), tbL_cell)
theorem co_L_cell : Cond.code mL_cell.1 mL_cell.2.1 mL_cell.2.2.1 mL_cell.2.2.2.1 ∈ pGood := pGood_in 500 (by decide +kernel) (by decide +kernel)
theorem tk_L_cell : pTabOk mL_cell.2.1 mL_cell.2.2.2.2 = true := tbL_cell_ok
theorem st_L_columns : Cond.static yL_columns ∈ pGood := pGood_in 502 (by decide +kernel) (by decide +kernel)
def mL_columns : PM := (yL_columns, cL_columns, 11, (some .boolean), tbL_columns)
theorem co_L_columns : Cond.code mL_columns.1 mL_columns.2.1 mL_columns.2.2.1 mL_columns.2.2.2.1 ∈ pGood := pGood_in 503 (by decide +kernel) (by decide +kernel)
theorem tk_L_columns : pTabOk mL_columns.2.1 mL_columns.2.2.2.2 = true := tbL_columns_ok
theorem im_X8_drop : Cond.instanceMethod yX8_drop ∈ pGood := pGood_in 505 (by decide +kernel) (by decide +kernel)
theorem se_X8_drop : Cond.selects RX8 yX8_drop yX8_drop ∈ pGood := pGood_in 506 (by decide +kernel) (by decide +kernel)
def mX8_drop : PM := (yX8_drop, cX8_drop, 1, (some .int), tbX8_drop)
theorem co_X8_drop : Cond.code mX8_drop.1 mX8_drop.2.1 mX8_drop.2.2.1 mX8_drop.2.2.2.1 ∈ pGood := pGood_in 507 (by decide +kernel) (by decide +kernel)
theorem tk_X8_drop : pTabOk mX8_drop.2.1 mX8_drop.2.2.2.2 = true := tbX8_drop_ok
theorem im_X8_add : Cond.instanceMethod yX8_add ∈ pGood := pGood_in 509 (by decide +kernel) (by decide +kernel)
theorem se_X8_add : Cond.selects RX8 yX8_add yX8_add ∈ pGood := pGood_in 510 (by decide +kernel) (by decide +kernel)
def mX8_add : PM := (yX8_add, cX8_add, 4, (some .int), tbX8_add)
theorem co_X8_add : Cond.code mX8_add.1 mX8_add.2.1 mX8_add.2.2.1 mX8_add.2.2.2.1 ∈ pGood := pGood_in 511 (by decide +kernel) (by decide +kernel)
theorem tk_X8_add : pTabOk mX8_add.2.1 mX8_add.2.2.2.2 = true := tbX8_add_ok
theorem st_L_f : Cond.static yL_f ∈ pGood := pGood_in 514 (by decide +kernel) (by decide +kernel)
def mL_f : PM := (yL_f, cL_f, 1, (some .float), tbL_f)
theorem co_L_f : Cond.code mL_f.1 mL_f.2.1 mL_f.2.2.1 mL_f.2.2.2.1 ∈ pGood := pGood_in 515 (by decide +kernel) (by decide +kernel)
theorem tk_L_f : pTabOk mL_f.2.1 mL_f.2.2.2.2 = true := tbL_f_ok
theorem ml_L_34 : Cond.methodLink RL 34 ⟨"java/lang/Float", "intBitsToFloat", "(I)F"⟩ ∈ pGood := pGood_in 516 (by decide +kernel) (by decide +kernel)
theorem st_java_lang_Float_intBitsToFloat : Cond.static ⟨"java/lang/Float", "intBitsToFloat", "(I)F"⟩ ∈ pGood := pGood_in 517 (by decide +kernel) (by decide +kernel)
theorem na_intBitsToFloat : Cond.native ⟨"java/lang/Float", "intBitsToFloat", "(I)F"⟩ ∈ pGood := pGood_in 518 (by decide +kernel) (by decide +kernel)
theorem st_L_stretch : Cond.static yL_stretch ∈ pGood := pGood_in 520 (by decide +kernel) (by decide +kernel)
def mL_stretch : PM := (yL_stretch, cL_stretch, 8, (some .boolean), tbL_stretch)
theorem co_L_stretch : Cond.code mL_stretch.1 mL_stretch.2.1 mL_stretch.2.2.1 mL_stretch.2.2.2.1 ∈ pGood := pGood_in 521 (by decide +kernel) (by decide +kernel)
theorem tk_L_stretch : pTabOk mL_stretch.2.1 mL_stretch.2.2.2.2 = true := tbL_stretch_ok
theorem im_X8_at : Cond.instanceMethod yX8_at ∈ pGood := pGood_in 523 (by decide +kernel) (by decide +kernel)
theorem se_X8_at : Cond.selects RX8 yX8_at yX8_at ∈ pGood := pGood_in 524 (by decide +kernel) (by decide +kernel)
def mX8_at : PM := (yX8_at, cX8_at, 5, (some .int), tbX8_at)
theorem co_X8_at : Cond.code mX8_at.1 mX8_at.2.1 mX8_at.2.2.1 mX8_at.2.2.2.1 ∈ pGood := pGood_in 525 (by decide +kernel) (by decide +kernel)
theorem tk_X8_at : pTabOk mX8_at.2.1 mX8_at.2.2.2.2 = true := tbX8_at_ok
theorem im_X8_isStretch : Cond.instanceMethod yX8_isStretch ∈ pGood := pGood_in 528 (by decide +kernel) (by decide +kernel)
def mX8_isStretch : PM := (yX8_isStretch, cX8_isStretch, 3, (some .boolean), tbX8_isStretch)
theorem co_X8_isStretch : Cond.code mX8_isStretch.1 mX8_isStretch.2.1 mX8_isStretch.2.2.1 mX8_isStretch.2.2.2.1 ∈ pGood := pGood_in 529 (by decide +kernel) (by decide +kernel)
theorem tk_X8_isStretch : pTabOk mX8_isStretch.2.1 mX8_isStretch.2.2.2.2 = true := tbX8_isStretch_ok
theorem im_X6_settle : Cond.instanceMethod yX6_settle ∈ pGood := pGood_in 531 (by decide +kernel) (by decide +kernel)
theorem se_X6_settle : Cond.selects RX6 yX6_settle yX6_settle ∈ pGood := pGood_in 532 (by decide +kernel) (by decide +kernel)
def mX6_settle : PM := (yX6_settle, cX6_settle, 8, none, tbX6_settle)
theorem co_X6_settle : Cond.code mX6_settle.1 mX6_settle.2.1 mX6_settle.2.2.1 mX6_settle.2.2.2.1 ∈ pGood := pGood_in 533 (by decide +kernel) (by decide +kernel)
theorem tk_X6_settle : pTabOk mX6_settle.2.1 mX6_settle.2.2.2.2 = true := tbX6_settle_ok
theorem im_X6_take : Cond.instanceMethod yX6_take ∈ pGood := pGood_in 535 (by decide +kernel) (by decide +kernel)
theorem se_X6_take : Cond.selects RX6 yX6_take yX6_take ∈ pGood := pGood_in 536 (by decide +kernel) (by decide +kernel)
def mX6_take : PM := (yX6_take, cX6_take, 7, none, tbX6_take)
theorem co_X6_take : Cond.code mX6_take.1 mX6_take.2.1 mX6_take.2.2.1 mX6_take.2.2.2.1 ∈ pGood := pGood_in 537 (by decide +kernel) (by decide +kernel)
theorem tk_X6_take : pTabOk mX6_take.2.1 mX6_take.2.2.2.2 = true := tbX6_take_ok
theorem st_X8_writeFloat : Cond.static yX8_writeFloat ∈ pGood := pGood_in 540 (by decide +kernel) (by decide +kernel)
def mX8_writeFloat : PM := (yX8_writeFloat, cX8_writeFloat, 3, none, tbX8_writeFloat)
theorem co_X8_writeFloat : Cond.code mX8_writeFloat.1 mX8_writeFloat.2.1 mX8_writeFloat.2.2.1 mX8_writeFloat.2.2.2.1 ∈ pGood := pGood_in 541 (by decide +kernel) (by decide +kernel)
theorem tk_X8_writeFloat : pTabOk mX8_writeFloat.2.1 mX8_writeFloat.2.2.2.2 = true := tbX8_writeFloat_ok
theorem st_X8_writeFlag : Cond.static yX8_writeFlag ∈ pGood := pGood_in 545 (by decide +kernel) (by decide +kernel)
def mX8_writeFlag : PM := (yX8_writeFlag, cX8_writeFlag, 3, none, tbX8_writeFlag)
theorem co_X8_writeFlag : Cond.code mX8_writeFlag.1 mX8_writeFlag.2.1 mX8_writeFlag.2.2.1 mX8_writeFlag.2.2.2.1 ∈ pGood := pGood_in 546 (by decide +kernel) (by decide +kernel)
theorem tk_X8_writeFlag : pTabOk mX8_writeFlag.2.1 mX8_writeFlag.2.2.2.2 = true := tbX8_writeFlag_ok
theorem im_X6_balance : Cond.instanceMethod yX6_balance ∈ pGood := pGood_in 549 (by decide +kernel) (by decide +kernel)
def mX6_balance : PM := (yX6_balance, cX6_balance, 5, (some .float), tbX6_balance)
theorem co_X6_balance : Cond.code mX6_balance.1 mX6_balance.2.1 mX6_balance.2.2.1 mX6_balance.2.2.2.1 ∈ pGood := pGood_in 550 (by decide +kernel) (by decide +kernel)
theorem tk_X6_balance : pTabOk mX6_balance.2.1 mX6_balance.2.2.2.2 = true := tbX6_balance_ok
theorem st_X8_readFlag : Cond.static yX8_readFlag ∈ pGood := pGood_in 552 (by decide +kernel) (by decide +kernel)
def mX8_readFlag : PM := (yX8_readFlag, cX8_readFlag, 2, (some .boolean), tbX8_readFlag)
theorem co_X8_readFlag : Cond.code mX8_readFlag.1 mX8_readFlag.2.1 mX8_readFlag.2.2.1 mX8_readFlag.2.2.2.1 ∈ pGood := pGood_in 553 (by decide +kernel) (by decide +kernel)
theorem tk_X8_readFlag : pTabOk mX8_readFlag.2.1 mX8_readFlag.2.2.2.2 = true := tbX8_readFlag_ok
theorem st_X8_readFloat : Cond.static yX8_readFloat ∈ pGood := pGood_in 555 (by decide +kernel) (by decide +kernel)
def mX8_readFloat : PM := (yX8_readFloat, cX8_readFloat, 2, (some .float), tbX8_readFloat)
theorem co_X8_readFloat : Cond.code mX8_readFloat.1 mX8_readFloat.2.1 mX8_readFloat.2.2.1 mX8_readFloat.2.2.2.1 ∈ pGood := pGood_in 556 (by decide +kernel) (by decide +kernel)
theorem tk_X8_readFloat : pTabOk mX8_readFloat.2.1 mX8_readFloat.2.2.2.2 = true := tbX8_readFloat_ok
theorem im_X6_holdMore : Cond.instanceMethod yX6_holdMore ∈ pGood := pGood_in 559 (by decide +kernel) (by decide +kernel)
def mX6_holdMore : PM := (yX6_holdMore, cX6_holdMore, 3, (some .boolean), tbX6_holdMore)
theorem co_X6_holdMore : Cond.code mX6_holdMore.1 mX6_holdMore.2.1 mX6_holdMore.2.2.1 mX6_holdMore.2.2.2.1 ∈ pGood := pGood_in 560 (by decide +kernel) (by decide +kernel)
theorem tk_X6_holdMore : pTabOk mX6_holdMore.2.1 mX6_holdMore.2.2.2.2 = true := tbX6_holdMore_ok
theorem im_X6_stretched : Cond.instanceMethod yX6_stretched ∈ pGood := pGood_in 563 (by decide +kernel) (by decide +kernel)
def mX6_stretched : PM := (yX6_stretched, cX6_stretched, 2, (some .float), tbX6_stretched)
theorem co_X6_stretched : Cond.code mX6_stretched.1 mX6_stretched.2.1 mX6_stretched.2.2.1 mX6_stretched.2.2.2.1 ∈ pGood := pGood_in 564 (by decide +kernel) (by decide +kernel)
theorem tk_X6_stretched : pTabOk mX6_stretched.2.1 mX6_stretched.2.2.2.2 = true := tbX6_stretched_ok
theorem im_X6_length : Cond.instanceMethod yX6_length ∈ pGood := pGood_in 566 (by decide +kernel) (by decide +kernel)
theorem se_X6_length : Cond.selects RX6 yX6_length yX6_length ∈ pGood := pGood_in 567 (by decide +kernel) (by decide +kernel)
def mX6_length : PM := (yX6_length, cX6_length, 2, (some .float), tbX6_length)
theorem co_X6_length : Cond.code mX6_length.1 mX6_length.2.1 mX6_length.2.2.1 mX6_length.2.2.2.1 ∈ pGood := pGood_in 568 (by decide +kernel) (by decide +kernel)
theorem tk_X6_length : pTabOk mX6_length.2.1 mX6_length.2.2.2.2 = true := tbX6_length_ok
theorem im_X6_place : Cond.instanceMethod yX6_place ∈ pGood := pGood_in 570 (by decide +kernel) (by decide +kernel)
theorem se_X6_place : Cond.selects RX6 yX6_place yX6_place ∈ pGood := pGood_in 571 (by decide +kernel) (by decide +kernel)
def mX6_place : PM := (yX6_place, cX6_place, 2, (some .float), tbX6_place)
theorem co_X6_place : Cond.code mX6_place.1 mX6_place.2.1 mX6_place.2.2.1 mX6_place.2.2.2.1 ∈ pGood := pGood_in 572 (by decide +kernel) (by decide +kernel)
theorem tk_X6_place : pTabOk mX6_place.2.1 mX6_place.2.2.2.2 = true := tbX6_place_ok
theorem im_X6_cell : Cond.instanceMethod yX6_cell ∈ pGood := pGood_in 574 (by decide +kernel) (by decide +kernel)
theorem se_X6_cell : Cond.selects RX6 yX6_cell yX6_cell ∈ pGood := pGood_in 575 (by decide +kernel) (by decide +kernel)
def mX6_cell : PM := (yX6_cell, cX6_cell, 2, (some .int), tbX6_cell)
theorem co_X6_cell : Cond.code mX6_cell.1 mX6_cell.2.1 mX6_cell.2.2.1 mX6_cell.2.2.2.1 ∈ pGood := pGood_in 576 (by decide +kernel) (by decide +kernel)
theorem tk_X6_cell : pTabOk mX6_cell.2.1 mX6_cell.2.2.2.2 = true := tbX6_cell_ok
theorem st_L_rodOf : Cond.static yL_rodOf ∈ pGood := pGood_in 579 (by decide +kernel) (by decide +kernel)
def mL_rodOf : PM := (yL_rodOf, cL_rodOf, 2, (some .float), tbL_rodOf)
theorem co_L_rodOf : Cond.code mL_rodOf.1 mL_rodOf.2.1 mL_rodOf.2.2.1 mL_rodOf.2.2.2.1 ∈ pGood := pGood_in 580 (by decide +kernel) (by decide +kernel)
theorem tk_L_rodOf : pTabOk mL_rodOf.2.1 mL_rodOf.2.2.2.2 = true := tbL_rodOf_ok
theorem kc_L_54 : Cond.constantFloat RL 54 1065185444 ∈ pGood := pGood_in 581 (by decide +kernel) (by decide +kernel)
theorem im_X8_held : Cond.instanceMethod yX8_held ∈ pGood := pGood_in 583 (by decide +kernel) (by decide +kernel)
theorem se_X8_held : Cond.selects RX8 yX8_held yX8_held ∈ pGood := pGood_in 584 (by decide +kernel) (by decide +kernel)
def mX8_held : PM := (yX8_held, cX8_held, 3, (some .int), tbX8_held)
theorem co_X8_held : Cond.code mX8_held.1 mX8_held.2.1 mX8_held.2.2.1 mX8_held.2.2.2.1 ∈ pGood := pGood_in 585 (by decide +kernel) (by decide +kernel)
theorem tk_X8_held : pTabOk mX8_held.2.1 mX8_held.2.2.2.2 = true := tbX8_held_ok
theorem im_X6_heldCount : Cond.instanceMethod yX6_heldCount ∈ pGood := pGood_in 587 (by decide +kernel) (by decide +kernel)
theorem se_X6_heldCount : Cond.selects RX6 yX6_heldCount yX6_heldCount ∈ pGood := pGood_in 588 (by decide +kernel) (by decide +kernel)
def mX6_heldCount : PM := (yX6_heldCount, cX6_heldCount, 3, (some .int), tbX6_heldCount)
theorem co_X6_heldCount : Cond.code mX6_heldCount.1 mX6_heldCount.2.1 mX6_heldCount.2.2.1 mX6_heldCount.2.2.2.1 ∈ pGood := pGood_in 589 (by decide +kernel) (by decide +kernel)
theorem tk_X6_heldCount : pTabOk mX6_heldCount.2.1 mX6_heldCount.2.2.2.2 = true := tbX6_heldCount_ok
theorem st_J9_abs_f6c48 : Cond.static yJ9_abs_f6c48 ∈ pGood := pGood_in 591 (by decide +kernel) (by decide +kernel)
def mJ9_abs_f6c48 : PM := (yJ9_abs_f6c48, cJ9_abs_f6c48, 1, (some .float), tbJ9_abs_f6c48)
theorem co_J9_abs_f6c48 : Cond.code mJ9_abs_f6c48.1 mJ9_abs_f6c48.2.1 mJ9_abs_f6c48.2.2.1 mJ9_abs_f6c48.2.2.2.1 ∈ pGood := pGood_in 592 (by decide +kernel) (by decide +kernel)
theorem tk_J9_abs_f6c48 : pTabOk mJ9_abs_f6c48.2.1 mJ9_abs_f6c48.2.2.2.2 = true := tbJ9_abs_f6c48_ok
theorem ml_J9_68 : Cond.methodLink RJ9 68 ⟨"java/lang/Float", "floatToRawIntBits", "(F)I"⟩ ∈ pGood := pGood_in 593 (by decide +kernel) (by decide +kernel)
theorem st_java_lang_Float_floatToRawIntBits : Cond.static ⟨"java/lang/Float", "floatToRawIntBits", "(F)I"⟩ ∈ pGood := pGood_in 594 (by decide +kernel) (by decide +kernel)
theorem na_floatToRawIntBits : Cond.native ⟨"java/lang/Float", "floatToRawIntBits", "(F)I"⟩ ∈ pGood := pGood_in 595 (by decide +kernel) (by decide +kernel)
theorem kc_J9_134 : Cond.constant RJ9 134 2147483647 ∈ pGood := pGood_in 596 (by decide +kernel) (by decide +kernel)
theorem ml_J9_162 : Cond.methodLink RJ9 162 ⟨"java/lang/Float", "intBitsToFloat", "(I)F"⟩ ∈ pGood := pGood_in 597 (by decide +kernel) (by decide +kernel)
theorem kc_L_64 : Cond.constantFloat RL 64 1017370378 ∈ pGood := pGood_in 598 (by decide +kernel) (by decide +kernel)
theorem im_X8_force : Cond.instanceMethod yX8_force ∈ pGood := pGood_in 600 (by decide +kernel) (by decide +kernel)
theorem se_X8_force : Cond.selects RX8 yX8_force yX8_force ∈ pGood := pGood_in 601 (by decide +kernel) (by decide +kernel)
def mX8_force : PM := (yX8_force, cX8_force, 3, (some .int), tbX8_force)
theorem co_X8_force : Cond.code mX8_force.1 mX8_force.2.1 mX8_force.2.2.1 mX8_force.2.2.2.1 ∈ pGood := pGood_in 602 (by decide +kernel) (by decide +kernel)
theorem tk_X8_force : pTabOk mX8_force.2.1 mX8_force.2.2.2.2 = true := tbX8_force_ok
theorem st_L_lines : Cond.static yL_lines ∈ pGood := pGood_in 604 (by decide +kernel) (by decide +kernel)
def mL_lines : PM := (yL_lines, cL_lines, 11, (some .boolean), tbL_lines)
theorem co_L_lines : Cond.code mL_lines.1 mL_lines.2.1 mL_lines.2.2.1 mL_lines.2.2.2.1 ∈ pGood := pGood_in 605 (by decide +kernel) (by decide +kernel)
theorem tk_L_lines : pTabOk mL_lines.2.1 mL_lines.2.2.2.2 = true := tbL_lines_ok
theorem im_X8_lines : Cond.instanceMethod yX8_lines ∈ pGood := pGood_in 607 (by decide +kernel) (by decide +kernel)
theorem se_X8_lines : Cond.selects RX8 yX8_lines yX8_lines ∈ pGood := pGood_in 608 (by decide +kernel) (by decide +kernel)
def mX8_lines : PM := (yX8_lines, cX8_lines, 1, (some .int), tbX8_lines)
theorem co_X8_lines : Cond.code mX8_lines.1 mX8_lines.2.1 mX8_lines.2.2.1 mX8_lines.2.2.2.1 ∈ pGood := pGood_in 609 (by decide +kernel) (by decide +kernel)
theorem tk_X8_lines : pTabOk mX8_lines.2.1 mX8_lines.2.2.2.2 = true := tbX8_lines_ok
theorem im_X8_findBest : Cond.instanceMethod yX8_findBest ∈ pGood := pGood_in 612 (by decide +kernel) (by decide +kernel)
def mX8_findBest : PM := (yX8_findBest, cX8_findBest, 1, none, tbX8_findBest)
theorem co_X8_findBest : Cond.code mX8_findBest.1 mX8_findBest.2.1 mX8_findBest.2.2.1 mX8_findBest.2.2.2.1 ∈ pGood := pGood_in 613 (by decide +kernel) (by decide +kernel)
theorem tk_X8_findBest : pTabOk mX8_findBest.2.1 mX8_findBest.2.2.2.2 = true := tbX8_findBest_ok
theorem im_X0_find : Cond.instanceMethod yX0_find ∈ pGood := pGood_in 615 (by decide +kernel) (by decide +kernel)
theorem se_X0_find : Cond.selects RX0 yX0_find yX0_find ∈ pGood := pGood_in 616 (by decide +kernel) (by decide +kernel)
def mX0_find : PM := (yX0_find, cX0_find, 5, none, tbX0_find)
theorem co_X0_find : Cond.code mX0_find.1 mX0_find.2.1 mX0_find.2.2.1 mX0_find.2.2.2.1 ∈ pGood := pGood_in 617 (by decide +kernel) (by decide +kernel)
theorem tk_X0_find : pTabOk mX0_find.2.1 mX0_find.2.2.2.2 = true := tbX0_find_ok
theorem im_X0_reach : Cond.instanceMethod yX0_reach ∈ pGood := pGood_in 623 (by decide +kernel) (by decide +kernel)
def mX0_reach : PM := (yX0_reach, cX0_reach, 6, none, tbX0_reach)
theorem co_X0_reach : Cond.code mX0_reach.1 mX0_reach.2.1 mX0_reach.2.2.1 mX0_reach.2.2.2.1 ∈ pGood := pGood_in 624 (by decide +kernel) (by decide +kernel)
theorem tk_X0_reach : pTabOk mX0_reach.2.1 mX0_reach.2.2.2.2 = true := tbX0_reach_ok
theorem im_X6_fits : Cond.instanceMethod yX6_fits ∈ pGood := pGood_in 628 (by decide +kernel) (by decide +kernel)
theorem se_X6_fits : Cond.selects RX6 yX6_fits yX6_fits ∈ pGood := pGood_in 629 (by decide +kernel) (by decide +kernel)
def mX6_fits : PM := (yX6_fits, cX6_fits, 1, (some .boolean), tbX6_fits)
theorem co_X6_fits : Cond.code mX6_fits.1 mX6_fits.2.1 mX6_fits.2.2.1 mX6_fits.2.2.2.1 ∈ pGood := pGood_in 630 (by decide +kernel) (by decide +kernel)
theorem tk_X6_fits : pTabOk mX6_fits.2.1 mX6_fits.2.2.2.2 = true := tbX6_fits_ok
theorem im_X6_sum : Cond.instanceMethod yX6_sum ∈ pGood := pGood_in 633 (by decide +kernel) (by decide +kernel)
def mX6_sum : PM := (yX6_sum, cX6_sum, 4, (some .float), tbX6_sum)
theorem co_X6_sum : Cond.code mX6_sum.1 mX6_sum.2.1 mX6_sum.2.2.1 mX6_sum.2.2.2.1 ∈ pGood := pGood_in 634 (by decide +kernel) (by decide +kernel)
theorem tk_X6_sum : pTabOk mX6_sum.2.1 mX6_sum.2.2.2.2 = true := tbX6_sum_ok
theorem im_X6_badness : Cond.instanceMethod yX6_badness ∈ pGood := pGood_in 637 (by decide +kernel) (by decide +kernel)
theorem se_X6_badness : Cond.selects RX6 yX6_badness yX6_badness ∈ pGood := pGood_in 638 (by decide +kernel) (by decide +kernel)
def mX6_badness : PM := (yX6_badness, cX6_badness, 4, (some .float), tbX6_badness)
theorem co_X6_badness : Cond.code mX6_badness.1 mX6_badness.2.1 mX6_badness.2.2.1 mX6_badness.2.2.2.1 ∈ pGood := pGood_in 639 (by decide +kernel) (by decide +kernel)
theorem tk_X6_badness : pTabOk mX6_badness.2.1 mX6_badness.2.2.2.2 = true := tbX6_badness_ok
theorem kc_X6_66 : Cond.constantFloat RX6 66 1120403456 ∈ pGood := pGood_in 640 (by decide +kernel) (by decide +kernel)
theorem im_X0_traceBack : Cond.instanceMethod yX0_traceBack ∈ pGood := pGood_in 643 (by decide +kernel) (by decide +kernel)
def mX0_traceBack : PM := (yX0_traceBack, cX0_traceBack, 4, none, tbX0_traceBack)
theorem co_X0_traceBack : Cond.code mX0_traceBack.1 mX0_traceBack.2.1 mX0_traceBack.2.2.1 mX0_traceBack.2.2.2.1 ∈ pGood := pGood_in 644 (by decide +kernel) (by decide +kernel)
theorem tk_X0_traceBack : pTabOk mX0_traceBack.2.1 mX0_traceBack.2.2.2.2 = true := tbX0_traceBack_ok
theorem kc_L_71 : Cond.constant RL 71 (-2147483002) ∈ pGood := pGood_in 645 (by decide +kernel) (by decide +kernel)
theorem im_X8_total : Cond.instanceMethod yX8_total ∈ pGood := pGood_in 647 (by decide +kernel) (by decide +kernel)
theorem se_X8_total : Cond.selects RX8 yX8_total yX8_total ∈ pGood := pGood_in 648 (by decide +kernel) (by decide +kernel)
def mX8_total : PM := (yX8_total, cX8_total, 1, (some .int), tbX8_total)
theorem co_X8_total : Cond.code mX8_total.1 mX8_total.2.1 mX8_total.2.2.1 mX8_total.2.2.2.1 ∈ pGood := pGood_in 649 (by decide +kernel) (by decide +kernel)
theorem tk_X8_total : pTabOk mX8_total.2.1 mX8_total.2.2.2.2 = true := tbX8_total_ok
theorem im_X8_bad : Cond.instanceMethod yX8_bad ∈ pGood := pGood_in 651 (by decide +kernel) (by decide +kernel)
theorem se_X8_bad : Cond.selects RX8 yX8_bad yX8_bad ∈ pGood := pGood_in 652 (by decide +kernel) (by decide +kernel)
def mX8_bad : PM := (yX8_bad, cX8_bad, 3, (some .int), tbX8_bad)
theorem co_X8_bad : Cond.code mX8_bad.1 mX8_bad.2.1 mX8_bad.2.2.1 mX8_bad.2.2.2.1 ∈ pGood := pGood_in 653 (by decide +kernel) (by decide +kernel)
theorem tk_X8_bad : pTabOk mX8_bad.2.1 mX8_bad.2.2.2.2 = true := tbX8_bad_ok
theorem im_X8_line : Cond.instanceMethod yX8_line ∈ pGood := pGood_in 658 (by decide +kernel) (by decide +kernel)
theorem se_X8_line : Cond.selects RX8 yX8_line yX8_line ∈ pGood := pGood_in 659 (by decide +kernel) (by decide +kernel)
def mX8_line : PM := (yX8_line, cX8_line, 5, (some .int), tbX8_line)
theorem co_X8_line : Cond.code mX8_line.1 mX8_line.2.1 mX8_line.2.2.1 mX8_line.2.2.2.1 ∈ pGood := pGood_in 660 (by decide +kernel) (by decide +kernel)
theorem tk_X8_line : pTabOk mX8_line.2.1 mX8_line.2.2.2.2 = true := tbX8_line_ok
theorem im_X0_first : Cond.instanceMethod yX0_first ∈ pGood := pGood_in 662 (by decide +kernel) (by decide +kernel)
theorem se_X0_first : Cond.selects RX0 yX0_first yX0_first ∈ pGood := pGood_in 663 (by decide +kernel) (by decide +kernel)
def mX0_first : PM := (yX0_first, cX0_first, 2, (some .int), tbX0_first)
theorem co_X0_first : Cond.code mX0_first.1 mX0_first.2.1 mX0_first.2.2.1 mX0_first.2.2.2.1 ∈ pGood := pGood_in 664 (by decide +kernel) (by decide +kernel)
theorem tk_X0_first : pTabOk mX0_first.2.1 mX0_first.2.2.2.2 = true := tbX0_first_ok
theorem im_X0_last : Cond.instanceMethod yX0_last ∈ pGood := pGood_in 666 (by decide +kernel) (by decide +kernel)
theorem se_X0_last : Cond.selects RX0 yX0_last yX0_last ∈ pGood := pGood_in 667 (by decide +kernel) (by decide +kernel)
def mX0_last : PM := (yX0_last, cX0_last, 2, (some .int), tbX0_last)
theorem co_X0_last : Cond.code mX0_last.1 mX0_last.2.1 mX0_last.2.2.1 mX0_last.2.2.2.1 ∈ pGood := pGood_in 668 (by decide +kernel) (by decide +kernel)
theorem tk_X0_last : pTabOk mX0_last.2.1 mX0_last.2.2.2.2 = true := tbX0_last_ok
theorem im_X8_distance : Cond.instanceMethod yX8_distance ∈ pGood := pGood_in 671 (by decide +kernel) (by decide +kernel)
def mX8_distance : PM := (yX8_distance, cX8_distance, 7, (some .int), tbX8_distance)
theorem co_X8_distance : Cond.code mX8_distance.1 mX8_distance.2.1 mX8_distance.2.2.1 mX8_distance.2.2.2.1 ∈ pGood := pGood_in 672 (by decide +kernel) (by decide +kernel)
theorem tk_X8_distance : pTabOk mX8_distance.2.1 mX8_distance.2.2.2.2 = true := tbX8_distance_ok
theorem im_X8_traceLine : Cond.instanceMethod yX8_traceLine ∈ pGood := pGood_in 675 (by decide +kernel) (by decide +kernel)
def mX8_traceLine : PM := (yX8_traceLine, cX8_traceLine, 4, none, tbX8_traceLine)
theorem co_X8_traceLine : Cond.code mX8_traceLine.1 mX8_traceLine.2.1 mX8_traceLine.2.2.1 mX8_traceLine.2.2.2.1 ∈ pGood := pGood_in 676 (by decide +kernel) (by decide +kernel)
theorem tk_X8_traceLine : pTabOk mX8_traceLine.2.1 mX8_traceLine.2.2.2.2 = true := tbX8_traceLine_ok
theorem im_X5_trace : Cond.instanceMethod yX5_trace ∈ pGood := pGood_in 678 (by decide +kernel) (by decide +kernel)
theorem se_X5_trace : Cond.selects RX5 yX5_trace yX5_trace ∈ pGood := pGood_in 679 (by decide +kernel) (by decide +kernel)
def mX5_trace : PM := (yX5_trace, cX5_trace, 7, none, tbX5_trace)
theorem co_X5_trace : Cond.code mX5_trace.1 mX5_trace.2.1 mX5_trace.2.2.1 mX5_trace.2.2.2.1 ∈ pGood := pGood_in 680 (by decide +kernel) (by decide +kernel)
theorem tk_X5_trace : pTabOk mX5_trace.2.1 mX5_trace.2.2.2.2 = true := tbX5_trace_ok
theorem ml_X5_45 : Cond.methodLink RX5 45 Lib.Math.min.name ∈ pGood := pGood_in 684 (by decide +kernel) (by decide +kernel)
theorem st_J9_min_7cf53 : Cond.static Lib.Math.min.name ∈ pGood := pGood_in 685 (by decide +kernel) (by decide +kernel)
theorem co_Math_min : Cond.code Lib.Math.min.name Lib.Math.min.code 2 (some .int) ∈ pGood := pGood_in 686 (by decide +kernel) (by decide +kernel)
theorem im_X5_ink : Cond.instanceMethod yX5_ink ∈ pGood := pGood_in 691 (by decide +kernel) (by decide +kernel)
def mX5_ink : PM := (yX5_ink, cX5_ink, 7, none, tbX5_ink)
theorem co_X5_ink : Cond.code mX5_ink.1 mX5_ink.2.1 mX5_ink.2.2.1 mX5_ink.2.2.2.1 ∈ pGood := pGood_in 692 (by decide +kernel) (by decide +kernel)
theorem tk_X5_ink : pTabOk mX5_ink.2.1 mX5_ink.2.2.2.2 = true := tbX5_ink_ok
theorem im_X5_hasInk : Cond.instanceMethod yX5_hasInk ∈ pGood := pGood_in 694 (by decide +kernel) (by decide +kernel)
theorem se_X5_hasInk : Cond.selects RX5 yX5_hasInk yX5_hasInk ∈ pGood := pGood_in 695 (by decide +kernel) (by decide +kernel)
def mX5_hasInk : PM := (yX5_hasInk, cX5_hasInk, 2, (some .boolean), tbX5_hasInk)
theorem co_X5_hasInk : Cond.code mX5_hasInk.1 mX5_hasInk.2.1 mX5_hasInk.2.2.1 mX5_hasInk.2.2.2.1 ∈ pGood := pGood_in 696 (by decide +kernel) (by decide +kernel)
theorem tk_X5_hasInk : pTabOk mX5_hasInk.2.1 mX5_hasInk.2.2.2.2 = true := tbX5_hasInk_ok
theorem im_X5_upper : Cond.instanceMethod yX5_upper ∈ pGood := pGood_in 699 (by decide +kernel) (by decide +kernel)
theorem se_X5_upper : Cond.selects RX5 yX5_upper yX5_upper ∈ pGood := pGood_in 700 (by decide +kernel) (by decide +kernel)
def mX5_upper : PM := (yX5_upper, cX5_upper, 2, (some .int), tbX5_upper)
theorem co_X5_upper : Cond.code mX5_upper.1 mX5_upper.2.1 mX5_upper.2.2.1 mX5_upper.2.2.2.1 ∈ pGood := pGood_in 701 (by decide +kernel) (by decide +kernel)
theorem tk_X5_upper : pTabOk mX5_upper.2.1 mX5_upper.2.2.2.2 = true := tbX5_upper_ok
theorem ml_X5_75 : Cond.methodLink RX5 75 Lib.Math.max.name ∈ pGood := pGood_in 703 (by decide +kernel) (by decide +kernel)
theorem st_J9_max_7cf53 : Cond.static Lib.Math.max.name ∈ pGood := pGood_in 704 (by decide +kernel) (by decide +kernel)
theorem co_Math_max : Cond.code Lib.Math.max.name Lib.Math.max.code 2 (some .int) ∈ pGood := pGood_in 705 (by decide +kernel) (by decide +kernel)
theorem im_X5_lower : Cond.instanceMethod yX5_lower ∈ pGood := pGood_in 708 (by decide +kernel) (by decide +kernel)
theorem se_X5_lower : Cond.selects RX5 yX5_lower yX5_lower ∈ pGood := pGood_in 709 (by decide +kernel) (by decide +kernel)
def mX5_lower : PM := (yX5_lower, cX5_lower, 2, (some .int), tbX5_lower)
theorem co_X5_lower : Cond.code mX5_lower.1 mX5_lower.2.1 mX5_lower.2.2.1 mX5_lower.2.2.2.1 ∈ pGood := pGood_in 710 (by decide +kernel) (by decide +kernel)
theorem tk_X5_lower : pTabOk mX5_lower.2.1 mX5_lower.2.2.2.2 = true := tbX5_lower_ok
theorem ml_X8_339 : Cond.methodLink RX8 339 Lib.Math.max.name ∈ pGood := pGood_in 714 (by decide +kernel) (by decide +kernel)
theorem st_L_apart : Cond.static yL_apart ∈ pGood := pGood_in 716 (by decide +kernel) (by decide +kernel)
def mL_apart : PM := (yL_apart, cL_apart, 10, (some .boolean), tbL_apart)
theorem co_L_apart : Cond.code mL_apart.1 mL_apart.2.1 mL_apart.2.2.1 mL_apart.2.2.2.1 ∈ pGood := pGood_in 717 (by decide +kernel) (by decide +kernel)
theorem tk_L_apart : pTabOk mL_apart.2.1 mL_apart.2.2.2.2 = true := tbL_apart_ok
theorem im_X8_sky : Cond.instanceMethod yX8_sky ∈ pGood := pGood_in 719 (by decide +kernel) (by decide +kernel)
theorem se_X8_sky : Cond.selects RX8 yX8_sky yX8_sky ∈ pGood := pGood_in 720 (by decide +kernel) (by decide +kernel)
def mX8_sky : PM := (yX8_sky, cX8_sky, 5, (some .int), tbX8_sky)
theorem co_X8_sky : Cond.code mX8_sky.1 mX8_sky.2.1 mX8_sky.2.2.1 mX8_sky.2.2.2.1 ∈ pGood := pGood_in 721 (by decide +kernel) (by decide +kernel)
theorem tk_X8_sky : pTabOk mX8_sky.2.1 mX8_sky.2.2.2.2 = true := tbX8_sky_ok
theorem ml_L_96 : Cond.methodLink RL 96 Lib.Math.max.name ∈ pGood := pGood_in 722 (by decide +kernel) (by decide +kernel)
theorem st_Jxf58ca_floatToIntBits_5c35a : Cond.static yJxf58ca_floatToIntBits_5c35a ∈ pGood := pGood_in 724 (by decide +kernel) (by decide +kernel)
def mJxf58ca_floatToIntBits_5c35a : PM := (yJxf58ca_floatToIntBits_5c35a, cJxf58ca_floatToIntBits_5c35a, 1, (some .int), tbJxf58ca_floatToIntBits_5c35a)
theorem co_Jxf58ca_floatToIntBits_5c35a : Cond.code mJxf58ca_floatToIntBits_5c35a.1 mJxf58ca_floatToIntBits_5c35a.2.1 mJxf58ca_floatToIntBits_5c35a.2.2.1 mJxf58ca_floatToIntBits_5c35a.2.2.2.1 ∈ pGood := pGood_in 725 (by decide +kernel) (by decide +kernel)
theorem tk_Jxf58ca_floatToIntBits_5c35a : pTabOk mJxf58ca_floatToIntBits_5c35a.2.1 mJxf58ca_floatToIntBits_5c35a.2.2.2.2 = true := tbJxf58ca_floatToIntBits_5c35a_ok
theorem st_Jxf58ca_isNaN_12338 : Cond.static yJxf58ca_isNaN_12338 ∈ pGood := pGood_in 727 (by decide +kernel) (by decide +kernel)
def mJxf58ca_isNaN_12338 : PM := (yJxf58ca_isNaN_12338, cJxf58ca_isNaN_12338, 1, (some .boolean), tbJxf58ca_isNaN_12338)
theorem co_Jxf58ca_isNaN_12338 : Cond.code mJxf58ca_isNaN_12338.1 mJxf58ca_isNaN_12338.2.1 mJxf58ca_isNaN_12338.2.2.1 mJxf58ca_isNaN_12338.2.2.2.1 ∈ pGood := pGood_in 728 (by decide +kernel) (by decide +kernel)
theorem tk_Jxf58ca_isNaN_12338 : pTabOk mJxf58ca_isNaN_12338.2.1 mJxf58ca_isNaN_12338.2.2.2.2 = true := tbJxf58ca_isNaN_12338_ok
theorem ml_Jxf58ca_74 : Cond.methodLink RJxf58ca 74 ⟨"java/lang/Float", "floatToRawIntBits", "(F)I"⟩ ∈ pGood := pGood_in 729 (by decide +kernel) (by decide +kernel)
theorem kc_Jxf58ca_77 : Cond.constant RJxf58ca 77 2143289344 ∈ pGood := pGood_in 730 (by decide +kernel) (by decide +kernel)
theorem st_L_beam : Cond.static yL_beam ∈ pGood := pGood_in 732 (by decide +kernel) (by decide +kernel)
def mL_beam : PM := (yL_beam, cL_beam, 11, (some .boolean), tbL_beam)
theorem co_L_beam : Cond.code mL_beam.1 mL_beam.2.1 mL_beam.2.2.1 mL_beam.2.2.2.1 ∈ pGood := pGood_in 733 (by decide +kernel) (by decide +kernel)
theorem tk_L_beam : pTabOk mL_beam.2.1 mL_beam.2.2.2.2 = true := tbL_beam_ok
theorem im_X8_beam : Cond.instanceMethod yX8_beam ∈ pGood := pGood_in 735 (by decide +kernel) (by decide +kernel)
theorem se_X8_beam : Cond.selects RX8 yX8_beam yX8_beam ∈ pGood := pGood_in 736 (by decide +kernel) (by decide +kernel)
def mX8_beam : PM := (yX8_beam, cX8_beam, 4, (some .int), tbX8_beam)
theorem co_X8_beam : Cond.code mX8_beam.1 mX8_beam.2.1 mX8_beam.2.2.1 mX8_beam.2.2.2.1 ∈ pGood := pGood_in 737 (by decide +kernel) (by decide +kernel)
theorem tk_X8_beam : pTabOk mX8_beam.2.1 mX8_beam.2.2.2.2 = true := tbX8_beam_ok
theorem im_X8_areNotes : Cond.instanceMethod yX8_areNotes ∈ pGood := pGood_in 740 (by decide +kernel) (by decide +kernel)
def mX8_areNotes : PM := (yX8_areNotes, cX8_areNotes, 4, (some .boolean), tbX8_areNotes)
theorem co_X8_areNotes : Cond.code mX8_areNotes.1 mX8_areNotes.2.1 mX8_areNotes.2.2.1 mX8_areNotes.2.2.2.1 ∈ pGood := pGood_in 741 (by decide +kernel) (by decide +kernel)
theorem tk_X8_areNotes : pTabOk mX8_areNotes.2.1 mX8_areNotes.2.2.2.2 = true := tbX8_areNotes_ok
theorem im_X8_beamRise : Cond.instanceMethod yX8_beamRise ∈ pGood := pGood_in 744 (by decide +kernel) (by decide +kernel)
def mX8_beamRise : PM := (yX8_beamRise, cX8_beamRise, 5, (some .float), tbX8_beamRise)
theorem co_X8_beamRise : Cond.code mX8_beamRise.1 mX8_beamRise.2.1 mX8_beamRise.2.2.1 mX8_beamRise.2.2.2.1 ∈ pGood := pGood_in 745 (by decide +kernel) (by decide +kernel)
theorem tk_X8_beamRise : pTabOk mX8_beamRise.2.1 mX8_beamRise.2.2.2.2 = true := tbX8_beamRise_ok
theorem kc_X8_344 : Cond.constantFloat RX8 344 1056964608 ∈ pGood := pGood_in 746 (by decide +kernel) (by decide +kernel)
theorem im_X8_beamSlope : Cond.instanceMethod yX8_beamSlope ∈ pGood := pGood_in 749 (by decide +kernel) (by decide +kernel)
def mX8_beamSlope : PM := (yX8_beamSlope, cX8_beamSlope, 6, (some .float), tbX8_beamSlope)
theorem co_X8_beamSlope : Cond.code mX8_beamSlope.1 mX8_beamSlope.2.1 mX8_beamSlope.2.2.1 mX8_beamSlope.2.2.2.1 ∈ pGood := pGood_in 750 (by decide +kernel) (by decide +kernel)
theorem tk_X8_beamSlope : pTabOk mX8_beamSlope.2.1 mX8_beamSlope.2.2.2.2 = true := tbX8_beamSlope_ok
theorem kc_X8_345 : Cond.constantFloat RX8 345 1082130432 ∈ pGood := pGood_in 751 (by decide +kernel) (by decide +kernel)
theorem kc_X8_346 : Cond.constantFloat RX8 346 3204448256 ∈ pGood := pGood_in 752 (by decide +kernel) (by decide +kernel)
theorem im_X8_beamGoesUp : Cond.instanceMethod yX8_beamGoesUp ∈ pGood := pGood_in 755 (by decide +kernel) (by decide +kernel)
def mX8_beamGoesUp : PM := (yX8_beamGoesUp, cX8_beamGoesUp, 5, (some .boolean), tbX8_beamGoesUp)
theorem co_X8_beamGoesUp : Cond.code mX8_beamGoesUp.1 mX8_beamGoesUp.2.1 mX8_beamGoesUp.2.2.1 mX8_beamGoesUp.2.2.2.1 ∈ pGood := pGood_in 756 (by decide +kernel) (by decide +kernel)
theorem tk_X8_beamGoesUp : pTabOk mX8_beamGoesUp.2.1 mX8_beamGoesUp.2.2.2.2 = true := tbX8_beamGoesUp_ok
theorem im_X8_beamLift : Cond.instanceMethod yX8_beamLift ∈ pGood := pGood_in 759 (by decide +kernel) (by decide +kernel)
def mX8_beamLift : PM := (yX8_beamLift, cX8_beamLift, 11, (some .float), tbX8_beamLift)
theorem co_X8_beamLift : Cond.code mX8_beamLift.1 mX8_beamLift.2.1 mX8_beamLift.2.2.1 mX8_beamLift.2.2.2.1 ∈ pGood := pGood_in 760 (by decide +kernel) (by decide +kernel)
theorem tk_X8_beamLift : pTabOk mX8_beamLift.2.1 mX8_beamLift.2.2.2.2 = true := tbX8_beamLift_ok
theorem kc_X8_347 : Cond.constantFloat RX8 347 1084227584 ∈ pGood := pGood_in 761 (by decide +kernel) (by decide +kernel)
theorem kc_L_102 : Cond.constant RL 102 (-2147483003) ∈ pGood := pGood_in 762 (by decide +kernel) (by decide +kernel)
theorem kc_L_103 : Cond.constant RL 103 (-2147483005) ∈ pGood := pGood_in 763 (by decide +kernel) (by decide +kernel)
theorem kc_L_104 : Cond.constantFloat RL 104 3204448256 ∈ pGood := pGood_in 764 (by decide +kernel) (by decide +kernel)
theorem kc_L_105 : Cond.constantFloat RL 105 1056964608 ∈ pGood := pGood_in 765 (by decide +kernel) (by decide +kernel)
theorem kc_L_106 : Cond.constantFloat RL 106 1082130432 ∈ pGood := pGood_in 766 (by decide +kernel) (by decide +kernel)
theorem kc_L_107 : Cond.constantFloat RL 107 3212836864 ∈ pGood := pGood_in 767 (by decide +kernel) (by decide +kernel)
theorem kc_L_108 : Cond.constantFloat RL 108 1148846080 ∈ pGood := pGood_in 768 (by decide +kernel) (by decide +kernel)
theorem st_J9_min_e70c8 : Cond.static yJ9_min_e70c8 ∈ pGood := pGood_in 770 (by decide +kernel) (by decide +kernel)
def mJ9_min_e70c8 : PM := (yJ9_min_e70c8, cJ9_min_e70c8, 2, (some .float), tbJ9_min_e70c8)
theorem co_J9_min_e70c8 : Cond.code mJ9_min_e70c8.1 mJ9_min_e70c8.2.1 mJ9_min_e70c8.2.2.1 mJ9_min_e70c8.2.2.2.1 ∈ pGood := pGood_in 771 (by decide +kernel) (by decide +kernel)
theorem tk_J9_min_e70c8 : pTabOk mJ9_min_e70c8.2.1 mJ9_min_e70c8.2.2.2.2 = true := tbJ9_min_e70c8_ok
theorem fl_J9_170 : Cond.fieldLink RJ9 170 "java/lang/Math" "negativeZeroFloatBits" "J" ∈ pGood := pGood_in 772 (by decide +kernel) (by decide +kernel)
theorem kc_L_113 : Cond.constantFloat RL 113 1084185641 ∈ pGood := pGood_in 774 (by decide +kernel) (by decide +kernel)
theorem kc_L_114 : Cond.constantFloat RL 114 1084269527 ∈ pGood := pGood_in 775 (by decide +kernel) (by decide +kernel)
theorem st_L_slur : Cond.static yL_slur ∈ pGood := pGood_in 777 (by decide +kernel) (by decide +kernel)
def mL_slur : PM := (yL_slur, cL_slur, 13, (some .boolean), tbL_slur)
theorem co_L_slur : Cond.code mL_slur.1 mL_slur.2.1 mL_slur.2.2.1 mL_slur.2.2.2.1 ∈ pGood := pGood_in 778 (by decide +kernel) (by decide +kernel)
theorem tk_L_slur : pTabOk mL_slur.2.1 mL_slur.2.2.2.2 = true := tbL_slur_ok
theorem im_X8_slur : Cond.instanceMethod yX8_slur ∈ pGood := pGood_in 780 (by decide +kernel) (by decide +kernel)
theorem se_X8_slur : Cond.selects RX8 yX8_slur yX8_slur ∈ pGood := pGood_in 781 (by decide +kernel) (by decide +kernel)
def mX8_slur : PM := (yX8_slur, cX8_slur, 8, (some .int), tbX8_slur)
theorem co_X8_slur : Cond.code mX8_slur.1 mX8_slur.2.1 mX8_slur.2.2.1 mX8_slur.2.2.2.1 ∈ pGood := pGood_in 782 (by decide +kernel) (by decide +kernel)
theorem tk_X8_slur : pTabOk mX8_slur.2.1 mX8_slur.2.2.2.2 = true := tbX8_slur_ok
theorem im_X8_slurHeight : Cond.instanceMethod yX8_slurHeight ∈ pGood := pGood_in 785 (by decide +kernel) (by decide +kernel)
def mX8_slurHeight : PM := (yX8_slurHeight, cX8_slurHeight, 9, (some .int), tbX8_slurHeight)
theorem co_X8_slurHeight : Cond.code mX8_slurHeight.1 mX8_slurHeight.2.1 mX8_slurHeight.2.2.1 mX8_slurHeight.2.2.2.1 ∈ pGood := pGood_in 786 (by decide +kernel) (by decide +kernel)
theorem tk_X8_slurHeight : pTabOk mX8_slurHeight.2.1 mX8_slurHeight.2.2.2.2 = true := tbX8_slurHeight_ok
theorem im_X8_inkTowards : Cond.instanceMethod yX8_inkTowards ∈ pGood := pGood_in 789 (by decide +kernel) (by decide +kernel)
def mX8_inkTowards : PM := (yX8_inkTowards, cX8_inkTowards, 3, (some .int), tbX8_inkTowards)
theorem co_X8_inkTowards : Cond.code mX8_inkTowards.1 mX8_inkTowards.2.1 mX8_inkTowards.2.2.1 mX8_inkTowards.2.2.2.1 ∈ pGood := pGood_in 790 (by decide +kernel) (by decide +kernel)
theorem tk_X8_inkTowards : pTabOk mX8_inkTowards.2.1 mX8_inkTowards.2.2.2.2 = true := tbX8_inkTowards_ok
theorem ml_X8_352 : Cond.methodLink RX8 352 Lib.Math.min.name ∈ pGood := pGood_in 791 (by decide +kernel) (by decide +kernel)
theorem st_X8_isHeight : Cond.static yX8_isHeight ∈ pGood := pGood_in 793 (by decide +kernel) (by decide +kernel)
def mX8_isHeight : PM := (yX8_isHeight, cX8_isHeight, 1, (some .boolean), tbX8_isHeight)
theorem co_X8_isHeight : Cond.code mX8_isHeight.1 mX8_isHeight.2.1 mX8_isHeight.2.2.1 mX8_isHeight.2.2.2.1 ∈ pGood := pGood_in 794 (by decide +kernel) (by decide +kernel)
theorem tk_X8_isHeight : pTabOk mX8_isHeight.2.1 mX8_isHeight.2.2.2.2 = true := tbX8_isHeight_ok
theorem ml_L_121 : Cond.methodLink RL 121 Lib.Math.min.name ∈ pGood := pGood_in 795 (by decide +kernel) (by decide +kernel)
theorem st_L_moved : Cond.static yL_moved ∈ pGood := pGood_in 797 (by decide +kernel) (by decide +kernel)
def mL_moved : PM := (yL_moved, cL_moved, 15, (some .boolean), tbL_moved)
theorem co_L_moved : Cond.code mL_moved.1 mL_moved.2.1 mL_moved.2.2.1 mL_moved.2.2.2.1 ∈ pGood := pGood_in 798 (by decide +kernel) (by decide +kernel)
theorem tk_L_moved : pTabOk mL_moved.2.1 mL_moved.2.2.2.2 = true := tbL_moved_ok
theorem im_X8_moved : Cond.instanceMethod yX8_moved ∈ pGood := pGood_in 800 (by decide +kernel) (by decide +kernel)
theorem se_X8_moved : Cond.selects RX8 yX8_moved yX8_moved ∈ pGood := pGood_in 801 (by decide +kernel) (by decide +kernel)
def mX8_moved : PM := (yX8_moved, cX8_moved, 7, (some .int), tbX8_moved)
theorem co_X8_moved : Cond.code mX8_moved.1 mX8_moved.2.1 mX8_moved.2.2.1 mX8_moved.2.2.2.1 ∈ pGood := pGood_in 802 (by decide +kernel) (by decide +kernel)
theorem tk_X8_moved : pTabOk mX8_moved.2.1 mX8_moved.2.2.2.2 = true := tbX8_moved_ok
theorem im_X8_standsOtherwise : Cond.instanceMethod yX8_standsOtherwise ∈ pGood := pGood_in 805 (by decide +kernel) (by decide +kernel)
def mX8_standsOtherwise : PM := (yX8_standsOtherwise, cX8_standsOtherwise, 5, (some .boolean), tbX8_standsOtherwise)
theorem co_X8_standsOtherwise : Cond.code mX8_standsOtherwise.1 mX8_standsOtherwise.2.1 mX8_standsOtherwise.2.2.1 mX8_standsOtherwise.2.2.2.1 ∈ pGood := pGood_in 806 (by decide +kernel) (by decide +kernel)
theorem tk_X8_standsOtherwise : pTabOk mX8_standsOtherwise.2.1 mX8_standsOtherwise.2.2.2.2 = true := tbX8_standsOtherwise_ok
theorem im_J0_length_8abf5 : Cond.instanceMethod yJ0_length_8abf5 ∈ pGood := pGood_in 808 (by decide +kernel) (by decide +kernel)
theorem se_J0_length_8abf5 : Cond.selects RJ0 yJ0_length_8abf5 yJ0_length_8abf5 ∈ pGood := pGood_in 809 (by decide +kernel) (by decide +kernel)
def mJ0_length_8abf5 : PM := (yJ0_length_8abf5, cJ0_length_8abf5, 1, (some .int), tbJ0_length_8abf5)
theorem co_J0_length_8abf5 : Cond.code mJ0_length_8abf5.1 mJ0_length_8abf5.2.1 mJ0_length_8abf5.2.2.1 mJ0_length_8abf5.2.2.2.1 ∈ pGood := pGood_in 810 (by decide +kernel) (by decide +kernel)
theorem tk_J0_length_8abf5 : pTabOk mJ0_length_8abf5.2.1 mJ0_length_8abf5.2.2.2.2 = true := tbJ0_length_8abf5_ok
theorem im_J0_coder_7d493 : Cond.instanceMethod yJ0_coder_7d493 ∈ pGood := pGood_in 812 (by decide +kernel) (by decide +kernel)
theorem se_J0_coder_7d493 : Cond.selects RJ0 yJ0_coder_7d493 yJ0_coder_7d493 ∈ pGood := pGood_in 813 (by decide +kernel) (by decide +kernel)
def mJ0_coder_7d493 : PM := (yJ0_coder_7d493, cJ0_coder_7d493, 1, (some .byte), tbJ0_coder_7d493)
theorem co_J0_coder_7d493 : Cond.code mJ0_coder_7d493.1 mJ0_coder_7d493.2.1 mJ0_coder_7d493.2.2.1 mJ0_coder_7d493.2.2.2.1 ∈ pGood := pGood_in 814 (by decide +kernel) (by decide +kernel)
theorem tk_J0_coder_7d493 : pTabOk mJ0_coder_7d493.2.1 mJ0_coder_7d493.2.2.2.2 = true := tbJ0_coder_7d493_ok
theorem fl_J0_38 : Cond.fieldLink RJ0 38 "java/lang/String" "COMPACT_STRINGS" "Z" ∈ pGood := pGood_in 815 (by decide +kernel) (by decide +kernel)
theorem im_J0_charAt_5068e : Cond.instanceMethod yJ0_charAt_5068e ∈ pGood := pGood_in 818 (by decide +kernel) (by decide +kernel)
theorem se_J0_charAt_5068e : Cond.selects RJ0 yJ0_charAt_5068e yJ0_charAt_5068e ∈ pGood := pGood_in 819 (by decide +kernel) (by decide +kernel)
def mJ0_charAt_5068e : PM := (yJ0_charAt_5068e, cJ0_charAt_5068e, 2, (some .char), tbJ0_charAt_5068e)
theorem co_J0_charAt_5068e : Cond.code mJ0_charAt_5068e.1 mJ0_charAt_5068e.2.1 mJ0_charAt_5068e.2.2.1 mJ0_charAt_5068e.2.2.2.1 ∈ pGood := pGood_in 820 (by decide +kernel) (by decide +kernel)
theorem tk_J0_charAt_5068e : pTabOk mJ0_charAt_5068e.2.1 mJ0_charAt_5068e.2.2.2.2 = true := tbJ0_charAt_5068e_ok
theorem im_J0_isLatin1_aae02 : Cond.instanceMethod yJ0_isLatin1_aae02 ∈ pGood := pGood_in 822 (by decide +kernel) (by decide +kernel)
theorem se_J0_isLatin1_aae02 : Cond.selects RJ0 yJ0_isLatin1_aae02 yJ0_isLatin1_aae02 ∈ pGood := pGood_in 823 (by decide +kernel) (by decide +kernel)
def mJ0_isLatin1_aae02 : PM := (yJ0_isLatin1_aae02, cJ0_isLatin1_aae02, 1, (some .boolean), tbJ0_isLatin1_aae02)
theorem co_J0_isLatin1_aae02 : Cond.code mJ0_isLatin1_aae02.1 mJ0_isLatin1_aae02.2.1 mJ0_isLatin1_aae02.2.2.1 mJ0_isLatin1_aae02.2.2.2.1 ∈ pGood := pGood_in 824 (by decide +kernel) (by decide +kernel)
theorem tk_J0_isLatin1_aae02 : pTabOk mJ0_isLatin1_aae02.2.1 mJ0_isLatin1_aae02.2.2.2.2 = true := tbJ0_isLatin1_aae02_ok
theorem st_J1_charAt_3b067 : Cond.static yJ1_charAt_3b067 ∈ pGood := pGood_in 826 (by decide +kernel) (by decide +kernel)
def mJ1_charAt_3b067 : PM := (yJ1_charAt_3b067, cJ1_charAt_3b067, 2, (some .char), tbJ1_charAt_3b067)
theorem co_J1_charAt_3b067 : Cond.code mJ1_charAt_3b067.1 mJ1_charAt_3b067.2.1 mJ1_charAt_3b067.2.2.1 mJ1_charAt_3b067.2.2.2.1 ∈ pGood := pGood_in 827 (by decide +kernel) (by decide +kernel)
theorem tk_J1_charAt_3b067 : pTabOk mJ1_charAt_3b067.2.1 mJ1_charAt_3b067.2.2.2.2 = true := tbJ1_charAt_3b067_ok
theorem st_J0_checkIndex_df160 : Cond.static yJ0_checkIndex_df160 ∈ pGood := pGood_in 829 (by decide +kernel) (by decide +kernel)
def mJ0_checkIndex_df160 : PM := (yJ0_checkIndex_df160, cJ0_checkIndex_df160, 2, none, tbJ0_checkIndex_df160)
theorem co_J0_checkIndex_df160 : Cond.code mJ0_checkIndex_df160.1 mJ0_checkIndex_df160.2.1 mJ0_checkIndex_df160.2.2.1 mJ0_checkIndex_df160.2.2.2.1 ∈ pGood := pGood_in 830 (by decide +kernel) (by decide +kernel)
theorem tk_J0_checkIndex_df160 : pTabOk mJ0_checkIndex_df160.2.1 mJ0_checkIndex_df160.2.2.2.2 = true := tbJ0_checkIndex_df160_ok
theorem fl_J0_1053 : Cond.fieldLink RJ0 1053 "jdk/internal/util/Preconditions" "SIOOBE_FORMATTER" "Ljava/util/function/BiFunction;" ∈ pGood := pGood_in 831 (by decide +kernel) (by decide +kernel)
theorem st_J3_checkIndex_8e157 : Cond.static yJ3_checkIndex_8e157 ∈ pGood := pGood_in 834 (by decide +kernel) (by decide +kernel)
def mJ3_checkIndex_8e157 : PM := (yJ3_checkIndex_8e157, cJ3_checkIndex_8e157, 3, (some .int), tbJ3_checkIndex_8e157)
theorem co_J3_checkIndex_8e157 : Cond.code mJ3_checkIndex_8e157.1 mJ3_checkIndex_8e157.2.1 mJ3_checkIndex_8e157.2.2.1 mJ3_checkIndex_8e157.2.2.2.1 ∈ pGood := pGood_in 835 (by decide +kernel) (by decide +kernel)
theorem tk_J3_checkIndex_8e157 : pTabOk mJ3_checkIndex_8e157.2.1 mJ3_checkIndex_8e157.2.2.2.2 = true := tbJ3_checkIndex_8e157_ok
theorem st_J2_charAt_3b067 : Cond.static yJ2_charAt_3b067 ∈ pGood := pGood_in 837 (by decide +kernel) (by decide +kernel)
def mJ2_charAt_3b067 : PM := (yJ2_charAt_3b067, cJ2_charAt_3b067, 2, (some .char), tbJ2_charAt_3b067)
theorem co_J2_charAt_3b067 : Cond.code mJ2_charAt_3b067.1 mJ2_charAt_3b067.2.1 mJ2_charAt_3b067.2.2.1 mJ2_charAt_3b067.2.2.2.1 ∈ pGood := pGood_in 838 (by decide +kernel) (by decide +kernel)
theorem tk_J2_charAt_3b067 : pTabOk mJ2_charAt_3b067.2.1 mJ2_charAt_3b067.2.2.2.2 = true := tbJ2_charAt_3b067_ok
theorem st_J2_checkIndex_2214a : Cond.static yJ2_checkIndex_2214a ∈ pGood := pGood_in 840 (by decide +kernel) (by decide +kernel)
def mJ2_checkIndex_2214a : PM := (yJ2_checkIndex_2214a, cJ2_checkIndex_2214a, 2, none, tbJ2_checkIndex_2214a)
theorem co_J2_checkIndex_2214a : Cond.code mJ2_checkIndex_2214a.1 mJ2_checkIndex_2214a.2.1 mJ2_checkIndex_2214a.2.2.1 mJ2_checkIndex_2214a.2.2.2.1 ∈ pGood := pGood_in 841 (by decide +kernel) (by decide +kernel)
theorem tk_J2_checkIndex_2214a : pTabOk mJ2_checkIndex_2214a.2.1 mJ2_checkIndex_2214a.2.2.2.2 = true := tbJ2_checkIndex_2214a_ok
theorem st_J2_length_9d52b : Cond.static yJ2_length_9d52b ∈ pGood := pGood_in 843 (by decide +kernel) (by decide +kernel)
def mJ2_length_9d52b : PM := (yJ2_length_9d52b, cJ2_length_9d52b, 1, (some .int), tbJ2_length_9d52b)
theorem co_J2_length_9d52b : Cond.code mJ2_length_9d52b.1 mJ2_length_9d52b.2.1 mJ2_length_9d52b.2.2.1 mJ2_length_9d52b.2.2.2.1 ∈ pGood := pGood_in 844 (by decide +kernel) (by decide +kernel)
theorem tk_J2_length_9d52b : pTabOk mJ2_length_9d52b.2.1 mJ2_length_9d52b.2.2.2.2 = true := tbJ2_length_9d52b_ok
theorem st_J2_getChar_3b067 : Cond.static yJ2_getChar_3b067 ∈ pGood := pGood_in 847 (by decide +kernel) (by decide +kernel)
def mJ2_getChar_3b067 : PM := (yJ2_getChar_3b067, cJ2_getChar_3b067, 2, (some .char), tbJ2_getChar_3b067)
theorem co_J2_getChar_3b067 : Cond.code mJ2_getChar_3b067.1 mJ2_getChar_3b067.2.1 mJ2_getChar_3b067.2.2.1 mJ2_getChar_3b067.2.2.2.1 ∈ pGood := pGood_in 848 (by decide +kernel) (by decide +kernel)
theorem tk_J2_getChar_3b067 : pTabOk mJ2_getChar_3b067.2.1 mJ2_getChar_3b067.2.2.2.2 = true := tbJ2_getChar_3b067_ok
theorem fl_J2_44 : Cond.fieldLink RJ2 44 "java/lang/StringUTF16" "$assertionsDisabled" "Z" ∈ pGood := pGood_in 849 (by decide +kernel) (by decide +kernel)
theorem fl_J2_59 : Cond.fieldLink RJ2 59 "java/lang/StringUTF16" "HI_BYTE_SHIFT" "I" ∈ pGood := pGood_in 851 (by decide +kernel) (by decide +kernel)
theorem fl_J2_63 : Cond.fieldLink RJ2 63 "java/lang/StringUTF16" "LO_BYTE_SHIFT" "I" ∈ pGood := pGood_in 853 (by decide +kernel) (by decide +kernel)
theorem kc_L_176 : Cond.constant RL 176 (-2147483007) ∈ pGood := pGood_in 856 (by decide +kernel) (by decide +kernel)
theorem ac_byte : Cond.arrayClass .byte ∈ pGood := pGood_in 857 (by decide +kernel) (by decide +kernel)
theorem fl_J0_9 : Cond.fieldLink RJ0 9 "java/lang/String" "value" "[B" ∈ pGood := pGood_in 858 (by decide +kernel) (by decide +kernel)
theorem fl_J0_15 : Cond.fieldLink RJ0 15 "java/lang/String" "coder" "B" ∈ pGood := pGood_in 859 (by decide +kernel) (by decide +kernel)
theorem ml_L_126 : pML RL 126 mX8_init := Or.inl (pGood_in 47 (by decide +kernel) (by decide +kernel))
theorem ml_X8_9 : pML RX8 9 mX1_init := Or.inr ⟨"EngravedLines", pNest_in 55 (by decide +kernel) (by decide +kernel)⟩
theorem ml_X1_11 : pML RX1 11 mX4_init := Or.inr ⟨"EngravedLines", pNest_in 61 (by decide +kernel) (by decide +kernel)⟩
theorem ml_X8_25 : pML RX8 25 mX6_init := Or.inr ⟨"EngravedLines", pNest_in 95 (by decide +kernel) (by decide +kernel)⟩
theorem ml_X8_35 : pML RX8 35 mX5_init := Or.inr ⟨"EngravedLines", pNest_in 137 (by decide +kernel) (by decide +kernel)⟩
theorem ml_X8_45 : pML RX8 45 mX0_init := Or.inr ⟨"EngravedLines", pNest_in 153 (by decide +kernel) (by decide +kernel)⟩
theorem ml_X0_24 : pML RX0 24 mX6_init := Or.inr ⟨"EngravedLines", pNest_in 158 (by decide +kernel) (by decide +kernel)⟩
theorem ml_X8_55 : pML RX8 55 mX4_init := Or.inr ⟨"EngravedLines", pNest_in 185 (by decide +kernel) (by decide +kernel)⟩
theorem ml_X8_62 : pML RX8 62 mX7_init := Or.inr ⟨"EngravedLines", pNest_in 188 (by decide +kernel) (by decide +kernel)⟩
theorem ml_X7_21 : pML RX7 21 mX4_init := Or.inr ⟨"EngravedLines", pNest_in 193 (by decide +kernel) (by decide +kernel)⟩
theorem ml_X8_69 : pML RX8 69 mX3_init := Or.inr ⟨"EngravedLines", pNest_in 215 (by decide +kernel) (by decide +kernel)⟩
theorem ml_L_30 : pML RL 30 mX8_set := Or.inl (pGood_in 270 (by decide +kernel) (by decide +kernel))
theorem ml_X8_97 : pML RX8 97 mX8_isColumn := Or.inl (pGood_in 274 (by decide +kernel) (by decide +kernel))
theorem ml_X8_101 : pML RX8 101 mX8_isWithin := Or.inl (pGood_in 278 (by decide +kernel) (by decide +kernel))
theorem ml_X8_78 : pML RX8 78 mX8_isAllowed := Or.inl (pGood_in 281 (by decide +kernel) (by decide +kernel))
theorem ml_X8_324 : pML RX8 324 mX8_readInt := Or.inl (pGood_in 286 (by decide +kernel) (by decide +kernel))
theorem ml_X8_82 : pML RX8 82 mX8_refuse := Or.inl (pGood_in 291 (by decide +kernel) (by decide +kernel))
theorem ml_X8_328 : pML RX8 328 mX8_writeInt := Or.inl (pGood_in 295 (by decide +kernel) (by decide +kernel))
theorem ml_X8_105 : pML RX8 105 mX4_part := Or.inl (pGood_in 299 (by decide +kernel) (by decide +kernel))
theorem ml_X8_109 : pML RX8 109 mX4_change := Or.inl (pGood_in 303 (by decide +kernel) (by decide +kernel))
theorem ml_L_118 : pML RL 118 mX8_of := Or.inl (pGood_in 307 (by decide +kernel) (by decide +kernel))
theorem ml_X8_113 : pML RX8 113 mX4_top := Or.inl (pGood_in 311 (by decide +kernel) (by decide +kernel))
theorem ml_X4_23 : pML RX4 23 mX4_part := Or.inl (pGood_in 315 (by decide +kernel) (by decide +kernel))
theorem ml_X8_116 : pML RX8 116 mX4_bottom := Or.inl (pGood_in 316 (by decide +kernel) (by decide +kernel))
theorem ml_L_47 : pML RL 47 mX8_spring := Or.inl (pGood_in 320 (by decide +kernel) (by decide +kernel))
theorem ml_X8_119 : pML RX8 119 mX4_ideal := Or.inl (pGood_in 324 (by decide +kernel) (by decide +kernel))
theorem ml_X8_123 : pML RX8 123 mX8_floatBits := Or.inl (pGood_in 331 (by decide +kernel) (by decide +kernel))
theorem ml_X8_361 : pML RX8 361 mX2_encode := Or.inl (pGood_in 334 (by decide +kernel) (by decide +kernel))
theorem ml_X2_9 : pML RX2 9 mX2_fractionBits := Or.inl (pGood_in 337 (by decide +kernel) (by decide +kernel))
theorem ml_X2_17 : pML RX2 17 mX2_bias := Or.inl (pGood_in 341 (by decide +kernel) (by decide +kernel))
theorem ml_X2_20 : pML RX2 20 mX2_withSign := Or.inl (pGood_in 344 (by decide +kernel) (by decide +kernel))
theorem ml_X2_24 : pML RX2 24 mX2_signBit := Or.inl (pGood_in 347 (by decide +kernel) (by decide +kernel))
theorem ml_X8_127 : pML RX8 127 mX4_flex := Or.inl (pGood_in 352 (by decide +kernel) (by decide +kernel))
theorem ml_X8_131 : pML RX8 131 mX4_rod := Or.inl (pGood_in 357 (by decide +kernel) (by decide +kernel))
theorem ml_L_134 : pML RL 134 mX8_width := Or.inl (pGood_in 361 (by decide +kernel) (by decide +kernel))
theorem ml_L_167 : pML RL 167 mX8_feed := Or.inl (pGood_in 365 (by decide +kernel) (by decide +kernel))
theorem ml_X8_244 : pML RX8 244 mX7_append := Or.inl (pGood_in 369 (by decide +kernel) (by decide +kernel))
theorem ml_X7_32 : pML RX7 32 mX8_writeInt := Or.inr ⟨"EngravedLines", pNest_in 373 (by decide +kernel) (by decide +kernel)⟩
theorem ml_L_170 : pML RL 170 mX8_music := Or.inl (pGood_in 374 (by decide +kernel) (by decide +kernel))
theorem ml_X8_248 : pML RX8 248 mX7_readMusic := Or.inl (pGood_in 378 (by decide +kernel) (by decide +kernel))
theorem ml_X7_36 : pML RX7 36 mX7_readSign := Or.inl (pGood_in 382 (by decide +kernel) (by decide +kernel))
theorem ml_X7_40 : pML RX7 40 mX7_isNext := Or.inl (pGood_in 386 (by decide +kernel) (by decide +kernel))
theorem ml_X7_44 : pML RX7 44 mX8_readInt := Or.inr ⟨"EngravedLines", pNest_in 390 (by decide +kernel) (by decide +kernel)⟩
theorem ml_X7_48 : pML RX7 48 mX7_readNumber := Or.inl (pGood_in 391 (by decide +kernel) (by decide +kernel))
theorem ml_X7_60 : pML RX7 60 mX7_digit := Or.inl (pGood_in 395 (by decide +kernel) (by decide +kernel))
theorem ml_X7_52 : pML RX7 52 mX7_readAdorn := Or.inl (pGood_in 399 (by decide +kernel) (by decide +kernel))
theorem ml_X7_56 : pML RX7 56 mX7_keep := Or.inl (pGood_in 403 (by decide +kernel) (by decide +kernel))
theorem ml_X7_63 : pML RX7 63 mX4_lay := Or.inl (pGood_in 407 (by decide +kernel) (by decide +kernel))
theorem ml_X4_15 : pML RX4 15 mX4_change := Or.inl (pGood_in 411 (by decide +kernel) (by decide +kernel))
theorem ml_X8_207 : pML RX8 207 mX4_become := Or.inl (pGood_in 412 (by decide +kernel) (by decide +kernel))
theorem ml_X4_27 : pML RX4 27 mX8_copy := Or.inr ⟨"EngravedLines", pNest_in 416 (by decide +kernel) (by decide +kernel)⟩
theorem ml_L_147 : pML RL 147 mX8_shelf := Or.inl (pGood_in 419 (by decide +kernel) (by decide +kernel))
theorem ml_X8_257 : pML RX8 257 mX1_clearShelf := Or.inl (pGood_in 423 (by decide +kernel) (by decide +kernel))
theorem ml_X1_43 : pML RX1 43 mX8_writeInt := Or.inr ⟨"EngravedLines", pNest_in 427 (by decide +kernel) (by decide +kernel)⟩
theorem ml_X1_47 : pML RX1 47 mX1_place := Or.inl (pGood_in 428 (by decide +kernel) (by decide +kernel))
theorem ml_X1_51 : pML RX1 51 mX4_clear := Or.inl (pGood_in 431 (by decide +kernel) (by decide +kernel))
theorem ml_X4_19 : pML RX4 19 mX4_lay := Or.inl (pGood_in 435 (by decide +kernel) (by decide +kernel))
theorem ml_L_150 : pML RL 150 mX8_store := Or.inl (pGood_in 436 (by decide +kernel) (by decide +kernel))
theorem ml_X8_260 : pML RX8 260 mX1_hasPlace := Or.inl (pGood_in 440 (by decide +kernel) (by decide +kernel))
theorem ml_X1_39 : pML RX1 39 mX1_shelfKind := Or.inl (pGood_in 444 (by decide +kernel) (by decide +kernel))
theorem ml_X1_35 : pML RX1 35 mX8_readInt := Or.inr ⟨"EngravedLines", pNest_in 448 (by decide +kernel) (by decide +kernel)⟩
theorem ml_X8_263 : pML RX8 263 mX1_shelfKind := Or.inl (pGood_in 449 (by decide +kernel) (by decide +kernel))
theorem ml_X8_269 : pML RX8 269 mX1_place := Or.inl (pGood_in 450 (by decide +kernel) (by decide +kernel))
theorem ml_X8_271 : pML RX8 271 mX4_copySign := Or.inl (pGood_in 451 (by decide +kernel) (by decide +kernel))
theorem ml_L_153 : pML RL 153 mX8_fetch := Or.inl (pGood_in 455 (by decide +kernel) (by decide +kernel))
theorem ml_X8_275 : pML RX8 275 mX4_isMissing := Or.inl (pGood_in 459 (by decide +kernel) (by decide +kernel))
theorem ml_L_131 : pML RL 131 mX8_image := Or.inl (pGood_in 463 (by decide +kernel) (by decide +kernel))
theorem ml_X8_312 : pML RX8 312 mX1_become := Or.inl (pGood_in 467 (by decide +kernel) (by decide +kernel))
theorem ml_X1_63 : pML RX1 63 mX4_become := Or.inl (pGood_in 471 (by decide +kernel) (by decide +kernel))
theorem ml_X1_67 : pML RX1 67 mX8_copy := Or.inr ⟨"EngravedLines", pNest_in 472 (by decide +kernel) (by decide +kernel)⟩
theorem ml_L_173 : pML RL 173 mX8_restore := Or.inl (pGood_in 473 (by decide +kernel) (by decide +kernel))
theorem ml_L_9 : pML RL 9 mX8_count := Or.inl (pGood_in 477 (by decide +kernel) (by decide +kernel))
theorem ml_X8_315 : pML RX8 315 mX8_countNotes := Or.inl (pGood_in 481 (by decide +kernel) (by decide +kernel))
theorem ml_X8_318 : pML RX8 318 mX8_sumDurations := Or.inl (pGood_in 485 (by decide +kernel) (by decide +kernel))
theorem ml_X8_321 : pML RX8 321 mX1_countOnShelves := Or.inl (pGood_in 489 (by decide +kernel) (by decide +kernel))
theorem ml_X1_55 : pML RX1 55 mX1_hasPlace := Or.inl (pGood_in 493 (by decide +kernel) (by decide +kernel))
theorem ml_X1_59 : pML RX1 59 mX4_isMissing := Or.inl (pGood_in 494 (by decide +kernel) (by decide +kernel))
theorem ml_L_23 : pML RL 23 mL_mod := Or.inl (pGood_in 495 (by decide +kernel) (by decide +kernel))
theorem ml_L_19 : pML RL 19 mL_cell := Or.inl (pGood_in 498 (by decide +kernel) (by decide +kernel))
theorem ml_L_127 : pML RL 127 mL_columns := Or.inl (pGood_in 501 (by decide +kernel) (by decide +kernel))
theorem ml_L_15 : pML RL 15 mX8_drop := Or.inl (pGood_in 504 (by decide +kernel) (by decide +kernel))
theorem ml_L_27 : pML RL 27 mX8_add := Or.inl (pGood_in 508 (by decide +kernel) (by decide +kernel))
theorem ml_X8_93 : pML RX8 93 mX4_lay := Or.inl (pGood_in 512 (by decide +kernel) (by decide +kernel))
theorem ml_L_44 : pML RL 44 mL_f := Or.inl (pGood_in 513 (by decide +kernel) (by decide +kernel))
theorem ml_L_81 : pML RL 81 mL_stretch := Or.inl (pGood_in 519 (by decide +kernel) (by decide +kernel))
theorem ml_L_40 : pML RL 40 mX8_at := Or.inl (pGood_in 522 (by decide +kernel) (by decide +kernel))
theorem ml_X8_137 : pML RX8 137 mX8_isStretch := Or.inl (pGood_in 526 (by decide +kernel) (by decide +kernel))
theorem ml_X8_140 : pML RX8 140 mX6_settle := Or.inl (pGood_in 530 (by decide +kernel) (by decide +kernel))
theorem ml_X6_67 : pML RX6 67 mX6_take := Or.inl (pGood_in 534 (by decide +kernel) (by decide +kernel))
theorem ml_X6_45 : pML RX6 45 mX4_ideal := Or.inl (pGood_in 538 (by decide +kernel) (by decide +kernel))
theorem ml_X6_51 : pML RX6 51 mX8_writeFloat := Or.inr ⟨"EngravedLines", pNest_in 539 (by decide +kernel) (by decide +kernel)⟩
theorem ml_X6_55 : pML RX6 55 mX4_flex := Or.inl (pGood_in 542 (by decide +kernel) (by decide +kernel))
theorem ml_X6_59 : pML RX6 59 mX4_rod := Or.inl (pGood_in 543 (by decide +kernel) (by decide +kernel))
theorem ml_X6_71 : pML RX6 71 mX8_writeFlag := Or.inr ⟨"EngravedLines", pNest_in 544 (by decide +kernel) (by decide +kernel)⟩
theorem ml_X6_75 : pML RX6 75 mX6_balance := Or.inl (pGood_in 547 (by decide +kernel) (by decide +kernel))
theorem ml_X6_83 : pML RX6 83 mX8_readFlag := Or.inr ⟨"EngravedLines", pNest_in 551 (by decide +kernel) (by decide +kernel)⟩
theorem ml_X6_87 : pML RX6 87 mX8_readFloat := Or.inr ⟨"EngravedLines", pNest_in 554 (by decide +kernel) (by decide +kernel)⟩
theorem ml_X6_79 : pML RX6 79 mX6_holdMore := Or.inl (pGood_in 557 (by decide +kernel) (by decide +kernel))
theorem ml_X6_91 : pML RX6 91 mX6_stretched := Or.inl (pGood_in 561 (by decide +kernel) (by decide +kernel))
theorem ml_X8_152 : pML RX8 152 mX6_length := Or.inl (pGood_in 565 (by decide +kernel) (by decide +kernel))
theorem ml_X8_155 : pML RX8 155 mX6_place := Or.inl (pGood_in 569 (by decide +kernel) (by decide +kernel))
theorem ml_X8_158 : pML RX8 158 mX6_cell := Or.inl (pGood_in 573 (by decide +kernel) (by decide +kernel))
theorem ml_X6_94 : pML RX6 94 mX6_place := Or.inl (pGood_in 577 (by decide +kernel) (by decide +kernel))
theorem ml_L_50 : pML RL 50 mL_rodOf := Or.inl (pGood_in 578 (by decide +kernel) (by decide +kernel))
theorem ml_L_55 : pML RL 55 mX8_held := Or.inl (pGood_in 582 (by decide +kernel) (by decide +kernel))
theorem ml_X8_148 : pML RX8 148 mX6_heldCount := Or.inl (pGood_in 586 (by decide +kernel) (by decide +kernel))
theorem ml_L_58 : pML RL 58 mJ9_abs_f6c48 := Or.inl (pGood_in 590 (by decide +kernel) (by decide +kernel))
theorem ml_L_65 : pML RL 65 mX8_force := Or.inl (pGood_in 599 (by decide +kernel) (by decide +kernel))
theorem ml_L_137 : pML RL 137 mL_lines := Or.inl (pGood_in 603 (by decide +kernel) (by decide +kernel))
theorem ml_L_68 : pML RL 68 mX8_lines := Or.inl (pGood_in 606 (by decide +kernel) (by decide +kernel))
theorem ml_X8_189 : pML RX8 189 mX8_findBest := Or.inl (pGood_in 610 (by decide +kernel) (by decide +kernel))
theorem ml_X8_211 : pML RX8 211 mX0_find := Or.inl (pGood_in 614 (by decide +kernel) (by decide +kernel))
theorem ml_X0_41 : pML RX0 41 mX8_writeInt := Or.inr ⟨"EngravedLines", pNest_in 618 (by decide +kernel) (by decide +kernel)⟩
theorem ml_X0_45 : pML RX0 45 mX8_writeFloat := Or.inr ⟨"EngravedLines", pNest_in 619 (by decide +kernel) (by decide +kernel)⟩
theorem ml_X0_49 : pML RX0 49 mX4_part := Or.inl (pGood_in 620 (by decide +kernel) (by decide +kernel))
theorem ml_X0_55 : pML RX0 55 mX0_reach := Or.inl (pGood_in 621 (by decide +kernel) (by decide +kernel))
theorem ml_X0_59 : pML RX0 59 mX8_readInt := Or.inr ⟨"EngravedLines", pNest_in 625 (by decide +kernel) (by decide +kernel)⟩
theorem ml_X0_71 : pML RX0 71 mX6_take := Or.inl (pGood_in 626 (by decide +kernel) (by decide +kernel))
theorem ml_X0_75 : pML RX0 75 mX6_fits := Or.inl (pGood_in 627 (by decide +kernel) (by decide +kernel))
theorem ml_X6_62 : pML RX6 62 mX6_sum := Or.inl (pGood_in 631 (by decide +kernel) (by decide +kernel))
theorem ml_X0_63 : pML RX0 63 mX8_readFloat := Or.inr ⟨"EngravedLines", pNest_in 635 (by decide +kernel) (by decide +kernel)⟩
theorem ml_X0_79 : pML RX0 79 mX6_badness := Or.inl (pGood_in 636 (by decide +kernel) (by decide +kernel))
theorem ml_X0_67 : pML RX0 67 mX0_traceBack := Or.inl (pGood_in 641 (by decide +kernel) (by decide +kernel))
theorem ml_L_72 : pML RL 72 mX8_total := Or.inl (pGood_in 646 (by decide +kernel) (by decide +kernel))
theorem ml_L_75 : pML RL 75 mX8_bad := Or.inl (pGood_in 650 (by decide +kernel) (by decide +kernel))
theorem ml_X8_161 : pML RX8 161 mX6_take := Or.inl (pGood_in 654 (by decide +kernel) (by decide +kernel))
theorem ml_X8_164 : pML RX8 164 mX6_fits := Or.inl (pGood_in 655 (by decide +kernel) (by decide +kernel))
theorem ml_X8_168 : pML RX8 168 mX6_badness := Or.inl (pGood_in 656 (by decide +kernel) (by decide +kernel))
theorem ml_L_78 : pML RL 78 mX8_line := Or.inl (pGood_in 657 (by decide +kernel) (by decide +kernel))
theorem ml_X8_198 : pML RX8 198 mX0_first := Or.inl (pGood_in 661 (by decide +kernel) (by decide +kernel))
theorem ml_X8_201 : pML RX8 201 mX0_last := Or.inl (pGood_in 665 (by decide +kernel) (by decide +kernel))
theorem ml_X8_185 : pML RX8 185 mX8_distance := Or.inl (pGood_in 669 (by decide +kernel) (by decide +kernel))
theorem ml_X8_172 : pML RX8 172 mX8_traceLine := Or.inl (pGood_in 673 (by decide +kernel) (by decide +kernel))
theorem ml_X8_335 : pML RX8 335 mX5_trace := Or.inl (pGood_in 677 (by decide +kernel) (by decide +kernel))
theorem ml_X5_22 : pML RX5 22 mX8_writeFlag := Or.inr ⟨"EngravedLines", pNest_in 681 (by decide +kernel) (by decide +kernel)⟩
theorem ml_X5_35 : pML RX5 35 mX6_cell := Or.inl (pGood_in 682 (by decide +kernel) (by decide +kernel))
theorem ml_X5_39 : pML RX5 39 mX4_part := Or.inl (pGood_in 683 (by decide +kernel) (by decide +kernel))
theorem ml_X5_50 : pML RX5 50 mX4_top := Or.inl (pGood_in 687 (by decide +kernel) (by decide +kernel))
theorem ml_X5_53 : pML RX5 53 mX4_bottom := Or.inl (pGood_in 688 (by decide +kernel) (by decide +kernel))
theorem ml_X5_56 : pML RX5 56 mX5_ink := Or.inl (pGood_in 689 (by decide +kernel) (by decide +kernel))
theorem ml_X5_68 : pML RX5 68 mX5_hasInk := Or.inl (pGood_in 693 (by decide +kernel) (by decide +kernel))
theorem ml_X5_60 : pML RX5 60 mX8_readFlag := Or.inr ⟨"EngravedLines", pNest_in 697 (by decide +kernel) (by decide +kernel)⟩
theorem ml_X5_72 : pML RX5 72 mX5_upper := Or.inl (pGood_in 698 (by decide +kernel) (by decide +kernel))
theorem ml_X5_64 : pML RX5 64 mX8_readInt := Or.inr ⟨"EngravedLines", pNest_in 702 (by decide +kernel) (by decide +kernel)⟩
theorem ml_X5_78 : pML RX5 78 mX8_writeInt := Or.inr ⟨"EngravedLines", pNest_in 706 (by decide +kernel) (by decide +kernel)⟩
theorem ml_X5_82 : pML RX5 82 mX5_lower := Or.inl (pGood_in 707 (by decide +kernel) (by decide +kernel))
theorem ml_X8_176 : pML RX8 176 mX5_hasInk := Or.inl (pGood_in 711 (by decide +kernel) (by decide +kernel))
theorem ml_X8_179 : pML RX8 179 mX5_upper := Or.inl (pGood_in 712 (by decide +kernel) (by decide +kernel))
theorem ml_X8_182 : pML RX8 182 mX5_lower := Or.inl (pGood_in 713 (by decide +kernel) (by decide +kernel))
theorem ml_L_85 : pML RL 85 mL_apart := Or.inl (pGood_in 715 (by decide +kernel) (by decide +kernel))
theorem ml_L_93 : pML RL 93 mX8_sky := Or.inl (pGood_in 718 (by decide +kernel) (by decide +kernel))
theorem ml_L_89 : pML RL 89 mJxf58ca_floatToIntBits_5c35a := Or.inl (pGood_in 723 (by decide +kernel) (by decide +kernel))
theorem ml_Jxf58ca_59 : pML RJxf58ca 59 mJxf58ca_isNaN_12338 := Or.inl (pGood_in 726 (by decide +kernel) (by decide +kernel))
theorem ml_L_140 : pML RL 140 mL_beam := Or.inl (pGood_in 731 (by decide +kernel) (by decide +kernel))
theorem ml_L_99 : pML RL 99 mX8_beam := Or.inl (pGood_in 734 (by decide +kernel) (by decide +kernel))
theorem ml_X8_218 : pML RX8 218 mX8_areNotes := Or.inl (pGood_in 738 (by decide +kernel) (by decide +kernel))
theorem ml_X8_221 : pML RX8 221 mX8_beamRise := Or.inl (pGood_in 742 (by decide +kernel) (by decide +kernel))
theorem ml_X8_225 : pML RX8 225 mX8_beamSlope := Or.inl (pGood_in 747 (by decide +kernel) (by decide +kernel))
theorem ml_X8_228 : pML RX8 228 mX8_beamGoesUp := Or.inl (pGood_in 753 (by decide +kernel) (by decide +kernel))
theorem ml_X8_231 : pML RX8 231 mX8_beamLift := Or.inl (pGood_in 757 (by decide +kernel) (by decide +kernel))
theorem ml_L_109 : pML RL 109 mJ9_min_e70c8 := Or.inl (pGood_in 769 (by decide +kernel) (by decide +kernel))
theorem ml_L_142 : pML RL 142 mL_slur := Or.inl (pGood_in 776 (by decide +kernel) (by decide +kernel))
theorem ml_L_115 : pML RL 115 mX8_slur := Or.inl (pGood_in 779 (by decide +kernel) (by decide +kernel))
theorem ml_X8_234 : pML RX8 234 mX8_slurHeight := Or.inl (pGood_in 783 (by decide +kernel) (by decide +kernel))
theorem ml_X8_348 : pML RX8 348 mX8_inkTowards := Or.inl (pGood_in 787 (by decide +kernel) (by decide +kernel))
theorem ml_X8_238 : pML RX8 238 mX8_isHeight := Or.inl (pGood_in 792 (by decide +kernel) (by decide +kernel))
theorem ml_L_145 : pML RL 145 mL_moved := Or.inl (pGood_in 796 (by decide +kernel) (by decide +kernel))
theorem ml_L_123 : pML RL 123 mX8_moved := Or.inl (pGood_in 799 (by decide +kernel) (by decide +kernel))
theorem ml_X8_215 : pML RX8 215 mX8_standsOtherwise := Or.inl (pGood_in 803 (by decide +kernel) (by decide +kernel))
theorem ml_L_158 : pML RL 158 mJ0_length_8abf5 := Or.inl (pGood_in 807 (by decide +kernel) (by decide +kernel))
theorem ml_J0_335 : pML RJ0 335 mJ0_coder_7d493 := Or.inl (pGood_in 811 (by decide +kernel) (by decide +kernel))
theorem ml_L_163 : pML RL 163 mJ0_charAt_5068e := Or.inl (pGood_in 817 (by decide +kernel) (by decide +kernel))
theorem ml_J0_492 : pML RJ0 492 mJ0_isLatin1_aae02 := Or.inl (pGood_in 821 (by decide +kernel) (by decide +kernel))
theorem ml_J0_495 : pML RJ0 495 mJ1_charAt_3b067 := Or.inl (pGood_in 825 (by decide +kernel) (by decide +kernel))
theorem ml_J1_9 : pML RJ1 9 mJ0_checkIndex_df160 := Or.inl (pGood_in 828 (by decide +kernel) (by decide +kernel))
theorem ml_J0_1059 : pML RJ0 1059 mJ3_checkIndex_8e157 := Or.inl (pGood_in 833 (by decide +kernel) (by decide +kernel))
theorem ml_J0_498 : pML RJ0 498 mJ2_charAt_3b067 := Or.inl (pGood_in 836 (by decide +kernel) (by decide +kernel))
theorem ml_J2_67 : pML RJ2 67 mJ2_checkIndex_2214a := Or.inl (pGood_in 839 (by decide +kernel) (by decide +kernel))
theorem ml_J2_48 : pML RJ2 48 mJ2_length_9d52b := Or.inl (pGood_in 842 (by decide +kernel) (by decide +kernel))
theorem ml_J2_414 : pML RJ2 414 mJ0_checkIndex_df160 := Or.inl (pGood_in 845 (by decide +kernel) (by decide +kernel))
theorem ml_J2_71 : pML RJ2 71 mJ2_getChar_3b067 := Or.inl (pGood_in 846 (by decide +kernel) (by decide +kernel))
theorem ce_X8_init : pCallee mX8_init 0 := ⟨⟨by decide, by decide, by decide +kernel⟩, co_X8_init, in_X8, by decide⟩
theorem ce_X1_init : pCallee mX1_init 0 := ⟨⟨by decide, by decide, by decide +kernel⟩, co_X1_init, in_X1, by decide⟩
theorem ce_X4_init : pCallee mX4_init 0 := ⟨⟨by decide, by decide, by decide +kernel⟩, co_X4_init, in_X4, by decide⟩
theorem ce_X6_init : pCallee mX6_init 0 := ⟨⟨by decide, by decide, by decide +kernel⟩, co_X6_init, in_X6, by decide⟩
theorem ce_X5_init : pCallee mX5_init 0 := ⟨⟨by decide, by decide, by decide +kernel⟩, co_X5_init, in_X5, by decide⟩
theorem ce_X0_init : pCallee mX0_init 0 := ⟨⟨by decide, by decide, by decide +kernel⟩, co_X0_init, in_X0, by decide⟩
theorem ce_X7_init : pCallee mX7_init 0 := ⟨⟨by decide, by decide, by decide +kernel⟩, co_X7_init, in_X7, by decide⟩
theorem ce_X3_init : pCallee mX3_init 0 := ⟨⟨by decide, by decide, by decide +kernel⟩, co_X3_init, in_X3, by decide⟩
theorem ce_X8_set : pCallee mX8_set 3 := ⟨⟨by decide, by decide, by decide +kernel⟩, co_X8_set, in_X8, by decide⟩
theorem ce_X8_isColumn : pCallee mX8_isColumn 1 := ⟨⟨by decide, by decide, by decide +kernel⟩, co_X8_isColumn, in_X8, by decide⟩
theorem ce_X8_isWithin : pCallee mX8_isWithin 3 := ⟨⟨by decide, by decide, by decide +kernel⟩, co_X8_isWithin, in_X8, by decide⟩
theorem ce_X8_isAllowed : pCallee mX8_isAllowed 2 := ⟨⟨by decide, by decide, by decide +kernel⟩, co_X8_isAllowed, in_X8, by decide⟩
theorem ce_X8_readInt : pCallee mX8_readInt 2 := ⟨⟨by decide, by decide, by decide +kernel⟩, co_X8_readInt, in_X8, by decide⟩
theorem ce_X8_refuse : pCallee mX8_refuse 1 := ⟨⟨by decide, by decide, by decide +kernel⟩, co_X8_refuse, in_X8, by decide⟩
theorem ce_X8_writeInt : pCallee mX8_writeInt 3 := ⟨⟨by decide, by decide, by decide +kernel⟩, co_X8_writeInt, in_X8, by decide⟩
theorem ce_X4_part : pCallee mX4_part 2 := ⟨⟨by decide, by decide, by decide +kernel⟩, co_X4_part, in_X4, by decide⟩
theorem ce_X4_change : pCallee mX4_change 3 := ⟨⟨by decide, by decide, by decide +kernel⟩, co_X4_change, in_X4, by decide⟩
theorem ce_X8_of : pCallee mX8_of 2 := ⟨⟨by decide, by decide, by decide +kernel⟩, co_X8_of, in_X8, by decide⟩
theorem ce_X4_top : pCallee mX4_top 1 := ⟨⟨by decide, by decide, by decide +kernel⟩, co_X4_top, in_X4, by decide⟩
theorem ce_X4_bottom : pCallee mX4_bottom 1 := ⟨⟨by decide, by decide, by decide +kernel⟩, co_X4_bottom, in_X4, by decide⟩
theorem ce_X8_spring : pCallee mX8_spring 2 := ⟨⟨by decide, by decide, by decide +kernel⟩, co_X8_spring, in_X8, by decide⟩
theorem ce_X4_ideal : pCallee mX4_ideal 1 := ⟨⟨by decide, by decide, by decide +kernel⟩, co_X4_ideal, in_X4, by decide⟩
theorem ce_X8_floatBits : pCallee mX8_floatBits 1 := ⟨⟨by decide, by decide, by decide +kernel⟩, co_X8_floatBits, in_X8, by decide⟩
theorem ce_X2_encode : pCallee mX2_encode 2 := ⟨⟨by decide, by decide, by decide +kernel⟩, co_X2_encode, in_X2, by decide⟩
theorem ce_X2_fractionBits : pCallee mX2_fractionBits 1 := ⟨⟨by decide, by decide, by decide +kernel⟩, co_X2_fractionBits, in_X2, by decide⟩
theorem ce_X2_bias : pCallee mX2_bias 1 := ⟨⟨by decide, by decide, by decide +kernel⟩, co_X2_bias, in_X2, by decide⟩
theorem ce_X2_withSign : pCallee mX2_withSign 3 := ⟨⟨by decide, by decide, by decide +kernel⟩, co_X2_withSign, in_X2, by decide⟩
theorem ce_X2_signBit : pCallee mX2_signBit 1 := ⟨⟨by decide, by decide, by decide +kernel⟩, co_X2_signBit, in_X2, by decide⟩
theorem ce_X4_flex : pCallee mX4_flex 2 := ⟨⟨by decide, by decide, by decide +kernel⟩, co_X4_flex, in_X4, by decide⟩
theorem ce_X4_rod : pCallee mX4_rod 1 := ⟨⟨by decide, by decide, by decide +kernel⟩, co_X4_rod, in_X4, by decide⟩
theorem ce_X8_width : pCallee mX8_width 1 := ⟨⟨by decide, by decide, by decide +kernel⟩, co_X8_width, in_X8, by decide⟩
theorem ce_X8_feed : pCallee mX8_feed 1 := ⟨⟨by decide, by decide, by decide +kernel⟩, co_X8_feed, in_X8, by decide⟩
theorem ce_X7_append : pCallee mX7_append 1 := ⟨⟨by decide, by decide, by decide +kernel⟩, co_X7_append, in_X7, by decide⟩
theorem ce_X8_music : pCallee mX8_music 0 := ⟨⟨by decide, by decide, by decide +kernel⟩, co_X8_music, in_X8, by decide⟩
theorem ce_X7_readMusic : pCallee mX7_readMusic 0 := ⟨⟨by decide, by decide, by decide +kernel⟩, co_X7_readMusic, in_X7, by decide⟩
theorem ce_X7_readSign : pCallee mX7_readSign 0 := ⟨⟨by decide, by decide, by decide +kernel⟩, co_X7_readSign, in_X7, by decide⟩
theorem ce_X7_isNext : pCallee mX7_isNext 1 := ⟨⟨by decide, by decide, by decide +kernel⟩, co_X7_isNext, in_X7, by decide⟩
theorem ce_X7_readNumber : pCallee mX7_readNumber 2 := ⟨⟨by decide, by decide, by decide +kernel⟩, co_X7_readNumber, in_X7, by decide⟩
theorem ce_X7_digit : pCallee mX7_digit 0 := ⟨⟨by decide, by decide, by decide +kernel⟩, co_X7_digit, in_X7, by decide⟩
theorem ce_X7_readAdorn : pCallee mX7_readAdorn 0 := ⟨⟨by decide, by decide, by decide +kernel⟩, co_X7_readAdorn, in_X7, by decide⟩
theorem ce_X7_keep : pCallee mX7_keep 4 := ⟨⟨by decide, by decide, by decide +kernel⟩, co_X7_keep, in_X7, by decide⟩
theorem ce_X4_lay : pCallee mX4_lay 6 := ⟨⟨by decide, by decide, by decide +kernel⟩, co_X4_lay, in_X4, by decide⟩
theorem ce_X4_become : pCallee mX4_become 1 := ⟨⟨by decide, by decide, by decide +kernel⟩, co_X4_become, in_X4, by decide⟩
theorem ce_X8_copy : pCallee mX8_copy 2 := ⟨⟨by decide, by decide, by decide +kernel⟩, co_X8_copy, in_X8, by decide⟩
theorem ce_X8_shelf : pCallee mX8_shelf 3 := ⟨⟨by decide, by decide, by decide +kernel⟩, co_X8_shelf, in_X8, by decide⟩
theorem ce_X1_clearShelf : pCallee mX1_clearShelf 3 := ⟨⟨by decide, by decide, by decide +kernel⟩, co_X1_clearShelf, in_X1, by decide⟩
theorem ce_X1_place : pCallee mX1_place 2 := ⟨⟨by decide, by decide, by decide +kernel⟩, co_X1_place, in_X1, by decide⟩
theorem ce_X4_clear : pCallee mX4_clear 1 := ⟨⟨by decide, by decide, by decide +kernel⟩, co_X4_clear, in_X4, by decide⟩
theorem ce_X8_store : pCallee mX8_store 3 := ⟨⟨by decide, by decide, by decide +kernel⟩, co_X8_store, in_X8, by decide⟩
theorem ce_X1_hasPlace : pCallee mX1_hasPlace 2 := ⟨⟨by decide, by decide, by decide +kernel⟩, co_X1_hasPlace, in_X1, by decide⟩
theorem ce_X1_shelfKind : pCallee mX1_shelfKind 1 := ⟨⟨by decide, by decide, by decide +kernel⟩, co_X1_shelfKind, in_X1, by decide⟩
theorem ce_X4_copySign : pCallee mX4_copySign 3 := ⟨⟨by decide, by decide, by decide +kernel⟩, co_X4_copySign, in_X4, by decide⟩
theorem ce_X8_fetch : pCallee mX8_fetch 3 := ⟨⟨by decide, by decide, by decide +kernel⟩, co_X8_fetch, in_X8, by decide⟩
theorem ce_X4_isMissing : pCallee mX4_isMissing 1 := ⟨⟨by decide, by decide, by decide +kernel⟩, co_X4_isMissing, in_X4, by decide⟩
theorem ce_X8_image : pCallee mX8_image 0 := ⟨⟨by decide, by decide, by decide +kernel⟩, co_X8_image, in_X8, by decide⟩
theorem ce_X1_become : pCallee mX1_become 1 := ⟨⟨by decide, by decide, by decide +kernel⟩, co_X1_become, in_X1, by decide⟩
theorem ce_X8_restore : pCallee mX8_restore 0 := ⟨⟨by decide, by decide, by decide +kernel⟩, co_X8_restore, in_X8, by decide⟩
theorem ce_X8_count : pCallee mX8_count 1 := ⟨⟨by decide, by decide, by decide +kernel⟩, co_X8_count, in_X8, by decide⟩
theorem ce_X8_countNotes : pCallee mX8_countNotes 0 := ⟨⟨by decide, by decide, by decide +kernel⟩, co_X8_countNotes, in_X8, by decide⟩
theorem ce_X8_sumDurations : pCallee mX8_sumDurations 0 := ⟨⟨by decide, by decide, by decide +kernel⟩, co_X8_sumDurations, in_X8, by decide⟩
theorem ce_X1_countOnShelves : pCallee mX1_countOnShelves 0 := ⟨⟨by decide, by decide, by decide +kernel⟩, co_X1_countOnShelves, in_X1, by decide⟩
theorem ce_L_mod : pCallee mL_mod 2 := ⟨⟨by decide, by decide, by decide +kernel⟩, co_L_mod, in_L, by decide⟩
theorem ce_L_cell : pCallee mL_cell 2 := ⟨⟨by decide, by decide, by decide +kernel⟩, co_L_cell, in_L, by decide⟩
theorem ce_L_columns : pCallee mL_columns 6 := ⟨⟨by decide, by decide, by decide +kernel⟩, co_L_columns, in_L, by decide⟩
theorem ce_X8_drop : pCallee mX8_drop 0 := ⟨⟨by decide, by decide, by decide +kernel⟩, co_X8_drop, in_X8, by decide⟩
theorem ce_X8_add : pCallee mX8_add 2 := ⟨⟨by decide, by decide, by decide +kernel⟩, co_X8_add, in_X8, by decide⟩
theorem ce_L_f : pCallee mL_f 1 := ⟨⟨by decide, by decide, by decide +kernel⟩, co_L_f, in_L, by decide⟩
theorem ce_L_stretch : pCallee mL_stretch 4 := ⟨⟨by decide, by decide, by decide +kernel⟩, co_L_stretch, in_L, by decide⟩
theorem ce_X8_at : pCallee mX8_at 4 := ⟨⟨by decide, by decide, by decide +kernel⟩, co_X8_at, in_X8, by decide⟩
theorem ce_X8_isStretch : pCallee mX8_isStretch 2 := ⟨⟨by decide, by decide, by decide +kernel⟩, co_X8_isStretch, in_X8, by decide⟩
theorem ce_X6_settle : pCallee mX6_settle 4 := ⟨⟨by decide, by decide, by decide +kernel⟩, co_X6_settle, in_X6, by decide⟩
theorem ce_X6_take : pCallee mX6_take 4 := ⟨⟨by decide, by decide, by decide +kernel⟩, co_X6_take, in_X6, by decide⟩
theorem ce_X8_writeFloat : pCallee mX8_writeFloat 3 := ⟨⟨by decide, by decide, by decide +kernel⟩, co_X8_writeFloat, in_X8, by decide⟩
theorem ce_X8_writeFlag : pCallee mX8_writeFlag 3 := ⟨⟨by decide, by decide, by decide +kernel⟩, co_X8_writeFlag, in_X8, by decide⟩
theorem ce_X6_balance : pCallee mX6_balance 0 := ⟨⟨by decide, by decide, by decide +kernel⟩, co_X6_balance, in_X6, by decide⟩
theorem ce_X8_readFlag : pCallee mX8_readFlag 2 := ⟨⟨by decide, by decide, by decide +kernel⟩, co_X8_readFlag, in_X8, by decide⟩
theorem ce_X8_readFloat : pCallee mX8_readFloat 2 := ⟨⟨by decide, by decide, by decide +kernel⟩, co_X8_readFloat, in_X8, by decide⟩
theorem ce_X6_holdMore : pCallee mX6_holdMore 0 := ⟨⟨by decide, by decide, by decide +kernel⟩, co_X6_holdMore, in_X6, by decide⟩
theorem ce_X6_stretched : pCallee mX6_stretched 1 := ⟨⟨by decide, by decide, by decide +kernel⟩, co_X6_stretched, in_X6, by decide⟩
theorem ce_X6_length : pCallee mX6_length 1 := ⟨⟨by decide, by decide, by decide +kernel⟩, co_X6_length, in_X6, by decide⟩
theorem ce_X6_place : pCallee mX6_place 1 := ⟨⟨by decide, by decide, by decide +kernel⟩, co_X6_place, in_X6, by decide⟩
theorem ce_X6_cell : pCallee mX6_cell 1 := ⟨⟨by decide, by decide, by decide +kernel⟩, co_X6_cell, in_X6, by decide⟩
theorem ce_L_rodOf : pCallee mL_rodOf 2 := ⟨⟨by decide, by decide, by decide +kernel⟩, co_L_rodOf, in_L, by decide⟩
theorem ce_X8_held : pCallee mX8_held 2 := ⟨⟨by decide, by decide, by decide +kernel⟩, co_X8_held, in_X8, by decide⟩
theorem ce_X6_heldCount : pCallee mX6_heldCount 0 := ⟨⟨by decide, by decide, by decide +kernel⟩, co_X6_heldCount, in_X6, by decide⟩
theorem ce_J9_abs_f6c48 : pCallee mJ9_abs_f6c48 1 := ⟨⟨by decide, by decide, by decide +kernel⟩, co_J9_abs_f6c48, in_J9, by decide⟩
theorem ce_X8_force : pCallee mX8_force 2 := ⟨⟨by decide, by decide, by decide +kernel⟩, co_X8_force, in_X8, by decide⟩
theorem ce_L_lines : pCallee mL_lines 3 := ⟨⟨by decide, by decide, by decide +kernel⟩, co_L_lines, in_L, by decide⟩
theorem ce_X8_lines : pCallee mX8_lines 0 := ⟨⟨by decide, by decide, by decide +kernel⟩, co_X8_lines, in_X8, by decide⟩
theorem ce_X8_findBest : pCallee mX8_findBest 0 := ⟨⟨by decide, by decide, by decide +kernel⟩, co_X8_findBest, in_X8, by decide⟩
theorem ce_X0_find : pCallee mX0_find 3 := ⟨⟨by decide, by decide, by decide +kernel⟩, co_X0_find, in_X0, by decide⟩
theorem ce_X0_reach : pCallee mX0_reach 3 := ⟨⟨by decide, by decide, by decide +kernel⟩, co_X0_reach, in_X0, by decide⟩
theorem ce_X6_fits : pCallee mX6_fits 0 := ⟨⟨by decide, by decide, by decide +kernel⟩, co_X6_fits, in_X6, by decide⟩
theorem ce_X6_sum : pCallee mX6_sum 1 := ⟨⟨by decide, by decide, by decide +kernel⟩, co_X6_sum, in_X6, by decide⟩
theorem ce_X6_badness : pCallee mX6_badness 0 := ⟨⟨by decide, by decide, by decide +kernel⟩, co_X6_badness, in_X6, by decide⟩
theorem ce_X0_traceBack : pCallee mX0_traceBack 1 := ⟨⟨by decide, by decide, by decide +kernel⟩, co_X0_traceBack, in_X0, by decide⟩
theorem ce_X8_total : pCallee mX8_total 0 := ⟨⟨by decide, by decide, by decide +kernel⟩, co_X8_total, in_X8, by decide⟩
theorem ce_X8_bad : pCallee mX8_bad 2 := ⟨⟨by decide, by decide, by decide +kernel⟩, co_X8_bad, in_X8, by decide⟩
theorem ce_X8_line : pCallee mX8_line 2 := ⟨⟨by decide, by decide, by decide +kernel⟩, co_X8_line, in_X8, by decide⟩
theorem ce_X0_first : pCallee mX0_first 1 := ⟨⟨by decide, by decide, by decide +kernel⟩, co_X0_first, in_X0, by decide⟩
theorem ce_X0_last : pCallee mX0_last 1 := ⟨⟨by decide, by decide, by decide +kernel⟩, co_X0_last, in_X0, by decide⟩
theorem ce_X8_distance : pCallee mX8_distance 4 := ⟨⟨by decide, by decide, by decide +kernel⟩, co_X8_distance, in_X8, by decide⟩
theorem ce_X8_traceLine : pCallee mX8_traceLine 3 := ⟨⟨by decide, by decide, by decide +kernel⟩, co_X8_traceLine, in_X8, by decide⟩
theorem ce_X5_trace : pCallee mX5_trace 2 := ⟨⟨by decide, by decide, by decide +kernel⟩, co_X5_trace, in_X5, by decide⟩
theorem ce_X5_ink : pCallee mX5_ink 4 := ⟨⟨by decide, by decide, by decide +kernel⟩, co_X5_ink, in_X5, by decide⟩
theorem ce_X5_hasInk : pCallee mX5_hasInk 1 := ⟨⟨by decide, by decide, by decide +kernel⟩, co_X5_hasInk, in_X5, by decide⟩
theorem ce_X5_upper : pCallee mX5_upper 1 := ⟨⟨by decide, by decide, by decide +kernel⟩, co_X5_upper, in_X5, by decide⟩
theorem ce_X5_lower : pCallee mX5_lower 1 := ⟨⟨by decide, by decide, by decide +kernel⟩, co_X5_lower, in_X5, by decide⟩
theorem ce_L_apart : pCallee mL_apart 6 := ⟨⟨by decide, by decide, by decide +kernel⟩, co_L_apart, in_L, by decide⟩
theorem ce_X8_sky : pCallee mX8_sky 4 := ⟨⟨by decide, by decide, by decide +kernel⟩, co_X8_sky, in_X8, by decide⟩
theorem ce_Jxf58ca_floatToIntBits_5c35a : pCallee mJxf58ca_floatToIntBits_5c35a 1 := ⟨⟨by decide, by decide, by decide +kernel⟩, co_Jxf58ca_floatToIntBits_5c35a, in_Jxf58ca, by decide⟩
theorem ce_Jxf58ca_isNaN_12338 : pCallee mJxf58ca_isNaN_12338 1 := ⟨⟨by decide, by decide, by decide +kernel⟩, co_Jxf58ca_isNaN_12338, in_Jxf58ca, by decide⟩
theorem ce_L_beam : pCallee mL_beam 4 := ⟨⟨by decide, by decide, by decide +kernel⟩, co_L_beam, in_L, by decide⟩
theorem ce_X8_beam : pCallee mX8_beam 3 := ⟨⟨by decide, by decide, by decide +kernel⟩, co_X8_beam, in_X8, by decide⟩
theorem ce_X8_areNotes : pCallee mX8_areNotes 2 := ⟨⟨by decide, by decide, by decide +kernel⟩, co_X8_areNotes, in_X8, by decide⟩
theorem ce_X8_beamRise : pCallee mX8_beamRise 2 := ⟨⟨by decide, by decide, by decide +kernel⟩, co_X8_beamRise, in_X8, by decide⟩
theorem ce_X8_beamSlope : pCallee mX8_beamSlope 2 := ⟨⟨by decide, by decide, by decide +kernel⟩, co_X8_beamSlope, in_X8, by decide⟩
theorem ce_X8_beamGoesUp : pCallee mX8_beamGoesUp 2 := ⟨⟨by decide, by decide, by decide +kernel⟩, co_X8_beamGoesUp, in_X8, by decide⟩
theorem ce_X8_beamLift : pCallee mX8_beamLift 2 := ⟨⟨by decide, by decide, by decide +kernel⟩, co_X8_beamLift, in_X8, by decide⟩
theorem ce_J9_min_e70c8 : pCallee mJ9_min_e70c8 2 := ⟨⟨by decide, by decide, by decide +kernel⟩, co_J9_min_e70c8, in_J9, by decide⟩
theorem ce_L_slur : pCallee mL_slur 3 := ⟨⟨by decide, by decide, by decide +kernel⟩, co_L_slur, in_L, by decide⟩
theorem ce_X8_slur : pCallee mX8_slur 3 := ⟨⟨by decide, by decide, by decide +kernel⟩, co_X8_slur, in_X8, by decide⟩
theorem ce_X8_slurHeight : pCallee mX8_slurHeight 3 := ⟨⟨by decide, by decide, by decide +kernel⟩, co_X8_slurHeight, in_X8, by decide⟩
theorem ce_X8_inkTowards : pCallee mX8_inkTowards 2 := ⟨⟨by decide, by decide, by decide +kernel⟩, co_X8_inkTowards, in_X8, by decide⟩
theorem ce_X8_isHeight : pCallee mX8_isHeight 1 := ⟨⟨by decide, by decide, by decide +kernel⟩, co_X8_isHeight, in_X8, by decide⟩
theorem ce_L_moved : pCallee mL_moved 3 := ⟨⟨by decide, by decide, by decide +kernel⟩, co_L_moved, in_L, by decide⟩
theorem ce_X8_moved : pCallee mX8_moved 3 := ⟨⟨by decide, by decide, by decide +kernel⟩, co_X8_moved, in_X8, by decide⟩
theorem ce_X8_standsOtherwise : pCallee mX8_standsOtherwise 1 := ⟨⟨by decide, by decide, by decide +kernel⟩, co_X8_standsOtherwise, in_X8, by decide⟩
theorem ce_J0_length_8abf5 : pCallee mJ0_length_8abf5 0 := ⟨⟨by decide, by decide, by decide +kernel⟩, co_J0_length_8abf5, in_J0, by decide⟩
theorem ce_J0_coder_7d493 : pCallee mJ0_coder_7d493 0 := ⟨⟨by decide, by decide, by decide +kernel⟩, co_J0_coder_7d493, in_J0, by decide⟩
theorem ce_J0_charAt_5068e : pCallee mJ0_charAt_5068e 1 := ⟨⟨by decide, by decide, by decide +kernel⟩, co_J0_charAt_5068e, in_J0, by decide⟩
theorem ce_J0_isLatin1_aae02 : pCallee mJ0_isLatin1_aae02 0 := ⟨⟨by decide, by decide, by decide +kernel⟩, co_J0_isLatin1_aae02, in_J0, by decide⟩
theorem ce_J1_charAt_3b067 : pCallee mJ1_charAt_3b067 2 := ⟨⟨by decide, by decide, by decide +kernel⟩, co_J1_charAt_3b067, in_J1, by decide⟩
theorem ce_J0_checkIndex_df160 : pCallee mJ0_checkIndex_df160 2 := ⟨⟨by decide, by decide, by decide +kernel⟩, co_J0_checkIndex_df160, in_J0, by decide⟩
theorem ce_J3_checkIndex_8e157 : pCallee mJ3_checkIndex_8e157 3 := ⟨⟨by decide, by decide, by decide +kernel⟩, co_J3_checkIndex_8e157, in_J3, by decide⟩
theorem ce_J2_charAt_3b067 : pCallee mJ2_charAt_3b067 2 := ⟨⟨by decide, by decide, by decide +kernel⟩, co_J2_charAt_3b067, in_J2, by decide⟩
theorem ce_J2_checkIndex_2214a : pCallee mJ2_checkIndex_2214a 2 := ⟨⟨by decide, by decide, by decide +kernel⟩, co_J2_checkIndex_2214a, in_J2, by decide⟩
theorem ce_J2_length_9d52b : pCallee mJ2_length_9d52b 1 := ⟨⟨by decide, by decide, by decide +kernel⟩, co_J2_length_9d52b, in_J2, by decide⟩
theorem ce_J2_getChar_3b067 : pCallee mJ2_getChar_3b067 2 := ⟨⟨by decide, by decide, by decide +kernel⟩, co_J2_getChar_3b067, in_J2, by decide⟩
