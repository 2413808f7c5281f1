/-! the law's further cases: written by wip/whole/gen/c78.py -/
def tbLc_17 : pTab := [(765, .aload_n 1, 1), (766, .aload_n 0, 1), (767, .iload_n 3, 1), (768, .iconst 1, 1), (769, .iadd, 1), (770, .iaload, 1), (771, .aload_n 0, 1), (772, .iload_n 3, 1), (773, .iconst 2, 1), (774, .iadd, 1), (775, .iaload, 1), (776, .aload_n 0, 1), (777, .iload_n 3, 1), (778, .iconst 3, 1), (779, .iadd, 1), (780, .iaload, 1), (781, .invokevirtual 86, 3), (784, .aload_n 2, 1), (785, .aload_n 0, 1), (786, .iload_n 3, 1), (787, .iconst 1, 1), (788, .iadd, 1), (789, .iaload, 1), (790, .aload_n 0, 1), (791, .iload_n 3, 1), (792, .iconst 2, 1), (793, .iadd, 1), (794, .iaload, 1), (795, .aload_n 0, 1), (796, .iload_n 3, 1), (797, .iconst 3, 1), (798, .iadd, 1), (799, .iaload, 1), (800, .invokevirtual 89, 3), (803, .if_icmp .eq 554, 3), (806, .iconst 0, 1), (807, .ireturn, 1)]
theorem tbLc_17_ok : pTabOk cL_law tbLc_17 = true := by decide +kernel
set_option maxRecDepth 100000 in
theorem lc_17 {X : Nat × (Nat → Int32)} {sh : List PSh} {S : PSt} {i : Nat} (he : isEl sh) (hm : isMo sh) (h : rel S S) (hi : i + 6 ≤ X.1) (hx : X.1 < 2 ^ 31) (k : ∀ T, rel T T → pY tbLt X sh 1357 (lL i) [] T) : pY tbLc_17 X sh 765 (lL i) [] S := by
  obtain ⟨N, z, h⟩ := h
  refine l_aload (pc := 765) (j := 1) rfl rfl ?_
  refine la_arg (pc := 766) (k := 1) rfl rfl rfl rfl rfl (by decide) (by omega) hx ?_
  refine la_arg (pc := 771) (k := 2) rfl rfl rfl rfl rfl (by decide) (by omega) hx ?_
  refine la_arg (pc := 776) (k := 3) rfl rfl rfl rfl rfl (by decide) (by omega) hx ?_
  obtain ⟨P1, g1, h2⟩ := tw_slur he hm h (a := (X.2 (i + 1))) (b := (X.2 (i + 2))) (what := (X.2 (i + 3)))
  refine l_call (pc := 781) (as := [.int (X.2 (i + 1)), .int (X.2 (i + 2)), .int (X.2 (i + 3))]) (rest := []) (b := 0) rfl ce_X8_slur ml_L_86 im_X8_slur se_X8_slur he.1 rfl rfl rfl (by decide) (Nat.le_of_ble_eq_true rfl) g1 (fun r T hr => ?_)
  obtain ⟨v, rfl, P2, g2, h3⟩ := h2 r T hr
  refine l_st [.int v] rfl ?_
  refine l_aload (pc := 784) (j := 2) rfl rfl ?_
  refine la_arg (pc := 785) (k := 1) rfl rfl rfl rfl rfl (by decide) (by omega) hx ?_
  refine la_arg (pc := 790) (k := 2) rfl rfl rfl rfl rfl (by decide) (by omega) hx ?_
  refine la_arg (pc := 795) (k := 3) rfl rfl rfl rfl rfl (by decide) (by omega) hx ?_
  refine l_call (pc := 800) (as := [.int (X.2 (i + 1)), .int (X.2 (i + 2)), .int (X.2 (i + 3))]) (rest := [.int v]) (b := 70) rfl ce_X9_slur ml_L_89 im_X9_slur se_X9_slur hm.1 rfl rfl rfl (by decide) (Nat.le_of_ble_eq_true rfl) g2 (fun r2 T2 hr2 => ?_)
  obtain ⟨rfl, h4⟩ := h3 r2 T2 hr2
  refine l_st [.int v, .int v] rfl ?_
  refine l_eq (pc := 803) 1357 rfl (by decide) ?_
  exact pr_tab tbLt_ok (k T2 h4)
def tbLc_18 : pTab := [(808, .aload_n 1, 1), (809, .aload_n 0, 1), (810, .iload_n 3, 1), (811, .iconst 1, 1), (812, .iadd, 1), (813, .iaload, 1), (814, .invokevirtual 90, 3), (817, .aload_n 2, 1), (818, .aload_n 0, 1), (819, .iload_n 3, 1), (820, .iconst 1, 1), (821, .iadd, 1), (822, .iaload, 1), (823, .invokevirtual 93, 3), (826, .if_icmp .eq 531, 3), (829, .iconst 0, 1), (830, .ireturn, 1)]
theorem tbLc_18_ok : pTabOk cL_law tbLc_18 = true := by decide +kernel
set_option maxRecDepth 100000 in
theorem lc_18 {X : Nat × (Nat → Int32)} {sh : List PSh} {S : PSt} {i : Nat} (he : isEl sh) (hm : isMo sh) (h : rel S S) (hi : i + 6 ≤ X.1) (hx : X.1 < 2 ^ 31) (k : ∀ T, rel T T → pY tbLt X sh 1357 (lL i) [] T) : pY tbLc_18 X sh 808 (lL i) [] S := by
  obtain ⟨N, z, h⟩ := h
  refine l_aload (pc := 808) (j := 1) rfl rfl ?_
  refine la_arg (pc := 809) (k := 1) rfl rfl rfl rfl rfl (by decide) (by omega) hx ?_
  obtain ⟨P1, g1, h2⟩ := tw_feed he hm h (b := (X.2 (i + 1)))
  refine l_call (pc := 814) (as := [.int (X.2 (i + 1))]) (rest := []) (b := 0) rfl ce_X8_feed ml_L_90 im_X8_feed se_X8_feed he.1 rfl rfl rfl (by decide) (Nat.le_of_ble_eq_true rfl) g1 (fun r T hr => ?_)
  obtain ⟨v, rfl, P2, g2, h3⟩ := h2 r T hr
  refine l_st [.int v] rfl ?_
  refine l_aload (pc := 817) (j := 2) rfl rfl ?_
  refine la_arg (pc := 818) (k := 1) rfl rfl rfl rfl rfl (by decide) (by omega) hx ?_
  refine l_call (pc := 823) (as := [.int (X.2 (i + 1))]) (rest := [.int v]) (b := 70) rfl ce_X9_feed ml_L_93 im_X9_feed se_X9_feed hm.1 rfl rfl rfl (by decide) (Nat.le_of_ble_eq_true rfl) g2 (fun r2 T2 hr2 => ?_)
  obtain ⟨rfl, h4⟩ := h3 r2 T2 hr2
  refine l_st [.int v, .int v] rfl ?_
  refine l_eq (pc := 826) 1357 rfl (by decide) ?_
  exact pr_tab tbLt_ok (k T2 h4)
def tbLc_19 : pTab := [(831, .aload_n 1, 1), (832, .invokevirtual 94, 3), (835, .aload_n 2, 1), (836, .invokevirtual 97, 3), (839, .if_icmp .eq 518, 3), (842, .iconst 0, 1), (843, .ireturn, 1)]
theorem tbLc_19_ok : pTabOk cL_law tbLc_19 = true := by decide +kernel
set_option maxRecDepth 100000 in
theorem lc_19 {X : Nat × (Nat → Int32)} {sh : List PSh} {S : PSt} {i : Nat} (he : isEl sh) (hm : isMo sh) (h : rel S S) (hi : i + 6 ≤ X.1) (hx : X.1 < 2 ^ 31) (k : ∀ T, rel T T → pY tbLt X sh 1357 (lL i) [] T) : pY tbLc_19 X sh 831 (lL i) [] S := by
  obtain ⟨N, z, h⟩ := h
  refine l_aload (pc := 831) (j := 1) rfl rfl ?_
  obtain ⟨P1, g1, h2⟩ := tw_music he hm h
  refine l_call (pc := 832) (as := []) (rest := []) (b := 0) rfl ce_X8_music ml_L_94 im_X8_music se_X8_music he.1 rfl rfl rfl (by decide) (Nat.le_of_ble_eq_true rfl) g1 (fun r T hr => ?_)
  obtain ⟨v, rfl, P2, g2, h3⟩ := h2 r T hr
  refine l_st [.int v] rfl ?_
  refine l_aload (pc := 835) (j := 2) rfl rfl ?_
  refine l_call (pc := 836) (as := []) (rest := [.int v]) (b := 70) rfl ce_X9_music ml_L_97 im_X9_music se_X9_music hm.1 rfl rfl rfl (by decide) (Nat.le_of_ble_eq_true rfl) g2 (fun r2 T2 hr2 => ?_)
  obtain ⟨rfl, h4⟩ := h3 r2 T2 hr2
  refine l_st [.int v, .int v] rfl ?_
  refine l_eq (pc := 839) 1357 rfl (by decide) ?_
  exact pr_tab tbLt_ok (k T2 h4)
def tbLc_20 : pTab := [(844, .aload_n 1, 1), (845, .aload_n 0, 1), (846, .iload_n 3, 1), (847, .iconst 1, 1), (848, .iadd, 1), (849, .iaload, 1), (850, .aload_n 0, 1), (851, .iload_n 3, 1), (852, .iconst 2, 1), (853, .iadd, 1), (854, .iaload, 1), (855, .aload_n 0, 1), (856, .iload_n 3, 1), (857, .iconst 3, 1), (858, .iadd, 1), (859, .iaload, 1), (860, .invokevirtual 98, 3), (863, .aload_n 2, 1), (864, .aload_n 0, 1), (865, .iload_n 3, 1), (866, .iconst 1, 1), (867, .iadd, 1), (868, .iaload, 1), (869, .aload_n 0, 1), (870, .iload_n 3, 1), (871, .iconst 2, 1), (872, .iadd, 1), (873, .iaload, 1), (874, .aload_n 0, 1), (875, .iload_n 3, 1), (876, .iconst 3, 1), (877, .iadd, 1), (878, .iaload, 1), (879, .invokevirtual 101, 3), (882, .if_icmp .eq 475, 3), (885, .iconst 0, 1), (886, .ireturn, 1)]
theorem tbLc_20_ok : pTabOk cL_law tbLc_20 = true := by decide +kernel
set_option maxRecDepth 100000 in
theorem lc_20 {X : Nat × (Nat → Int32)} {sh : List PSh} {S : PSt} {i : Nat} (he : isEl sh) (hm : isMo sh) (h : rel S S) (hi : i + 6 ≤ X.1) (hx : X.1 < 2 ^ 31) (k : ∀ T, rel T T → pY tbLt X sh 1357 (lL i) [] T) : pY tbLc_20 X sh 844 (lL i) [] S := by
  obtain ⟨N, z, h⟩ := h
  refine l_aload (pc := 844) (j := 1) rfl rfl ?_
  refine la_arg (pc := 845) (k := 1) rfl rfl rfl rfl rfl (by decide) (by omega) hx ?_
  refine la_arg (pc := 850) (k := 2) rfl rfl rfl rfl rfl (by decide) (by omega) hx ?_
  refine la_arg (pc := 855) (k := 3) rfl rfl rfl rfl rfl (by decide) (by omega) hx ?_
  obtain ⟨P1, g1, h2⟩ := tw_shelf he hm h (s := (X.2 (i + 1))) (kind := (X.2 (i + 2))) (n := (X.2 (i + 3)))
  refine l_call (pc := 860) (as := [.int (X.2 (i + 1)), .int (X.2 (i + 2)), .int (X.2 (i + 3))]) (rest := []) (b := 0) rfl ce_X8_shelf ml_L_98 im_X8_shelf se_X8_shelf he.1 rfl rfl rfl (by decide) (Nat.le_of_ble_eq_true rfl) g1 (fun r T hr => ?_)
  obtain ⟨v, rfl, P2, g2, h3⟩ := h2 r T hr
  refine l_st [.int v] rfl ?_
  refine l_aload (pc := 863) (j := 2) rfl rfl ?_
  refine la_arg (pc := 864) (k := 1) rfl rfl rfl rfl rfl (by decide) (by omega) hx ?_
  refine la_arg (pc := 869) (k := 2) rfl rfl rfl rfl rfl (by decide) (by omega) hx ?_
  refine la_arg (pc := 874) (k := 3) rfl rfl rfl rfl rfl (by decide) (by omega) hx ?_
  refine l_call (pc := 879) (as := [.int (X.2 (i + 1)), .int (X.2 (i + 2)), .int (X.2 (i + 3))]) (rest := [.int v]) (b := 70) rfl ce_X9_shelf ml_L_101 im_X9_shelf se_X9_shelf hm.1 rfl rfl rfl (by decide) (Nat.le_of_ble_eq_true rfl) g2 (fun r2 T2 hr2 => ?_)
  obtain ⟨rfl, h4⟩ := h3 r2 T2 hr2
  refine l_st [.int v, .int v] rfl ?_
  refine l_eq (pc := 882) 1357 rfl (by decide) ?_
  exact pr_tab tbLt_ok (k T2 h4)
def tbLc_21 : pTab := [(887, .aload_n 1, 1), (888, .aload_n 0, 1), (889, .iload_n 3, 1), (890, .iconst 1, 1), (891, .iadd, 1), (892, .iaload, 1), (893, .aload_n 0, 1), (894, .iload_n 3, 1), (895, .iconst 2, 1), (896, .iadd, 1), (897, .iaload, 1), (898, .aload_n 0, 1), (899, .iload_n 3, 1), (900, .iconst 3, 1), (901, .iadd, 1), (902, .iaload, 1), (903, .invokevirtual 102, 3), (906, .aload_n 2, 1), (907, .aload_n 0, 1), (908, .iload_n 3, 1), (909, .iconst 1, 1), (910, .iadd, 1), (911, .iaload, 1), (912, .aload_n 0, 1), (913, .iload_n 3, 1), (914, .iconst 2, 1), (915, .iadd, 1), (916, .iaload, 1), (917, .aload_n 0, 1), (918, .iload_n 3, 1), (919, .iconst 3, 1), (920, .iadd, 1), (921, .iaload, 1), (922, .invokevirtual 105, 3), (925, .if_icmp .eq 432, 3), (928, .iconst 0, 1), (929, .ireturn, 1)]
theorem tbLc_21_ok : pTabOk cL_law tbLc_21 = true := by decide +kernel
set_option maxRecDepth 100000 in
theorem lc_21 {X : Nat × (Nat → Int32)} {sh : List PSh} {S : PSt} {i : Nat} (he : isEl sh) (hm : isMo sh) (h : rel S S) (hi : i + 6 ≤ X.1) (hx : X.1 < 2 ^ 31) (k : ∀ T, rel T T → pY tbLt X sh 1357 (lL i) [] T) : pY tbLc_21 X sh 887 (lL i) [] S := by
  obtain ⟨N, z, h⟩ := h
  refine l_aload (pc := 887) (j := 1) rfl rfl ?_
  refine la_arg (pc := 888) (k := 1) rfl rfl rfl rfl rfl (by decide) (by omega) hx ?_
  refine la_arg (pc := 893) (k := 2) rfl rfl rfl rfl rfl (by decide) (by omega) hx ?_
  refine la_arg (pc := 898) (k := 3) rfl rfl rfl rfl rfl (by decide) (by omega) hx ?_
  obtain ⟨P1, g1, h2⟩ := tw_store he hm h (s := (X.2 (i + 1))) (i := (X.2 (i + 2))) (c := (X.2 (i + 3)))
  refine l_call (pc := 903) (as := [.int (X.2 (i + 1)), .int (X.2 (i + 2)), .int (X.2 (i + 3))]) (rest := []) (b := 0) rfl ce_X8_store ml_L_102 im_X8_store se_X8_store he.1 rfl rfl rfl (by decide) (Nat.le_of_ble_eq_true rfl) g1 (fun r T hr => ?_)
  obtain ⟨v, rfl, P2, g2, h3⟩ := h2 r T hr
  refine l_st [.int v] rfl ?_
  refine l_aload (pc := 906) (j := 2) rfl rfl ?_
  refine la_arg (pc := 907) (k := 1) rfl rfl rfl rfl rfl (by decide) (by omega) hx ?_
  refine la_arg (pc := 912) (k := 2) rfl rfl rfl rfl rfl (by decide) (by omega) hx ?_
  refine la_arg (pc := 917) (k := 3) rfl rfl rfl rfl rfl (by decide) (by omega) hx ?_
  refine l_call (pc := 922) (as := [.int (X.2 (i + 1)), .int (X.2 (i + 2)), .int (X.2 (i + 3))]) (rest := [.int v]) (b := 70) rfl ce_X9_store ml_L_105 im_X9_store se_X9_store hm.1 rfl rfl rfl (by decide) (Nat.le_of_ble_eq_true rfl) g2 (fun r2 T2 hr2 => ?_)
  obtain ⟨rfl, h4⟩ := h3 r2 T2 hr2
  refine l_st [.int v, .int v] rfl ?_
  refine l_eq (pc := 925) 1357 rfl (by decide) ?_
  exact pr_tab tbLt_ok (k T2 h4)
def tbLc_22 : pTab := [(930, .aload_n 1, 1), (931, .aload_n 0, 1), (932, .iload_n 3, 1), (933, .iconst 1, 1), (934, .iadd, 1), (935, .iaload, 1), (936, .aload_n 0, 1), (937, .iload_n 3, 1), (938, .iconst 2, 1), (939, .iadd, 1), (940, .iaload, 1), (941, .aload_n 0, 1), (942, .iload_n 3, 1), (943, .iconst 3, 1), (944, .iadd, 1), (945, .iaload, 1), (946, .invokevirtual 106, 3), (949, .aload_n 2, 1), (950, .aload_n 0, 1), (951, .iload_n 3, 1), (952, .iconst 1, 1), (953, .iadd, 1), (954, .iaload, 1), (955, .aload_n 0, 1), (956, .iload_n 3, 1), (957, .iconst 2, 1), (958, .iadd, 1), (959, .iaload, 1), (960, .aload_n 0, 1), (961, .iload_n 3, 1), (962, .iconst 3, 1), (963, .iadd, 1), (964, .iaload, 1), (965, .invokevirtual 109, 3), (968, .if_icmp .eq 389, 3), (971, .iconst 0, 1), (972, .ireturn, 1)]
theorem tbLc_22_ok : pTabOk cL_law tbLc_22 = true := by decide +kernel
set_option maxRecDepth 100000 in
theorem lc_22 {X : Nat × (Nat → Int32)} {sh : List PSh} {S : PSt} {i : Nat} (he : isEl sh) (hm : isMo sh) (h : rel S S) (hi : i + 6 ≤ X.1) (hx : X.1 < 2 ^ 31) (k : ∀ T, rel T T → pY tbLt X sh 1357 (lL i) [] T) : pY tbLc_22 X sh 930 (lL i) [] S := by
  obtain ⟨N, z, h⟩ := h
  refine l_aload (pc := 930) (j := 1) rfl rfl ?_
  refine la_arg (pc := 931) (k := 1) rfl rfl rfl rfl rfl (by decide) (by omega) hx ?_
  refine la_arg (pc := 936) (k := 2) rfl rfl rfl rfl rfl (by decide) (by omega) hx ?_
  refine la_arg (pc := 941) (k := 3) rfl rfl rfl rfl rfl (by decide) (by omega) hx ?_
  obtain ⟨P1, g1, h2⟩ := tw_fetch he hm h (s := (X.2 (i + 1))) (i := (X.2 (i + 2))) (what := (X.2 (i + 3)))
  refine l_call (pc := 946) (as := [.int (X.2 (i + 1)), .int (X.2 (i + 2)), .int (X.2 (i + 3))]) (rest := []) (b := 0) rfl ce_X8_fetch ml_L_106 im_X8_fetch se_X8_fetch he.1 rfl rfl rfl (by decide) (Nat.le_of_ble_eq_true rfl) g1 (fun r T hr => ?_)
  obtain ⟨v, rfl, P2, g2, h3⟩ := h2 r T hr
  refine l_st [.int v] rfl ?_
  refine l_aload (pc := 949) (j := 2) rfl rfl ?_
  refine la_arg (pc := 950) (k := 1) rfl rfl rfl rfl rfl (by decide) (by omega) hx ?_
  refine la_arg (pc := 955) (k := 2) rfl rfl rfl rfl rfl (by decide) (by omega) hx ?_
  refine la_arg (pc := 960) (k := 3) rfl rfl rfl rfl rfl (by decide) (by omega) hx ?_
  refine l_call (pc := 965) (as := [.int (X.2 (i + 1)), .int (X.2 (i + 2)), .int (X.2 (i + 3))]) (rest := [.int v]) (b := 70) rfl ce_X9_fetch ml_L_109 im_X9_fetch se_X9_fetch hm.1 rfl rfl rfl (by decide) (Nat.le_of_ble_eq_true rfl) g2 (fun r2 T2 hr2 => ?_)
  obtain ⟨rfl, h4⟩ := h3 r2 T2 hr2
  refine l_st [.int v, .int v] rfl ?_
  refine l_eq (pc := 968) 1357 rfl (by decide) ?_
  exact pr_tab tbLt_ok (k T2 h4)
def tbLc_23 : pTab := [(973, .aload_n 1, 1), (974, .aload_n 0, 1), (975, .iload_n 3, 1), (976, .iconst 1, 1), (977, .iadd, 1), (978, .iaload, 1), (979, .aload_n 0, 1), (980, .iload_n 3, 1), (981, .iconst 2, 1), (982, .iadd, 1), (983, .iaload, 1), (984, .invokevirtual 110, 3), (987, .aload_n 2, 1), (988, .aload_n 0, 1), (989, .iload_n 3, 1), (990, .iconst 1, 1), (991, .iadd, 1), (992, .iaload, 1), (993, .aload_n 0, 1), (994, .iload_n 3, 1), (995, .iconst 2, 1), (996, .iadd, 1), (997, .iaload, 1), (998, .invokevirtual 113, 3), (1001, .if_icmp .eq 356, 3), (1004, .iconst 0, 1), (1005, .ireturn, 1)]
theorem tbLc_23_ok : pTabOk cL_law tbLc_23 = true := by decide +kernel
set_option maxRecDepth 100000 in
theorem lc_23 {X : Nat × (Nat → Int32)} {sh : List PSh} {S : PSt} {i : Nat} (he : isEl sh) (hm : isMo sh) (h : rel S S) (hi : i + 6 ≤ X.1) (hx : X.1 < 2 ^ 31) (k : ∀ T, rel T T → pY tbLt X sh 1357 (lL i) [] T) : pY tbLc_23 X sh 973 (lL i) [] S := by
  obtain ⟨N, z, h⟩ := h
  refine l_aload (pc := 973) (j := 1) rfl rfl ?_
  refine la_arg (pc := 974) (k := 1) rfl rfl rfl rfl rfl (by decide) (by omega) hx ?_
  refine la_arg (pc := 979) (k := 2) rfl rfl rfl rfl rfl (by decide) (by omega) hx ?_
  obtain ⟨P1, g1, h2⟩ := tw_comes he hm h (s := (X.2 (i + 1))) (i := (X.2 (i + 2)))
  refine l_call (pc := 984) (as := [.int (X.2 (i + 1)), .int (X.2 (i + 2))]) (rest := []) (b := 0) rfl ce_X8_comes ml_L_110 im_X8_comes se_X8_comes he.1 rfl rfl rfl (by decide) (Nat.le_of_ble_eq_true rfl) g1 (fun r T hr => ?_)
  obtain ⟨v, rfl, P2, g2, h3⟩ := h2 r T hr
  refine l_st [.int v] rfl ?_
  refine l_aload (pc := 987) (j := 2) rfl rfl ?_
  refine la_arg (pc := 988) (k := 1) rfl rfl rfl rfl rfl (by decide) (by omega) hx ?_
  refine la_arg (pc := 993) (k := 2) rfl rfl rfl rfl rfl (by decide) (by omega) hx ?_
  refine l_call (pc := 998) (as := [.int (X.2 (i + 1)), .int (X.2 (i + 2))]) (rest := [.int v]) (b := 70) rfl ce_X9_comes_ ml_L_113 im_X9_comes_ se_X9_comes_ hm.1 rfl rfl rfl (by decide) (Nat.le_of_ble_eq_true rfl) g2 (fun r2 T2 hr2 => ?_)
  obtain ⟨rfl, h4⟩ := h3 r2 T2 hr2
  refine l_st [.int v, .int v] rfl ?_
  refine l_eq (pc := 1001) 1357 rfl (by decide) ?_
  exact pr_tab tbLt_ok (k T2 h4)
def tbLc_24 : pTab := [(1006, .aload_n 1, 1), (1007, .aload_n 0, 1), (1008, .iload_n 3, 1), (1009, .iconst 1, 1), (1010, .iadd, 1), (1011, .iaload, 1), (1012, .aload_n 0, 1), (1013, .iload_n 3, 1), (1014, .iconst 2, 1), (1015, .iadd, 1), (1016, .iaload, 1), (1017, .aload_n 0, 1), (1018, .iload_n 3, 1), (1019, .iconst 3, 1), (1020, .iadd, 1), (1021, .iaload, 1), (1022, .invokevirtual 114, 3), (1025, .aload_n 2, 1), (1026, .aload_n 0, 1), (1027, .iload_n 3, 1), (1028, .iconst 1, 1), (1029, .iadd, 1), (1030, .iaload, 1), (1031, .aload_n 0, 1), (1032, .iload_n 3, 1), (1033, .iconst 2, 1), (1034, .iadd, 1), (1035, .iaload, 1), (1036, .aload_n 0, 1), (1037, .iload_n 3, 1), (1038, .iconst 3, 1), (1039, .iadd, 1), (1040, .iaload, 1), (1041, .invokevirtual 117, 3), (1044, .if_icmp .eq 313, 3), (1047, .iconst 0, 1), (1048, .ireturn, 1)]
theorem tbLc_24_ok : pTabOk cL_law tbLc_24 = true := by decide +kernel
set_option maxRecDepth 100000 in
theorem lc_24 {X : Nat × (Nat → Int32)} {sh : List PSh} {S : PSt} {i : Nat} (he : isEl sh) (hm : isMo sh) (h : rel S S) (hi : i + 6 ≤ X.1) (hx : X.1 < 2 ^ 31) (k : ∀ T, rel T T → pY tbLt X sh 1357 (lL i) [] T) : pY tbLc_24 X sh 1006 (lL i) [] S := by
  obtain ⟨N, z, h⟩ := h
  refine l_aload (pc := 1006) (j := 1) rfl rfl ?_
  refine la_arg (pc := 1007) (k := 1) rfl rfl rfl rfl rfl (by decide) (by omega) hx ?_
  refine la_arg (pc := 1012) (k := 2) rfl rfl rfl rfl rfl (by decide) (by omega) hx ?_
  refine la_arg (pc := 1017) (k := 3) rfl rfl rfl rfl rfl (by decide) (by omega) hx ?_
  obtain ⟨P1, g1, h2⟩ := tw_sheet he hm h (s := (X.2 (i + 1))) (q := (X.2 (i + 2))) (n := (X.2 (i + 3)))
  refine l_call (pc := 1022) (as := [.int (X.2 (i + 1)), .int (X.2 (i + 2)), .int (X.2 (i + 3))]) (rest := []) (b := 0) rfl ce_X8_sheet ml_L_114 im_X8_sheet se_X8_sheet he.1 rfl rfl rfl (by decide) (Nat.le_of_ble_eq_true rfl) g1 (fun r T hr => ?_)
  obtain ⟨v, rfl, P2, g2, h3⟩ := h2 r T hr
  refine l_st [.int v] rfl ?_
  refine l_aload (pc := 1025) (j := 2) rfl rfl ?_
  refine la_arg (pc := 1026) (k := 1) rfl rfl rfl rfl rfl (by decide) (by omega) hx ?_
  refine la_arg (pc := 1031) (k := 2) rfl rfl rfl rfl rfl (by decide) (by omega) hx ?_
  refine la_arg (pc := 1036) (k := 3) rfl rfl rfl rfl rfl (by decide) (by omega) hx ?_
  refine l_call (pc := 1041) (as := [.int (X.2 (i + 1)), .int (X.2 (i + 2)), .int (X.2 (i + 3))]) (rest := [.int v]) (b := 70) rfl ce_X9_sheet ml_L_117 im_X9_sheet se_X9_sheet hm.1 rfl rfl rfl (by decide) (Nat.le_of_ble_eq_true rfl) g2 (fun r2 T2 hr2 => ?_)
  obtain ⟨rfl, h4⟩ := h3 r2 T2 hr2
  refine l_st [.int v, .int v] rfl ?_
  refine l_eq (pc := 1044) 1357 rfl (by decide) ?_
  exact pr_tab tbLt_ok (k T2 h4)
def tbLc_25 : pTab := [(1049, .aload_n 1, 1), (1050, .aload_n 0, 1), (1051, .iload_n 3, 1), (1052, .iconst 1, 1), (1053, .iadd, 1), (1054, .iaload, 1), (1055, .aload_n 0, 1), (1056, .iload_n 3, 1), (1057, .iconst 2, 1), (1058, .iadd, 1), (1059, .iaload, 1), (1060, .aload_n 0, 1), (1061, .iload_n 3, 1), (1062, .iconst 3, 1), (1063, .iadd, 1), (1064, .iaload, 1), (1065, .i2l, 1), (1066, .bipush 32, 2), (1068, .lshl, 1), (1069, .aload_n 0, 1), (1070, .iload_n 3, 1), (1071, .iconst 4, 1), (1072, .iadd, 1), (1073, .iaload, 1), (1074, .i2l, 1), (1075, .ldc2_w 118, 3), (1078, .land, 1), (1079, .lor, 1), (1080, .aload_n 0, 1), (1081, .iload_n 3, 1), (1082, .iconst 5, 1), (1083, .iadd, 1), (1084, .iaload, 1), (1085, .invokevirtual 120, 3), (1088, .aload_n 2, 1), (1089, .aload_n 0, 1), (1090, .iload_n 3, 1), (1091, .iconst 1, 1), (1092, .iadd, 1), (1093, .iaload, 1), (1094, .aload_n 0, 1), (1095, .iload_n 3, 1), (1096, .iconst 2, 1), (1097, .iadd, 1), (1098, .iaload, 1), (1099, .aload_n 0, 1), (1100, .iload_n 3, 1), (1101, .iconst 3, 1), (1102, .iadd, 1), (1103, .iaload, 1), (1104, .i2l, 1), (1105, .bipush 32, 2), (1107, .lshl, 1), (1108, .aload_n 0, 1), (1109, .iload_n 3, 1), (1110, .iconst 4, 1), (1111, .iadd, 1), (1112, .iaload, 1), (1113, .i2l, 1), (1114, .ldc2_w 118, 3), (1117, .land, 1), (1118, .lor, 1), (1119, .aload_n 0, 1), (1120, .iload_n 3, 1), (1121, .iconst 5, 1), (1122, .iadd, 1), (1123, .iaload, 1), (1124, .invokevirtual 124, 3), (1127, .if_icmp .eq 230, 3), (1130, .iconst 0, 1), (1131, .ireturn, 1)]
theorem tbLc_25_ok : pTabOk cL_law tbLc_25 = true := by decide +kernel
set_option maxRecDepth 100000 in
theorem lc_25 {X : Nat × (Nat → Int32)} {sh : List PSh} {S : PSt} {i : Nat} (he : isEl sh) (hm : isMo sh) (h : rel S S) (hi : i + 6 ≤ X.1) (hx : X.1 < 2 ^ 31) (k : ∀ T, rel T T → pY tbLt X sh 1357 (lL i) [] T) : pY tbLc_25 X sh 1049 (lL i) [] S := by
  obtain ⟨N, z, h⟩ := h
  refine l_aload (pc := 1049) (j := 1) rfl rfl ?_
  refine la_arg (pc := 1050) (k := 1) rfl rfl rfl rfl rfl (by decide) (by omega) hx ?_
  refine la_arg (pc := 1055) (k := 2) rfl rfl rfl rfl rfl (by decide) (by omega) hx ?_
  refine la_arg (pc := 1060) (k := 3) rfl rfl rfl rfl rfl (by decide) (by omega) hx ?_
  refine l_i2l (pc := 1065) rfl ?_
  refine l_bipush (pc := 1066) 32 rfl (by decide) ?_
  refine l_lshl (pc := 1068) rfl ?_
  refine la_arg (pc := 1069) (k := 4) rfl rfl rfl rfl rfl (by decide) (by omega) hx ?_
  refine l_i2l (pc := 1074) rfl ?_
  refine l_ldc2 (pc := 1075) rfl kc_L_118 ?_
  refine l_land (pc := 1078) rfl ?_
  refine l_lor (pc := 1079) rfl ?_
  refine la_arg (pc := 1080) (k := 5) rfl rfl rfl rfl rfl (by decide) (by omega) hx ?_
  obtain ⟨P1, g1, h2⟩ := tw_put he hm h (s := (X.2 (i + 1))) (i := (X.2 (i + 2))) (v := (((X.2 (i + 3)).toInt64 <<< ((32 : Int32).toInt64 &&& 63)) ||| ((X.2 (i + 4)).toInt64 &&& 4294967295))) (k := (X.2 (i + 5)))
  refine l_call (pc := 1085) (as := [.int (X.2 (i + 1)), .int (X.2 (i + 2)), .long (((X.2 (i + 3)).toInt64 <<< ((32 : Int32).toInt64 &&& 63)) ||| ((X.2 (i + 4)).toInt64 &&& 4294967295)), .int (X.2 (i + 5))]) (rest := []) (b := 0) rfl ce_X8_put ml_L_120 im_X8_put se_X8_put he.1 rfl rfl rfl (by decide) (Nat.le_of_ble_eq_true rfl) g1 (fun r T hr => ?_)
  obtain ⟨v, rfl, P2, g2, h3⟩ := h2 r T hr
  refine l_st [.int v] rfl ?_
  refine l_aload (pc := 1088) (j := 2) rfl rfl ?_
  refine la_arg (pc := 1089) (k := 1) rfl rfl rfl rfl rfl (by decide) (by omega) hx ?_
  refine la_arg (pc := 1094) (k := 2) rfl rfl rfl rfl rfl (by decide) (by omega) hx ?_
  refine la_arg (pc := 1099) (k := 3) rfl rfl rfl rfl rfl (by decide) (by omega) hx ?_
  refine l_i2l (pc := 1104) rfl ?_
  refine l_bipush (pc := 1105) 32 rfl (by decide) ?_
  refine l_lshl (pc := 1107) rfl ?_
  refine la_arg (pc := 1108) (k := 4) rfl rfl rfl rfl rfl (by decide) (by omega) hx ?_
  refine l_i2l (pc := 1113) rfl ?_
  refine l_ldc2 (pc := 1114) rfl kc_L_118 ?_
  refine l_land (pc := 1117) rfl ?_
  refine l_lor (pc := 1118) rfl ?_
  refine la_arg (pc := 1119) (k := 5) rfl rfl rfl rfl rfl (by decide) (by omega) hx ?_
  refine l_call (pc := 1124) (as := [.int (X.2 (i + 1)), .int (X.2 (i + 2)), .long (((X.2 (i + 3)).toInt64 <<< ((32 : Int32).toInt64 &&& 63)) ||| ((X.2 (i + 4)).toInt64 &&& 4294967295)), .int (X.2 (i + 5))]) (rest := [.int v]) (b := 70) rfl ce_X9_put ml_L_124 im_X9_put se_X9_put hm.1 rfl rfl rfl (by decide) (Nat.le_of_ble_eq_true rfl) g2 (fun r2 T2 hr2 => ?_)
  obtain ⟨rfl, h4⟩ := h3 r2 T2 hr2
  refine l_st [.int v, .int v] rfl ?_
  refine l_eq (pc := 1127) 1357 rfl (by decide) ?_
  exact pr_tab tbLt_ok (k T2 h4)
def tbLc_26 : pTab := [(1132, .aload_n 1, 1), (1133, .aload_n 0, 1), (1134, .iload_n 3, 1), (1135, .iconst 1, 1), (1136, .iadd, 1), (1137, .iaload, 1), (1138, .aload_n 0, 1), (1139, .iload_n 3, 1), (1140, .iconst 2, 1), (1141, .iadd, 1), (1142, .iaload, 1), (1143, .invokevirtual 125, 3), (1146, .aload_n 2, 1), (1147, .aload_n 0, 1), (1148, .iload_n 3, 1), (1149, .iconst 1, 1), (1150, .iadd, 1), (1151, .iaload, 1), (1152, .aload_n 0, 1), (1153, .iload_n 3, 1), (1154, .iconst 2, 1), (1155, .iadd, 1), (1156, .iaload, 1), (1157, .invokevirtual 129, 3), (1160, .lcmp, 1), (1161, .ifCond .eq 196, 3), (1164, .iconst 0, 1), (1165, .ireturn, 1)]
theorem tbLc_26_ok : pTabOk cL_law tbLc_26 = true := by decide +kernel
set_option maxRecDepth 100000 in
theorem lc_26 {X : Nat × (Nat → Int32)} {sh : List PSh} {S : PSt} {i : Nat} (he : isEl sh) (hm : isMo sh) (h : rel S S) (hi : i + 6 ≤ X.1) (hx : X.1 < 2 ^ 31) (k : ∀ T, rel T T → pY tbLt X sh 1357 (lL i) [] T) : pY tbLc_26 X sh 1132 (lL i) [] S := by
  obtain ⟨N, z, h⟩ := h
  refine l_aload (pc := 1132) (j := 1) rfl rfl ?_
  refine la_arg (pc := 1133) (k := 1) rfl rfl rfl rfl rfl (by decide) (by omega) hx ?_
  refine la_arg (pc := 1138) (k := 2) rfl rfl rfl rfl rfl (by decide) (by omega) hx ?_
  obtain ⟨P1, g1, h2⟩ := tw_bits he hm h (s := (X.2 (i + 1))) (i := (X.2 (i + 2)))
  refine l_call (pc := 1143) (as := [.int (X.2 (i + 1)), .int (X.2 (i + 2))]) (rest := []) (b := 0) rfl ce_X8_bits ml_L_125 im_X8_bits se_X8_bits he.1 rfl rfl rfl (by decide) (Nat.le_of_ble_eq_true rfl) g1 (fun r T hr => ?_)
  obtain ⟨v, rfl, P2, g2, h3⟩ := h2 r T hr
  refine l_st [.long v] rfl ?_
  refine l_aload (pc := 1146) (j := 2) rfl rfl ?_
  refine la_arg (pc := 1147) (k := 1) rfl rfl rfl rfl rfl (by decide) (by omega) hx ?_
  refine la_arg (pc := 1152) (k := 2) rfl rfl rfl rfl rfl (by decide) (by omega) hx ?_
  refine l_call (pc := 1157) (as := [.int (X.2 (i + 1)), .int (X.2 (i + 2))]) (rest := [.long v]) (b := 70) rfl ce_X9_bits ml_L_129 im_X9_bits se_X9_bits hm.1 rfl rfl rfl (by decide) (Nat.le_of_ble_eq_true rfl) g2 (fun r2 T2 hr2 => ?_)
  obtain ⟨rfl, h4⟩ := h3 r2 T2 hr2
  refine l_st [.long v, .long v] rfl ?_
  refine l_leq (pc := 1160) 1357 rfl rfl (by decide) ?_
  exact pr_tab tbLt_ok (k T2 h4)
def tbLc_27 : pTab := [(1166, .aload_n 1, 1), (1167, .aload_n 0, 1), (1168, .iload_n 3, 1), (1169, .iconst 1, 1), (1170, .iadd, 1), (1171, .iaload, 1), (1172, .aload_n 0, 1), (1173, .iload_n 3, 1), (1174, .iconst 2, 1), (1175, .iadd, 1), (1176, .iaload, 1), (1177, .invokevirtual 130, 3), (1180, .aload_n 2, 1), (1181, .aload_n 0, 1), (1182, .iload_n 3, 1), (1183, .iconst 1, 1), (1184, .iadd, 1), (1185, .iaload, 1), (1186, .aload_n 0, 1), (1187, .iload_n 3, 1), (1188, .iconst 2, 1), (1189, .iadd, 1), (1190, .iaload, 1), (1191, .invokevirtual 133, 3), (1194, .if_icmp .eq 163, 3), (1197, .iconst 0, 1), (1198, .ireturn, 1)]
theorem tbLc_27_ok : pTabOk cL_law tbLc_27 = true := by decide +kernel
set_option maxRecDepth 100000 in
theorem lc_27 {X : Nat × (Nat → Int32)} {sh : List PSh} {S : PSt} {i : Nat} (he : isEl sh) (hm : isMo sh) (h : rel S S) (hi : i + 6 ≤ X.1) (hx : X.1 < 2 ^ 31) (k : ∀ T, rel T T → pY tbLt X sh 1357 (lL i) [] T) : pY tbLc_27 X sh 1166 (lL i) [] S := by
  obtain ⟨N, z, h⟩ := h
  refine l_aload (pc := 1166) (j := 1) rfl rfl ?_
  refine la_arg (pc := 1167) (k := 1) rfl rfl rfl rfl rfl (by decide) (by omega) hx ?_
  refine la_arg (pc := 1172) (k := 2) rfl rfl rfl rfl rfl (by decide) (by omega) hx ?_
  obtain ⟨P1, g1, h2⟩ := tw_cast he hm h (s := (X.2 (i + 1))) (i := (X.2 (i + 2)))
  refine l_call (pc := 1177) (as := [.int (X.2 (i + 1)), .int (X.2 (i + 2))]) (rest := []) (b := 0) rfl ce_X8_cast ml_L_130 im_X8_cast se_X8_cast he.1 rfl rfl rfl (by decide) (Nat.le_of_ble_eq_true rfl) g1 (fun r T hr => ?_)
  obtain ⟨v, rfl, P2, g2, h3⟩ := h2 r T hr
  refine l_st [.int v] rfl ?_
  refine l_aload (pc := 1180) (j := 2) rfl rfl ?_
  refine la_arg (pc := 1181) (k := 1) rfl rfl rfl rfl rfl (by decide) (by omega) hx ?_
  refine la_arg (pc := 1186) (k := 2) rfl rfl rfl rfl rfl (by decide) (by omega) hx ?_
  refine l_call (pc := 1191) (as := [.int (X.2 (i + 1)), .int (X.2 (i + 2))]) (rest := [.int v]) (b := 70) rfl ce_X9_cast ml_L_133 im_X9_cast se_X9_cast hm.1 rfl rfl rfl (by decide) (Nat.le_of_ble_eq_true rfl) g2 (fun r2 T2 hr2 => ?_)
  obtain ⟨rfl, h4⟩ := h3 r2 T2 hr2
  refine l_st [.int v, .int v] rfl ?_
  refine l_eq (pc := 1194) 1357 rfl (by decide) ?_
  exact pr_tab tbLt_ok (k T2 h4)
def tbLc_28 : pTab := [(1199, .aload_n 1, 1), (1200, .aload_n 0, 1), (1201, .iload_n 3, 1), (1202, .iconst 1, 1), (1203, .iadd, 1), (1204, .iaload, 1), (1205, .aload_n 0, 1), (1206, .iload_n 3, 1), (1207, .iconst 2, 1), (1208, .iadd, 1), (1209, .iaload, 1), (1210, .aload_n 0, 1), (1211, .iload_n 3, 1), (1212, .iconst 3, 1), (1213, .iadd, 1), (1214, .iaload, 1), (1215, .invokevirtual 134, 3), (1218, .aload_n 2, 1), (1219, .aload_n 0, 1), (1220, .iload_n 3, 1), (1221, .iconst 1, 1), (1222, .iadd, 1), (1223, .iaload, 1), (1224, .aload_n 0, 1), (1225, .iload_n 3, 1), (1226, .iconst 2, 1), (1227, .iadd, 1), (1228, .iaload, 1), (1229, .aload_n 0, 1), (1230, .iload_n 3, 1), (1231, .iconst 3, 1), (1232, .iadd, 1), (1233, .iaload, 1), (1234, .invokevirtual 137, 3), (1237, .if_icmp .eq 120, 3), (1240, .iconst 0, 1), (1241, .ireturn, 1)]
theorem tbLc_28_ok : pTabOk cL_law tbLc_28 = true := by decide +kernel
set_option maxRecDepth 100000 in
theorem lc_28 {X : Nat × (Nat → Int32)} {sh : List PSh} {S : PSt} {i : Nat} (he : isEl sh) (hm : isMo sh) (h : rel S S) (hi : i + 6 ≤ X.1) (hx : X.1 < 2 ^ 31) (k : ∀ T, rel T T → pY tbLt X sh 1357 (lL i) [] T) : pY tbLc_28 X sh 1199 (lL i) [] S := by
  obtain ⟨N, z, h⟩ := h
  refine l_aload (pc := 1199) (j := 1) rfl rfl ?_
  refine la_arg (pc := 1200) (k := 1) rfl rfl rfl rfl rfl (by decide) (by omega) hx ?_
  refine la_arg (pc := 1205) (k := 2) rfl rfl rfl rfl rfl (by decide) (by omega) hx ?_
  refine la_arg (pc := 1210) (k := 3) rfl rfl rfl rfl rfl (by decide) (by omega) hx ?_
  obtain ⟨P1, g1, h2⟩ := tw_rest he hm h (s := (X.2 (i + 1))) (i := (X.2 (i + 2))) (j := (X.2 (i + 3)))
  refine l_call (pc := 1215) (as := [.int (X.2 (i + 1)), .int (X.2 (i + 2)), .int (X.2 (i + 3))]) (rest := []) (b := 0) rfl ce_X8_rest ml_L_134 im_X8_rest se_X8_rest he.1 rfl rfl rfl (by decide) (Nat.le_of_ble_eq_true rfl) g1 (fun r T hr => ?_)
  obtain ⟨v, rfl, P2, g2, h3⟩ := h2 r T hr
  refine l_st [.int v] rfl ?_
  refine l_aload (pc := 1218) (j := 2) rfl rfl ?_
  refine la_arg (pc := 1219) (k := 1) rfl rfl rfl rfl rfl (by decide) (by omega) hx ?_
  refine la_arg (pc := 1224) (k := 2) rfl rfl rfl rfl rfl (by decide) (by omega) hx ?_
  refine la_arg (pc := 1229) (k := 3) rfl rfl rfl rfl rfl (by decide) (by omega) hx ?_
  refine l_call (pc := 1234) (as := [.int (X.2 (i + 1)), .int (X.2 (i + 2)), .int (X.2 (i + 3))]) (rest := [.int v]) (b := 70) rfl ce_X9_rest ml_L_137 im_X9_rest se_X9_rest hm.1 rfl rfl rfl (by decide) (Nat.le_of_ble_eq_true rfl) g2 (fun r2 T2 hr2 => ?_)
  obtain ⟨rfl, h4⟩ := h3 r2 T2 hr2
  refine l_st [.int v, .int v] rfl ?_
  refine l_eq (pc := 1237) 1357 rfl (by decide) ?_
  exact pr_tab tbLt_ok (k T2 h4)
def tbLc_29 : pTab := [(1242, .aload_n 1, 1), (1243, .aload_n 0, 1), (1244, .iload_n 3, 1), (1245, .iconst 1, 1), (1246, .iadd, 1), (1247, .iaload, 1), (1248, .aload_n 0, 1), (1249, .iload_n 3, 1), (1250, .iconst 2, 1), (1251, .iadd, 1), (1252, .iaload, 1), (1253, .aload_n 0, 1), (1254, .iload_n 3, 1), (1255, .iconst 3, 1), (1256, .iadd, 1), (1257, .iaload, 1), (1258, .invokevirtual 138, 3), (1261, .aload_n 2, 1), (1262, .aload_n 0, 1), (1263, .iload_n 3, 1), (1264, .iconst 1, 1), (1265, .iadd, 1), (1266, .iaload, 1), (1267, .aload_n 0, 1), (1268, .iload_n 3, 1), (1269, .iconst 2, 1), (1270, .iadd, 1), (1271, .iaload, 1), (1272, .aload_n 0, 1), (1273, .iload_n 3, 1), (1274, .iconst 3, 1), (1275, .iadd, 1), (1276, .iaload, 1), (1277, .invokevirtual 141, 3), (1280, .if_icmp .eq 77, 3), (1283, .iconst 0, 1), (1284, .ireturn, 1)]
theorem tbLc_29_ok : pTabOk cL_law tbLc_29 = true := by decide +kernel
set_option maxRecDepth 100000 in
theorem lc_29 {X : Nat × (Nat → Int32)} {sh : List PSh} {S : PSt} {i : Nat} (he : isEl sh) (hm : isMo sh) (h : rel S S) (hi : i + 6 ≤ X.1) (hx : X.1 < 2 ^ 31) (k : ∀ T, rel T T → pY tbLt X sh 1357 (lL i) [] T) : pY tbLc_29 X sh 1242 (lL i) [] S := by
  obtain ⟨N, z, h⟩ := h
  refine l_aload (pc := 1242) (j := 1) rfl rfl ?_
  refine la_arg (pc := 1243) (k := 1) rfl rfl rfl rfl rfl (by decide) (by omega) hx ?_
  refine la_arg (pc := 1248) (k := 2) rfl rfl rfl rfl rfl (by decide) (by omega) hx ?_
  refine la_arg (pc := 1253) (k := 3) rfl rfl rfl rfl rfl (by decide) (by omega) hx ?_
  obtain ⟨P1, g1, h2⟩ := tw_lays he hm h (s := (X.2 (i + 1))) (a := (X.2 (i + 2))) (b := (X.2 (i + 3)))
  refine l_call (pc := 1258) (as := [.int (X.2 (i + 1)), .int (X.2 (i + 2)), .int (X.2 (i + 3))]) (rest := []) (b := 0) rfl ce_X8_lays ml_L_138 im_X8_lays se_X8_lays he.1 rfl rfl rfl (by decide) (Nat.le_of_ble_eq_true rfl) g1 (fun r T hr => ?_)
  obtain ⟨v, rfl, P2, g2, h3⟩ := h2 r T hr
  refine l_st [.int v] rfl ?_
  refine l_aload (pc := 1261) (j := 2) rfl rfl ?_
  refine la_arg (pc := 1262) (k := 1) rfl rfl rfl rfl rfl (by decide) (by omega) hx ?_
  refine la_arg (pc := 1267) (k := 2) rfl rfl rfl rfl rfl (by decide) (by omega) hx ?_
  refine la_arg (pc := 1272) (k := 3) rfl rfl rfl rfl rfl (by decide) (by omega) hx ?_
  refine l_call (pc := 1277) (as := [.int (X.2 (i + 1)), .int (X.2 (i + 2)), .int (X.2 (i + 3))]) (rest := [.int v]) (b := 70) rfl ce_X9_lays ml_L_141 im_X9_lays se_X9_lays hm.1 rfl rfl rfl (by decide) (Nat.le_of_ble_eq_true rfl) g2 (fun r2 T2 hr2 => ?_)
  obtain ⟨rfl, h4⟩ := h3 r2 T2 hr2
  refine l_st [.int v, .int v] rfl ?_
  refine l_eq (pc := 1280) 1357 rfl (by decide) ?_
  exact pr_tab tbLt_ok (k T2 h4)
def tbLc_30 : pTab := [(1285, .aload_n 1, 1), (1286, .invokevirtual 142, 3), (1289, .aload_n 2, 1), (1290, .invokevirtual 145, 3), (1293, .if_icmp .eq 64, 3), (1296, .iconst 0, 1), (1297, .ireturn, 1)]
theorem tbLc_30_ok : pTabOk cL_law tbLc_30 = true := by decide +kernel
set_option maxRecDepth 100000 in
theorem lc_30 {X : Nat × (Nat → Int32)} {sh : List PSh} {S : PSt} {i : Nat} (he : isEl sh) (hm : isMo sh) (h : rel S S) (hi : i + 6 ≤ X.1) (hx : X.1 < 2 ^ 31) (k : ∀ T, rel T T → pY tbLt X sh 1357 (lL i) [] T) : pY tbLc_30 X sh 1285 (lL i) [] S := by
  obtain ⟨N, z, h⟩ := h
  refine l_aload (pc := 1285) (j := 1) rfl rfl ?_
  obtain ⟨P1, g1, h2⟩ := tw_image he hm h
  refine l_call (pc := 1286) (as := []) (rest := []) (b := 0) rfl ce_X8_image ml_L_142 im_X8_image se_X8_image he.1 rfl rfl rfl (by decide) (Nat.le_of_ble_eq_true rfl) g1 (fun r T hr => ?_)
  obtain ⟨v, rfl, P2, g2, h3⟩ := h2 r T hr
  refine l_st [.int v] rfl ?_
  refine l_aload (pc := 1289) (j := 2) rfl rfl ?_
  refine l_call (pc := 1290) (as := []) (rest := [.int v]) (b := 70) rfl ce_X9_image ml_L_145 im_X9_image se_X9_image hm.1 rfl rfl rfl (by decide) (Nat.le_of_ble_eq_true rfl) g2 (fun r2 T2 hr2 => ?_)
  obtain ⟨rfl, h4⟩ := h3 r2 T2 hr2
  refine l_st [.int v, .int v] rfl ?_
  refine l_eq (pc := 1293) 1357 rfl (by decide) ?_
  exact pr_tab tbLt_ok (k T2 h4)
def tbLc_31 : pTab := [(1298, .aload_n 1, 1), (1299, .invokevirtual 146, 3), (1302, .aload_n 2, 1), (1303, .invokevirtual 149, 3), (1306, .if_icmp .eq 51, 3), (1309, .iconst 0, 1), (1310, .ireturn, 1)]
theorem tbLc_31_ok : pTabOk cL_law tbLc_31 = true := by decide +kernel
set_option maxRecDepth 100000 in
theorem lc_31 {X : Nat × (Nat → Int32)} {sh : List PSh} {S : PSt} {i : Nat} (he : isEl sh) (hm : isMo sh) (h : rel S S) (hi : i + 6 ≤ X.1) (hx : X.1 < 2 ^ 31) (k : ∀ T, rel T T → pY tbLt X sh 1357 (lL i) [] T) : pY tbLc_31 X sh 1298 (lL i) [] S := by
  obtain ⟨N, z, h⟩ := h
  refine l_aload (pc := 1298) (j := 1) rfl rfl ?_
  obtain ⟨P1, g1, h2⟩ := tw_restore he hm h
  refine l_call (pc := 1299) (as := []) (rest := []) (b := 0) rfl ce_X8_restore ml_L_146 im_X8_restore se_X8_restore he.1 rfl rfl rfl (by decide) (Nat.le_of_ble_eq_true rfl) g1 (fun r T hr => ?_)
  obtain ⟨v, rfl, P2, g2, h3⟩ := h2 r T hr
  refine l_st [.int v] rfl ?_
  refine l_aload (pc := 1302) (j := 2) rfl rfl ?_
  refine l_call (pc := 1303) (as := []) (rest := [.int v]) (b := 70) rfl ce_X9_restore ml_L_149 im_X9_restore se_X9_restore hm.1 rfl rfl rfl (by decide) (Nat.le_of_ble_eq_true rfl) g2 (fun r2 T2 hr2 => ?_)
  obtain ⟨rfl, h4⟩ := h3 r2 T2 hr2
  refine l_st [.int v, .int v] rfl ?_
  refine l_eq (pc := 1306) 1357 rfl (by decide) ?_
  exact pr_tab tbLt_ok (k T2 h4)
def tbLc_32 : pTab := [(1311, .aload_n 1, 1), (1312, .aload_n 0, 1), (1313, .iload_n 3, 1), (1314, .iconst 1, 1), (1315, .iadd, 1), (1316, .iaload, 1), (1317, .invokevirtual 150, 3), (1320, .aload_n 2, 1), (1321, .aload_n 0, 1), (1322, .iload_n 3, 1), (1323, .iconst 1, 1), (1324, .iadd, 1), (1325, .iaload, 1), (1326, .invokevirtual 153, 3), (1329, .if_icmp .eq 28, 3), (1332, .iconst 0, 1), (1333, .ireturn, 1)]
theorem tbLc_32_ok : pTabOk cL_law tbLc_32 = true := by decide +kernel
set_option maxRecDepth 100000 in
theorem lc_32 {X : Nat × (Nat → Int32)} {sh : List PSh} {S : PSt} {i : Nat} (he : isEl sh) (hm : isMo sh) (h : rel S S) (hi : i + 6 ≤ X.1) (hx : X.1 < 2 ^ 31) (k : ∀ T, rel T T → pY tbLt X sh 1357 (lL i) [] T) : pY tbLc_32 X sh 1311 (lL i) [] S := by
  obtain ⟨N, z, h⟩ := h
  refine l_aload (pc := 1311) (j := 1) rfl rfl ?_
  refine la_arg (pc := 1312) (k := 1) rfl rfl rfl rfl rfl (by decide) (by omega) hx ?_
  obtain ⟨P1, g1, h2⟩ := tw_count he hm h (what := (X.2 (i + 1)))
  refine l_call (pc := 1317) (as := [.int (X.2 (i + 1))]) (rest := []) (b := 0) rfl ce_X8_count ml_L_150 im_X8_count se_X8_count he.1 rfl rfl rfl (by decide) (Nat.le_of_ble_eq_true rfl) g1 (fun r T hr => ?_)
  obtain ⟨v, rfl, P2, g2, h3⟩ := h2 r T hr
  refine l_st [.int v] rfl ?_
  refine l_aload (pc := 1320) (j := 2) rfl rfl ?_
  refine la_arg (pc := 1321) (k := 1) rfl rfl rfl rfl rfl (by decide) (by omega) hx ?_
  refine l_call (pc := 1326) (as := [.int (X.2 (i + 1))]) (rest := [.int v]) (b := 70) rfl ce_X9_count ml_L_153 im_X9_count se_X9_count hm.1 rfl rfl rfl (by decide) (Nat.le_of_ble_eq_true rfl) g2 (fun r2 T2 hr2 => ?_)
  obtain ⟨rfl, h4⟩ := h3 r2 T2 hr2
  refine l_st [.int v, .int v] rfl ?_
  refine l_eq (pc := 1329) 1357 rfl (by decide) ?_
  exact pr_tab tbLt_ok (k T2 h4)
def tbLc_33 : pTab := [(1334, .aload_n 1, 1), (1335, .aload_n 0, 1), (1336, .iload_n 3, 1), (1337, .iconst 1, 1), (1338, .iadd, 1), (1339, .iaload, 1), (1340, .invokevirtual 154, 3), (1343, .aload_n 2, 1), (1344, .aload_n 0, 1), (1345, .iload_n 3, 1), (1346, .iconst 1, 1), (1347, .iadd, 1), (1348, .iaload, 1), (1349, .invokevirtual 157, 3), (1352, .if_icmp .eq 5, 3), (1355, .iconst 0, 1), (1356, .ireturn, 1)]
theorem tbLc_33_ok : pTabOk cL_law tbLc_33 = true := by decide +kernel
set_option maxRecDepth 100000 in
theorem lc_33 {X : Nat × (Nat → Int32)} {sh : List PSh} {S : PSt} {i : Nat} (he : isEl sh) (hm : isMo sh) (h : rel S S) (hi : i + 6 ≤ X.1) (hx : X.1 < 2 ^ 31) (k : ∀ T, rel T T → pY tbLt X sh 1357 (lL i) [] T) : pY tbLc_33 X sh 1334 (lL i) [] S := by
  obtain ⟨N, z, h⟩ := h
  refine l_aload (pc := 1334) (j := 1) rfl rfl ?_
  refine la_arg (pc := 1335) (k := 1) rfl rfl rfl rfl rfl (by decide) (by omega) hx ?_
  obtain ⟨P1, g1, h2⟩ := tw_told he hm h (k := (X.2 (i + 1)))
  refine l_call (pc := 1340) (as := [.int (X.2 (i + 1))]) (rest := []) (b := 0) rfl ce_X8_told ml_L_154 im_X8_told se_X8_told he.1 rfl rfl rfl (by decide) (Nat.le_of_ble_eq_true rfl) g1 (fun r T hr => ?_)
  obtain ⟨v, rfl, P2, g2, h3⟩ := h2 r T hr
  refine l_st [.int v] rfl ?_
  refine l_aload (pc := 1343) (j := 2) rfl rfl ?_
  refine la_arg (pc := 1344) (k := 1) rfl rfl rfl rfl rfl (by decide) (by omega) hx ?_
  refine l_call (pc := 1349) (as := [.int (X.2 (i + 1))]) (rest := [.int v]) (b := 70) rfl ce_X9_told ml_L_157 im_X9_told se_X9_told hm.1 rfl rfl rfl (by decide) (Nat.le_of_ble_eq_true rfl) g2 (fun r2 T2 hr2 => ?_)
  obtain ⟨rfl, h4⟩ := h3 r2 T2 hr2
  refine l_st [.int v, .int v] rfl ?_
  refine l_eq (pc := 1352) 1357 rfl (by decide) ?_
  exact pr_tab tbLt_ok (k T2 h4)
