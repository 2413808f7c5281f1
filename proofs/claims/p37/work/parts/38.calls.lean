/-! the class's calls: columns, stretches, lines, beams, slurs: written by wip/whole/gen/c38.py -/
set_option maxRecDepth 100000 in
theorem sp_X8_add {sh : List PSh} {S : PSt} {N : Nat} (he : isEl sh) (hi : cIv S N) {k d : Int32}  : pG mX8_add 2 [.ref 0, .int k, .int d] sh S (pA (oAdd N k d) S (pSI (ly5 S 3 N k d 0 2 0) 1 1 (nI (N + 1)))) := by
  obtain ⟨hN, hN2, hg, hw⟩ := hi
  refine pG.of [some (.ref 0), some (.int k), some (.int d), none] (by decide) tk_X8_add (Nat.le_of_ble_eq_true rfl) rfl (fun X => ?_)
  refine q_iconst (pc := 0) 0 rfl (by decide) ?_
  refine q_iload_n (pc := 1) (j := 1) rfl rfl ?_
  refine q_callS (pc := 2) (as := [.int 0, .int k]) (rest := []) (st2 := [.int (pB (pAl 0 k))]) rfl ce_X8_isAllowed ml_X8_78 st_X8_isAllowed rfl (by decide) (Nat.le_of_ble_eq_true rfl) (sp_X8_isAllowed) rfl ?_
  refine q_if_eq (pc := 5) 16 rfl (by decide) (fun h5 => ?_) (fun h5 => ?_)
  · refine q_aload_n (pc := 16) (j := 0) rfl rfl ?_
    refine q_iconst (pc := 17) 1 rfl (by decide) ?_
    refine q_callV (pc := 18) (as := [.int 1]) (rest := []) (b := 0) (st2 := [.int (-2147483000 - nI 1)]) rfl ce_X8_refuse ml_X8_82 im_X8_refuse se_X8_refuse he.1 rfl rfl rfl (by decide) (Nat.le_of_ble_eq_true rfl) (sp_X8_refuse (e := 1) he (by decide)) rfl ?_
    exact q_iret (pc := 21) rfl rfl (pA_no (k := 0) (by rw [oAdd, if_neg (show ¬ _ = true from by rw [pB_f h5]; decide)]) fr_rf)
  · refine q_iconst (pc := 8) 1 rfl (by decide) ?_
    refine q_iload_n (pc := 9) (j := 2) rfl rfl ?_
    refine q_callS (pc := 10) (as := [.int 1, .int d]) (rest := []) (st2 := [.int (pB (pAl 1 d))]) rfl ce_X8_isAllowed ml_X8_78 st_X8_isAllowed rfl (by decide) (Nat.le_of_ble_eq_true rfl) (sp_X8_isAllowed) rfl ?_
    refine q_if_ne (pc := 13) 22 rfl (by decide) (fun h13 => ?_) (fun h13 => ?_)
    · refine q_aload_n (pc := 22) (j := 0) rfl rfl ?_
      refine q_get (pc := 23) (a := 0) (v := .ref 1) rfl fl_X8_10 he.1 rfl rfl ?_
      refine q_get (pc := 26) (a := 1) (v := .int (S.1 1 1)) rfl fl_X8_86 he.2.1.1 rfl rfl ?_
      refine q_st (st2 := [.int (nI N)]) (by rw [(show (S.1 1 1) = nI N from hN)]) ?_
      refine q_bipush (pc := 29) 32 rfl (by decide) ?_
      refine q_icmp_lt (pc := 31) 40 rfl (by decide) (fun h31 => ?_) (fun h31 => ?_)
      · have hN3 := (nI_ltI (a := N) (b := 32) (by omega) (by decide)).mp h31
        refine q_aload_n (pc := 40) (j := 0) rfl rfl ?_
        refine q_get (pc := 41) (a := 0) (v := .ref 1) rfl fl_X8_10 he.1 rfl rfl ?_
        refine q_get (pc := 44) (a := 1) (v := .int (S.1 1 1)) rfl fl_X8_86 he.2.1.1 rfl rfl ?_
        refine q_st (st2 := [.int (nI N)]) (by rw [(show (S.1 1 1) = nI N from hN)]) ?_
        refine q_istore_n (pc := 47) (j := 3) [some (.ref 0), some (.int k), some (.int d), some (.int (nI N))] rfl (by decide) rfl ?_
        refine q_aload_n (pc := 48) (j := 0) rfl rfl ?_
        refine q_get (pc := 49) (a := 0) (v := .ref 1) rfl fl_X8_10 he.1 rfl rfl ?_
        refine q_get (pc := 52) (a := 1) (v := .ref 2) rfl fl_X8_90 he.2.1.1 rfl rfl ?_
        refine q_iload_n (pc := 55) (j := 3) rfl rfl ?_
        refine q_iload_n (pc := 56) (j := 1) rfl rfl ?_
        refine q_iload_n (pc := 57) (j := 2) rfl rfl ?_
        refine q_iconst (pc := 58) 0 rfl (by decide) ?_
        refine q_iconst (pc := 59) 2 rfl (by decide) ?_
        refine q_iconst (pc := 60) 0 rfl (by decide) ?_
        refine q_callV (pc := 61) (as := [.int (nI N), .int k, .int d, .int 0, .int 2, .int 0]) (rest := []) (b := 2) (st2 := []) rfl ce_X4_lay ml_X8_93 im_X4_lay se_X4_lay he.2.1.2.1.1 rfl rfl rfl (by decide) (Nat.le_of_ble_eq_true rfl) (sp_X4_lay (c := N) he.2.1.2.1 (by omega)) rfl ?_
        refine q_aload_n (pc := 64) (j := 0) rfl rfl ?_
        refine q_get (pc := 65) (a := 0) (v := .ref 1) rfl fl_X8_10 he.1 rfl rfl ?_
        refine q_iload_n (pc := 68) (j := 3) rfl rfl ?_
        refine q_iconst (pc := 69) 1 rfl (by decide) ?_
        refine q_iadd (pc := 70) rfl ?_
        refine q_st (st2 := [.int (nI (N + 1)), .ref 1]) (by rw [nI_1 N]) ?_
        refine q_putI (pc := 71) (a := 1) rfl fl_X8_86 he.2.1.1 rfl (fun _ h9 => by cases h9; rfl) rfl rfl ?_
        refine q_iload_n (pc := 74) (j := 3) rfl rfl ?_
        exact q_iret (pc := 75) rfl rfl (pA_ok (by rw [oAdd, if_pos (pB_t h5), if_pos (pB_t h13), if_neg (by have := (nI_ltI (a := N) (b := 32) (by omega) (by decide)).mp h31; omega)]) fr_rf)
      · refine q_aload_n (pc := 34) (j := 0) rfl rfl ?_
        refine q_iconst (pc := 35) 4 rfl (by decide) ?_
        refine q_callV (pc := 36) (as := [.int 4]) (rest := []) (b := 0) (st2 := [.int (-2147483000 - nI 4)]) rfl ce_X8_refuse ml_X8_82 im_X8_refuse se_X8_refuse he.1 rfl rfl rfl (by decide) (Nat.le_of_ble_eq_true rfl) (sp_X8_refuse (e := 4) he (by decide)) rfl ?_
        exact q_iret (pc := 39) rfl rfl (pA_no (k := 3) (by rw [oAdd, if_pos (pB_t h5), if_pos (pB_t h13), if_pos (by have := mt (nI_ltI (a := N) (b := 32) (by omega) (by decide)).mpr h31; omega)]) fr_rf)
    · refine q_aload_n (pc := 16) (j := 0) rfl rfl ?_
      refine q_iconst (pc := 17) 1 rfl (by decide) ?_
      refine q_callV (pc := 18) (as := [.int 1]) (rest := []) (b := 0) (st2 := [.int (-2147483000 - nI 1)]) rfl ce_X8_refuse ml_X8_82 im_X8_refuse se_X8_refuse he.1 rfl rfl rfl (by decide) (Nat.le_of_ble_eq_true rfl) (sp_X8_refuse (e := 1) he (by decide)) rfl ?_
      exact q_iret (pc := 21) rfl rfl (pA_no (k := 0) (by rw [oAdd, if_pos (pB_t h5), if_neg (show ¬ _ = true from by rw [pB_f h13]; decide)]) fr_rf)
set_option maxRecDepth 100000 in
theorem sp_X8_drop {sh : List PSh} {S : PSt} {N : Nat} (he : isEl sh) (hi : cIv S N)  : pG mX8_drop 2 [.ref 0] sh S (pA (oDrop N) S (pSI S 1 1 (nI (N - 1)))) := by
  obtain ⟨hN, hN2, hg, hw⟩ := hi
  refine pG.of [some (.ref 0)] (by decide) tk_X8_drop (Nat.le_of_ble_eq_true rfl) rfl (fun X => ?_)
  refine q_aload_n (pc := 0) (j := 0) rfl rfl ?_
  refine q_get (pc := 1) (a := 0) (v := .ref 1) rfl fl_X8_10 he.1 rfl rfl ?_
  refine q_get (pc := 4) (a := 1) (v := .int (S.1 1 1)) rfl fl_X8_86 he.2.1.1 rfl rfl ?_
  refine q_st (st2 := [.int (nI N)]) (by rw [(show (S.1 1 1) = nI N from hN)]) ?_
  refine q_if_gt (pc := 7) 16 rfl (by decide) (fun h7 => ?_) (fun h7 => ?_)
  · have hN3 := (nI_ltI (a := 0) (b := N) (by decide) (by omega)).mp h7
    refine q_aload_n (pc := 16) (j := 0) rfl rfl ?_
    refine q_get (pc := 17) (a := 0) (v := .ref 1) rfl fl_X8_10 he.1 rfl rfl ?_
    refine q_dup (pc := 20) rfl rfl ?_
    refine q_get (pc := 21) (a := 1) (v := .int (S.1 1 1)) rfl fl_X8_86 he.2.1.1 rfl rfl ?_
    refine q_st (st2 := [.int (nI N), .ref 1]) (by rw [(show (S.1 1 1) = nI N from hN)]) ?_
    refine q_iconst (pc := 24) 1 rfl (by decide) ?_
    refine q_isub (pc := 25) rfl ?_
    refine q_st (st2 := [.int (nI (N - 1)), .ref 1]) (by rw [(show nI N - 1 = nI (N - 1) from pk_sub (b := 1) hN3)]) ?_
    refine q_putI (pc := 26) (a := 1) rfl fl_X8_86 he.2.1.1 rfl (fun _ h9 => by cases h9; rfl) rfl rfl ?_
    refine q_aload_n (pc := 29) (j := 0) rfl rfl ?_
    refine q_get (pc := 30) (a := 0) (v := .ref 1) rfl fl_X8_10 he.1 rfl rfl ?_
    refine q_get (pc := 33) (a := 1) (v := .int ((pSI S 1 1 (nI (N - 1))).1 1 1)) rfl fl_X8_86 he.2.1.1 rfl rfl ?_
    refine q_st (st2 := [.int (nI (N - 1))]) (by rw [show ((pSI S 1 1 (nI (N - 1))).1 1 1) = nI (N - 1) by simp [pSI, pU]]) ?_
    exact q_iret (pc := 36) rfl rfl (pA_ok (by rw [oDrop, if_neg (by omega)]) fr_rf)
  · refine q_aload_n (pc := 10) (j := 0) rfl rfl ?_
    refine q_iconst (pc := 11) 2 rfl (by decide) ?_
    refine q_callV (pc := 12) (as := [.int 2]) (rest := []) (b := 0) (st2 := [.int (-2147483000 - nI 2)]) rfl ce_X8_refuse ml_X8_82 im_X8_refuse se_X8_refuse he.1 rfl rfl rfl (by decide) (Nat.le_of_ble_eq_true rfl) (sp_X8_refuse (e := 2) he (by decide)) rfl ?_
    exact q_iret (pc := 15) rfl rfl (pA_no (k := 1) (by rw [oDrop, if_pos (by have := mt (nI_ltI (a := 0) (b := N) (by decide) (by omega)).mpr h7; omega)]) fr_rf)
set_option maxRecDepth 100000 in
theorem sp_X8_set {sh : List PSh} {S : PSt} {N : Nat} (he : isEl sh) (hi : cIv S N) {c what v : Int32}  : pG mX8_set 2 [.ref 0, .int c, .int what, .int v] sh S (pA (oSet (S.1 3) N c what v) S (pSI S 3 (5 * tN c + tN what) v)) := by
  obtain ⟨hN, hN2, hg, hw⟩ := hi
  refine pG.of [some (.ref 0), some (.int c), some (.int what), some (.int v), none] (by decide) tk_X8_set (Nat.le_of_ble_eq_true rfl) rfl (fun X => ?_)
  refine q_aload_n (pc := 0) (j := 0) rfl rfl ?_
  refine q_iload_n (pc := 1) (j := 1) rfl rfl ?_
  refine q_callV (pc := 2) (as := [.int c]) (rest := []) (b := 0) (st2 := [.int (pB (isCoB N c))]) rfl ce_X8_isColumn ml_X8_97 im_X8_isColumn se_X8_isColumn he.1 rfl rfl rfl (by decide) (Nat.le_of_ble_eq_true rfl) (sp_X8_isColumn he hN hN2) rfl ?_
  refine q_if_eq (pc := 5) 25 rfl (by decide) (fun h5 => ?_) (fun h5 => ?_)
  · refine q_aload_n (pc := 25) (j := 0) rfl rfl ?_
    refine q_iconst (pc := 26) 1 rfl (by decide) ?_
    refine q_callV (pc := 27) (as := [.int 1]) (rest := []) (b := 0) (st2 := [.int (-2147483000 - nI 1)]) rfl ce_X8_refuse ml_X8_82 im_X8_refuse se_X8_refuse he.1 rfl rfl rfl (by decide) (Nat.le_of_ble_eq_true rfl) (sp_X8_refuse (e := 1) he (by decide)) rfl ?_
    exact q_iret (pc := 30) rfl rfl (pA_no (k := 0) (by rw [oSet, if_neg (show ¬ _ = true from by rw [pB_f h5]; decide)]) fr_rf)
  · refine q_iload_n (pc := 8) (j := 2) rfl rfl ?_
    refine q_iconst (pc := 9) 0 rfl (by decide) ?_
    refine q_iconst (pc := 10) 4 rfl (by decide) ?_
    refine q_callS (pc := 11) (as := [.int what, .int 0, .int 4]) (rest := []) (st2 := [.int (pB (pWi what 0 4))]) rfl ce_X8_isWithin ml_X8_101 st_X8_isWithin rfl (by decide) (Nat.le_of_ble_eq_true rfl) (sp_X8_isWithin) rfl ?_
    refine q_if_eq (pc := 14) 25 rfl (by decide) (fun h14 => ?_) (fun h14 => ?_)
    · refine q_aload_n (pc := 25) (j := 0) rfl rfl ?_
      refine q_iconst (pc := 26) 1 rfl (by decide) ?_
      refine q_callV (pc := 27) (as := [.int 1]) (rest := []) (b := 0) (st2 := [.int (-2147483000 - nI 1)]) rfl ce_X8_refuse ml_X8_82 im_X8_refuse se_X8_refuse he.1 rfl rfl rfl (by decide) (Nat.le_of_ble_eq_true rfl) (sp_X8_refuse (e := 1) he (by decide)) rfl ?_
      exact q_iret (pc := 30) rfl rfl (pA_no (k := 0) (by rw [oSet, if_pos (pB_t h5), if_neg (show ¬ _ = true from by rw [pB_f h14]; decide)]) fr_rf)
    · refine q_iload_n (pc := 17) (j := 2) rfl rfl ?_
      refine q_iload_n (pc := 18) (j := 3) rfl rfl ?_
      refine q_callS (pc := 19) (as := [.int what, .int v]) (rest := []) (st2 := [.int (pB (pAl what v))]) rfl ce_X8_isAllowed ml_X8_78 st_X8_isAllowed rfl (by decide) (Nat.le_of_ble_eq_true rfl) (sp_X8_isAllowed) rfl ?_
      refine q_if_ne (pc := 22) 31 rfl (by decide) (fun h22 => ?_) (fun h22 => ?_)
      · obtain ⟨x, rfl, hxN⟩ := isCo_of hN2 (pB_t h5); obtain ⟨u, hu, rfl⟩ := pWi_of (m := 4) (by decide) (by decide) (pB_t h14)
        refine q_aload_n (pc := 31) (j := 0) rfl rfl ?_
        refine q_get (pc := 32) (a := 0) (v := .ref 1) rfl fl_X8_10 he.1 rfl rfl ?_
        refine q_get (pc := 35) (a := 1) (v := .ref 2) rfl fl_X8_90 he.2.1.1 rfl rfl ?_
        refine q_iload_n (pc := 38) (j := 1) rfl rfl ?_
        refine q_iload_n (pc := 39) (j := 2) rfl rfl ?_
        refine q_callV (pc := 40) (as := [.int (nI x), .int (nI u)]) (rest := []) (b := 2) (st2 := [.int (S.1 3 (5 * x + u))]) rfl ce_X4_part ml_X8_105 im_X4_part se_X4_part he.2.1.2.1.1 rfl rfl rfl (by decide) (Nat.le_of_ble_eq_true rfl) (sp_X4_part (c := x) (w := u) he.2.1.2.1 (by omega) (by omega)) rfl ?_
        refine q_istore (pc := 43) (j := 4) [some (.ref 0), some (.int (nI x)), some (.int (nI u)), some (.int v), some (.int (S.1 3 (5 * x + u)))] rfl (by decide) rfl ?_
        refine q_aload_n (pc := 45) (j := 0) rfl rfl ?_
        refine q_get (pc := 46) (a := 0) (v := .ref 1) rfl fl_X8_10 he.1 rfl rfl ?_
        refine q_get (pc := 49) (a := 1) (v := .ref 2) rfl fl_X8_90 he.2.1.1 rfl rfl ?_
        refine q_iload_n (pc := 52) (j := 1) rfl rfl ?_
        refine q_iload_n (pc := 53) (j := 2) rfl rfl ?_
        refine q_iload_n (pc := 54) (j := 3) rfl rfl ?_
        refine q_callV (pc := 55) (as := [.int (nI x), .int (nI u), .int v]) (rest := []) (b := 2) (st2 := []) rfl ce_X4_change ml_X8_109 im_X4_change se_X4_change he.2.1.2.1.1 rfl rfl rfl (by decide) (Nat.le_of_ble_eq_true rfl) (sp_X4_change (c := x) (w := u) he.2.1.2.1 (by omega) (by omega)) rfl ?_
        refine q_iload (pc := 58) (j := 4) rfl rfl ?_
        exact q_iret (pc := 60) rfl rfl (pA_ok (by rw [oSet, if_pos (pB_t h5), if_pos (pB_t h14), if_pos (pB_t h22), tN_nI (by omega), tN_nI (by omega)]) (by rw [tN_nI (by omega), tN_nI (by omega)]; exact fr_rf))
      · refine q_aload_n (pc := 25) (j := 0) rfl rfl ?_
        refine q_iconst (pc := 26) 1 rfl (by decide) ?_
        refine q_callV (pc := 27) (as := [.int 1]) (rest := []) (b := 0) (st2 := [.int (-2147483000 - nI 1)]) rfl ce_X8_refuse ml_X8_82 im_X8_refuse se_X8_refuse he.1 rfl rfl rfl (by decide) (Nat.le_of_ble_eq_true rfl) (sp_X8_refuse (e := 1) he (by decide)) rfl ?_
        exact q_iret (pc := 30) rfl rfl (pA_no (k := 0) (by rw [oSet, if_pos (pB_t h5), if_pos (pB_t h14), if_neg (show ¬ _ = true from by rw [pB_f h22]; decide)]) fr_rf)
set_option maxRecDepth 100000 in
theorem sp_X8_of {sh : List PSh} {S : PSt} {N : Nat} (he : isEl sh) (hi : cIv S N) {c what : Int32}  : pG mX8_of 2 [.ref 0, .int c, .int what] sh S (pA (oOf (S.1 3) N c what) S S) := by
  obtain ⟨hN, hN2, hg, hw⟩ := hi
  refine pG.of [some (.ref 0), some (.int c), some (.int what)] (by decide) tk_X8_of (Nat.le_of_ble_eq_true rfl) rfl (fun X => ?_)
  refine q_aload_n (pc := 0) (j := 0) rfl rfl ?_
  refine q_iload_n (pc := 1) (j := 1) rfl rfl ?_
  refine q_callV (pc := 2) (as := [.int c]) (rest := []) (b := 0) (st2 := [.int (pB (isCoB N c))]) rfl ce_X8_isColumn ml_X8_97 im_X8_isColumn se_X8_isColumn he.1 rfl rfl rfl (by decide) (Nat.le_of_ble_eq_true rfl) (sp_X8_isColumn he hN hN2) rfl ?_
  refine q_if_eq (pc := 5) 18 rfl (by decide) (fun h5 => ?_) (fun h5 => ?_)
  · refine q_aload_n (pc := 18) (j := 0) rfl rfl ?_
    refine q_iconst (pc := 19) 1 rfl (by decide) ?_
    refine q_callV (pc := 20) (as := [.int 1]) (rest := []) (b := 0) (st2 := [.int (-2147483000 - nI 1)]) rfl ce_X8_refuse ml_X8_82 im_X8_refuse se_X8_refuse he.1 rfl rfl rfl (by decide) (Nat.le_of_ble_eq_true rfl) (sp_X8_refuse (e := 1) he (by decide)) rfl ?_
    exact q_iret (pc := 23) rfl rfl (pA_no (k := 0) (by rw [oOf, if_neg (show ¬ _ = true from by rw [pB_f h5]; decide)]) fr_rf)
  · refine q_iload_n (pc := 8) (j := 2) rfl rfl ?_
    refine q_iconst (pc := 9) 0 rfl (by decide) ?_
    refine q_bipush (pc := 10) 6 rfl (by decide) ?_
    refine q_callS (pc := 12) (as := [.int what, .int 0, .int 6]) (rest := []) (st2 := [.int (pB (pWi what 0 6))]) rfl ce_X8_isWithin ml_X8_101 st_X8_isWithin rfl (by decide) (Nat.le_of_ble_eq_true rfl) (sp_X8_isWithin) rfl ?_
    refine q_if_ne (pc := 15) 24 rfl (by decide) (fun h15 => ?_) (fun h15 => ?_)
    · obtain ⟨x, rfl, hxN⟩ := isCo_of hN2 (pB_t h5); obtain ⟨u, hu, rfl⟩ := pWi_of (m := 6) (by decide) (by decide) (pB_t h15)
      refine q_iload_n (pc := 24) (j := 2) rfl rfl ?_
      refine q_iconst (pc := 25) 5 rfl (by decide) ?_
      refine q_icmp_ge (pc := 26) 42 rfl (by decide) (fun h26 => ?_) (fun h26 => ?_)
      · refine q_iload_n (pc := 42) (j := 2) rfl rfl ?_
        refine q_iconst (pc := 43) 5 rfl (by decide) ?_
        refine q_icmp_ne (pc := 44) 61 rfl (by decide) (fun h44 => ?_) (fun h44 => ?_)
        · refine q_aload_n (pc := 61) (j := 0) rfl rfl ?_
          refine q_get (pc := 62) (a := 0) (v := .ref 1) rfl fl_X8_10 he.1 rfl rfl ?_
          refine q_get (pc := 65) (a := 1) (v := .ref 2) rfl fl_X8_90 he.2.1.1 rfl rfl ?_
          refine q_iload_n (pc := 68) (j := 1) rfl rfl ?_
          refine q_callV (pc := 69) (as := [.int (nI x)]) (rest := []) (b := 2) (st2 := [.int (botV (S.1 3 (5 * x + 0)) (S.1 3 (5 * x + 2)))]) rfl ce_X4_bottom ml_X8_116 im_X4_bottom se_X4_bottom he.2.1.2.1.1 rfl rfl rfl (by decide) (Nat.le_of_ble_eq_true rfl) (sp_X4_bottom (c := x) he.2.1.2.1 (by omega)) rfl ?_
          exact q_iret (pc := 72) rfl rfl (pA_ok (by rw [oOf, if_pos (pB_t h5), if_pos (pB_t h15), if_neg (Int32.not_lt.mpr h26), if_neg h44, tN_nI (by omega)]; rfl) fr_rf)
        · refine q_aload_n (pc := 47) (j := 0) rfl rfl ?_
          refine q_get (pc := 48) (a := 0) (v := .ref 1) rfl fl_X8_10 he.1 rfl rfl ?_
          refine q_get (pc := 51) (a := 1) (v := .ref 2) rfl fl_X8_90 he.2.1.1 rfl rfl ?_
          refine q_iload_n (pc := 54) (j := 1) rfl rfl ?_
          refine q_callV (pc := 55) (as := [.int (nI x)]) (rest := []) (b := 2) (st2 := [.int (topV (S.1 3 (5 * x + 0)) (S.1 3 (5 * x + 2)) (S.1 3 (5 * x + 4)))]) rfl ce_X4_top ml_X8_113 im_X4_top se_X4_top he.2.1.2.1.1 rfl rfl rfl (by decide) (Nat.le_of_ble_eq_true rfl) (sp_X4_top (c := x) he.2.1.2.1 (by omega)) rfl ?_
          refine q_goto (pc := 58) 72 rfl (by decide) ?_
          exact q_iret (pc := 72) rfl rfl (pA_ok (by rw [oOf, if_pos (pB_t h5), if_pos (pB_t h15), if_neg (Int32.not_lt.mpr h26), if_pos h44, tN_nI (by omega)]; rfl) fr_rf)
      · have hu5 : u < 5 := by have := mt (nI_leI (a := 5) (b := u) (by omega) (by omega)).mpr h26; omega
        refine q_aload_n (pc := 29) (j := 0) rfl rfl ?_
        refine q_get (pc := 30) (a := 0) (v := .ref 1) rfl fl_X8_10 he.1 rfl rfl ?_
        refine q_get (pc := 33) (a := 1) (v := .ref 2) rfl fl_X8_90 he.2.1.1 rfl rfl ?_
        refine q_iload_n (pc := 36) (j := 1) rfl rfl ?_
        refine q_iload_n (pc := 37) (j := 2) rfl rfl ?_
        refine q_callV (pc := 38) (as := [.int (nI x), .int (nI u)]) (rest := []) (b := 2) (st2 := [.int (S.1 3 (5 * x + u))]) rfl ce_X4_part ml_X8_105 im_X4_part se_X4_part he.2.1.2.1.1 rfl rfl rfl (by decide) (Nat.le_of_ble_eq_true rfl) (sp_X4_part (c := x) (w := u) he.2.1.2.1 (by omega) (by omega)) rfl ?_
        exact q_iret (pc := 41) rfl rfl (pA_ok (by rw [oOf, if_pos (pB_t h5), if_pos (pB_t h15), if_pos (Int32.not_le.mp h26), tN_nI (by omega), tN_nI (by omega)]) fr_rf)
    · refine q_aload_n (pc := 18) (j := 0) rfl rfl ?_
      refine q_iconst (pc := 19) 1 rfl (by decide) ?_
      refine q_callV (pc := 20) (as := [.int 1]) (rest := []) (b := 0) (st2 := [.int (-2147483000 - nI 1)]) rfl ce_X8_refuse ml_X8_82 im_X8_refuse se_X8_refuse he.1 rfl rfl rfl (by decide) (Nat.le_of_ble_eq_true rfl) (sp_X8_refuse (e := 1) he (by decide)) rfl ?_
      exact q_iret (pc := 23) rfl rfl (pA_no (k := 0) (by rw [oOf, if_pos (pB_t h5), if_neg (show ¬ _ = true from by rw [pB_f h15]; decide)]) fr_rf)
set_option maxRecDepth 100000 in
theorem sp_X8_spring {sh : List PSh} {S : PSt} {N : Nat} (he : isEl sh) (hi : cIv S N) {c what : Int32}  : pG mX8_spring 4 [.ref 0, .int c, .int what] sh S (pA (oSpring (S.1 3) N c what) S S) := by
  obtain ⟨hN, hN2, hg, hw⟩ := hi
  refine pG.of [some (.ref 0), some (.int c), some (.int what)] (by decide) tk_X8_spring (Nat.le_of_ble_eq_true rfl) rfl (fun X => ?_)
  refine q_aload_n (pc := 0) (j := 0) rfl rfl ?_
  refine q_iload_n (pc := 1) (j := 1) rfl rfl ?_
  refine q_callV (pc := 2) (as := [.int c]) (rest := []) (b := 0) (st2 := [.int (pB (isCoB N c))]) rfl ce_X8_isColumn ml_X8_97 im_X8_isColumn se_X8_isColumn he.1 rfl rfl rfl (by decide) (Nat.le_of_ble_eq_true rfl) (sp_X8_isColumn he hN hN2) rfl ?_
  refine q_if_eq (pc := 5) 17 rfl (by decide) (fun h5 => ?_) (fun h5 => ?_)
  · refine q_aload_n (pc := 17) (j := 0) rfl rfl ?_
    refine q_iconst (pc := 18) 1 rfl (by decide) ?_
    refine q_callV (pc := 19) (as := [.int 1]) (rest := []) (b := 0) (st2 := [.int (-2147483000 - nI 1)]) rfl ce_X8_refuse ml_X8_82 im_X8_refuse se_X8_refuse he.1 rfl rfl rfl (by decide) (Nat.le_of_ble_eq_true rfl) (sp_X8_refuse (e := 1) he (by decide)) rfl ?_
    exact q_iret (pc := 22) rfl rfl (pA_no (k := 0) (by rw [oSpring, if_neg (show ¬ _ = true from by rw [pB_f h5]; decide)]) fr_rf)
  · refine q_iload_n (pc := 8) (j := 2) rfl rfl ?_
    refine q_iconst (pc := 9) 0 rfl (by decide) ?_
    refine q_iconst (pc := 10) 2 rfl (by decide) ?_
    refine q_callS (pc := 11) (as := [.int what, .int 0, .int 2]) (rest := []) (st2 := [.int (pB (pWi what 0 2))]) rfl ce_X8_isWithin ml_X8_101 st_X8_isWithin rfl (by decide) (Nat.le_of_ble_eq_true rfl) (sp_X8_isWithin) rfl ?_
    refine q_if_ne (pc := 14) 23 rfl (by decide) (fun h14 => ?_) (fun h14 => ?_)
    · obtain ⟨x, rfl, hxN⟩ := isCo_of hN2 (pB_t h5)
      refine q_iload_n (pc := 23) (j := 2) rfl rfl ?_
      rcases Classical.em (what = (0 : Int32)) with hc24_0 | hc24_0
      · refine q_lookup (pc := 24) (off := 28) 52 rfl (by decide) (by rw [hc24_0]; decide) (by decide) ?_
        refine q_aload_n (pc := 52) (j := 0) rfl rfl ?_
        refine q_get (pc := 53) (a := 0) (v := .ref 1) rfl fl_X8_10 he.1 rfl rfl ?_
        refine q_get (pc := 56) (a := 1) (v := .ref 2) rfl fl_X8_90 he.2.1.1 rfl rfl ?_
        refine q_iload_n (pc := 59) (j := 1) rfl rfl ?_
        refine q_callV (pc := 60) (as := [.int (nI x)]) (rest := []) (b := 2) (st2 := [.float (idF (S.1 3 (5 * x + 0)) (S.1 3 (5 * x + 1)))]) rfl ce_X4_ideal ml_X8_119 im_X4_ideal se_X4_ideal he.2.1.2.1.1 rfl rfl rfl (by decide) (Nat.le_of_ble_eq_true rfl) (sp_X4_ideal (c := x) he.2.1.2.1 (by omega) (fun _ => (hg x hxN).2.1)) rfl ?_
        refine q_callS (pc := 63) (as := [.float (idF (S.1 3 (5 * x + 0)) (S.1 3 (5 * x + 1)))]) (rest := []) (st2 := [.int ((idF (S.1 3 (5 * x + 0)) (S.1 3 (5 * x + 1))).toInt32)]) rfl ce_X8_floatBits ml_X8_123 st_X8_floatBits rfl (by decide) (Nat.le_of_ble_eq_true rfl) (sp_floatBitsX (okX_U (id_fu (hg x hxN)).1.choose_spec.1 (by have := (id_fu (hg x hxN)).1.choose_spec.2; omega))) rfl ?_
        exact q_iret (pc := 66) rfl rfl (pA_ok (by rw [oSpring, if_pos (pB_t h5), if_pos (pB_t h14), tN_nI (by omega), if_pos hc24_0]; rfl) fr_rf)
      · skip
        rcases Classical.em (what = (1 : Int32)) with hc24_1 | hc24_1
        · refine q_lookup (pc := 24) (off := 43) 67 rfl (by decide) (by rw [hc24_1]; decide) (by decide) ?_
          refine q_aload_n (pc := 67) (j := 0) rfl rfl ?_
          refine q_get (pc := 68) (a := 0) (v := .ref 1) rfl fl_X8_10 he.1 rfl rfl ?_
          refine q_get (pc := 71) (a := 1) (v := .ref 2) rfl fl_X8_90 he.2.1.1 rfl rfl ?_
          refine q_iload_n (pc := 74) (j := 1) rfl rfl ?_
          refine q_aload_n (pc := 75) (j := 0) rfl rfl ?_
          refine q_get (pc := 76) (a := 0) (v := .ref 1) rfl fl_X8_10 he.1 rfl rfl ?_
          refine q_get (pc := 79) (a := 1) (v := .ref 2) rfl fl_X8_90 he.2.1.1 rfl rfl ?_
          refine q_iload_n (pc := 82) (j := 1) rfl rfl ?_
          refine q_callV (pc := 83) (as := [.int (nI x)]) (rest := [.int (nI x), .ref 2]) (b := 2) (st2 := [.float (idF (S.1 3 (5 * x + 0)) (S.1 3 (5 * x + 1))), .int (nI x), .ref 2]) rfl ce_X4_ideal ml_X8_119 im_X4_ideal se_X4_ideal he.2.1.2.1.1 rfl rfl rfl (by decide) (Nat.le_of_ble_eq_true rfl) (sp_X4_ideal (c := x) he.2.1.2.1 (by omega) (fun _ => (hg x hxN).2.1)) rfl ?_
          refine q_callV (pc := 86) (as := [.int (nI x), .float (idF (S.1 3 (5 * x + 0)) (S.1 3 (5 * x + 1)))]) (rest := []) (b := 2) (st2 := [.float (flF (S.1 3 (5 * x + 0)) (idF (S.1 3 (5 * x + 0)) (S.1 3 (5 * x + 1))))]) rfl ce_X4_flex ml_X8_127 im_X4_flex se_X4_flex he.2.1.2.1.1 rfl rfl rfl (by decide) (Nat.le_of_ble_eq_true rfl) (sp_X4_flex (c := x) he.2.1.2.1 (by omega) (fun h9 => fl_n (hg x hxN).2.1 h9)) rfl ?_
          refine q_callS (pc := 89) (as := [.float (flF (S.1 3 (5 * x + 0)) (idF (S.1 3 (5 * x + 0)) (S.1 3 (5 * x + 1))))]) (rest := []) (st2 := [.int ((flF (S.1 3 (5 * x + 0)) (idF (S.1 3 (5 * x + 0)) (S.1 3 (5 * x + 1)))).toInt32)]) rfl ce_X8_floatBits ml_X8_123 st_X8_floatBits rfl (by decide) (Nat.le_of_ble_eq_true rfl) (sp_floatBitsX (okX_U (id_fu (hg x hxN)).2.choose_spec.1 (by have := (id_fu (hg x hxN)).2.choose_spec.2; omega))) rfl ?_
          exact q_iret (pc := 92) rfl rfl (pA_ok (by rw [oSpring, if_pos (pB_t h5), if_pos (pB_t h14), tN_nI (by omega), if_neg hc24_0, if_pos hc24_1]; rfl) fr_rf)
        · skip
          refine q_lookup (pc := 24) (off := 69) 93 rfl (by decide) (lk_out2 hc24_0 hc24_1) (by decide) ?_
          refine q_aload_n (pc := 93) (j := 0) rfl rfl ?_
          refine q_get (pc := 94) (a := 0) (v := .ref 1) rfl fl_X8_10 he.1 rfl rfl ?_
          refine q_get (pc := 97) (a := 1) (v := .ref 2) rfl fl_X8_90 he.2.1.1 rfl rfl ?_
          refine q_iload_n (pc := 100) (j := 1) rfl rfl ?_
          refine q_callV (pc := 101) (as := [.int (nI x)]) (rest := []) (b := 2) (st2 := [.float (roF (S.1 3 (5 * x + 3)))]) rfl ce_X4_rod ml_X8_131 im_X4_rod se_X4_rod he.2.1.2.1.1 rfl rfl rfl (by decide) (Nat.le_of_ble_eq_true rfl) (sp_X4_rod (c := x) he.2.1.2.1 (by omega)) rfl ?_
          refine q_callS (pc := 104) (as := [.float (roF (S.1 3 (5 * x + 3)))]) (rest := []) (st2 := [.int ((roF (S.1 3 (5 * x + 3))).toInt32)]) rfl ce_X8_floatBits ml_X8_123 st_X8_floatBits rfl (by decide) (Nat.le_of_ble_eq_true rfl) (sp_floatBitsX (okX_U (ro_fu (hg x hxN)).choose_spec.1 (by have := (ro_fu (hg x hxN)).choose_spec.2; omega))) rfl ?_
          exact q_iret (pc := 107) rfl rfl (pA_ok (by rw [oSpring, if_pos (pB_t h5), if_pos (pB_t h14), tN_nI (by omega), if_neg hc24_0, if_neg hc24_1]; rfl) fr_rf)
    · refine q_aload_n (pc := 17) (j := 0) rfl rfl ?_
      refine q_iconst (pc := 18) 1 rfl (by decide) ?_
      refine q_callV (pc := 19) (as := [.int 1]) (rest := []) (b := 0) (st2 := [.int (-2147483000 - nI 1)]) rfl ce_X8_refuse ml_X8_82 im_X8_refuse se_X8_refuse he.1 rfl rfl rfl (by decide) (Nat.le_of_ble_eq_true rfl) (sp_X8_refuse (e := 1) he (by decide)) rfl ?_
      exact q_iret (pc := 22) rfl rfl (pA_no (k := 0) (by rw [oSpring, if_pos (pB_t h5), if_neg (show ¬ _ = true from by rw [pB_f h14]; decide)]) fr_rf)
set_option maxRecDepth 100000 in
theorem sp_X8_width {sh : List PSh} {S : PSt} {N : Nat} (he : isEl sh) (hi : cIv S N) {v : Int32}  : pG mX8_width 2 [.ref 0, .int v] sh S (pA (oWidth (S.1 1 2) v) S (pSI S 1 2 v)) := by
  obtain ⟨hN, hN2, hg, hw⟩ := hi
  refine pG.of [some (.ref 0), some (.int v), none] (by decide) tk_X8_width (Nat.le_of_ble_eq_true rfl) rfl (fun X => ?_)
  refine q_iload_n (pc := 0) (j := 1) rfl rfl ?_
  refine q_bipush (pc := 1) 20 rfl (by decide) ?_
  refine q_sipush (pc := 3) 380 rfl (by decide) ?_
  refine q_callS (pc := 6) (as := [.int v, .int 20, .int 380]) (rest := []) (st2 := [.int (pB (pWi v 20 380))]) rfl ce_X8_isWithin ml_X8_101 st_X8_isWithin rfl (by decide) (Nat.le_of_ble_eq_true rfl) (sp_X8_isWithin) rfl ?_
  refine q_if_ne (pc := 9) 18 rfl (by decide) (fun h9 => ?_) (fun h9 => ?_)
  · refine q_aload_n (pc := 18) (j := 0) rfl rfl ?_
    refine q_get (pc := 19) (a := 0) (v := .ref 1) rfl fl_X8_10 he.1 rfl rfl ?_
    refine q_get (pc := 22) (a := 1) (v := .int (S.1 1 2)) rfl fl_X8_134 he.2.1.1 rfl rfl ?_
    refine q_istore_n (pc := 25) (j := 2) [some (.ref 0), some (.int v), some (.int (S.1 1 2))] rfl (by decide) rfl ?_
    refine q_aload_n (pc := 26) (j := 0) rfl rfl ?_
    refine q_get (pc := 27) (a := 0) (v := .ref 1) rfl fl_X8_10 he.1 rfl rfl ?_
    refine q_iload_n (pc := 30) (j := 1) rfl rfl ?_
    refine q_putI (pc := 31) (a := 1) rfl fl_X8_134 he.2.1.1 rfl (fun _ h9 => by cases h9; rfl) rfl rfl ?_
    refine q_iload_n (pc := 34) (j := 2) rfl rfl ?_
    exact q_iret (pc := 35) rfl rfl (pA_ok (by rw [oWidth, if_pos (pB_t h9)]) fr_rf)
  · refine q_aload_n (pc := 12) (j := 0) rfl rfl ?_
    refine q_iconst (pc := 13) 1 rfl (by decide) ?_
    refine q_callV (pc := 14) (as := [.int 1]) (rest := []) (b := 0) (st2 := [.int (-2147483000 - nI 1)]) rfl ce_X8_refuse ml_X8_82 im_X8_refuse se_X8_refuse he.1 rfl rfl rfl (by decide) (Nat.le_of_ble_eq_true rfl) (sp_X8_refuse (e := 1) he (by decide)) rfl ?_
    exact q_iret (pc := 17) rfl rfl (pA_no (k := 0) (by rw [oWidth, if_neg (show ¬ _ = true from by rw [pB_f h9]; decide)]) fr_rf)
set_option maxRecDepth 100000 in
theorem sp_X8_force {sh : List PSh} {S : PSt} {N : Nat} (he : isEl sh) (hi : cIv S N) {a b : Int32}  : pG mX8_force 6 [.ref 0, .int a, .int b] sh S (pA (oForce (S.1 3) (S.1 1 2) N a b) S S) := by
  obtain ⟨hN, hN2, hg, hw⟩ := hi
  refine pG.of [some (.ref 0), some (.int a), some (.int b)] (by decide) tk_X8_force (Nat.le_of_ble_eq_true rfl) rfl (fun X => ?_)
  refine q_aload_n (pc := 0) (j := 0) rfl rfl ?_
  refine q_iload_n (pc := 1) (j := 1) rfl rfl ?_
  refine q_iload_n (pc := 2) (j := 2) rfl rfl ?_
  refine q_callV (pc := 3) (as := [.int a, .int b]) (rest := []) (b := 0) (st2 := [.int (pB (isStB N a b))]) rfl ce_X8_isStretch ml_X8_137 im_X8_isStretch se_X8_isStretch he.1 rfl rfl rfl (by decide) (Nat.le_of_ble_eq_true rfl) (sp_X8_isStretch he hN hN2) rfl ?_
  refine q_if_ne (pc := 6) 15 rfl (by decide) (fun h6 => ?_) (fun h6 => ?_)
  · obtain ⟨x, y, rfl, rfl, hxy, hyN⟩ := isSt_of hN2 (pB_t h6)
    refine q_aload_n (pc := 15) (j := 0) rfl rfl ?_
    refine q_get (pc := 16) (a := 0) (v := .ref 15) rfl fl_X8_26 he.1 rfl rfl ?_
    refine q_aload_n (pc := 19) (j := 0) rfl rfl ?_
    refine q_get (pc := 20) (a := 0) (v := .ref 1) rfl fl_X8_10 he.1 rfl rfl ?_
    refine q_get (pc := 23) (a := 1) (v := .ref 2) rfl fl_X8_90 he.2.1.1 rfl rfl ?_
    refine q_iload_n (pc := 26) (j := 1) rfl rfl ?_
    refine q_iload_n (pc := 27) (j := 2) rfl rfl ?_
    refine q_aload_n (pc := 28) (j := 0) rfl rfl ?_
    refine q_get (pc := 29) (a := 0) (v := .ref 1) rfl fl_X8_10 he.1 rfl rfl ?_
    refine q_get (pc := 32) (a := 1) (v := .int (S.1 1 2)) rfl fl_X8_134 he.2.1.1 rfl rfl ?_
    refine q_callV (pc := 35) (as := [.ref 2, .int (nI x), .int (nI y), .int (S.1 1 2)]) (rest := []) (b := 15) (st2 := []) rfl ce_X6_settle ml_X8_140 im_X6_settle se_X6_settle he.2.2.2.1.1 rfl rfl rfl (by decide) (Nat.le_of_ble_eq_true rfl) (sp_settleG (N := N) he.2.2.2.1 he.2.1.2.1 (by decide) hg hw hN2 (by omega) (by omega)) rfl ?_
    refine q_aload_n (pc := 38) (j := 0) rfl rfl ?_
    refine q_get (pc := 39) (a := 0) (v := .ref 15) rfl fl_X8_26 he.1 rfl rfl ?_
    refine q_get (pc := 42) (a := 15) (v := .float ((stl S 15 2 x (S.1 1 2) (y - x + 1)).2.1 15 9)) rfl fl_X8_144 he.2.2.2.1.1 rfl rfl ?_
    refine q_st (st2 := [.float ((setV (S.1 3) (S.1 1 2) x (y - x + 1)).2)]) (by rw [(show (stl S 15 2 x (S.1 1 2) (y - x + 1)).2.1 15 9 = (setV (S.1 3) (S.1 1 2) x (y - x + 1)).2 from stl_pull (by omega))]) ?_
    refine q_callS (pc := 45) (as := [.float ((setV (S.1 3) (S.1 1 2) x (y - x + 1)).2)]) (rest := []) (st2 := [.int (((setV (S.1 3) (S.1 1 2) x (y - x + 1)).2).toInt32)]) rfl ce_X8_floatBits ml_X8_123 st_X8_floatBits rfl (by decide) (Nat.le_of_ble_eq_true rfl) (sp_floatBitsX (setV_okQ hg hw (by omega) (by omega)).1) rfl ?_
    exact q_iret (pc := 48) rfl rfl (pA_ok (by rw [oForce, if_pos (pB_t h6), lnN, tN_nI (show x < 2 ^ 31 by omega), tN_nI (show y < 2 ^ 31 by omega)]) (fr_wd fr_stl (by decide) (by decide)))
  · refine q_aload_n (pc := 9) (j := 0) rfl rfl ?_
    refine q_iconst (pc := 10) 1 rfl (by decide) ?_
    refine q_callV (pc := 11) (as := [.int 1]) (rest := []) (b := 0) (st2 := [.int (-2147483000 - nI 1)]) rfl ce_X8_refuse ml_X8_82 im_X8_refuse se_X8_refuse he.1 rfl rfl rfl (by decide) (Nat.le_of_ble_eq_true rfl) (sp_X8_refuse (e := 1) he (by decide)) rfl ?_
    exact q_iret (pc := 14) rfl rfl (pA_no (k := 0) (by rw [oForce, if_neg (show ¬ _ = true from by rw [pB_f h6]; decide)]) fr_rf)
set_option maxRecDepth 100000 in
theorem sp_X8_held {sh : List PSh} {S : PSt} {N : Nat} (he : isEl sh) (hi : cIv S N) {a b : Int32}  : pG mX8_held 6 [.ref 0, .int a, .int b] sh S (pA (oHeld (S.1 3) (S.1 1 2) N a b) S S) := by
  obtain ⟨hN, hN2, hg, hw⟩ := hi
  refine pG.of [some (.ref 0), some (.int a), some (.int b)] (by decide) tk_X8_held (Nat.le_of_ble_eq_true rfl) rfl (fun X => ?_)
  refine q_aload_n (pc := 0) (j := 0) rfl rfl ?_
  refine q_iload_n (pc := 1) (j := 1) rfl rfl ?_
  refine q_iload_n (pc := 2) (j := 2) rfl rfl ?_
  refine q_callV (pc := 3) (as := [.int a, .int b]) (rest := []) (b := 0) (st2 := [.int (pB (isStB N a b))]) rfl ce_X8_isStretch ml_X8_137 im_X8_isStretch se_X8_isStretch he.1 rfl rfl rfl (by decide) (Nat.le_of_ble_eq_true rfl) (sp_X8_isStretch he hN hN2) rfl ?_
  refine q_if_ne (pc := 6) 15 rfl (by decide) (fun h6 => ?_) (fun h6 => ?_)
  · obtain ⟨x, y, rfl, rfl, hxy, hyN⟩ := isSt_of hN2 (pB_t h6)
    refine q_aload_n (pc := 15) (j := 0) rfl rfl ?_
    refine q_get (pc := 16) (a := 0) (v := .ref 15) rfl fl_X8_26 he.1 rfl rfl ?_
    refine q_aload_n (pc := 19) (j := 0) rfl rfl ?_
    refine q_get (pc := 20) (a := 0) (v := .ref 1) rfl fl_X8_10 he.1 rfl rfl ?_
    refine q_get (pc := 23) (a := 1) (v := .ref 2) rfl fl_X8_90 he.2.1.1 rfl rfl ?_
    refine q_iload_n (pc := 26) (j := 1) rfl rfl ?_
    refine q_iload_n (pc := 27) (j := 2) rfl rfl ?_
    refine q_aload_n (pc := 28) (j := 0) rfl rfl ?_
    refine q_get (pc := 29) (a := 0) (v := .ref 1) rfl fl_X8_10 he.1 rfl rfl ?_
    refine q_get (pc := 32) (a := 1) (v := .int (S.1 1 2)) rfl fl_X8_134 he.2.1.1 rfl rfl ?_
    refine q_callV (pc := 35) (as := [.ref 2, .int (nI x), .int (nI y), .int (S.1 1 2)]) (rest := []) (b := 15) (st2 := []) rfl ce_X6_settle ml_X8_140 im_X6_settle se_X6_settle he.2.2.2.1.1 rfl rfl rfl (by decide) (Nat.le_of_ble_eq_true rfl) (sp_settleG (N := N) he.2.2.2.1 he.2.1.2.1 (by decide) hg hw hN2 (by omega) (by omega)) rfl ?_
    refine q_aload_n (pc := 38) (j := 0) rfl rfl ?_
    refine q_get (pc := 39) (a := 0) (v := .ref 15) rfl fl_X8_26 he.1 rfl rfl ?_
    refine q_callV (pc := 42) (as := []) (rest := []) (b := 15) (st2 := [.int (nI (cntH (hd (stl S 15 2 x (S.1 1 2) (y - x + 1)) 15) (y - x + 1)))]) rfl ce_X6_heldCount ml_X8_148 im_X6_heldCount se_X6_heldCount he.2.2.2.1.1 rfl rfl rfl (by decide) (Nat.le_of_ble_eq_true rfl) (sp_X6_heldCount (n := y - x + 1) he.2.2.2.1 (by omega) stl_sz) rfl ?_
    exact q_iret (pc := 45) rfl rfl (pA_ok (by rw [oHeld, if_pos (pB_t h6), lnN, tN_nI (show x < 2 ^ 31 by omega), tN_nI (show y < 2 ^ 31 by omega), stl_held (by omega)]) (fr_wd fr_stl (by decide) (by decide)))
  · refine q_aload_n (pc := 9) (j := 0) rfl rfl ?_
    refine q_iconst (pc := 10) 1 rfl (by decide) ?_
    refine q_callV (pc := 11) (as := [.int 1]) (rest := []) (b := 0) (st2 := [.int (-2147483000 - nI 1)]) rfl ce_X8_refuse ml_X8_82 im_X8_refuse se_X8_refuse he.1 rfl rfl rfl (by decide) (Nat.le_of_ble_eq_true rfl) (sp_X8_refuse (e := 1) he (by decide)) rfl ?_
    exact q_iret (pc := 14) rfl rfl (pA_no (k := 0) (by rw [oHeld, if_neg (show ¬ _ = true from by rw [pB_f h6]; decide)]) fr_rf)
set_option maxRecDepth 100000 in
theorem sp_X8_at {sh : List PSh} {S : PSt} {N : Nat} (he : isEl sh) (hi : cIv S N) {a b i what : Int32}  : pG mX8_at 6 [.ref 0, .int a, .int b, .int i, .int what] sh S (pA (oAt (S.1 3) (S.1 1 2) N a b i what) S S) := by
  obtain ⟨hN, hN2, hg, hw⟩ := hi
  refine pG.of [some (.ref 0), some (.int a), some (.int b), some (.int i), some (.int what)] (by decide) tk_X8_at (Nat.le_of_ble_eq_true rfl) rfl (fun X => ?_)
  refine q_aload_n (pc := 0) (j := 0) rfl rfl ?_
  refine q_iload_n (pc := 1) (j := 1) rfl rfl ?_
  refine q_iload_n (pc := 2) (j := 2) rfl rfl ?_
  refine q_callV (pc := 3) (as := [.int a, .int b]) (rest := []) (b := 0) (st2 := [.int (pB (isStB N a b))]) rfl ce_X8_isStretch ml_X8_137 im_X8_isStretch se_X8_isStretch he.1 rfl rfl rfl (by decide) (Nat.le_of_ble_eq_true rfl) (sp_X8_isStretch he hN hN2) rfl ?_
  refine q_if_eq (pc := 6) 28 rfl (by decide) (fun h6 => ?_) (fun h6 => ?_)
  · refine q_aload_n (pc := 28) (j := 0) rfl rfl ?_
    refine q_iconst (pc := 29) 1 rfl (by decide) ?_
    refine q_callV (pc := 30) (as := [.int 1]) (rest := []) (b := 0) (st2 := [.int (-2147483000 - nI 1)]) rfl ce_X8_refuse ml_X8_82 im_X8_refuse se_X8_refuse he.1 rfl rfl rfl (by decide) (Nat.le_of_ble_eq_true rfl) (sp_X8_refuse (e := 1) he (by decide)) rfl ?_
    exact q_iret (pc := 33) rfl rfl (pA_no (k := 0) (by rw [oAt, if_neg (show ¬ _ = true from by rw [pB_f h6]; decide)]) fr_rf)
  · refine q_iload_n (pc := 9) (j := 3) rfl rfl ?_
    refine q_iload_n (pc := 10) (j := 1) rfl rfl ?_
    refine q_iload_n (pc := 11) (j := 2) rfl rfl ?_
    refine q_callS (pc := 12) (as := [.int i, .int a, .int b]) (rest := []) (st2 := [.int (pB (pWi i a b))]) rfl ce_X8_isWithin ml_X8_101 st_X8_isWithin rfl (by decide) (Nat.le_of_ble_eq_true rfl) (sp_X8_isWithin) rfl ?_
    refine q_if_eq (pc := 15) 28 rfl (by decide) (fun h15 => ?_) (fun h15 => ?_)
    · refine q_aload_n (pc := 28) (j := 0) rfl rfl ?_
      refine q_iconst (pc := 29) 1 rfl (by decide) ?_
      refine q_callV (pc := 30) (as := [.int 1]) (rest := []) (b := 0) (st2 := [.int (-2147483000 - nI 1)]) rfl ce_X8_refuse ml_X8_82 im_X8_refuse se_X8_refuse he.1 rfl rfl rfl (by decide) (Nat.le_of_ble_eq_true rfl) (sp_X8_refuse (e := 1) he (by decide)) rfl ?_
      exact q_iret (pc := 33) rfl rfl (pA_no (k := 0) (by rw [oAt, if_pos (pB_t h6), if_neg (show ¬ _ = true from by rw [pB_f h15]; decide)]) fr_rf)
    · refine q_iload (pc := 18) (j := 4) rfl rfl ?_
      refine q_iconst (pc := 20) 0 rfl (by decide) ?_
      refine q_iconst (pc := 21) 2 rfl (by decide) ?_
      refine q_callS (pc := 22) (as := [.int what, .int 0, .int 2]) (rest := []) (st2 := [.int (pB (pWi what 0 2))]) rfl ce_X8_isWithin ml_X8_101 st_X8_isWithin rfl (by decide) (Nat.le_of_ble_eq_true rfl) (sp_X8_isWithin) rfl ?_
      refine q_if_ne (pc := 25) 34 rfl (by decide) (fun h25 => ?_) (fun h25 => ?_)
      · obtain ⟨x, y, rfl, rfl, hxy, hyN⟩ := isSt_of hN2 (pB_t h6); obtain ⟨z, hz1, hz2, rfl⟩ := pWi_ab (by omega) (by omega) (pB_t h15)
        refine q_aload_n (pc := 34) (j := 0) rfl rfl ?_
        refine q_get (pc := 35) (a := 0) (v := .ref 15) rfl fl_X8_26 he.1 rfl rfl ?_
        refine q_aload_n (pc := 38) (j := 0) rfl rfl ?_
        refine q_get (pc := 39) (a := 0) (v := .ref 1) rfl fl_X8_10 he.1 rfl rfl ?_
        refine q_get (pc := 42) (a := 1) (v := .ref 2) rfl fl_X8_90 he.2.1.1 rfl rfl ?_
        refine q_iload_n (pc := 45) (j := 1) rfl rfl ?_
        refine q_iload_n (pc := 46) (j := 2) rfl rfl ?_
        refine q_aload_n (pc := 47) (j := 0) rfl rfl ?_
        refine q_get (pc := 48) (a := 0) (v := .ref 1) rfl fl_X8_10 he.1 rfl rfl ?_
        refine q_get (pc := 51) (a := 1) (v := .int (S.1 1 2)) rfl fl_X8_134 he.2.1.1 rfl rfl ?_
        refine q_callV (pc := 54) (as := [.ref 2, .int (nI x), .int (nI y), .int (S.1 1 2)]) (rest := []) (b := 15) (st2 := []) rfl ce_X6_settle ml_X8_140 im_X6_settle se_X6_settle he.2.2.2.1.1 rfl rfl rfl (by decide) (Nat.le_of_ble_eq_true rfl) (sp_settleG (N := N) he.2.2.2.1 he.2.1.2.1 (by decide) hg hw hN2 (by omega) (by omega)) rfl ?_
        refine q_iload (pc := 57) (j := 4) rfl rfl ?_
        rcases Classical.em (what = (0 : Int32)) with hc59_0 | hc59_0
        · refine q_lookup (pc := 59) (off := 25) 84 rfl (by decide) (by rw [hc59_0]; decide) (by decide) ?_
          refine q_aload_n (pc := 84) (j := 0) rfl rfl ?_
          refine q_get (pc := 85) (a := 0) (v := .ref 15) rfl fl_X8_26 he.1 rfl rfl ?_
          refine q_iload_n (pc := 88) (j := 3) rfl rfl ?_
          refine q_callV (pc := 89) (as := [.int (nI z)]) (rest := []) (b := 15) (st2 := [.float ((stl S 15 2 x (S.1 1 2) (y - x + 1)).2.1 20 (z - x))]) rfl ce_X6_length ml_X8_152 im_X6_length se_X6_length he.2.2.2.1.1 rfl rfl rfl (by decide) (Nat.le_of_ble_eq_true rfl) (sp_X6_length (a := x) (c := z) he.2.2.2.1 stl_6 (by omega) (by omega)) rfl ?_
          refine q_st (st2 := [.float (lenV (S.1 3) (S.1 1 2) x (y - x + 1) (z - x))]) (by rw [(show ((stl S 15 2 x (S.1 1 2) (y - x + 1)).2.1 20 (z - x)) = (lenV (S.1 3) (S.1 1 2) x (y - x + 1) (z - x)) from stl_length (by omega) (by omega))]) ?_
          refine q_callS (pc := 92) (as := [.float (lenV (S.1 3) (S.1 1 2) x (y - x + 1) (z - x))]) (rest := []) (st2 := [.int ((lenV (S.1 3) (S.1 1 2) x (y - x + 1) (z - x)).toInt32)]) rfl ce_X8_floatBits ml_X8_123 st_X8_floatBits rfl (by decide) (Nat.le_of_ble_eq_true rfl) (sp_floatBitsX (lenV_okX hg hw (by omega) (show x + (y - x + 1) ≤ N by omega) (by omega))) rfl ?_
          exact q_iret (pc := 95) rfl rfl (pA_ok (by rw [oAt, if_pos (pB_t h6), if_pos (pB_t h15), if_pos (pB_t h25), lnN, tN_nI (show x < 2 ^ 31 by omega), tN_nI (show y < 2 ^ 31 by omega), tN_nI (show z < 2 ^ 31 by omega), if_pos hc59_0]) (fr_wd fr_stl (by decide) (by decide)))
        · skip
          rcases Classical.em (what = (1 : Int32)) with hc59_1 | hc59_1
          · refine q_lookup (pc := 59) (off := 37) 96 rfl (by decide) (by rw [hc59_1]; decide) (by decide) ?_
            refine q_aload_n (pc := 96) (j := 0) rfl rfl ?_
            refine q_get (pc := 97) (a := 0) (v := .ref 15) rfl fl_X8_26 he.1 rfl rfl ?_
            refine q_iload_n (pc := 100) (j := 3) rfl rfl ?_
            refine q_callV (pc := 101) (as := [.int (nI z)]) (rest := []) (b := 15) (st2 := [.float ((stl S 15 2 x (S.1 1 2) (y - x + 1)).2.1 21 (z - x))]) rfl ce_X6_place ml_X8_155 im_X6_place se_X6_place he.2.2.2.1.1 rfl rfl rfl (by decide) (Nat.le_of_ble_eq_true rfl) (sp_X6_place (a := x) (c := z) he.2.2.2.1 stl_6 (by omega) (by omega)) rfl ?_
            refine q_st (st2 := [.float (atV (S.1 3) (S.1 1 2) x (y - x + 1) (z - x))]) (by rw [(show ((stl S 15 2 x (S.1 1 2) (y - x + 1)).2.1 21 (z - x)) = (atV (S.1 3) (S.1 1 2) x (y - x + 1) (z - x)) from stl_at (by omega) (by omega))]) ?_
            refine q_callS (pc := 104) (as := [.float (atV (S.1 3) (S.1 1 2) x (y - x + 1) (z - x))]) (rest := []) (st2 := [.int ((atV (S.1 3) (S.1 1 2) x (y - x + 1) (z - x)).toInt32)]) rfl ce_X8_floatBits ml_X8_123 st_X8_floatBits rfl (by decide) (Nat.le_of_ble_eq_true rfl) (sp_floatBitsX (atV_okX hg hw (by omega) (show x + (y - x + 1) ≤ N by omega) (by omega))) rfl ?_
            exact q_iret (pc := 107) rfl rfl (pA_ok (by rw [oAt, if_pos (pB_t h6), if_pos (pB_t h15), if_pos (pB_t h25), lnN, tN_nI (show x < 2 ^ 31 by omega), tN_nI (show y < 2 ^ 31 by omega), tN_nI (show z < 2 ^ 31 by omega), if_neg hc59_0, if_pos hc59_1]) (fr_wd fr_stl (by decide) (by decide)))
          · skip
            refine q_lookup (pc := 59) (off := 49) 108 rfl (by decide) (lk_out2 hc59_0 hc59_1) (by decide) ?_
            refine q_aload_n (pc := 108) (j := 0) rfl rfl ?_
            refine q_get (pc := 109) (a := 0) (v := .ref 15) rfl fl_X8_26 he.1 rfl rfl ?_
            refine q_iload_n (pc := 112) (j := 3) rfl rfl ?_
            refine q_callV (pc := 113) (as := [.int (nI z)]) (rest := []) (b := 15) (st2 := [.int (FP.f2i ((stl S 15 2 x (S.1 1 2) (y - x + 1)).2.1 21 (z - x)))]) rfl ce_X6_cell ml_X8_158 im_X6_cell se_X6_cell he.2.2.2.1.1 rfl rfl rfl (by decide) (Nat.le_of_ble_eq_true rfl) (sp_X6_cell (a := x) (c := z) he.2.2.2.1 stl_6 (by omega) (by omega)) rfl ?_
            refine q_st (st2 := [.int (FP.f2i (atV (S.1 3) (S.1 1 2) x (y - x + 1) (z - x)))]) (by rw [(show (FP.f2i ((stl S 15 2 x (S.1 1 2) (y - x + 1)).2.1 21 (z - x))) = FP.f2i (atV (S.1 3) (S.1 1 2) x (y - x + 1) (z - x)) from congrArg FP.f2i (stl_at (by omega) (by omega)))]) ?_
            exact q_iret (pc := 116) rfl rfl (pA_ok (by rw [oAt, if_pos (pB_t h6), if_pos (pB_t h15), if_pos (pB_t h25), lnN, tN_nI (show x < 2 ^ 31 by omega), tN_nI (show y < 2 ^ 31 by omega), tN_nI (show z < 2 ^ 31 by omega), if_neg hc59_0, if_neg hc59_1]; rfl) (fr_wd fr_stl (by decide) (by decide)))
      · refine q_aload_n (pc := 28) (j := 0) rfl rfl ?_
        refine q_iconst (pc := 29) 1 rfl (by decide) ?_
        refine q_callV (pc := 30) (as := [.int 1]) (rest := []) (b := 0) (st2 := [.int (-2147483000 - nI 1)]) rfl ce_X8_refuse ml_X8_82 im_X8_refuse se_X8_refuse he.1 rfl rfl rfl (by decide) (Nat.le_of_ble_eq_true rfl) (sp_X8_refuse (e := 1) he (by decide)) rfl ?_
        exact q_iret (pc := 33) rfl rfl (pA_no (k := 0) (by rw [oAt, if_pos (pB_t h6), if_pos (pB_t h15), if_neg (show ¬ _ = true from by rw [pB_f h25]; decide)]) fr_rf)
theorem tk_fit {S : PSt} {r q a n : Nat} {w : Int32} : fitB ((tk S r q a w n).2.1 r 8) ((tk S r q a w n).2.1 (r + 3)) n = fitV (S.1 (q + 1)) w a n := by
  unfold fitV fitB
  rw [show (tk S r q a w n).2.1 r 8 = FP.i2f w by simp [tk]]
  rw [sumF_congr (f' := fun j => roG (S.1 (q + 1)) (a + j)) (fun j hj => by simp [tk, hj]; rfl)]
theorem tk_bad {S : PSt} {r q a n : Nat} {w : Int32} : badF (qF ((tk S r q a w n).2.1 r 8) ((tk S r q a w n).2.1 (r + 1)) ((tk S r q a w n).2.1 (r + 2)) n) = badV (S.1 (q + 1)) w a n := by
  unfold badV qF
  rw [show (tk S r q a w n).2.1 r 8 = FP.i2f w by simp [tk]]
  rw [sumF_congr (f := (tk S r q a w n).2.1 (r + 2)) (f' := fun j => flG (S.1 (q + 1)) (a + j)) (fun j hj => by simp [tk, hj]; rfl)]
  rw [sumF_congr (f := (tk S r q a w n).2.1 (r + 1)) (f' := fun j => idG (S.1 (q + 1)) (a + j)) (fun j hj => by simp [tk, hj]; rfl)]
theorem fr_rfS {S T : PSt} {e : Nat} (h : fr 15 61 S T) : fr 15 61 (rfS S e) (rfS T e) := by
  intro x hx
  have hh := h x hx
  refine ⟨?_, hh.2.1, hh.2.2.1, hh.2.2.2⟩
  have h69 := (h 69 (by omega)).1
  show pU T.1 69 e (T.1 69 e + 1) x = pU S.1 69 e (S.1 69 e + 1) x
  funext j
  unfold pU
  rw [h69, hh.1]
set_option maxRecDepth 100000 in
theorem sp_X8_bad {sh : List PSh} {S : PSt} {N : Nat} (he : isEl sh) (hi : cIv S N) {a b : Int32}  : pG mX8_bad 4 [.ref 0, .int a, .int b] sh S (pA (oBad (S.1 3) (S.1 1 2) N a b) S S) := by
  obtain ⟨hN, hN2, hg, hw⟩ := hi
  refine pG.of [some (.ref 0), some (.int a), some (.int b)] (by decide) tk_X8_bad (Nat.le_of_ble_eq_true rfl) rfl (fun X => ?_)
  refine q_aload_n (pc := 0) (j := 0) rfl rfl ?_
  refine q_iload_n (pc := 1) (j := 1) rfl rfl ?_
  refine q_iload_n (pc := 2) (j := 2) rfl rfl ?_
  refine q_callV (pc := 3) (as := [.int a, .int b]) (rest := []) (b := 0) (st2 := [.int (pB (isStB N a b))]) rfl ce_X8_isStretch ml_X8_137 im_X8_isStretch se_X8_isStretch he.1 rfl rfl rfl (by decide) (Nat.le_of_ble_eq_true rfl) (sp_X8_isStretch he hN hN2) rfl ?_
  refine q_if_ne (pc := 6) 15 rfl (by decide) (fun h6 => ?_) (fun h6 => ?_)
  · obtain ⟨x, y, rfl, rfl, hxy, hyN⟩ := isSt_of hN2 (pB_t h6)
    refine q_aload_n (pc := 15) (j := 0) rfl rfl ?_
    refine q_get (pc := 16) (a := 0) (v := .ref 15) rfl fl_X8_26 he.1 rfl rfl ?_
    refine q_aload_n (pc := 19) (j := 0) rfl rfl ?_
    refine q_get (pc := 20) (a := 0) (v := .ref 1) rfl fl_X8_10 he.1 rfl rfl ?_
    refine q_get (pc := 23) (a := 1) (v := .ref 2) rfl fl_X8_90 he.2.1.1 rfl rfl ?_
    refine q_iload_n (pc := 26) (j := 1) rfl rfl ?_
    refine q_iload_n (pc := 27) (j := 2) rfl rfl ?_
    refine q_aload_n (pc := 28) (j := 0) rfl rfl ?_
    refine q_get (pc := 29) (a := 0) (v := .ref 1) rfl fl_X8_10 he.1 rfl rfl ?_
    refine q_get (pc := 32) (a := 1) (v := .int (S.1 1 2)) rfl fl_X8_134 he.2.1.1 rfl rfl ?_
    refine q_callV (pc := 35) (as := [.ref 2, .int (nI x), .int (nI y), .int (S.1 1 2)]) (rest := []) (b := 15) (st2 := []) rfl ce_X6_take ml_X8_161 im_X6_take se_X6_take he.2.2.2.1.1 rfl rfl rfl (by decide) (Nat.le_of_ble_eq_true rfl) (sp_X6_take (a := x) (n := y - x + 1) he.2.2.2.1 he.2.1.2.1 (by decide) (by omega) (by omega) (by omega) (fun i _ h9 _ => (hg i (by omega)).2.1)) rfl ?_
    refine q_aload_n (pc := 38) (j := 0) rfl rfl ?_
    refine q_get (pc := 39) (a := 0) (v := .ref 15) rfl fl_X8_26 he.1 rfl rfl ?_
    refine q_callV (pc := 42) (as := []) (rest := []) (b := 15) (st2 := [.int (pB (fitB ((tk S 15 2 x (S.1 1 2) (y - x + 1)).2.1 15 8) ((tk S 15 2 x (S.1 1 2) (y - x + 1)).2.1 (15 + 3)) (y - x + 1)))]) rfl ce_X6_fits ml_X8_164 im_X6_fits se_X6_fits he.2.2.2.1.1 rfl rfl rfl (by decide) (Nat.le_of_ble_eq_true rfl) (sp_X6_fits (n := y - x + 1) he.2.2.2.1 (by omega) tk_sz (qF_ok (tk_spK hg hw (by omega) (show x + (y - x + 1) ≤ N by omega) sameSp_rf)).2.2.1) rfl ?_
    refine q_st (st2 := [.int (pB (fitV (S.1 3) (S.1 1 2) x (y - x + 1)))]) (by rw [tk_fit]) ?_
    refine q_if_ne (pc := 45) 54 rfl (by decide) (fun h45 => ?_) (fun h45 => ?_)
    · refine q_aload_n (pc := 54) (j := 0) rfl rfl ?_
      refine q_get (pc := 55) (a := 0) (v := .ref 15) rfl fl_X8_26 he.1 rfl rfl ?_
      refine q_callV (pc := 58) (as := []) (rest := []) (b := 15) (st2 := [.float (badF (qF ((tk S 15 2 x (S.1 1 2) (y - x + 1)).2.1 15 8) ((tk S 15 2 x (S.1 1 2) (y - x + 1)).2.1 (15 + 1)) ((tk S 15 2 x (S.1 1 2) (y - x + 1)).2.1 (15 + 2)) (y - x + 1)))]) rfl ce_X6_badness ml_X8_168 im_X6_badness se_X6_badness he.2.2.2.1.1 rfl rfl rfl (by decide) (Nat.le_of_ble_eq_true rfl) (sp_X6_badness (n := y - x + 1) he.2.2.2.1 (by omega) tk_sz (qF_ok (tk_spK hg hw (by omega) (show x + (y - x + 1) ≤ N by omega) sameSp_rf)).1) rfl ?_
      refine q_st (st2 := [.float (badV (S.1 3) (S.1 1 2) x (y - x + 1))]) (by rw [tk_bad]) ?_
      refine q_callS (pc := 61) (as := [.float (badV (S.1 3) (S.1 1 2) x (y - x + 1))]) (rest := []) (st2 := [.int ((badV (S.1 3) (S.1 1 2) x (y - x + 1)).toInt32)]) rfl ce_X8_floatBits ml_X8_123 st_X8_floatBits rfl (by decide) (Nat.le_of_ble_eq_true rfl) (sp_floatBitsX (badV_ok hg hw (by omega) (show x + (y - x + 1) ≤ N by omega)).1) rfl ?_
      exact q_iret (pc := 64) rfl rfl (pA_ok (by rw [oBad, if_pos (pB_t h6), lnN, tN_nI (show x < 2 ^ 31 by omega), tN_nI (show y < 2 ^ 31 by omega), if_pos (pB_t h45)]) (fr_wd fr_tk (by decide) (by decide)))
    · refine q_aload_n (pc := 48) (j := 0) rfl rfl ?_
      refine q_iconst (pc := 49) 2 rfl (by decide) ?_
      refine q_callV (pc := 50) (as := [.int 2]) (rest := []) (b := 0) (st2 := [.int (-2147483000 - nI 2)]) rfl ce_X8_refuse ml_X8_82 im_X8_refuse se_X8_refuse he.1 rfl rfl rfl (by decide) (Nat.le_of_ble_eq_true rfl) (sp_X8_refuse (e := 2) he (by decide)) rfl ?_
      exact q_iret (pc := 53) rfl rfl (pA_no (k := 1) (by rw [oBad, if_pos (pB_t h6), lnN, tN_nI (show x < 2 ^ 31 by omega), tN_nI (show y < 2 ^ 31 by omega), if_neg (show ¬ _ = true from by rw [pB_f h45]; decide)]) (fr_rfS (fr_wd fr_tk (by decide) (by decide))))
  · refine q_aload_n (pc := 9) (j := 0) rfl rfl ?_
    refine q_iconst (pc := 10) 1 rfl (by decide) ?_
    refine q_callV (pc := 11) (as := [.int 1]) (rest := []) (b := 0) (st2 := [.int (-2147483000 - nI 1)]) rfl ce_X8_refuse ml_X8_82 im_X8_refuse se_X8_refuse he.1 rfl rfl rfl (by decide) (Nat.le_of_ble_eq_true rfl) (sp_X8_refuse (e := 1) he (by decide)) rfl ?_
    exact q_iret (pc := 14) rfl rfl (pA_no (k := 0) (by rw [oBad, if_neg (show ¬ _ = true from by rw [pB_f h6]; decide)]) fr_rf)
set_option maxRecDepth 100000 in
theorem sp_X8_traceLine29 {sh : List PSh} {S : PSt} {N : Nat} (he : isEl sh) (hi : cIv S N) {x y : Nat} (hxy : x ≤ y) (hyN : y < N) : pF mX8_traceLine 6 [.ref 0, .ref 29, .int (nI x), .int (nI y)] sh S (tlS S 29 x y) (none) := by
  obtain ⟨hN, hN2, hg, hw⟩ := hi
  refine pF.of (pG.of [some (.ref 0), some (.ref 29), some (.int (nI x)), some (.int (nI y))] (by decide) tk_X8_traceLine (Nat.le_of_ble_eq_true rfl) rfl (fun X => ?_))
  refine q_aload_n (pc := 0) (j := 1) rfl rfl ?_
  refine q_ifnonnull (pc := 1) 5 rfl (by decide) ?_
  refine q_aload_n (pc := 5) (j := 0) rfl rfl ?_
  refine q_get (pc := 6) (a := 0) (v := .ref 15) rfl fl_X8_26 he.1 rfl rfl ?_
  refine q_aload_n (pc := 9) (j := 0) rfl rfl ?_
  refine q_get (pc := 10) (a := 0) (v := .ref 1) rfl fl_X8_10 he.1 rfl rfl ?_
  refine q_get (pc := 13) (a := 1) (v := .ref 2) rfl fl_X8_90 he.2.1.1 rfl rfl ?_
  refine q_iload_n (pc := 16) (j := 2) rfl rfl ?_
  refine q_iload_n (pc := 17) (j := 3) rfl rfl ?_
  refine q_aload_n (pc := 18) (j := 0) rfl rfl ?_
  refine q_get (pc := 19) (a := 0) (v := .ref 1) rfl fl_X8_10 he.1 rfl rfl ?_
  refine q_get (pc := 22) (a := 1) (v := .int (S.1 1 2)) rfl fl_X8_134 he.2.1.1 rfl rfl ?_
  refine q_callV (pc := 25) (as := [.ref 2, .int (nI x), .int (nI y), .int (S.1 1 2)]) (rest := []) (b := 15) (st2 := []) rfl ce_X6_settle ml_X8_140 im_X6_settle se_X6_settle he.2.2.2.1.1 rfl rfl rfl (by decide) (Nat.le_of_ble_eq_true rfl) (sp_settleG (N := N) he.2.2.2.1 he.2.1.2.1 (by decide) hg hw hN2 (by omega) (by omega)) rfl ?_
  refine q_aload_n (pc := 28) (j := 1) rfl rfl ?_
  refine q_aload_n (pc := 29) (j := 0) rfl rfl ?_
  refine q_get (pc := 30) (a := 0) (v := .ref 1) rfl fl_X8_10 he.1 rfl rfl ?_
  refine q_get (pc := 33) (a := 1) (v := .ref 2) rfl fl_X8_90 he.2.1.1 rfl rfl ?_
  refine q_aload_n (pc := 36) (j := 0) rfl rfl ?_
  refine q_get (pc := 37) (a := 0) (v := .ref 15) rfl fl_X8_26 he.1 rfl rfl ?_
  refine q_callV (pc := 40) (as := [.ref 2, .ref 15]) (rest := []) (b := 29) (st2 := []) rfl ce_X5_trace ml_X8_335 im_X5_trace se_X5_trace he.2.2.2.2.2.1.1 rfl rfl rfl (by decide) (Nat.le_of_ble_eq_true rfl) (sp_X5_trace (S := (stl S 15 2 x (S.1 1 2) (y - x + 1))) (r := 29) (q := 2) (t := 15) (a := x) (n := y - x + 1) he.2.2.2.2.2.1 he.2.1.2.1 he.2.2.2.1 (by omega) (by omega) stl_sz stl_6 (by decide) (by decide) (fun k hk => by rw [stl_at (r := 15) (q := 2) (by omega) hk]; exact f2i_pos (atV_ok hg hw (by omega) (show x + (y - x + 1) ≤ N by omega) k (by omega)).1 (atV_ok hg hw (by omega) (show x + (y - x + 1) ≤ N by omega) k (by omega)).2.1)) rfl ?_
  exact q_vret (pc := 43) rfl rfl ⟨rfl, rfl⟩
set_option maxRecDepth 100000 in
theorem sp_X8_traceLine33 {sh : List PSh} {S : PSt} {N : Nat} (he : isEl sh) (hi : cIv S N) {x y : Nat} (hxy : x ≤ y) (hyN : y < N) : pF mX8_traceLine 6 [.ref 0, .ref 33, .int (nI x), .int (nI y)] sh S (tlS S 33 x y) (none) := by
  obtain ⟨hN, hN2, hg, hw⟩ := hi
  refine pF.of (pG.of [some (.ref 0), some (.ref 33), some (.int (nI x)), some (.int (nI y))] (by decide) tk_X8_traceLine (Nat.le_of_ble_eq_true rfl) rfl (fun X => ?_))
  refine q_aload_n (pc := 0) (j := 1) rfl rfl ?_
  refine q_ifnonnull (pc := 1) 5 rfl (by decide) ?_
  refine q_aload_n (pc := 5) (j := 0) rfl rfl ?_
  refine q_get (pc := 6) (a := 0) (v := .ref 15) rfl fl_X8_26 he.1 rfl rfl ?_
  refine q_aload_n (pc := 9) (j := 0) rfl rfl ?_
  refine q_get (pc := 10) (a := 0) (v := .ref 1) rfl fl_X8_10 he.1 rfl rfl ?_
  refine q_get (pc := 13) (a := 1) (v := .ref 2) rfl fl_X8_90 he.2.1.1 rfl rfl ?_
  refine q_iload_n (pc := 16) (j := 2) rfl rfl ?_
  refine q_iload_n (pc := 17) (j := 3) rfl rfl ?_
  refine q_aload_n (pc := 18) (j := 0) rfl rfl ?_
  refine q_get (pc := 19) (a := 0) (v := .ref 1) rfl fl_X8_10 he.1 rfl rfl ?_
  refine q_get (pc := 22) (a := 1) (v := .int (S.1 1 2)) rfl fl_X8_134 he.2.1.1 rfl rfl ?_
  refine q_callV (pc := 25) (as := [.ref 2, .int (nI x), .int (nI y), .int (S.1 1 2)]) (rest := []) (b := 15) (st2 := []) rfl ce_X6_settle ml_X8_140 im_X6_settle se_X6_settle he.2.2.2.1.1 rfl rfl rfl (by decide) (Nat.le_of_ble_eq_true rfl) (sp_settleG (N := N) he.2.2.2.1 he.2.1.2.1 (by decide) hg hw hN2 (by omega) (by omega)) rfl ?_
  refine q_aload_n (pc := 28) (j := 1) rfl rfl ?_
  refine q_aload_n (pc := 29) (j := 0) rfl rfl ?_
  refine q_get (pc := 30) (a := 0) (v := .ref 1) rfl fl_X8_10 he.1 rfl rfl ?_
  refine q_get (pc := 33) (a := 1) (v := .ref 2) rfl fl_X8_90 he.2.1.1 rfl rfl ?_
  refine q_aload_n (pc := 36) (j := 0) rfl rfl ?_
  refine q_get (pc := 37) (a := 0) (v := .ref 15) rfl fl_X8_26 he.1 rfl rfl ?_
  refine q_callV (pc := 40) (as := [.ref 2, .ref 15]) (rest := []) (b := 33) (st2 := []) rfl ce_X5_trace ml_X8_335 im_X5_trace se_X5_trace he.2.2.2.2.2.2.1.1 rfl rfl rfl (by decide) (Nat.le_of_ble_eq_true rfl) (sp_X5_trace (S := (stl S 15 2 x (S.1 1 2) (y - x + 1))) (r := 33) (q := 2) (t := 15) (a := x) (n := y - x + 1) he.2.2.2.2.2.2.1 he.2.1.2.1 he.2.2.2.1 (by omega) (by omega) stl_sz stl_6 (by decide) (by decide) (fun k hk => by rw [stl_at (r := 15) (q := 2) (by omega) hk]; exact f2i_pos (atV_ok hg hw (by omega) (show x + (y - x + 1) ≤ N by omega) k (by omega)).1 (atV_ok hg hw (by omega) (show x + (y - x + 1) ≤ N by omega) k (by omega)).2.1)) rfl ?_
  exact q_vret (pc := 43) rfl rfl ⟨rfl, rfl⟩
theorem cIv_fr {S T : PSt} {N : Nat} (h : cIv S N) (hf : fr 15 61 S T) : cIv T N := by
  obtain ⟨h1, h2, h3, h4⟩ := h
  refine ⟨by rw [(hf 1 (by omega)).1]; exact h1, h2, by rw [(hf 3 (by omega)).1]; exact h3, by rw [(hf 1 (by omega)).1]; exact h4⟩
theorem tl_fr2 {S : PSt} {r x y : Nat} (h1 : 15 ≤ r) (h2 : r + 4 ≤ 61) : fr 15 61 S (tlS S r x y) := fr_tr (fr_wd fr_stl (by decide) (by decide)) (fr_wd tl_fr h1 h2)
/-- two skylines are traced, one behind the other -/
def t2S (S : PSt) (a b c d : Nat) : PSt := tlS (tlS S 29 a b) 33 c d
theorem t2_fr {S : PSt} {a b c d : Nat} : fr 15 61 S (t2S S a b c d) := fr_tr (tl_fr2 (by decide) (by decide)) (tl_fr2 (by decide) (by decide))
theorem t2_1 {S : PSt} {a b c d : Nat} (hn : b - a + 1 ≤ 32) : skR (t2S S a b c d) 29 (skyV (S.1 3) (S.1 1 2) a (b - a + 1)) := by
  intro x hx
  have h := tl_sk (S := S) (r := 29) (x := a) (y := b) hn x hx
  have e : ∀ k, 29 ≤ k → k < 33 → (t2S S a b c d).1 k = (tlS S 29 a b).1 k := fun k h1 h2 => ((tl_fr (S := tlS S 29 a b) (r := 33) (x := c) (y := d)) k (by omega)).1.trans ((fr_stl (S := tlS S 29 a b) (r := 15)) k (by omega)).1
  rw [e (29 + 1) (by omega) (by omega), e (29 + 2) (by omega) (by omega), e (29 + 3) (by omega) (by omega)]
  exact h
theorem t2_2 {S : PSt} {a b c d : Nat} (hn : d - c + 1 ≤ 32) : skR (t2S S a b c d) 33 (skyV (S.1 3) (S.1 1 2) c (d - c + 1)) := by
  have h := tl_sk (S := tlS S 29 a b) (r := 33) (x := c) (y := d) hn
  have e := tl_fr2 (S := S) (r := 29) (x := a) (y := b) (by decide) (by decide)
  rw [(e 3 (by omega)).1, (e 1 (by omega)).1] at h
  exact h
set_option maxRecDepth 100000 in
theorem lp_X8_distance {n0 : Nat} {X : Nat × (Nat → Int32)} {P : Option Value → PSt → Prop} {d : Nat} (hd9 : 2 ≤ d) {sh : List PSh} {S : PSt} (he : isEl sh) {f1 f2 : Nat → Bool × Int32 × Int32} {a b c e : Int32} (h1 : skR S 29 f1) (h2 : skR S 33 f2) (hex : pV mX8_distance d n0 X sh P 94 [some (.ref 0), some (.int a), some (.int b), some (.int c), some (.int e), some (.int (dsV f1 f2 400)), some (.int (nI 400))] [] S) : ∀ (m k : Nat), k + m = 400 → pV mX8_distance d n0 X sh P 28 [some (.ref 0), some (.int a), some (.int b), some (.int c), some (.int e), some (.int (dsV f1 f2 k)), some (.int (nI k))] [] S := by
  intro m
  induction m with
  | zero =>
    intro k hk
    have hk9 : 400 = k := by omega
    subst hk9
    refine q_iload (pc := 28) (j := 6) rfl rfl ?_
    refine q_sipush (pc := 30) 400 rfl (by decide) ?_
    refine q_icmp_ge (pc := 33) 94 rfl (by decide) (fun _ => ?_) (fun h9 => absurd (Int32.le_refl _) h9)
    exact hex
  | succ m ih =>
    intro k hk
    have hk1 : k < 400 := by omega
    have hk2 : k < 400 := hk1
    refine q_iload (pc := 28) (j := 6) rfl rfl ?_
    refine q_sipush (pc := 30) 400 rfl (by decide) ?_
    refine q_icmp_ge (pc := 33) 94 rfl (by decide) (fun h9 => absurd h9 (nI_ge (b := 400) hk1 (by decide))) (fun _ => ?_)
    refine q_aload_n (pc := 36) (j := 0) rfl rfl ?_
    refine q_get (pc := 37) (a := 0) (v := .ref 29) rfl fl_X8_36 he.1 rfl rfl ?_
    refine q_iload (pc := 40) (j := 6) rfl rfl ?_
    refine q_callV (pc := 42) (as := [.int (nI k)]) (rest := []) (b := 29) (st2 := [.int (pB (decide (S.1 30 k ≠ 0)))]) rfl ce_X5_hasInk ml_X8_176 im_X5_hasInk se_X5_hasInk he.2.2.2.2.2.1.1 rfl rfl rfl (by omega) (Nat.le_of_ble_eq_true rfl) (sp_X5_hasInk (x := k) he.2.2.2.2.2.1 (by omega)) rfl ?_
    refine q_if_eq (pc := 45) 88 rfl (by decide) (fun h45 => ?_) (fun h45 => ?_)
    · have c1 : (f1 k).1 = false := (h1 k hk1).1.mp (Classical.not_not.mp (pB_ndec h45))
      refine q_iinc (pc := 88) (j := 6) (n := 1) (nI (k + 1)) [some (.ref 0), some (.int a), some (.int b), some (.int c), some (.int e), some (.int (dsV f1 f2 k)), some (.int (nI (k + 1)))] rfl (by decide) rfl (nI_1 k) rfl ?_
      refine q_goto (pc := 91) 28 rfl (by decide) ?_
      exact q_L (by rw [dsV, if_neg (fun q9 => by rw [c1] at q9; exact absurd q9.1 (by decide))]) (ih (k + 1) (by omega))
    · have c1 : (f1 k).1 = true := by cases hc9 : (f1 k).1 with | true => rfl | false => exact absurd ((h1 k hk1).1.mpr hc9) (pB_dec h45)
      refine q_aload_n (pc := 48) (j := 0) rfl rfl ?_
      refine q_get (pc := 49) (a := 0) (v := .ref 33) rfl fl_X8_40 he.1 rfl rfl ?_
      refine q_iload (pc := 52) (j := 6) rfl rfl ?_
      refine q_callV (pc := 54) (as := [.int (nI k)]) (rest := []) (b := 33) (st2 := [.int (pB (decide (S.1 34 k ≠ 0)))]) rfl ce_X5_hasInk ml_X8_176 im_X5_hasInk se_X5_hasInk he.2.2.2.2.2.2.1.1 rfl rfl rfl (by omega) (Nat.le_of_ble_eq_true rfl) (sp_X5_hasInk (x := k) he.2.2.2.2.2.2.1 (by omega)) rfl ?_
      refine q_if_eq (pc := 57) 88 rfl (by decide) (fun h57 => ?_) (fun h57 => ?_)
      · have c2 : (f2 k).1 = false := (h2 k hk1).1.mp (Classical.not_not.mp (pB_ndec h57))
        refine q_iinc (pc := 88) (j := 6) (n := 1) (nI (k + 1)) [some (.ref 0), some (.int a), some (.int b), some (.int c), some (.int e), some (.int (dsV f1 f2 k)), some (.int (nI (k + 1)))] rfl (by decide) rfl (nI_1 k) rfl ?_
        refine q_goto (pc := 91) 28 rfl (by decide) ?_
        exact q_L (by rw [dsV, if_neg (fun q9 => by rw [c2] at q9; exact absurd q9.2 (by decide))]) (ih (k + 1) (by omega))
      · have c2 : (f2 k).1 = true := by cases hc9 : (f2 k).1 with | true => rfl | false => exact absurd ((h2 k hk1).1.mpr hc9) (pB_dec h57)
        refine q_iload (pc := 60) (j := 5) rfl rfl ?_
        refine q_aload_n (pc := 62) (j := 0) rfl rfl ?_
        refine q_get (pc := 63) (a := 0) (v := .ref 33) rfl fl_X8_40 he.1 rfl rfl ?_
        refine q_iload (pc := 66) (j := 6) rfl rfl ?_
        refine q_callV (pc := 68) (as := [.int (nI k)]) (rest := [.int (dsV f1 f2 k)]) (b := 33) (st2 := [.int (S.1 35 k), .int (dsV f1 f2 k)]) rfl ce_X5_upper ml_X8_179 im_X5_upper se_X5_upper he.2.2.2.2.2.2.1.1 rfl rfl rfl (by omega) (Nat.le_of_ble_eq_true rfl) (sp_X5_upper (x := k) he.2.2.2.2.2.2.1 (by omega)) rfl ?_
        refine q_aload_n (pc := 71) (j := 0) rfl rfl ?_
        refine q_get (pc := 72) (a := 0) (v := .ref 29) rfl fl_X8_36 he.1 rfl rfl ?_
        refine q_iload (pc := 75) (j := 6) rfl rfl ?_
        refine q_callV (pc := 77) (as := [.int (nI k)]) (rest := [.int (S.1 35 k), .int (dsV f1 f2 k)]) (b := 29) (st2 := [.int (S.1 32 k), .int (S.1 35 k), .int (dsV f1 f2 k)]) rfl ce_X5_lower ml_X8_182 im_X5_lower se_X5_lower he.2.2.2.2.2.1.1 rfl rfl rfl (by omega) (Nat.le_of_ble_eq_true rfl) (sp_X5_lower (x := k) he.2.2.2.2.2.1 (by omega)) rfl ?_
        refine q_isub (pc := 80) rfl ?_
        refine q_iconst (pc := 81) 2 rfl (by decide) ?_
        refine q_iadd (pc := 82) rfl ?_
        refine q_max (pc := 83) rfl ml_X8_339 (by omega) (Nat.le_of_ble_eq_true rfl) ?_
        refine q_st (st2 := [.int (mxI (dsV f1 f2 k) (S.1 35 k - S.1 32 k + 2))]) (by rw [(show (if (dsV f1 f2 k) < (((S.1 35 k) - (S.1 32 k)) + 2) then (((S.1 35 k) - (S.1 32 k)) + 2) else (dsV f1 f2 k)) = (mxI (dsV f1 f2 k) (S.1 35 k - S.1 32 k + 2)) from rfl)]) ?_
        refine q_istore (pc := 86) (j := 5) [some (.ref 0), some (.int a), some (.int b), some (.int c), some (.int e), some (.int (mxI (dsV f1 f2 k) (S.1 35 k - S.1 32 k + 2))), some (.int (nI k))] rfl (by decide) rfl ?_
        refine q_iinc (pc := 88) (j := 6) (n := 1) (nI (k + 1)) [some (.ref 0), some (.int a), some (.int b), some (.int c), some (.int e), some (.int (mxI (dsV f1 f2 k) (S.1 35 k - S.1 32 k + 2))), some (.int (nI (k + 1)))] rfl (by decide) rfl (nI_1 k) rfl ?_
        refine q_goto (pc := 91) 28 rfl (by decide) ?_
        exact q_L (by rw [dsV, if_pos ⟨c1, c2⟩, ← ((h1 k hk1).2 c1).2, ← ((h2 k hk1).2 c2).1]) (ih (k + 1) (by omega))
set_option maxRecDepth 100000 in
theorem sp_X8_distance {sh : List PSh} {S : PSt} {N : Nat} (he : isEl sh) (hi : cIv S N) {x y z u : Nat} (hxy : x ≤ y) (hyN : y < N) (hzu : z ≤ u) (huN : u < N) : pF mX8_distance 7 [.ref 0, .int (nI x), .int (nI y), .int (nI z), .int (nI u)] sh S (t2S S x y z u) (some (.int (apV (S.1 3) (S.1 1 2) x (y - x + 1) z (u - z + 1)))) := by
  obtain ⟨hN, hN2, hg, hw⟩ := hi
  refine pF.of (pG.of [some (.ref 0), some (.int (nI x)), some (.int (nI y)), some (.int (nI z)), some (.int (nI u)), none, none] (by decide) tk_X8_distance (Nat.le_of_ble_eq_true rfl) rfl (fun X => ?_))
  refine q_aload_n (pc := 0) (j := 0) rfl rfl ?_
  refine q_aload_n (pc := 1) (j := 0) rfl rfl ?_
  refine q_get (pc := 2) (a := 0) (v := .ref 29) rfl fl_X8_36 he.1 rfl rfl ?_
  refine q_iload_n (pc := 5) (j := 1) rfl rfl ?_
  refine q_iload_n (pc := 6) (j := 2) rfl rfl ?_
  refine q_callV (pc := 7) (as := [.ref 29, .int (nI x), .int (nI y)]) (rest := []) (b := 0) (st2 := []) rfl ce_X8_traceLine ml_X8_172 im_X8_traceLine se_X8_traceLine he.1 rfl rfl rfl (by decide) (Nat.le_of_ble_eq_true rfl) (sp_X8_traceLine29 (S := S) he ⟨hN, hN2, hg, hw⟩ (by omega) (by omega)) rfl ?_
  refine q_aload_n (pc := 10) (j := 0) rfl rfl ?_
  refine q_aload_n (pc := 11) (j := 0) rfl rfl ?_
  refine q_get (pc := 12) (a := 0) (v := .ref 33) rfl fl_X8_40 he.1 rfl rfl ?_
  refine q_iload_n (pc := 15) (j := 3) rfl rfl ?_
  refine q_iload (pc := 16) (j := 4) rfl rfl ?_
  refine q_callV (pc := 18) (as := [.ref 33, .int (nI z), .int (nI u)]) (rest := []) (b := 0) (st2 := []) rfl ce_X8_traceLine ml_X8_172 im_X8_traceLine se_X8_traceLine he.1 rfl rfl rfl (by decide) (Nat.le_of_ble_eq_true rfl) (sp_X8_traceLine33 (S := (tlS S 29 x y)) he (cIv_fr ⟨hN, hN2, hg, hw⟩ (tl_fr2 (by decide) (by decide))) (by omega) (by omega)) rfl ?_
  refine q_bipush (pc := 21) 8 rfl (by decide) ?_
  refine q_istore (pc := 23) (j := 5) [some (.ref 0), some (.int (nI x)), some (.int (nI y)), some (.int (nI z)), some (.int (nI u)), some (.int 8), none] rfl (by decide) rfl ?_
  refine q_iconst (pc := 25) 0 rfl (by decide) ?_
  refine q_istore (pc := 26) (j := 6) [some (.ref 0), some (.int (nI x)), some (.int (nI y)), some (.int (nI z)), some (.int (nI u)), some (.int 8), some (.int 0)] rfl (by decide) rfl ?_
  refine lp_X8_distance (S := t2S S x y z u) (by decide) he (t2_1 (by omega)) (t2_2 (by omega)) ?_ 400 0 rfl
  refine q_iload (pc := 94) (j := 5) rfl rfl ?_
  exact q_iret (pc := 96) rfl rfl ⟨rfl, rfl⟩
set_option maxRecDepth 100000 in
theorem sp_X8_sky {sh : List PSh} {S : PSt} {N : Nat} (he : isEl sh) (hi : cIv S N) {a b side cell : Int32}  : pG mX8_sky 7 [.ref 0, .int a, .int b, .int side, .int cell] sh S (pA (oSky (S.1 3) (S.1 1 2) N a b side cell) S S) := by
  obtain ⟨hN, hN2, hg, hw⟩ := hi
  refine pG.of [some (.ref 0), some (.int a), some (.int b), some (.int side), some (.int cell)] (by decide) tk_X8_sky (Nat.le_of_ble_eq_true rfl) rfl (fun X => ?_)
  refine q_aload_n (pc := 0) (j := 0) rfl rfl ?_
  refine q_iload_n (pc := 1) (j := 1) rfl rfl ?_
  refine q_iload_n (pc := 2) (j := 2) rfl rfl ?_
  refine q_callV (pc := 3) (as := [.int a, .int b]) (rest := []) (b := 0) (st2 := [.int (pB (isStB N a b))]) rfl ce_X8_isStretch ml_X8_137 im_X8_isStretch se_X8_isStretch he.1 rfl rfl rfl (by decide) (Nat.le_of_ble_eq_true rfl) (sp_X8_isStretch he hN hN2) rfl ?_
  refine q_if_eq (pc := 6) 30 rfl (by decide) (fun h6 => ?_) (fun h6 => ?_)
  · refine q_aload_n (pc := 30) (j := 0) rfl rfl ?_
    refine q_iconst (pc := 31) 1 rfl (by decide) ?_
    refine q_callV (pc := 32) (as := [.int 1]) (rest := []) (b := 0) (st2 := [.int (-2147483000 - nI 1)]) rfl ce_X8_refuse ml_X8_82 im_X8_refuse se_X8_refuse he.1 rfl rfl rfl (by decide) (Nat.le_of_ble_eq_true rfl) (sp_X8_refuse (e := 1) he (by decide)) rfl ?_
    exact q_iret (pc := 35) rfl rfl (pA_no (k := 0) (by rw [oSky, if_neg (show ¬ _ = true from by rw [pB_f h6]; decide)]) fr_rf)
  · refine q_iload_n (pc := 9) (j := 3) rfl rfl ?_
    refine q_iconst (pc := 10) 0 rfl (by decide) ?_
    refine q_iconst (pc := 11) 1 rfl (by decide) ?_
    refine q_callS (pc := 12) (as := [.int side, .int 0, .int 1]) (rest := []) (st2 := [.int (pB (pWi side 0 1))]) rfl ce_X8_isWithin ml_X8_101 st_X8_isWithin rfl (by decide) (Nat.le_of_ble_eq_true rfl) (sp_X8_isWithin) rfl ?_
    refine q_if_eq (pc := 15) 30 rfl (by decide) (fun h15 => ?_) (fun h15 => ?_)
    · refine q_aload_n (pc := 30) (j := 0) rfl rfl ?_
      refine q_iconst (pc := 31) 1 rfl (by decide) ?_
      refine q_callV (pc := 32) (as := [.int 1]) (rest := []) (b := 0) (st2 := [.int (-2147483000 - nI 1)]) rfl ce_X8_refuse ml_X8_82 im_X8_refuse se_X8_refuse he.1 rfl rfl rfl (by decide) (Nat.le_of_ble_eq_true rfl) (sp_X8_refuse (e := 1) he (by decide)) rfl ?_
      exact q_iret (pc := 35) rfl rfl (pA_no (k := 0) (by rw [oSky, if_pos (pB_t h6), if_neg (show ¬ _ = true from by rw [pB_f h15]; decide)]) fr_rf)
    · refine q_iload (pc := 18) (j := 4) rfl rfl ?_
      refine q_iconst (pc := 20) 0 rfl (by decide) ?_
      refine q_sipush (pc := 21) 399 rfl (by decide) ?_
      refine q_callS (pc := 24) (as := [.int cell, .int 0, .int 399]) (rest := []) (st2 := [.int (pB (pWi cell 0 399))]) rfl ce_X8_isWithin ml_X8_101 st_X8_isWithin rfl (by decide) (Nat.le_of_ble_eq_true rfl) (sp_X8_isWithin) rfl ?_
      refine q_if_ne (pc := 27) 36 rfl (by decide) (fun h27 => ?_) (fun h27 => ?_)
      · obtain ⟨x, y, rfl, rfl, hxy, hyN⟩ := isSt_of hN2 (pB_t h6); obtain ⟨u, hu, rfl⟩ := pWi_of (m := 399) (by decide) (by decide) (pB_t h27); have hsk := tl_sk (S := S) (r := 29) (x := x) (y := y) (by omega) u (by omega)
        refine q_aload_n (pc := 36) (j := 0) rfl rfl ?_
        refine q_aload_n (pc := 37) (j := 0) rfl rfl ?_
        refine q_get (pc := 38) (a := 0) (v := .ref 29) rfl fl_X8_36 he.1 rfl rfl ?_
        refine q_iload_n (pc := 41) (j := 1) rfl rfl ?_
        refine q_iload_n (pc := 42) (j := 2) rfl rfl ?_
        refine q_callV (pc := 43) (as := [.ref 29, .int (nI x), .int (nI y)]) (rest := []) (b := 0) (st2 := []) rfl ce_X8_traceLine ml_X8_172 im_X8_traceLine se_X8_traceLine he.1 rfl rfl rfl (by decide) (Nat.le_of_ble_eq_true rfl) (sp_X8_traceLine29 (S := S) he ⟨hN, hN2, hg, hw⟩ (by omega) (by omega)) rfl ?_
        refine q_aload_n (pc := 46) (j := 0) rfl rfl ?_
        refine q_get (pc := 47) (a := 0) (v := .ref 29) rfl fl_X8_36 he.1 rfl rfl ?_
        refine q_iload (pc := 50) (j := 4) rfl rfl ?_
        refine q_callV (pc := 52) (as := [.int (nI u)]) (rest := []) (b := 29) (st2 := [.int (pB (decide ((tlS S 29 x y).1 30 u ≠ 0)))]) rfl ce_X5_hasInk ml_X8_176 im_X5_hasInk se_X5_hasInk he.2.2.2.2.2.1.1 rfl rfl rfl (by decide) (Nat.le_of_ble_eq_true rfl) (sp_X5_hasInk (x := u) he.2.2.2.2.2.1 (by omega)) rfl ?_
        refine q_if_ne (pc := 55) 64 rfl (by decide) (fun h55 => ?_) (fun h55 => ?_)
        · have c1 : (skyV (S.1 3) (S.1 1 2) x (y - x + 1) u).1 = true := by cases hc9 : (skyV (S.1 3) (S.1 1 2) x (y - x + 1) u).1 with | true => rfl | false => exact absurd (hsk.1.mpr hc9) (pB_dec h55)
          refine q_iload_n (pc := 64) (j := 3) rfl rfl ?_
          refine q_if_ne (pc := 65) 80 rfl (by decide) (fun h65 => ?_) (fun h65 => ?_)
          · refine q_aload_n (pc := 80) (j := 0) rfl rfl ?_
            refine q_get (pc := 81) (a := 0) (v := .ref 29) rfl fl_X8_36 he.1 rfl rfl ?_
            refine q_iload (pc := 84) (j := 4) rfl rfl ?_
            refine q_callV (pc := 86) (as := [.int (nI u)]) (rest := []) (b := 29) (st2 := [.int ((tlS S 29 x y).1 32 u)]) rfl ce_X5_lower ml_X8_182 im_X5_lower se_X5_lower he.2.2.2.2.2.1.1 rfl rfl rfl (by decide) (Nat.le_of_ble_eq_true rfl) (sp_X5_lower (x := u) he.2.2.2.2.2.1 (by omega)) rfl ?_
            exact q_iret (pc := 89) rfl rfl (pA_ok (by rw [oSky, if_pos (pB_t h6), if_pos (pB_t h15), if_pos (pB_t h27), lnN, tN_nI (show x < 2 ^ 31 by omega), tN_nI (show y < 2 ^ 31 by omega), tN_nI (show u < 2 ^ 31 by omega), if_pos c1, if_neg h65, ← (hsk.2 c1).2]) (tl_fr2 (by decide) (by decide)))
          · refine q_aload_n (pc := 68) (j := 0) rfl rfl ?_
            refine q_get (pc := 69) (a := 0) (v := .ref 29) rfl fl_X8_36 he.1 rfl rfl ?_
            refine q_iload (pc := 72) (j := 4) rfl rfl ?_
            refine q_callV (pc := 74) (as := [.int (nI u)]) (rest := []) (b := 29) (st2 := [.int ((tlS S 29 x y).1 31 u)]) rfl ce_X5_upper ml_X8_179 im_X5_upper se_X5_upper he.2.2.2.2.2.1.1 rfl rfl rfl (by decide) (Nat.le_of_ble_eq_true rfl) (sp_X5_upper (x := u) he.2.2.2.2.2.1 (by omega)) rfl ?_
            refine q_goto (pc := 77) 89 rfl (by decide) ?_
            exact q_iret (pc := 89) rfl rfl (pA_ok (by rw [oSky, if_pos (pB_t h6), if_pos (pB_t h15), if_pos (pB_t h27), lnN, tN_nI (show x < 2 ^ 31 by omega), tN_nI (show y < 2 ^ 31 by omega), tN_nI (show u < 2 ^ 31 by omega), if_pos c1, if_pos h65, ← (hsk.2 c1).1]) (tl_fr2 (by decide) (by decide)))
        · have c1 : (skyV (S.1 3) (S.1 1 2) x (y - x + 1) u).1 = false := hsk.1.mp (Classical.not_not.mp (pB_ndec h55))
          refine q_aload_n (pc := 58) (j := 0) rfl rfl ?_
          refine q_iconst (pc := 59) 2 rfl (by decide) ?_
          refine q_callV (pc := 60) (as := [.int 2]) (rest := []) (b := 0) (st2 := [.int (-2147483000 - nI 2)]) rfl ce_X8_refuse ml_X8_82 im_X8_refuse se_X8_refuse he.1 rfl rfl rfl (by decide) (Nat.le_of_ble_eq_true rfl) (sp_X8_refuse (e := 2) he (by decide)) rfl ?_
          exact q_iret (pc := 63) rfl rfl (pA_no (k := 1) (by rw [oSky, if_pos (pB_t h6), if_pos (pB_t h15), if_pos (pB_t h27), lnN, tN_nI (show x < 2 ^ 31 by omega), tN_nI (show y < 2 ^ 31 by omega), tN_nI (show u < 2 ^ 31 by omega), if_neg (by rw [c1]; decide)]) (fr_rfS (tl_fr2 (by decide) (by decide))))
      · refine q_aload_n (pc := 30) (j := 0) rfl rfl ?_
        refine q_iconst (pc := 31) 1 rfl (by decide) ?_
        refine q_callV (pc := 32) (as := [.int 1]) (rest := []) (b := 0) (st2 := [.int (-2147483000 - nI 1)]) rfl ce_X8_refuse ml_X8_82 im_X8_refuse se_X8_refuse he.1 rfl rfl rfl (by decide) (Nat.le_of_ble_eq_true rfl) (sp_X8_refuse (e := 1) he (by decide)) rfl ?_
        exact q_iret (pc := 35) rfl rfl (pA_no (k := 0) (by rw [oSky, if_pos (pB_t h6), if_pos (pB_t h15), if_neg (show ¬ _ = true from by rw [pB_f h27]; decide)]) fr_rf)