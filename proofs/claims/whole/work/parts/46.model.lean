/-! the model: calls on a stretch: written by wip/whole/gen/c46.py -/
theorem fm_iv {S T : PSt} {N : Nat} (h : frM S T) (hi : mIv S N) : mIv T N := by
  obtain ⟨h1, h2, h3, h4⟩ := hi
  exact ⟨(fm_w h).trans h1, h2, by rw [fm_mG h]; exact h3, by rw [fm_w h]; exact h4⟩
theorem sp_X9_laysOutI {sh : List PSh} {S : PSt} {N x y : Nat} (hm : isMo sh) (hi : mIv S N) (hxy : x ≤ y) (hyN : y < N) : pF mX9_laysOut 4 [.ref 70, .int (nI x), .int (nI y)] sh S (lyM S x (y - x + 1)) none :=
  sp_X9_laysOut hm (by omega) hxy hyN hi.2.1 hi.2.2.1 hi.2.2.2
theorem lyT_at {S T : PSt} {x n k : Nat} (h : frM S T) (h1 : x ≤ k) (h2 : k < x + n) : (lyM T x n).2.1 76 k = atV (mG S) (S.1 71 1) x n (k - x) := by
  obtain ⟨j, rfl⟩ : ∃ j, k = x + j := ⟨k - x, by omega⟩
  rw [lyM_at (by omega), fm_mG h, fm_w h, Nat.add_sub_cancel_left]
theorem lyT_len {S T : PSt} {x n k : Nat} (h : frM S T) (h1 : x ≤ k) (h2 : k < x + n) : (lyM T x n).2.1 75 k = lenV (mG S) (S.1 71 1) x n (k - x) := by
  obtain ⟨j, rfl⟩ : ∃ j, k = x + j := ⟨k - x, by omega⟩
  rw [lyM_len (by omega), fm_mG h, fm_w h, Nat.add_sub_cancel_left]
theorem w_1 {u : Nat} (hu : u ≤ 2) (h2 : ¬ nI u = 2) (h0 : ¬ nI u = 0) : nI u = 1 := by
  rcases u with _ | _ | _ | u
  · exact absurd rfl h0
  · rfl
  · exact absurd rfl h2
  · omega
theorem cmp_lg {x y : UInt32} (hx : fF x) (hy : fF y) : Op.cmpValue (FP.fcmp x y) .l = Op.cmpValue (FP.fcmp x y) .g := by rw [cmp_some hx hy]; cases compare (fz x) (fz y) <;> rfl
theorem sumF_f (f : Nat → UInt32) : ∀ k, sumF f k = bsum (fun _ => false) false f k := by
  intro k
  induction k with
  | zero => rfl
  | succ k ih => unfold sumF bsum; rw [if_pos rfl, ih]
theorem sum_fF {f : Nat → UInt32} {lo hi : Int} (hlo : 0 ≤ lo) (hhi : lo ≤ hi) (hB : hi ≤ 2000) {k : Nat} (hk : k ≤ 64) (h : ∀ j, j < k → ∃ m : Int, fU (f j) m ∧ lo ≤ m ∧ m ≤ hi) : fF (sumF f k) := by
  obtain ⟨m, h1, _⟩ := bsum_fu (h := fun _ => false) (b := false) hlo hhi hB hk h
  rw [sumF_f]
  exact h1.1
theorem fls_gt {W : UInt32} {ids fls rods : Nat → UInt32} {n : Nat} (H : spK W ids fls rods n) (h0 : 0 < n) : fgt (sumF fls n) FP.fconst0 = true := by
  rw [sumF_f]
  exact bal_gt H (by rw [cntH_none]; omega)
/-- what isGood leaves -/
def bgS (S : PSt) (x n : Nat) : PSt := if fitV (mG S) (S.1 71 1) x n = true then pSF S 70 9 (badV (mG S) (S.1 71 1) x n) else S
theorem fm_bg {S : PSt} {x n : Nat} : frM S (bgS S x n) := by
  unfold bgS
  split
  · exact fm_F (by decide)
  · exact fm_rf
set_option maxRecDepth 100000 in
theorem sp_X9_force {sh : List PSh} {S : PSt} {N : Nat} (hm : isMo sh) (hi : mIv S N) {a b : Int32}  : pG mX9_force 5 [.ref 70, .int a, .int b] sh S (mA (oForce (mG S) (S.1 71 1) N a b) S S) := by
  obtain ⟨hN, hN2, hok, hw⟩ := id hi
  refine pG.of [some (.ref 70), some (.int a), some (.int b)] (by decide) tk_X9_force (Nat.le_of_ble_eq_true rfl) rfl (fun X => ?_)
  refine q_aload_n (pc := 0) (j := 0) rfl rfl ?_
  refine q_iload_n (pc := 1) (j := 1) rfl rfl ?_
  refine q_iload_n (pc := 2) (j := 2) rfl rfl ?_
  refine q_callV (pc := 3) (as := [.int a, .int b]) (rest := []) (b := 70) (st2 := [.int (pB (isStB N a b))]) rfl ce_X9_isStretch ml_X9_176 im_X9_isStretch se_X9_isStretch hm.1 rfl rfl rfl (by decide) (Nat.le_of_ble_eq_true rfl) (sp_X9_isStretch hm hN hN2) rfl ?_
  refine q_if_ne (pc := 6) 16 rfl (by decide) (fun h6 => ?_) (fun h6 => ?_)
  · obtain ⟨x, y, rfl, rfl, hxy, hyN⟩ := isSt_of hN2 (pB_t h6)
    refine q_aload_n (pc := 16) (j := 0) rfl rfl ?_
    refine q_iload_n (pc := 17) (j := 1) rfl rfl ?_
    refine q_iload_n (pc := 18) (j := 2) rfl rfl ?_
    refine q_callV (pc := 19) (as := [.int (nI x), .int (nI y)]) (rest := []) (b := 70) (st2 := []) rfl ce_X9_laysOut ml_X9_179 im_X9_laysOut se_X9_laysOut hm.1 rfl rfl rfl (by decide) (Nat.le_of_ble_eq_true rfl) (sp_X9_laysOutI (x := x) (y := y) (N := N) hm hi (by omega) (by omega)) rfl ?_
    refine q_aload_n (pc := 22) (j := 0) rfl rfl ?_
    refine q_get (pc := 23) (a := 70) (v := .float ((lyM S x (y - x + 1)).2.1 70 4)) rfl fl_X9_161 hm.1 rfl rfl ?_
    refine q_st (st2 := [.float ((setV (mG S) (S.1 71 1) x (y - x + 1)).2)]) (by rw [lyM_force]) ?_
    refine q_callS (pc := 26) (as := [.float ((setV (mG S) (S.1 71 1) x (y - x + 1)).2)]) (rest := []) (st2 := [.int (((setV (mG S) (S.1 71 1) x (y - x + 1)).2).toInt32)]) rfl ce_Jxf58ca_floatToIntBits_5c35a ml_X9_153 st_Jxf58ca_floatToIntBits_5c35a rfl (by decide) (Nat.le_of_ble_eq_true rfl) (sp_fbits (x := ((setV (mG S) (S.1 71 1) x (y - x + 1)).2)) (fF_nn (setV_okQ hok hw (by omega) (by omega)).1.1)) rfl ?_
    exact q_iret (pc := 29) rfl rfl (mA_ok (by rw [oForce, if_pos (pB_t h6), lnN, tN_nI (show x < 2 ^ 31 by omega), tN_nI (show y < 2 ^ 31 by omega)]) fm_ly)
  · refine q_aload_n (pc := 9) (j := 0) rfl rfl ?_
    refine q_ldc (pc := 10) (v := (-2147483001)) rfl kc_X9_109 ?_
    refine q_callV (pc := 12) (as := [.int (-2147483001)]) (rest := []) (b := 70) (st2 := [.int (-2147483000 - nI 1)]) rfl ce_X9_errs ml_X9_110 im_X9_errs se_X9_errs hm.1 rfl rfl rfl (by decide) (Nat.le_of_ble_eq_true rfl) (sp_X9_errs (e := 1) hm (by decide) (by decide)) rfl ?_
    exact q_iret (pc := 15) rfl rfl (mA_no (k := 0) (by rw [oForce, if_neg (show ¬ _ = true from by rw [pB_f h6]; decide)]) fm_rf)
set_option maxRecDepth 100000 in
theorem sp_X9_held {sh : List PSh} {S : PSt} {N : Nat} (hm : isMo sh) (hi : mIv S N) {a b : Int32}  : pG mX9_held 5 [.ref 70, .int a, .int b] sh S (mA (oHeld (mG S) (S.1 71 1) N a b) S S) := by
  obtain ⟨hN, hN2, hok, hw⟩ := id hi
  refine pG.of [some (.ref 70), some (.int a), some (.int b)] (by decide) tk_X9_held (Nat.le_of_ble_eq_true rfl) rfl (fun X => ?_)
  refine q_aload_n (pc := 0) (j := 0) rfl rfl ?_
  refine q_iload_n (pc := 1) (j := 1) rfl rfl ?_
  refine q_iload_n (pc := 2) (j := 2) rfl rfl ?_
  refine q_callV (pc := 3) (as := [.int a, .int b]) (rest := []) (b := 70) (st2 := [.int (pB (isStB N a b))]) rfl ce_X9_isStretch ml_X9_176 im_X9_isStretch se_X9_isStretch hm.1 rfl rfl rfl (by decide) (Nat.le_of_ble_eq_true rfl) (sp_X9_isStretch hm hN hN2) rfl ?_
  refine q_if_ne (pc := 6) 16 rfl (by decide) (fun h6 => ?_) (fun h6 => ?_)
  · obtain ⟨x, y, rfl, rfl, hxy, hyN⟩ := isSt_of hN2 (pB_t h6)
    refine q_aload_n (pc := 16) (j := 0) rfl rfl ?_
    refine q_iload_n (pc := 17) (j := 1) rfl rfl ?_
    refine q_iload_n (pc := 18) (j := 2) rfl rfl ?_
    refine q_callV (pc := 19) (as := [.int (nI x), .int (nI y)]) (rest := []) (b := 70) (st2 := []) rfl ce_X9_laysOut ml_X9_179 im_X9_laysOut se_X9_laysOut hm.1 rfl rfl rfl (by decide) (Nat.le_of_ble_eq_true rfl) (sp_X9_laysOutI (x := x) (y := y) (N := N) hm hi (by omega) (by omega)) rfl ?_
    refine q_aload_n (pc := 22) (j := 0) rfl rfl ?_
    refine q_get (pc := 23) (a := 70) (v := .int ((lyM S x (y - x + 1)).1 70 5)) rfl fl_X9_165 hm.1 rfl rfl ?_
    refine q_st (st2 := [.int (nI (heldV (mG S) (S.1 71 1) x (y - x + 1)))]) (by rw [lyM_held]) ?_
    exact q_iret (pc := 26) rfl rfl (mA_ok (by rw [oHeld, if_pos (pB_t h6), lnN, tN_nI (show x < 2 ^ 31 by omega), tN_nI (show y < 2 ^ 31 by omega)]) fm_ly)
  · refine q_aload_n (pc := 9) (j := 0) rfl rfl ?_
    refine q_ldc (pc := 10) (v := (-2147483001)) rfl kc_X9_109 ?_
    refine q_callV (pc := 12) (as := [.int (-2147483001)]) (rest := []) (b := 70) (st2 := [.int (-2147483000 - nI 1)]) rfl ce_X9_errs ml_X9_110 im_X9_errs se_X9_errs hm.1 rfl rfl rfl (by decide) (Nat.le_of_ble_eq_true rfl) (sp_X9_errs (e := 1) hm (by decide) (by decide)) rfl ?_
    exact q_iret (pc := 15) rfl rfl (mA_no (k := 0) (by rw [oHeld, if_neg (show ¬ _ = true from by rw [pB_f h6]; decide)]) fm_rf)
set_option maxRecDepth 100000 in
theorem sp_X9_at {sh : List PSh} {S : PSt} {N : Nat} (hm : isMo sh) (hi : mIv S N) {a b i what : Int32}  : pG mX9_at 5 [.ref 70, .int a, .int b, .int i, .int what] sh S (mA (oAt (mG S) (S.1 71 1) N a b i what) S S) := by
  obtain ⟨hN, hN2, hok, hw⟩ := id hi
  refine pG.of [some (.ref 70), some (.int a), some (.int b), some (.int i), some (.int what)] (by decide) tk_X9_at (Nat.le_of_ble_eq_true rfl) rfl (fun X => ?_)
  refine q_aload_n (pc := 0) (j := 0) rfl rfl ?_
  refine q_iload_n (pc := 1) (j := 1) rfl rfl ?_
  refine q_iload_n (pc := 2) (j := 2) rfl rfl ?_
  refine q_callV (pc := 3) (as := [.int a, .int b]) (rest := []) (b := 70) (st2 := [.int (pB (isStB N a b))]) rfl ce_X9_isStretch ml_X9_176 im_X9_isStretch se_X9_isStretch hm.1 rfl rfl rfl (by decide) (Nat.le_of_ble_eq_true rfl) (sp_X9_isStretch hm hN hN2) rfl ?_
  refine q_if_eq (pc := 6) 34 rfl (by decide) (fun h6 => ?_) (fun h6 => ?_)
  · refine q_aload_n (pc := 34) (j := 0) rfl rfl ?_
    refine q_ldc (pc := 35) (v := (-2147483001)) rfl kc_X9_109 ?_
    refine q_callV (pc := 37) (as := [.int (-2147483001)]) (rest := []) (b := 70) (st2 := [.int (-2147483000 - nI 1)]) rfl ce_X9_errs ml_X9_110 im_X9_errs se_X9_errs hm.1 rfl rfl rfl (by decide) (Nat.le_of_ble_eq_true rfl) (sp_X9_errs (e := 1) hm (by decide) (by decide)) rfl ?_
    exact q_iret (pc := 40) rfl rfl (mA_no (k := 0) (by rw [oAt, if_neg (show ¬ _ = true from by rw [pB_f h6]; decide)]) fm_rf)
  · refine q_iload_n (pc := 9) (j := 3) rfl rfl ?_
    refine q_i2l (pc := 10) rfl ?_
    refine q_iload_n (pc := 11) (j := 1) rfl rfl ?_
    refine q_i2l (pc := 12) rfl ?_
    refine q_iload_n (pc := 13) (j := 2) rfl rfl ?_
    refine q_i2l (pc := 14) rfl ?_
    refine q_callS (pc := 15) (as := [.long (i.toInt64), .long (a.toInt64), .long (b.toInt64)]) (rest := []) (st2 := [.int (pB (pWi i a b))]) rfl ce_X9_in ml_X9_85 st_X9_in rfl (by decide) (Nat.le_of_ble_eq_true rfl) (sp_X9_inW (v := i) (l := a) (m := b) (Int32.toInt_toInt64 _) (Int32.toInt_toInt64 _) (Int32.toInt_toInt64 _)) rfl ?_
    refine q_if_eq (pc := 18) 34 rfl (by decide) (fun h18 => ?_) (fun h18 => ?_)
    · refine q_aload_n (pc := 34) (j := 0) rfl rfl ?_
      refine q_ldc (pc := 35) (v := (-2147483001)) rfl kc_X9_109 ?_
      refine q_callV (pc := 37) (as := [.int (-2147483001)]) (rest := []) (b := 70) (st2 := [.int (-2147483000 - nI 1)]) rfl ce_X9_errs ml_X9_110 im_X9_errs se_X9_errs hm.1 rfl rfl rfl (by decide) (Nat.le_of_ble_eq_true rfl) (sp_X9_errs (e := 1) hm (by decide) (by decide)) rfl ?_
      exact q_iret (pc := 40) rfl rfl (mA_no (k := 0) (by rw [oAt, if_pos (pB_t h6), if_neg (show ¬ _ = true from by rw [pB_f h18]; decide)]) fm_rf)
    · refine q_iload (pc := 21) (j := 4) rfl rfl ?_
      refine q_i2l (pc := 23) rfl ?_
      refine q_lconst (pc := 24) 0 rfl (by decide) ?_
      refine q_ldc2 (pc := 25) (v := 2) rfl kc_X9_89 ?_
      refine q_callS (pc := 28) (as := [.long (what.toInt64), .long 0, .long 2]) (rest := []) (st2 := [.int (pB (pWi what 0 2))]) rfl ce_X9_in ml_X9_85 st_X9_in rfl (by decide) (Nat.le_of_ble_eq_true rfl) (sp_X9_inW (v := what) (l := 0) (m := 2) (Int32.toInt_toInt64 _) (by decide) (by decide)) rfl ?_
      refine q_if_ne (pc := 31) 41 rfl (by decide) (fun h31 => ?_) (fun h31 => ?_)
      · obtain ⟨x, y, rfl, rfl, hxy, hyN⟩ := isSt_of hN2 (pB_t h6); obtain ⟨k, hk1, hk2, rfl⟩ := pWi_ab (x := x) (y := y) (by omega) (by omega) (pB_t h18); obtain ⟨u, hu, rfl⟩ := pWi_of (m := 2) (by decide) (by decide) (pB_t h31)
        refine q_aload_n (pc := 41) (j := 0) rfl rfl ?_
        refine q_iload_n (pc := 42) (j := 1) rfl rfl ?_
        refine q_iload_n (pc := 43) (j := 2) rfl rfl ?_
        refine q_callV (pc := 44) (as := [.int (nI x), .int (nI y)]) (rest := []) (b := 70) (st2 := []) rfl ce_X9_laysOut ml_X9_179 im_X9_laysOut se_X9_laysOut hm.1 rfl rfl rfl (by decide) (Nat.le_of_ble_eq_true rfl) (sp_X9_laysOutI (x := x) (y := y) (N := N) hm hi (by omega) (by omega)) rfl ?_
        refine q_iload (pc := 47) (j := 4) rfl rfl ?_
        refine q_iconst (pc := 49) 2 rfl (by decide) ?_
        refine q_icmp_ne (pc := 50) 63 rfl (by decide) (fun h50 => ?_) (fun h50 => ?_)
        · refine q_iload (pc := 63) (j := 4) rfl rfl ?_
          refine q_if_ne (pc := 65) 77 rfl (by decide) (fun h65 => ?_) (fun h65 => ?_)
          · refine q_aload_n (pc := 77) (j := 0) rfl rfl ?_
            refine q_get (pc := 78) (a := 70) (v := .ref 76) rfl fl_X9_27 hm.1 rfl rfl ?_
            refine q_iload_n (pc := 81) (j := 3) rfl rfl ?_
            refine q_fald (pc := 82) (a := 76) k rfl hm.2.2.2.2.2.2.1 (vp_in_nI (by omega) (by decide)) (nI_clamp (by omega)) ?_
            refine q_st (st2 := [.float (atV (mG S) (S.1 71 1) x (y - x + 1) (k - x))]) (by rw [lyT_at fm_rf hk1 (by omega)]) ?_
            refine q_callS (pc := 83) (as := [.float (atV (mG S) (S.1 71 1) x (y - x + 1) (k - x))]) (rest := []) (st2 := [.int ((atV (mG S) (S.1 71 1) x (y - x + 1) (k - x)).toInt32)]) rfl ce_Jxf58ca_floatToIntBits_5c35a ml_X9_153 st_Jxf58ca_floatToIntBits_5c35a rfl (by decide) (Nat.le_of_ble_eq_true rfl) (sp_fbits (x := (atV (mG S) (S.1 71 1) x (y - x + 1) (k - x))) (fF_nn (atV_okX hok hw (by omega) (by omega) (by omega)).1)) rfl ?_
            exact q_iret (pc := 86) rfl rfl (mA_ok (by rw [oAt, if_pos (pB_t h6), if_pos (pB_t h18), if_pos (pB_t h31), lnN, tN_nI (show x < 2 ^ 31 by omega), tN_nI (show y < 2 ^ 31 by omega), tN_nI (show k < 2 ^ 31 by omega), if_neg (show ¬ nI u = 0 from h65), if_pos (w_1 hu h50 h65)]) fm_ly)
          · refine q_aload_n (pc := 68) (j := 0) rfl rfl ?_
            refine q_get (pc := 69) (a := 70) (v := .ref 75) rfl fl_X9_23 hm.1 rfl rfl ?_
            refine q_iload_n (pc := 72) (j := 3) rfl rfl ?_
            refine q_fald (pc := 73) (a := 75) k rfl hm.2.2.2.2.2.1 (vp_in_nI (by omega) (by decide)) (nI_clamp (by omega)) ?_
            refine q_st (st2 := [.float (lenV (mG S) (S.1 71 1) x (y - x + 1) (k - x))]) (by rw [lyT_len fm_rf hk1 (by omega)]) ?_
            refine q_goto (pc := 74) 83 rfl (by decide) ?_
            refine q_callS (pc := 83) (as := [.float (lenV (mG S) (S.1 71 1) x (y - x + 1) (k - x))]) (rest := []) (st2 := [.int ((lenV (mG S) (S.1 71 1) x (y - x + 1) (k - x)).toInt32)]) rfl ce_Jxf58ca_floatToIntBits_5c35a ml_X9_153 st_Jxf58ca_floatToIntBits_5c35a rfl (by decide) (Nat.le_of_ble_eq_true rfl) (sp_fbits (x := (lenV (mG S) (S.1 71 1) x (y - x + 1) (k - x))) (fF_nn (lenV_okX hok hw (by omega) (by omega) (by omega)).1)) rfl ?_
            exact q_iret (pc := 86) rfl rfl (mA_ok (by rw [oAt, if_pos (pB_t h6), if_pos (pB_t h18), if_pos (pB_t h31), lnN, tN_nI (show x < 2 ^ 31 by omega), tN_nI (show y < 2 ^ 31 by omega), tN_nI (show k < 2 ^ 31 by omega), if_pos (show nI u = 0 from h65)]) fm_ly)
        · refine q_aload_n (pc := 53) (j := 0) rfl rfl ?_
          refine q_get (pc := 54) (a := 70) (v := .ref 76) rfl fl_X9_27 hm.1 rfl rfl ?_
          refine q_iload_n (pc := 57) (j := 3) rfl rfl ?_
          refine q_fald (pc := 58) (a := 76) k rfl hm.2.2.2.2.2.2.1 (vp_in_nI (by omega) (by decide)) (nI_clamp (by omega)) ?_
          refine q_st (st2 := [.float (atV (mG S) (S.1 71 1) x (y - x + 1) (k - x))]) (by rw [lyT_at fm_rf hk1 (by omega)]) ?_
          refine q_f2i (pc := 59) rfl ?_
          refine q_goto (pc := 60) 86 rfl (by decide) ?_
          exact q_iret (pc := 86) rfl rfl (mA_ok (by rw [oAt, if_pos (pB_t h6), if_pos (pB_t h18), if_pos (pB_t h31), lnN, tN_nI (show x < 2 ^ 31 by omega), tN_nI (show y < 2 ^ 31 by omega), tN_nI (show k < 2 ^ 31 by omega), if_neg (show ¬ nI u = 0 by rw [h50]; decide), if_neg (show ¬ nI u = 1 by rw [h50]; decide)]; rfl) fm_ly)
      · refine q_aload_n (pc := 34) (j := 0) rfl rfl ?_
        refine q_ldc (pc := 35) (v := (-2147483001)) rfl kc_X9_109 ?_
        refine q_callV (pc := 37) (as := [.int (-2147483001)]) (rest := []) (b := 70) (st2 := [.int (-2147483000 - nI 1)]) rfl ce_X9_errs ml_X9_110 im_X9_errs se_X9_errs hm.1 rfl rfl rfl (by decide) (Nat.le_of_ble_eq_true rfl) (sp_X9_errs (e := 1) hm (by decide) (by decide)) rfl ?_
        exact q_iret (pc := 40) rfl rfl (mA_no (k := 0) (by rw [oAt, if_pos (pB_t h6), if_pos (pB_t h18), if_neg (show ¬ _ = true from by rw [pB_f h31]; decide)]) fm_rf)
set_option maxRecDepth 100000 in
theorem lp_X9_isGood {n0 : Nat} {X : Nat × (Nat → Int32)} {P : Option Value → PSt → Prop} {d : Nat} (hd9 : 3 ≤ d) {sh : List PSh} {S : PSt} (hm : isMo sh) {x y n N : Nat} (hi : mIv S N) (hn : x + n = y + 1) (hxy : x ≤ y) (hyN : y < N) (hN2 : N ≤ 32) (hok : okG (mG S) N) (hb : okSum (fun j => roG (mG S) (x + j)) n ∧ okSum (fun j => idG (mG S) (x + j)) n ∧ okSum (fun j => flG (mG S) (x + j)) n)  (hex : ∀ i, pV mX9_isGood d n0 X sh P 54 [some (.ref 70), some (.int (nI x)), some (.int (nI y)), some (.float (sumF (fun j => roG (mG S) (x + j)) n)), some (.float (sumF (fun j => idG (mG S) (x + j)) n)), some (.float (sumF (fun j => flG (mG S) (x + j)) n)), some (.int i)] [] S) : ∀ (m k : Nat), k + m = n → pV mX9_isGood d n0 X sh P 11 [some (.ref 70), some (.int (nI x)), some (.int (nI y)), some (.float (sumF (fun j => roG (mG S) (x + j)) k)), some (.float (sumF (fun j => idG (mG S) (x + j)) k)), some (.float (sumF (fun j => flG (mG S) (x + j)) k)), some (.int (nI (x + k)))] [] S := by
  intro m
  induction m with
  | zero =>
    intro k hk
    have hk9 : n = k := by omega
    subst hk9
    refine q_iload (pc := 11) (j := 6) rfl rfl ?_
    refine q_iload_n (pc := 13) (j := 2) rfl rfl ?_
    refine q_icmp_gt (pc := 14) 54 rfl (by decide) (fun _ => ?_) (fun h9 => absurd (nI_lt (by omega) (by omega)) h9)
    exact hex _
  | succ m ih =>
    intro k hk
    have hk1 : k < n := by omega
    have hk2 : k < n := hk1
    refine q_iload (pc := 11) (j := 6) rfl rfl ?_
    refine q_iload_n (pc := 13) (j := 2) rfl rfl ?_
    refine q_icmp_gt (pc := 14) 54 rfl (by decide) (fun h9 => absurd h9 (nI_nlt (by omega) (by omega))) (fun _ => ?_)
    refine q_fload_n (pc := 17) (j := 3) rfl rfl ?_
    refine q_aload_n (pc := 18) (j := 0) rfl rfl ?_
    refine q_iload (pc := 19) (j := 6) rfl rfl ?_
    refine q_callV (pc := 21) (as := [.int (nI (x + k))]) (rest := [.float (sumF (fun j => roG (mG S) (x + j)) k)]) (b := 70) (st2 := [.float (roG (mG S) (x + k)), .float (sumF (fun j => roG (mG S) (x + j)) k)]) rfl ce_X9_rod ml_X9_150 im_X9_rod se_X9_rod hm.1 rfl rfl rfl (by omega) (Nat.le_of_ble_eq_true rfl) (sp_X9_rodE (c := (x + k)) rfl hm (by omega) (hok (x + k) (by omega))) rfl ?_
    refine q_fadd (pc := 24) rfl (hb.1 k hk1) ?_
    refine q_fstore_n (pc := 25) (j := 3) [some (.ref 70), some (.int (nI x)), some (.int (nI y)), some (.float (FP.fadd (sumF (fun j => roG (mG S) (x + j)) k) (roG (mG S) (x + k)))), some (.float (sumF (fun j => idG (mG S) (x + j)) k)), some (.float (sumF (fun j => flG (mG S) (x + j)) k)), some (.int (nI (x + k)))] rfl (by decide) rfl ?_
    refine q_fload (pc := 26) (j := 4) rfl rfl ?_
    refine q_aload_n (pc := 28) (j := 0) rfl rfl ?_
    refine q_iload (pc := 29) (j := 6) rfl rfl ?_
    refine q_callV (pc := 31) (as := [.int (nI (x + k))]) (rest := [.float (sumF (fun j => idG (mG S) (x + j)) k)]) (b := 70) (st2 := [.float (idG (mG S) (x + k)), .float (sumF (fun j => idG (mG S) (x + j)) k)]) rfl ce_X9_ideal ml_X9_143 im_X9_ideal se_X9_ideal hm.1 rfl rfl rfl (by omega) (Nat.le_of_ble_eq_true rfl) (sp_X9_idealE (c := (x + k)) rfl hm (by omega) (hok (x + k) (by omega))) rfl ?_
    refine q_fadd (pc := 34) rfl (hb.2.1 k hk1) ?_
    refine q_fstore (pc := 35) (j := 4) [some (.ref 70), some (.int (nI x)), some (.int (nI y)), some (.float (FP.fadd (sumF (fun j => roG (mG S) (x + j)) k) (roG (mG S) (x + k)))), some (.float (FP.fadd (sumF (fun j => idG (mG S) (x + j)) k) (idG (mG S) (x + k)))), some (.float (sumF (fun j => flG (mG S) (x + j)) k)), some (.int (nI (x + k)))] rfl (by decide) rfl ?_
    refine q_fload (pc := 37) (j := 5) rfl rfl ?_
    refine q_aload_n (pc := 39) (j := 0) rfl rfl ?_
    refine q_iload (pc := 40) (j := 6) rfl rfl ?_
    refine q_callV (pc := 42) (as := [.int (nI (x + k))]) (rest := [.float (sumF (fun j => flG (mG S) (x + j)) k)]) (b := 70) (st2 := [.float (flG (mG S) (x + k)), .float (sumF (fun j => flG (mG S) (x + j)) k)]) rfl ce_X9_flex ml_X9_147 im_X9_flex se_X9_flex hm.1 rfl rfl rfl (by omega) (Nat.le_of_ble_eq_true rfl) (sp_X9_flexE (c := (x + k)) rfl hm (by omega) (hok (x + k) (by omega))) rfl ?_
    refine q_fadd (pc := 45) rfl (hb.2.2 k hk1) ?_
    refine q_fstore (pc := 46) (j := 5) [some (.ref 70), some (.int (nI x)), some (.int (nI y)), some (.float (FP.fadd (sumF (fun j => roG (mG S) (x + j)) k) (roG (mG S) (x + k)))), some (.float (FP.fadd (sumF (fun j => idG (mG S) (x + j)) k) (idG (mG S) (x + k)))), some (.float (FP.fadd (sumF (fun j => flG (mG S) (x + j)) k) (flG (mG S) (x + k)))), some (.int (nI (x + k)))] rfl (by decide) rfl ?_
    refine q_iinc (pc := 48) (j := 6) (n := 1) (nI (x + (k + 1))) [some (.ref 70), some (.int (nI x)), some (.int (nI y)), some (.float (FP.fadd (sumF (fun j => roG (mG S) (x + j)) k) (roG (mG S) (x + k)))), some (.float (FP.fadd (sumF (fun j => idG (mG S) (x + j)) k) (idG (mG S) (x + k)))), some (.float (FP.fadd (sumF (fun j => flG (mG S) (x + j)) k) (flG (mG S) (x + k)))), some (.int (nI (x + (k + 1))))] rfl (by decide) rfl (show nI (x + k) + 1 = nI (x + (k + 1)) from nI_1 (x + k)) rfl ?_
    refine q_goto (pc := 51) 11 rfl (by decide) ?_
    exact ih (k + 1) (by omega)
theorem fit_no {g : Nat → Int32} {w : Int32} {x n : Nat} (h1 : fF (sumF (fun j => roG g (x + j)) n)) (h2 : fF (FP.i2f w)) (h : 0 < Op.cmpValue (FP.fcmp (sumF (fun j => roG g (x + j)) n) (FP.i2f w)) .l) : fitV g w x n = false := by
  rw [cmp_lg h1 h2] at h
  unfold fitV fitB
  rw [decide_eq_true h]
  rfl
theorem fit_ok {g : Nat → Int32} {w : Int32} {x n : Nat} (h1 : fF (sumF (fun j => roG g (x + j)) n)) (h2 : fF (FP.i2f w)) (h : Op.cmpValue (FP.fcmp (sumF (fun j => roG g (x + j)) n) (FP.i2f w)) .l ≤ 0) : fitV g w x n = true := by
  rw [cmp_lg h1 h2] at h
  unfold fitV fitB
  rw [decide_eq_false (Int32.not_lt.mpr h)]
  rfl
theorem qF_of {W : UInt32} {ids fls : Nat → UInt32} {n : Nat} (h : fgt (sumF fls n) FP.fconst0 = true) : FP.fdiv (FP.fsub W (sumF ids n)) (sumF fls n) = qF W ids fls n := by rw [qF, if_pos h]
theorem rd_bad {S : PSt} {v : UInt32} : (pSF S 70 9 v).2.1 70 9 = v := by simp [pSF, pU]
set_option maxRecDepth 100000 in
theorem sp_X9_isGood {sh : List PSh} {S : PSt} (hm : isMo sh) {x y n N : Nat} (hi : mIv S N) (hn : x + n = y + 1) (hxy : x ≤ y) (hyN : y < N)  : pF mX9_isGood 3 [.ref 70, .int (nI x), .int (nI y)] sh S (bgS S x n) (some (.int (pB (fitV (mG S) (S.1 71 1) x n)))) := by
  obtain ⟨hN, hN2, hok, hw⟩ := id hi
  have H := spK_of (a := x) (n := n) hok hw (by omega) (by omega)
  have hq := qF_ok H
  have hgt := fls_gt H (by omega)
  have hfr := sum_fF (by decide) (by decide) (by decide) (k := n) (by omega) H.2.2.2.2
  have hfw : fF (FP.i2f (S.1 71 1)) := H.2.1.elim fun m q9 => q9.1.1
  refine pF.of (pG.of [some (.ref 70), some (.int (nI x)), some (.int (nI y)), none, none, none, none] (by decide) tk_X9_isGood (Nat.le_of_ble_eq_true rfl) rfl (fun X => ?_))
  refine q_fconst0 (pc := 0) rfl ?_
  refine q_fstore_n (pc := 1) (j := 3) [some (.ref 70), some (.int (nI x)), some (.int (nI y)), some (.float FP.fconst0), none, none, none] rfl (by decide) rfl ?_
  refine q_fconst0 (pc := 2) rfl ?_
  refine q_fstore (pc := 3) (j := 4) [some (.ref 70), some (.int (nI x)), some (.int (nI y)), some (.float FP.fconst0), some (.float FP.fconst0), none, none] rfl (by decide) rfl ?_
  refine q_fconst0 (pc := 5) rfl ?_
  refine q_fstore (pc := 6) (j := 5) [some (.ref 70), some (.int (nI x)), some (.int (nI y)), some (.float FP.fconst0), some (.float FP.fconst0), some (.float FP.fconst0), none] rfl (by decide) rfl ?_
  refine q_iload_n (pc := 8) (j := 1) rfl rfl ?_
  refine q_istore (pc := 9) (j := 6) [some (.ref 70), some (.int (nI x)), some (.int (nI y)), some (.float FP.fconst0), some (.float FP.fconst0), some (.float FP.fconst0), some (.int (nI x))] rfl (by decide) rfl ?_
  refine lp_X9_isGood (by decide) hm hi hn hxy hyN hN2 hok ⟨hq.2.2.1, hq.1.1, hq.1.2.1⟩ (fun i => ?_) n 0 (Nat.zero_add n)
  refine q_fload_n (pc := 54) (j := 3) rfl rfl ?_
  refine q_aload_n (pc := 55) (j := 0) rfl rfl ?_
  refine q_get (pc := 56) (a := 70) (v := .ref 71) rfl fl_X9_9 hm.1 rfl rfl ?_
  refine q_iconst (pc := 59) 1 rfl (by decide) ?_
  refine q_iald (pc := 60) (a := 71) 1 rfl hm.2.1 (vp_in_nI (n := 1) (by decide) (by decide)) rfl ?_
  refine q_i2f (pc := 61) rfl ?_
  refine q_fcmp (pc := 62) (op := .l) rfl ?_
  refine q_if_le (pc := 63) 68 rfl (by decide) (fun h63 => ?_) (fun h63 => ?_)
  · have hfit := fit_ok hfr hfw h63
    refine q_aload_n (pc := 68) (j := 0) rfl rfl ?_
    refine q_get (pc := 69) (a := 70) (v := .ref 71) rfl fl_X9_9 hm.1 rfl rfl ?_
    refine q_iconst (pc := 72) 1 rfl (by decide) ?_
    refine q_iald (pc := 73) (a := 71) 1 rfl hm.2.1 (vp_in_nI (n := 1) (by decide) (by decide)) rfl ?_
    refine q_i2f (pc := 74) rfl ?_
    refine q_fload (pc := 75) (j := 4) rfl rfl ?_
    refine q_fsub (pc := 77) rfl hq.1.2.2.1 ?_
    refine q_fstore (pc := 78) (j := 6) [some (.ref 70), some (.int (nI x)), some (.int (nI y)), some (.float (sumF (fun j => roG (mG S) (x + j)) n)), some (.float (sumF (fun j => idG (mG S) (x + j)) n)), some (.float (sumF (fun j => flG (mG S) (x + j)) n)), some (.float (FP.fsub (FP.i2f (S.1 71 1)) (sumF (fun j => idG (mG S) (x + j)) n)))] rfl (by decide) rfl ?_
    refine q_fload (pc := 80) (j := 6) rfl rfl ?_
    refine q_fload (pc := 82) (j := 5) rfl rfl ?_
    refine q_fdiv (pc := 84) rfl (hq.1.2.2.2.1 hgt) ?_
    refine q_st (st2 := [.float (qF (FP.i2f (S.1 71 1)) (fun j => idG (mG S) (x + j)) (fun j => flG (mG S) (x + j)) n)]) (by rw [qF_of hgt]) ?_
    refine q_fstore (pc := 85) (j := 6) [some (.ref 70), some (.int (nI x)), some (.int (nI y)), some (.float (sumF (fun j => roG (mG S) (x + j)) n)), some (.float (sumF (fun j => idG (mG S) (x + j)) n)), some (.float (sumF (fun j => flG (mG S) (x + j)) n)), some (.float (qF (FP.i2f (S.1 71 1)) (fun j => idG (mG S) (x + j)) (fun j => flG (mG S) (x + j)) n))] rfl (by decide) rfl ?_
    refine q_aload_n (pc := 87) (j := 0) rfl rfl ?_
    refine q_ldcf (pc := 88) (v := 1120403456) rfl kc_X9_182 ?_
    refine q_fload (pc := 90) (j := 6) rfl rfl ?_
    refine q_fmul (pc := 92) rfl hq.1.2.2.2.2.1 ?_
    refine q_putF (pc := 93) (a := 70) rfl fl_X9_183 hm.1 rfl (fun _ h9 => by cases h9; rfl) rfl rfl ?_
    refine q_aload_n (pc := 96) (j := 0) rfl rfl ?_
    refine q_aload_n (pc := 97) (j := 0) rfl rfl ?_
    refine q_get (pc := 98) (a := 70) (v := .float ((pSF S 70 9 (FP.fmul 1120403456 (qF (FP.i2f (S.1 71 1)) (fun j => idG (mG S) (x + j)) (fun j => flG (mG S) (x + j)) n))).2.1 70 9)) rfl fl_X9_183 hm.1 rfl rfl ?_
    refine q_st (st2 := [.float (FP.fmul 1120403456 (qF (FP.i2f (S.1 71 1)) (fun j => idG (mG S) (x + j)) (fun j => flG (mG S) (x + j)) n)), .ref 70]) (by rw [rd_bad]) ?_
    refine q_fload (pc := 101) (j := 6) rfl rfl ?_
    refine q_fmul (pc := 103) rfl hq.1.2.2.2.2.2.1 ?_
    refine q_putF (pc := 104) (a := 70) rfl fl_X9_183 hm.1 rfl (fun _ h9 => by cases h9; rfl) rfl rfl ?_
    refine q_aload_n (pc := 107) (j := 0) rfl rfl ?_
    refine q_fload (pc := 108) (j := 6) rfl rfl ?_
    refine q_fconst0 (pc := 110) rfl ?_
    refine q_fcmp (pc := 111) (op := .g) rfl ?_
    refine q_join 128 [some (.ref 70), some (.int (nI x)), some (.int (nI y)), some (.float (sumF (fun j => roG (mG S) (x + j)) n)), some (.float (sumF (fun j => idG (mG S) (x + j)) n)), some (.float (sumF (fun j => flG (mG S) (x + j)) n)), some (.float (qF (FP.i2f (S.1 71 1)) (fun j => idG (mG S) (x + j)) (fun j => flG (mG S) (x + j)) n))] [.float (badV (mG S) (S.1 71 1) x n), .ref 70] (pSF (pSF S 70 9 (FP.fmul 1120403456 (qF (FP.i2f (S.1 71 1)) (fun j => idG (mG S) (x + j)) (fun j => flG (mG S) (x + j)) n))) 70 9 (FP.fmul (FP.fmul 1120403456 (qF (FP.i2f (S.1 71 1)) (fun j => idG (mG S) (x + j)) (fun j => flG (mG S) (x + j)) n)) (qF (FP.i2f (S.1 71 1)) (fun j => idG (mG S) (x + j)) (fun j => flG (mG S) (x + j)) n))) ?_ (fun key112 => ?_)
    · refine q_putF (pc := 128) (a := 70) rfl fl_X9_183 hm.1 rfl (fun _ h9 => by cases h9; rfl) rfl rfl ?_
      refine q_iconst (pc := 131) 1 rfl (by decide) ?_
      exact q_zret (pc := 132) rfl rfl rfl ⟨congrArg (fun v => some (Value.int v)) (by rw [hfit]; rfl), by rw [bgS, if_pos hfit, pSF_2, pSF_2]⟩
    · refine q_if_ge (pc := 112) 124 rfl (by decide) (fun h112 => ?_) (fun h112 => ?_)
      · refine q_aload_n (pc := 124) (j := 0) rfl rfl ?_
        refine q_get (pc := 125) (a := 70) (v := .float ((pSF (pSF S 70 9 (FP.fmul 1120403456 (qF (FP.i2f (S.1 71 1)) (fun j => idG (mG S) (x + j)) (fun j => flG (mG S) (x + j)) n))) 70 9 (FP.fmul (FP.fmul 1120403456 (qF (FP.i2f (S.1 71 1)) (fun j => idG (mG S) (x + j)) (fun j => flG (mG S) (x + j)) n)) (qF (FP.i2f (S.1 71 1)) (fun j => idG (mG S) (x + j)) (fun j => flG (mG S) (x + j)) n))).2.1 70 9)) rfl fl_X9_183 hm.1 rfl rfl ?_
        exact q_st (by rw [show (badV (mG S) (S.1 71 1) x n) = badF (qF (FP.i2f (S.1 71 1)) (fun j => idG (mG S) (x + j)) (fun j => flG (mG S) (x + j)) n) from rfl, badF, if_neg (show ¬ flt (qF (FP.i2f (S.1 71 1)) (fun j => idG (mG S) (x + j)) (fun j => flG (mG S) (x + j)) n) FP.fconst0 = true from fun q9 => absurd (of_decide_eq_true q9) (Int32.not_lt.mpr h112)), rd_bad]) key112
      · refine q_aload_n (pc := 115) (j := 0) rfl rfl ?_
        refine q_get (pc := 116) (a := 70) (v := .float ((pSF (pSF S 70 9 (FP.fmul 1120403456 (qF (FP.i2f (S.1 71 1)) (fun j => idG (mG S) (x + j)) (fun j => flG (mG S) (x + j)) n))) 70 9 (FP.fmul (FP.fmul 1120403456 (qF (FP.i2f (S.1 71 1)) (fun j => idG (mG S) (x + j)) (fun j => flG (mG S) (x + j)) n)) (qF (FP.i2f (S.1 71 1)) (fun j => idG (mG S) (x + j)) (fun j => flG (mG S) (x + j)) n))).2.1 70 9)) rfl fl_X9_183 hm.1 rfl rfl ?_
        refine q_st (st2 := [.float (FP.fmul (FP.fmul 1120403456 (qF (FP.i2f (S.1 71 1)) (fun j => idG (mG S) (x + j)) (fun j => flG (mG S) (x + j)) n)) (qF (FP.i2f (S.1 71 1)) (fun j => idG (mG S) (x + j)) (fun j => flG (mG S) (x + j)) n)), .ref 70]) (by rw [rd_bad]) ?_
        refine q_fconst2 (pc := 119) rfl ?_
        refine q_fmul (pc := 120) rfl hq.1.2.2.2.2.2.2 ?_
        refine q_goto (pc := 121) 128 rfl (by decide) ?_
        exact q_st (by rw [show (badV (mG S) (S.1 71 1) x n) = badF (qF (FP.i2f (S.1 71 1)) (fun j => idG (mG S) (x + j)) (fun j => flG (mG S) (x + j)) n) from rfl, badF, if_pos (show flt (qF (FP.i2f (S.1 71 1)) (fun j => idG (mG S) (x + j)) (fun j => flG (mG S) (x + j)) n) FP.fconst0 = true from decide_eq_true (Int32.not_le.mp h112))]) key112
  · refine q_iconst (pc := 66) 0 rfl (by decide) ?_
    exact q_zret (pc := 67) rfl rfl rfl ⟨congrArg (fun v => some (Value.int v)) (by rw [fit_no hfr hfw (Int32.not_le.mp h63)]; rfl), by rw [bgS, if_neg (by rw [fit_no hfr hfw (Int32.not_le.mp h63)]; decide)]⟩
theorem bg_bad {S : PSt} {x n : Nat} (h : fitV (mG S) (S.1 71 1) x n = true) : (bgS S x n).2.1 70 9 = badV (mG S) (S.1 71 1) x n := by
  rw [bgS, if_pos h]
  exact rd_bad
theorem fm_er {S T : PSt} {e : Nat} (h : frM S T) : frM (rfM S e) (rfM T e) := by
  refine ⟨fun c h1 h2 => ?_, ?_, ?_⟩
  · obtain ⟨a1, a2, a3, a4⟩ := h.1 c h1 h2
    refine ⟨?_, a2, a3, a4⟩
    funext j
    show pU T.1 73 e (T.1 73 e + 1) c j = pU S.1 73 e (S.1 73 e + 1) c j
    unfold pU
    rw [a1, (h.1 73 (by decide) (by decide)).1]
  · show pU T.1 73 e (T.1 73 e + 1) 70 2 = pU S.1 73 e (S.1 73 e + 1) 70 2
    unfold pU
    rw [if_neg (by omega), if_neg (by omega)]
    exact h.2.1
  · show pU T.1 73 e (T.1 73 e + 1) 70 23 = pU S.1 73 e (S.1 73 e + 1) 70 23
    unfold pU
    rw [if_neg (by omega), if_neg (by omega)]
    exact h.2.2
set_option maxRecDepth 100000 in
theorem sp_X9_bad {sh : List PSh} {S : PSt} {N : Nat} (hm : isMo sh) (hi : mIv S N) {a b : Int32}  : pG mX9_bad 4 [.ref 70, .int a, .int b] sh S (mA (oBad (mG S) (S.1 71 1) N a b) S S) := by
  obtain ⟨hN, hN2, hok, hw⟩ := id hi
  refine pG.of [some (.ref 70), some (.int a), some (.int b)] (by decide) tk_X9_bad (Nat.le_of_ble_eq_true rfl) rfl (fun X => ?_)
  refine q_aload_n (pc := 0) (j := 0) rfl rfl ?_
  refine q_iload_n (pc := 1) (j := 1) rfl rfl ?_
  refine q_iload_n (pc := 2) (j := 2) rfl rfl ?_
  refine q_callV (pc := 3) (as := [.int a, .int b]) (rest := []) (b := 70) (st2 := [.int (pB (isStB N a b))]) rfl ce_X9_isStretch ml_X9_176 im_X9_isStretch se_X9_isStretch hm.1 rfl rfl rfl (by decide) (Nat.le_of_ble_eq_true rfl) (sp_X9_isStretch hm hN hN2) rfl ?_
  refine q_if_ne (pc := 6) 16 rfl (by decide) (fun h6 => ?_) (fun h6 => ?_)
  · obtain ⟨x, y, rfl, rfl, hxy, hyN⟩ := isSt_of hN2 (pB_t h6)
    refine q_aload_n (pc := 16) (j := 0) rfl rfl ?_
    refine q_iload_n (pc := 17) (j := 1) rfl rfl ?_
    refine q_iload_n (pc := 18) (j := 2) rfl rfl ?_
    refine q_callV (pc := 19) (as := [.int (nI x), .int (nI y)]) (rest := []) (b := 70) (st2 := [.int (pB (fitV (mG S) (S.1 71 1) x (y - x + 1)))]) rfl ce_X9_isGood ml_X9_186 im_X9_isGood se_X9_isGood hm.1 rfl rfl rfl (by decide) (Nat.le_of_ble_eq_true rfl) (sp_X9_isGood (x := x) (y := y) (n := y - x + 1) (N := N) hm hi (by omega) (by omega) (by omega)) rfl ?_
    refine q_if_eq (pc := 22) 35 rfl (by decide) (fun h22 => ?_) (fun h22 => ?_)
    · refine q_aload_n (pc := 35) (j := 0) rfl rfl ?_
      refine q_ldc (pc := 36) (v := (-2147483002)) rfl kc_X9_119 ?_
      refine q_callV (pc := 38) (as := [.int (-2147483002)]) (rest := []) (b := 70) (st2 := [.int (-2147483000 - nI 2)]) rfl ce_X9_errs ml_X9_110 im_X9_errs se_X9_errs hm.1 rfl rfl rfl (by decide) (Nat.le_of_ble_eq_true rfl) (sp_X9_errs (e := 2) hm (by decide) (by decide)) rfl ?_
      exact q_iret (pc := 41) rfl rfl (mA_no (k := 1) (by rw [oBad, if_pos (pB_t h6), lnN, tN_nI (show x < 2 ^ 31 by omega), tN_nI (show y < 2 ^ 31 by omega), if_neg (show ¬ _ = true from by rw [pB_f h22]; decide)]) (fm_er fm_bg))
    · refine q_aload_n (pc := 25) (j := 0) rfl rfl ?_
      refine q_get (pc := 26) (a := 70) (v := .float ((bgS S x (y - x + 1)).2.1 70 9)) rfl fl_X9_183 hm.1 rfl rfl ?_
      refine q_st (st2 := [.float (badV (mG S) (S.1 71 1) x (y - x + 1))]) (by rw [bg_bad (pB_t h22)]) ?_
      refine q_callS (pc := 29) (as := [.float (badV (mG S) (S.1 71 1) x (y - x + 1))]) (rest := []) (st2 := [.int ((badV (mG S) (S.1 71 1) x (y - x + 1)).toInt32)]) rfl ce_Jxf58ca_floatToIntBits_5c35a ml_X9_153 st_Jxf58ca_floatToIntBits_5c35a rfl (by decide) (Nat.le_of_ble_eq_true rfl) (sp_fbits (x := (badV (mG S) (S.1 71 1) x (y - x + 1))) (fF_nn (badV_ok hok hw (by omega) (by omega)).1.1)) rfl ?_
      refine q_goto (pc := 32) 41 rfl (by decide) ?_
      exact q_iret (pc := 41) rfl rfl (mA_ok (by rw [oBad, if_pos (pB_t h6), lnN, tN_nI (show x < 2 ^ 31 by omega), tN_nI (show y < 2 ^ 31 by omega), if_pos (pB_t h22)]) fm_bg)
  · refine q_aload_n (pc := 9) (j := 0) rfl rfl ?_
    refine q_ldc (pc := 10) (v := (-2147483001)) rfl kc_X9_109 ?_
    refine q_callV (pc := 12) (as := [.int (-2147483001)]) (rest := []) (b := 70) (st2 := [.int (-2147483000 - nI 1)]) rfl ce_X9_errs ml_X9_110 im_X9_errs se_X9_errs hm.1 rfl rfl rfl (by decide) (Nat.le_of_ble_eq_true rfl) (sp_X9_errs (e := 1) hm (by decide) (by decide)) rfl ?_
    exact q_iret (pc := 15) rfl rfl (mA_no (k := 0) (by rw [oBad, if_neg (show ¬ _ = true from by rw [pB_f h6]; decide)]) fm_rf)
