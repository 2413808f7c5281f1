/-! the model: lines, total, line, beam: written by wip/whole/gen/c50.py -/
theorem oLine_no {g : Nat → Int32} {w : Int32} {N : Nat} {k what : Int32} (hf : fouV g w N = true) (hl : linV g w N ≤ 32) (h : pWi k 0 (nI (linV g w N) - 1) = false ∨ pWi what 0 3 = false ∨ (what = 3 ∧ k = nI (linV g w N) - 1)) : oLine g w N k what = (1, 0) := by
  unfold oLine
  rw [if_pos hf]
  by_cases hw : pWi what 0 3 = true
  · rw [if_pos hw, if_neg]
    intro h9
    have e1 : (nI (linV g w N) - 1).toInt = (linV g w N : Int) - 1 := pk_sub_toInt (b := 1) (by omega) (by decide)
    have e2 : (nI (linV g w N) - 2).toInt = (linV g w N : Int) - 2 := pk_sub_toInt (b := 2) (by omega) (by decide)
    have h9 := of_decide_eq_true h9
    rcases h with h | h | ⟨h3, hk⟩
    · have h := of_decide_eq_false h
      by_cases h3 : what = 3
      · rw [if_pos h3, e2] at h9; rw [e1] at h; omega
      · rw [if_neg h3] at h9; exact h h9
    · rw [hw] at h; exact absurd h (by decide)
    · rw [if_pos h3, e2, hk, e1] at h9; omega
  · rw [if_neg hw]
theorem oLine_ok {g : Nat → Int32} {w : Int32} {N : Nat} {k what : Int32} (hf : fouV g w N = true) (hl : linV g w N ≤ 32) (h1 : pWi k 0 (nI (linV g w N) - 1) = true) (h2 : pWi what 0 3 = true) (h3 : ¬ (what = 3 ∧ k = nI (linV g w N) - 1)) : oLine g w N k what = (0, linA g w N (tN k) what) := by
  unfold oLine
  rw [if_pos hf, if_pos h2, if_pos]
  by_cases h4 : what = 3
  · rw [if_pos h4]
    have e1 : (nI (linV g w N) - 1).toInt = (linV g w N : Int) - 1 := pk_sub_toInt (b := 1) (by omega) (by decide)
    have e2 : (nI (linV g w N) - 2).toInt = (linV g w N : Int) - 2 := pk_sub_toInt (b := 2) (by omega) (by decide)
    have h1 := of_decide_eq_true h1
    rw [e1] at h1
    have : k.toInt ≠ (linV g w N : Int) - 1 := fun q => h3 ⟨h4, Int32.toInt_inj.mp (q.trans e1.symm)⟩
    unfold pWi
    rw [e2]
    exact decide_eq_true ⟨h1.1, by omega⟩
  · rw [if_neg h4]; exact h1
theorem sp_X9_apartOfT {sh : List PSh} {S T : PSt} {N x y z t : Nat} (hm : isMo sh) (hi : mIv S N) (h : frM S T) (hxy : x ≤ y) (hyN : y < N) (hzt : z ≤ t) (htN : t < N) : pF mX9_apartOf 6 [.ref 70, .int (nI x), .int (nI y), .int (nI z), .int (nI t)] sh T (apS T x (y - x + 1) z (t - z + 1)) (some (.int (apV (mG S) (S.1 71 1) x (y - x + 1) z (t - z + 1)))) := by
  have h9 := sp_X9_apartOf hm (fm_iv h hi) hxy hyN hzt htN
  rw [fm_mG h, fm_w h] at h9
  exact h9
theorem w_01 {u : Nat} (h2 : ¬ 2 ≤ nI u) (hu : u ≤ 3) (h0 : ¬ nI u = 0) : nI u = 1 := by
  rcases u with _ | _ | u
  · exact absurd rfl h0
  · rfl
  · exact absurd (nI_le (a := 2) (b := u + 2) (by omega) (by omega)) h2
theorem w_23 {u : Nat} (h2 : 2 ≤ nI u) (hu : u ≤ 3) (h3 : ¬ nI u = 3) : nI u = 2 := by
  have h := (nI_leI (a := 2) (b := u) (by decide) (by omega)).mp h2
  rcases (show u = 2 ∨ u = 3 by omega) with e | e
  · rw [e]; rfl
  · exact absurd (by rw [e]; rfl) h3
set_option maxRecDepth 100000 in
theorem sp_X9_lines {sh : List PSh} {S : PSt} {N : Nat} (hm : isMo sh) (hi : mIv S N)  : pG mX9_lines 6 [.ref 70] sh S (mA (oLines (mG S) (S.1 71 1) N) S S) := by
  obtain ⟨hN, hN2, hok, hw⟩ := id hi
  refine pG.of [some (.ref 70)] (by decide) tk_X9_lines (Nat.le_of_ble_eq_true rfl) rfl (fun X => ?_)
  refine q_aload_n (pc := 0) (j := 0) rfl rfl ?_
  refine q_callVG (pc := 1) (as := []) (rest := []) (b := 70) rfl ce_X9_breaks ml_X9_208 im_X9_breaks se_X9_breaks hm.1 rfl rfl rfl (by decide) (Nat.le_of_ble_eq_true rfl) (sp_X9_breaks hm hi) (fun r9 S9 h9 => ?_)
  obtain ⟨hr9, hS9⟩ := h9
  subst hr9
  refine q_st (st2 := [.int (pB (fouV (mG S) (S.1 71 1) N))]) rfl ?_
  refine q_if_eq (pc := 4) 14 rfl (by decide) (fun h4 => ?_) (fun h4 => ?_)
  · refine q_aload_n (pc := 14) (j := 0) rfl rfl ?_
    refine q_ldc (pc := 15) (v := (-2147483002)) rfl kc_X9_119 ?_
    refine q_callV (pc := 17) (as := [.int (-2147483002)]) (rest := []) (b := 70) (st2 := [.int (-2147483000 - nI 2)]) rfl ce_X9_errs ml_X9_110 im_X9_errs se_X9_errs hm.1 rfl rfl rfl (by decide) (Nat.le_of_ble_eq_true rfl) (sp_X9_errs (e := 2) hm (by decide) (by decide)) rfl ?_
    exact q_iret (pc := 20) rfl rfl (mA_no (k := 1) (by rw [oLines, if_neg (show ¬ _ = true from by rw [pB_f h4]; decide)]) (fm_er hS9.1.1))
  · refine q_aload_n (pc := 7) (j := 0) rfl rfl ?_
    refine q_get (pc := 8) (a := 70) (v := .int (S9.1 70 15)) rfl fl_X9_201 hm.1 rfl rfl ?_
    refine q_st (st2 := [.int (nI (linV (mG S) (S.1 71 1) N))]) (by rw [(show (S9.1 70 15) = _ from (hS9.2 (pB_t h4)).1)]) ?_
    refine q_goto (pc := 11) 20 rfl (by decide) ?_
    exact q_iret (pc := 20) rfl rfl (mA_ok (by rw [oLines, if_pos (pB_t h4)]) hS9.1.1)
set_option maxRecDepth 100000 in
theorem sp_X9_total {sh : List PSh} {S : PSt} {N : Nat} (hm : isMo sh) (hi : mIv S N)  : pG mX9_total 6 [.ref 70] sh S (mA (oTotal (mG S) (S.1 71 1) N) S S) := by
  obtain ⟨hN, hN2, hok, hw⟩ := id hi
  refine pG.of [some (.ref 70)] (by decide) tk_X9_total (Nat.le_of_ble_eq_true rfl) rfl (fun X => ?_)
  refine q_aload_n (pc := 0) (j := 0) rfl rfl ?_
  refine q_callVG (pc := 1) (as := []) (rest := []) (b := 70) rfl ce_X9_breaks ml_X9_208 im_X9_breaks se_X9_breaks hm.1 rfl rfl rfl (by decide) (Nat.le_of_ble_eq_true rfl) (sp_X9_breaks hm hi) (fun r9 S9 h9 => ?_)
  obtain ⟨hr9, hS9⟩ := h9
  subst hr9
  refine q_st (st2 := [.int (pB (fouV (mG S) (S.1 71 1) N))]) rfl ?_
  refine q_if_ne (pc := 4) 14 rfl (by decide) (fun h4 => ?_) (fun h4 => ?_)
  · refine q_aload_n (pc := 14) (j := 0) rfl rfl ?_
    refine q_get (pc := 15) (a := 70) (v := .ref 80) rfl fl_X9_39 hm.1 rfl rfl ?_
    refine q_aload_n (pc := 18) (j := 0) rfl rfl ?_
    refine q_get (pc := 19) (a := 70) (v := .ref 71) rfl fl_X9_9 hm.1 rfl rfl ?_
    refine q_iconst (pc := 22) 0 rfl (by decide) ?_
    refine q_iald (pc := 23) (a := 71) 0 rfl hm.2.1 (vp_in_nI (n := 0) (by decide) (by decide)) rfl ?_
    refine q_st (st2 := [.int (nI N), .ref 80]) (by rw [(show (S9.1 71 0) = nI N from ((fm_w hS9.1.1).trans hN))]) ?_
    refine q_fald (pc := 24) (a := 80) N rfl hm.2.2.2.2.2.2.2.2.2.2.1 (vp_in_nI (by omega) (by decide)) (nI_clamp (by omega)) ?_
    refine q_st (st2 := [.float (totV (mG S) (S.1 71 1) N)]) (by rw [(show (S9.2.1 80 N) = _ from (hS9.2 (pB_t h4)).2.1)]) ?_
    refine q_callS (pc := 25) (as := [.float (totV (mG S) (S.1 71 1) N)]) (rest := []) (st2 := [.int ((totV (mG S) (S.1 71 1) N).toInt32)]) rfl ce_Jxf58ca_floatToIntBits_5c35a ml_X9_153 st_Jxf58ca_floatToIntBits_5c35a rfl (by decide) (Nat.le_of_ble_eq_true rfl) (sp_fbits (x := (totV (mG S) (S.1 71 1) N)) (fF_nn (totV_okX hok hw hN2 (pB_t h4)).1)) rfl ?_
    exact q_iret (pc := 28) rfl rfl (mA_ok (by rw [oTotal, if_pos (pB_t h4)]) hS9.1.1)
  · refine q_aload_n (pc := 7) (j := 0) rfl rfl ?_
    refine q_ldc (pc := 8) (v := (-2147483002)) rfl kc_X9_119 ?_
    refine q_callV (pc := 10) (as := [.int (-2147483002)]) (rest := []) (b := 70) (st2 := [.int (-2147483000 - nI 2)]) rfl ce_X9_errs ml_X9_110 im_X9_errs se_X9_errs hm.1 rfl rfl rfl (by decide) (Nat.le_of_ble_eq_true rfl) (sp_X9_errs (e := 2) hm (by decide) (by decide)) rfl ?_
    exact q_iret (pc := 13) rfl rfl (mA_no (k := 1) (by rw [oTotal, if_neg (show ¬ _ = true from by rw [pB_f h4]; decide)]) (fm_er hS9.1.1))
set_option maxRecDepth 100000 in
theorem sp_X9_line {sh : List PSh} {S : PSt} {N : Nat} (hm : isMo sh) (hi : mIv S N) {k what : Int32}  : pG mX9_line 7 [.ref 70, .int k, .int what] sh S (mA (oLine (mG S) (S.1 71 1) N k what) S S) := by
  obtain ⟨hN, hN2, hok, hw⟩ := id hi
  refine pG.of [some (.ref 70), some (.int k), some (.int what)] (by decide) tk_X9_line (Nat.le_of_ble_eq_true rfl) rfl (fun X => ?_)
  refine q_aload_n (pc := 0) (j := 0) rfl rfl ?_
  refine q_callVG (pc := 1) (as := []) (rest := []) (b := 70) rfl ce_X9_breaks ml_X9_208 im_X9_breaks se_X9_breaks hm.1 rfl rfl rfl (by decide) (Nat.le_of_ble_eq_true rfl) (sp_X9_breaks hm hi) (fun r9 S9 h9 => ?_)
  obtain ⟨hr9, hS9⟩ := h9
  subst hr9
  refine q_st (st2 := [.int (pB (fouV (mG S) (S.1 71 1) N))]) rfl ?_
  refine q_if_ne (pc := 4) 14 rfl (by decide) (fun h4 => ?_) (fun h4 => ?_)
  · have hf9 := pB_t h4; have hl9 : (linV (mG S) (S.1 71 1) N) ≤ 32 := Nat.le_trans (lin_le hN2 hf9) hN2
    refine q_iload_n (pc := 14) (j := 1) rfl rfl ?_
    refine q_i2l (pc := 15) rfl ?_
    refine q_lconst (pc := 16) 0 rfl (by decide) ?_
    refine q_aload_n (pc := 17) (j := 0) rfl rfl ?_
    refine q_get (pc := 18) (a := 70) (v := .int (S9.1 70 15)) rfl fl_X9_201 hm.1 rfl rfl ?_
    refine q_st (st2 := [.int (nI (linV (mG S) (S.1 71 1) N)), .long 0, .long (k.toInt64)]) (by rw [(show (S9.1 70 15) = _ from (hS9.2 hf9).1)]) ?_
    refine q_iconst (pc := 21) 1 rfl (by decide) ?_
    refine q_isub (pc := 22) rfl ?_
    refine q_i2l (pc := 23) rfl ?_
    refine q_callS (pc := 24) (as := [.long (k.toInt64), .long 0, .long (((nI (linV (mG S) (S.1 71 1) N)) - 1).toInt64)]) (rest := []) (st2 := [.int (pB (pWi k 0 ((nI (linV (mG S) (S.1 71 1) N)) - 1)))]) rfl ce_X9_in ml_X9_85 st_X9_in rfl (by decide) (Nat.le_of_ble_eq_true rfl) (sp_X9_inW (v := k) (l := 0) (m := ((nI (linV (mG S) (S.1 71 1) N)) - 1)) (Int32.toInt_toInt64 _) (by decide) (Int32.toInt_toInt64 _)) rfl ?_
    refine q_if_eq (pc := 27) 57 rfl (by decide) (fun h27 => ?_) (fun h27 => ?_)
    · refine q_aload_n (pc := 57) (j := 0) rfl rfl ?_
      refine q_ldc (pc := 58) (v := (-2147483001)) rfl kc_X9_109 ?_
      refine q_callV (pc := 60) (as := [.int (-2147483001)]) (rest := []) (b := 70) (st2 := [.int (-2147483000 - nI 1)]) rfl ce_X9_errs ml_X9_110 im_X9_errs se_X9_errs hm.1 rfl rfl rfl (by decide) (Nat.le_of_ble_eq_true rfl) (sp_X9_errs (e := 1) hm (by decide) (by decide)) rfl ?_
      exact q_iret (pc := 63) rfl rfl (mA_no (k := 0) (oLine_no hf9 hl9 (Or.inl (pB_f h27))) (fm_er hS9.1.1))
    · refine q_iload_n (pc := 30) (j := 2) rfl rfl ?_
      refine q_i2l (pc := 31) rfl ?_
      refine q_lconst (pc := 32) 0 rfl (by decide) ?_
      refine q_ldc2 (pc := 33) (v := 3) rfl kc_X9_212 ?_
      refine q_callS (pc := 36) (as := [.long (what.toInt64), .long 0, .long 3]) (rest := []) (st2 := [.int (pB (pWi what 0 3))]) rfl ce_X9_in ml_X9_85 st_X9_in rfl (by decide) (Nat.le_of_ble_eq_true rfl) (sp_X9_inW (v := what) (l := 0) (m := 3) (Int32.toInt_toInt64 _) (by decide) (by decide)) rfl ?_
      refine q_if_eq (pc := 39) 57 rfl (by decide) (fun h39 => ?_) (fun h39 => ?_)
      · refine q_aload_n (pc := 57) (j := 0) rfl rfl ?_
        refine q_ldc (pc := 58) (v := (-2147483001)) rfl kc_X9_109 ?_
        refine q_callV (pc := 60) (as := [.int (-2147483001)]) (rest := []) (b := 70) (st2 := [.int (-2147483000 - nI 1)]) rfl ce_X9_errs ml_X9_110 im_X9_errs se_X9_errs hm.1 rfl rfl rfl (by decide) (Nat.le_of_ble_eq_true rfl) (sp_X9_errs (e := 1) hm (by decide) (by decide)) rfl ?_
        exact q_iret (pc := 63) rfl rfl (mA_no (k := 0) (oLine_no hf9 hl9 (Or.inr (Or.inl (pB_f h39)))) (fm_er hS9.1.1))
      · refine q_iload_n (pc := 42) (j := 2) rfl rfl ?_
        refine q_iconst (pc := 43) 3 rfl (by decide) ?_
        refine q_icmp_ne (pc := 44) 64 rfl (by decide) (fun h44 => ?_) (fun h44 => ?_)
        · have hn3 : ¬ (what = 3 ∧ k = nI (linV (mG S) (S.1 71 1) N) - 1) := fun q9 => h44 q9.1; have hoL := oLine_ok hf9 hl9 (pB_t h27) (pB_t h39) hn3; obtain ⟨i, rfl, hiL⟩ := isCo_of hl9 (by rw [← co_w hl9]; exact pB_t h27); obtain ⟨u, hu, rfl⟩ := pWi_of (m := 3) (by decide) (by decide) (pB_t h39); have hlt := sta_lt hN2 hf9 hiL; have hb9 := (hS9.2 hf9).2.2 i hiL
          refine q_iload_n (pc := 64) (j := 2) rfl rfl ?_
          refine q_iconst (pc := 65) 2 rfl (by decide) ?_
          refine q_icmp_ge (pc := 66) 89 rfl (by decide) (fun h66 => ?_) (fun h66 => ?_)
          · refine q_iload_n (pc := 89) (j := 2) rfl rfl ?_
            refine q_iconst (pc := 90) 3 rfl (by decide) ?_
            refine q_icmp_ne (pc := 91) 127 rfl (by decide) (fun _ => ?_) (fun h9 => absurd h9 h44)
            refine q_aload_n (pc := 127) (j := 0) rfl rfl ?_
            refine q_aload_n (pc := 128) (j := 0) rfl rfl ?_
            refine q_get (pc := 129) (a := 70) (v := .ref 82) rfl fl_X9_45 hm.1 rfl rfl ?_
            refine q_iload_n (pc := 132) (j := 1) rfl rfl ?_
            refine q_iald (pc := 133) (a := 82) i rfl hm.2.2.2.2.2.2.2.2.2.2.2.2.1 (vp_in_nI (by omega) (by decide)) (nI_clamp (by omega)) ?_
            refine q_st (st2 := [.int (nI (staV (mG S) (S.1 71 1) N i)), .ref 70]) (by rw [(show (S9.1 82 i) = _ from hb9.1)]) ?_
            refine q_aload_n (pc := 134) (j := 0) rfl rfl ?_
            refine q_get (pc := 135) (a := 70) (v := .ref 83) rfl fl_X9_48 hm.1 rfl rfl ?_
            refine q_iload_n (pc := 138) (j := 1) rfl rfl ?_
            refine q_iald (pc := 139) (a := 83) i rfl hm.2.2.2.2.2.2.2.2.2.2.2.2.2.1 (vp_in_nI (by omega) (by decide)) (nI_clamp (by omega)) ?_
            refine q_st (st2 := [.int (nI ((staV (mG S) (S.1 71 1) N (i + 1)) - 1)), .int (nI (staV (mG S) (S.1 71 1) N i)), .ref 70]) (by rw [(show (S9.1 83 i) = _ from hb9.2)]) ?_
            refine q_callV (pc := 140) (as := [.int (nI (staV (mG S) (S.1 71 1) N i)), .int (nI ((staV (mG S) (S.1 71 1) N (i + 1)) - 1))]) (rest := []) (b := 70) (st2 := []) rfl ce_X9_laysOut ml_X9_179 im_X9_laysOut se_X9_laysOut hm.1 rfl rfl rfl (by decide) (Nat.le_of_ble_eq_true rfl) (sp_X9_laysOutI (x := (staV (mG S) (S.1 71 1) N i)) (y := ((staV (mG S) (S.1 71 1) N (i + 1)) - 1)) (N := N) hm (fm_iv hS9.1.1 hi) (by omega) (by omega)) rfl ?_
            refine q_aload_n (pc := 143) (j := 0) rfl rfl ?_
            refine q_get (pc := 144) (a := 70) (v := .ref 76) rfl fl_X9_27 hm.1 rfl rfl ?_
            refine q_aload_n (pc := 147) (j := 0) rfl rfl ?_
            refine q_get (pc := 148) (a := 70) (v := .ref 83) rfl fl_X9_48 hm.1 rfl rfl ?_
            refine q_iload_n (pc := 151) (j := 1) rfl rfl ?_
            refine q_iald (pc := 152) (a := 83) i rfl hm.2.2.2.2.2.2.2.2.2.2.2.2.2.1 (vp_in_nI (by omega) (by decide)) (nI_clamp (by omega)) ?_
            refine q_st (st2 := [.int (nI ((staV (mG S) (S.1 71 1) N (i + 1)) - 1)), .ref 76]) (by rw [(show ((lyM S9 (staV (mG S) (S.1 71 1) N i) (((staV (mG S) (S.1 71 1) N (i + 1)) - 1) - (staV (mG S) (S.1 71 1) N i) + 1)).1 83 i) = _ from (congrFun (lyM_o (by decide) (by decide)) i).trans hb9.2)]) ?_
            refine q_fald (pc := 153) (a := 76) ((staV (mG S) (S.1 71 1) N (i + 1)) - 1) rfl hm.2.2.2.2.2.2.1 (vp_in_nI (by omega) (by decide)) (nI_clamp (by omega)) ?_
            refine q_st (st2 := [.float (atV (mG S) (S.1 71 1) (staV (mG S) (S.1 71 1) N i) ((staV (mG S) (S.1 71 1) N (i + 1)) - 1 - (staV (mG S) (S.1 71 1) N i) + 1) ((staV (mG S) (S.1 71 1) N (i + 1)) - 1 - (staV (mG S) (S.1 71 1) N i)))]) (by rw [lyT_at hS9.1.1 (by omega) (by omega)]) ?_
            refine q_f2i (pc := 154) rfl ?_
            exact q_iret (pc := 155) rfl rfl (mA_ok (by rw [hoL, tN_nI (show i < 2 ^ 31 by omega), linA, if_neg (show ¬ nI u = 0 by rw [w_23 h66 hu h44]; decide), if_neg (show ¬ nI u = 1 by rw [w_23 h66 hu h44]; decide), if_pos (w_23 h66 hu h44), show (staV (mG S) (S.1 71 1) N (i + 1)) - 1 - (staV (mG S) (S.1 71 1) N i) + 1 = (staV (mG S) (S.1 71 1) N (i + 1)) - (staV (mG S) (S.1 71 1) N i) by omega, show (staV (mG S) (S.1 71 1) N (i + 1)) - 1 - (staV (mG S) (S.1 71 1) N i) = (staV (mG S) (S.1 71 1) N (i + 1)) - (staV (mG S) (S.1 71 1) N i) - 1 by omega]; rfl) (fm_tr hS9.1.1 fm_ly))
          · refine q_iload_n (pc := 69) (j := 2) rfl rfl ?_
            refine q_if_ne (pc := 70) 82 rfl (by decide) (fun h70 => ?_) (fun h70 => ?_)
            · refine q_aload_n (pc := 82) (j := 0) rfl rfl ?_
              refine q_get (pc := 83) (a := 70) (v := .ref 83) rfl fl_X9_48 hm.1 rfl rfl ?_
              refine q_iload_n (pc := 86) (j := 1) rfl rfl ?_
              refine q_iald (pc := 87) (a := 83) i rfl hm.2.2.2.2.2.2.2.2.2.2.2.2.2.1 (vp_in_nI (by omega) (by decide)) (nI_clamp (by omega)) ?_
              refine q_st (st2 := [.int (nI ((staV (mG S) (S.1 71 1) N (i + 1)) - 1))]) (by rw [(show (S9.1 83 i) = _ from hb9.2)]) ?_
              exact q_iret (pc := 88) rfl rfl (mA_ok (by rw [hoL, tN_nI (show i < 2 ^ 31 by omega), linA, if_neg h70, if_pos (w_01 h66 hu h70)]) hS9.1.1)
            · refine q_aload_n (pc := 73) (j := 0) rfl rfl ?_
              refine q_get (pc := 74) (a := 70) (v := .ref 82) rfl fl_X9_45 hm.1 rfl rfl ?_
              refine q_iload_n (pc := 77) (j := 1) rfl rfl ?_
              refine q_iald (pc := 78) (a := 82) i rfl hm.2.2.2.2.2.2.2.2.2.2.2.2.1 (vp_in_nI (by omega) (by decide)) (nI_clamp (by omega)) ?_
              refine q_st (st2 := [.int (nI (staV (mG S) (S.1 71 1) N i))]) (by rw [(show (S9.1 82 i) = _ from hb9.1)]) ?_
              refine q_goto (pc := 79) 88 rfl (by decide) ?_
              exact q_iret (pc := 88) rfl rfl (mA_ok (by rw [hoL, tN_nI (show i < 2 ^ 31 by omega), linA, if_pos (show nI u = 0 from h70)]) hS9.1.1)
        · refine q_iload_n (pc := 47) (j := 1) rfl rfl ?_
          refine q_aload_n (pc := 48) (j := 0) rfl rfl ?_
          refine q_get (pc := 49) (a := 70) (v := .int (S9.1 70 15)) rfl fl_X9_201 hm.1 rfl rfl ?_
          refine q_st (st2 := [.int (nI (linV (mG S) (S.1 71 1) N)), .int k]) (by rw [(show (S9.1 70 15) = _ from (hS9.2 hf9).1)]) ?_
          refine q_iconst (pc := 52) 1 rfl (by decide) ?_
          refine q_isub (pc := 53) rfl ?_
          refine q_icmp_ne (pc := 54) 64 rfl (by decide) (fun h54 => ?_) (fun h54 => ?_)
          · have hn3 : ¬ (what = 3 ∧ k = nI (linV (mG S) (S.1 71 1) N) - 1) := fun q9 => h54 q9.2; have hoL := oLine_ok hf9 hl9 (pB_t h27) (pB_t h39) hn3; obtain ⟨i, rfl, hiL⟩ := isCo_of hl9 (by rw [← co_w hl9]; exact pB_t h27); obtain ⟨u, hu, rfl⟩ := pWi_of (m := 3) (by decide) (by decide) (pB_t h39); have hlt := sta_lt hN2 hf9 hiL; have hb9 := (hS9.2 hf9).2.2 i hiL
            refine q_iload_n (pc := 64) (j := 2) rfl rfl ?_
            refine q_iconst (pc := 65) 2 rfl (by decide) ?_
            refine q_icmp_ge (pc := 66) 89 rfl (by decide) (fun h66 => ?_) (fun h66 => ?_)
            · refine q_iload_n (pc := 89) (j := 2) rfl rfl ?_
              refine q_iconst (pc := 90) 3 rfl (by decide) ?_
              refine q_icmp_ne (pc := 91) 127 rfl (by decide) (fun h91 => ?_) (fun h91 => ?_)
              · refine q_aload_n (pc := 127) (j := 0) rfl rfl ?_
                refine q_aload_n (pc := 128) (j := 0) rfl rfl ?_
                refine q_get (pc := 129) (a := 70) (v := .ref 82) rfl fl_X9_45 hm.1 rfl rfl ?_
                refine q_iload_n (pc := 132) (j := 1) rfl rfl ?_
                refine q_iald (pc := 133) (a := 82) i rfl hm.2.2.2.2.2.2.2.2.2.2.2.2.1 (vp_in_nI (by omega) (by decide)) (nI_clamp (by omega)) ?_
                refine q_st (st2 := [.int (nI (staV (mG S) (S.1 71 1) N i)), .ref 70]) (by rw [(show (S9.1 82 i) = _ from hb9.1)]) ?_
                refine q_aload_n (pc := 134) (j := 0) rfl rfl ?_
                refine q_get (pc := 135) (a := 70) (v := .ref 83) rfl fl_X9_48 hm.1 rfl rfl ?_
                refine q_iload_n (pc := 138) (j := 1) rfl rfl ?_
                refine q_iald (pc := 139) (a := 83) i rfl hm.2.2.2.2.2.2.2.2.2.2.2.2.2.1 (vp_in_nI (by omega) (by decide)) (nI_clamp (by omega)) ?_
                refine q_st (st2 := [.int (nI ((staV (mG S) (S.1 71 1) N (i + 1)) - 1)), .int (nI (staV (mG S) (S.1 71 1) N i)), .ref 70]) (by rw [(show (S9.1 83 i) = _ from hb9.2)]) ?_
                refine q_callV (pc := 140) (as := [.int (nI (staV (mG S) (S.1 71 1) N i)), .int (nI ((staV (mG S) (S.1 71 1) N (i + 1)) - 1))]) (rest := []) (b := 70) (st2 := []) rfl ce_X9_laysOut ml_X9_179 im_X9_laysOut se_X9_laysOut hm.1 rfl rfl rfl (by decide) (Nat.le_of_ble_eq_true rfl) (sp_X9_laysOutI (x := (staV (mG S) (S.1 71 1) N i)) (y := ((staV (mG S) (S.1 71 1) N (i + 1)) - 1)) (N := N) hm (fm_iv hS9.1.1 hi) (by omega) (by omega)) rfl ?_
                refine q_aload_n (pc := 143) (j := 0) rfl rfl ?_
                refine q_get (pc := 144) (a := 70) (v := .ref 76) rfl fl_X9_27 hm.1 rfl rfl ?_
                refine q_aload_n (pc := 147) (j := 0) rfl rfl ?_
                refine q_get (pc := 148) (a := 70) (v := .ref 83) rfl fl_X9_48 hm.1 rfl rfl ?_
                refine q_iload_n (pc := 151) (j := 1) rfl rfl ?_
                refine q_iald (pc := 152) (a := 83) i rfl hm.2.2.2.2.2.2.2.2.2.2.2.2.2.1 (vp_in_nI (by omega) (by decide)) (nI_clamp (by omega)) ?_
                refine q_st (st2 := [.int (nI ((staV (mG S) (S.1 71 1) N (i + 1)) - 1)), .ref 76]) (by rw [(show ((lyM S9 (staV (mG S) (S.1 71 1) N i) (((staV (mG S) (S.1 71 1) N (i + 1)) - 1) - (staV (mG S) (S.1 71 1) N i) + 1)).1 83 i) = _ from (congrFun (lyM_o (by decide) (by decide)) i).trans hb9.2)]) ?_
                refine q_fald (pc := 153) (a := 76) ((staV (mG S) (S.1 71 1) N (i + 1)) - 1) rfl hm.2.2.2.2.2.2.1 (vp_in_nI (by omega) (by decide)) (nI_clamp (by omega)) ?_
                refine q_st (st2 := [.float (atV (mG S) (S.1 71 1) (staV (mG S) (S.1 71 1) N i) ((staV (mG S) (S.1 71 1) N (i + 1)) - 1 - (staV (mG S) (S.1 71 1) N i) + 1) ((staV (mG S) (S.1 71 1) N (i + 1)) - 1 - (staV (mG S) (S.1 71 1) N i)))]) (by rw [lyT_at hS9.1.1 (by omega) (by omega)]) ?_
                refine q_f2i (pc := 154) rfl ?_
                exact q_iret (pc := 155) rfl rfl (mA_ok (by rw [hoL, tN_nI (show i < 2 ^ 31 by omega), linA, if_neg (show ¬ nI u = 0 by rw [w_23 h66 hu h91]; decide), if_neg (show ¬ nI u = 1 by rw [w_23 h66 hu h91]; decide), if_pos (w_23 h66 hu h91), show (staV (mG S) (S.1 71 1) N (i + 1)) - 1 - (staV (mG S) (S.1 71 1) N i) + 1 = (staV (mG S) (S.1 71 1) N (i + 1)) - (staV (mG S) (S.1 71 1) N i) by omega, show (staV (mG S) (S.1 71 1) N (i + 1)) - 1 - (staV (mG S) (S.1 71 1) N i) = (staV (mG S) (S.1 71 1) N (i + 1)) - (staV (mG S) (S.1 71 1) N i) - 1 by omega]; rfl) (fm_tr hS9.1.1 fm_ly))
              · have hi2 : i + 1 < (linV (mG S) (S.1 71 1) N) := (by have h9 : ¬ i = (linV (mG S) (S.1 71 1) N) - 1 := fun q9 => hn3 ⟨h91, by rw [q9]; exact (pk_sub (b := 1) (by omega)).symm⟩; omega); have hlt8 : (staV (mG S) (S.1 71 1) N (i + 1)) < (staV (mG S) (S.1 71 1) N (i + 2)) ∧ (staV (mG S) (S.1 71 1) N (i + 2)) ≤ N := sta_lt hN2 hf9 hi2; have hb8 := (hS9.2 hf9).2.2 (i + 1) hi2
                refine q_aload_n (pc := 94) (j := 0) rfl rfl ?_
                refine q_aload_n (pc := 95) (j := 0) rfl rfl ?_
                refine q_get (pc := 96) (a := 70) (v := .ref 82) rfl fl_X9_45 hm.1 rfl rfl ?_
                refine q_iload_n (pc := 99) (j := 1) rfl rfl ?_
                refine q_iald (pc := 100) (a := 82) i rfl hm.2.2.2.2.2.2.2.2.2.2.2.2.1 (vp_in_nI (by omega) (by decide)) (nI_clamp (by omega)) ?_
                refine q_st (st2 := [.int (nI (staV (mG S) (S.1 71 1) N i)), .ref 70]) (by rw [(show (S9.1 82 i) = _ from hb9.1)]) ?_
                refine q_aload_n (pc := 101) (j := 0) rfl rfl ?_
                refine q_get (pc := 102) (a := 70) (v := .ref 83) rfl fl_X9_48 hm.1 rfl rfl ?_
                refine q_iload_n (pc := 105) (j := 1) rfl rfl ?_
                refine q_iald (pc := 106) (a := 83) i rfl hm.2.2.2.2.2.2.2.2.2.2.2.2.2.1 (vp_in_nI (by omega) (by decide)) (nI_clamp (by omega)) ?_
                refine q_st (st2 := [.int (nI ((staV (mG S) (S.1 71 1) N (i + 1)) - 1)), .int (nI (staV (mG S) (S.1 71 1) N i)), .ref 70]) (by rw [(show (S9.1 83 i) = _ from hb9.2)]) ?_
                refine q_aload_n (pc := 107) (j := 0) rfl rfl ?_
                refine q_get (pc := 108) (a := 70) (v := .ref 82) rfl fl_X9_45 hm.1 rfl rfl ?_
                refine q_iload_n (pc := 111) (j := 1) rfl rfl ?_
                refine q_iconst (pc := 112) 1 rfl (by decide) ?_
                refine q_iadd (pc := 113) rfl ?_
                refine q_st (st2 := [.int (nI (i + 1)), .ref 82, .int (nI ((staV (mG S) (S.1 71 1) N (i + 1)) - 1)), .int (nI (staV (mG S) (S.1 71 1) N i)), .ref 70]) (by rw [nI_1 i]) ?_
                refine q_iald (pc := 114) (a := 82) (i + 1) rfl hm.2.2.2.2.2.2.2.2.2.2.2.2.1 (vp_in_nI (by omega) (by decide)) (nI_clamp (by omega)) ?_
                refine q_st (st2 := [.int (nI (staV (mG S) (S.1 71 1) N (i + 1))), .int (nI ((staV (mG S) (S.1 71 1) N (i + 1)) - 1)), .int (nI (staV (mG S) (S.1 71 1) N i)), .ref 70]) (by rw [(show (S9.1 82 (i + 1)) = _ from hb8.1)]) ?_
                refine q_aload_n (pc := 115) (j := 0) rfl rfl ?_
                refine q_get (pc := 116) (a := 70) (v := .ref 83) rfl fl_X9_48 hm.1 rfl rfl ?_
                refine q_iload_n (pc := 119) (j := 1) rfl rfl ?_
                refine q_iconst (pc := 120) 1 rfl (by decide) ?_
                refine q_iadd (pc := 121) rfl ?_
                refine q_st (st2 := [.int (nI (i + 1)), .ref 83, .int (nI (staV (mG S) (S.1 71 1) N (i + 1))), .int (nI ((staV (mG S) (S.1 71 1) N (i + 1)) - 1)), .int (nI (staV (mG S) (S.1 71 1) N i)), .ref 70]) (by rw [nI_1 i]) ?_
                refine q_iald (pc := 122) (a := 83) (i + 1) rfl hm.2.2.2.2.2.2.2.2.2.2.2.2.2.1 (vp_in_nI (by omega) (by decide)) (nI_clamp (by omega)) ?_
                refine q_st (st2 := [.int (nI ((staV (mG S) (S.1 71 1) N (i + 2)) - 1)), .int (nI (staV (mG S) (S.1 71 1) N (i + 1))), .int (nI ((staV (mG S) (S.1 71 1) N (i + 1)) - 1)), .int (nI (staV (mG S) (S.1 71 1) N i)), .ref 70]) (by rw [(show (S9.1 83 (i + 1)) = _ from hb8.2)]) ?_
                refine q_callV (pc := 123) (as := [.int (nI (staV (mG S) (S.1 71 1) N i)), .int (nI ((staV (mG S) (S.1 71 1) N (i + 1)) - 1)), .int (nI (staV (mG S) (S.1 71 1) N (i + 1))), .int (nI ((staV (mG S) (S.1 71 1) N (i + 2)) - 1))]) (rest := []) (b := 70) (st2 := [.int (apV (mG S) (S.1 71 1) (staV (mG S) (S.1 71 1) N i) (((staV (mG S) (S.1 71 1) N (i + 1)) - 1) - (staV (mG S) (S.1 71 1) N i) + 1) (staV (mG S) (S.1 71 1) N (i + 1)) (((staV (mG S) (S.1 71 1) N (i + 2)) - 1) - (staV (mG S) (S.1 71 1) N (i + 1)) + 1))]) rfl ce_X9_apartOf ml_X9_194 im_X9_apartOf se_X9_apartOf hm.1 rfl rfl rfl (by decide) (Nat.le_of_ble_eq_true rfl) (sp_X9_apartOfT (S := S) (N := N) (x := (staV (mG S) (S.1 71 1) N i)) (y := ((staV (mG S) (S.1 71 1) N (i + 1)) - 1)) (z := (staV (mG S) (S.1 71 1) N (i + 1))) (t := ((staV (mG S) (S.1 71 1) N (i + 2)) - 1)) hm hi hS9.1.1 (by omega) (by omega) (by omega) (by omega)) rfl ?_
                exact q_iret (pc := 126) rfl rfl (mA_ok (by rw [hoL, tN_nI (show i < 2 ^ 31 by omega), linA, if_neg (show ¬ nI u = 0 by rw [h91]; decide), if_neg (show ¬ nI u = 1 by rw [h91]; decide), if_neg (show ¬ nI u = 2 by rw [h91]; decide), show (staV (mG S) (S.1 71 1) N (i + 1)) - 1 - (staV (mG S) (S.1 71 1) N i) + 1 = (staV (mG S) (S.1 71 1) N (i + 1)) - (staV (mG S) (S.1 71 1) N i) by omega, show (staV (mG S) (S.1 71 1) N (i + 2)) - 1 - (staV (mG S) (S.1 71 1) N (i + 1)) + 1 = (staV (mG S) (S.1 71 1) N (i + 2)) - (staV (mG S) (S.1 71 1) N (i + 1)) by omega]) (fm_tr hS9.1.1 fm_ap))
            · refine q_iload_n (pc := 69) (j := 2) rfl rfl ?_
              refine q_if_ne (pc := 70) 82 rfl (by decide) (fun h70 => ?_) (fun h70 => ?_)
              · refine q_aload_n (pc := 82) (j := 0) rfl rfl ?_
                refine q_get (pc := 83) (a := 70) (v := .ref 83) rfl fl_X9_48 hm.1 rfl rfl ?_
                refine q_iload_n (pc := 86) (j := 1) rfl rfl ?_
                refine q_iald (pc := 87) (a := 83) i rfl hm.2.2.2.2.2.2.2.2.2.2.2.2.2.1 (vp_in_nI (by omega) (by decide)) (nI_clamp (by omega)) ?_
                refine q_st (st2 := [.int (nI ((staV (mG S) (S.1 71 1) N (i + 1)) - 1))]) (by rw [(show (S9.1 83 i) = _ from hb9.2)]) ?_
                exact q_iret (pc := 88) rfl rfl (mA_ok (by rw [hoL, tN_nI (show i < 2 ^ 31 by omega), linA, if_neg h70, if_pos (w_01 h66 hu h70)]) hS9.1.1)
              · refine q_aload_n (pc := 73) (j := 0) rfl rfl ?_
                refine q_get (pc := 74) (a := 70) (v := .ref 82) rfl fl_X9_45 hm.1 rfl rfl ?_
                refine q_iload_n (pc := 77) (j := 1) rfl rfl ?_
                refine q_iald (pc := 78) (a := 82) i rfl hm.2.2.2.2.2.2.2.2.2.2.2.2.1 (vp_in_nI (by omega) (by decide)) (nI_clamp (by omega)) ?_
                refine q_st (st2 := [.int (nI (staV (mG S) (S.1 71 1) N i))]) (by rw [(show (S9.1 82 i) = _ from hb9.1)]) ?_
                refine q_goto (pc := 79) 88 rfl (by decide) ?_
                exact q_iret (pc := 88) rfl rfl (mA_ok (by rw [hoL, tN_nI (show i < 2 ^ 31 by omega), linA, if_pos (show nI u = 0 from h70)]) hS9.1.1)
          · refine q_aload_n (pc := 57) (j := 0) rfl rfl ?_
            refine q_ldc (pc := 58) (v := (-2147483001)) rfl kc_X9_109 ?_
            refine q_callV (pc := 60) (as := [.int (-2147483001)]) (rest := []) (b := 70) (st2 := [.int (-2147483000 - nI 1)]) rfl ce_X9_errs ml_X9_110 im_X9_errs se_X9_errs hm.1 rfl rfl rfl (by decide) (Nat.le_of_ble_eq_true rfl) (sp_X9_errs (e := 1) hm (by decide) (by decide)) rfl ?_
            exact q_iret (pc := 63) rfl rfl (mA_no (k := 0) (oLine_no hf9 hl9 (Or.inr (Or.inr ⟨h44, h54⟩))) (fm_er hS9.1.1))
  · refine q_aload_n (pc := 7) (j := 0) rfl rfl ?_
    refine q_ldc (pc := 8) (v := (-2147483002)) rfl kc_X9_119 ?_
    refine q_callV (pc := 10) (as := [.int (-2147483002)]) (rest := []) (b := 70) (st2 := [.int (-2147483000 - nI 2)]) rfl ce_X9_errs ml_X9_110 im_X9_errs se_X9_errs hm.1 rfl rfl rfl (by decide) (Nat.le_of_ble_eq_true rfl) (sp_X9_errs (e := 2) hm (by decide) (by decide)) rfl ?_
    exact q_iret (pc := 13) rfl rfl (mA_no (k := 1) (by rw [oLine, if_neg (show ¬ _ = true from by rw [pB_f h4]; decide)]) (fm_er hS9.1.1))
set_option maxRecDepth 100000 in
theorem lp_X9_areNotes {n0 : Nat} {X : Nat × (Nat → Int32)} {P : Option Value → PSt → Prop} {d : Nat} (hd9 : 1 ≤ d) {sh : List PSh} {S T : PSt} {x y n : Nat} (hm : isMo sh) (hg : mG T = mG S) (hy : y < 32) (hn : x + n = y + 1)  (hex : ∀ i, ntsV (mG S) x n = true → pV mX9_areNotes d n0 X sh P 24 [some (.ref 70), some (.int (nI x)), some (.int (nI y)), some (.int i)] [] T) (hno : ntsV (mG S) x n = false → P (some (.int 0)) T) : ∀ (m k : Nat), k + m = n → ntsV (mG S) x k = true → pV mX9_areNotes d n0 X sh P 2 [some (.ref 70), some (.int (nI x)), some (.int (nI y)), some (.int (nI (x + k)))] [] T := by
  intro m
  induction m with
  | zero =>
    intro k hk hnt
    have hk9 : n = k := by omega
    subst hk9
    refine q_iload_n (pc := 2) (j := 3) rfl rfl ?_
    refine q_iload_n (pc := 3) (j := 2) rfl rfl ?_
    refine q_icmp_gt (pc := 4) 24 rfl (by decide) (fun _ => ?_) (fun h9 => absurd (nI_lt (by omega) (by omega)) h9)
    exact hex _ hnt
  | succ m ih =>
    intro k hk hnt
    have hk1 : k < n := by omega
    have hk2 : k < n := hk1
    refine q_iload_n (pc := 2) (j := 3) rfl rfl ?_
    refine q_iload_n (pc := 3) (j := 2) rfl rfl ?_
    refine q_icmp_gt (pc := 4) 24 rfl (by decide) (fun h9 => absurd h9 (nI_nlt (by omega) (by omega))) (fun _ => ?_)
    refine q_aload_n (pc := 7) (j := 0) rfl rfl ?_
    refine q_iload_n (pc := 8) (j := 3) rfl rfl ?_
    refine q_iconst (pc := 9) 0 rfl (by decide) ?_
    refine q_callV (pc := 10) (as := [.int (nI (x + k)), .int 0]) (rest := []) (b := 70) (st2 := [.int ((mG S) (5 * (x + k) + 0))]) rfl ce_X9_its ml_X9_124 im_X9_its se_X9_its hm.1 rfl rfl rfl (by omega) (Nat.le_of_ble_eq_true rfl) (sp_X9_itsG (c := (x + k)) (i := 0) (g := (mG S)) hg hm (by omega) (by omega)) rfl ?_
    refine q_if_eq (pc := 13) 18 rfl (by decide) (fun h13 => ?_) (fun h13 => ?_)
    · refine q_iinc (pc := 18) (j := 3) (n := 1) (nI (x + (k + 1))) [some (.ref 70), some (.int (nI x)), some (.int (nI y)), some (.int (nI (x + (k + 1))))] rfl (by decide) rfl (show nI (x + k) + 1 = nI (x + (k + 1)) from nI_1 (x + k)) rfl ?_
      refine q_goto (pc := 21) 2 rfl (by decide) ?_
      exact ih (k + 1) (by omega) (by rw [ntsV, hnt, decide_eq_true h13]; rfl)
    · refine q_iconst (pc := 16) 0 rfl (by decide) ?_
      exact q_zret (pc := 17) rfl rfl rfl (hno (ntsV_no (k := k) (by omega) h13))
set_option maxRecDepth 100000 in
theorem sp_X9_areNotes {sh : List PSh} {S T : PSt} {x y n : Nat} (hm : isMo sh) (hg : mG T = mG S) (hy : y < 32) (hn : x + n = y + 1)  : pF mX9_areNotes 1 [.ref 70, .int (nI x), .int (nI y)] sh T T (some (.int (pB (ntsV (mG S) x n)))) := by
  refine pF.of (pG.of [some (.ref 70), some (.int (nI x)), some (.int (nI y)), none] (by decide) tk_X9_areNotes (Nat.le_of_ble_eq_true rfl) rfl (fun X => ?_))
  refine q_iload_n (pc := 0) (j := 1) rfl rfl ?_
  refine q_istore_n (pc := 1) (j := 3) [some (.ref 70), some (.int (nI x)), some (.int (nI y)), some (.int (nI x))] rfl (by decide) rfl ?_
  refine lp_X9_areNotes (by decide) hm hg hy hn (fun i hnt => ?_) (fun hnt => ⟨congrArg (fun v => some (Value.int v)) (by rw [hnt]; rfl), rfl⟩) n 0 (Nat.zero_add n) rfl
  refine q_iconst (pc := 24) 1 rfl (by decide) ?_
  exact q_zret (pc := 25) rfl rfl rfl ⟨congrArg (fun v => some (Value.int v)) (by rw [hnt]; rfl), rfl⟩
set_option maxRecDepth 100000 in
theorem lp_X9_isUp {n0 : Nat} {X : Nat × (Nat → Int32)} {P : Option Value → PSt → Prop} {d : Nat} (hd9 : 1 ≤ d) {sh : List PSh} {S T : PSt} {x y n : Nat} (hm : isMo sh) (hg : mG T = mG S) (hy : y < 32) (hn : x + n = y + 1)  (hex : ∀ i, pV mX9_isUp d n0 X sh P 27 [some (.ref 70), some (.int (nI x)), some (.int (nI y)), some (.int (stpV (mG S) x n)), some (.int i)] [] T) : ∀ (m k : Nat), k + m = n → pV mX9_isUp d n0 X sh P 5 [some (.ref 70), some (.int (nI x)), some (.int (nI y)), some (.int (stpV (mG S) x k)), some (.int (nI (x + k)))] [] T := by
  intro m
  induction m with
  | zero =>
    intro k hk
    have hk9 : n = k := by omega
    subst hk9
    refine q_iload (pc := 5) (j := 4) rfl rfl ?_
    refine q_iload_n (pc := 7) (j := 2) rfl rfl ?_
    refine q_icmp_gt (pc := 8) 27 rfl (by decide) (fun _ => ?_) (fun h9 => absurd (nI_lt (by omega) (by omega)) h9)
    exact hex _
  | succ m ih =>
    intro k hk
    have hk1 : k < n := by omega
    have hk2 : k < n := hk1
    refine q_iload (pc := 5) (j := 4) rfl rfl ?_
    refine q_iload_n (pc := 7) (j := 2) rfl rfl ?_
    refine q_icmp_gt (pc := 8) 27 rfl (by decide) (fun h9 => absurd h9 (nI_nlt (by omega) (by omega))) (fun _ => ?_)
    refine q_iload_n (pc := 11) (j := 3) rfl rfl ?_
    refine q_aload_n (pc := 12) (j := 0) rfl rfl ?_
    refine q_iload (pc := 13) (j := 4) rfl rfl ?_
    refine q_iconst (pc := 15) 2 rfl (by decide) ?_
    refine q_callV (pc := 16) (as := [.int (nI (x + k)), .int 2]) (rest := [.int (stpV (mG S) x k)]) (b := 70) (st2 := [.int ((mG S) (5 * (x + k) + 2)), .int (stpV (mG S) x k)]) rfl ce_X9_its ml_X9_124 im_X9_its se_X9_its hm.1 rfl rfl rfl (by omega) (Nat.le_of_ble_eq_true rfl) (sp_X9_itsG (c := (x + k)) (i := 2) (g := (mG S)) hg hm (by omega) (by omega)) rfl ?_
    refine q_iadd (pc := 19) rfl ?_
    refine q_istore_n (pc := 20) (j := 3) [some (.ref 70), some (.int (nI x)), some (.int (nI y)), some (.int ((stpV (mG S) x k) + ((mG S) (5 * (x + k) + 2)))), some (.int (nI (x + k)))] rfl (by decide) rfl ?_
    refine q_iinc (pc := 21) (j := 4) (n := 1) (nI (x + (k + 1))) [some (.ref 70), some (.int (nI x)), some (.int (nI y)), some (.int ((stpV (mG S) x k) + ((mG S) (5 * (x + k) + 2)))), some (.int (nI (x + (k + 1))))] rfl (by decide) rfl (show nI (x + k) + 1 = nI (x + (k + 1)) from nI_1 (x + k)) rfl ?_
    refine q_goto (pc := 24) 5 rfl (by decide) ?_
    exact ih (k + 1) (by omega)
set_option maxRecDepth 100000 in
theorem sp_X9_isUp {sh : List PSh} {S T : PSt} {x y n : Nat} (hm : isMo sh) (hg : mG T = mG S) (hy : y < 32) (hn : x + n = y + 1)  : pF mX9_isUp 1 [.ref 70, .int (nI x), .int (nI y)] sh T T (some (.int (pB (upV (mG S) x n)))) := by
  refine pF.of (pG.of [some (.ref 70), some (.int (nI x)), some (.int (nI y)), none, none] (by decide) tk_X9_isUp (Nat.le_of_ble_eq_true rfl) rfl (fun X => ?_))
  refine q_iconst (pc := 0) 0 rfl (by decide) ?_
  refine q_istore_n (pc := 1) (j := 3) [some (.ref 70), some (.int (nI x)), some (.int (nI y)), some (.int 0), none] rfl (by decide) rfl ?_
  refine q_iload_n (pc := 2) (j := 1) rfl rfl ?_
  refine q_istore (pc := 3) (j := 4) [some (.ref 70), some (.int (nI x)), some (.int (nI y)), some (.int 0), some (.int (nI x))] rfl (by decide) rfl ?_
  refine lp_X9_isUp (by decide) hm hg hy hn (fun i => ?_) n 0 (Nat.zero_add n)
  refine q_iload_n (pc := 27) (j := 3) rfl rfl ?_
  refine q_if_ge (pc := 28) 35 rfl (by decide) (fun h28 => ?_) (fun h28 => ?_)
  · refine q_iconst (pc := 35) 0 rfl (by decide) ?_
    exact q_zret (pc := 36) rfl rfl rfl ⟨congrArg (fun v => some (Value.int v)) (by first | (rw [upV, decide_eq_true (Int32.not_le.mp h28)]; rfl) | (rw [upV, decide_eq_false (Int32.not_lt.mpr h28)]; rfl)), rfl⟩
  · refine q_iconst (pc := 31) 1 rfl (by decide) ?_
    refine q_goto (pc := 32) 36 rfl (by decide) ?_
    exact q_zret (pc := 36) rfl rfl rfl ⟨congrArg (fun v => some (Value.int v)) (by first | (rw [upV, decide_eq_true (Int32.not_le.mp h28)]; rfl) | (rw [upV, decide_eq_false (Int32.not_lt.mpr h28)]; rfl)), rfl⟩
set_option maxRecDepth 100000 in
theorem sp_X9_whole {sh : List PSh} {S : PSt} {q : UInt32} : pF mX9_whole 0 [.float q] sh S S (some (.float (FP.i2f (whoV q)))) := by
  refine pF.of (pG.of [some (.float q), none] (by decide) tk_X9_whole (Nat.le_of_ble_eq_true rfl) rfl (fun X => ?_))
  refine q_fload_n (pc := 0) (j := 0) rfl rfl ?_
  refine q_f2i (pc := 1) rfl ?_
  refine q_istore_n (pc := 2) (j := 1) [some (.float q), some (.int (FP.f2i q))] rfl (by decide) rfl ?_
  refine q_iload_n (pc := 3) (j := 1) rfl rfl ?_
  refine q_i2f (pc := 4) rfl ?_
  refine q_fload_n (pc := 5) (j := 0) rfl rfl ?_
  refine q_fcmp (pc := 6) (op := .l) rfl ?_
  refine q_if_le (pc := 7) 17 rfl (by decide) (fun h7 => ?_) (fun h7 => ?_)
  · refine q_iload_n (pc := 17) (j := 1) rfl rfl ?_
    refine q_i2f (pc := 18) rfl ?_
    exact q_fret (pc := 19) rfl rfl ⟨congrArg (fun v => some (Value.float v)) (by unfold whoV; first | (rw [if_pos (show fgt (FP.i2f (FP.f2i q)) q = true from decide_eq_true (Int32.not_le.mp h7)), ← Int32.sub_eq_add_neg]) | (rw [if_neg (show ¬ fgt (FP.i2f (FP.f2i q)) q = true from fun q9 => absurd (of_decide_eq_true q9) (Int32.not_lt.mpr h7))])), rfl⟩
  · refine q_iload_n (pc := 10) (j := 1) rfl rfl ?_
    refine q_iconst (pc := 11) 1 rfl (by decide) ?_
    refine q_isub (pc := 12) rfl ?_
    refine q_i2f (pc := 13) rfl ?_
    refine q_goto (pc := 14) 19 rfl (by decide) ?_
    exact q_fret (pc := 19) rfl rfl ⟨congrArg (fun v => some (Value.float v)) (by unfold whoV; first | (rw [if_pos (show fgt (FP.i2f (FP.f2i q)) q = true from decide_eq_true (Int32.not_le.mp h7)), ← Int32.sub_eq_add_neg]) | (rw [if_neg (show ¬ fgt (FP.i2f (FP.f2i q)) q = true from fun q9 => absurd (of_decide_eq_true q9) (Int32.not_lt.mpr h7))])), rfl⟩
theorem half_nn {c : Int32} (h1 : -32 ≤ c.toInt) (h2 : c.toInt ≤ 32) : vf_n32 (FP.fdiv (FP.i2f c) FP.fconst2) := by
  have h := FP.Core.fmul_mag (a := FP.i2f c) (b := 1056964608) (Ka := 160) (Kb := 127) (i2f_K c) c_half.2.1 (by decide) (by decide)
  rw [show FP.fdiv (FP.i2f c) FP.fconst2 = FP.fmul (FP.i2f c) 1056964608 from half_eq h1 h2]
  exact fF_nn (fF_mg (K := 161) h (by decide))
theorem ste_d {g : Nat → Int32} {x y N : Nat} (hok : okG g N) (hx : x < N) (hy : y < N) : -32 ≤ (g (5 * y + 2) - g (5 * x + 2)).toInt ∧ (g (5 * y + 2) - g (5 * x + 2)).toInt ≤ 32 := by
  have gx := (hok x hx).2.2.1
  have gy := (hok y hy).2.2.1
  rw [Int32.toInt_sub, Int.bmod_eq_of_le (by omega) (by omega)]
  omega
theorem at_y {S T : PSt} {x y : Nat} (hat : ∀ k, k < y - x + 1 → T.2.1 76 (x + k) = atV (mG S) (S.1 71 1) x (y - x + 1) k) (hxy : x ≤ y) : T.2.1 76 y = atV (mG S) (S.1 71 1) x (y - x + 1) (y - x) := by
  have h := hat (y - x) (by omega)
  rw [show x + (y - x) = y by omega] at h
  exact h
set_option maxRecDepth 100000 in
theorem sp_X9_rise {sh : List PSh} {S T : PSt} {x y N : Nat} (hm : isMo sh) (hg : mG T = mG S) (hat : ∀ k, k < y - x + 1 → T.2.1 76 (x + k) = atV (mG S) (S.1 71 1) x (y - x + 1) k) (hN2 : N ≤ 32) (hok : okG (mG S) N) (hw : okWd (S.1 71 1)) (hxy2 : x < y) (hyN : y < N)  : pF mX9_rise 1 [.ref 70, .int (nI x), .int (nI y)] sh T T (some (.float (risV (mG S) (S.1 71 1) x y))) := by
  have hbm := beam_ok hok hw hN2 hxy2 hyN
  refine pF.of (pG.of [some (.ref 70), some (.int (nI x)), some (.int (nI y)), none] (by decide) tk_X9_rise (Nat.le_of_ble_eq_true rfl) rfl (fun X => ?_))
  refine q_aload_n (pc := 0) (j := 0) rfl rfl ?_
  refine q_iload_n (pc := 1) (j := 2) rfl rfl ?_
  refine q_iconst (pc := 2) 2 rfl (by decide) ?_
  refine q_callV (pc := 3) (as := [.int (nI y), .int 2]) (rest := []) (b := 70) (st2 := [.int ((mG S) (5 * y + 2))]) rfl ce_X9_its ml_X9_124 im_X9_its se_X9_its hm.1 rfl rfl rfl (by decide) (Nat.le_of_ble_eq_true rfl) (sp_X9_itsG (c := y) (i := 2) (g := (mG S)) hg hm (by omega) (by omega)) rfl ?_
  refine q_aload_n (pc := 6) (j := 0) rfl rfl ?_
  refine q_iload_n (pc := 7) (j := 1) rfl rfl ?_
  refine q_iconst (pc := 8) 2 rfl (by decide) ?_
  refine q_callV (pc := 9) (as := [.int (nI x), .int 2]) (rest := [.int ((mG S) (5 * y + 2))]) (b := 70) (st2 := [.int ((mG S) (5 * x + 2)), .int ((mG S) (5 * y + 2))]) rfl ce_X9_its ml_X9_124 im_X9_its se_X9_its hm.1 rfl rfl rfl (by decide) (Nat.le_of_ble_eq_true rfl) (sp_X9_itsG (c := x) (i := 2) (g := (mG S)) hg hm (by omega) (by omega)) rfl ?_
  refine q_isub (pc := 12) rfl ?_
  refine q_i2f (pc := 13) rfl ?_
  refine q_fconst2 (pc := 14) rfl ?_
  refine q_fdiv (pc := 15) rfl (half_nn (ste_d hok (by omega) hyN).1 (ste_d hok (by omega) hyN).2) ?_
  refine q_fstore_n (pc := 16) (j := 3) [some (.ref 70), some (.int (nI x)), some (.int (nI y)), some (.float (FP.fdiv (FP.i2f (((mG S) (5 * y + 2)) - ((mG S) (5 * x + 2)))) FP.fconst2))] rfl (by decide) rfl ?_
  refine q_fload_n (pc := 17) (j := 3) rfl rfl ?_
  refine q_aload_n (pc := 18) (j := 0) rfl rfl ?_
  refine q_get (pc := 19) (a := 70) (v := .ref 76) rfl fl_X9_27 hm.1 rfl rfl ?_
  refine q_iload_n (pc := 22) (j := 2) rfl rfl ?_
  refine q_fald (pc := 23) (a := 76) y rfl hm.2.2.2.2.2.2.1 (vp_in_nI (by omega) (by decide)) (nI_clamp (by omega)) ?_
  refine q_st (st2 := [.float (atV (mG S) (S.1 71 1) x (y - x + 1) (y - x)), .float (FP.fdiv (FP.i2f (((mG S) (5 * y + 2)) - ((mG S) (5 * x + 2)))) FP.fconst2)]) (by rw [(show (T.2.1 76 y) = _ from at_y hat (by omega))]) ?_
  refine q_fdiv (pc := 24) rfl (by have h9 := hbm.2.2.2.2.2.2.2.2; have h8 := fF_nn hbm.2.1.1; rw [h9] at h8; exact h8) ?_
  exact q_fret (pc := 25) rfl rfl ⟨congrArg (fun v => some (Value.float v)) hbm.2.2.2.2.2.2.2.2.symm, rfl⟩
set_option maxRecDepth 100000 in
theorem sp_X9_slope {sh : List PSh} {S T : PSt} {x y N : Nat} (hm : isMo sh) (hg : mG T = mG S) (hat : ∀ k, k < y - x + 1 → T.2.1 76 (x + k) = atV (mG S) (S.1 71 1) x (y - x + 1) k) (hN2 : N ≤ 32) (hok : okG (mG S) N) (hw : okWd (S.1 71 1)) (hxy2 : x < y) (hyN : y < N)  : pF mX9_slope 2 [.ref 70, .int (nI x), .int (nI y)] sh T T (some (.float (sloV (mG S) (S.1 71 1) x y))) := by
  have hbm := beam_ok hok hw hN2 hxy2 hyN
  refine pF.of (pG.of [some (.ref 70), some (.int (nI x)), some (.int (nI y)), none] (by decide) tk_X9_slope (Nat.le_of_ble_eq_true rfl) rfl (fun X => ?_))
  refine q_aload_n (pc := 0) (j := 0) rfl rfl ?_
  refine q_iload_n (pc := 1) (j := 1) rfl rfl ?_
  refine q_iload_n (pc := 2) (j := 2) rfl rfl ?_
  refine q_callV (pc := 3) (as := [.int (nI x), .int (nI y)]) (rest := []) (b := 70) (st2 := [.float (risV (mG S) (S.1 71 1) x y)]) rfl ce_X9_rise ml_X9_223 im_X9_rise se_X9_rise hm.1 rfl rfl rfl (by decide) (Nat.le_of_ble_eq_true rfl) (sp_X9_rise (S := S) (x := x) (y := y) hm hg hat hN2 hok hw hxy2 hyN) rfl ?_
  refine q_ldcf (pc := 6) (v := 1082130432) rfl kc_X9_227 ?_
  refine q_fmul (pc := 8) rfl hbm.2.2.1.1 ?_
  refine q_fstore_n (pc := 9) (j := 3) [some (.ref 70), some (.int (nI x)), some (.int (nI y)), some (.float (FP.fmul (risV (mG S) (S.1 71 1) x y) 1082130432))] rfl (by decide) rfl ?_
  refine q_fload_n (pc := 10) (j := 3) rfl rfl ?_
  refine q_ldcf (pc := 11) (v := 1056964608) rfl kc_X9_228 ?_
  refine q_fadd (pc := 13) rfl hbm.2.2.1.2.1 ?_
  refine q_st (st2 := [.float (qrtV (risV (mG S) (S.1 71 1) x y))]) (by rw [show (FP.fadd (FP.fmul (risV (mG S) (S.1 71 1) x y) 1082130432) 1056964608) = (qrtV (risV (mG S) (S.1 71 1) x y)) from rfl]) ?_
  refine q_fstore_n (pc := 14) (j := 3) [some (.ref 70), some (.int (nI x)), some (.int (nI y)), some (.float (qrtV (risV (mG S) (S.1 71 1) x y)))] rfl (by decide) rfl ?_
  refine q_fload_n (pc := 15) (j := 3) rfl rfl ?_
  refine q_callS (pc := 16) (as := [.float (qrtV (risV (mG S) (S.1 71 1) x y))]) (rest := []) (st2 := [.float (FP.i2f (whoV (qrtV (risV (mG S) (S.1 71 1) x y))))]) rfl ce_X9_whole ml_X9_229 st_X9_whole rfl (by decide) (Nat.le_of_ble_eq_true rfl) (sp_X9_whole (q := (qrtV (risV (mG S) (S.1 71 1) x y)))) rfl ?_
  refine q_ldcf (pc := 19) (v := 1082130432) rfl kc_X9_227 ?_
  refine q_fdiv (pc := 21) rfl hbm.2.2.1.2.2 ?_
  refine q_fstore_n (pc := 22) (j := 3) [some (.ref 70), some (.int (nI x)), some (.int (nI y)), some (.float (FP.fdiv (FP.i2f (whoV (qrtV (risV (mG S) (S.1 71 1) x y)))) 1082130432))] rfl (by decide) rfl ?_
  refine q_fload_n (pc := 23) (j := 3) rfl rfl ?_
  refine q_ldcf (pc := 24) (v := 3204448256) rfl kc_X9_233 ?_
  refine q_fcmp (pc := 26) (op := .g) rfl ?_
  refine q_if_ge (pc := 27) 35 rfl (by decide) (fun h27 => ?_) (fun h27 => ?_)
  · refine q_fload_n (pc := 35) (j := 3) rfl rfl ?_
    refine q_ldcf (pc := 36) (v := 1056964608) rfl kc_X9_228 ?_
    refine q_fcmp (pc := 38) (op := .l) rfl ?_
    refine q_if_le (pc := 39) 47 rfl (by decide) (fun h39 => ?_) (fun h39 => ?_)
    · refine q_fload_n (pc := 47) (j := 3) rfl rfl ?_
      exact q_fret (pc := 48) rfl rfl ⟨congrArg (fun v => some (Value.float v)) (by rw [sloV, sloC, clpV]; first | (rw [if_pos (show flt _ _ = true from decide_eq_true (Int32.not_le.mp h27))]) | (rw [if_neg (show ¬ flt _ _ = true from fun q9 => absurd (of_decide_eq_true q9) (Int32.not_lt.mpr h27)), if_pos (show fgt _ _ = true from decide_eq_true (Int32.not_le.mp h39))]) | (rw [if_neg (show ¬ flt _ _ = true from fun q9 => absurd (of_decide_eq_true q9) (Int32.not_lt.mpr h27)), if_neg (show ¬ fgt _ _ = true from fun q9 => absurd (of_decide_eq_true q9) (Int32.not_lt.mpr h39))])), rfl⟩
    · refine q_ldcf (pc := 42) (v := 1056964608) rfl kc_X9_228 ?_
      refine q_goto (pc := 44) 48 rfl (by decide) ?_
      exact q_fret (pc := 48) rfl rfl ⟨congrArg (fun v => some (Value.float v)) (by rw [sloV, sloC, clpV]; first | (rw [if_pos (show flt _ _ = true from decide_eq_true (Int32.not_le.mp h27))]) | (rw [if_neg (show ¬ flt _ _ = true from fun q9 => absurd (of_decide_eq_true q9) (Int32.not_lt.mpr h27)), if_pos (show fgt _ _ = true from decide_eq_true (Int32.not_le.mp h39))]) | (rw [if_neg (show ¬ flt _ _ = true from fun q9 => absurd (of_decide_eq_true q9) (Int32.not_lt.mpr h27)), if_neg (show ¬ fgt _ _ = true from fun q9 => absurd (of_decide_eq_true q9) (Int32.not_lt.mpr h39))])), rfl⟩
  · refine q_ldcf (pc := 30) (v := 3204448256) rfl kc_X9_233 ?_
    refine q_goto (pc := 32) 48 rfl (by decide) ?_
    exact q_fret (pc := 48) rfl rfl ⟨congrArg (fun v => some (Value.float v)) (by rw [sloV, sloC, clpV]; first | (rw [if_pos (show flt _ _ = true from decide_eq_true (Int32.not_le.mp h27))]) | (rw [if_neg (show ¬ flt _ _ = true from fun q9 => absurd (of_decide_eq_true q9) (Int32.not_lt.mpr h27)), if_pos (show fgt _ _ = true from decide_eq_true (Int32.not_le.mp h39))]) | (rw [if_neg (show ¬ flt _ _ = true from fun q9 => absurd (of_decide_eq_true q9) (Int32.not_lt.mpr h27)), if_neg (show ¬ fgt _ _ = true from fun q9 => absurd (of_decide_eq_true q9) (Int32.not_lt.mpr h39))])), rfl⟩
set_option maxRecDepth 100000 in
theorem lp_X9_lift {n0 : Nat} {X : Nat × (Nat → Int32)} {P : Option Value → PSt → Prop} {d : Nat} (hd9 : 1 ≤ d) {sh : List PSh} {S T : PSt} {x y N : Nat} (hm : isMo sh) (hg : mG T = mG S) (hat : ∀ k, k < y - x + 1 → T.2.1 76 (x + k) = atV (mG S) (S.1 71 1) x (y - x + 1) k) (hN2 : N ≤ 32) (hok : okG (mG S) N) (hw : okWd (S.1 71 1)) (hxy2 : x < y) (hyN : y < N) (hdr : ∀ k, k < y - x + 1 → okDr (upV (mG S) x (y - x + 1)) (tilC (upV (mG S) x (y - x + 1)) (sloV (mG S) (S.1 71 1) x y)) (mG S (5 * (x + k) + 2)) (atV (mG S) (S.1 71 1) x (y - x + 1) k) (atV (mG S) (S.1 71 1) x (y - x + 1) (y - x)))  (hex : ∀ i f7 f8 f9, pV mX9_lift d n0 X sh P 132 [some (.ref 70), some (.int (nI x)), some (.int (nI y)), some (.int (pB (upV (mG S) x (y - x + 1)))), some (.float (tilC (upV (mG S) x (y - x + 1)) (sloV (mG S) (S.1 71 1) x y))), some (.float (grtC (upV (mG S) x (y - x + 1)) (tilC (upV (mG S) x (y - x + 1)) (sloV (mG S) (S.1 71 1) x y)) (fun k => mG S (5 * (x + k) + 2)) (fun k => atV (mG S) (S.1 71 1) x (y - x + 1) k) (atV (mG S) (S.1 71 1) x (y - x + 1) (y - x)) (y - x + 1))), some (.int i), f7, f8, f9] [] T) : ∀ (m k : Nat) (f7 f8 f9 : Option Value), k + m = (y - x + 1) → pV mX9_lift d n0 X sh P 36 [some (.ref 70), some (.int (nI x)), some (.int (nI y)), some (.int (pB (upV (mG S) x (y - x + 1)))), some (.float (tilC (upV (mG S) x (y - x + 1)) (sloV (mG S) (S.1 71 1) x y))), some (.float (grtC (upV (mG S) x (y - x + 1)) (tilC (upV (mG S) x (y - x + 1)) (sloV (mG S) (S.1 71 1) x y)) (fun k => mG S (5 * (x + k) + 2)) (fun k => atV (mG S) (S.1 71 1) x (y - x + 1) k) (atV (mG S) (S.1 71 1) x (y - x + 1) (y - x)) k)), some (.int (nI (x + k))), f7, f8, f9] [] T := by
  intro m
  induction m with
  | zero =>
    intro k f7 f8 f9 hk
    have hk9 : (y - x + 1) = k := by omega
    subst hk9
    refine q_iload (pc := 36) (j := 6) rfl rfl ?_
    refine q_iload_n (pc := 38) (j := 2) rfl rfl ?_
    refine q_icmp_gt (pc := 39) 132 rfl (by decide) (fun _ => ?_) (fun h9 => absurd (nI_lt (by omega) (by omega)) h9)
    exact hex _ _ _ _
  | succ m ih =>
    intro k f7 f8 f9 hk
    have hk1 : k < (y - x + 1) := by omega
    have hk2 : k < (y - x + 1) := hk1
    refine q_iload (pc := 36) (j := 6) rfl rfl ?_
    refine q_iload_n (pc := 38) (j := 2) rfl rfl ?_
    refine q_icmp_gt (pc := 39) 132 rfl (by decide) (fun h9 => absurd h9 (nI_nlt (by omega) (by omega))) (fun _ => ?_)
    refine q_aload_n (pc := 42) (j := 0) rfl rfl ?_
    refine q_iload (pc := 43) (j := 6) rfl rfl ?_
    refine q_iconst (pc := 45) 2 rfl (by decide) ?_
    refine q_callV (pc := 46) (as := [.int (nI (x + k)), .int 2]) (rest := []) (b := 70) (st2 := [.int ((mG S) (5 * (x + k) + 2))]) rfl ce_X9_its ml_X9_124 im_X9_its se_X9_its hm.1 rfl rfl rfl (by omega) (Nat.le_of_ble_eq_true rfl) (sp_X9_itsG (c := (x + k)) (i := 2) (g := (mG S)) hg hm (by omega) (by omega)) rfl ?_
    refine q_i2f (pc := 49) rfl ?_
    have hd8 := hdr k hk1
    refine q_fstore (pc := 50) (j := 7) [some (.ref 70), some (.int (nI x)), some (.int (nI y)), some (.int (pB (upV (mG S) x (y - x + 1)))), some (.float (tilC (upV (mG S) x (y - x + 1)) (sloV (mG S) (S.1 71 1) x y))), some (.float (grtC (upV (mG S) x (y - x + 1)) (tilC (upV (mG S) x (y - x + 1)) (sloV (mG S) (S.1 71 1) x y)) (fun k => mG S (5 * (x + k) + 2)) (fun k => atV (mG S) (S.1 71 1) x (y - x + 1) k) (atV (mG S) (S.1 71 1) x (y - x + 1) (y - x)) k)), some (.int (nI (x + k))), some (.float (FP.i2f ((mG S) (5 * (x + k) + 2)))), f8, f9] rfl (by decide) rfl ?_
    refine q_iload_n (pc := 52) (j := 3) rfl rfl ?_
    refine q_join 65 [some (.ref 70), some (.int (nI x)), some (.int (nI y)), some (.int (pB (upV (mG S) x (y - x + 1)))), some (.float (tilC (upV (mG S) x (y - x + 1)) (sloV (mG S) (S.1 71 1) x y))), some (.float (grtC (upV (mG S) x (y - x + 1)) (tilC (upV (mG S) x (y - x + 1)) (sloV (mG S) (S.1 71 1) x y)) (fun k => mG S (5 * (x + k) + 2)) (fun k => atV (mG S) (S.1 71 1) x (y - x + 1) k) (atV (mG S) (S.1 71 1) x (y - x + 1) (y - x)) k)), some (.int (nI (x + k))), some (.float (FP.i2f ((mG S) (5 * (x + k) + 2)))), f8, f9] [.float (tilC (upV (mG S) x (y - x + 1)) (FP.i2f (mG S (5 * (x + k) + 2))))] T ?_ (fun key53 => ?_)
    · refine q_fstore (pc := 65) (j := 7) [some (.ref 70), some (.int (nI x)), some (.int (nI y)), some (.int (pB (upV (mG S) x (y - x + 1)))), some (.float (tilC (upV (mG S) x (y - x + 1)) (sloV (mG S) (S.1 71 1) x y))), some (.float (grtC (upV (mG S) x (y - x + 1)) (tilC (upV (mG S) x (y - x + 1)) (sloV (mG S) (S.1 71 1) x y)) (fun k => mG S (5 * (x + k) + 2)) (fun k => atV (mG S) (S.1 71 1) x (y - x + 1) k) (atV (mG S) (S.1 71 1) x (y - x + 1) (y - x)) k)), some (.int (nI (x + k))), some (.float (tilC (upV (mG S) x (y - x + 1)) (FP.i2f (mG S (5 * (x + k) + 2))))), f8, f9] rfl (by decide) rfl ?_
      refine q_aload_n (pc := 67) (j := 0) rfl rfl ?_
      refine q_get (pc := 68) (a := 70) (v := .ref 76) rfl fl_X9_27 hm.1 rfl rfl ?_
      refine q_iload (pc := 71) (j := 6) rfl rfl ?_
      refine q_fald (pc := 73) (a := 76) (x + k) rfl hm.2.2.2.2.2.2.1 (vp_in_nI (by omega) (by decide)) (nI_clamp (by omega)) ?_
      refine q_st (st2 := [.float (atV (mG S) (S.1 71 1) x (y - x + 1) k)]) (by rw [(show (T.2.1 76 (x + k)) = _ from hat k hk1)]) ?_
      refine q_aload_n (pc := 74) (j := 0) rfl rfl ?_
      refine q_get (pc := 75) (a := 70) (v := .ref 76) rfl fl_X9_27 hm.1 rfl rfl ?_
      refine q_iload_n (pc := 78) (j := 2) rfl rfl ?_
      refine q_fald (pc := 79) (a := 76) y rfl hm.2.2.2.2.2.2.1 (vp_in_nI (by omega) (by decide)) (nI_clamp (by omega)) ?_
      refine q_st (st2 := [.float (atV (mG S) (S.1 71 1) x (y - x + 1) (y - x)), .float (atV (mG S) (S.1 71 1) x (y - x + 1) k)]) (by rw [(show (T.2.1 76 y) = _ from at_y hat (by omega))]) ?_
      refine q_fsub (pc := 80) rfl hd8.2.1 ?_
      refine q_fstore (pc := 81) (j := 8) [some (.ref 70), some (.int (nI x)), some (.int (nI y)), some (.int (pB (upV (mG S) x (y - x + 1)))), some (.float (tilC (upV (mG S) x (y - x + 1)) (sloV (mG S) (S.1 71 1) x y))), some (.float (grtC (upV (mG S) x (y - x + 1)) (tilC (upV (mG S) x (y - x + 1)) (sloV (mG S) (S.1 71 1) x y)) (fun k => mG S (5 * (x + k) + 2)) (fun k => atV (mG S) (S.1 71 1) x (y - x + 1) k) (atV (mG S) (S.1 71 1) x (y - x + 1) (y - x)) k)), some (.int (nI (x + k))), some (.float (tilC (upV (mG S) x (y - x + 1)) (FP.i2f (mG S (5 * (x + k) + 2))))), some (.float (FP.fsub (atV (mG S) (S.1 71 1) x (y - x + 1) k) (atV (mG S) (S.1 71 1) x (y - x + 1) (y - x)))), f9] rfl (by decide) rfl ?_
      refine q_fload (pc := 83) (j := 4) rfl rfl ?_
      refine q_fload (pc := 85) (j := 8) rfl rfl ?_
      refine q_fmul (pc := 87) rfl hd8.2.2.1 ?_
      refine q_fstore (pc := 88) (j := 8) [some (.ref 70), some (.int (nI x)), some (.int (nI y)), some (.int (pB (upV (mG S) x (y - x + 1)))), some (.float (tilC (upV (mG S) x (y - x + 1)) (sloV (mG S) (S.1 71 1) x y))), some (.float (grtC (upV (mG S) x (y - x + 1)) (tilC (upV (mG S) x (y - x + 1)) (sloV (mG S) (S.1 71 1) x y)) (fun k => mG S (5 * (x + k) + 2)) (fun k => atV (mG S) (S.1 71 1) x (y - x + 1) k) (atV (mG S) (S.1 71 1) x (y - x + 1) (y - x)) k)), some (.int (nI (x + k))), some (.float (tilC (upV (mG S) x (y - x + 1)) (FP.i2f (mG S (5 * (x + k) + 2))))), some (.float (FP.fmul (tilC (upV (mG S) x (y - x + 1)) (sloV (mG S) (S.1 71 1) x y)) (FP.fsub (atV (mG S) (S.1 71 1) x (y - x + 1) k) (atV (mG S) (S.1 71 1) x (y - x + 1) (y - x))))), f9] rfl (by decide) rfl ?_
      refine q_fload (pc := 90) (j := 8) rfl rfl ?_
      refine q_fconst2 (pc := 92) rfl ?_
      refine q_fmul (pc := 93) rfl hd8.2.2.2.1 ?_
      refine q_fstore (pc := 94) (j := 8) [some (.ref 70), some (.int (nI x)), some (.int (nI y)), some (.int (pB (upV (mG S) x (y - x + 1)))), some (.float (tilC (upV (mG S) x (y - x + 1)) (sloV (mG S) (S.1 71 1) x y))), some (.float (grtC (upV (mG S) x (y - x + 1)) (tilC (upV (mG S) x (y - x + 1)) (sloV (mG S) (S.1 71 1) x y)) (fun k => mG S (5 * (x + k) + 2)) (fun k => atV (mG S) (S.1 71 1) x (y - x + 1) k) (atV (mG S) (S.1 71 1) x (y - x + 1) (y - x)) k)), some (.int (nI (x + k))), some (.float (tilC (upV (mG S) x (y - x + 1)) (FP.i2f (mG S (5 * (x + k) + 2))))), some (.float (FP.fmul (FP.fmul (tilC (upV (mG S) x (y - x + 1)) (sloV (mG S) (S.1 71 1) x y)) (FP.fsub (atV (mG S) (S.1 71 1) x (y - x + 1) k) (atV (mG S) (S.1 71 1) x (y - x + 1) (y - x)))) FP.fconst2)), f9] rfl (by decide) rfl ?_
      refine q_fload (pc := 96) (j := 7) rfl rfl ?_
      refine q_fload (pc := 98) (j := 8) rfl rfl ?_
      refine q_fsub (pc := 100) rfl hd8.2.2.2.2 ?_
      refine q_st (st2 := [.float (droC (upV (mG S) x (y - x + 1)) (tilC (upV (mG S) x (y - x + 1)) (sloV (mG S) (S.1 71 1) x y)) (mG S (5 * (x + k) + 2)) (atV (mG S) (S.1 71 1) x (y - x + 1) k) (atV (mG S) (S.1 71 1) x (y - x + 1) (y - x)))]) (by rw [show (FP.fsub (tilC (upV (mG S) x (y - x + 1)) (FP.i2f (mG S (5 * (x + k) + 2)))) (FP.fmul (FP.fmul (tilC (upV (mG S) x (y - x + 1)) (sloV (mG S) (S.1 71 1) x y)) (FP.fsub (atV (mG S) (S.1 71 1) x (y - x + 1) k) (atV (mG S) (S.1 71 1) x (y - x + 1) (y - x)))) FP.fconst2)) = (droC (upV (mG S) x (y - x + 1)) (tilC (upV (mG S) x (y - x + 1)) (sloV (mG S) (S.1 71 1) x y)) (mG S (5 * (x + k) + 2)) (atV (mG S) (S.1 71 1) x (y - x + 1) k) (atV (mG S) (S.1 71 1) x (y - x + 1) (y - x))) from rfl]) ?_
      refine q_fstore (pc := 101) (j := 9) [some (.ref 70), some (.int (nI x)), some (.int (nI y)), some (.int (pB (upV (mG S) x (y - x + 1)))), some (.float (tilC (upV (mG S) x (y - x + 1)) (sloV (mG S) (S.1 71 1) x y))), some (.float (grtC (upV (mG S) x (y - x + 1)) (tilC (upV (mG S) x (y - x + 1)) (sloV (mG S) (S.1 71 1) x y)) (fun k => mG S (5 * (x + k) + 2)) (fun k => atV (mG S) (S.1 71 1) x (y - x + 1) k) (atV (mG S) (S.1 71 1) x (y - x + 1) (y - x)) k)), some (.int (nI (x + k))), some (.float (tilC (upV (mG S) x (y - x + 1)) (FP.i2f (mG S (5 * (x + k) + 2))))), some (.float (FP.fmul (FP.fmul (tilC (upV (mG S) x (y - x + 1)) (sloV (mG S) (S.1 71 1) x y)) (FP.fsub (atV (mG S) (S.1 71 1) x (y - x + 1) k) (atV (mG S) (S.1 71 1) x (y - x + 1) (y - x)))) FP.fconst2)), some (.float (droC (upV (mG S) x (y - x + 1)) (tilC (upV (mG S) x (y - x + 1)) (sloV (mG S) (S.1 71 1) x y)) (mG S (5 * (x + k) + 2)) (atV (mG S) (S.1 71 1) x (y - x + 1) k) (atV (mG S) (S.1 71 1) x (y - x + 1) (y - x))))] rfl (by decide) rfl ?_
      refine q_iload (pc := 103) (j := 6) rfl rfl ?_
      refine q_iload_n (pc := 105) (j := 1) rfl rfl ?_
      refine q_icmp_eq (pc := 106) 117 rfl (by decide) (fun h106 => ?_) (fun h106 => ?_)
      · refine q_fload (pc := 117) (j := 9) rfl rfl ?_
        refine q_goto (pc := 119) 124 rfl (by decide) ?_
        refine q_st (st2 := [.float (grtC (upV (mG S) x (y - x + 1)) (tilC (upV (mG S) x (y - x + 1)) (sloV (mG S) (S.1 71 1) x y)) (fun k => mG S (5 * (x + k) + 2)) (fun k => atV (mG S) (S.1 71 1) x (y - x + 1) k) (atV (mG S) (S.1 71 1) x (y - x + 1) (y - x)) (k + 1))]) (by first | rw [grtC, if_pos (Or.inl ((nI_eq (by omega) (by omega)).mp h106 |> (fun q9 => by omega)))] | rw [grtC, if_pos (Or.inr (show fgt _ _ = true from decide_eq_true (Int32.not_le.mp h114)))] | rw [grtC, if_neg (fun q9 => q9.elim (fun q9 => h106 (by rw [q9]; rfl)) (fun q9 => absurd (of_decide_eq_true q9) (Int32.not_lt.mpr h114)))]) ?_
        refine q_fstore (pc := 124) (j := 5) [some (.ref 70), some (.int (nI x)), some (.int (nI y)), some (.int (pB (upV (mG S) x (y - x + 1)))), some (.float (tilC (upV (mG S) x (y - x + 1)) (sloV (mG S) (S.1 71 1) x y))), some (.float (grtC (upV (mG S) x (y - x + 1)) (tilC (upV (mG S) x (y - x + 1)) (sloV (mG S) (S.1 71 1) x y)) (fun k => mG S (5 * (x + k) + 2)) (fun k => atV (mG S) (S.1 71 1) x (y - x + 1) k) (atV (mG S) (S.1 71 1) x (y - x + 1) (y - x)) (k + 1))), some (.int (nI (x + k))), some (.float (tilC (upV (mG S) x (y - x + 1)) (FP.i2f (mG S (5 * (x + k) + 2))))), some (.float (FP.fmul (FP.fmul (tilC (upV (mG S) x (y - x + 1)) (sloV (mG S) (S.1 71 1) x y)) (FP.fsub (atV (mG S) (S.1 71 1) x (y - x + 1) k) (atV (mG S) (S.1 71 1) x (y - x + 1) (y - x)))) FP.fconst2)), some (.float (droC (upV (mG S) x (y - x + 1)) (tilC (upV (mG S) x (y - x + 1)) (sloV (mG S) (S.1 71 1) x y)) (mG S (5 * (x + k) + 2)) (atV (mG S) (S.1 71 1) x (y - x + 1) k) (atV (mG S) (S.1 71 1) x (y - x + 1) (y - x))))] rfl (by decide) rfl ?_
        refine q_iinc (pc := 126) (j := 6) (n := 1) (nI (x + (k + 1))) [some (.ref 70), some (.int (nI x)), some (.int (nI y)), some (.int (pB (upV (mG S) x (y - x + 1)))), some (.float (tilC (upV (mG S) x (y - x + 1)) (sloV (mG S) (S.1 71 1) x y))), some (.float (grtC (upV (mG S) x (y - x + 1)) (tilC (upV (mG S) x (y - x + 1)) (sloV (mG S) (S.1 71 1) x y)) (fun k => mG S (5 * (x + k) + 2)) (fun k => atV (mG S) (S.1 71 1) x (y - x + 1) k) (atV (mG S) (S.1 71 1) x (y - x + 1) (y - x)) (k + 1))), some (.int (nI (x + (k + 1)))), some (.float (tilC (upV (mG S) x (y - x + 1)) (FP.i2f (mG S (5 * (x + k) + 2))))), some (.float (FP.fmul (FP.fmul (tilC (upV (mG S) x (y - x + 1)) (sloV (mG S) (S.1 71 1) x y)) (FP.fsub (atV (mG S) (S.1 71 1) x (y - x + 1) k) (atV (mG S) (S.1 71 1) x (y - x + 1) (y - x)))) FP.fconst2)), some (.float (droC (upV (mG S) x (y - x + 1)) (tilC (upV (mG S) x (y - x + 1)) (sloV (mG S) (S.1 71 1) x y)) (mG S (5 * (x + k) + 2)) (atV (mG S) (S.1 71 1) x (y - x + 1) k) (atV (mG S) (S.1 71 1) x (y - x + 1) (y - x))))] rfl (by decide) rfl (show nI (x + k) + 1 = nI (x + (k + 1)) from nI_1 (x + k)) rfl ?_
        refine q_goto (pc := 129) 36 rfl (by decide) ?_
        exact ih (k + 1) _ _ _ (by omega)
      · refine q_fload (pc := 109) (j := 9) rfl rfl ?_
        refine q_fload (pc := 111) (j := 5) rfl rfl ?_
        refine q_fcmp (pc := 113) (op := .l) rfl ?_
        refine q_if_le (pc := 114) 122 rfl (by decide) (fun h114 => ?_) (fun h114 => ?_)
        · refine q_fload (pc := 122) (j := 5) rfl rfl ?_
          refine q_st (st2 := [.float (grtC (upV (mG S) x (y - x + 1)) (tilC (upV (mG S) x (y - x + 1)) (sloV (mG S) (S.1 71 1) x y)) (fun k => mG S (5 * (x + k) + 2)) (fun k => atV (mG S) (S.1 71 1) x (y - x + 1) k) (atV (mG S) (S.1 71 1) x (y - x + 1) (y - x)) (k + 1))]) (by first | rw [grtC, if_pos (Or.inl ((nI_eq (by omega) (by omega)).mp h106 |> (fun q9 => by omega)))] | rw [grtC, if_pos (Or.inr (show fgt _ _ = true from decide_eq_true (Int32.not_le.mp h114)))] | rw [grtC, if_neg (fun q9 => q9.elim (fun q9 => h106 (by rw [q9]; rfl)) (fun q9 => absurd (of_decide_eq_true q9) (Int32.not_lt.mpr h114)))]) ?_
          refine q_fstore (pc := 124) (j := 5) [some (.ref 70), some (.int (nI x)), some (.int (nI y)), some (.int (pB (upV (mG S) x (y - x + 1)))), some (.float (tilC (upV (mG S) x (y - x + 1)) (sloV (mG S) (S.1 71 1) x y))), some (.float (grtC (upV (mG S) x (y - x + 1)) (tilC (upV (mG S) x (y - x + 1)) (sloV (mG S) (S.1 71 1) x y)) (fun k => mG S (5 * (x + k) + 2)) (fun k => atV (mG S) (S.1 71 1) x (y - x + 1) k) (atV (mG S) (S.1 71 1) x (y - x + 1) (y - x)) (k + 1))), some (.int (nI (x + k))), some (.float (tilC (upV (mG S) x (y - x + 1)) (FP.i2f (mG S (5 * (x + k) + 2))))), some (.float (FP.fmul (FP.fmul (tilC (upV (mG S) x (y - x + 1)) (sloV (mG S) (S.1 71 1) x y)) (FP.fsub (atV (mG S) (S.1 71 1) x (y - x + 1) k) (atV (mG S) (S.1 71 1) x (y - x + 1) (y - x)))) FP.fconst2)), some (.float (droC (upV (mG S) x (y - x + 1)) (tilC (upV (mG S) x (y - x + 1)) (sloV (mG S) (S.1 71 1) x y)) (mG S (5 * (x + k) + 2)) (atV (mG S) (S.1 71 1) x (y - x + 1) k) (atV (mG S) (S.1 71 1) x (y - x + 1) (y - x))))] rfl (by decide) rfl ?_
          refine q_iinc (pc := 126) (j := 6) (n := 1) (nI (x + (k + 1))) [some (.ref 70), some (.int (nI x)), some (.int (nI y)), some (.int (pB (upV (mG S) x (y - x + 1)))), some (.float (tilC (upV (mG S) x (y - x + 1)) (sloV (mG S) (S.1 71 1) x y))), some (.float (grtC (upV (mG S) x (y - x + 1)) (tilC (upV (mG S) x (y - x + 1)) (sloV (mG S) (S.1 71 1) x y)) (fun k => mG S (5 * (x + k) + 2)) (fun k => atV (mG S) (S.1 71 1) x (y - x + 1) k) (atV (mG S) (S.1 71 1) x (y - x + 1) (y - x)) (k + 1))), some (.int (nI (x + (k + 1)))), some (.float (tilC (upV (mG S) x (y - x + 1)) (FP.i2f (mG S (5 * (x + k) + 2))))), some (.float (FP.fmul (FP.fmul (tilC (upV (mG S) x (y - x + 1)) (sloV (mG S) (S.1 71 1) x y)) (FP.fsub (atV (mG S) (S.1 71 1) x (y - x + 1) k) (atV (mG S) (S.1 71 1) x (y - x + 1) (y - x)))) FP.fconst2)), some (.float (droC (upV (mG S) x (y - x + 1)) (tilC (upV (mG S) x (y - x + 1)) (sloV (mG S) (S.1 71 1) x y)) (mG S (5 * (x + k) + 2)) (atV (mG S) (S.1 71 1) x (y - x + 1) k) (atV (mG S) (S.1 71 1) x (y - x + 1) (y - x))))] rfl (by decide) rfl (show nI (x + k) + 1 = nI (x + (k + 1)) from nI_1 (x + k)) rfl ?_
          refine q_goto (pc := 129) 36 rfl (by decide) ?_
          exact ih (k + 1) _ _ _ (by omega)
        · refine q_fload (pc := 117) (j := 9) rfl rfl ?_
          refine q_goto (pc := 119) 124 rfl (by decide) ?_
          refine q_st (st2 := [.float (grtC (upV (mG S) x (y - x + 1)) (tilC (upV (mG S) x (y - x + 1)) (sloV (mG S) (S.1 71 1) x y)) (fun k => mG S (5 * (x + k) + 2)) (fun k => atV (mG S) (S.1 71 1) x (y - x + 1) k) (atV (mG S) (S.1 71 1) x (y - x + 1) (y - x)) (k + 1))]) (by first | rw [grtC, if_pos (Or.inl ((nI_eq (by omega) (by omega)).mp h106 |> (fun q9 => by omega)))] | rw [grtC, if_pos (Or.inr (show fgt _ _ = true from decide_eq_true (Int32.not_le.mp h114)))] | rw [grtC, if_neg (fun q9 => q9.elim (fun q9 => h106 (by rw [q9]; rfl)) (fun q9 => absurd (of_decide_eq_true q9) (Int32.not_lt.mpr h114)))]) ?_
          refine q_fstore (pc := 124) (j := 5) [some (.ref 70), some (.int (nI x)), some (.int (nI y)), some (.int (pB (upV (mG S) x (y - x + 1)))), some (.float (tilC (upV (mG S) x (y - x + 1)) (sloV (mG S) (S.1 71 1) x y))), some (.float (grtC (upV (mG S) x (y - x + 1)) (tilC (upV (mG S) x (y - x + 1)) (sloV (mG S) (S.1 71 1) x y)) (fun k => mG S (5 * (x + k) + 2)) (fun k => atV (mG S) (S.1 71 1) x (y - x + 1) k) (atV (mG S) (S.1 71 1) x (y - x + 1) (y - x)) (k + 1))), some (.int (nI (x + k))), some (.float (tilC (upV (mG S) x (y - x + 1)) (FP.i2f (mG S (5 * (x + k) + 2))))), some (.float (FP.fmul (FP.fmul (tilC (upV (mG S) x (y - x + 1)) (sloV (mG S) (S.1 71 1) x y)) (FP.fsub (atV (mG S) (S.1 71 1) x (y - x + 1) k) (atV (mG S) (S.1 71 1) x (y - x + 1) (y - x)))) FP.fconst2)), some (.float (droC (upV (mG S) x (y - x + 1)) (tilC (upV (mG S) x (y - x + 1)) (sloV (mG S) (S.1 71 1) x y)) (mG S (5 * (x + k) + 2)) (atV (mG S) (S.1 71 1) x (y - x + 1) k) (atV (mG S) (S.1 71 1) x (y - x + 1) (y - x))))] rfl (by decide) rfl ?_
          refine q_iinc (pc := 126) (j := 6) (n := 1) (nI (x + (k + 1))) [some (.ref 70), some (.int (nI x)), some (.int (nI y)), some (.int (pB (upV (mG S) x (y - x + 1)))), some (.float (tilC (upV (mG S) x (y - x + 1)) (sloV (mG S) (S.1 71 1) x y))), some (.float (grtC (upV (mG S) x (y - x + 1)) (tilC (upV (mG S) x (y - x + 1)) (sloV (mG S) (S.1 71 1) x y)) (fun k => mG S (5 * (x + k) + 2)) (fun k => atV (mG S) (S.1 71 1) x (y - x + 1) k) (atV (mG S) (S.1 71 1) x (y - x + 1) (y - x)) (k + 1))), some (.int (nI (x + (k + 1)))), some (.float (tilC (upV (mG S) x (y - x + 1)) (FP.i2f (mG S (5 * (x + k) + 2))))), some (.float (FP.fmul (FP.fmul (tilC (upV (mG S) x (y - x + 1)) (sloV (mG S) (S.1 71 1) x y)) (FP.fsub (atV (mG S) (S.1 71 1) x (y - x + 1) k) (atV (mG S) (S.1 71 1) x (y - x + 1) (y - x)))) FP.fconst2)), some (.float (droC (upV (mG S) x (y - x + 1)) (tilC (upV (mG S) x (y - x + 1)) (sloV (mG S) (S.1 71 1) x y)) (mG S (5 * (x + k) + 2)) (atV (mG S) (S.1 71 1) x (y - x + 1) k) (atV (mG S) (S.1 71 1) x (y - x + 1) (y - x))))] rfl (by decide) rfl (show nI (x + k) + 1 = nI (x + (k + 1)) from nI_1 (x + k)) rfl ?_
          refine q_goto (pc := 129) 36 rfl (by decide) ?_
          exact ih (k + 1) _ _ _ (by omega)
    · refine q_if_eq (pc := 53) 61 rfl (by decide) (fun h53 => ?_) (fun h53 => ?_)
      · refine q_fconst0 (pc := 61) rfl ?_
        refine q_fload (pc := 62) (j := 7) rfl rfl ?_
        refine q_fsub (pc := 64) rfl (hd8.1 (pB_f h53)) ?_
        exact q_st (by rw [tilC, if_neg (by rw [pB_f h53]; decide)]) key53
      · refine q_fload (pc := 56) (j := 7) rfl rfl ?_
        refine q_goto (pc := 58) 65 rfl (by decide) ?_
        exact q_st (by rw [tilC, if_pos (pB_t h53)]) key53
set_option maxRecDepth 100000 in
theorem sp_X9_lift {sh : List PSh} {S T : PSt} {x y N : Nat} (hm : isMo sh) (hg : mG T = mG S) (hat : ∀ k, k < y - x + 1 → T.2.1 76 (x + k) = atV (mG S) (S.1 71 1) x (y - x + 1) k) (hN2 : N ≤ 32) (hok : okG (mG S) N) (hw : okWd (S.1 71 1)) (hxy2 : x < y) (hyN : y < N)  : pF mX9_lift 3 [.ref 70, .int (nI x), .int (nI y)] sh T T (some (.float (lifV (mG S) (S.1 71 1) x y))) := by
  have hbm := beam_ok hok hw hN2 hxy2 hyN
  refine pF.of (pG.of [some (.ref 70), some (.int (nI x)), some (.int (nI y)), none, none, none, none, none, none, none] (by decide) tk_X9_lift (Nat.le_of_ble_eq_true rfl) rfl (fun X => ?_))
  refine q_aload_n (pc := 0) (j := 0) rfl rfl ?_
  refine q_iload_n (pc := 1) (j := 1) rfl rfl ?_
  refine q_iload_n (pc := 2) (j := 2) rfl rfl ?_
  refine q_callV (pc := 3) (as := [.int (nI x), .int (nI y)]) (rest := []) (b := 70) (st2 := [.int (pB (upV (mG S) x (y - x + 1)))]) rfl ce_X9_isUp ml_X9_234 im_X9_isUp se_X9_isUp hm.1 rfl rfl rfl (by decide) (Nat.le_of_ble_eq_true rfl) (sp_X9_isUp (S := S) (n := y - x + 1) hm hg (by omega) (by omega)) rfl ?_
  refine q_istore_n (pc := 6) (j := 3) [some (.ref 70), some (.int (nI x)), some (.int (nI y)), some (.int (pB (upV (mG S) x (y - x + 1)))), none, none, none, none, none, none] rfl (by decide) rfl ?_
  refine q_aload_n (pc := 7) (j := 0) rfl rfl ?_
  refine q_iload_n (pc := 8) (j := 1) rfl rfl ?_
  refine q_iload_n (pc := 9) (j := 2) rfl rfl ?_
  refine q_callV (pc := 10) (as := [.int (nI x), .int (nI y)]) (rest := []) (b := 70) (st2 := [.float (sloV (mG S) (S.1 71 1) x y)]) rfl ce_X9_slope ml_X9_237 im_X9_slope se_X9_slope hm.1 rfl rfl rfl (by decide) (Nat.le_of_ble_eq_true rfl) (sp_X9_slope (S := S) (x := x) (y := y) hm hg hat hN2 hok hw hxy2 hyN) rfl ?_
  refine q_fstore (pc := 13) (j := 4) [some (.ref 70), some (.int (nI x)), some (.int (nI y)), some (.int (pB (upV (mG S) x (y - x + 1)))), some (.float (sloV (mG S) (S.1 71 1) x y)), none, none, none, none, none] rfl (by decide) rfl ?_
  refine q_iload_n (pc := 15) (j := 3) rfl rfl ?_
  refine q_join 28 [some (.ref 70), some (.int (nI x)), some (.int (nI y)), some (.int (pB (upV (mG S) x (y - x + 1)))), some (.float (sloV (mG S) (S.1 71 1) x y)), none, none, none, none, none] [.float (tilC (upV (mG S) x (y - x + 1)) (sloV (mG S) (S.1 71 1) x y))] T ?_ (fun key16 => ?_)
  · refine q_fstore (pc := 28) (j := 4) [some (.ref 70), some (.int (nI x)), some (.int (nI y)), some (.int (pB (upV (mG S) x (y - x + 1)))), some (.float (tilC (upV (mG S) x (y - x + 1)) (sloV (mG S) (S.1 71 1) x y))), none, none, none, none, none] rfl (by decide) rfl ?_
    refine q_fconst0 (pc := 30) rfl ?_
    refine q_fstore (pc := 31) (j := 5) [some (.ref 70), some (.int (nI x)), some (.int (nI y)), some (.int (pB (upV (mG S) x (y - x + 1)))), some (.float (tilC (upV (mG S) x (y - x + 1)) (sloV (mG S) (S.1 71 1) x y))), some (.float FP.fconst0), none, none, none, none] rfl (by decide) rfl ?_
    refine q_iload_n (pc := 33) (j := 1) rfl rfl ?_
    refine q_istore (pc := 34) (j := 6) [some (.ref 70), some (.int (nI x)), some (.int (nI y)), some (.int (pB (upV (mG S) x (y - x + 1)))), some (.float (tilC (upV (mG S) x (y - x + 1)) (sloV (mG S) (S.1 71 1) x y))), some (.float FP.fconst0), some (.int (nI x)), none, none, none] rfl (by decide) rfl ?_
    refine lp_X9_lift (by decide) hm hg hat hN2 hok hw hxy2 hyN hbm.2.2.2.2.2.1 (fun i f7 f8 f9 => ?_) (y - x + 1) 0 _ _ _ (Nat.zero_add _)
    refine q_fload (pc := 132) (j := 5) rfl rfl ?_
    refine q_ldcf (pc := 134) (v := 1084227584) rfl kc_X9_240 ?_
    refine q_fadd (pc := 136) rfl hbm.2.2.2.2.2.2.1 ?_
    exact q_fret (pc := 137) rfl rfl ⟨rfl, rfl⟩
  · refine q_if_eq (pc := 16) 24 rfl (by decide) (fun h16 => ?_) (fun h16 => ?_)
    · refine q_fconst0 (pc := 24) rfl ?_
      refine q_fload (pc := 25) (j := 4) rfl rfl ?_
      refine q_fsub (pc := 27) rfl (hbm.2.2.2.2.1 (pB_f h16)) ?_
      exact q_st (by rw [tilC, if_neg (by rw [pB_f h16]; decide)]) key16
    · refine q_fload (pc := 19) (j := 4) rfl rfl ?_
      refine q_goto (pc := 21) 28 rfl (by decide) ?_
      exact q_st (by rw [tilC, if_pos (pB_t h16)]) key16
set_option maxRecDepth 100000 in
theorem sp_X9_beam {sh : List PSh} {S : PSt} {N : Nat} (hm : isMo sh) (hi : mIv S N) {a b what : Int32}  : pG mX9_beam 5 [.ref 70, .int a, .int b, .int what] sh S (mA (oBeam (mG S) (S.1 71 1) N a b what) S S) := by
  obtain ⟨hN, hN2, hok, hw⟩ := id hi
  refine pG.of [some (.ref 70), some (.int a), some (.int b), some (.int what)] (by decide) tk_X9_beam (Nat.le_of_ble_eq_true rfl) rfl (fun X => ?_)
  refine q_aload_n (pc := 0) (j := 0) rfl rfl ?_
  refine q_iload_n (pc := 1) (j := 1) rfl rfl ?_
  refine q_iload_n (pc := 2) (j := 2) rfl rfl ?_
  refine q_callV (pc := 3) (as := [.int a, .int b]) (rest := []) (b := 70) (st2 := [.int (pB (isStB N a b))]) rfl ce_X9_isStretch ml_X9_176 im_X9_isStretch se_X9_isStretch hm.1 rfl rfl rfl (by decide) (Nat.le_of_ble_eq_true rfl) (sp_X9_isStretch hm hN hN2) rfl ?_
  refine q_if_eq (pc := 6) 21 rfl (by decide) (fun h6 => ?_) (fun h6 => ?_)
  · refine q_aload_n (pc := 21) (j := 0) rfl rfl ?_
    refine q_ldc (pc := 22) (v := (-2147483001)) rfl kc_X9_109 ?_
    refine q_callV (pc := 24) (as := [.int (-2147483001)]) (rest := []) (b := 70) (st2 := [.int (-2147483000 - nI 1)]) rfl ce_X9_errs ml_X9_110 im_X9_errs se_X9_errs hm.1 rfl rfl rfl (by decide) (Nat.le_of_ble_eq_true rfl) (sp_X9_errs (e := 1) hm (by decide) (by decide)) rfl ?_
    exact q_iret (pc := 27) rfl rfl (mA_no (k := 0) (by rw [oBeam, if_neg (show ¬ _ = true from by rw [pB_f h6]; decide)]) fm_rf)
  · refine q_iload_n (pc := 9) (j := 3) rfl rfl ?_
    refine q_i2l (pc := 10) rfl ?_
    refine q_lconst (pc := 11) 0 rfl (by decide) ?_
    refine q_ldc2 (pc := 12) (v := 3) rfl kc_X9_212 ?_
    refine q_callS (pc := 15) (as := [.long (what.toInt64), .long 0, .long 3]) (rest := []) (st2 := [.int (pB (pWi what 0 3))]) rfl ce_X9_in ml_X9_85 st_X9_in rfl (by decide) (Nat.le_of_ble_eq_true rfl) (sp_X9_inW (v := what) (l := 0) (m := 3) (Int32.toInt_toInt64 _) (by decide) (by decide)) rfl ?_
    refine q_if_ne (pc := 18) 28 rfl (by decide) (fun h18 => ?_) (fun h18 => ?_)
    · obtain ⟨x, y, rfl, rfl, hxy, hyN⟩ := isSt_of hN2 (pB_t h6)
      refine q_iload_n (pc := 28) (j := 1) rfl rfl ?_
      refine q_iload_n (pc := 29) (j := 2) rfl rfl ?_
      refine q_icmp_ne (pc := 30) 40 rfl (by decide) (fun h30 => ?_) (fun h30 => ?_)
      · have hxy2 : x < y := (by have h9 : ¬ x = y := fun q9 => h30 (by rw [q9]); omega); have hbm := beam_ok hok hw hN2 hxy2 hyN
        refine q_aload_n (pc := 40) (j := 0) rfl rfl ?_
        refine q_iload_n (pc := 41) (j := 1) rfl rfl ?_
        refine q_iload_n (pc := 42) (j := 2) rfl rfl ?_
        refine q_callV (pc := 43) (as := [.int (nI x), .int (nI y)]) (rest := []) (b := 70) (st2 := [.int (pB (ntsV (mG S) x (y - x + 1)))]) rfl ce_X9_areNotes ml_X9_242 im_X9_areNotes se_X9_areNotes hm.1 rfl rfl rfl (by decide) (Nat.le_of_ble_eq_true rfl) (sp_X9_areNotes (S := S) (n := y - x + 1) hm rfl (by omega) (by omega)) rfl ?_
        refine q_if_ne (pc := 46) 56 rfl (by decide) (fun h46 => ?_) (fun h46 => ?_)
        · refine q_aload_n (pc := 56) (j := 0) rfl rfl ?_
          refine q_iload_n (pc := 57) (j := 1) rfl rfl ?_
          refine q_iload_n (pc := 58) (j := 2) rfl rfl ?_
          refine q_callV (pc := 59) (as := [.int (nI x), .int (nI y)]) (rest := []) (b := 70) (st2 := []) rfl ce_X9_laysOut ml_X9_179 im_X9_laysOut se_X9_laysOut hm.1 rfl rfl rfl (by decide) (Nat.le_of_ble_eq_true rfl) (sp_X9_laysOutI (x := x) (y := y) (N := N) hm hi (by omega) (by omega)) rfl ?_
          refine q_iload_n (pc := 62) (j := 3) rfl rfl ?_
          refine q_iconst (pc := 63) 2 rfl (by decide) ?_
          refine q_icmp_ne (pc := 64) 84 rfl (by decide) (fun h64 => ?_) (fun h64 => ?_)
          · refine q_iload_n (pc := 84) (j := 3) rfl rfl ?_
            refine q_if_ne (pc := 85) 97 rfl (by decide) (fun h85 => ?_) (fun h85 => ?_)
            · refine q_iload_n (pc := 97) (j := 3) rfl rfl ?_
              refine q_iconst (pc := 98) 1 rfl (by decide) ?_
              refine q_icmp_ne (pc := 99) 111 rfl (by decide) (fun h99 => ?_) (fun h99 => ?_)
              · refine q_aload_n (pc := 111) (j := 0) rfl rfl ?_
                refine q_iload_n (pc := 112) (j := 1) rfl rfl ?_
                refine q_iload_n (pc := 113) (j := 2) rfl rfl ?_
                refine q_callV (pc := 114) (as := [.int (nI x), .int (nI y)]) (rest := []) (b := 70) (st2 := [.float (lifV (mG S) (S.1 71 1) x y)]) rfl ce_X9_lift ml_X9_246 im_X9_lift se_X9_lift hm.1 rfl rfl rfl (by decide) (Nat.le_of_ble_eq_true rfl) (sp_X9_lift (S := S) (x := x) (y := y) hm (fm_mG fm_ly) (fun k hk => lyM_at hk) hN2 hok hw hxy2 hyN) rfl ?_
                refine q_callS (pc := 117) (as := [.float (lifV (mG S) (S.1 71 1) x y)]) (rest := []) (st2 := [.int ((lifV (mG S) (S.1 71 1) x y).toInt32)]) rfl ce_Jxf58ca_floatToIntBits_5c35a ml_X9_153 st_Jxf58ca_floatToIntBits_5c35a rfl (by decide) (Nat.le_of_ble_eq_true rfl) (sp_fbits (x := (lifV (mG S) (S.1 71 1) x y)) (fF_nn hbm.2.2.2.2.2.2.2.1.1)) rfl ?_
                exact q_iret (pc := 120) rfl rfl (mA_ok (by rw [oBeam, if_pos (pB_t h6), if_pos (pB_t h18), if_neg h30, lnN, tN_nI (show x < 2 ^ 31 by omega), tN_nI (show y < 2 ^ 31 by omega), if_pos (pB_t h46), beaA, if_neg h85, if_neg h99, if_neg h64]) fm_ly)
              · refine q_aload_n (pc := 102) (j := 0) rfl rfl ?_
                refine q_iload_n (pc := 103) (j := 1) rfl rfl ?_
                refine q_iload_n (pc := 104) (j := 2) rfl rfl ?_
                refine q_callV (pc := 105) (as := [.int (nI x), .int (nI y)]) (rest := []) (b := 70) (st2 := [.float (sloV (mG S) (S.1 71 1) x y)]) rfl ce_X9_slope ml_X9_237 im_X9_slope se_X9_slope hm.1 rfl rfl rfl (by decide) (Nat.le_of_ble_eq_true rfl) (sp_X9_slope (S := S) (x := x) (y := y) hm (fm_mG fm_ly) (fun k hk => lyM_at hk) hN2 hok hw hxy2 hyN) rfl ?_
                refine q_goto (pc := 108) 117 rfl (by decide) ?_
                refine q_callS (pc := 117) (as := [.float (sloV (mG S) (S.1 71 1) x y)]) (rest := []) (st2 := [.int ((sloV (mG S) (S.1 71 1) x y).toInt32)]) rfl ce_Jxf58ca_floatToIntBits_5c35a ml_X9_153 st_Jxf58ca_floatToIntBits_5c35a rfl (by decide) (Nat.le_of_ble_eq_true rfl) (sp_fbits (x := (sloV (mG S) (S.1 71 1) x y)) (fF_nn hbm.2.2.2.1.1)) rfl ?_
                exact q_iret (pc := 120) rfl rfl (mA_ok (by rw [oBeam, if_pos (pB_t h6), if_pos (pB_t h18), if_neg h30, lnN, tN_nI (show x < 2 ^ 31 by omega), tN_nI (show y < 2 ^ 31 by omega), if_pos (pB_t h46), beaA, if_neg h85, if_pos (show what = 1 from h99)]) fm_ly)
            · refine q_aload_n (pc := 88) (j := 0) rfl rfl ?_
              refine q_iload_n (pc := 89) (j := 1) rfl rfl ?_
              refine q_iload_n (pc := 90) (j := 2) rfl rfl ?_
              refine q_callV (pc := 91) (as := [.int (nI x), .int (nI y)]) (rest := []) (b := 70) (st2 := [.float (risV (mG S) (S.1 71 1) x y)]) rfl ce_X9_rise ml_X9_223 im_X9_rise se_X9_rise hm.1 rfl rfl rfl (by decide) (Nat.le_of_ble_eq_true rfl) (sp_X9_rise (S := S) (x := x) (y := y) hm (fm_mG fm_ly) (fun k hk => lyM_at hk) hN2 hok hw hxy2 hyN) rfl ?_
              refine q_goto (pc := 94) 117 rfl (by decide) ?_
              refine q_callS (pc := 117) (as := [.float (risV (mG S) (S.1 71 1) x y)]) (rest := []) (st2 := [.int ((risV (mG S) (S.1 71 1) x y).toInt32)]) rfl ce_Jxf58ca_floatToIntBits_5c35a ml_X9_153 st_Jxf58ca_floatToIntBits_5c35a rfl (by decide) (Nat.le_of_ble_eq_true rfl) (sp_fbits (x := (risV (mG S) (S.1 71 1) x y)) (fF_nn hbm.2.1.1)) rfl ?_
              exact q_iret (pc := 120) rfl rfl (mA_ok (by rw [oBeam, if_pos (pB_t h6), if_pos (pB_t h18), if_neg h30, lnN, tN_nI (show x < 2 ^ 31 by omega), tN_nI (show y < 2 ^ 31 by omega), if_pos (pB_t h46), beaA, if_pos (show what = 0 from h85)]) fm_ly)
          · refine q_aload_n (pc := 67) (j := 0) rfl rfl ?_
            refine q_iload_n (pc := 68) (j := 1) rfl rfl ?_
            refine q_iload_n (pc := 69) (j := 2) rfl rfl ?_
            refine q_callV (pc := 70) (as := [.int (nI x), .int (nI y)]) (rest := []) (b := 70) (st2 := [.int (pB (upV (mG S) x (y - x + 1)))]) rfl ce_X9_isUp ml_X9_234 im_X9_isUp se_X9_isUp hm.1 rfl rfl rfl (by decide) (Nat.le_of_ble_eq_true rfl) (sp_X9_isUp (S := S) (n := y - x + 1) hm (fm_mG fm_ly) (by omega) (by omega)) rfl ?_
            refine q_if_eq (pc := 73) 80 rfl (by decide) (fun h73 => ?_) (fun h73 => ?_)
            · refine q_iconst (pc := 80) 0 rfl (by decide) ?_
              refine q_goto (pc := 81) 120 rfl (by decide) ?_
              exact q_iret (pc := 120) rfl rfl (mA_ok (by rw [oBeam, if_pos (pB_t h6), if_pos (pB_t h18), if_neg h30, lnN, tN_nI (show x < 2 ^ 31 by omega), tN_nI (show y < 2 ^ 31 by omega), if_pos (pB_t h46), beaA, if_neg (show ¬ what = 0 by rw [h64]; decide), if_neg (show ¬ what = 1 by rw [h64]; decide), if_pos (show what = 2 from h64), show (upV (mG S) x (y - x + 1)) = false from pB_f h73]; rfl) fm_ly)
            · refine q_iconst (pc := 76) 1 rfl (by decide) ?_
              refine q_goto (pc := 77) 120 rfl (by decide) ?_
              exact q_iret (pc := 120) rfl rfl (mA_ok (by rw [oBeam, if_pos (pB_t h6), if_pos (pB_t h18), if_neg h30, lnN, tN_nI (show x < 2 ^ 31 by omega), tN_nI (show y < 2 ^ 31 by omega), if_pos (pB_t h46), beaA, if_neg (show ¬ what = 0 by rw [h64]; decide), if_neg (show ¬ what = 1 by rw [h64]; decide), if_pos (show what = 2 from h64), show (upV (mG S) x (y - x + 1)) = true from pB_t h73]; rfl) fm_ly)
        · refine q_aload_n (pc := 49) (j := 0) rfl rfl ?_
          refine q_ldc (pc := 50) (v := (-2147483005)) rfl kc_X9_245 ?_
          refine q_callV (pc := 52) (as := [.int (-2147483005)]) (rest := []) (b := 70) (st2 := [.int (-2147483000 - nI 5)]) rfl ce_X9_errs ml_X9_110 im_X9_errs se_X9_errs hm.1 rfl rfl rfl (by decide) (Nat.le_of_ble_eq_true rfl) (sp_X9_errs (e := 5) hm (by decide) (by decide)) rfl ?_
          exact q_iret (pc := 55) rfl rfl (mA_no (k := 4) (by rw [oBeam, if_pos (pB_t h6), if_pos (pB_t h18), if_neg h30, lnN, tN_nI (show x < 2 ^ 31 by omega), tN_nI (show y < 2 ^ 31 by omega), if_neg (show ¬ _ = true from by rw [pB_f h46]; decide)]) fm_rf)
      · refine q_aload_n (pc := 33) (j := 0) rfl rfl ?_
        refine q_ldc (pc := 34) (v := (-2147483003)) rfl kc_X9_241 ?_
        refine q_callV (pc := 36) (as := [.int (-2147483003)]) (rest := []) (b := 70) (st2 := [.int (-2147483000 - nI 3)]) rfl ce_X9_errs ml_X9_110 im_X9_errs se_X9_errs hm.1 rfl rfl rfl (by decide) (Nat.le_of_ble_eq_true rfl) (sp_X9_errs (e := 3) hm (by decide) (by decide)) rfl ?_
        exact q_iret (pc := 39) rfl rfl (mA_no (k := 2) (by rw [oBeam, if_pos (pB_t h6), if_pos (pB_t h18), if_pos h30]) fm_rf)
    · refine q_aload_n (pc := 21) (j := 0) rfl rfl ?_
      refine q_ldc (pc := 22) (v := (-2147483001)) rfl kc_X9_109 ?_
      refine q_callV (pc := 24) (as := [.int (-2147483001)]) (rest := []) (b := 70) (st2 := [.int (-2147483000 - nI 1)]) rfl ce_X9_errs ml_X9_110 im_X9_errs se_X9_errs hm.1 rfl rfl rfl (by decide) (Nat.le_of_ble_eq_true rfl) (sp_X9_errs (e := 1) hm (by decide) (by decide)) rfl ?_
      exact q_iret (pc := 27) rfl rfl (mA_no (k := 0) (by rw [oBeam, if_pos (pB_t h6), if_neg (show ¬ _ = true from by rw [pB_f h18]; decide)]) fm_rf)
