/-! the class's calls: lines, beams, slurs: written by wip/whole/gen/c39.py -/
theorem sw_out3 {x : Int32} (h0 : ¬ x = 0) (h1 : ¬ x = 1) (h2 : ¬ x = 2) : x.toInt < 0 ∨ 2 < x.toInt := by
  have a0 : x.toInt ≠ 0 := fun q => h0 (Int32.toInt_inj.mp (by rw [q]; rfl))
  have a1 : x.toInt ≠ 1 := fun q => h1 (Int32.toInt_inj.mp (by rw [q]; rfl))
  have a2 : x.toInt ≠ 2 := fun q => h2 (Int32.toInt_inj.mp (by rw [q]; rfl))
  omega
def fbS (S : PSt) (N : Nat) : PSt := fnG S 37 2 N (S.1 1 2)
theorem fb_fr {S : PSt} {N : Nat} : fr 15 61 S (fbS S N) := fr_wd fr_fnG (by decide) (by decide)
theorem fb_fr2 {S : PSt} {N : Nat} : fr 37 48 S (fbS S N) := fr_fnG
theorem fb_5 {S : PSt} {N : Nat} : (fbS S N).1 37 5 = pB (fouV (S.1 3) (S.1 1 2) N) := fn_5 (q := 2) (by decide)
theorem fb_4 {S : PSt} {N : Nat} (hf : fouV (S.1 3) (S.1 1 2) N = true) : (fbS S N).1 37 4 = nI (linV (S.1 3) (S.1 1 2) N) := fn_4 (q := 2) (by decide) hf
theorem fb_6 {S : PSt} {N : Nat} (hf : fouV (S.1 3) (S.1 1 2) N = true) : (fbS S N).2.1 37 6 = totV (S.1 3) (S.1 1 2) N := fn_6 (q := 2) (by decide) hf
theorem fb_st {S : PSt} {N k : Nat} (hN : N ≤ 32) (hf : fouV (S.1 3) (S.1 1 2) N = true) (hk : k ≤ linV (S.1 3) (S.1 1 2) N) : (fbS S N).1 40 k = nI (staV (S.1 3) (S.1 1 2) N k) := fn_sta (q := 2) (by decide) hN hf hk
set_option maxRecDepth 100000 in
theorem sp_X8_findBest {sh : List PSh} {S : PSt} {N : Nat} (he : isEl sh) (hi : cIv S N)  : pF mX8_findBest 5 [.ref 0] sh S (fbS S N) (none) := by
  obtain ⟨hN, hN2, hg, hw⟩ := hi
  refine pF.of (pG.of [some (.ref 0)] (by decide) tk_X8_findBest (Nat.le_of_ble_eq_true rfl) rfl (fun X => ?_))
  refine q_aload_n (pc := 0) (j := 0) rfl rfl ?_
  refine q_get (pc := 1) (a := 0) (v := .ref 37) rfl fl_X8_46 he.1 rfl rfl ?_
  refine q_aload_n (pc := 4) (j := 0) rfl rfl ?_
  refine q_get (pc := 5) (a := 0) (v := .ref 1) rfl fl_X8_10 he.1 rfl rfl ?_
  refine q_get (pc := 8) (a := 1) (v := .ref 2) rfl fl_X8_90 he.2.1.1 rfl rfl ?_
  refine q_aload_n (pc := 11) (j := 0) rfl rfl ?_
  refine q_get (pc := 12) (a := 0) (v := .ref 1) rfl fl_X8_10 he.1 rfl rfl ?_
  refine q_get (pc := 15) (a := 1) (v := .int (S.1 1 1)) rfl fl_X8_86 he.2.1.1 rfl rfl ?_
  refine q_st (st2 := [.int (nI N), .ref 2, .ref 37]) (by rw [(show (S.1 1 1) = nI N from hN)]) ?_
  refine q_aload_n (pc := 18) (j := 0) rfl rfl ?_
  refine q_get (pc := 19) (a := 0) (v := .ref 1) rfl fl_X8_10 he.1 rfl rfl ?_
  refine q_get (pc := 22) (a := 1) (v := .int (S.1 1 2)) rfl fl_X8_134 he.2.1.1 rfl rfl ?_
  refine q_callV (pc := 25) (as := [.ref 2, .int (nI N), .int (S.1 1 2)]) (rest := []) (b := 37) (st2 := []) rfl ce_X0_find ml_X8_211 im_X0_find se_X0_find he.2.2.2.2.2.2.2.1.1 rfl rfl rfl (by decide) (Nat.le_of_ble_eq_true rfl) (sp_findG he.2.2.2.2.2.2.2.1 he.2.1.2.1 (by decide) hN2 hg hw) rfl ?_
  exact q_vret (pc := 28) rfl rfl ⟨rfl, rfl⟩
set_option maxRecDepth 100000 in
theorem sp_X8_lines {sh : List PSh} {S : PSt} {N : Nat} (he : isEl sh) (hi : cIv S N)  : pG mX8_lines 6 [.ref 0] sh S (pA (oLines (S.1 3) (S.1 1 2) N) S S) := by
  obtain ⟨hN, hN2, hg, hw⟩ := hi
  refine pG.of [some (.ref 0)] (by decide) tk_X8_lines (Nat.le_of_ble_eq_true rfl) rfl (fun X => ?_)
  refine q_aload_n (pc := 0) (j := 0) rfl rfl ?_
  refine q_callV (pc := 1) (as := []) (rest := []) (b := 0) (st2 := []) rfl ce_X8_findBest ml_X8_189 im_X8_findBest se_X8_findBest he.1 rfl rfl rfl (by decide) (Nat.le_of_ble_eq_true rfl) (sp_X8_findBest (S := S) he ⟨hN, hN2, hg, hw⟩) rfl ?_
  refine q_aload_n (pc := 4) (j := 0) rfl rfl ?_
  refine q_get (pc := 5) (a := 0) (v := .ref 37) rfl fl_X8_46 he.1 rfl rfl ?_
  refine q_get (pc := 8) (a := 37) (v := .int ((fbS S N).1 37 5)) rfl fl_X8_192 he.2.2.2.2.2.2.2.1.1 rfl rfl ?_
  refine q_st (st2 := [.int (pB (fouV (S.1 3) (S.1 1 2) N))]) (by rw [(show ((fbS S N).1 37 5) = pB (fouV (S.1 3) (S.1 1 2) N) from fb_5)]) ?_
  refine q_if_eq (pc := 11) 24 rfl (by decide) (fun h11 => ?_) (fun h11 => ?_)
  · refine q_aload_n (pc := 24) (j := 0) rfl rfl ?_
    refine q_iconst (pc := 25) 2 rfl (by decide) ?_
    refine q_callV (pc := 26) (as := [.int 2]) (rest := []) (b := 0) (st2 := [.int (-2147483000 - nI 2)]) rfl ce_X8_refuse ml_X8_82 im_X8_refuse se_X8_refuse he.1 rfl rfl rfl (by decide) (Nat.le_of_ble_eq_true rfl) (sp_X8_refuse (e := 2) he (by decide)) rfl ?_
    exact q_iret (pc := 29) rfl rfl (pA_no (k := 1) (by rw [oLines, if_neg (show ¬ _ = true from by rw [pB_f h11]; decide)]) (fr_rfS fb_fr))
  · refine q_aload_n (pc := 14) (j := 0) rfl rfl ?_
    refine q_get (pc := 15) (a := 0) (v := .ref 37) rfl fl_X8_46 he.1 rfl rfl ?_
    refine q_get (pc := 18) (a := 37) (v := .int ((fbS S N).1 37 4)) rfl fl_X8_195 he.2.2.2.2.2.2.2.1.1 rfl rfl ?_
    refine q_st (st2 := [.int (nI (linV (S.1 3) (S.1 1 2) N))]) (by rw [(show ((fbS S N).1 37 4) = nI (linV (S.1 3) (S.1 1 2) N) from fb_4 (pB_t h11))]) ?_
    refine q_goto (pc := 21) 29 rfl (by decide) ?_
    exact q_iret (pc := 29) rfl rfl (pA_ok (by rw [oLines, if_pos (pB_t h11)]) fb_fr)
set_option maxRecDepth 100000 in
theorem sp_X8_total {sh : List PSh} {S : PSt} {N : Nat} (he : isEl sh) (hi : cIv S N)  : pG mX8_total 6 [.ref 0] sh S (pA (oTotal (S.1 3) (S.1 1 2) N) S S) := by
  obtain ⟨hN, hN2, hg, hw⟩ := hi
  refine pG.of [some (.ref 0)] (by decide) tk_X8_total (Nat.le_of_ble_eq_true rfl) rfl (fun X => ?_)
  refine q_aload_n (pc := 0) (j := 0) rfl rfl ?_
  refine q_callV (pc := 1) (as := []) (rest := []) (b := 0) (st2 := []) rfl ce_X8_findBest ml_X8_189 im_X8_findBest se_X8_findBest he.1 rfl rfl rfl (by decide) (Nat.le_of_ble_eq_true rfl) (sp_X8_findBest (S := S) he ⟨hN, hN2, hg, hw⟩) rfl ?_
  refine q_aload_n (pc := 4) (j := 0) rfl rfl ?_
  refine q_get (pc := 5) (a := 0) (v := .ref 37) rfl fl_X8_46 he.1 rfl rfl ?_
  refine q_get (pc := 8) (a := 37) (v := .int ((fbS S N).1 37 5)) rfl fl_X8_192 he.2.2.2.2.2.2.2.1.1 rfl rfl ?_
  refine q_st (st2 := [.int (pB (fouV (S.1 3) (S.1 1 2) N))]) (by rw [(show ((fbS S N).1 37 5) = pB (fouV (S.1 3) (S.1 1 2) N) from fb_5)]) ?_
  refine q_if_eq (pc := 11) 27 rfl (by decide) (fun h11 => ?_) (fun h11 => ?_)
  · refine q_aload_n (pc := 27) (j := 0) rfl rfl ?_
    refine q_iconst (pc := 28) 2 rfl (by decide) ?_
    refine q_callV (pc := 29) (as := [.int 2]) (rest := []) (b := 0) (st2 := [.int (-2147483000 - nI 2)]) rfl ce_X8_refuse ml_X8_82 im_X8_refuse se_X8_refuse he.1 rfl rfl rfl (by decide) (Nat.le_of_ble_eq_true rfl) (sp_X8_refuse (e := 2) he (by decide)) rfl ?_
    exact q_iret (pc := 32) rfl rfl (pA_no (k := 1) (by rw [oTotal, if_neg (show ¬ _ = true from by rw [pB_f h11]; decide)]) (fr_rfS fb_fr))
  · refine q_aload_n (pc := 14) (j := 0) rfl rfl ?_
    refine q_get (pc := 15) (a := 0) (v := .ref 37) rfl fl_X8_46 he.1 rfl rfl ?_
    refine q_get (pc := 18) (a := 37) (v := .float ((fbS S N).2.1 37 6)) rfl fl_X8_204 he.2.2.2.2.2.2.2.1.1 rfl rfl ?_
    refine q_st (st2 := [.float (totV (S.1 3) (S.1 1 2) N)]) (by rw [(show ((fbS S N).2.1 37 6) = (totV (S.1 3) (S.1 1 2) N) from fb_6 (pB_t h11))]) ?_
    refine q_callS (pc := 21) (as := [.float (totV (S.1 3) (S.1 1 2) N)]) (rest := []) (st2 := [.int ((totV (S.1 3) (S.1 1 2) N).toInt32)]) rfl ce_X8_floatBits ml_X8_123 st_X8_floatBits rfl (by decide) (Nat.le_of_ble_eq_true rfl) (sp_floatBitsX (totV_okX hg hw hN2 (pB_t h11))) rfl ?_
    refine q_goto (pc := 24) 32 rfl (by decide) ?_
    exact q_iret (pc := 32) rfl rfl (pA_ok (by rw [oTotal, if_pos (pB_t h11)]) fb_fr)
theorem pWi_ln {k what : Int32} {L : Nat} (hL : L ≤ 32) (h : pWi k 0 (nI L - (if what = 3 then 2 else 1)) = true) : ∃ v, k = nI v ∧ v + 1 ≤ L ∧ (what = 3 → v + 2 ≤ L) := by
  have h := of_decide_eq_true h
  have h0 : (0 : Int32).toInt = 0 := rfl
  by_cases h3 : what = 3
  · rw [if_pos h3, Int32.toInt_sub, nI_toInt (by omega), show (2 : Int32).toInt = 2 by decide, Int.bmod_eq_of_le (by omega) (by omega)] at h
    exact ⟨k.toInt.toNat, nI_of0 (by omega), by omega, fun _ => by omega⟩
  · rw [if_neg h3, Int32.toInt_sub, nI_toInt (by omega), show (1 : Int32).toInt = 1 by decide, Int.bmod_eq_of_le (by omega) (by omega)] at h
    exact ⟨k.toInt.toNat, nI_of0 (by omega), by omega, fun h9 => absurd h9 h3⟩
theorem fb_g {S : PSt} {N : Nat} : (fbS S N).1 3 = S.1 3 ∧ (fbS S N).1 1 = S.1 1 := ⟨(fb_fr 3 (by omega)).1, (fb_fr 1 (by omega)).1⟩
theorem w3 {what : Int32} (h : pWi what 0 3 = true) (h0 : ¬ what = 0) (h1 : ¬ what = 1) (h2 : ¬ what = 2) : what = 3 := by
  obtain ⟨k, hk, rfl⟩ := pWi_of (m := 3) (by decide) (by decide) h
  have : k = 0 ∨ k = 1 ∨ k = 2 ∨ k = 3 := by omega
  rcases this with h | h | h | h
  · subst h; exact absurd rfl h0
  · subst h; exact absurd rfl h1
  · subst h; exact absurd rfl h2
  · subst h; rfl
set_option maxRecDepth 100000 in
theorem sp_X8_line {sh : List PSh} {S : PSt} {N : Nat} (he : isEl sh) (hi : cIv S N) {k what : Int32}  : pG mX8_line 8 [.ref 0, .int k, .int what] sh S (pA (oLine (S.1 3) (S.1 1 2) N k what) S S) := by
  obtain ⟨hN, hN2, hg, hw⟩ := hi
  refine pG.of [some (.ref 0), some (.int k), some (.int what), none, none] (by decide) tk_X8_line (Nat.le_of_ble_eq_true rfl) rfl (fun X => ?_)
  refine q_aload_n (pc := 0) (j := 0) rfl rfl ?_
  refine q_callV (pc := 1) (as := []) (rest := []) (b := 0) (st2 := []) rfl ce_X8_findBest ml_X8_189 im_X8_findBest se_X8_findBest he.1 rfl rfl rfl (by decide) (Nat.le_of_ble_eq_true rfl) (sp_X8_findBest (S := S) he ⟨hN, hN2, hg, hw⟩) rfl ?_
  refine q_aload_n (pc := 4) (j := 0) rfl rfl ?_
  refine q_get (pc := 5) (a := 0) (v := .ref 37) rfl fl_X8_46 he.1 rfl rfl ?_
  refine q_get (pc := 8) (a := 37) (v := .int ((fbS S N).1 37 5)) rfl fl_X8_192 he.2.2.2.2.2.2.2.1.1 rfl rfl ?_
  refine q_st (st2 := [.int (pB (fouV (S.1 3) (S.1 1 2) N))]) (by rw [(show ((fbS S N).1 37 5) = pB (fouV (S.1 3) (S.1 1 2) N) from fb_5)]) ?_
  refine q_if_ne (pc := 11) 20 rfl (by decide) (fun h11 => ?_) (fun h11 => ?_)
  · refine q_iload_n (pc := 20) (j := 2) rfl rfl ?_
    refine q_iconst (pc := 21) 0 rfl (by decide) ?_
    refine q_iconst (pc := 22) 3 rfl (by decide) ?_
    refine q_callS (pc := 23) (as := [.int what, .int 0, .int 3]) (rest := []) (st2 := [.int (pB (pWi what 0 3))]) rfl ce_X8_isWithin ml_X8_101 st_X8_isWithin rfl (by decide) (Nat.le_of_ble_eq_true rfl) (sp_X8_isWithin) rfl ?_
    refine q_if_eq (pc := 26) 55 rfl (by decide) (fun h26 => ?_) (fun h26 => ?_)
    · refine q_aload_n (pc := 55) (j := 0) rfl rfl ?_
      refine q_iconst (pc := 56) 1 rfl (by decide) ?_
      refine q_callV (pc := 57) (as := [.int 1]) (rest := []) (b := 0) (st2 := [.int (-2147483000 - nI 1)]) rfl ce_X8_refuse ml_X8_82 im_X8_refuse se_X8_refuse he.1 rfl rfl rfl (by decide) (Nat.le_of_ble_eq_true rfl) (sp_X8_refuse (e := 1) he (by decide)) rfl ?_
      exact q_iret (pc := 60) rfl rfl (pA_no (k := 0) (by rw [oLine, if_pos (pB_t h11), if_neg (show ¬ _ = true from by rw [pB_f h26]; decide)]) (fr_rfS fb_fr))
    · refine q_iload_n (pc := 29) (j := 1) rfl rfl ?_
      refine q_iconst (pc := 30) 0 rfl (by decide) ?_
      refine q_aload_n (pc := 31) (j := 0) rfl rfl ?_
      refine q_get (pc := 32) (a := 0) (v := .ref 37) rfl fl_X8_46 he.1 rfl rfl ?_
      refine q_get (pc := 35) (a := 37) (v := .int ((fbS S N).1 37 4)) rfl fl_X8_195 he.2.2.2.2.2.2.2.1.1 rfl rfl ?_
      refine q_st (st2 := [.int (nI (linV (S.1 3) (S.1 1 2) N)), .int 0, .int k]) (by rw [(show ((fbS S N).1 37 4) = nI (linV (S.1 3) (S.1 1 2) N) from fb_4 (pB_t h11))]) ?_
      refine q_iload_n (pc := 38) (j := 2) rfl rfl ?_
      refine q_iconst (pc := 39) 3 rfl (by decide) ?_
      refine q_join 48 [some (.ref 0), some (.int k), some (.int what), none, none] [.int (if what = 3 then 2 else 1), .int (nI (linV (S.1 3) (S.1 1 2) N)), .int 0, .int k] (fbS S N) ?_ (fun key40 => ?_)
      · refine q_isub (pc := 48) rfl ?_
        refine q_callS (pc := 49) (as := [.int k, .int 0, .int ((nI (linV (S.1 3) (S.1 1 2) N)) - (if what = 3 then 2 else 1))]) (rest := []) (st2 := [.int (pB (pWi k 0 ((nI (linV (S.1 3) (S.1 1 2) N)) - (if what = 3 then 2 else 1))))]) rfl ce_X8_isWithin ml_X8_101 st_X8_isWithin rfl (by decide) (Nat.le_of_ble_eq_true rfl) (sp_X8_isWithin) rfl ?_
        refine q_if_ne (pc := 52) 61 rfl (by decide) (fun h52 => ?_) (fun h52 => ?_)
        · obtain ⟨v, rfl, hv1, hv3⟩ := pWi_ln (lin_le hN2 (pB_t h11) |> fun q9 => Nat.le_trans q9 hN2) (pB_t h52); have hlt := sta_lt (g := S.1 3) (w := S.1 1 2) hN2 (pB_t h11) (k := v) hv1; have hL32 := lin_le (g := S.1 3) (w := S.1 1 2) hN2 (pB_t h11); have hgF := fb_g (S := S) (N := N)
          refine q_aload_n (pc := 61) (j := 0) rfl rfl ?_
          refine q_get (pc := 62) (a := 0) (v := .ref 37) rfl fl_X8_46 he.1 rfl rfl ?_
          refine q_iload_n (pc := 65) (j := 1) rfl rfl ?_
          refine q_callV (pc := 66) (as := [.int (nI v)]) (rest := []) (b := 37) (st2 := [.int ((fbS S N).1 40 v)]) rfl ce_X0_first ml_X8_198 im_X0_first se_X0_first he.2.2.2.2.2.2.2.1.1 rfl rfl rfl (by decide) (Nat.le_of_ble_eq_true rfl) (sp_X0_first (x := v) he.2.2.2.2.2.2.2.1 (by omega)) rfl ?_
          refine q_st (st2 := [.int (nI (staV (S.1 3) (S.1 1 2) N v))]) (by rw [(show ((fbS S N).1 40 v) = nI (staV (S.1 3) (S.1 1 2) N v) from fb_st hN2 (pB_t h11) (by omega))]) ?_
          refine q_istore_n (pc := 69) (j := 3) [some (.ref 0), some (.int (nI v)), some (.int what), some (.int (nI (staV (S.1 3) (S.1 1 2) N v))), none] rfl (by decide) rfl ?_
          refine q_aload_n (pc := 70) (j := 0) rfl rfl ?_
          refine q_get (pc := 71) (a := 0) (v := .ref 37) rfl fl_X8_46 he.1 rfl rfl ?_
          refine q_iload_n (pc := 74) (j := 1) rfl rfl ?_
          refine q_callV (pc := 75) (as := [.int (nI v)]) (rest := []) (b := 37) (st2 := [.int ((fbS S N).1 40 (v + 1) - 1)]) rfl ce_X0_last ml_X8_201 im_X0_last se_X0_last he.2.2.2.2.2.2.2.1.1 rfl rfl rfl (by decide) (Nat.le_of_ble_eq_true rfl) (sp_X0_last (x := v) he.2.2.2.2.2.2.2.1 (by omega)) rfl ?_
          refine q_st (st2 := [.int (nI ((staV (S.1 3) (S.1 1 2) N (v + 1)) - 1))]) (by rw [show ((fbS S N).1 40 (v + 1) - 1) = (nI ((staV (S.1 3) (S.1 1 2) N (v + 1)) - 1)) from (by rw [show (fbS S N).1 40 ((v + 1)) = nI (staV (S.1 3) (S.1 1 2) N (v + 1)) from fb_st hN2 (pB_t h11) (by omega)]; exact pk_sub (b := 1) (by omega))]) ?_
          refine q_istore (pc := 78) (j := 4) [some (.ref 0), some (.int (nI v)), some (.int what), some (.int (nI (staV (S.1 3) (S.1 1 2) N v))), some (.int (nI ((staV (S.1 3) (S.1 1 2) N (v + 1)) - 1)))] rfl (by decide) rfl ?_
          refine q_iload_n (pc := 80) (j := 2) rfl rfl ?_
          rcases Classical.em (what = (0 : Int32)) with hc81_0 | hc81_0
          · refine q_tableIn (pc := 81) (off := 27) 108 rfl (by rw [hc81_0]; decide) (by rw [hc81_0]; decide) (by rw [hc81_0]; decide) (by decide) ?_
            refine q_iload_n (pc := 108) (j := 3) rfl rfl ?_
            exact q_iret (pc := 109) rfl rfl (pA_ok (by rw [oLine, if_pos (pB_t h11), if_pos (pB_t h26), if_pos (pB_t h52), linA, tN_nI (show v < 2 ^ 31 by omega), if_pos hc81_0]) fb_fr)
          · skip
            rcases Classical.em (what = (1 : Int32)) with hc81_1 | hc81_1
            · refine q_tableIn (pc := 81) (off := 29) 110 rfl (by rw [hc81_1]; decide) (by rw [hc81_1]; decide) (by rw [hc81_1]; decide) (by decide) ?_
              refine q_iload (pc := 110) (j := 4) rfl rfl ?_
              exact q_iret (pc := 112) rfl rfl (pA_ok (by rw [oLine, if_pos (pB_t h11), if_pos (pB_t h26), if_pos (pB_t h52), linA, tN_nI (show v < 2 ^ 31 by omega), if_neg hc81_0, if_pos hc81_1]) fb_fr)
            · skip
              rcases Classical.em (what = (2 : Int32)) with hc81_2 | hc81_2
              · refine q_tableIn (pc := 81) (off := 32) 113 rfl (by rw [hc81_2]; decide) (by rw [hc81_2]; decide) (by rw [hc81_2]; decide) (by decide) ?_
                refine q_aload_n (pc := 113) (j := 0) rfl rfl ?_
                refine q_get (pc := 114) (a := 0) (v := .ref 15) rfl fl_X8_26 he.1 rfl rfl ?_
                refine q_aload_n (pc := 117) (j := 0) rfl rfl ?_
                refine q_get (pc := 118) (a := 0) (v := .ref 1) rfl fl_X8_10 he.1 rfl rfl ?_
                refine q_get (pc := 121) (a := 1) (v := .ref 2) rfl fl_X8_90 he.2.1.1 rfl rfl ?_
                refine q_iload_n (pc := 124) (j := 3) rfl rfl ?_
                refine q_iload (pc := 125) (j := 4) rfl rfl ?_
                refine q_aload_n (pc := 127) (j := 0) rfl rfl ?_
                refine q_get (pc := 128) (a := 0) (v := .ref 1) rfl fl_X8_10 he.1 rfl rfl ?_
                refine q_get (pc := 131) (a := 1) (v := .int ((fbS S N).1 1 2)) rfl fl_X8_134 he.2.1.1 rfl rfl ?_
                refine q_callV (pc := 134) (as := [.ref 2, .int (nI (staV (S.1 3) (S.1 1 2) N v)), .int (nI ((staV (S.1 3) (S.1 1 2) N (v + 1)) - 1)), .int ((fbS S N).1 1 2)]) (rest := []) (b := 15) (st2 := []) rfl ce_X6_settle ml_X8_140 im_X6_settle se_X6_settle he.2.2.2.1.1 rfl rfl rfl (by decide) (Nat.le_of_ble_eq_true rfl) (sp_settleG (S := (fbS S N)) (N := N) (x := (staV (S.1 3) (S.1 1 2) N v)) (y := (staV (S.1 3) (S.1 1 2) N (v + 1)) - 1) he.2.2.2.1 he.2.1.2.1 (by decide) (by rw [hgF.1]; exact hg) (by rw [hgF.2]; exact hw) hN2 (by omega) (by omega)) rfl ?_
                refine q_aload_n (pc := 137) (j := 0) rfl rfl ?_
                refine q_get (pc := 138) (a := 0) (v := .ref 15) rfl fl_X8_26 he.1 rfl rfl ?_
                refine q_iload (pc := 141) (j := 4) rfl rfl ?_
                refine q_callV (pc := 143) (as := [.int (nI ((staV (S.1 3) (S.1 1 2) N (v + 1)) - 1))]) (rest := []) (b := 15) (st2 := [.int (FP.f2i ((stl (fbS S N) 15 2 (staV (S.1 3) (S.1 1 2) N v) ((fbS S N).1 1 2) ((staV (S.1 3) (S.1 1 2) N (v + 1)) - 1 - (staV (S.1 3) (S.1 1 2) N v) + 1)).2.1 21 ((staV (S.1 3) (S.1 1 2) N (v + 1)) - 1 - (staV (S.1 3) (S.1 1 2) N v))))]) rfl ce_X6_cell ml_X8_158 im_X6_cell se_X6_cell he.2.2.2.1.1 rfl rfl rfl (by decide) (Nat.le_of_ble_eq_true rfl) (sp_X6_cell (S := (stl (fbS S N) 15 2 (staV (S.1 3) (S.1 1 2) N v) ((fbS S N).1 1 2) ((staV (S.1 3) (S.1 1 2) N (v + 1)) - 1 - (staV (S.1 3) (S.1 1 2) N v) + 1))) (a := (staV (S.1 3) (S.1 1 2) N v)) (c := (staV (S.1 3) (S.1 1 2) N (v + 1)) - 1) he.2.2.2.1 stl_6 (by omega) (by omega)) rfl ?_
                exact q_iret (pc := 146) rfl rfl (pA_ok (by rw [oLine, if_pos (pB_t h11), if_pos (pB_t h26), if_pos (pB_t h52), linA, tN_nI (show v < 2 ^ 31 by omega), if_neg hc81_0, if_neg hc81_1, if_pos hc81_2, cellV, stl_at (S := (fbS S N)) (r := 15) (q := 2) (by omega) (by omega), show (fbS S N).1 (2 + 1) = S.1 3 from hgF.1, show (fbS S N).1 1 2 = S.1 1 2 from congrFun hgF.2 2, show (staV (S.1 3) (S.1 1 2) N (v + 1)) - 1 - (staV (S.1 3) (S.1 1 2) N v) + 1 = ((staV (S.1 3) (S.1 1 2) N (v + 1)) - (staV (S.1 3) (S.1 1 2) N v)) by omega, show (staV (S.1 3) (S.1 1 2) N (v + 1)) - 1 - (staV (S.1 3) (S.1 1 2) N v) = ((staV (S.1 3) (S.1 1 2) N (v + 1)) - (staV (S.1 3) (S.1 1 2) N v)) - 1 by omega]) (fr_tr fb_fr (fr_wd fr_stl (by decide) (by decide))))
              · skip
                refine q_tableOut (pc := 81) 147 rfl (sw_out3 hc81_0 hc81_1 hc81_2) (by decide) ?_
                have hv2 := hv3 (w3 (pB_t h26) hc81_0 hc81_1 hc81_2); have hlt2 : staV (S.1 3) (S.1 1 2) N (v + 1) < staV (S.1 3) (S.1 1 2) N (v + 2) ∧ staV (S.1 3) (S.1 1 2) N (v + 2) ≤ N := sta_lt (g := S.1 3) (w := S.1 1 2) hN2 (pB_t h11) (k := v + 1) hv2
                refine q_aload_n (pc := 147) (j := 0) rfl rfl ?_
                refine q_iload_n (pc := 148) (j := 3) rfl rfl ?_
                refine q_iload (pc := 149) (j := 4) rfl rfl ?_
                refine q_aload_n (pc := 151) (j := 0) rfl rfl ?_
                refine q_get (pc := 152) (a := 0) (v := .ref 37) rfl fl_X8_46 he.1 rfl rfl ?_
                refine q_iload_n (pc := 155) (j := 1) rfl rfl ?_
                refine q_iconst (pc := 156) 1 rfl (by decide) ?_
                refine q_iadd (pc := 157) rfl ?_
                refine q_st (st2 := [.int (nI (v + 1)), .ref 37, .int (nI ((staV (S.1 3) (S.1 1 2) N (v + 1)) - 1)), .int (nI (staV (S.1 3) (S.1 1 2) N v)), .ref 0]) (by rw [(nI_1 v)]) ?_
                refine q_callV (pc := 158) (as := [.int (nI (v + 1))]) (rest := [.int (nI ((staV (S.1 3) (S.1 1 2) N (v + 1)) - 1)), .int (nI (staV (S.1 3) (S.1 1 2) N v)), .ref 0]) (b := 37) (st2 := [.int ((fbS S N).1 40 (v + 1)), .int (nI ((staV (S.1 3) (S.1 1 2) N (v + 1)) - 1)), .int (nI (staV (S.1 3) (S.1 1 2) N v)), .ref 0]) rfl ce_X0_first ml_X8_198 im_X0_first se_X0_first he.2.2.2.2.2.2.2.1.1 rfl rfl rfl (by decide) (Nat.le_of_ble_eq_true rfl) (sp_X0_first (x := (v + 1)) he.2.2.2.2.2.2.2.1 (by omega)) rfl ?_
                refine q_st (st2 := [.int (nI (staV (S.1 3) (S.1 1 2) N (v + 1))), .int (nI ((staV (S.1 3) (S.1 1 2) N (v + 1)) - 1)), .int (nI (staV (S.1 3) (S.1 1 2) N v)), .ref 0]) (by rw [(show ((fbS S N).1 40 (v + 1)) = nI (staV (S.1 3) (S.1 1 2) N (v + 1)) from fb_st hN2 (pB_t h11) (by omega))]) ?_
                refine q_aload_n (pc := 161) (j := 0) rfl rfl ?_
                refine q_get (pc := 162) (a := 0) (v := .ref 37) rfl fl_X8_46 he.1 rfl rfl ?_
                refine q_iload_n (pc := 165) (j := 1) rfl rfl ?_
                refine q_iconst (pc := 166) 1 rfl (by decide) ?_
                refine q_iadd (pc := 167) rfl ?_
                refine q_st (st2 := [.int (nI (v + 1)), .ref 37, .int (nI (staV (S.1 3) (S.1 1 2) N (v + 1))), .int (nI ((staV (S.1 3) (S.1 1 2) N (v + 1)) - 1)), .int (nI (staV (S.1 3) (S.1 1 2) N v)), .ref 0]) (by rw [(nI_1 v)]) ?_
                refine q_callV (pc := 168) (as := [.int (nI (v + 1))]) (rest := [.int (nI (staV (S.1 3) (S.1 1 2) N (v + 1))), .int (nI ((staV (S.1 3) (S.1 1 2) N (v + 1)) - 1)), .int (nI (staV (S.1 3) (S.1 1 2) N v)), .ref 0]) (b := 37) (st2 := [.int ((fbS S N).1 40 ((v + 1) + 1) - 1), .int (nI (staV (S.1 3) (S.1 1 2) N (v + 1))), .int (nI ((staV (S.1 3) (S.1 1 2) N (v + 1)) - 1)), .int (nI (staV (S.1 3) (S.1 1 2) N v)), .ref 0]) rfl ce_X0_last ml_X8_201 im_X0_last se_X0_last he.2.2.2.2.2.2.2.1.1 rfl rfl rfl (by decide) (Nat.le_of_ble_eq_true rfl) (sp_X0_last (x := (v + 1)) he.2.2.2.2.2.2.2.1 (by omega)) rfl ?_
                refine q_st (st2 := [.int (nI ((staV (S.1 3) (S.1 1 2) N (v + 2)) - 1)), .int (nI (staV (S.1 3) (S.1 1 2) N (v + 1))), .int (nI ((staV (S.1 3) (S.1 1 2) N (v + 1)) - 1)), .int (nI (staV (S.1 3) (S.1 1 2) N v)), .ref 0]) (by rw [show ((fbS S N).1 40 ((v + 1) + 1) - 1) = (nI ((staV (S.1 3) (S.1 1 2) N (v + 2)) - 1)) from (by rw [show (fbS S N).1 40 ((v + 2)) = nI (staV (S.1 3) (S.1 1 2) N (v + 2)) from fb_st hN2 (pB_t h11) (by omega)]; exact pk_sub (b := 1) (by omega))]) ?_
                refine q_callV (pc := 171) (as := [.int (nI (staV (S.1 3) (S.1 1 2) N v)), .int (nI ((staV (S.1 3) (S.1 1 2) N (v + 1)) - 1)), .int (nI (staV (S.1 3) (S.1 1 2) N (v + 1))), .int (nI ((staV (S.1 3) (S.1 1 2) N (v + 2)) - 1))]) (rest := []) (b := 0) (st2 := [.int (apV ((fbS S N).1 3) ((fbS S N).1 1 2) (staV (S.1 3) (S.1 1 2) N v) ((staV (S.1 3) (S.1 1 2) N (v + 1)) - 1 - (staV (S.1 3) (S.1 1 2) N v) + 1) (staV (S.1 3) (S.1 1 2) N (v + 1)) ((staV (S.1 3) (S.1 1 2) N (v + 2)) - 1 - (staV (S.1 3) (S.1 1 2) N (v + 1)) + 1))]) rfl ce_X8_distance ml_X8_185 im_X8_distance se_X8_distance he.1 rfl rfl rfl (by decide) (Nat.le_of_ble_eq_true rfl) (sp_X8_distance (S := (fbS S N)) (N := N) (x := (staV (S.1 3) (S.1 1 2) N v)) (y := (staV (S.1 3) (S.1 1 2) N (v + 1)) - 1) (z := (staV (S.1 3) (S.1 1 2) N (v + 1))) (u := (staV (S.1 3) (S.1 1 2) N (v + 2)) - 1) he (cIv_fr ⟨hN, hN2, hg, hw⟩ fb_fr) (by omega) (by omega) (by omega) (by omega)) rfl ?_
                exact q_iret (pc := 174) rfl rfl (pA_ok (by rw [oLine, if_pos (pB_t h11), if_pos (pB_t h26), if_pos (pB_t h52), linA, tN_nI (show v < 2 ^ 31 by omega), if_neg hc81_0, if_neg hc81_1, if_neg hc81_2, hgF.1, hgF.2, show (staV (S.1 3) (S.1 1 2) N (v + 1)) - 1 - (staV (S.1 3) (S.1 1 2) N v) + 1 = ((staV (S.1 3) (S.1 1 2) N (v + 1)) - (staV (S.1 3) (S.1 1 2) N v)) by omega, show (staV (S.1 3) (S.1 1 2) N (v + 2)) - 1 - (staV (S.1 3) (S.1 1 2) N (v + 1)) + 1 = (staV (S.1 3) (S.1 1 2) N (v + 2)) - (staV (S.1 3) (S.1 1 2) N (v + 1)) by omega]) (fr_tr fb_fr t2_fr))
        · refine q_aload_n (pc := 55) (j := 0) rfl rfl ?_
          refine q_iconst (pc := 56) 1 rfl (by decide) ?_
          refine q_callV (pc := 57) (as := [.int 1]) (rest := []) (b := 0) (st2 := [.int (-2147483000 - nI 1)]) rfl ce_X8_refuse ml_X8_82 im_X8_refuse se_X8_refuse he.1 rfl rfl rfl (by decide) (Nat.le_of_ble_eq_true rfl) (sp_X8_refuse (e := 1) he (by decide)) rfl ?_
          exact q_iret (pc := 60) rfl rfl (pA_no (k := 0) (by rw [oLine, if_pos (pB_t h11), if_pos (pB_t h26), if_neg (show ¬ _ = true from by rw [pB_f h52]; decide)]) (fr_rfS fb_fr))
      · refine q_icmp_ne (pc := 40) 47 rfl (by decide) (fun h40 => ?_) (fun h40 => ?_)
        · refine q_iconst (pc := 47) 1 rfl (by decide) ?_
          exact q_st (by rw [if_neg h40]) key40
        · refine q_iconst (pc := 43) 2 rfl (by decide) ?_
          refine q_goto (pc := 44) 48 rfl (by decide) ?_
          exact q_st (by rw [if_pos h40]) key40
  · refine q_aload_n (pc := 14) (j := 0) rfl rfl ?_
    refine q_iconst (pc := 15) 2 rfl (by decide) ?_
    refine q_callV (pc := 16) (as := [.int 2]) (rest := []) (b := 0) (st2 := [.int (-2147483000 - nI 2)]) rfl ce_X8_refuse ml_X8_82 im_X8_refuse se_X8_refuse he.1 rfl rfl rfl (by decide) (Nat.le_of_ble_eq_true rfl) (sp_X8_refuse (e := 2) he (by decide)) rfl ?_
    exact q_iret (pc := 19) rfl rfl (pA_no (k := 1) (by rw [oLine, if_neg (show ¬ _ = true from by rw [pB_f h11]; decide)]) (fr_rfS fb_fr))
theorem bm_R {S : PSt} {x y : Nat} (hn : y - x + 1 ≤ 32) : bmR (stl S 15 2 x (S.1 1 2) (y - x + 1)) y x = risV (S.1 3) (S.1 1 2) x y := by
  unfold bmR risV
  rw [show (stl S 15 2 x (S.1 1 2) (y - x + 1)).1 3 = S.1 3 from stl_q, show (stl S 15 2 x (S.1 1 2) (y - x + 1)).2.1 21 (y - x) = atV (S.1 3) (S.1 1 2) x (y - x + 1) (y - x) from stl_at (r := 15) (q := 2) hn (by omega)]
theorem grtC_congr {up : Bool} {t pe : UInt32} {s : Nat → Int32} {p p' : Nat → UInt32} {n : Nat} (h : ∀ k, k < n → p k = p' k) : ∀ k, k ≤ n → grtC up t s p pe k = grtC up t s p' pe k := by
  intro k
  induction k with
  | zero => intro _; rfl
  | succ k ih =>
    intro hk
    unfold grtC
    rw [ih (by omega), h k (by omega)]
theorem bm_L {S : PSt} {x y : Nat} (hn : y - x + 1 ≤ 32) : lifC (upV ((stl S 15 2 x (S.1 1 2) (y - x + 1)).1 3) x (y - x + 1)) (tilC (upV ((stl S 15 2 x (S.1 1 2) (y - x + 1)).1 3) x (y - x + 1)) (sloC (bmR (stl S 15 2 x (S.1 1 2) (y - x + 1)) y x))) (fun k => (stl S 15 2 x (S.1 1 2) (y - x + 1)).1 3 (5 * (x + k) + 2)) ((stl S 15 2 x (S.1 1 2) (y - x + 1)).2.1 21) ((stl S 15 2 x (S.1 1 2) (y - x + 1)).2.1 21 (y - x)) (y - x + 1) = lifV (S.1 3) (S.1 1 2) x y := by
  unfold lifV lifC sloV
  rw [bm_R hn, show (stl S 15 2 x (S.1 1 2) (y - x + 1)).1 3 = S.1 3 from stl_q, show (stl S 15 2 x (S.1 1 2) (y - x + 1)).2.1 21 (y - x) = atV (S.1 3) (S.1 1 2) x (y - x + 1) (y - x) from stl_at (r := 15) (q := 2) hn (by omega)]
  rw [grtC_congr (p' := fun k => atV (S.1 3) (S.1 1 2) x (y - x + 1) k) (n := y - x + 1) (fun k hk => stl_at (r := 15) (q := 2) hn hk) (y - x + 1) (Nat.le_refl _)]
set_option maxRecDepth 100000 in
theorem sp_X8_beam {sh : List PSh} {S : PSt} {N : Nat} (he : isEl sh) (hi : cIv S N) {a b what : Int32}  : pG mX8_beam 6 [.ref 0, .int a, .int b, .int what] sh S (pA (oBeam (S.1 3) (S.1 1 2) N a b what) S S) := by
  obtain ⟨hN, hN2, hg, hw⟩ := hi
  refine pG.of [some (.ref 0), some (.int a), some (.int b), some (.int what)] (by decide) tk_X8_beam (Nat.le_of_ble_eq_true rfl) rfl (fun X => ?_)
  refine q_aload_n (pc := 0) (j := 0) rfl rfl ?_
  refine q_iload_n (pc := 1) (j := 1) rfl rfl ?_
  refine q_iload_n (pc := 2) (j := 2) rfl rfl ?_
  refine q_callV (pc := 3) (as := [.int a, .int b]) (rest := []) (b := 0) (st2 := [.int (pB (isStB N a b))]) rfl ce_X8_isStretch ml_X8_137 im_X8_isStretch se_X8_isStretch he.1 rfl rfl rfl (by decide) (Nat.le_of_ble_eq_true rfl) (sp_X8_isStretch he hN hN2) rfl ?_
  refine q_if_eq (pc := 6) 18 rfl (by decide) (fun h6 => ?_) (fun h6 => ?_)
  · refine q_aload_n (pc := 18) (j := 0) rfl rfl ?_
    refine q_iconst (pc := 19) 1 rfl (by decide) ?_
    refine q_callV (pc := 20) (as := [.int 1]) (rest := []) (b := 0) (st2 := [.int (-2147483000 - nI 1)]) rfl ce_X8_refuse ml_X8_82 im_X8_refuse se_X8_refuse he.1 rfl rfl rfl (by decide) (Nat.le_of_ble_eq_true rfl) (sp_X8_refuse (e := 1) he (by decide)) rfl ?_
    exact q_iret (pc := 23) rfl rfl (pA_no (k := 0) (by rw [oBeam, if_neg (show ¬ _ = true from by rw [pB_f h6]; decide)]) fr_rf)
  · refine q_iload_n (pc := 9) (j := 3) rfl rfl ?_
    refine q_iconst (pc := 10) 0 rfl (by decide) ?_
    refine q_iconst (pc := 11) 3 rfl (by decide) ?_
    refine q_callS (pc := 12) (as := [.int what, .int 0, .int 3]) (rest := []) (st2 := [.int (pB (pWi what 0 3))]) rfl ce_X8_isWithin ml_X8_101 st_X8_isWithin rfl (by decide) (Nat.le_of_ble_eq_true rfl) (sp_X8_isWithin) rfl ?_
    refine q_if_ne (pc := 15) 24 rfl (by decide) (fun h15 => ?_) (fun h15 => ?_)
    · obtain ⟨x, y, rfl, rfl, hxy, hyN⟩ := isSt_of hN2 (pB_t h6)
      refine q_iload_n (pc := 24) (j := 1) rfl rfl ?_
      refine q_iload_n (pc := 25) (j := 2) rfl rfl ?_
      refine q_icmp_ne (pc := 26) 35 rfl (by decide) (fun h26 => ?_) (fun h26 => ?_)
      · have hxy2 : x < y := (by have h9 : ¬ x = y := fun q9 => h26 (by rw [q9]); omega); have hbm := beam_ok (g := S.1 3) (w := S.1 1 2) hg hw hN2 hxy2 hyN
        refine q_aload_n (pc := 35) (j := 0) rfl rfl ?_
        refine q_iload_n (pc := 36) (j := 1) rfl rfl ?_
        refine q_iload_n (pc := 37) (j := 2) rfl rfl ?_
        refine q_callV (pc := 38) (as := [.int (nI x), .int (nI y)]) (rest := []) (b := 0) (st2 := [.int (pB (ntsV (S.1 3) x (y - x + 1)))]) rfl ce_X8_areNotes ml_X8_218 im_X8_areNotes se_X8_areNotes he.1 rfl rfl rfl (by decide) (Nat.le_of_ble_eq_true rfl) (sp_X8_areNotes (n := y - x + 1) he (by omega) (by omega)) rfl ?_
        refine q_if_ne (pc := 41) 50 rfl (by decide) (fun h41 => ?_) (fun h41 => ?_)
        · refine q_aload_n (pc := 50) (j := 0) rfl rfl ?_
          refine q_get (pc := 51) (a := 0) (v := .ref 15) rfl fl_X8_26 he.1 rfl rfl ?_
          refine q_aload_n (pc := 54) (j := 0) rfl rfl ?_
          refine q_get (pc := 55) (a := 0) (v := .ref 1) rfl fl_X8_10 he.1 rfl rfl ?_
          refine q_get (pc := 58) (a := 1) (v := .ref 2) rfl fl_X8_90 he.2.1.1 rfl rfl ?_
          refine q_iload_n (pc := 61) (j := 1) rfl rfl ?_
          refine q_iload_n (pc := 62) (j := 2) rfl rfl ?_
          refine q_aload_n (pc := 63) (j := 0) rfl rfl ?_
          refine q_get (pc := 64) (a := 0) (v := .ref 1) rfl fl_X8_10 he.1 rfl rfl ?_
          refine q_get (pc := 67) (a := 1) (v := .int (S.1 1 2)) rfl fl_X8_134 he.2.1.1 rfl rfl ?_
          refine q_callV (pc := 70) (as := [.ref 2, .int (nI x), .int (nI y), .int (S.1 1 2)]) (rest := []) (b := 15) (st2 := []) rfl ce_X6_settle ml_X8_140 im_X6_settle se_X6_settle he.2.2.2.1.1 rfl rfl rfl (by decide) (Nat.le_of_ble_eq_true rfl) (sp_settleG (N := N) he.2.2.2.1 he.2.1.2.1 (by decide) hg hw hN2 (by omega) (by omega)) rfl ?_
          refine q_iload_n (pc := 73) (j := 3) rfl rfl ?_
          rcases Classical.em (what = (0 : Int32)) with hc74_0 | hc74_0
          · refine q_tableIn (pc := 74) (off := 26) 100 rfl (by rw [hc74_0]; decide) (by rw [hc74_0]; decide) (by rw [hc74_0]; decide) (by decide) ?_
            refine q_aload_n (pc := 100) (j := 0) rfl rfl ?_
            refine q_iload_n (pc := 101) (j := 1) rfl rfl ?_
            refine q_iload_n (pc := 102) (j := 2) rfl rfl ?_
            refine q_callV (pc := 103) (as := [.int (nI x), .int (nI y)]) (rest := []) (b := 0) (st2 := [.float (bmR (stl S 15 2 x (S.1 1 2) (y - x + 1)) y x)]) rfl ce_X8_beamRise ml_X8_221 im_X8_beamRise se_X8_beamRise he.1 rfl rfl rfl (by decide) (Nat.le_of_ble_eq_true rfl) (sp_X8_beamRise (S := (stl S 15 2 x (S.1 1 2) (y - x + 1))) (x := x) (y := y) he stl_6 (by omega) (by omega) (by rw [show (stl S 15 2 x (S.1 1 2) (y - x + 1)).1 3 = S.1 3 from stl_q, show (stl S 15 2 x (S.1 1 2) (y - x + 1)).2.1 21 (y - x) = _ from stl_at (r := 15) (q := 2) (by omega) (by omega)]; exact hbm.1)) rfl ?_
            refine q_st (st2 := [.float (risV (S.1 3) (S.1 1 2) x y)]) (by rw [bm_R (by omega)]) ?_
            refine q_callS (pc := 106) (as := [.float (risV (S.1 3) (S.1 1 2) x y)]) (rest := []) (st2 := [.int ((risV (S.1 3) (S.1 1 2) x y).toInt32)]) rfl ce_X8_floatBits ml_X8_123 st_X8_floatBits rfl (by decide) (Nat.le_of_ble_eq_true rfl) (sp_floatBitsX hbm.2.1) rfl ?_
            exact q_iret (pc := 109) rfl rfl (pA_ok (by rw [oBeam, if_pos (pB_t h6), if_pos (pB_t h15), if_neg h26, lnN, tN_nI (show x < 2 ^ 31 by omega), tN_nI (show y < 2 ^ 31 by omega), if_pos (pB_t h41), beaA, if_pos hc74_0]) (fr_wd fr_stl (by decide) (by decide)))
          · skip
            rcases Classical.em (what = (1 : Int32)) with hc74_1 | hc74_1
            · refine q_tableIn (pc := 74) (off := 36) 110 rfl (by rw [hc74_1]; decide) (by rw [hc74_1]; decide) (by rw [hc74_1]; decide) (by decide) ?_
              refine q_aload_n (pc := 110) (j := 0) rfl rfl ?_
              refine q_iload_n (pc := 111) (j := 1) rfl rfl ?_
              refine q_iload_n (pc := 112) (j := 2) rfl rfl ?_
              refine q_callV (pc := 113) (as := [.int (nI x), .int (nI y)]) (rest := []) (b := 0) (st2 := [.float (sloC (bmR (stl S 15 2 x (S.1 1 2) (y - x + 1)) y x))]) rfl ce_X8_beamSlope ml_X8_225 im_X8_beamSlope se_X8_beamSlope he.1 rfl rfl rfl (by decide) (Nat.le_of_ble_eq_true rfl) (sp_X8_beamSlope (S := (stl S 15 2 x (S.1 1 2) (y - x + 1))) (x := x) (y := y) he stl_6 (by omega) (by omega) (by rw [show (stl S 15 2 x (S.1 1 2) (y - x + 1)).1 3 = S.1 3 from stl_q, show (stl S 15 2 x (S.1 1 2) (y - x + 1)).2.1 21 (y - x) = _ from stl_at (r := 15) (q := 2) (by omega) (by omega)]; exact hbm.1) (by rw [bm_R (by omega)]; exact hbm.2.2.1)) rfl ?_
              refine q_st (st2 := [.float (sloV (S.1 3) (S.1 1 2) x y)]) (by rw [show sloC (bmR (stl S 15 2 x (S.1 1 2) (y - x + 1)) y x) = (sloV (S.1 3) (S.1 1 2) x y) from congrArg sloC (bm_R (by omega))]) ?_
              refine q_callS (pc := 116) (as := [.float (sloV (S.1 3) (S.1 1 2) x y)]) (rest := []) (st2 := [.int ((sloV (S.1 3) (S.1 1 2) x y).toInt32)]) rfl ce_X8_floatBits ml_X8_123 st_X8_floatBits rfl (by decide) (Nat.le_of_ble_eq_true rfl) (sp_floatBitsX hbm.2.2.2.1) rfl ?_
              exact q_iret (pc := 119) rfl rfl (pA_ok (by rw [oBeam, if_pos (pB_t h6), if_pos (pB_t h15), if_neg h26, lnN, tN_nI (show x < 2 ^ 31 by omega), tN_nI (show y < 2 ^ 31 by omega), if_pos (pB_t h41), beaA, if_neg hc74_0, if_pos hc74_1]) (fr_wd fr_stl (by decide) (by decide)))
            · skip
              rcases Classical.em (what = (2 : Int32)) with hc74_2 | hc74_2
              · refine q_tableIn (pc := 74) (off := 46) 120 rfl (by rw [hc74_2]; decide) (by rw [hc74_2]; decide) (by rw [hc74_2]; decide) (by decide) ?_
                refine q_aload_n (pc := 120) (j := 0) rfl rfl ?_
                refine q_iload_n (pc := 121) (j := 1) rfl rfl ?_
                refine q_iload_n (pc := 122) (j := 2) rfl rfl ?_
                refine q_callV (pc := 123) (as := [.int (nI x), .int (nI y)]) (rest := []) (b := 0) (st2 := [.int (pB (upV ((stl S 15 2 x (S.1 1 2) (y - x + 1)).1 3) x (y - x + 1)))]) rfl ce_X8_beamGoesUp ml_X8_228 im_X8_beamGoesUp se_X8_beamGoesUp he.1 rfl rfl rfl (by decide) (Nat.le_of_ble_eq_true rfl) (sp_X8_beamGoesUp (S := (stl S 15 2 x (S.1 1 2) (y - x + 1))) (x := x) (y := y) (n := y - x + 1) he (by omega) (by omega)) rfl ?_
                refine q_if_eq (pc := 126) 133 rfl (by decide) (fun h126 => ?_) (fun h126 => ?_)
                · refine q_iconst (pc := 133) 0 rfl (by decide) ?_
                  exact q_iret (pc := 134) rfl rfl (pA_ok (by rw [oBeam, if_pos (pB_t h6), if_pos (pB_t h15), if_neg h26, lnN, tN_nI (show x < 2 ^ 31 by omega), tN_nI (show y < 2 ^ 31 by omega), if_pos (pB_t h41), beaA, if_neg hc74_0, if_neg hc74_1, if_pos hc74_2, show upV (S.1 3) x (y - x + 1) = false from (by have h9 := pB_f h126; rwa [show (stl S 15 2 x (S.1 1 2) (y - x + 1)).1 3 = S.1 3 from stl_q] at h9)]; rfl) (fr_wd fr_stl (by decide) (by decide)))
                · refine q_iconst (pc := 129) 1 rfl (by decide) ?_
                  refine q_goto (pc := 130) 134 rfl (by decide) ?_
                  exact q_iret (pc := 134) rfl rfl (pA_ok (by rw [oBeam, if_pos (pB_t h6), if_pos (pB_t h15), if_neg h26, lnN, tN_nI (show x < 2 ^ 31 by omega), tN_nI (show y < 2 ^ 31 by omega), if_pos (pB_t h41), beaA, if_neg hc74_0, if_neg hc74_1, if_pos hc74_2, show upV (S.1 3) x (y - x + 1) = true from (by have h9 := pB_t h126; rwa [show (stl S 15 2 x (S.1 1 2) (y - x + 1)).1 3 = S.1 3 from stl_q] at h9)]; rfl) (fr_wd fr_stl (by decide) (by decide)))
              · skip
                refine q_tableOut (pc := 74) 135 rfl (sw_out3 hc74_0 hc74_1 hc74_2) (by decide) ?_
                refine q_aload_n (pc := 135) (j := 0) rfl rfl ?_
                refine q_iload_n (pc := 136) (j := 1) rfl rfl ?_
                refine q_iload_n (pc := 137) (j := 2) rfl rfl ?_
                refine q_callV (pc := 138) (as := [.int (nI x), .int (nI y)]) (rest := []) (b := 0) (st2 := [.float (lifC (upV ((stl S 15 2 x (S.1 1 2) (y - x + 1)).1 3) x (y - x + 1)) (tilC (upV ((stl S 15 2 x (S.1 1 2) (y - x + 1)).1 3) x (y - x + 1)) (sloC (bmR (stl S 15 2 x (S.1 1 2) (y - x + 1)) y x))) (fun k => (stl S 15 2 x (S.1 1 2) (y - x + 1)).1 3 (5 * (x + k) + 2)) ((stl S 15 2 x (S.1 1 2) (y - x + 1)).2.1 21) ((stl S 15 2 x (S.1 1 2) (y - x + 1)).2.1 21 (y - x)) (y - x + 1))]) rfl ce_X8_beamLift ml_X8_231 im_X8_beamLift se_X8_beamLift he.1 rfl rfl rfl (by decide) (Nat.le_of_ble_eq_true rfl) (sp_X8_beamLift (S := (stl S 15 2 x (S.1 1 2) (y - x + 1))) (x := x) (y := y) he stl_6 (by omega) (by omega) (by rw [show (stl S 15 2 x (S.1 1 2) (y - x + 1)).1 3 = S.1 3 from stl_q, show (stl S 15 2 x (S.1 1 2) (y - x + 1)).2.1 21 (y - x) = _ from stl_at (r := 15) (q := 2) (by omega) (by omega)]; exact hbm.1) (by rw [bm_R (by omega)]; exact hbm.2.2.1) (by rw [bm_R (by omega), show (stl S 15 2 x (S.1 1 2) (y - x + 1)).1 3 = S.1 3 from stl_q]; exact hbm.2.2.2.2.1) (fun k hk => by rw [bm_R (by omega), show (stl S 15 2 x (S.1 1 2) (y - x + 1)).1 3 = S.1 3 from stl_q, show (stl S 15 2 x (S.1 1 2) (y - x + 1)).2.1 21 (y - x) = _ from stl_at (r := 15) (q := 2) (by omega) (by omega), show (stl S 15 2 x (S.1 1 2) (y - x + 1)).2.1 21 k = _ from stl_at (r := 15) (q := 2) (by omega) hk]; exact hbm.2.2.2.2.2.1 k hk) (by rw [bm_L (by omega)]; exact hbm.2.2.2.2.2.2.1)) rfl ?_
                refine q_st (st2 := [.float (lifV (S.1 3) (S.1 1 2) x y)]) (by rw [bm_L (by omega)]) ?_
                refine q_callS (pc := 141) (as := [.float (lifV (S.1 3) (S.1 1 2) x y)]) (rest := []) (st2 := [.int ((lifV (S.1 3) (S.1 1 2) x y).toInt32)]) rfl ce_X8_floatBits ml_X8_123 st_X8_floatBits rfl (by decide) (Nat.le_of_ble_eq_true rfl) (sp_floatBitsX hbm.2.2.2.2.2.2.2.1) rfl ?_
                exact q_iret (pc := 144) rfl rfl (pA_ok (by rw [oBeam, if_pos (pB_t h6), if_pos (pB_t h15), if_neg h26, lnN, tN_nI (show x < 2 ^ 31 by omega), tN_nI (show y < 2 ^ 31 by omega), if_pos (pB_t h41), beaA, if_neg hc74_0, if_neg hc74_1, if_neg hc74_2]) (fr_wd fr_stl (by decide) (by decide)))
        · refine q_aload_n (pc := 44) (j := 0) rfl rfl ?_
          refine q_iconst (pc := 45) 5 rfl (by decide) ?_
          refine q_callV (pc := 46) (as := [.int 5]) (rest := []) (b := 0) (st2 := [.int (-2147483000 - nI 5)]) rfl ce_X8_refuse ml_X8_82 im_X8_refuse se_X8_refuse he.1 rfl rfl rfl (by decide) (Nat.le_of_ble_eq_true rfl) (sp_X8_refuse (e := 5) he (by decide)) rfl ?_
          exact q_iret (pc := 49) rfl rfl (pA_no (k := 4) (by rw [oBeam, if_pos (pB_t h6), if_pos (pB_t h15), if_neg h26, lnN, tN_nI (show x < 2 ^ 31 by omega), tN_nI (show y < 2 ^ 31 by omega), if_neg (show ¬ _ = true from by rw [pB_f h41]; decide)]) fr_rf)
      · refine q_aload_n (pc := 29) (j := 0) rfl rfl ?_
        refine q_iconst (pc := 30) 3 rfl (by decide) ?_
        refine q_callV (pc := 31) (as := [.int 3]) (rest := []) (b := 0) (st2 := [.int (-2147483000 - nI 3)]) rfl ce_X8_refuse ml_X8_82 im_X8_refuse se_X8_refuse he.1 rfl rfl rfl (by decide) (Nat.le_of_ble_eq_true rfl) (sp_X8_refuse (e := 3) he (by decide)) rfl ?_
        exact q_iret (pc := 34) rfl rfl (pA_no (k := 2) (by rw [oBeam, if_pos (pB_t h6), if_pos (pB_t h15), if_pos h26]) fr_rf)
    · refine q_aload_n (pc := 18) (j := 0) rfl rfl ?_
      refine q_iconst (pc := 19) 1 rfl (by decide) ?_
      refine q_callV (pc := 20) (as := [.int 1]) (rest := []) (b := 0) (st2 := [.int (-2147483000 - nI 1)]) rfl ce_X8_refuse ml_X8_82 im_X8_refuse se_X8_refuse he.1 rfl rfl rfl (by decide) (Nat.le_of_ble_eq_true rfl) (sp_X8_refuse (e := 1) he (by decide)) rfl ?_
      exact q_iret (pc := 23) rfl rfl (pA_no (k := 0) (by rw [oBeam, if_pos (pB_t h6), if_neg (show ¬ _ = true from by rw [pB_f h15]; decide)]) fr_rf)
set_option maxRecDepth 100000 in
theorem sp_X8_slur {sh : List PSh} {S : PSt} {N : Nat} (he : isEl sh) (hi : cIv S N) {a b what : Int32}  : pG mX8_slur 4 [.ref 0, .int a, .int b, .int what] sh S (pA (oSlur (S.1 3) N a b what) S S) := by
  obtain ⟨hN, hN2, hg, hw⟩ := hi
  refine pG.of [some (.ref 0), some (.int a), some (.int b), some (.int what), none, none, none, none] (by decide) tk_X8_slur (Nat.le_of_ble_eq_true rfl) rfl (fun X => ?_)
  refine q_aload_n (pc := 0) (j := 0) rfl rfl ?_
  refine q_iload_n (pc := 1) (j := 1) rfl rfl ?_
  refine q_iload_n (pc := 2) (j := 2) rfl rfl ?_
  refine q_callV (pc := 3) (as := [.int a, .int b]) (rest := []) (b := 0) (st2 := [.int (pB (isStB N a b))]) rfl ce_X8_isStretch ml_X8_137 im_X8_isStretch se_X8_isStretch he.1 rfl rfl rfl (by decide) (Nat.le_of_ble_eq_true rfl) (sp_X8_isStretch he hN hN2) rfl ?_
  refine q_if_eq (pc := 6) 18 rfl (by decide) (fun h6 => ?_) (fun h6 => ?_)
  · refine q_aload_n (pc := 18) (j := 0) rfl rfl ?_
    refine q_iconst (pc := 19) 1 rfl (by decide) ?_
    refine q_callV (pc := 20) (as := [.int 1]) (rest := []) (b := 0) (st2 := [.int (-2147483000 - nI 1)]) rfl ce_X8_refuse ml_X8_82 im_X8_refuse se_X8_refuse he.1 rfl rfl rfl (by decide) (Nat.le_of_ble_eq_true rfl) (sp_X8_refuse (e := 1) he (by decide)) rfl ?_
    exact q_iret (pc := 23) rfl rfl (pA_no (k := 0) (by rw [oSlur, if_neg (show ¬ _ = true from by rw [pB_f h6]; decide)]) fr_rf)
  · refine q_iload_n (pc := 9) (j := 3) rfl rfl ?_
    refine q_iconst (pc := 10) 0 rfl (by decide) ?_
    refine q_iconst (pc := 11) 3 rfl (by decide) ?_
    refine q_callS (pc := 12) (as := [.int what, .int 0, .int 3]) (rest := []) (st2 := [.int (pB (pWi what 0 3))]) rfl ce_X8_isWithin ml_X8_101 st_X8_isWithin rfl (by decide) (Nat.le_of_ble_eq_true rfl) (sp_X8_isWithin) rfl ?_
    refine q_if_ne (pc := 15) 24 rfl (by decide) (fun h15 => ?_) (fun h15 => ?_)
    · obtain ⟨x, y, rfl, rfl, hxy, hyN⟩ := isSt_of hN2 (pB_t h6)
      refine q_iload_n (pc := 24) (j := 2) rfl rfl ?_
      refine q_iload_n (pc := 25) (j := 1) rfl rfl ?_
      refine q_isub (pc := 26) rfl ?_
      refine q_st (st2 := [.int (nI (y - x))]) (by rw [(pk_sub hxy)]) ?_
      refine q_iconst (pc := 27) 2 rfl (by decide) ?_
      refine q_icmp_ge (pc := 28) 37 rfl (by decide) (fun h28 => ?_) (fun h28 => ?_)
      · have hxy2 : x + 2 ≤ y := (by have h9 := (nI_leI (a := 2) (b := y - x) (by decide) (by omega)).mp h28; omega)
        refine q_aload_n (pc := 37) (j := 0) rfl rfl ?_
        refine q_iload_n (pc := 38) (j := 1) rfl rfl ?_
        refine q_iload_n (pc := 39) (j := 2) rfl rfl ?_
        refine q_iconst (pc := 40) 1 rfl (by decide) ?_
        refine q_callV (pc := 41) (as := [.int (nI x), .int (nI y), .int 1]) (rest := []) (b := 0) (st2 := [.int (sluV (S.1 3) true x y)]) rfl ce_X8_slurHeight ml_X8_234 im_X8_slurHeight se_X8_slurHeight he.1 rfl rfl rfl (by decide) (Nat.le_of_ble_eq_true rfl) (sp_X8_slurHeight (x := x) (y := y) (up := true) he (by omega) (by omega)) rfl ?_
        refine q_istore (pc := 44) (j := 4) [some (.ref 0), some (.int (nI x)), some (.int (nI y)), some (.int what), some (.int (sluV (S.1 3) true x y)), none, none, none] rfl (by decide) rfl ?_
        refine q_aload_n (pc := 46) (j := 0) rfl rfl ?_
        refine q_iload_n (pc := 47) (j := 1) rfl rfl ?_
        refine q_iload_n (pc := 48) (j := 2) rfl rfl ?_
        refine q_iconst (pc := 49) 0 rfl (by decide) ?_
        refine q_callV (pc := 50) (as := [.int (nI x), .int (nI y), .int 0]) (rest := []) (b := 0) (st2 := [.int (sluV (S.1 3) false x y)]) rfl ce_X8_slurHeight ml_X8_234 im_X8_slurHeight se_X8_slurHeight he.1 rfl rfl rfl (by decide) (Nat.le_of_ble_eq_true rfl) (sp_X8_slurHeight (x := x) (y := y) (up := false) he (by omega) (by omega)) rfl ?_
        refine q_istore (pc := 53) (j := 5) [some (.ref 0), some (.int (nI x)), some (.int (nI y)), some (.int what), some (.int (sluV (S.1 3) true x y)), some (.int (sluV (S.1 3) false x y)), none, none] rfl (by decide) rfl ?_
        refine q_iload (pc := 55) (j := 5) rfl rfl ?_
        refine q_iload (pc := 57) (j := 4) rfl rfl ?_
        refine q_join 67 [some (.ref 0), some (.int (nI x)), some (.int (nI y)), some (.int what), some (.int (sluV (S.1 3) true x y)), some (.int (sluV (S.1 3) false x y)), none, none] [.int (if (sluV (S.1 3) false x y) < (sluV (S.1 3) true x y) then 1 else 0)] S ?_ (fun key59 => ?_)
        · refine q_istore (pc := 67) (j := 6) [some (.ref 0), some (.int (nI x)), some (.int (nI y)), some (.int what), some (.int (sluV (S.1 3) true x y)), some (.int (sluV (S.1 3) false x y)), some (.int (if (sluV (S.1 3) false x y) < (sluV (S.1 3) true x y) then 1 else 0)), none] rfl (by decide) rfl ?_
          refine q_iload_n (pc := 69) (j := 3) rfl rfl ?_
          refine q_if_ne (pc := 70) 100 rfl (by decide) (fun h70 => ?_) (fun h70 => ?_)
          · refine q_iload_n (pc := 100) (j := 3) rfl rfl ?_
            refine q_iconst (pc := 101) 2 rfl (by decide) ?_
            refine q_icmp_eq (pc := 102) 115 rfl (by decide) (fun h102 => ?_) (fun h102 => ?_)
            · refine q_iload (pc := 115) (j := 4) rfl rfl ?_
              refine q_goto (pc := 117) 122 rfl (by decide) ?_
              refine q_istore (pc := 122) (j := 7) [some (.ref 0), some (.int (nI x)), some (.int (nI y)), some (.int what), some (.int (sluV (S.1 3) true x y)), some (.int (sluV (S.1 3) false x y)), some (.int (if (sluV (S.1 3) false x y) < (sluV (S.1 3) true x y) then 1 else 0)), some (.int (sluV (S.1 3) true x y))] rfl (by decide) rfl ?_
              refine q_iload (pc := 124) (j := 7) rfl rfl ?_
              refine q_callS (pc := 126) (as := [.int (sluV (S.1 3) true x y)]) (rest := []) (st2 := [.int (pB (pWi (sluV (S.1 3) true x y) 0 40))]) rfl ce_X8_isHeight ml_X8_238 st_X8_isHeight rfl (by decide) (Nat.le_of_ble_eq_true rfl) (sp_X8_isHeight) rfl ?_
              refine q_if_eq (pc := 129) 137 rfl (by decide) (fun h129 => ?_) (fun h129 => ?_)
              · refine q_aload_n (pc := 137) (j := 0) rfl rfl ?_
                refine q_iconst (pc := 138) 2 rfl (by decide) ?_
                refine q_callV (pc := 139) (as := [.int 2]) (rest := []) (b := 0) (st2 := [.int (-2147483000 - nI 2)]) rfl ce_X8_refuse ml_X8_82 im_X8_refuse se_X8_refuse he.1 rfl rfl rfl (by decide) (Nat.le_of_ble_eq_true rfl) (sp_X8_refuse (e := 2) he (by decide)) rfl ?_
                exact q_iret (pc := 142) rfl rfl (pA_no (k := 1) (by rw [oSlur, if_pos (pB_t h6), if_pos (pB_t h15), tN_nI (show x < 2 ^ 31 by omega), tN_nI (show y < 2 ^ 31 by omega), if_neg (by omega), sluO, if_neg h70, if_pos (Or.inl h102), if_neg (show ¬ _ = true from by rw [pB_f h129]; decide)]) fr_rf)
              · refine q_iload (pc := 132) (j := 7) rfl rfl ?_
                refine q_goto (pc := 134) 142 rfl (by decide) ?_
                exact q_iret (pc := 142) rfl rfl (pA_ok (by rw [oSlur, if_pos (pB_t h6), if_pos (pB_t h15), tN_nI (show x < 2 ^ 31 by omega), tN_nI (show y < 2 ^ 31 by omega), if_neg (by omega), sluO, if_neg h70, if_pos (Or.inl h102), if_pos (pB_t h129)]) fr_rf)
            · refine q_iload_n (pc := 105) (j := 3) rfl rfl ?_
              refine q_iconst (pc := 106) 1 rfl (by decide) ?_
              refine q_icmp_ne (pc := 107) 120 rfl (by decide) (fun h107 => ?_) (fun h107 => ?_)
              · refine q_iload (pc := 120) (j := 5) rfl rfl ?_
                refine q_istore (pc := 122) (j := 7) [some (.ref 0), some (.int (nI x)), some (.int (nI y)), some (.int what), some (.int (sluV (S.1 3) true x y)), some (.int (sluV (S.1 3) false x y)), some (.int (if (sluV (S.1 3) false x y) < (sluV (S.1 3) true x y) then 1 else 0)), some (.int (sluV (S.1 3) false x y))] rfl (by decide) rfl ?_
                refine q_iload (pc := 124) (j := 7) rfl rfl ?_
                refine q_callS (pc := 126) (as := [.int (sluV (S.1 3) false x y)]) (rest := []) (st2 := [.int (pB (pWi (sluV (S.1 3) false x y) 0 40))]) rfl ce_X8_isHeight ml_X8_238 st_X8_isHeight rfl (by decide) (Nat.le_of_ble_eq_true rfl) (sp_X8_isHeight) rfl ?_
                refine q_if_eq (pc := 129) 137 rfl (by decide) (fun h129 => ?_) (fun h129 => ?_)
                · refine q_aload_n (pc := 137) (j := 0) rfl rfl ?_
                  refine q_iconst (pc := 138) 2 rfl (by decide) ?_
                  refine q_callV (pc := 139) (as := [.int 2]) (rest := []) (b := 0) (st2 := [.int (-2147483000 - nI 2)]) rfl ce_X8_refuse ml_X8_82 im_X8_refuse se_X8_refuse he.1 rfl rfl rfl (by decide) (Nat.le_of_ble_eq_true rfl) (sp_X8_refuse (e := 2) he (by decide)) rfl ?_
                  exact q_iret (pc := 142) rfl rfl (pA_no (k := 1) (by rw [oSlur, if_pos (pB_t h6), if_pos (pB_t h15), tN_nI (show x < 2 ^ 31 by omega), tN_nI (show y < 2 ^ 31 by omega), if_neg (by omega), sluO, if_neg h70, if_neg (fun q9 => q9.elim (fun q9 => h102 q9) (fun q9 => h107 q9.1)), if_neg (show ¬ _ = true from by rw [pB_f h129]; decide)]) fr_rf)
                · refine q_iload (pc := 132) (j := 7) rfl rfl ?_
                  refine q_goto (pc := 134) 142 rfl (by decide) ?_
                  exact q_iret (pc := 142) rfl rfl (pA_ok (by rw [oSlur, if_pos (pB_t h6), if_pos (pB_t h15), tN_nI (show x < 2 ^ 31 by omega), tN_nI (show y < 2 ^ 31 by omega), if_neg (by omega), sluO, if_neg h70, if_neg (fun q9 => q9.elim (fun q9 => h102 q9) (fun q9 => h107 q9.1)), if_pos (pB_t h129)]) fr_rf)
              · refine q_iload (pc := 110) (j := 6) rfl rfl ?_
                refine q_if_ne (pc := 112) 120 rfl (by decide) (fun h112 => ?_) (fun h112 => ?_)
                · refine q_iload (pc := 120) (j := 5) rfl rfl ?_
                  refine q_istore (pc := 122) (j := 7) [some (.ref 0), some (.int (nI x)), some (.int (nI y)), some (.int what), some (.int (sluV (S.1 3) true x y)), some (.int (sluV (S.1 3) false x y)), some (.int (if (sluV (S.1 3) false x y) < (sluV (S.1 3) true x y) then 1 else 0)), some (.int (sluV (S.1 3) false x y))] rfl (by decide) rfl ?_
                  refine q_iload (pc := 124) (j := 7) rfl rfl ?_
                  refine q_callS (pc := 126) (as := [.int (sluV (S.1 3) false x y)]) (rest := []) (st2 := [.int (pB (pWi (sluV (S.1 3) false x y) 0 40))]) rfl ce_X8_isHeight ml_X8_238 st_X8_isHeight rfl (by decide) (Nat.le_of_ble_eq_true rfl) (sp_X8_isHeight) rfl ?_
                  refine q_if_eq (pc := 129) 137 rfl (by decide) (fun h129 => ?_) (fun h129 => ?_)
                  · refine q_aload_n (pc := 137) (j := 0) rfl rfl ?_
                    refine q_iconst (pc := 138) 2 rfl (by decide) ?_
                    refine q_callV (pc := 139) (as := [.int 2]) (rest := []) (b := 0) (st2 := [.int (-2147483000 - nI 2)]) rfl ce_X8_refuse ml_X8_82 im_X8_refuse se_X8_refuse he.1 rfl rfl rfl (by decide) (Nat.le_of_ble_eq_true rfl) (sp_X8_refuse (e := 2) he (by decide)) rfl ?_
                    exact q_iret (pc := 142) rfl rfl (pA_no (k := 1) (by rw [oSlur, if_pos (pB_t h6), if_pos (pB_t h15), tN_nI (show x < 2 ^ 31 by omega), tN_nI (show y < 2 ^ 31 by omega), if_neg (by omega), sluO, if_neg h70, if_neg (fun q9 => q9.elim (fun q9 => h102 q9) (fun q9 => h112 (if_neg q9.2))), if_neg (show ¬ _ = true from by rw [pB_f h129]; decide)]) fr_rf)
                  · refine q_iload (pc := 132) (j := 7) rfl rfl ?_
                    refine q_goto (pc := 134) 142 rfl (by decide) ?_
                    exact q_iret (pc := 142) rfl rfl (pA_ok (by rw [oSlur, if_pos (pB_t h6), if_pos (pB_t h15), tN_nI (show x < 2 ^ 31 by omega), tN_nI (show y < 2 ^ 31 by omega), if_neg (by omega), sluO, if_neg h70, if_neg (fun q9 => q9.elim (fun q9 => h102 q9) (fun q9 => h112 (if_neg q9.2))), if_pos (pB_t h129)]) fr_rf)
                · refine q_iload (pc := 115) (j := 4) rfl rfl ?_
                  refine q_goto (pc := 117) 122 rfl (by decide) ?_
                  refine q_istore (pc := 122) (j := 7) [some (.ref 0), some (.int (nI x)), some (.int (nI y)), some (.int what), some (.int (sluV (S.1 3) true x y)), some (.int (sluV (S.1 3) false x y)), some (.int (if (sluV (S.1 3) false x y) < (sluV (S.1 3) true x y) then 1 else 0)), some (.int (sluV (S.1 3) true x y))] rfl (by decide) rfl ?_
                  refine q_iload (pc := 124) (j := 7) rfl rfl ?_
                  refine q_callS (pc := 126) (as := [.int (sluV (S.1 3) true x y)]) (rest := []) (st2 := [.int (pB (pWi (sluV (S.1 3) true x y) 0 40))]) rfl ce_X8_isHeight ml_X8_238 st_X8_isHeight rfl (by decide) (Nat.le_of_ble_eq_true rfl) (sp_X8_isHeight) rfl ?_
                  refine q_if_eq (pc := 129) 137 rfl (by decide) (fun h129 => ?_) (fun h129 => ?_)
                  · refine q_aload_n (pc := 137) (j := 0) rfl rfl ?_
                    refine q_iconst (pc := 138) 2 rfl (by decide) ?_
                    refine q_callV (pc := 139) (as := [.int 2]) (rest := []) (b := 0) (st2 := [.int (-2147483000 - nI 2)]) rfl ce_X8_refuse ml_X8_82 im_X8_refuse se_X8_refuse he.1 rfl rfl rfl (by decide) (Nat.le_of_ble_eq_true rfl) (sp_X8_refuse (e := 2) he (by decide)) rfl ?_
                    exact q_iret (pc := 142) rfl rfl (pA_no (k := 1) (by rw [oSlur, if_pos (pB_t h6), if_pos (pB_t h15), tN_nI (show x < 2 ^ 31 by omega), tN_nI (show y < 2 ^ 31 by omega), if_neg (by omega), sluO, if_neg h70, if_pos (Or.inr ⟨h107, fun q9 => by rw [if_pos q9] at h112; exact absurd h112 (by decide)⟩), if_neg (show ¬ _ = true from by rw [pB_f h129]; decide)]) fr_rf)
                  · refine q_iload (pc := 132) (j := 7) rfl rfl ?_
                    refine q_goto (pc := 134) 142 rfl (by decide) ?_
                    exact q_iret (pc := 142) rfl rfl (pA_ok (by rw [oSlur, if_pos (pB_t h6), if_pos (pB_t h15), tN_nI (show x < 2 ^ 31 by omega), tN_nI (show y < 2 ^ 31 by omega), if_neg (by omega), sluO, if_neg h70, if_pos (Or.inr ⟨h107, fun q9 => by rw [if_pos q9] at h112; exact absurd h112 (by decide)⟩), if_pos (pB_t h129)]) fr_rf)
          · refine q_iload (pc := 73) (j := 4) rfl rfl ?_
            refine q_callS (pc := 75) (as := [.int (sluV (S.1 3) true x y)]) (rest := []) (st2 := [.int (pB (pWi (sluV (S.1 3) true x y) 0 40))]) rfl ce_X8_isHeight ml_X8_238 st_X8_isHeight rfl (by decide) (Nat.le_of_ble_eq_true rfl) (sp_X8_isHeight) rfl ?_
            refine q_if_ne (pc := 78) 89 rfl (by decide) (fun h78 => ?_) (fun h78 => ?_)
            · refine q_iload (pc := 89) (j := 6) rfl rfl ?_
              refine q_goto (pc := 91) 99 rfl (by decide) ?_
              exact q_iret (pc := 99) rfl rfl (pA_ok (by rw [oSlur, if_pos (pB_t h6), if_pos (pB_t h15), tN_nI (show x < 2 ^ 31 by omega), tN_nI (show y < 2 ^ 31 by omega), if_neg (by omega), sluO, if_pos h70, if_pos (Or.inl (pB_t h78))]) fr_rf)
            · refine q_iload (pc := 81) (j := 5) rfl rfl ?_
              refine q_callS (pc := 83) (as := [.int (sluV (S.1 3) false x y)]) (rest := []) (st2 := [.int (pB (pWi (sluV (S.1 3) false x y) 0 40))]) rfl ce_X8_isHeight ml_X8_238 st_X8_isHeight rfl (by decide) (Nat.le_of_ble_eq_true rfl) (sp_X8_isHeight) rfl ?_
              refine q_if_eq (pc := 86) 94 rfl (by decide) (fun h86 => ?_) (fun h86 => ?_)
              · refine q_aload_n (pc := 94) (j := 0) rfl rfl ?_
                refine q_iconst (pc := 95) 2 rfl (by decide) ?_
                refine q_callV (pc := 96) (as := [.int 2]) (rest := []) (b := 0) (st2 := [.int (-2147483000 - nI 2)]) rfl ce_X8_refuse ml_X8_82 im_X8_refuse se_X8_refuse he.1 rfl rfl rfl (by decide) (Nat.le_of_ble_eq_true rfl) (sp_X8_refuse (e := 2) he (by decide)) rfl ?_
                exact q_iret (pc := 99) rfl rfl (pA_no (k := 1) (by rw [oSlur, if_pos (pB_t h6), if_pos (pB_t h15), tN_nI (show x < 2 ^ 31 by omega), tN_nI (show y < 2 ^ 31 by omega), if_neg (by omega), sluO, if_pos h70, if_neg (fun q9 => q9.elim (fun q9 => by rw [pB_f h78] at q9; exact absurd q9 (by decide)) (fun q9 => by rw [pB_f h86] at q9; exact absurd q9 (by decide)))]) fr_rf)
              · refine q_iload (pc := 89) (j := 6) rfl rfl ?_
                refine q_goto (pc := 91) 99 rfl (by decide) ?_
                exact q_iret (pc := 99) rfl rfl (pA_ok (by rw [oSlur, if_pos (pB_t h6), if_pos (pB_t h15), tN_nI (show x < 2 ^ 31 by omega), tN_nI (show y < 2 ^ 31 by omega), if_neg (by omega), sluO, if_pos h70, if_pos (Or.inr (pB_t h86))]) fr_rf)
        · refine q_icmp_ge (pc := 59) 66 rfl (by decide) (fun h59 => ?_) (fun h59 => ?_)
          · refine q_iconst (pc := 66) 0 rfl (by decide) ?_
            exact q_st (by rw [if_neg (Int32.not_lt.mpr h59)]) key59
          · refine q_iconst (pc := 62) 1 rfl (by decide) ?_
            refine q_goto (pc := 63) 67 rfl (by decide) ?_
            exact q_st (by rw [if_pos (Int32.not_le.mp h59)]) key59
      · refine q_aload_n (pc := 31) (j := 0) rfl rfl ?_
        refine q_iconst (pc := 32) 3 rfl (by decide) ?_
        refine q_callV (pc := 33) (as := [.int 3]) (rest := []) (b := 0) (st2 := [.int (-2147483000 - nI 3)]) rfl ce_X8_refuse ml_X8_82 im_X8_refuse se_X8_refuse he.1 rfl rfl rfl (by decide) (Nat.le_of_ble_eq_true rfl) (sp_X8_refuse (e := 3) he (by decide)) rfl ?_
        exact q_iret (pc := 36) rfl rfl (pA_no (k := 2) (by rw [oSlur, if_pos (pB_t h6), if_pos (pB_t h15), tN_nI (show x < 2 ^ 31 by omega), tN_nI (show y < 2 ^ 31 by omega), if_pos (by have h9 := mt (nI_leI (a := 2) (b := y - x) (by decide) (by omega)).mpr h28; omega)]) fr_rf)
    · refine q_aload_n (pc := 18) (j := 0) rfl rfl ?_
      refine q_iconst (pc := 19) 1 rfl (by decide) ?_
      refine q_callV (pc := 20) (as := [.int 1]) (rest := []) (b := 0) (st2 := [.int (-2147483000 - nI 1)]) rfl ce_X8_refuse ml_X8_82 im_X8_refuse se_X8_refuse he.1 rfl rfl rfl (by decide) (Nat.le_of_ble_eq_true rfl) (sp_X8_refuse (e := 1) he (by decide)) rfl ?_
      exact q_iret (pc := 23) rfl rfl (pA_no (k := 0) (by rw [oSlur, if_pos (pB_t h6), if_neg (show ¬ _ = true from by rw [pB_f h15]; decide)]) fr_rf)
