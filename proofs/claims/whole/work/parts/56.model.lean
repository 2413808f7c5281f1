/-! the model: isAsWas, moved: written by wip/whole/gen/c56.py -/
/-- the lines of the columns told otherwise, those of g kept -/
def aR (g : Nat → Int32) (S : PSt) (N : Nat) (V : PSt) : Prop := frM S V ∧ linR (mG S) (S.1 71 1) N V ∧ V.1 70 18 = nI (linV g (S.1 71 1) N) ∧ wasR g (S.1 71 1) N (linV g (S.1 71 1) N) V
theorem aR_ly {g : Nat → Int32} {S V : PSt} {N x n : Nat} (h : aR g S N V) : aR g S N (lyM V x n) := by
  obtain ⟨h1, ⟨h2, h3⟩, h4, h5⟩ := h
  refine ⟨fm_tr h1 fm_ly, ⟨by rw [lyM_70 (by decide)]; exact h2, fun i hi => by rw [lyM_o (by decide) (by decide), lyM_o (by decide) (by decide)]; exact h3 i hi⟩, by rw [lyM_70 (by decide)]; exact h4, fun i hi => ?_⟩
  rw [lyM_o (by decide) (by decide), lyM_o (by decide) (by decide), fw_ly.2.2.2.1]
  exact h5 i hi
theorem cmp_sym {x y : UInt32} (hx : fF x) (hy : fF y) : Op.cmpValue (FP.fcmp x y) .l = 0 ↔ Op.cmpValue (FP.fcmp y x) .l = 0 := by
  rw [cmp_some hx hy, cmp_some hy hx]
  rcases Int.lt_trichotomy (fz x) (fz y) with h | h | h
  · rw [FP.Core.compare_lt_iff _ _ |>.mpr h, FP.Core.compare_gt_iff _ _ |>.mpr h]
    exact ⟨fun q => absurd q (by decide), fun q => absurd q (by decide)⟩
  · rw [h]
  · rw [FP.Core.compare_gt_iff _ _ |>.mpr h, FP.Core.compare_lt_iff _ _ |>.mpr h]
    exact ⟨fun q => absurd q (by decide), fun q => absurd q (by decide)⟩
theorem dif_up {g g2 : Nat → Int32} {w : Int32} {x n m : Nat} (h : difV g g2 w x n (m + 1) = true) : ∀ k, m + 1 ≤ k → difV g g2 w x n k = true := by
  intro k
  induction k with
  | zero => intro hk; omega
  | succ k ih =>
    intro hk
    by_cases e : k = m
    · subst e; exact h
    · unfold difV; rw [ih (by omega)]; rfl
theorem dif_y {g g2 : Nat → Int32} {w : Int32} {x n m : Nat} (h : ¬ Op.cmpValue (FP.fcmp (atV g w x n m) (atV g2 w x n m)) .l = 0) : difV g g2 w x n (m + 1) = true := by
  unfold difV
  rw [decide_eq_false h]; simp
theorem dif_n {g g2 : Nat → Int32} {w : Int32} {x n m : Nat} (h0 : difV g g2 w x n m = false) (h : Op.cmpValue (FP.fcmp (atV g w x n m) (atV g2 w x n m)) .l = 0) : difV g g2 w x n (m + 1) = false := by
  unfold difV
  rw [h0, decide_eq_true h]; rfl
theorem oth_1 {g g2 : Nat → Int32} {w : Int32} {N k : Nat} (h : linV g2 w N ≤ k) : othV g g2 w N k = true := by unfold othV; rw [decide_eq_true h]; rfl
theorem oth_2 {g g2 : Nat → Int32} {w : Int32} {N k : Nat} (h : ¬ staV g w N k = staV g2 w N k) : othV g g2 w N k = true := by unfold othV; rw [decide_eq_false h]; simp
theorem oth_3 {g g2 : Nat → Int32} {w : Int32} {N k : Nat} (h : ¬ staV g w N (k + 1) = staV g2 w N (k + 1)) : othV g g2 w N k = true := by unfold othV; rw [decide_eq_false h]; simp
theorem oth_4 {g g2 : Nat → Int32} {w : Int32} {N k : Nat} (h1 : ¬ linV g2 w N ≤ k) (h2 : staV g w N k = staV g2 w N k) (h3 : staV g w N (k + 1) = staV g2 w N (k + 1)) : othV g g2 w N k = difV g g2 w (staV g w N k) (staV g w N (k + 1) - staV g w N k) (staV g w N (k + 1) - staV g w N k) := by
  unfold othV
  rw [decide_eq_false h1, decide_eq_true h2, decide_eq_true h3]; rfl
set_option maxRecDepth 100000 in
theorem lp_X9_isAsWas {n0 : Nat} {X : Nat × (Nat → Int32)} {P : Option Value → PSt → Prop} {d : Nat} (hd9 : 0 ≤ d) {sh : List PSh} (hm : isMo sh) {S V : PSt} {g : Nat → Int32} {N q x y n : Nat} (hq : q < 33) (hN2 : N ≤ 32) (hok : okG (mG S) N) (hg : okG g N) (hw : okWd (S.1 71 1)) (hn : x + n = y + 1) (hyN : y < N) (h83 : V.1 83 q = nI y) (h76 : ∀ m, m < n → V.2.1 76 (x + m) = (atV (mG S) (S.1 71 1) x n m)) (h86 : ∀ m, m < n → V.2.1 86 (x + m) = (atV g (S.1 71 1) x n m)) (hno : difV g (mG S) (S.1 71 1) x n n = true → P (some (.int 0)) V)  (hex : ∀ i, difV g (mG S) (S.1 71 1) x n n = false → pV mX9_isAsWas d n0 X sh P 97 [some (.ref 70), some (.int (nI q)), some (.int i)] [] V) : ∀ (m k : Nat), k + m = n → difV g (mG S) (S.1 71 1) x n k = false → pV mX9_isAsWas d n0 X sh P 63 [some (.ref 70), some (.int (nI q)), some (.int (nI (x + k)))] [] V := by
  intro m
  induction m with
  | zero =>
    intro k hk hdf
    have hk9 : n = k := by omega
    subst hk9
    refine q_iload_n (pc := 63) (j := 2) rfl rfl ?_
    refine q_aload_n (pc := 64) (j := 0) rfl rfl ?_
    refine q_get (pc := 65) (a := 70) (v := .ref 83) rfl fl_X9_48 hm.1 rfl rfl ?_
    refine q_iload_n (pc := 68) (j := 1) rfl rfl ?_
    refine q_iald (pc := 69) (a := 83) q rfl hm.2.2.2.2.2.2.2.2.2.2.2.2.2.1 (vp_in_nI (by omega) (by decide)) (nI_clamp (by omega)) ?_
    refine q_st (st2 := [.int (nI y), .int (nI (x + n))]) (by rw [(show (V.1 83 q) = nI y from h83)]) ?_
    refine q_icmp_gt (pc := 70) 97 rfl (by decide) (fun _ => ?_) (fun h9 => absurd (nI_lt (by omega) (by omega)) h9)
    exact hex _ hdf
  | succ m ih =>
    intro k hk hdf
    have hk1 : k < n := by omega
    have hk2 : k < n := hk1
    refine q_iload_n (pc := 63) (j := 2) rfl rfl ?_
    refine q_aload_n (pc := 64) (j := 0) rfl rfl ?_
    refine q_get (pc := 65) (a := 70) (v := .ref 83) rfl fl_X9_48 hm.1 rfl rfl ?_
    refine q_iload_n (pc := 68) (j := 1) rfl rfl ?_
    refine q_iald (pc := 69) (a := 83) q rfl hm.2.2.2.2.2.2.2.2.2.2.2.2.2.1 (vp_in_nI (by omega) (by decide)) (nI_clamp (by omega)) ?_
    refine q_st (st2 := [.int (nI y), .int (nI (x + k))]) (by rw [(show (V.1 83 q) = nI y from h83)]) ?_
    refine q_icmp_gt (pc := 70) 97 rfl (by decide) (fun h9 => absurd h9 (nI_nlt (by omega) (by omega))) (fun _ => ?_)
    refine q_aload_n (pc := 73) (j := 0) rfl rfl ?_
    refine q_get (pc := 74) (a := 70) (v := .ref 76) rfl fl_X9_27 hm.1 rfl rfl ?_
    refine q_iload_n (pc := 77) (j := 2) rfl rfl ?_
    refine q_fald (pc := 78) (a := 76) (x + k) rfl hm.2.2.2.2.2.2.1 (vp_in_nI (by omega) (by decide)) (nI_clamp (by omega)) ?_
    refine q_st (st2 := [.float (atV (mG S) (S.1 71 1) x n k)]) (by rw [(show (V.2.1 76 (x + k)) = _ from h76 k hk1)]) ?_
    refine q_aload_n (pc := 79) (j := 0) rfl rfl ?_
    refine q_get (pc := 80) (a := 70) (v := .ref 86) rfl fl_X9_57 hm.1 rfl rfl ?_
    refine q_iload_n (pc := 83) (j := 2) rfl rfl ?_
    refine q_fald (pc := 84) (a := 86) (x + k) rfl hm.2.2.2.2.2.2.2.2.2.2.2.2.2.2.2.2.1 (vp_in_nI (by omega) (by decide)) (nI_clamp (by omega)) ?_
    refine q_st (st2 := [.float (atV g (S.1 71 1) x n k), .float (atV (mG S) (S.1 71 1) x n k)]) (by rw [(show (V.2.1 86 (x + k)) = _ from h86 k hk1)]) ?_
    refine q_fcmp (pc := 85) (op := .l) rfl ?_
    have f1 := (atV_ok (a := x) (n := n) hg hw (by omega) (by omega) k (by omega)).1; have f2 := (atV_ok (a := x) (n := n) hok hw (by omega) (by omega) k (by omega)).1
    refine q_if_eq (pc := 86) 91 rfl (by decide) (fun h86_ => ?_) (fun h86_ => ?_)
    · refine q_iinc (pc := 91) (j := 2) (n := 1) (nI (x + (k + 1))) [some (.ref 70), some (.int (nI q)), some (.int (nI (x + (k + 1))))] rfl (by decide) rfl (show nI (x + k) + 1 = nI (x + (k + 1)) from nI_1 (x + k)) rfl ?_
      refine q_goto (pc := 94) 63 rfl (by decide) ?_
      exact ih (k + 1) (by omega) (dif_n hdf ((cmp_sym f2 f1).mp h86_))
    · refine q_iconst (pc := 89) 0 rfl (by decide) ?_
      exact q_zret (pc := 90) rfl rfl rfl (hno (dif_up (dif_y (fun q9 => h86_ ((cmp_sym f2 f1).mpr q9))) n (by omega)))
set_option maxRecDepth 100000 in
theorem sp_X9_isAsWas {sh : List PSh} {S V : PSt} {g : Nat → Int32} {N k : Nat} (hm : isMo sh) (hi : mIv S N) (hg : okG g N) (hf : fouV g (S.1 71 1) N = true) (hf2 : fouV (mG S) (S.1 71 1) N = true) (hV : aR g S N V) (hk1 : k < linV g (S.1 71 1) N) : pG mX9_isAsWas 5 [.ref 70, .int (nI k)] sh V (fun r9 T9 => r9 = some (.int (pB (!(othV g (mG S) (S.1 71 1) N k)))) ∧ aR g S N T9) := by
  obtain ⟨hN, hN2, hok, hw⟩ := id hi
  have hL1 := Nat.le_trans (lin_le (g := g) (w := S.1 71 1) hN2 hf) hN2
  have hL2 := Nat.le_trans (lin_le (g := mG S) (w := S.1 71 1) hN2 hf2) hN2
  have hlt1 := sta_lt (g := g) (w := S.1 71 1) hN2 hf hk1
  refine pG.of [some (.ref 70), some (.int (nI k)), none] (by decide) tk_X9_isAsWas (Nat.le_of_ble_eq_true rfl) rfl (fun X => ?_)
  refine q_iload_n (pc := 0) (j := 1) rfl rfl ?_
  refine q_aload_n (pc := 1) (j := 0) rfl rfl ?_
  refine q_get (pc := 2) (a := 70) (v := .int (V.1 70 15)) rfl fl_X9_201 hm.1 rfl rfl ?_
  refine q_st (st2 := [.int (nI (linV (mG S) (S.1 71 1) N)), .int (nI k)]) (by rw [(show (V.1 70 15) = _ from hV.2.1.1)]) ?_
  refine q_icmp_ge (pc := 5) 38 rfl (by decide) (fun h5 => ?_) (fun h5 => ?_)
  · refine q_iconst (pc := 38) 0 rfl (by decide) ?_
    exact q_zret (pc := 39) rfl rfl rfl ⟨congrArg (fun v => some (Value.int v)) (by rw [oth_1 ((nI_leI (by omega) (by omega)).mp h5)]; rfl), hV⟩
  · have hk2 : k < (linV (mG S) (S.1 71 1) N) := (by have h9 := mt (nI_leI (a := (linV (mG S) (S.1 71 1) N)) (b := k) (by omega) (by omega)).mpr h5; omega); have hlt2 := sta_lt (g := mG S) (w := S.1 71 1) hN2 hf2 hk2
    refine q_aload_n (pc := 8) (j := 0) rfl rfl ?_
    refine q_get (pc := 9) (a := 70) (v := .ref 82) rfl fl_X9_45 hm.1 rfl rfl ?_
    refine q_iload_n (pc := 12) (j := 1) rfl rfl ?_
    refine q_iald (pc := 13) (a := 82) k rfl hm.2.2.2.2.2.2.2.2.2.2.2.2.1 (vp_in_nI (by omega) (by decide)) (nI_clamp (by omega)) ?_
    refine q_st (st2 := [.int (nI (staV (mG S) (S.1 71 1) N k))]) (by rw [(show (V.1 82 k) = _ from (hV.2.1.2 k hk2).1)]) ?_
    refine q_aload_n (pc := 14) (j := 0) rfl rfl ?_
    refine q_get (pc := 15) (a := 70) (v := .ref 84) rfl fl_X9_51 hm.1 rfl rfl ?_
    refine q_iload_n (pc := 18) (j := 1) rfl rfl ?_
    refine q_iald (pc := 19) (a := 84) k rfl hm.2.2.2.2.2.2.2.2.2.2.2.2.2.2.1 (vp_in_nI (by omega) (by decide)) (nI_clamp (by omega)) ?_
    refine q_st (st2 := [.int (nI (staV g (S.1 71 1) N k)), .int (nI (staV (mG S) (S.1 71 1) N k))]) (by rw [(show (V.1 84 k) = _ from (hV.2.2.2 k hk1).1)]) ?_
    refine q_icmp_ne (pc := 20) 38 rfl (by decide) (fun h20 => ?_) (fun h20 => ?_)
    · refine q_iconst (pc := 38) 0 rfl (by decide) ?_
      exact q_zret (pc := 39) rfl rfl rfl ⟨congrArg (fun v => some (Value.int v)) (by rw [oth_2 (fun q9 => h20 (by rw [q9]))]; rfl), hV⟩
    · refine q_aload_n (pc := 23) (j := 0) rfl rfl ?_
      refine q_get (pc := 24) (a := 70) (v := .ref 83) rfl fl_X9_48 hm.1 rfl rfl ?_
      refine q_iload_n (pc := 27) (j := 1) rfl rfl ?_
      refine q_iald (pc := 28) (a := 83) k rfl hm.2.2.2.2.2.2.2.2.2.2.2.2.2.1 (vp_in_nI (by omega) (by decide)) (nI_clamp (by omega)) ?_
      refine q_st (st2 := [.int (nI ((staV (mG S) (S.1 71 1) N (k + 1)) - 1))]) (by rw [(show (V.1 83 k) = _ from (hV.2.1.2 k hk2).2)]) ?_
      refine q_aload_n (pc := 29) (j := 0) rfl rfl ?_
      refine q_get (pc := 30) (a := 70) (v := .ref 85) rfl fl_X9_54 hm.1 rfl rfl ?_
      refine q_iload_n (pc := 33) (j := 1) rfl rfl ?_
      refine q_iald (pc := 34) (a := 85) k rfl hm.2.2.2.2.2.2.2.2.2.2.2.2.2.2.2.1 (vp_in_nI (by omega) (by decide)) (nI_clamp (by omega)) ?_
      refine q_st (st2 := [.int (nI ((staV g (S.1 71 1) N (k + 1)) - 1)), .int (nI ((staV (mG S) (S.1 71 1) N (k + 1)) - 1))]) (by rw [(show (V.1 85 k) = _ from (hV.2.2.2 k hk1).2.1)]) ?_
      refine q_icmp_eq (pc := 35) 40 rfl (by decide) (fun h35 => ?_) (fun h35 => ?_)
      · have hs1 : (staV (mG S) (S.1 71 1) N k) = (staV g (S.1 71 1) N k) := (nI_eq (by omega) (by omega)).mp h20; have hs2 : (staV (mG S) (S.1 71 1) N (k + 1)) = (staV g (S.1 71 1) N (k + 1)) := (by have h9 := (nI_eq (by omega) (by omega)).mp h35; omega)
        refine q_aload_n (pc := 40) (j := 0) rfl rfl ?_
        refine q_aload_n (pc := 41) (j := 0) rfl rfl ?_
        refine q_get (pc := 42) (a := 70) (v := .ref 82) rfl fl_X9_45 hm.1 rfl rfl ?_
        refine q_iload_n (pc := 45) (j := 1) rfl rfl ?_
        refine q_iald (pc := 46) (a := 82) k rfl hm.2.2.2.2.2.2.2.2.2.2.2.2.1 (vp_in_nI (by omega) (by decide)) (nI_clamp (by omega)) ?_
        refine q_st (st2 := [.int (nI (staV (mG S) (S.1 71 1) N k)), .ref 70]) (by rw [(show (V.1 82 k) = _ from (hV.2.1.2 k hk2).1)]) ?_
        refine q_aload_n (pc := 47) (j := 0) rfl rfl ?_
        refine q_get (pc := 48) (a := 70) (v := .ref 83) rfl fl_X9_48 hm.1 rfl rfl ?_
        refine q_iload_n (pc := 51) (j := 1) rfl rfl ?_
        refine q_iald (pc := 52) (a := 83) k rfl hm.2.2.2.2.2.2.2.2.2.2.2.2.2.1 (vp_in_nI (by omega) (by decide)) (nI_clamp (by omega)) ?_
        refine q_st (st2 := [.int (nI ((staV (mG S) (S.1 71 1) N (k + 1)) - 1)), .int (nI (staV (mG S) (S.1 71 1) N k)), .ref 70]) (by rw [(show (V.1 83 k) = _ from (hV.2.1.2 k hk2).2)]) ?_
        refine q_callV (pc := 53) (as := [.int (nI (staV (mG S) (S.1 71 1) N k)), .int (nI ((staV (mG S) (S.1 71 1) N (k + 1)) - 1))]) (rest := []) (b := 70) (st2 := []) rfl ce_X9_laysOut ml_X9_179 im_X9_laysOut se_X9_laysOut hm.1 rfl rfl rfl (by decide) (Nat.le_of_ble_eq_true rfl) (sp_X9_laysOutI (x := (staV (mG S) (S.1 71 1) N k)) (y := ((staV (mG S) (S.1 71 1) N (k + 1)) - 1)) (N := N) hm (fm_iv hV.1 hi) (by omega) (by omega)) rfl ?_
        refine q_aload_n (pc := 56) (j := 0) rfl rfl ?_
        refine q_get (pc := 57) (a := 70) (v := .ref 82) rfl fl_X9_45 hm.1 rfl rfl ?_
        refine q_iload_n (pc := 60) (j := 1) rfl rfl ?_
        refine q_iald (pc := 61) (a := 82) k rfl hm.2.2.2.2.2.2.2.2.2.2.2.2.1 (vp_in_nI (by omega) (by decide)) (nI_clamp (by omega)) ?_
        refine q_st (st2 := [.int (nI (staV (mG S) (S.1 71 1) N k))]) (by rw [(show ((lyM V (staV (mG S) (S.1 71 1) N k) (((staV (mG S) (S.1 71 1) N (k + 1)) - 1) - (staV (mG S) (S.1 71 1) N k) + 1)).1 82 k) = _ from (congrFun (lyM_o (by decide) (by decide)) k).trans (hV.2.1.2 k hk2).1)]) ?_
        refine q_istore_n (pc := 62) (j := 2) [some (.ref 70), some (.int (nI k)), some (.int (nI (staV (mG S) (S.1 71 1) N k)))] rfl (by decide) rfl ?_
        refine q_L (L2 := [some (.ref 70), some (.int (nI k)), some (.int (nI ((staV (mG S) (S.1 71 1) N k) + 0)))]) rfl (lp_X9_isAsWas (V := (lyM V (staV (mG S) (S.1 71 1) N k) ((staV (mG S) (S.1 71 1) N (k + 1)) - 1 - (staV (mG S) (S.1 71 1) N k) + 1))) (g := g) (N := N) (x := (staV (mG S) (S.1 71 1) N k)) (y := (staV (mG S) (S.1 71 1) N (k + 1)) - 1) (n := ((staV (mG S) (S.1 71 1) N (k + 1)) - 1 - (staV (mG S) (S.1 71 1) N k) + 1)) (by decide) hm (by omega) hN2 hok hg hw (by omega) (by omega) ((congrFun (lyM_o (by decide) (by decide)) k).trans (hV.2.1.2 k hk2).2) (fun m hm9 => by rw [lyT_at hV.1 (by omega) (by omega), Nat.add_sub_cancel_left]) (fun m hm9 => by rw [fw_ly.2.2.2.1, (hV.2.2.2 k hk1).2.2 _ (by omega) (by omega), hs1, hs2, Nat.add_sub_cancel_left, show (staV g (S.1 71 1) N (k + 1)) - 1 - (staV g (S.1 71 1) N k) + 1 = (staV g (S.1 71 1) N (k + 1)) - (staV g (S.1 71 1) N k) by omega]) (fun hd => by rw [show (staV (mG S) (S.1 71 1) N (k + 1)) - 1 - (staV (mG S) (S.1 71 1) N k) + 1 = (staV (mG S) (S.1 71 1) N (k + 1)) - (staV (mG S) (S.1 71 1) N k) by omega, hs1, hs2] at hd; exact ⟨congrArg (fun v => some (Value.int v)) (by rw [oth_4 (Nat.not_le.mpr hk2) hs1.symm hs2.symm, hd]; rfl), aR_ly hV⟩) (fun i hdf9 => ?_) ((staV (mG S) (S.1 71 1) N (k + 1)) - 1 - (staV (mG S) (S.1 71 1) N k) + 1) 0 (Nat.zero_add _) rfl); rw [show (staV (mG S) (S.1 71 1) N (k + 1)) - 1 - (staV (mG S) (S.1 71 1) N k) + 1 = (staV (mG S) (S.1 71 1) N (k + 1)) - (staV (mG S) (S.1 71 1) N k) by omega, hs1, hs2] at hdf9
        refine q_iconst (pc := 97) 1 rfl (by decide) ?_
        exact q_zret (pc := 98) rfl rfl rfl ⟨congrArg (fun v => some (Value.int v)) (by rw [oth_4 (Nat.not_le.mpr hk2) hs1.symm hs2.symm, hdf9]; rfl), aR_ly hV⟩
      · refine q_iconst (pc := 38) 0 rfl (by decide) ?_
        exact q_zret (pc := 39) rfl rfl rfl ⟨congrArg (fun v => some (Value.int v)) (by rw [oth_3 (fun q9 => h35 (by rw [q9]))]; rfl), hV⟩
