/-! the model: moved: written by wip/whole/gen/c57.py -/
theorem dur_w {d : Int32} : pWi d 0 64 = true ↔ d = 0 ∨ pAl 1 d = true := by
  have e0 : (0 : Int32).toInt = 0 := rfl
  have e64 : (64 : Int32).toInt = 64 := by decide
  have e1 : (pLeast 1).toInt = 1 := by decide
  have e2 : (pMost 1).toInt = 64 := by decide
  unfold pAl pWi
  rw [decide_eq_true_iff, decide_eq_true_iff, e0, e64, e1, e2]
  constructor
  · intro q
    by_cases e : d.toInt = 0
    · exact Or.inl (Int32.toInt_inj.mp e)
    · exact Or.inr ⟨by omega, q.2⟩
  · intro q
    rcases q with q | q
    · rw [q, e0]; omega
    · omega
/-- a column's step and duration told -/
def mvU (U : PSt) (x : Nat) (a b : Int32) : PSt := pSI (pSI U 71 (2 + (5 * x + 2)) a) 71 (2 + (5 * x + 1)) b
theorem mvU_o {U : PSt} {x c : Nat} {a b : Int32} (h : c ≠ 71) : (mvU U x a b).1 c = U.1 c := (pSI_ne h).trans (pSI_ne h)
theorem mvU_j {U : PSt} {x j : Nat} {a b : Int32} (h1 : j ≠ 2 + (5 * x + 2)) (h2 : j ≠ 2 + (5 * x + 1)) : (mvU U x a b).1 71 j = U.1 71 j := (pSI_j h2).trans (pSI_j h1)
theorem mvU_g {S U : PSt} {x : Nat} {step dur : Int32} (h : frM S U) : mG (mvU U x step (if dur = 0 then mG S (5 * x + 1) else dur)) = movG (mG S) x step dur := by
  have e := (h.1 71 (by decide) (by decide)).1
  funext j
  unfold movG
  by_cases h1 : j = 5 * x + 1
  · rw [h1]
    show (mvU U x step _).1 71 (2 + (5 * x + 1)) = _
    rw [show (mvU U x step (if dur = 0 then mG S (5 * x + 1) else dur)).1 71 (2 + (5 * x + 1)) = if dur = 0 then mG S (5 * x + 1) else dur from pSI_at]
    by_cases hd : dur = 0
    · rw [if_pos hd, if_neg (fun q => q.1 hd), if_neg (by omega)]
    · rw [if_neg hd, if_pos ⟨hd, rfl⟩]
  · rw [if_neg (show ¬ (¬ dur = 0 ∧ j = 5 * x + 1) from fun q => h1 q.2)]
    by_cases h2 : j = 5 * x + 2
    · rw [if_pos h2, h2]
      show (pSI (pSI U 71 (2 + (5 * x + 2)) step) 71 (2 + (5 * x + 1)) _).1 71 (2 + (5 * x + 2)) = step
      rw [pSI_j (by omega)]
      exact pSI_at
    · rw [if_neg h2]
      show (mvU U x step _).1 71 (2 + j) = S.1 71 (2 + j)
      rw [mvU_j (by omega) (by omega), e]
theorem movG_ok {g : Nat → Int32} {N x : Nat} {step dur : Int32} (hg : okG g N) (hs : pAl 2 step = true) (hd : dur = 0 ∨ pAl 1 dur = true) : okG (movG g x step dur) N := by
  have hs := of_decide_eq_true hs
  rw [show (pLeast 2).toInt = -12 by decide, show (pMost 2).toInt = 20 by decide] at hs
  intro i hi
  have h := hg i hi
  unfold okC movG
  rw [if_neg (by omega), if_neg (by omega), if_neg (show ¬ (¬ dur = 0 ∧ 5 * i + 2 = 5 * x + 1) by omega), if_neg (show ¬ (¬ dur = 0 ∧ 5 * i + 3 = 5 * x + 1) by omega), if_neg (show ¬ (5 * i + 3 = 5 * x + 2) by omega), if_neg (show ¬ (¬ dur = 0 ∧ 5 * i + 4 = 5 * x + 1) by omega), if_neg (show ¬ (5 * i + 4 = 5 * x + 2) by omega), if_neg (show ¬ (5 * i + 1 = 5 * x + 2) by omega)]
  refine ⟨h.1, ?_, ?_, h.2.2.2⟩
  · split
    · rename_i h9
      exact isDur_al (hd.resolve_left h9.1)
    · exact h.2.1
  · split
    · exact hs
    · exact h.2.2.1
theorem mvU_iv {S U : PSt} {N x : Nat} {step dur : Int32} (hi : mIv S N) (h : frM S U) (hs : pAl 2 step = true) (hd : dur = 0 ∨ pAl 1 dur = true) : mIv (mvU U x step (if dur = 0 then mG S (5 * x + 1) else dur)) N := by
  obtain ⟨h1, h2, h3, h4⟩ := hi
  refine ⟨?_, h2, ?_, ?_⟩
  · rw [mvU_j (by omega) (by omega), fm_w h]; exact h1
  · rw [mvU_g h]; exact movG_ok h3 hs hd
  · rw [mvU_j (by omega) (by omega), fm_w h]; exact h4
theorem aR_mk {S U V : PSt} {N x : Nat} {a b : Int32} (hU : kR S N (linV (mG S) (S.1 71 1) N) U) (hV : brR (mvU U x a b) N V) (hf2 : fouV (mG (mvU U x a b)) ((mvU U x a b).1 71 1) N = true) : aR (mG S) (mvU U x a b) N V := by
  have ew : (mvU U x a b).1 71 1 = S.1 71 1 := (mvU_j (by omega) (by omega)).trans (fm_w hU.1)
  obtain ⟨h1, h2⟩ := hV
  have h2 := h2 hf2
  refine ⟨h1.1, ⟨h2.1, h2.2.2⟩, ?_, fun i hi => ?_⟩
  · rw [h1.2.2.2.2, mvU_o (by decide), ew]; exact hU.2.2.1
  · rw [ew] at hi ⊢
    rw [h1.2.1, h1.2.2.1, h1.2.2.2.1, mvU_o (by decide), mvU_o (by decide)]
    exact hU.2.2.2 i hi
theorem fm_back {S U V : PSt} {x : Nat} {a b : Int32} (hU : frM S U) (hV : frM (mvU U x a b) V) : frM S (mvU V x (mG S (5 * x + 2)) (mG S (5 * x + 1))) := by
  refine ⟨fun c h1 h2 => ?_, ?_, ?_⟩
  · obtain ⟨a1, a2, a3, a4⟩ := hU.1 c h1 h2
    obtain ⟨b1, b2, b3, b4⟩ := hV.1 c h1 h2
    refine ⟨?_, b2.trans a2, b3.trans a3, b4.trans a4⟩
    by_cases h7 : c = 71
    · subst h7
      funext j
      by_cases e1 : j = 2 + (5 * x + 1)
      · subst e1; exact pSI_at
      · by_cases e2 : j = 2 + (5 * x + 2)
        · subst e2
          show (pSI (pSI V 71 (2 + (5 * x + 2)) _) 71 (2 + (5 * x + 1)) _).1 71 (2 + (5 * x + 2)) = _
          rw [pSI_j (by omega)]
          exact pSI_at
        · rw [mvU_j e2 e1, b1, mvU_j e2 e1, a1]
    · rw [mvU_o h7, b1, mvU_o h7, a1]
  · rw [mvU_o (by decide), hV.2.1, mvU_o (by decide), hU.2.1]
  · rw [mvU_o (by decide), hV.2.2, mvU_o (by decide), hU.2.2]
set_option maxRecDepth 100000 in
theorem lp_X9_moved {n0 : Nat} {X : Nat × (Nat → Int32)} {P : Option Value → PSt → Prop} {d : Nat} (hd9 : 6 ≤ d) {sh : List PSh} (hm : isMo sh) {S2 : PSt} {g : Nat → Int32} {N x : Nat} {step dur o4 o5 : Int32} (hi2 : mIv S2 N) (hg : okG g N) (hf : fouV g (S2.1 71 1) N = true) (hf2 : fouV (mG S2) (S2.1 71 1) N = true) (hL : (linV g (S2.1 71 1) N) ≤ 32)  (hex : ∀ i V, frM S2 V → pV mX9_moved d n0 X sh P 143 [some (.ref 70), some (.int (nI x)), some (.int step), some (.int dur), some (.int o4), some (.int o5), some (.int (pB (fouV (mG S2) (S2.1 71 1) N))), some (.int (nI (movN g (mG S2) (S2.1 71 1) N (linV g (S2.1 71 1) N)))), some (.int i)] [] V) : ∀ (m k : Nat) (V : PSt), k + m = (linV g (S2.1 71 1) N) → aR g S2 N V → pV mX9_moved d n0 X sh P 104 [some (.ref 70), some (.int (nI x)), some (.int step), some (.int dur), some (.int o4), some (.int o5), some (.int (pB (fouV (mG S2) (S2.1 71 1) N))), some (.int (nI (movN g (mG S2) (S2.1 71 1) N k))), some (.int (nI k))] [] V := by
  intro m
  induction m with
  | zero =>
    intro k V hk hV
    have hk9 : (linV g (S2.1 71 1) N) = k := by omega
    subst hk9
    refine q_iload (pc := 104) (j := 8) rfl rfl ?_
    refine q_aload_n (pc := 106) (j := 0) rfl rfl ?_
    refine q_get (pc := 107) (a := 70) (v := .int (V.1 70 18)) rfl fl_X9_214 hm.1 rfl rfl ?_
    refine q_st (st2 := [.int (nI (linV g (S2.1 71 1) N)), .int (nI (linV g (S2.1 71 1) N))]) (by rw [(show (V.1 70 18) = _ from hV.2.2.1)]) ?_
    refine q_icmp_ge (pc := 110) 143 rfl (by decide) (fun _ => ?_) (fun h9 => absurd (Int32.le_refl _) h9)
    exact hex _ _ hV.1
  | succ m ih =>
    intro k V hk hV
    have hk1 : k < (linV g (S2.1 71 1) N) := by omega
    have hk2 : k < (linV g (S2.1 71 1) N) := hk1
    refine q_iload (pc := 104) (j := 8) rfl rfl ?_
    refine q_aload_n (pc := 106) (j := 0) rfl rfl ?_
    refine q_get (pc := 107) (a := 70) (v := .int (V.1 70 18)) rfl fl_X9_214 hm.1 rfl rfl ?_
    refine q_st (st2 := [.int (nI (linV g (S2.1 71 1) N)), .int (nI k)]) (by rw [(show (V.1 70 18) = _ from hV.2.2.1)]) ?_
    refine q_icmp_ge (pc := 110) 143 rfl (by decide) (fun h9 => absurd h9 (nI_ge hk1 (by omega))) (fun _ => ?_)
    refine q_iload (pc := 113) (j := 6) rfl rfl ?_
    refine q_if_eq (pc := 115) 143 rfl (by decide) (fun h9 => absurd h9 (by rw [hf2]; decide)) (fun _ => ?_)
    refine q_iload (pc := 118) (j := 7) rfl rfl ?_
    refine q_aload_n (pc := 120) (j := 0) rfl rfl ?_
    refine q_iload (pc := 121) (j := 8) rfl rfl ?_
    refine q_callVG (pc := 123) (as := [.int (nI k)]) (rest := [.int (nI (movN g (mG S2) (S2.1 71 1) N k))]) (b := 70) rfl ce_X9_isAsWas ml_X9_220 im_X9_isAsWas se_X9_isAsWas hm.1 rfl rfl rfl (by omega) (Nat.le_of_ble_eq_true rfl) (sp_X9_isAsWas (S := S2) (g := g) (k := k) hm hi2 hg hf hf2 hV hk1) (fun r9 S9 h9 => ?_)
    obtain ⟨hr9, hV9⟩ := h9
    subst hr9
    refine q_st (st2 := [.int (pB (!(othV g (mG S2) (S2.1 71 1) N k))), .int (nI (movN g (mG S2) (S2.1 71 1) N k))]) rfl ?_
    refine q_if_eq (pc := 126) 133 rfl (by decide) (fun h126 => ?_) (fun h126 => ?_)
    · refine q_iconst (pc := 133) 1 rfl (by decide) ?_
      refine q_iadd (pc := 134) rfl ?_
      refine q_istore (pc := 135) (j := 7) [some (.ref 70), some (.int (nI x)), some (.int step), some (.int dur), some (.int o4), some (.int o5), some (.int (pB (fouV (mG S2) (S2.1 71 1) N))), some (.int ((nI (movN g (mG S2) (S2.1 71 1) N k)) + 1)), some (.int (nI k))] rfl (by decide) rfl ?_
      refine q_iinc (pc := 137) (j := 8) (n := 1) (nI (k + 1)) [some (.ref 70), some (.int (nI x)), some (.int step), some (.int dur), some (.int o4), some (.int o5), some (.int (pB (fouV (mG S2) (S2.1 71 1) N))), some (.int ((nI (movN g (mG S2) (S2.1 71 1) N k)) + 1)), some (.int (nI (k + 1)))] rfl (by decide) rfl (nI_1 k) rfl ?_
      refine q_goto (pc := 140) 104 rfl (by decide) ?_
      exact q_L (by rw [movN, if_pos (show (othV g (mG S2) (S2.1 71 1) N k) = true by have h9 := pB_f h126; simpa using h9), nI_1]) (ih (k + 1) S9 (by omega) hV9)
    · refine q_iconst (pc := 129) 0 rfl (by decide) ?_
      refine q_goto (pc := 130) 134 rfl (by decide) ?_
      refine q_iadd (pc := 134) rfl ?_
      refine q_istore (pc := 135) (j := 7) [some (.ref 70), some (.int (nI x)), some (.int step), some (.int dur), some (.int o4), some (.int o5), some (.int (pB (fouV (mG S2) (S2.1 71 1) N))), some (.int ((nI (movN g (mG S2) (S2.1 71 1) N k)) + 0)), some (.int (nI k))] rfl (by decide) rfl ?_
      refine q_iinc (pc := 137) (j := 8) (n := 1) (nI (k + 1)) [some (.ref 70), some (.int (nI x)), some (.int step), some (.int dur), some (.int o4), some (.int o5), some (.int (pB (fouV (mG S2) (S2.1 71 1) N))), some (.int ((nI (movN g (mG S2) (S2.1 71 1) N k)) + 0)), some (.int (nI (k + 1)))] rfl (by decide) rfl (nI_1 k) rfl ?_
      refine q_goto (pc := 140) 104 rfl (by decide) ?_
      exact q_L (by rw [movN, if_neg (show ¬ (othV g (mG S2) (S2.1 71 1) N k) = true by have h9 := pB_t h126; simpa using h9), Int32.add_zero]) (ih (k + 1) S9 (by omega) hV9)
set_option maxRecDepth 100000 in
theorem sp_X9_moved {sh : List PSh} {S : PSt} {N : Nat} (hm : isMo sh) (hi : mIv S N) {c step dur : Int32} : pG mX9_moved 7 [.ref 70, .int c, .int step, .int dur] sh S (mA (oMoved (mG S) (movG (mG S) (tN c) step dur) (S.1 71 1) N c step dur) S S) := by
  obtain ⟨hN, hN2, hok, hw⟩ := id hi
  refine pG.of [some (.ref 70), some (.int c), some (.int step), some (.int dur), none, none, none, none, none] (by decide) tk_X9_moved (Nat.le_of_ble_eq_true rfl) rfl (fun X => ?_)
  refine q_aload_n (pc := 0) (j := 0) rfl rfl ?_
  refine q_iload_n (pc := 1) (j := 1) rfl rfl ?_
  refine q_callV (pc := 2) (as := [.int c]) (rest := []) (b := 70) (st2 := [.int (pB (isCoB N c))]) rfl ce_X9_isColumn ml_X9_120 im_X9_isColumn se_X9_isColumn hm.1 rfl rfl rfl (by decide) (Nat.le_of_ble_eq_true rfl) (sp_X9_isColumn hm hN hN2) rfl ?_
  refine q_if_eq (pc := 5) 28 rfl (by decide) (fun h5 => ?_) (fun h5 => ?_)
  · refine q_aload_n (pc := 28) (j := 0) rfl rfl ?_
    refine q_ldc (pc := 29) (v := (-2147483001)) rfl kc_X9_109 ?_
    refine q_callV (pc := 31) (as := [.int (-2147483001)]) (rest := []) (b := 70) (st2 := [.int (-2147483000 - nI 1)]) rfl ce_X9_errs ml_X9_110 im_X9_errs se_X9_errs hm.1 rfl rfl rfl (by decide) (Nat.le_of_ble_eq_true rfl) (sp_X9_errs (e := 1) hm (by decide) (by decide)) rfl ?_
    exact q_iret (pc := 34) rfl rfl (mA_no (k := 0) (by rw [oMoved, if_neg (show ¬ _ = true from by rw [pB_f h5]; decide)]) fm_rf)
  · refine q_iconst (pc := 8) 2 rfl (by decide) ?_
    refine q_iload_n (pc := 9) (j := 2) rfl rfl ?_
    refine q_callS (pc := 10) (as := [.int 2, .int step]) (rest := []) (st2 := [.int (pB (pAl 2 step))]) rfl ce_X9_mayBe ml_X9_105 st_X9_mayBe rfl (by decide) (Nat.le_of_ble_eq_true rfl) (sp_X9_mayBeL (x := 2) (by decide)) rfl ?_
    refine q_if_eq (pc := 13) 28 rfl (by decide) (fun h13 => ?_) (fun h13 => ?_)
    · refine q_aload_n (pc := 28) (j := 0) rfl rfl ?_
      refine q_ldc (pc := 29) (v := (-2147483001)) rfl kc_X9_109 ?_
      refine q_callV (pc := 31) (as := [.int (-2147483001)]) (rest := []) (b := 70) (st2 := [.int (-2147483000 - nI 1)]) rfl ce_X9_errs ml_X9_110 im_X9_errs se_X9_errs hm.1 rfl rfl rfl (by decide) (Nat.le_of_ble_eq_true rfl) (sp_X9_errs (e := 1) hm (by decide) (by decide)) rfl ?_
      exact q_iret (pc := 34) rfl rfl (mA_no (k := 0) (by rw [oMoved, if_pos (pB_t h5), if_neg (show ¬ _ = true from by rw [pB_f h13]; decide)]) fm_rf)
    · refine q_iload_n (pc := 16) (j := 3) rfl rfl ?_
      refine q_i2l (pc := 17) rfl ?_
      refine q_lconst (pc := 18) 0 rfl (by decide) ?_
      refine q_ldc2 (pc := 19) (v := 64) rfl kc_X9_91 ?_
      refine q_callS (pc := 22) (as := [.long (dur.toInt64), .long 0, .long 64]) (rest := []) (st2 := [.int (pB (pWi dur 0 64))]) rfl ce_X9_in ml_X9_85 st_X9_in rfl (by decide) (Nat.le_of_ble_eq_true rfl) (sp_X9_inW (v := dur) (l := 0) (m := 64) (Int32.toInt_toInt64 _) (by decide) (by decide)) rfl ?_
      refine q_if_ne (pc := 25) 35 rfl (by decide) (fun h25 => ?_) (fun h25 => ?_)
      · obtain ⟨x, rfl, hxN⟩ := isCo_of hN2 (pB_t h5); have hdu := dur_w.mp (pB_t h25)
        refine q_aload_n (pc := 35) (j := 0) rfl rfl ?_
        refine q_callVG (pc := 36) (as := []) (rest := []) (b := 70) rfl ce_X9_breaks ml_X9_208 im_X9_breaks se_X9_breaks hm.1 rfl rfl rfl (by decide) (Nat.le_of_ble_eq_true rfl) (sp_X9_breaks hm hi) (fun r9 S9 h9 => ?_)
        obtain ⟨hr9, hT⟩ := h9
        subst hr9
        refine q_st (st2 := [.int (pB (fouV (mG S) (S.1 71 1) N))]) rfl ?_
        refine q_if_ne (pc := 39) 49 rfl (by decide) (fun h39 => ?_) (fun h39 => ?_)
        · refine q_aload_n (pc := 49) (j := 0) rfl rfl ?_
          refine q_callVG (pc := 50) (as := []) (rest := []) (b := 70) rfl ce_X9_keepsLines ml_X9_217 im_X9_keepsLines se_X9_keepsLines hm.1 rfl rfl rfl (by decide) (Nat.le_of_ble_eq_true rfl) (sp_X9_keepsLines hm hi hT (pB_t h39)) (fun r9 U h9 => ?_)
          obtain ⟨hr9, hU⟩ := h9
          subst hr9
          refine q_st (st2 := []) rfl ?_
          refine q_aload_n (pc := 53) (j := 0) rfl rfl ?_
          refine q_iload_n (pc := 54) (j := 1) rfl rfl ?_
          refine q_iconst (pc := 55) 2 rfl (by decide) ?_
          refine q_callV (pc := 56) (as := [.int (nI x), .int 2]) (rest := []) (b := 70) (st2 := [.int (mG S (5 * x + 2))]) rfl ce_X9_its ml_X9_124 im_X9_its se_X9_its hm.1 rfl rfl rfl (by decide) (Nat.le_of_ble_eq_true rfl) (sp_X9_itsG (c := x) (i := 2) (g := (mG S)) (fm_mG hU.1) hm (by omega) (by omega)) rfl ?_
          refine q_istore (pc := 59) (j := 4) [some (.ref 70), some (.int (nI x)), some (.int step), some (.int dur), some (.int (mG S (5 * x + 2))), none, none, none, none] rfl (by decide) rfl ?_
          refine q_aload_n (pc := 61) (j := 0) rfl rfl ?_
          refine q_iload_n (pc := 62) (j := 1) rfl rfl ?_
          refine q_iconst (pc := 63) 1 rfl (by decide) ?_
          refine q_callV (pc := 64) (as := [.int (nI x), .int 1]) (rest := []) (b := 70) (st2 := [.int (mG S (5 * x + 1))]) rfl ce_X9_its ml_X9_124 im_X9_its se_X9_its hm.1 rfl rfl rfl (by decide) (Nat.le_of_ble_eq_true rfl) (sp_X9_itsG (c := x) (i := 1) (g := (mG S)) (fm_mG hU.1) hm (by omega) (by omega)) rfl ?_
          refine q_istore (pc := 67) (j := 5) [some (.ref 70), some (.int (nI x)), some (.int step), some (.int dur), some (.int (mG S (5 * x + 2))), some (.int (mG S (5 * x + 1))), none, none, none] rfl (by decide) rfl ?_
          refine q_aload_n (pc := 69) (j := 0) rfl rfl ?_
          refine q_iload_n (pc := 70) (j := 1) rfl rfl ?_
          refine q_iconst (pc := 71) 2 rfl (by decide) ?_
          refine q_iload_n (pc := 72) (j := 2) rfl rfl ?_
          refine q_callV (pc := 73) (as := [.int (nI x), .int 2, .int step]) (rest := []) (b := 70) (st2 := []) rfl ce_X9_sets ml_X9_101 im_X9_sets se_X9_sets hm.1 rfl rfl rfl (by decide) (Nat.le_of_ble_eq_true rfl) (sp_X9_sets (c := x) (i := 2) hm (by omega) (by omega)) rfl ?_
          refine q_aload_n (pc := 76) (j := 0) rfl rfl ?_
          refine q_iload_n (pc := 77) (j := 1) rfl rfl ?_
          refine q_iconst (pc := 78) 1 rfl (by decide) ?_
          refine q_iload_n (pc := 79) (j := 3) rfl rfl ?_
          refine q_join 89 [some (.ref 70), some (.int (nI x)), some (.int step), some (.int dur), some (.int (mG S (5 * x + 2))), some (.int (mG S (5 * x + 1))), none, none, none] [.int (if dur = 0 then mG S (5 * x + 1) else dur), .int 1, .int (nI x), .ref 70] (pSI U 71 (2 + (5 * x + 2)) step) ?_ (fun key80 => ?_)
          · refine q_callV (pc := 89) (as := [.int (nI x), .int 1, .int (if dur = 0 then mG S (5 * x + 1) else dur)]) (rest := []) (b := 70) (st2 := []) rfl ce_X9_sets ml_X9_101 im_X9_sets se_X9_sets hm.1 rfl rfl rfl (by decide) (Nat.le_of_ble_eq_true rfl) (sp_X9_sets (c := x) (i := 1) hm (by omega) (by omega)) rfl ?_
            refine q_S (S2 := (mvU U x step (if dur = 0 then mG S (5 * x + 1) else dur))) rfl ?_
            refine q_aload_n (pc := 92) (j := 0) rfl rfl ?_
            refine q_callVG (pc := 93) (as := []) (rest := []) (b := 70) rfl ce_X9_breaks ml_X9_208 im_X9_breaks se_X9_breaks hm.1 rfl rfl rfl (by decide) (Nat.le_of_ble_eq_true rfl) (sp_X9_breaks (S := (mvU U x step (if dur = 0 then mG S (5 * x + 1) else dur))) hm (mvU_iv hi hU.1 (pB_t h13) hdu)) (fun r9 V h9 => ?_)
            obtain ⟨hr9, hB⟩ := h9
            rw [mvU_g hU.1, show (mvU U x step (if dur = 0 then mG S (5 * x + 1) else dur)).1 71 1 = S.1 71 1 from (mvU_j (by omega) (by omega)).trans (fm_w hU.1)] at hr9
            subst hr9
            refine q_st (st2 := [.int (pB (fouV (movG (mG S) x step dur) (S.1 71 1) N))]) rfl ?_
            rcases Bool.eq_false_or_eq_true (fouV (movG (mG S) x step dur) (S.1 71 1) N) with hf2 | hf2
            · refine q_istore (pc := 96) (j := 6) [some (.ref 70), some (.int (nI x)), some (.int step), some (.int dur), some (.int (mG S (5 * x + 2))), some (.int (mG S (5 * x + 1))), some (.int (pB (fouV (movG (mG S) x step dur) (S.1 71 1) N))), none, none] rfl (by decide) rfl ?_
              refine q_iconst (pc := 98) 0 rfl (by decide) ?_
              refine q_istore (pc := 99) (j := 7) [some (.ref 70), some (.int (nI x)), some (.int step), some (.int dur), some (.int (mG S (5 * x + 2))), some (.int (mG S (5 * x + 1))), some (.int (pB (fouV (movG (mG S) x step dur) (S.1 71 1) N))), some (.int 0), none] rfl (by decide) rfl ?_
              refine q_iconst (pc := 101) 0 rfl (by decide) ?_
              refine q_istore (pc := 102) (j := 8) [some (.ref 70), some (.int (nI x)), some (.int step), some (.int dur), some (.int (mG S (5 * x + 2))), some (.int (mG S (5 * x + 1))), some (.int (pB (fouV (movG (mG S) x step dur) (S.1 71 1) N))), some (.int 0), some (.int 0)] rfl (by decide) rfl ?_
              have ew := (show (mvU U x step (if dur = 0 then mG S (5 * x + 1) else dur)).1 71 1 = S.1 71 1 from (mvU_j (by omega) (by omega)).trans (fm_w hU.1)); have eg := mvU_g (x := x) (step := step) (dur := dur) hU.1; refine q_L (L2 := [some (.ref 70), some (.int (nI x)), some (.int step), some (.int dur), some (.int (mG S (5 * x + 2))), some (.int (mG S (5 * x + 1))), some (.int (pB (fouV (mG (mvU U x step (if dur = 0 then mG S (5 * x + 1) else dur))) ((mvU U x step (if dur = 0 then mG S (5 * x + 1) else dur)).1 71 1) N))), some (.int (nI (movN (mG S) (mG (mvU U x step (if dur = 0 then mG S (5 * x + 1) else dur))) ((mvU U x step (if dur = 0 then mG S (5 * x + 1) else dur)).1 71 1) N 0))), some (.int (nI 0))]) (by rw [eg, ew]; rfl) (lp_X9_moved (S2 := (mvU U x step (if dur = 0 then mG S (5 * x + 1) else dur))) (g := mG S) (N := N) (by omega) hm (mvU_iv hi hU.1 (pB_t h13) hdu) hok (by rw [ew]; exact pB_t h39) (by rw [eg, ew]; exact hf2) (by rw [ew]; exact Nat.le_trans (lin_le hN2 (pB_t h39)) hN2) (fun i W hW => ?_) (linV (mG S) ((mvU U x step (if dur = 0 then mG S (5 * x + 1) else dur)).1 71 1) N) 0 V (Nat.zero_add _) (aR_mk hU hB (by rw [eg, ew]; exact hf2))); rw [eg, ew]
              refine q_aload_n (pc := 143) (j := 0) rfl rfl ?_
              refine q_iload_n (pc := 144) (j := 1) rfl rfl ?_
              refine q_iconst (pc := 145) 2 rfl (by decide) ?_
              refine q_iload (pc := 146) (j := 4) rfl rfl ?_
              refine q_callV (pc := 148) (as := [.int (nI x), .int 2, .int (mG S (5 * x + 2))]) (rest := []) (b := 70) (st2 := []) rfl ce_X9_sets ml_X9_101 im_X9_sets se_X9_sets hm.1 rfl rfl rfl (by decide) (Nat.le_of_ble_eq_true rfl) (sp_X9_sets (c := x) (i := 2) hm (by omega) (by omega)) rfl ?_
              refine q_aload_n (pc := 151) (j := 0) rfl rfl ?_
              refine q_iload_n (pc := 152) (j := 1) rfl rfl ?_
              refine q_iconst (pc := 153) 1 rfl (by decide) ?_
              refine q_iload (pc := 154) (j := 5) rfl rfl ?_
              refine q_callV (pc := 156) (as := [.int (nI x), .int 1, .int (mG S (5 * x + 1))]) (rest := []) (b := 70) (st2 := []) rfl ce_X9_sets ml_X9_101 im_X9_sets se_X9_sets hm.1 rfl rfl rfl (by decide) (Nat.le_of_ble_eq_true rfl) (sp_X9_sets (c := x) (i := 1) hm (by omega) (by omega)) rfl ?_
              refine q_iload (pc := 159) (j := 6) rfl rfl ?_
              refine q_if_eq (pc := 161) 169 rfl (by decide) (fun h9 => absurd h9 (by rw [hf2]; decide)) (fun _ => ?_)
              refine q_iload (pc := 164) (j := 7) rfl rfl ?_
              refine q_goto (pc := 166) 175 rfl (by decide) ?_
              exact q_iret (pc := 175) rfl rfl (mA_ok (by rw [oMoved, if_pos (pB_t h5), if_pos (pB_t h13), if_pos (dur_w.mp (pB_t h25)), tN_nI (show x < 2 ^ 31 by omega), if_pos ⟨pB_t h39, hf2⟩]) (fm_back hU.1 hW))
            · refine q_istore (pc := 96) (j := 6) [some (.ref 70), some (.int (nI x)), some (.int step), some (.int dur), some (.int (mG S (5 * x + 2))), some (.int (mG S (5 * x + 1))), some (.int (pB (fouV (movG (mG S) x step dur) (S.1 71 1) N))), none, none] rfl (by decide) rfl ?_
              refine q_iconst (pc := 98) 0 rfl (by decide) ?_
              refine q_istore (pc := 99) (j := 7) [some (.ref 70), some (.int (nI x)), some (.int step), some (.int dur), some (.int (mG S (5 * x + 2))), some (.int (mG S (5 * x + 1))), some (.int (pB (fouV (movG (mG S) x step dur) (S.1 71 1) N))), some (.int 0), none] rfl (by decide) rfl ?_
              refine q_iconst (pc := 101) 0 rfl (by decide) ?_
              refine q_istore (pc := 102) (j := 8) [some (.ref 70), some (.int (nI x)), some (.int step), some (.int dur), some (.int (mG S (5 * x + 2))), some (.int (mG S (5 * x + 1))), some (.int (pB (fouV (movG (mG S) x step dur) (S.1 71 1) N))), some (.int 0), some (.int 0)] rfl (by decide) rfl ?_
              refine q_iload (pc := 104) (j := 8) rfl rfl ?_
              refine q_aload_n (pc := 106) (j := 0) rfl rfl ?_
              refine q_get (pc := 107) (a := 70) (v := .int (V.1 70 18)) rfl fl_X9_214 hm.1 rfl rfl ?_
              refine q_icmp_ge (pc := 110) 143 rfl (by decide) (fun h110 => ?_) (fun h110 => ?_)
              · refine q_aload_n (pc := 143) (j := 0) rfl rfl ?_
                refine q_iload_n (pc := 144) (j := 1) rfl rfl ?_
                refine q_iconst (pc := 145) 2 rfl (by decide) ?_
                refine q_iload (pc := 146) (j := 4) rfl rfl ?_
                refine q_callV (pc := 148) (as := [.int (nI x), .int 2, .int (mG S (5 * x + 2))]) (rest := []) (b := 70) (st2 := []) rfl ce_X9_sets ml_X9_101 im_X9_sets se_X9_sets hm.1 rfl rfl rfl (by decide) (Nat.le_of_ble_eq_true rfl) (sp_X9_sets (c := x) (i := 2) hm (by omega) (by omega)) rfl ?_
                refine q_aload_n (pc := 151) (j := 0) rfl rfl ?_
                refine q_iload_n (pc := 152) (j := 1) rfl rfl ?_
                refine q_iconst (pc := 153) 1 rfl (by decide) ?_
                refine q_iload (pc := 154) (j := 5) rfl rfl ?_
                refine q_callV (pc := 156) (as := [.int (nI x), .int 1, .int (mG S (5 * x + 1))]) (rest := []) (b := 70) (st2 := []) rfl ce_X9_sets ml_X9_101 im_X9_sets se_X9_sets hm.1 rfl rfl rfl (by decide) (Nat.le_of_ble_eq_true rfl) (sp_X9_sets (c := x) (i := 1) hm (by omega) (by omega)) rfl ?_
                refine q_iload (pc := 159) (j := 6) rfl rfl ?_
                refine q_if_eq (pc := 161) 169 rfl (by decide) (fun _ => ?_) (fun h9 => absurd (by rw [hf2]; rfl) h9)
                refine q_aload_n (pc := 169) (j := 0) rfl rfl ?_
                refine q_ldc (pc := 170) (v := (-2147483002)) rfl kc_X9_119 ?_
                refine q_callV (pc := 172) (as := [.int (-2147483002)]) (rest := []) (b := 70) (st2 := [.int (-2147483000 - nI 2)]) rfl ce_X9_errs ml_X9_110 im_X9_errs se_X9_errs hm.1 rfl rfl rfl (by decide) (Nat.le_of_ble_eq_true rfl) (sp_X9_errs (e := 2) hm (by decide) (by decide)) rfl ?_
                exact q_iret (pc := 175) rfl rfl (mA_no (k := 1) (by rw [oMoved, if_pos (pB_t h5), if_pos (pB_t h13), if_pos (dur_w.mp (pB_t h25)), tN_nI (show x < 2 ^ 31 by omega), if_neg (fun q9 => by rw [hf2] at q9; exact absurd q9.2 (by decide))]) (fm_er (fm_back hU.1 hB.1.1)))
              · refine q_iload (pc := 113) (j := 6) rfl rfl ?_
                refine q_if_eq (pc := 115) 143 rfl (by decide) (fun _ => ?_) (fun h9 => absurd (by rw [hf2]; rfl) h9)
                refine q_aload_n (pc := 143) (j := 0) rfl rfl ?_
                refine q_iload_n (pc := 144) (j := 1) rfl rfl ?_
                refine q_iconst (pc := 145) 2 rfl (by decide) ?_
                refine q_iload (pc := 146) (j := 4) rfl rfl ?_
                refine q_callV (pc := 148) (as := [.int (nI x), .int 2, .int (mG S (5 * x + 2))]) (rest := []) (b := 70) (st2 := []) rfl ce_X9_sets ml_X9_101 im_X9_sets se_X9_sets hm.1 rfl rfl rfl (by decide) (Nat.le_of_ble_eq_true rfl) (sp_X9_sets (c := x) (i := 2) hm (by omega) (by omega)) rfl ?_
                refine q_aload_n (pc := 151) (j := 0) rfl rfl ?_
                refine q_iload_n (pc := 152) (j := 1) rfl rfl ?_
                refine q_iconst (pc := 153) 1 rfl (by decide) ?_
                refine q_iload (pc := 154) (j := 5) rfl rfl ?_
                refine q_callV (pc := 156) (as := [.int (nI x), .int 1, .int (mG S (5 * x + 1))]) (rest := []) (b := 70) (st2 := []) rfl ce_X9_sets ml_X9_101 im_X9_sets se_X9_sets hm.1 rfl rfl rfl (by decide) (Nat.le_of_ble_eq_true rfl) (sp_X9_sets (c := x) (i := 1) hm (by omega) (by omega)) rfl ?_
                refine q_iload (pc := 159) (j := 6) rfl rfl ?_
                refine q_if_eq (pc := 161) 169 rfl (by decide) (fun _ => ?_) (fun h9 => absurd (by rw [hf2]; rfl) h9)
                refine q_aload_n (pc := 169) (j := 0) rfl rfl ?_
                refine q_ldc (pc := 170) (v := (-2147483002)) rfl kc_X9_119 ?_
                refine q_callV (pc := 172) (as := [.int (-2147483002)]) (rest := []) (b := 70) (st2 := [.int (-2147483000 - nI 2)]) rfl ce_X9_errs ml_X9_110 im_X9_errs se_X9_errs hm.1 rfl rfl rfl (by decide) (Nat.le_of_ble_eq_true rfl) (sp_X9_errs (e := 2) hm (by decide) (by decide)) rfl ?_
                exact q_iret (pc := 175) rfl rfl (mA_no (k := 1) (by rw [oMoved, if_pos (pB_t h5), if_pos (pB_t h13), if_pos (dur_w.mp (pB_t h25)), tN_nI (show x < 2 ^ 31 by omega), if_neg (fun q9 => by rw [hf2] at q9; exact absurd q9.2 (by decide))]) (fm_er (fm_back hU.1 hB.1.1)))
          · refine q_if_ne (pc := 80) 88 rfl (by decide) (fun h80 => ?_) (fun h80 => ?_)
            · refine q_iload_n (pc := 88) (j := 3) rfl rfl ?_
              exact q_st (by rw [if_neg h80]) key80
            · refine q_iload (pc := 83) (j := 5) rfl rfl ?_
              refine q_goto (pc := 85) 89 rfl (by decide) ?_
              exact q_st (by rw [if_pos (show dur = 0 from h80)]) key80
        · refine q_aload_n (pc := 42) (j := 0) rfl rfl ?_
          refine q_ldc (pc := 43) (v := (-2147483002)) rfl kc_X9_119 ?_
          refine q_callV (pc := 45) (as := [.int (-2147483002)]) (rest := []) (b := 70) (st2 := [.int (-2147483000 - nI 2)]) rfl ce_X9_errs ml_X9_110 im_X9_errs se_X9_errs hm.1 rfl rfl rfl (by decide) (Nat.le_of_ble_eq_true rfl) (sp_X9_errs (e := 2) hm (by decide) (by decide)) rfl ?_
          exact q_iret (pc := 48) rfl rfl (mA_no (k := 1) (by rw [oMoved, if_pos (pB_t h5), if_pos (pB_t h13), if_pos (dur_w.mp (pB_t h25)), if_neg (fun q9 => by rw [pB_f h39] at q9; exact absurd q9.1 (by decide))]) (fm_er hT.1.1))
      · refine q_aload_n (pc := 28) (j := 0) rfl rfl ?_
        refine q_ldc (pc := 29) (v := (-2147483001)) rfl kc_X9_109 ?_
        refine q_callV (pc := 31) (as := [.int (-2147483001)]) (rest := []) (b := 70) (st2 := [.int (-2147483000 - nI 1)]) rfl ce_X9_errs ml_X9_110 im_X9_errs se_X9_errs hm.1 rfl rfl rfl (by decide) (Nat.le_of_ble_eq_true rfl) (sp_X9_errs (e := 1) hm (by decide) (by decide)) rfl ?_
        exact q_iret (pc := 34) rfl rfl (mA_no (k := 0) (by rw [oMoved, if_pos (pB_t h5), if_pos (pB_t h13), if_neg (fun q9 => by have h8 := dur_w.mpr q9; rw [pB_f h25] at h8; exact absurd h8 (by decide))]) fm_rf)
