/-! the model: the best lines: written by wip/whole/gen/c48.py -/
/-- contents but for scratch, the lines that were kept -/
def frW (S T : PSt) : Prop := frM S T ∧ T.1 84 = S.1 84 ∧ T.1 85 = S.1 85 ∧ T.2.1 86 = S.2.1 86 ∧ T.1 70 18 = S.1 70 18
theorem fw_rf {S : PSt} : frW S S := ⟨fm_rf, rfl, rfl, rfl, rfl⟩
theorem fw_tr {S T U : PSt} (h1 : frW S T) (h2 : frW T U) : frW S U := ⟨fm_tr h1.1 h2.1, h2.2.1.trans h1.2.1, h2.2.2.1.trans h1.2.2.1, h2.2.2.2.1.trans h1.2.2.2.1, h2.2.2.2.2.trans h1.2.2.2.2⟩
theorem fw_I {S : PSt} {k j : Nat} {v : Int32} (h : 74 ≤ k ∧ k ≤ 88 ∧ k ≠ 87 ∧ k ≠ 84 ∧ k ≠ 85) : frW S (pSI S k j v) := by
  have e : ∀ c, c ≠ k → (pSI S k j v).1 c = S.1 c := fun c hc => (pU_ne hc : pU S.1 k j v c = S.1 c)
  exact ⟨fm_I (by omega), e 84 (by omega), e 85 (by omega), rfl, by rw [e 70 (by omega)]⟩
theorem fw_I0 {S : PSt} {j : Nat} {v : Int32} (h : j ≠ 2 ∧ j ≠ 23 ∧ j ≠ 18) : frW S (pSI S 70 j v) := by
  have e : ∀ c, c ≠ 70 → (pSI S 70 j v).1 c = S.1 c := fun c hc => (pU_ne hc : pU S.1 70 j v c = S.1 c)
  exact ⟨fm_I0 (by omega), e 84 (by omega), e 85 (by omega), rfl, by simp [pSI, pU, h.2.2.symm]⟩
theorem fw_F {S : PSt} {k j : Nat} {v : UInt32} (h : 70 ≤ k ∧ k ≤ 88 ∧ k ≠ 87 ∧ k ≠ 86 ∧ (k = 70 ∨ 74 ≤ k)) : frW S (pSF S k j v) :=
  ⟨fm_F (by omega), rfl, rfl, (pU_ne (by omega) : pU S.2.1 k j v 86 = S.2.1 86), rfl⟩
theorem fw_ly {S : PSt} {x n : Nat} : frW S (lyM S x n) := by
  refine ⟨fm_ly, lyM_o (by decide) (by decide), lyM_o (by decide) (by decide), ?_, ?_⟩
  · funext j
    unfold lyM mLl mLh
    dsimp only
    rw [if_neg (by omega), if_neg (by omega), if_neg (by omega)]
  · show (mLh S x n (setV (mG S) (S.1 71 1) x n).1 (setV (mG S) (S.1 71 1) x n).2).1 70 18 = _
    unfold mLh
    dsimp only
    rw [if_neg (by omega), if_neg (by omega)]
/-- while the best is sought -/
def bR (S : PSt) (p : Nat) (B : PBt) (T : PSt) : Prop := frW S T ∧ (∀ j, 0 < j → j ≤ p → T.1 81 j = B.1 j) ∧ (∀ j, j ≤ p → B.1 j ≠ -1 → T.2.1 80 j = B.2 j) ∧ T.1 70 15 = 0
theorem rs_no1 {g : Nat → Int32} {w : Int32} {p k : Nat} {B : PBt} (h : B.1 k = -1) : rsV g w p B k = B := by rw [rsV, if_pos h]
theorem rs_no2 {g : Nat → Int32} {w : Int32} {p k : Nat} {B : PBt} (h : ¬ B.1 k = -1) (h2 : fitV g w k (p - k) = false) : rsV g w p B k = B := by rw [rsV, if_neg h, if_neg (by rw [h2]; decide)]
theorem rs_no3 {g : Nat → Int32} {w : Int32} {p k : Nat} {B : PBt} (h : ¬ B.1 k = -1) (h2 : fitV g w k (p - k) = true) (h3 : ¬ B.1 p = -1) (h4 : ¬ flt (FP.fadd (B.2 k) (badV g w k (p - k))) (B.2 p) = true) : rsV g w p B k = B := by
  rw [rsV, if_neg h, if_pos h2, if_neg (fun q => q.elim h3 h4)]
theorem rs_yes {g : Nat → Int32} {w : Int32} {p k : Nat} {B : PBt} (h : ¬ B.1 k = -1) (h2 : fitV g w k (p - k) = true) (h3 : B.1 p = -1 ∨ flt (FP.fadd (B.2 k) (badV g w k (p - k))) (B.2 p) = true) : rsV g w p B k = (fun j => if j = p then nI k else B.1 j, fun j => if j = p then FP.fadd (B.2 k) (badV g w k (p - k)) else B.2 j) := by
  rw [rsV, if_neg h, if_pos h2, if_pos h3]
theorem bR_9 {S T : PSt} {p : Nat} {B : PBt} {v : UInt32} (h : bR S p B T) : bR S p B (pSF T 70 9 v) := by
  obtain ⟨h1, h2, h3, h4⟩ := h
  exact ⟨fw_tr h1 (fw_F (by decide)), h2, fun j hj hb => (show pU T.2.1 70 9 v 80 j = B.2 j by rw [show pU T.2.1 70 9 v 80 = T.2.1 80 from pU_ne (by decide)]; exact h3 j hj hb), h4⟩
theorem bR_set {S T : PSt} {p k : Nat} {B : PBt} {v : UInt32} (h : bR S p B T) : bR S p (fun j => if j = p then nI k else B.1 j, fun j => if j = p then v else B.2 j) (pSI (pSF T 80 p v) 81 p (nI k)) := by
  obtain ⟨h1, h2, h3, h4⟩ := h
  refine ⟨fw_tr (fw_tr h1 (fw_F (by decide))) (fw_I (by decide)), fun j h0 hj => ?_, fun j hj hb => ?_, ?_⟩
  · show pU T.1 81 p (nI k) 81 j = if j = p then nI k else B.1 j
    unfold pU
    by_cases e : j = p
    · rw [if_pos ⟨rfl, e⟩, if_pos e]
    · rw [if_neg (fun q => e q.2), if_neg e]; exact h2 j h0 hj
  · show pU T.2.1 80 p v 80 j = if j = p then v else B.2 j
    have hb : (if j = p then nI k else B.1 j) ≠ -1 := hb
    unfold pU
    by_cases e : j = p
    · rw [if_pos ⟨rfl, e⟩, if_pos e]
    · rw [if_neg e] at hb
      rw [if_neg (fun q => e q.2), if_neg e]; exact h3 j hj hb
  · show pU T.1 81 p (nI k) 70 15 = 0
    rw [show pU T.1 81 p (nI k) 70 = T.1 70 from pU_ne (by decide)]
    exact h4
theorem bR_wb {S T : PSt} {q : Nat} {B : PBt} (h : bR S q B T) : bR S (q + 1) (wbV B (q + 1)) (pSI T 81 (q + 1) (-1)) := by
  obtain ⟨h1, h2, h3, h4⟩ := h
  refine ⟨fw_tr h1 (fw_I (by decide)), fun j h0 hj => ?_, fun j hj hb => ?_, ?_⟩
  · show pU T.1 81 (q + 1) (-1) 81 j = if j = q + 1 then -1 else B.1 j
    unfold pU
    by_cases e : j = q + 1
    · rw [if_pos ⟨rfl, e⟩, if_pos e]
    · rw [if_neg (fun q => e q.2), if_neg e]; exact h2 j h0 (by omega)
  · have hb : (if j = q + 1 then (-1 : Int32) else B.1 j) ≠ -1 := hb
    by_cases e : j = q + 1
    · rw [if_pos e] at hb; exact absurd rfl hb
    · rw [if_neg e] at hb
      exact h3 j (by omega) hb
  · show pU T.1 81 (q + 1) (-1) 70 15 = 0
    rw [show pU T.1 81 (q + 1) (-1) 70 = T.1 70 from pU_ne (by decide)]
    exact h4
theorem bk_neg {b : Nat → Int32} {n j : Nat} (hb : bkOk b n) (h0 : 0 < j) (hj : j ≤ n) (hn : n < 2 ^ 31) (h : b j < 0) : b j = -1 := by
  rcases hb.2 j h0 hj with e | ⟨f, h1, h2, _⟩
  · exact e
  · rw [h2] at h; exact absurd h (nI_pos (by omega))
theorem wbV_ok {B : PBt} {k : Nat} (h : bkOk B.1 k) : bkOk (wbV B (k + 1)).1 (k + 1) := by
  refine ⟨?_, fun j h0 hj => ?_⟩
  · show (if 0 = k + 1 then (-1 : Int32) else B.1 0) = 0
    rw [if_neg (by omega)]; exact h.1
  · show (if j = k + 1 then (-1 : Int32) else B.1 j) = -1 ∨ ∃ f, f < j ∧ (if j = k + 1 then (-1 : Int32) else B.1 j) = nI f ∧ (if f = k + 1 then (-1 : Int32) else B.1 f) ≠ -1
    by_cases e : j = k + 1
    · rw [if_pos e]; exact Or.inl rfl
    · rw [if_neg e]
      rcases h.2 j h0 (by omega) with h | ⟨f, a1, a2, a3⟩
      · exact Or.inl h
      · refine Or.inr ⟨f, a1, a2, ?_⟩
        rw [if_neg (by omega)]; exact a3
theorem n_pos {k : Nat} (h : ¬ nI k ≤ 0) : 0 < k := by
  rcases k with _ | k
  · exact absurd (Int32.le_refl 0) h
  · omega
theorem n_0 {k : Nat} (hk : k < 2 ^ 31) (h : nI k ≤ 0) : k = 0 := by
  rw [Int32.le_iff_toInt_le, nI_toInt hk] at h
  have : (0 : Int32).toInt = 0 := rfl
  omega
/-- what isGood leaves, told by the base -/
def bgT (S T : PSt) (x n : Nat) : PSt := if fitV (mG S) (S.1 71 1) x n = true then pSF T 70 9 (badV (mG S) (S.1 71 1) x n) else T
theorem bgT_n {S T : PSt} {x n : Nat} (h : fitV (mG S) (S.1 71 1) x n = false) : bgT S T x n = T := by rw [bgT, if_neg (by rw [h]; decide)]
theorem bgT_y {S T : PSt} {x n : Nat} (h : fitV (mG S) (S.1 71 1) x n = true) : bgT S T x n = pSF T 70 9 (badV (mG S) (S.1 71 1) x n) := by rw [bgT, if_pos h]
theorem sp_X9_isGoodT {sh : List PSh} {S T : PSt} {N x y n : Nat} (hm : isMo sh) (hi : mIv S N) (h : frM S T) (hn : x + n = y + 1) (hxy : x ≤ y) (hyN : y < N) : pF mX9_isGood 3 [.ref 70, .int (nI x), .int (nI y)] sh T (bgT S T x n) (some (.int (pB (fitV (mG S) (S.1 71 1) x n)))) := by
  have h9 := sp_X9_isGood hm (fm_iv h hi) hn hxy hyN
  have e : bgS T x n = bgT S T x n := by unfold bgS bgT; rw [fm_mG h, fm_w h]
  rw [e, fm_mG h, fm_w h] at h9
  exact h9
theorem sf_80 {T : PSt} {v : UInt32} : (pSF T 70 9 v).2.1 80 = T.2.1 80 := (pU_ne (by decide) : pU T.2.1 70 9 v 80 = T.2.1 80)
set_option maxRecDepth 100000 in
theorem sp_X9_isEnd {sh : List PSh} {S T : PSt} {N q : Nat} (hm : isMo sh) (hN : T.1 71 0 = nI N) (hg : mG T = mG S) (hq : q < N) (hN2 : N ≤ 32) : pF mX9_isEnd 1 [.ref 70, .int (nI (q + 1))] sh T T (some (.int (pB (isEnV (mG S) N (q + 1))))) := by
  refine pF.of (pG.of [some (.ref 70), some (.int (nI (q + 1)))] (by decide) tk_X9_isEnd (Nat.le_of_ble_eq_true rfl) rfl (fun X => ?_))
  refine q_iload_n (pc := 0) (j := 1) rfl rfl ?_
  refine q_aload_n (pc := 1) (j := 0) rfl rfl ?_
  refine q_get (pc := 2) (a := 70) (v := .ref 71) rfl fl_X9_9 hm.1 rfl rfl ?_
  refine q_iconst (pc := 5) 0 rfl (by decide) ?_
  refine q_iald (pc := 6) (a := 71) 0 rfl hm.2.1 (vp_in_nI (n := 0) (by decide) (by decide)) rfl ?_
  refine q_st (st2 := [.int (nI N), .int (nI (q + 1))]) (by rw [(show (T.1 71 0) = nI N from hN)]) ?_
  refine q_icmp_eq (pc := 7) 22 rfl (by decide) (fun h7 => ?_) (fun h7 => ?_)
  · refine q_iconst (pc := 22) 1 rfl (by decide) ?_
    refine q_goto (pc := 23) 27 rfl (by decide) ?_
    exact q_zret (pc := 27) rfl rfl rfl ⟨congrArg (fun v => some (Value.int v)) (by unfold isEnV; rw [show q + 1 - 1 = q from rfl]; first | (rw [decide_eq_true ((nI_eq (a := q + 1) (b := N) (by omega) (by omega)).mp h7)]; rfl) | (rw [decide_eq_false (fun q9 => h7 (by rw [q9])), decide_eq_true (show mG S (5 * q + 0) = 2 from h19)]; rfl) | (rw [decide_eq_false (fun q9 => h7 (by rw [q9])), decide_eq_false h19]; rfl)), rfl⟩
  · refine q_aload_n (pc := 10) (j := 0) rfl rfl ?_
    refine q_iload_n (pc := 11) (j := 1) rfl rfl ?_
    refine q_iconst (pc := 12) 1 rfl (by decide) ?_
    refine q_isub (pc := 13) rfl ?_
    refine q_st (st2 := [.int (nI q), .ref 70]) (by rw [nI_pred q]) ?_
    refine q_iconst (pc := 14) 0 rfl (by decide) ?_
    refine q_callV (pc := 15) (as := [.int (nI q), .int 0]) (rest := []) (b := 70) (st2 := [.int (mG S (5 * q + 0))]) rfl ce_X9_its ml_X9_124 im_X9_its se_X9_its hm.1 rfl rfl rfl (by decide) (Nat.le_of_ble_eq_true rfl) (sp_X9_itsG (c := q) (i := 0) (g := (mG S)) hg hm (by omega) (by omega)) rfl ?_
    refine q_iconst (pc := 18) 2 rfl (by decide) ?_
    refine q_icmp_ne (pc := 19) 26 rfl (by decide) (fun h19 => ?_) (fun h19 => ?_)
    · refine q_iconst (pc := 26) 0 rfl (by decide) ?_
      exact q_zret (pc := 27) rfl rfl rfl ⟨congrArg (fun v => some (Value.int v)) (by unfold isEnV; rw [show q + 1 - 1 = q from rfl]; first | (rw [decide_eq_true ((nI_eq (a := q + 1) (b := N) (by omega) (by omega)).mp h7)]; rfl) | (rw [decide_eq_false (fun q9 => h7 (by rw [q9])), decide_eq_true (show mG S (5 * q + 0) = 2 from h19)]; rfl) | (rw [decide_eq_false (fun q9 => h7 (by rw [q9])), decide_eq_false h19]; rfl)), rfl⟩
    · refine q_iconst (pc := 22) 1 rfl (by decide) ?_
      refine q_goto (pc := 23) 27 rfl (by decide) ?_
      exact q_zret (pc := 27) rfl rfl rfl ⟨congrArg (fun v => some (Value.int v)) (by unfold isEnV; rw [show q + 1 - 1 = q from rfl]; first | (rw [decide_eq_true ((nI_eq (a := q + 1) (b := N) (by omega) (by omega)).mp h7)]; rfl) | (rw [decide_eq_false (fun q9 => h7 (by rw [q9])), decide_eq_true (show mG S (5 * q + 0) = 2 from h19)]; rfl) | (rw [decide_eq_false (fun q9 => h7 (by rw [q9])), decide_eq_false h19]; rfl)), rfl⟩
set_option maxRecDepth 100000 in
theorem lp_X9_bestTo {n0 : Nat} {X : Nat × (Nat → Int32)} {P : Option Value → PSt → Prop} {d : Nat} (hd9 : 4 ≤ d) {sh : List PSh} {S : PSt} {N q : Nat} {B : PBt} (hm : isMo sh) (hi : mIv S N) (hN2 : N ≤ 32) (hok : okG (mG S) N) (hw : okWd (S.1 71 1)) (hq : q < N) (hbk : ∀ k, k ≤ q + 1 → bkOk (rcV (mG S) (S.1 71 1) (q + 1) B k).1 (q + 1)) (htt : ∀ k, k ≤ q + 1 → totOk (rcV (mG S) (S.1 71 1) (q + 1) B k) (q + 1))  (hex : ∀ i f3 T, bR S (q + 1) (rcV (mG S) (S.1 71 1) (q + 1) B (q + 1)) T → pV mX9_bestTo d n0 X sh P 102 [some (.ref 70), some (.int (nI (q + 1))), some (.int i), f3] [] T) : ∀ (m k : Nat) (f3 : Option Value) (T : PSt), k + m = (q + 1) → bR S (q + 1) (rcV (mG S) (S.1 71 1) (q + 1) B k) T → pV mX9_bestTo d n0 X sh P 18 [some (.ref 70), some (.int (nI (q + 1))), some (.int (nI k)), f3] [] T := by
  intro m
  induction m with
  | zero =>
    intro k f3 T hk hR
    have hk9 : (q + 1) = k := by omega
    subst hk9
    refine q_iload_n (pc := 18) (j := 2) rfl rfl ?_
    refine q_iload_n (pc := 19) (j := 1) rfl rfl ?_
    refine q_icmp_ge (pc := 20) 102 rfl (by decide) (fun _ => ?_) (fun h9 => absurd (Int32.le_refl _) h9)
    exact hex _ _ _ hR
  | succ m ih =>
    intro k f3 T hk hR
    have hk1 : k < (q + 1) := by omega
    have hk2 : k < (q + 1) := hk1
    refine q_iload_n (pc := 18) (j := 2) rfl rfl ?_
    refine q_iload_n (pc := 19) (j := 1) rfl rfl ?_
    refine q_icmp_ge (pc := 20) 102 rfl (by decide) (fun h9 => absurd h9 (nI_ge hk1 (by omega))) (fun _ => ?_)
    refine q_iload_n (pc := 23) (j := 2) rfl rfl ?_
    refine q_if_le (pc := 24) 36 rfl (by decide) (fun h24 => ?_) (fun h24 => ?_)
    · have hne : ¬ (rcV (mG S) (S.1 71 1) (q + 1) B k).1 k = -1 := (by have h0 := n_0 (by omega) h24; subst h0; rw [(hbk 0 (by omega)).1]; decide)
      refine q_aload_n (pc := 36) (j := 0) rfl rfl ?_
      refine q_iload_n (pc := 37) (j := 2) rfl rfl ?_
      refine q_iload_n (pc := 38) (j := 1) rfl rfl ?_
      refine q_iconst (pc := 39) 1 rfl (by decide) ?_
      refine q_isub (pc := 40) rfl ?_
      refine q_st (st2 := [.int (nI q), .int (nI k), .ref 70]) (by rw [nI_pred q]) ?_
      refine q_callV (pc := 41) (as := [.int (nI k), .int (nI q)]) (rest := []) (b := 70) (st2 := [.int (pB (fitV (mG S) (S.1 71 1) k (q + 1 - k)))]) rfl ce_X9_isGood ml_X9_186 im_X9_isGood se_X9_isGood hm.1 rfl rfl rfl (by omega) (Nat.le_of_ble_eq_true rfl) (sp_X9_isGoodT (S := S) (x := k) (y := q) (n := (q + 1 - k)) hm hi hR.1.1 (by omega) (by omega) (by omega)) rfl ?_
      refine q_if_ne (pc := 44) 50 rfl (by decide) (fun h44 => ?_) (fun h44 => ?_)
      · refine q_S (show bgT S T k (q + 1 - k) = (pSF T 70 9 (badV (mG S) (S.1 71 1) k (q + 1 - k))) from bgT_y (pB_t h44)) ?_
        refine q_aload_n (pc := 50) (j := 0) rfl rfl ?_
        refine q_get (pc := 51) (a := 70) (v := .ref 80) rfl fl_X9_39 hm.1 rfl rfl ?_
        refine q_iload_n (pc := 54) (j := 2) rfl rfl ?_
        refine q_fald (pc := 55) (a := 80) k rfl hm.2.2.2.2.2.2.2.2.2.2.1 (vp_in_nI (by omega) (by decide)) (nI_clamp (by omega)) ?_
        refine q_st (st2 := [.float ((rcV (mG S) (S.1 71 1) (q + 1) B k).2 k)]) (by rw [(show ((pSF T 70 9 (badV (mG S) (S.1 71 1) k (q + 1 - k))).2.1 80 k) = (rcV (mG S) (S.1 71 1) (q + 1) B k).2 k from (congrFun sf_80 k).trans (hR.2.2.1 k (by omega) hne))]) ?_
        refine q_aload_n (pc := 56) (j := 0) rfl rfl ?_
        refine q_get (pc := 57) (a := 70) (v := .float ((pSF T 70 9 (badV (mG S) (S.1 71 1) k (q + 1 - k))).2.1 70 9)) rfl fl_X9_183 hm.1 rfl rfl ?_
        refine q_st (st2 := [.float (badV (mG S) (S.1 71 1) k (q + 1 - k)), .float ((rcV (mG S) (S.1 71 1) (q + 1) B k).2 k)]) (by rw [rd_bad]) ?_
        refine q_fadd (pc := 60) rfl (fF_nn (add_okT (htt k (by omega) k (by omega) hne) (badV_ok hok hw (by omega) (by omega)) (by omega)).1.1) ?_
        refine q_fstore_n (pc := 61) (j := 3) [some (.ref 70), some (.int (nI (q + 1))), some (.int (nI k)), some (.float (FP.fadd ((rcV (mG S) (S.1 71 1) (q + 1) B k).2 k) (badV (mG S) (S.1 71 1) k (q + 1 - k))))] rfl (by decide) rfl ?_
        refine q_aload_n (pc := 62) (j := 0) rfl rfl ?_
        refine q_get (pc := 63) (a := 70) (v := .ref 81) rfl fl_X9_42 hm.1 rfl rfl ?_
        refine q_iload_n (pc := 66) (j := 1) rfl rfl ?_
        refine q_iald (pc := 67) (a := 81) (q + 1) rfl hm.2.2.2.2.2.2.2.2.2.2.2.1 (vp_in_nI (by omega) (by decide)) (nI_clamp (by omega)) ?_
        refine q_st (st2 := [.int ((rcV (mG S) (S.1 71 1) (q + 1) B k).1 (q + 1))]) (by rw [(show ((pSF T 70 9 (badV (mG S) (S.1 71 1) k (q + 1 - k))).1 81 (q + 1)) = _ from hR.2.1 (q + 1) (by omega) (Nat.le_refl _))]) ?_
        refine q_if_lt (pc := 68) 82 rfl (by decide) (fun h68 => ?_) (fun h68 => ?_)
        · refine q_aload_n (pc := 82) (j := 0) rfl rfl ?_
          refine q_get (pc := 83) (a := 70) (v := .ref 80) rfl fl_X9_39 hm.1 rfl rfl ?_
          refine q_iload_n (pc := 86) (j := 1) rfl rfl ?_
          refine q_fload_n (pc := 87) (j := 3) rfl rfl ?_
          refine q_fast (pc := 88) (a := 80) (q + 1) rfl hm.2.2.2.2.2.2.2.2.2.2.1 (vp_in_nI (by omega) (by decide)) (nI_clamp (by omega)) ?_
          refine q_aload_n (pc := 89) (j := 0) rfl rfl ?_
          refine q_get (pc := 90) (a := 70) (v := .ref 81) rfl fl_X9_42 hm.1 rfl rfl ?_
          refine q_iload_n (pc := 93) (j := 1) rfl rfl ?_
          refine q_iload_n (pc := 94) (j := 2) rfl rfl ?_
          refine q_iast (pc := 95) (a := 81) (q + 1) rfl hm.2.2.2.2.2.2.2.2.2.2.2.1 (vp_in_nI (by omega) (by decide)) (nI_clamp (by omega)) ?_
          refine q_iinc (pc := 96) (j := 2) (n := 1) (nI (k + 1)) [some (.ref 70), some (.int (nI (q + 1))), some (.int (nI (k + 1))), some (.float (FP.fadd ((rcV (mG S) (S.1 71 1) (q + 1) B k).2 k) (badV (mG S) (S.1 71 1) k (q + 1 - k))))] rfl (by decide) rfl (nI_1 k) rfl ?_
          refine q_goto (pc := 99) 18 rfl (by decide) ?_
          exact ih (k + 1) _ _ (by omega) (by rw [show (rcV (mG S) (S.1 71 1) (q + 1) B (k + 1)) = _ from rs_yes hne (pB_t h44) (Or.inl (bk_neg (hbk k (by omega)) (by omega) (Nat.le_refl _) (by omega) h68))]; exact (bR_set (bR_9 hR)))
        · refine q_fload_n (pc := 71) (j := 3) rfl rfl ?_
          refine q_aload_n (pc := 72) (j := 0) rfl rfl ?_
          refine q_get (pc := 73) (a := 70) (v := .ref 80) rfl fl_X9_39 hm.1 rfl rfl ?_
          refine q_iload_n (pc := 76) (j := 1) rfl rfl ?_
          refine q_fald (pc := 77) (a := 80) (q + 1) rfl hm.2.2.2.2.2.2.2.2.2.2.1 (vp_in_nI (by omega) (by decide)) (nI_clamp (by omega)) ?_
          refine q_st (st2 := [.float ((rcV (mG S) (S.1 71 1) (q + 1) B k).2 (q + 1)), .float (FP.fadd ((rcV (mG S) (S.1 71 1) (q + 1) B k).2 k) (badV (mG S) (S.1 71 1) k (q + 1 - k)))]) (by rw [(show ((pSF T 70 9 (badV (mG S) (S.1 71 1) k (q + 1 - k))).2.1 80 (q + 1)) = (rcV (mG S) (S.1 71 1) (q + 1) B k).2 (q + 1) from (congrFun sf_80 (q + 1)).trans (hR.2.2.1 (q + 1) (Nat.le_refl _) (fun q9 => h68 (by rw [q9]; decide))))]) ?_
          refine q_fcmp (pc := 78) (op := .g) rfl ?_
          refine q_if_ge (pc := 79) 96 rfl (by decide) (fun h79 => ?_) (fun h79 => ?_)
          · refine q_iinc (pc := 96) (j := 2) (n := 1) (nI (k + 1)) [some (.ref 70), some (.int (nI (q + 1))), some (.int (nI (k + 1))), some (.float (FP.fadd ((rcV (mG S) (S.1 71 1) (q + 1) B k).2 k) (badV (mG S) (S.1 71 1) k (q + 1 - k))))] rfl (by decide) rfl (nI_1 k) rfl ?_
            refine q_goto (pc := 99) 18 rfl (by decide) ?_
            exact ih (k + 1) _ _ (by omega) (by rw [show (rcV (mG S) (S.1 71 1) (q + 1) B (k + 1)) = _ from rs_no3 hne (pB_t h44) (fun q9 => h68 (by rw [q9]; decide)) (fun q9 => absurd (of_decide_eq_true q9) (Int32.not_lt.mpr h79))]; exact (bR_9 hR))
          · refine q_aload_n (pc := 82) (j := 0) rfl rfl ?_
            refine q_get (pc := 83) (a := 70) (v := .ref 80) rfl fl_X9_39 hm.1 rfl rfl ?_
            refine q_iload_n (pc := 86) (j := 1) rfl rfl ?_
            refine q_fload_n (pc := 87) (j := 3) rfl rfl ?_
            refine q_fast (pc := 88) (a := 80) (q + 1) rfl hm.2.2.2.2.2.2.2.2.2.2.1 (vp_in_nI (by omega) (by decide)) (nI_clamp (by omega)) ?_
            refine q_aload_n (pc := 89) (j := 0) rfl rfl ?_
            refine q_get (pc := 90) (a := 70) (v := .ref 81) rfl fl_X9_42 hm.1 rfl rfl ?_
            refine q_iload_n (pc := 93) (j := 1) rfl rfl ?_
            refine q_iload_n (pc := 94) (j := 2) rfl rfl ?_
            refine q_iast (pc := 95) (a := 81) (q + 1) rfl hm.2.2.2.2.2.2.2.2.2.2.2.1 (vp_in_nI (by omega) (by decide)) (nI_clamp (by omega)) ?_
            refine q_iinc (pc := 96) (j := 2) (n := 1) (nI (k + 1)) [some (.ref 70), some (.int (nI (q + 1))), some (.int (nI (k + 1))), some (.float (FP.fadd ((rcV (mG S) (S.1 71 1) (q + 1) B k).2 k) (badV (mG S) (S.1 71 1) k (q + 1 - k))))] rfl (by decide) rfl (nI_1 k) rfl ?_
            refine q_goto (pc := 99) 18 rfl (by decide) ?_
            exact ih (k + 1) _ _ (by omega) (by rw [show (rcV (mG S) (S.1 71 1) (q + 1) B (k + 1)) = _ from rs_yes hne (pB_t h44) (Or.inr (show flt _ _ = true from decide_eq_true (Int32.not_le.mp h79)))]; exact (bR_set (bR_9 hR)))
      · refine q_goto (pc := 47) 96 rfl (by decide) ?_
        refine q_iinc (pc := 96) (j := 2) (n := 1) (nI (k + 1)) [some (.ref 70), some (.int (nI (q + 1))), some (.int (nI (k + 1))), f3] rfl (by decide) rfl (nI_1 k) rfl ?_
        refine q_goto (pc := 99) 18 rfl (by decide) ?_
        exact ih (k + 1) _ _ (by omega) (by rw [bgT_n (pB_f h44), show (rcV (mG S) (S.1 71 1) (q + 1) B (k + 1)) = _ from rs_no2 hne (pB_f h44)]; exact hR)
    · refine q_aload_n (pc := 27) (j := 0) rfl rfl ?_
      refine q_get (pc := 28) (a := 70) (v := .ref 81) rfl fl_X9_42 hm.1 rfl rfl ?_
      refine q_iload_n (pc := 31) (j := 2) rfl rfl ?_
      refine q_iald (pc := 32) (a := 81) k rfl hm.2.2.2.2.2.2.2.2.2.2.2.1 (vp_in_nI (by omega) (by decide)) (nI_clamp (by omega)) ?_
      refine q_st (st2 := [.int ((rcV (mG S) (S.1 71 1) (q + 1) B k).1 k)]) (by rw [(show (T.1 81 k) = _ from hR.2.1 k (n_pos h24) (by omega))]) ?_
      refine q_if_lt (pc := 33) 96 rfl (by decide) (fun h33 => ?_) (fun h33 => ?_)
      · refine q_iinc (pc := 96) (j := 2) (n := 1) (nI (k + 1)) [some (.ref 70), some (.int (nI (q + 1))), some (.int (nI (k + 1))), f3] rfl (by decide) rfl (nI_1 k) rfl ?_
        refine q_goto (pc := 99) 18 rfl (by decide) ?_
        exact ih (k + 1) _ _ (by omega) (by rw [show (rcV (mG S) (S.1 71 1) (q + 1) B (k + 1)) = _ from rs_no1 (bk_neg (hbk k (by omega)) (n_pos h24) (by omega) (by omega) h33)]; exact hR)
      · have hne : ¬ (rcV (mG S) (S.1 71 1) (q + 1) B k).1 k = -1 := fun q9 => h33 (by rw [q9]; decide)
        refine q_aload_n (pc := 36) (j := 0) rfl rfl ?_
        refine q_iload_n (pc := 37) (j := 2) rfl rfl ?_
        refine q_iload_n (pc := 38) (j := 1) rfl rfl ?_
        refine q_iconst (pc := 39) 1 rfl (by decide) ?_
        refine q_isub (pc := 40) rfl ?_
        refine q_st (st2 := [.int (nI q), .int (nI k), .ref 70]) (by rw [nI_pred q]) ?_
        refine q_callV (pc := 41) (as := [.int (nI k), .int (nI q)]) (rest := []) (b := 70) (st2 := [.int (pB (fitV (mG S) (S.1 71 1) k (q + 1 - k)))]) rfl ce_X9_isGood ml_X9_186 im_X9_isGood se_X9_isGood hm.1 rfl rfl rfl (by omega) (Nat.le_of_ble_eq_true rfl) (sp_X9_isGoodT (S := S) (x := k) (y := q) (n := (q + 1 - k)) hm hi hR.1.1 (by omega) (by omega) (by omega)) rfl ?_
        refine q_if_ne (pc := 44) 50 rfl (by decide) (fun h44 => ?_) (fun h44 => ?_)
        · refine q_S (show bgT S T k (q + 1 - k) = (pSF T 70 9 (badV (mG S) (S.1 71 1) k (q + 1 - k))) from bgT_y (pB_t h44)) ?_
          refine q_aload_n (pc := 50) (j := 0) rfl rfl ?_
          refine q_get (pc := 51) (a := 70) (v := .ref 80) rfl fl_X9_39 hm.1 rfl rfl ?_
          refine q_iload_n (pc := 54) (j := 2) rfl rfl ?_
          refine q_fald (pc := 55) (a := 80) k rfl hm.2.2.2.2.2.2.2.2.2.2.1 (vp_in_nI (by omega) (by decide)) (nI_clamp (by omega)) ?_
          refine q_st (st2 := [.float ((rcV (mG S) (S.1 71 1) (q + 1) B k).2 k)]) (by rw [(show ((pSF T 70 9 (badV (mG S) (S.1 71 1) k (q + 1 - k))).2.1 80 k) = (rcV (mG S) (S.1 71 1) (q + 1) B k).2 k from (congrFun sf_80 k).trans (hR.2.2.1 k (by omega) hne))]) ?_
          refine q_aload_n (pc := 56) (j := 0) rfl rfl ?_
          refine q_get (pc := 57) (a := 70) (v := .float ((pSF T 70 9 (badV (mG S) (S.1 71 1) k (q + 1 - k))).2.1 70 9)) rfl fl_X9_183 hm.1 rfl rfl ?_
          refine q_st (st2 := [.float (badV (mG S) (S.1 71 1) k (q + 1 - k)), .float ((rcV (mG S) (S.1 71 1) (q + 1) B k).2 k)]) (by rw [rd_bad]) ?_
          refine q_fadd (pc := 60) rfl (fF_nn (add_okT (htt k (by omega) k (by omega) hne) (badV_ok hok hw (by omega) (by omega)) (by omega)).1.1) ?_
          refine q_fstore_n (pc := 61) (j := 3) [some (.ref 70), some (.int (nI (q + 1))), some (.int (nI k)), some (.float (FP.fadd ((rcV (mG S) (S.1 71 1) (q + 1) B k).2 k) (badV (mG S) (S.1 71 1) k (q + 1 - k))))] rfl (by decide) rfl ?_
          refine q_aload_n (pc := 62) (j := 0) rfl rfl ?_
          refine q_get (pc := 63) (a := 70) (v := .ref 81) rfl fl_X9_42 hm.1 rfl rfl ?_
          refine q_iload_n (pc := 66) (j := 1) rfl rfl ?_
          refine q_iald (pc := 67) (a := 81) (q + 1) rfl hm.2.2.2.2.2.2.2.2.2.2.2.1 (vp_in_nI (by omega) (by decide)) (nI_clamp (by omega)) ?_
          refine q_st (st2 := [.int ((rcV (mG S) (S.1 71 1) (q + 1) B k).1 (q + 1))]) (by rw [(show ((pSF T 70 9 (badV (mG S) (S.1 71 1) k (q + 1 - k))).1 81 (q + 1)) = _ from hR.2.1 (q + 1) (by omega) (Nat.le_refl _))]) ?_
          refine q_if_lt (pc := 68) 82 rfl (by decide) (fun h68 => ?_) (fun h68 => ?_)
          · refine q_aload_n (pc := 82) (j := 0) rfl rfl ?_
            refine q_get (pc := 83) (a := 70) (v := .ref 80) rfl fl_X9_39 hm.1 rfl rfl ?_
            refine q_iload_n (pc := 86) (j := 1) rfl rfl ?_
            refine q_fload_n (pc := 87) (j := 3) rfl rfl ?_
            refine q_fast (pc := 88) (a := 80) (q + 1) rfl hm.2.2.2.2.2.2.2.2.2.2.1 (vp_in_nI (by omega) (by decide)) (nI_clamp (by omega)) ?_
            refine q_aload_n (pc := 89) (j := 0) rfl rfl ?_
            refine q_get (pc := 90) (a := 70) (v := .ref 81) rfl fl_X9_42 hm.1 rfl rfl ?_
            refine q_iload_n (pc := 93) (j := 1) rfl rfl ?_
            refine q_iload_n (pc := 94) (j := 2) rfl rfl ?_
            refine q_iast (pc := 95) (a := 81) (q + 1) rfl hm.2.2.2.2.2.2.2.2.2.2.2.1 (vp_in_nI (by omega) (by decide)) (nI_clamp (by omega)) ?_
            refine q_iinc (pc := 96) (j := 2) (n := 1) (nI (k + 1)) [some (.ref 70), some (.int (nI (q + 1))), some (.int (nI (k + 1))), some (.float (FP.fadd ((rcV (mG S) (S.1 71 1) (q + 1) B k).2 k) (badV (mG S) (S.1 71 1) k (q + 1 - k))))] rfl (by decide) rfl (nI_1 k) rfl ?_
            refine q_goto (pc := 99) 18 rfl (by decide) ?_
            exact ih (k + 1) _ _ (by omega) (by rw [show (rcV (mG S) (S.1 71 1) (q + 1) B (k + 1)) = _ from rs_yes hne (pB_t h44) (Or.inl (bk_neg (hbk k (by omega)) (by omega) (Nat.le_refl _) (by omega) h68))]; exact (bR_set (bR_9 hR)))
          · refine q_fload_n (pc := 71) (j := 3) rfl rfl ?_
            refine q_aload_n (pc := 72) (j := 0) rfl rfl ?_
            refine q_get (pc := 73) (a := 70) (v := .ref 80) rfl fl_X9_39 hm.1 rfl rfl ?_
            refine q_iload_n (pc := 76) (j := 1) rfl rfl ?_
            refine q_fald (pc := 77) (a := 80) (q + 1) rfl hm.2.2.2.2.2.2.2.2.2.2.1 (vp_in_nI (by omega) (by decide)) (nI_clamp (by omega)) ?_
            refine q_st (st2 := [.float ((rcV (mG S) (S.1 71 1) (q + 1) B k).2 (q + 1)), .float (FP.fadd ((rcV (mG S) (S.1 71 1) (q + 1) B k).2 k) (badV (mG S) (S.1 71 1) k (q + 1 - k)))]) (by rw [(show ((pSF T 70 9 (badV (mG S) (S.1 71 1) k (q + 1 - k))).2.1 80 (q + 1)) = (rcV (mG S) (S.1 71 1) (q + 1) B k).2 (q + 1) from (congrFun sf_80 (q + 1)).trans (hR.2.2.1 (q + 1) (Nat.le_refl _) (fun q9 => h68 (by rw [q9]; decide))))]) ?_
            refine q_fcmp (pc := 78) (op := .g) rfl ?_
            refine q_if_ge (pc := 79) 96 rfl (by decide) (fun h79 => ?_) (fun h79 => ?_)
            · refine q_iinc (pc := 96) (j := 2) (n := 1) (nI (k + 1)) [some (.ref 70), some (.int (nI (q + 1))), some (.int (nI (k + 1))), some (.float (FP.fadd ((rcV (mG S) (S.1 71 1) (q + 1) B k).2 k) (badV (mG S) (S.1 71 1) k (q + 1 - k))))] rfl (by decide) rfl (nI_1 k) rfl ?_
              refine q_goto (pc := 99) 18 rfl (by decide) ?_
              exact ih (k + 1) _ _ (by omega) (by rw [show (rcV (mG S) (S.1 71 1) (q + 1) B (k + 1)) = _ from rs_no3 hne (pB_t h44) (fun q9 => h68 (by rw [q9]; decide)) (fun q9 => absurd (of_decide_eq_true q9) (Int32.not_lt.mpr h79))]; exact (bR_9 hR))
            · refine q_aload_n (pc := 82) (j := 0) rfl rfl ?_
              refine q_get (pc := 83) (a := 70) (v := .ref 80) rfl fl_X9_39 hm.1 rfl rfl ?_
              refine q_iload_n (pc := 86) (j := 1) rfl rfl ?_
              refine q_fload_n (pc := 87) (j := 3) rfl rfl ?_
              refine q_fast (pc := 88) (a := 80) (q + 1) rfl hm.2.2.2.2.2.2.2.2.2.2.1 (vp_in_nI (by omega) (by decide)) (nI_clamp (by omega)) ?_
              refine q_aload_n (pc := 89) (j := 0) rfl rfl ?_
              refine q_get (pc := 90) (a := 70) (v := .ref 81) rfl fl_X9_42 hm.1 rfl rfl ?_
              refine q_iload_n (pc := 93) (j := 1) rfl rfl ?_
              refine q_iload_n (pc := 94) (j := 2) rfl rfl ?_
              refine q_iast (pc := 95) (a := 81) (q + 1) rfl hm.2.2.2.2.2.2.2.2.2.2.2.1 (vp_in_nI (by omega) (by decide)) (nI_clamp (by omega)) ?_
              refine q_iinc (pc := 96) (j := 2) (n := 1) (nI (k + 1)) [some (.ref 70), some (.int (nI (q + 1))), some (.int (nI (k + 1))), some (.float (FP.fadd ((rcV (mG S) (S.1 71 1) (q + 1) B k).2 k) (badV (mG S) (S.1 71 1) k (q + 1 - k))))] rfl (by decide) rfl (nI_1 k) rfl ?_
              refine q_goto (pc := 99) 18 rfl (by decide) ?_
              exact ih (k + 1) _ _ (by omega) (by rw [show (rcV (mG S) (S.1 71 1) (q + 1) B (k + 1)) = _ from rs_yes hne (pB_t h44) (Or.inr (show flt _ _ = true from decide_eq_true (Int32.not_le.mp h79)))]; exact (bR_set (bR_9 hR)))
        · refine q_goto (pc := 47) 96 rfl (by decide) ?_
          refine q_iinc (pc := 96) (j := 2) (n := 1) (nI (k + 1)) [some (.ref 70), some (.int (nI (q + 1))), some (.int (nI (k + 1))), f3] rfl (by decide) rfl (nI_1 k) rfl ?_
          refine q_goto (pc := 99) 18 rfl (by decide) ?_
          exact ih (k + 1) _ _ (by omega) (by rw [bgT_n (pB_f h44), show (rcV (mG S) (S.1 71 1) (q + 1) B (k + 1)) = _ from rs_no2 hne (pB_f h44)]; exact hR)
set_option maxRecDepth 100000 in
theorem sp_X9_bestTo {sh : List PSh} {S T : PSt} {N q : Nat} (hm : isMo sh) (hi : mIv S N) (hq : q < N) (hR : bR S q (fdV (mG S) (S.1 71 1) N q) T) : pG mX9_bestTo 4 [.ref 70, .int (nI (q + 1))] sh T (fun r9 T9 => r9 = none ∧ bR S (q + 1) (fdV (mG S) (S.1 71 1) N (q + 1)) T9) := by
  obtain ⟨hN, hN2, hok, hw⟩ := id hi
  refine pG.of [some (.ref 70), some (.int (nI (q + 1))), none, none] (by decide) tk_X9_bestTo (Nat.le_of_ble_eq_true rfl) rfl (fun X => ?_)
  refine q_aload_n (pc := 0) (j := 0) rfl rfl ?_
  refine q_get (pc := 1) (a := 70) (v := .ref 81) rfl fl_X9_42 hm.1 rfl rfl ?_
  refine q_iload_n (pc := 4) (j := 1) rfl rfl ?_
  refine q_iconst (pc := 5) (-1) rfl (by decide) ?_
  refine q_iast (pc := 6) (a := 81) (q + 1) rfl hm.2.2.2.2.2.2.2.2.2.2.2.1 (vp_in_nI (by omega) (by decide)) (nI_clamp (by omega)) ?_
  have hR1 := bR_wb hR; generalize pSI T 81 (q + 1) (-1) = T1 at hR1 ⊢
  refine q_aload_n (pc := 7) (j := 0) rfl rfl ?_
  refine q_iload_n (pc := 8) (j := 1) rfl rfl ?_
  refine q_callV (pc := 9) (as := [.int (nI (q + 1))]) (rest := []) (b := 70) (st2 := [.int (pB (isEnV (mG S) N (q + 1)))]) rfl ce_X9_isEnd ml_X9_198 im_X9_isEnd se_X9_isEnd hm.1 rfl rfl rfl (by decide) (Nat.le_of_ble_eq_true rfl) (sp_X9_isEnd (S := S) (q := q) hm ((fm_w hR1.1.1).trans hN) (fm_mG hR1.1.1) (by omega) hN2) rfl ?_
  refine q_if_ne (pc := 12) 16 rfl (by decide) (fun h12 => ?_) (fun h12 => ?_)
  · refine q_iconst (pc := 16) 0 rfl (by decide) ?_
    refine q_istore_n (pc := 17) (j := 2) [some (.ref 70), some (.int (nI (q + 1))), some (.int 0), none] rfl (by decide) rfl ?_
    refine lp_X9_bestTo (B := (wbV (fdV (mG S) (S.1 71 1) N q) (q + 1))) (by decide) hm hi hN2 hok hw hq (fun k hk => rcV_ok (by omega) (wbV_ok (fdV_ok (by omega) q (by omega))) k hk) (fun k hk => rcV_tot hok hw (by omega) hN2 (wbV_tot (fdV_tot hok hw hN2 q (by omega))) k hk) (fun i f3 S9 hS9 => ?_) (q + 1) 0 none T1 (Nat.zero_add _) hR1
    exact q_vret (pc := 102) rfl rfl ⟨rfl, (by rw [fdV, if_pos (pB_t h12)]; exact hS9)⟩
  · exact q_vret (pc := 15) rfl rfl ⟨rfl, (by rw [fdV, if_neg (by rw [pB_f h12]; decide)]; exact hR1)⟩
