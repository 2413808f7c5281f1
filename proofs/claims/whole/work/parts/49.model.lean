/-! the model: breaks, lines, total, line: written by wip/whole/gen/c49.py -/
/-- what breaks leaves -/
def brR (S : PSt) (N : Nat) (T : PSt) : Prop := frW S T ∧ (fouV (mG S) (S.1 71 1) N = true → T.1 70 15 = nI (linV (mG S) (S.1 71 1) N) ∧ T.2.1 80 N = totV (mG S) (S.1 71 1) N ∧ ∀ k, k < linV (mG S) (S.1 71 1) N → T.1 82 k = nI (staV (mG S) (S.1 71 1) N k) ∧ T.1 83 k = nI (staV (mG S) (S.1 71 1) N (k + 1) - 1))
theorem bR_0 {S : PSt} {g : Nat → Int32} {w : Int32} {N : Nat} : bR S 0 (fdV g w N 0) (pSI (pSF S 80 0 FP.fconst0) 70 15 0) := by
  refine ⟨fw_tr (fw_F (by decide)) (fw_I0 (by decide)), fun j h0 hj => by omega, fun j hj _ => ?_, by simp [pSI, pU]⟩
  have e : j = 0 := by omega
  subst e
  show pU S.2.1 80 0 FP.fconst0 80 0 = FP.fconst0
  unfold pU
  rw [if_pos ⟨rfl, rfl⟩]
theorem pSI_2 {S : PSt} {a j : Nat} {u v : Int32} : pSI (pSI S a j u) a j v = pSI S a j v := by
  unfold pSI
  refine Prod.ext (funext fun c => funext fun i => ?_) rfl
  dsimp only
  unfold pU
  split <;> rfl
theorem pSI_at {S : PSt} {a j : Nat} {v : Int32} : (pSI S a j v).1 a j = v := by simp [pSI, pU]
theorem pSI_ne {S : PSt} {a j c : Nat} {v : Int32} (h : c ≠ a) : (pSI S a j v).1 c = S.1 c := (pU_ne h : pU S.1 a j v c = S.1 c)
theorem pSI_j {S : PSt} {a j i : Nat} {v : Int32} (h : i ≠ j) : (pSI S a j v).1 a i = S.1 a i := by simp [pSI, pU, h]
/-- the lines from i on are told -/
def fiR (T : PSt) (M N : Nat) (b : Nat → Int32) (i : Nat) (U : PSt) : Prop := (∀ c, c ≠ 82 → c ≠ 83 → U.1 c = T.1 c) ∧ U.2 = T.2 ∧ ∀ k, i ≤ k → k < M → U.1 82 k = nI (poB b M N k) ∧ U.1 83 k = nI (poB b M N (k + 1) - 1)
theorem fi_0 {T : PSt} {M N : Nat} {b : Nat → Int32} : fiR T M N b M T := ⟨fun _ _ _ => rfl, rfl, fun k h1 h2 => by omega⟩
theorem fi_s {T U : PSt} {M N L : Nat} {b : Nat → Int32} (h : fiR T M N b (L + 1) U) : fiR T M N b L (pSI (pSI U 82 L (nI (poB b M N L))) 83 L (nI (poB b M N (L + 1) - 1))) := by
  obtain ⟨h1, h2, h3⟩ := h
  refine ⟨fun c a1 a2 => by rw [pSI_ne a2, pSI_ne a1]; exact h1 c a1 a2, h2, fun k a1 a2 => ?_⟩
  by_cases e : k = L
  · subst e
    exact ⟨by rw [pSI_ne (by decide)]; exact pSI_at, pSI_at⟩
  · have := h3 k (by omega) a2
    exact ⟨by rw [pSI_ne (by decide), pSI_j e]; exact this.1, by rw [pSI_j e, pSI_ne (by decide)]; exact this.2⟩
theorem fi_fr {T U : PSt} {M N : Nat} {b : Nat → Int32} (h : fiR T M N b 0 U) : frW T U := by
  obtain ⟨h1, h2, _⟩ := h
  have e1 : U.2.1 = T.2.1 := by rw [h2]
  have e2 : U.2.2.1 = T.2.2.1 := by rw [h2]
  have e3 : U.2.2.2 = T.2.2.2 := by rw [h2]
  exact ⟨⟨fun c a1 a2 => ⟨h1 c (by omega) (by omega), by rw [e1], by rw [e2], by rw [e3]⟩, by rw [h1 70 (by decide) (by decide)], by rw [h1 70 (by decide) (by decide)]⟩, h1 84 (by decide) (by decide), h1 85 (by decide) (by decide), by rw [e1], by rw [h1 70 (by decide) (by decide)]⟩
theorem br_ok {S T U : PSt} {N : Nat} (hR : bR S N (fdV (mG S) (S.1 71 1) N N) T) (hN2 : N ≤ 32) (hf : fouV (mG S) (S.1 71 1) N = true) (hU : fiR (pSI T 70 15 (nI (linV (mG S) (S.1 71 1) N))) (linV (mG S) (S.1 71 1) N) N (beV (mG S) (S.1 71 1) N) 0 U) : brR S N U := by
  refine ⟨fw_tr (fw_tr hR.1 (fw_I0 (by decide))) (fi_fr hU), fun _ => ⟨?_, ?_, fun k hk => hU.2.2 k (Nat.zero_le _) hk⟩⟩
  · rw [hU.1 70 (by decide) (by decide)]; exact pSI_at
  · have e : U.2.1 = T.2.1 := by rw [hU.2.1]; rfl
    rw [e]
    exact hR.2.2.1 N (Nat.le_refl N) (of_decide_eq_true hf)
theorem br_no {S T : PSt} {N : Nat} (hR : bR S N (fdV (mG S) (S.1 71 1) N N) T) (hf : fouV (mG S) (S.1 71 1) N = false) : brR S N T := ⟨hR.1, fun h => by rw [hf] at h; exact absurd h (by decide)⟩
set_option maxRecDepth 100000 in
theorem lp_X9_breaksB {n0 : Nat} {X : Nat × (Nat → Int32)} {P : Option Value → PSt → Prop} {d : Nat} (hd9 : 5 ≤ d) {sh : List PSh} {S : PSt} {N : Nat} (hm : isMo sh) (hi : mIv S N) (hN2 : N ≤ 32)  (hex : ∀ i T, bR S N (fdV (mG S) (S.1 71 1) N N) T → pV mX9_breaks d n0 X sh P 37 [some (.ref 70), some (.int (nI N)), some (.int i), none] [] T) : ∀ (m k : Nat) (T : PSt), k + m = N → bR S k (fdV (mG S) (S.1 71 1) N k) T → pV mX9_breaks d n0 X sh P 21 [some (.ref 70), some (.int (nI N)), some (.int (nI (k + 1))), none] [] T := by
  intro m
  induction m with
  | zero =>
    intro k T hk hR
    have hk9 : N = k := by omega
    subst hk9
    refine q_iload_n (pc := 21) (j := 2) rfl rfl ?_
    refine q_iload_n (pc := 22) (j := 1) rfl rfl ?_
    refine q_icmp_gt (pc := 23) 37 rfl (by decide) (fun _ => ?_) (fun h9 => absurd (nI_lt (by omega) (by omega)) h9)
    exact hex _ _ hR
  | succ m ih =>
    intro k T hk hR
    have hk1 : k < N := by omega
    have hk2 : k < N := hk1
    refine q_iload_n (pc := 21) (j := 2) rfl rfl ?_
    refine q_iload_n (pc := 22) (j := 1) rfl rfl ?_
    refine q_icmp_gt (pc := 23) 37 rfl (by decide) (fun h9 => absurd h9 (nI_nlt (by omega) (by omega))) (fun _ => ?_)
    refine q_aload_n (pc := 26) (j := 0) rfl rfl ?_
    refine q_iload_n (pc := 27) (j := 2) rfl rfl ?_
    refine q_callVG (pc := 28) (as := [.int (nI (k + 1))]) (rest := []) (b := 70) rfl ce_X9_bestTo ml_X9_204 im_X9_bestTo se_X9_bestTo hm.1 rfl rfl rfl (by omega) (Nat.le_of_ble_eq_true rfl) (sp_X9_bestTo (S := S) (q := k) hm hi (by omega) hR) (fun r9 S9 h9 => ?_)
    obtain ⟨hr9, hS9⟩ := h9
    subst hr9
    refine q_iinc (pc := 31) (j := 2) (n := 1) (nI (k + 1 + 1)) [some (.ref 70), some (.int (nI N)), some (.int (nI (k + 1 + 1))), none] rfl (by decide) rfl (nI_1 (k + 1)) rfl ?_
    refine q_goto (pc := 34) 21 rfl (by decide) ?_
    exact ih (k + 1) _ (by omega) hS9
set_option maxRecDepth 100000 in
theorem lp_X9_breaksC {n0 : Nat} {X : Nat × (Nat → Int32)} {P : Option Value → PSt → Prop} {d : Nat} (hd9 : 0 ≤ d) {sh : List PSh} {T : PSt} {N M : Nat} {b : Nat → Int32} (hm : isMo sh) (hN2 : N ≤ 32) (hb : ∀ j, 0 < j → j ≤ N → T.1 81 j = b j) (hex : pV mX9_breaks d n0 X sh P 78 [some (.ref 70), some (.int (nI N)), some (.int (nI 0)), none] [] (pSI T 70 15 (nI M))) : ∀ (L p c : Nat), chB b L p → p ≤ N → c + L = M → pV mX9_breaks d n0 X sh P 54 [some (.ref 70), some (.int (nI N)), some (.int (nI p)), none] [] (pSI T 70 15 (nI c)) := by
  intro L
  induction L with
  | zero =>
    intro p c hc hp hM
    have hc : p = 0 := hc
    subst hc
    have hM : c = M := by omega
    subst hM
    refine q_iload_n (pc := 54) (j := 2) rfl rfl ?_
    refine q_if_le (pc := 55) 78 rfl (by decide) (fun _ => ?_) (fun h9 => absurd (Int32.le_refl _) h9)
    exact hex
  | succ L ih =>
    intro p c hc hp hM
    obtain ⟨h1, f, h2, h3, h4⟩ := hc
    refine q_iload_n (pc := 54) (j := 2) rfl rfl ?_
    refine q_if_le (pc := 55) 78 rfl (by decide) (fun h9 => absurd h9 (nI_nle h1 (by omega))) (fun _ => ?_)
    refine q_aload_n (pc := 58) (j := 0) rfl rfl ?_
    refine q_dup (pc := 59) rfl rfl ?_
    refine q_get (pc := 60) (a := 70) (v := .int ((pSI T 70 15 (nI c)).1 70 15)) rfl fl_X9_201 hm.1 rfl rfl ?_
    refine q_st (st2 := [.int (nI c), .ref 70]) (by rw [(show ((pSI T 70 15 (nI c)).1 70 15) = nI c from pSI_at)]) ?_
    refine q_iconst (pc := 63) 1 rfl (by decide) ?_
    refine q_iadd (pc := 64) rfl ?_
    refine q_st (st2 := [.int (nI (c + 1)), .ref 70]) (by rw [nI_1 c]) ?_
    refine q_putI (pc := 65) (a := 70) rfl fl_X9_201 hm.1 rfl (fun _ h9 => by cases h9; rfl) rfl rfl ?_
    refine q_S (S2 := (pSI T 70 15 (nI (c + 1)))) pSI_2 ?_
    refine q_aload_n (pc := 68) (j := 0) rfl rfl ?_
    refine q_get (pc := 69) (a := 70) (v := .ref 81) rfl fl_X9_42 hm.1 rfl rfl ?_
    refine q_iload_n (pc := 72) (j := 2) rfl rfl ?_
    refine q_iald (pc := 73) (a := 81) p rfl hm.2.2.2.2.2.2.2.2.2.2.2.1 (vp_in_nI (by omega) (by decide)) (nI_clamp (by omega)) ?_
    refine q_st (st2 := [.int (nI f)]) (by rw [(show ((pSI T 70 15 (nI (c + 1))).1 81 p) = nI f from (congrFun (pSI_ne (by decide)) p).trans ((hb p h1 hp).trans h3))]) ?_
    refine q_istore_n (pc := 74) (j := 2) [some (.ref 70), some (.int (nI N)), some (.int (nI f)), none] rfl (by decide) rfl ?_
    refine q_goto (pc := 75) 54 rfl (by decide) ?_
    exact ih f (c + 1) h4 (by omega) (by omega)
set_option maxRecDepth 100000 in
theorem lp_X9_breaksF {n0 : Nat} {X : Nat × (Nat → Int32)} {P : Option Value → PSt → Prop} {d : Nat} (hd9 : 0 ≤ d) {sh : List PSh} {T : PSt} {N M : Nat} {b : Nat → Int32} (hm : isMo sh) (hN2 : N ≤ 32) (hb : ∀ j, 0 < j → j ≤ N → T.1 81 j = b j) (hc : chB b M N) (hex : ∀ U, fiR T M N b 0 U → pV mX9_breaks d n0 X sh P 123 [some (.ref 70), some (.int (nI N)), some (.int (nI 0)), some (.int (nI 0))] [] U) : ∀ (L : Nat) (U : PSt), L ≤ M → fiR T M N b L U → pV mX9_breaks d n0 X sh P 85 [some (.ref 70), some (.int (nI N)), some (.int (nI L)), some (.int (nI (poB b M N L)))] [] U := by
  have hM := chB_le M N hc
  intro L
  induction L with
  | zero =>
    intro U hL hU
    rw [poB_0 M N (by omega) hc]
    refine q_iload_n (pc := 85) (j := 3) rfl rfl ?_
    refine q_if_le (pc := 86) 123 rfl (by decide) (fun _ => ?_) (fun h9 => absurd (Int32.le_refl _) h9)
    exact hex _ hU
  | succ L ih =>
    intro U hL hU
    have hlt := poB_lt M N L (by omega) hc (by omega)
    have hfr : U.1 81 (poB b M N (L + 1)) = nI (poB b M N L) := (congrFun (hU.1 81 (by decide) (by decide)) _).trans ((hb _ (by omega) hlt.2.1).trans hlt.2.2)
    refine q_iload_n (pc := 85) (j := 3) rfl rfl ?_
    refine q_if_le (pc := 86) 123 rfl (by decide) (fun h9 => absurd h9 (nI_nle (by omega) (by omega))) (fun _ => ?_)
    refine q_iinc (pc := 89) (j := 2) (n := (-1)) (nI L) [some (.ref 70), some (.int (nI N)), some (.int (nI L)), some (.int (nI (poB b M N (L + 1))))] rfl (by decide) rfl (pk_m1 L) rfl ?_
    refine q_aload_n (pc := 92) (j := 0) rfl rfl ?_
    refine q_get (pc := 93) (a := 70) (v := .ref 82) rfl fl_X9_45 hm.1 rfl rfl ?_
    refine q_iload_n (pc := 96) (j := 2) rfl rfl ?_
    refine q_aload_n (pc := 97) (j := 0) rfl rfl ?_
    refine q_get (pc := 98) (a := 70) (v := .ref 81) rfl fl_X9_42 hm.1 rfl rfl ?_
    refine q_iload_n (pc := 101) (j := 3) rfl rfl ?_
    refine q_iald (pc := 102) (a := 81) (poB b M N (L + 1)) rfl hm.2.2.2.2.2.2.2.2.2.2.2.1 (vp_in_nI (by omega) (by decide)) (nI_clamp (by omega)) ?_
    refine q_st (st2 := [.int (nI (poB b M N L)), .int (nI L), .ref 82]) (by rw [(show (U.1 81 (poB b M N (L + 1))) = nI (poB b M N L) from hfr)]) ?_
    refine q_iast (pc := 103) (a := 82) L rfl hm.2.2.2.2.2.2.2.2.2.2.2.2.1 (vp_in_nI (by omega) (by decide)) (nI_clamp (by omega)) ?_
    refine q_aload_n (pc := 104) (j := 0) rfl rfl ?_
    refine q_get (pc := 105) (a := 70) (v := .ref 83) rfl fl_X9_48 hm.1 rfl rfl ?_
    refine q_iload_n (pc := 108) (j := 2) rfl rfl ?_
    refine q_iload_n (pc := 109) (j := 3) rfl rfl ?_
    refine q_iconst (pc := 110) 1 rfl (by decide) ?_
    refine q_isub (pc := 111) rfl ?_
    refine q_st (st2 := [.int (nI ((poB b M N (L + 1)) - 1)), .int (nI L), .ref 83]) (by rw [(show ((nI (poB b M N (L + 1))) - 1) = _ from pk_sub (b := 1) (by omega))]) ?_
    refine q_iast (pc := 112) (a := 83) L rfl hm.2.2.2.2.2.2.2.2.2.2.2.2.2.1 (vp_in_nI (by omega) (by decide)) (nI_clamp (by omega)) ?_
    refine q_aload_n (pc := 113) (j := 0) rfl rfl ?_
    refine q_get (pc := 114) (a := 70) (v := .ref 81) rfl fl_X9_42 hm.1 rfl rfl ?_
    refine q_iload_n (pc := 117) (j := 3) rfl rfl ?_
    refine q_iald (pc := 118) (a := 81) (poB b M N (L + 1)) rfl hm.2.2.2.2.2.2.2.2.2.2.2.1 (vp_in_nI (by omega) (by decide)) (nI_clamp (by omega)) ?_
    refine q_st (st2 := [.int (nI (poB b M N L))]) (by rw [(show ((pSI (pSI U 82 L (nI (poB b M N L))) 83 L (nI ((poB b M N (L + 1)) - 1))).1 81 (poB b M N (L + 1))) = nI (poB b M N L) from (congrFun ((pSI_ne (by decide)).trans (pSI_ne (by decide))) _).trans hfr)]) ?_
    refine q_istore_n (pc := 119) (j := 3) [some (.ref 70), some (.int (nI N)), some (.int (nI L)), some (.int (nI (poB b M N L)))] rfl (by decide) rfl ?_
    refine q_goto (pc := 120) 85 rfl (by decide) ?_
    exact ih _ (by omega) (fi_s hU)
set_option maxRecDepth 100000 in
theorem sp_X9_breaks {sh : List PSh} {S : PSt} {N : Nat} (hm : isMo sh) (hi : mIv S N) : pG mX9_breaks 5 [.ref 70] sh S (fun r9 T9 => r9 = some (.int (pB (fouV (mG S) (S.1 71 1) N))) ∧ brR S N T9) := by
  obtain ⟨hN, hN2, hok, hw⟩ := id hi
  refine pG.of [some (.ref 70), none, none, none] (by decide) tk_X9_breaks (Nat.le_of_ble_eq_true rfl) rfl (fun X => ?_)
  refine q_aload_n (pc := 0) (j := 0) rfl rfl ?_
  refine q_get (pc := 1) (a := 70) (v := .ref 71) rfl fl_X9_9 hm.1 rfl rfl ?_
  refine q_iconst (pc := 4) 0 rfl (by decide) ?_
  refine q_iald (pc := 5) (a := 71) 0 rfl hm.2.1 (vp_in_nI (n := 0) (by decide) (by decide)) rfl ?_
  refine q_st (st2 := [.int (nI N)]) (by rw [(show (S.1 71 0) = nI N from hN)]) ?_
  refine q_istore_n (pc := 6) (j := 1) [some (.ref 70), some (.int (nI N)), none, none] rfl (by decide) rfl ?_
  refine q_aload_n (pc := 7) (j := 0) rfl rfl ?_
  refine q_get (pc := 8) (a := 70) (v := .ref 80) rfl fl_X9_39 hm.1 rfl rfl ?_
  refine q_iconst (pc := 11) 0 rfl (by decide) ?_
  refine q_fconst0 (pc := 12) rfl ?_
  refine q_fast (pc := 13) (a := 80) 0 rfl hm.2.2.2.2.2.2.2.2.2.2.1 (vp_in_nI (n := 0) (by decide) (by decide)) rfl ?_
  refine q_aload_n (pc := 14) (j := 0) rfl rfl ?_
  refine q_iconst (pc := 15) 0 rfl (by decide) ?_
  refine q_putI (pc := 16) (a := 70) rfl fl_X9_201 hm.1 rfl (fun _ h9 => by cases h9; rfl) rfl rfl ?_
  refine q_iconst (pc := 19) 1 rfl (by decide) ?_
  refine q_istore_n (pc := 20) (j := 2) [some (.ref 70), some (.int (nI N)), some (.int 1), none] rfl (by decide) rfl ?_
  refine lp_X9_breaksB (by decide) hm hi hN2 (fun i T hR => ?_) N 0 _ (Nat.zero_add N) bR_0
  refine q_iload_n (pc := 37) (j := 1) rfl rfl ?_
  refine q_if_le (pc := 38) 52 rfl (by decide) (fun h38 => ?_) (fun h38 => ?_)
  · have hf9 : (fouV (mG S) (S.1 71 1) N) = true := decide_eq_true (by have h0 := n_0 (by omega) h38; subst h0; show ¬ (0 : Int32) = -1; decide)
    refine q_iload_n (pc := 52) (j := 1) rfl rfl ?_
    refine q_istore_n (pc := 53) (j := 2) [some (.ref 70), some (.int (nI N)), some (.int (nI N)), none] rfl (by decide) rfl ?_
    refine q_S (S2 := (pSI T 70 15 (nI 0))) (by rw [show nI 0 = T.1 70 15 from hR.2.2.2.symm]; unfold pSI pU; exact Prod.ext (funext fun c => funext fun i => by dsimp only; split; rename_i e; rw [e.1, e.2]; rfl) rfl) (lp_X9_breaksC (b := (beV (mG S) (S.1 71 1) N)) (M := (linV (mG S) (S.1 71 1) N)) (by decide) hm hN2 (fun j h0 hj => hR.2.1 j h0 hj) ?_ (linV (mG S) (S.1 71 1) N) N 0 (lin_ch hN2 hf9) (Nat.le_refl N) (Nat.zero_add _))
    refine q_aload_n (pc := 78) (j := 0) rfl rfl ?_
    refine q_get (pc := 79) (a := 70) (v := .int ((pSI T 70 15 (nI (linV (mG S) (S.1 71 1) N))).1 70 15)) rfl fl_X9_201 hm.1 rfl rfl ?_
    refine q_st (st2 := [.int (nI (linV (mG S) (S.1 71 1) N))]) (by rw [(show ((pSI T 70 15 (nI (linV (mG S) (S.1 71 1) N))).1 70 15) = _ from pSI_at)]) ?_
    refine q_istore_n (pc := 82) (j := 2) [some (.ref 70), some (.int (nI N)), some (.int (nI (linV (mG S) (S.1 71 1) N))), none] rfl (by decide) rfl ?_
    refine q_iload_n (pc := 83) (j := 1) rfl rfl ?_
    refine q_istore_n (pc := 84) (j := 3) [some (.ref 70), some (.int (nI N)), some (.int (nI (linV (mG S) (S.1 71 1) N))), some (.int (nI N))] rfl (by decide) rfl ?_
    refine q_L (L2 := [some (.ref 70), some (.int (nI N)), some (.int (nI (linV (mG S) (S.1 71 1) N))), some (.int (nI (poB (beV (mG S) (S.1 71 1) N) (linV (mG S) (S.1 71 1) N) N (linV (mG S) (S.1 71 1) N))))]) (by rw [poB_top]) (lp_X9_breaksF (T := (pSI T 70 15 (nI (linV (mG S) (S.1 71 1) N)))) (b := (beV (mG S) (S.1 71 1) N)) (by decide) hm hN2 (fun j h0 hj => (congrFun (pSI_ne (by decide)) j).trans (hR.2.1 j h0 hj)) (lin_ch hN2 hf9) (fun U hU => ?_) (linV (mG S) (S.1 71 1) N) _ (Nat.le_refl _) fi_0)
    refine q_iconst (pc := 123) 1 rfl (by decide) ?_
    exact q_zret (pc := 124) rfl rfl rfl ⟨congrArg (fun v => some (Value.int v)) (by rw [hf9]; rfl), br_ok hR hN2 hf9 hU⟩
  · refine q_aload_n (pc := 41) (j := 0) rfl rfl ?_
    refine q_get (pc := 42) (a := 70) (v := .ref 81) rfl fl_X9_42 hm.1 rfl rfl ?_
    refine q_iload_n (pc := 45) (j := 1) rfl rfl ?_
    refine q_iald (pc := 46) (a := 81) N rfl hm.2.2.2.2.2.2.2.2.2.2.2.1 (vp_in_nI (by omega) (by decide)) (nI_clamp (by omega)) ?_
    refine q_st (st2 := [.int ((fdV (mG S) (S.1 71 1) N N).1 N)]) (by rw [(show (T.1 81 N) = _ from hR.2.1 N (n_pos h38) (Nat.le_refl N))]) ?_
    refine q_if_ge (pc := 47) 52 rfl (by decide) (fun h47 => ?_) (fun h47 => ?_)
    · have hf9 : (fouV (mG S) (S.1 71 1) N) = true := decide_eq_true (fun q9 => h47 |> (fun q8 => absurd q8 (by rw [show (fdV (mG S) (S.1 71 1) N N).1 N = -1 from q9]; decide)))
      refine q_iload_n (pc := 52) (j := 1) rfl rfl ?_
      refine q_istore_n (pc := 53) (j := 2) [some (.ref 70), some (.int (nI N)), some (.int (nI N)), none] rfl (by decide) rfl ?_
      refine q_S (S2 := (pSI T 70 15 (nI 0))) (by rw [show nI 0 = T.1 70 15 from hR.2.2.2.symm]; unfold pSI pU; exact Prod.ext (funext fun c => funext fun i => by dsimp only; split; rename_i e; rw [e.1, e.2]; rfl) rfl) (lp_X9_breaksC (b := (beV (mG S) (S.1 71 1) N)) (M := (linV (mG S) (S.1 71 1) N)) (by decide) hm hN2 (fun j h0 hj => hR.2.1 j h0 hj) ?_ (linV (mG S) (S.1 71 1) N) N 0 (lin_ch hN2 hf9) (Nat.le_refl N) (Nat.zero_add _))
      refine q_aload_n (pc := 78) (j := 0) rfl rfl ?_
      refine q_get (pc := 79) (a := 70) (v := .int ((pSI T 70 15 (nI (linV (mG S) (S.1 71 1) N))).1 70 15)) rfl fl_X9_201 hm.1 rfl rfl ?_
      refine q_st (st2 := [.int (nI (linV (mG S) (S.1 71 1) N))]) (by rw [(show ((pSI T 70 15 (nI (linV (mG S) (S.1 71 1) N))).1 70 15) = _ from pSI_at)]) ?_
      refine q_istore_n (pc := 82) (j := 2) [some (.ref 70), some (.int (nI N)), some (.int (nI (linV (mG S) (S.1 71 1) N))), none] rfl (by decide) rfl ?_
      refine q_iload_n (pc := 83) (j := 1) rfl rfl ?_
      refine q_istore_n (pc := 84) (j := 3) [some (.ref 70), some (.int (nI N)), some (.int (nI (linV (mG S) (S.1 71 1) N))), some (.int (nI N))] rfl (by decide) rfl ?_
      refine q_L (L2 := [some (.ref 70), some (.int (nI N)), some (.int (nI (linV (mG S) (S.1 71 1) N))), some (.int (nI (poB (beV (mG S) (S.1 71 1) N) (linV (mG S) (S.1 71 1) N) N (linV (mG S) (S.1 71 1) N))))]) (by rw [poB_top]) (lp_X9_breaksF (T := (pSI T 70 15 (nI (linV (mG S) (S.1 71 1) N)))) (b := (beV (mG S) (S.1 71 1) N)) (by decide) hm hN2 (fun j h0 hj => (congrFun (pSI_ne (by decide)) j).trans (hR.2.1 j h0 hj)) (lin_ch hN2 hf9) (fun U hU => ?_) (linV (mG S) (S.1 71 1) N) _ (Nat.le_refl _) fi_0)
      refine q_iconst (pc := 123) 1 rfl (by decide) ?_
      exact q_zret (pc := 124) rfl rfl rfl ⟨congrArg (fun v => some (Value.int v)) (by rw [hf9]; rfl), br_ok hR hN2 hf9 hU⟩
    · have hf9 : (fouV (mG S) (S.1 71 1) N) = false := decide_eq_false (fun q9 => q9 (bk_neg (fdV_ok (by omega) N (Nat.le_refl N)) (n_pos h38) (Nat.le_refl N) (by omega) (Int32.not_le.mp h47)))
      refine q_iconst (pc := 50) 0 rfl (by decide) ?_
      exact q_zret (pc := 51) rfl rfl rfl ⟨congrArg (fun v => some (Value.int v)) (by rw [hf9]; rfl), br_no hR hf9⟩
