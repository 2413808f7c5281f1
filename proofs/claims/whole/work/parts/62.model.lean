/-! the model: music: written by wip/whole/gen/c62.py -/
def colE (V : PSt) (n : Nat) : Int32 := if n % 5 = 3 then 2 else V.1 88 n
def cmL (V : PSt) (k : Nat) : PSt := (fun c j => if c = 71 ∧ j = 0 then nI k else if c = 71 ∧ 2 ≤ j ∧ j < 2 + 5 * k then colE V (j - 2) else V.1 c j, V.2)
theorem cmL_0 {V : PSt} : pSI V 71 0 0 = cmL V 0 := by
  unfold cmL pSI pU
  refine Prod.ext (funext fun c => funext fun j => ?_) rfl
  dsimp only
  rw [if_neg (show ¬ (c = 71 ∧ 2 ≤ j ∧ j < 2 + 5 * 0) by omega)]
  rfl
theorem cmL_o {V : PSt} {k c : Nat} (h : c ≠ 71) : (cmL V k).1 c = V.1 c := by
  funext j
  unfold cmL
  dsimp only
  rw [if_neg (fun q => h q.1), if_neg (fun q => h q.1)]
theorem cmL_n {V : PSt} {k : Nat} : (cmL V k).1 71 0 = nI k := by
  unfold cmL
  dsimp only
  rw [if_pos ⟨rfl, rfl⟩]
theorem cmL_s {V : PSt} {k : Nat} : cmS (cmL V k) k (V.1 88 (5 * k)) (V.1 88 (5 * k + 1)) (V.1 88 (5 * k + 2)) 2 (V.1 88 (5 * k + 4)) = cmL V (k + 1) := by
  unfold cmS cmL pSI pU
  refine Prod.ext (funext fun c => funext fun j => ?_) rfl
  dsimp only
  by_cases hc : c = 71
  · subst hc
    by_cases h0 : j = 0
    · subst h0
      rw [if_neg (by omega), if_neg (by omega), if_neg (by omega), if_neg (by omega), if_neg (by omega), if_pos ⟨rfl, rfl⟩, if_pos ⟨rfl, rfl⟩]
    · rw [if_neg (show ¬ (71 = 71 ∧ j = 0) by omega)]
      by_cases h5 : j < 2 + 5 * k
      · rw [if_neg (by omega), if_neg (by omega), if_neg (by omega), if_neg (by omega), if_neg (by omega), if_neg (by omega)]
        by_cases h2 : 2 ≤ j
        · rw [if_pos ⟨rfl, h2, h5⟩, if_neg (by omega), if_pos ⟨rfl, h2, by omega⟩]
        · rw [if_neg (by omega), if_neg (by omega), if_neg (by omega)]
      · by_cases h6 : j < 2 + 5 * (k + 1)
        · rw [if_neg (show ¬ (71 = 71 ∧ j = 0) by omega), if_pos (show 71 = 71 ∧ 2 ≤ j ∧ j < 2 + 5 * (k + 1) by omega)]
          unfold colE
          rcases (show j = 2 + (5 * k + 0) ∨ j = 2 + (5 * k + 1) ∨ j = 2 + (5 * k + 2) ∨ j = 2 + (5 * k + 3) ∨ j = 2 + (5 * k + 4) by omega) with e | e | e | e | e <;> subst e
          all_goals
            rw [Nat.add_sub_cancel_left]
            (repeat' split) <;> first | rfl | (exfalso; omega)
        · rw [if_neg (by omega), if_neg (by omega), if_neg (by omega), if_neg (by omega), if_neg (by omega), if_neg (by omega), if_neg (by omega), if_neg (by omega), if_neg (by omega)]
  · rw [if_neg (fun q => hc q.1), if_neg (fun q => hc q.1), if_neg (fun q => hc q.1), if_neg (fun q => hc q.1), if_neg (fun q => hc q.1), if_neg (fun q => hc q.1), if_neg (fun q => hc q.1), if_neg (fun q => hc q.1), if_neg (fun q => hc q.1), if_neg (fun q => hc q.1)]
def mCols (S : PSt) (g : Nat → Int32) (L : Nat) : PSt := (fun c j => if c = 71 ∧ j = 0 then nI L else if c = 71 ∧ 2 ≤ j ∧ j < 2 + 5 * L then g (j - 2) else if c = 70 ∧ j = 23 then 0 else S.1 c j, S.2)
/-- what music leaves the model -/
def muOM (S T : PSt) (R : Int32 × List PSg) : Prop :=
  if R.1 = -1 then
    (if 32 < R.2.length then frM (rfM S 4) T
     else (∃ g : Nat → Int32, frM (mCols S g R.2.length) T ∧ (∀ i q, R.2[i]? = some q → g (5 * i + 0) = q.1 ∧ g (5 * i + 1) = q.2.1 ∧ g (5 * i + 2) = q.2.2.1 ∧ g (5 * i + 3) = 2 ∧ g (5 * i + 4) = q.2.2.2)))
  else frM (pSI S 70 23 0) T
theorem fm_23 {S T : PSt} {v : Int32} (h : frM S T) : frM (pSI S 70 23 v) (pSI T 70 23 v) := by
  refine ⟨fun c h1 h2 => ?_, ?_, ?_⟩
  · rw [pSI_ne h1, pSI_ne h1]; exact h.1 c h1 h2
  · rw [pSI_j (by decide), pSI_j (by decide)]; exact h.2.1
  · rw [pSI_at, pSI_at]
theorem fm_cols {S U : PSt} {p L : Nat} (h : frM S U) : frM (mCols S (colE (pSI (rdM U true p) 70 23 0)) L) (cmL (pSI (rdM U true p) 70 23 0) L) := by
  refine ⟨fun c h1 h2 => ?_, ?_, ?_⟩
  · obtain ⟨a1, a2, a3, a4⟩ := h.1 c h1 h2
    refine ⟨?_, a2, a3, a4⟩
    funext j
    unfold cmL mCols
    dsimp only
    by_cases e0 : c = 71 ∧ j = 0
    · rw [if_pos e0, if_pos e0]
    · rw [if_neg e0, if_neg e0]
      by_cases e1 : c = 71 ∧ 2 ≤ j ∧ j < 2 + 5 * L
      · rw [if_pos e1, if_pos e1]
      · rw [if_neg e1, if_neg e1, if_neg (fun q => h1 q.1), pSI_ne h1, rd_o h1, a1]
  · rw [cmL_o (by decide)]
    show (pSI (rdM U true p) 70 23 0).1 70 2 = (mCols S _ L).1 70 2
    rw [pSI_j (by decide), rd_j (by decide) (by decide), h.2.1]
    unfold mCols
    dsimp only
    rw [if_neg (by omega), if_neg (by omega), if_neg (by omega)]
  · rw [cmL_o (by decide)]
    show (pSI (rdM U true p) 70 23 0).1 70 23 = (mCols S _ L).1 70 23
    rw [pSI_at]
    unfold mCols
    dsimp only
    rw [if_neg (by omega), if_neg (by omega), if_pos ⟨rfl, rfl⟩]
set_option maxRecDepth 100000 in
theorem lp_X9_musicC {n0 : Nat} {X : Nat × (Nat → Int32)} {P : Option Value → PSt → Prop} {d : Nat} (hd9 : 2 ≤ d) {sh : List PSh} (hm : isMo sh) {V : PSt} {L : Nat} (hL : L ≤ 32) (h27 : V.1 70 27 = nI L)  (hex : ∀ i o2, pV mX9_music d n0 X sh P 154 [some (.ref 70), some (.int i), o2] [] (cmL V L)) : ∀ (m k : Nat) (o2 : Option Value), k + m = L → pV mX9_music d n0 X sh P 96 [some (.ref 70), some (.int (nI k)), o2] [] (cmL V k) := by
  intro m
  induction m with
  | zero =>
    intro k o2 hk
    have hk9 : L = k := by omega
    subst hk9
    refine q_iload_n (pc := 96) (j := 1) rfl rfl ?_
    refine q_aload_n (pc := 97) (j := 0) rfl rfl ?_
    refine q_get (pc := 98) (a := 70) (v := .int ((cmL V L).1 70 27)) rfl fl_X9_274 hm.1 rfl rfl ?_
    refine q_st (st2 := [.int (nI L), .int (nI L)]) (by rw [(show ((cmL V L).1 70 27) = nI L from (congrFun (cmL_o (by decide)) 27).trans h27)]) ?_
    refine q_icmp_ge (pc := 101) 154 rfl (by decide) (fun _ => ?_) (fun h9 => absurd (Int32.le_refl _) h9)
    exact hex _ _
  | succ m ih =>
    intro k o2 hk
    have hk1 : k < L := by omega
    have hk2 : k < L := hk1
    refine q_iload_n (pc := 96) (j := 1) rfl rfl ?_
    refine q_aload_n (pc := 97) (j := 0) rfl rfl ?_
    refine q_get (pc := 98) (a := 70) (v := .int ((cmL V k).1 70 27)) rfl fl_X9_274 hm.1 rfl rfl ?_
    refine q_st (st2 := [.int (nI L), .int (nI k)]) (by rw [(show ((cmL V k).1 70 27) = nI L from (congrFun (cmL_o (by decide)) 27).trans h27)]) ?_
    refine q_icmp_ge (pc := 101) 154 rfl (by decide) (fun h9 => absurd h9 (nI_ge hk1 (by omega))) (fun _ => ?_)
    refine q_aload_n (pc := 104) (j := 0) rfl rfl ?_
    refine q_aload_n (pc := 105) (j := 0) rfl rfl ?_
    refine q_get (pc := 106) (a := 70) (v := .ref 88) rfl fl_X9_63 hm.1 rfl rfl ?_
    refine q_iconst (pc := 109) 5 rfl (by decide) ?_
    refine q_iload_n (pc := 110) (j := 1) rfl rfl ?_
    refine q_imul (pc := 111) rfl ?_
    refine q_st (st2 := [.int (nI (5 * k)), .ref 88, .ref 70]) (by rw [sx5]) ?_
    refine q_iald (pc := 112) (a := 88) (5 * k) rfl hm.2.2.2.2.2.2.2.2.2.2.2.2.2.2.2.2.2.2.1 (vp_in_nI (by omega) (by decide)) (nI_clamp (by omega)) ?_
    refine q_st (st2 := [.int (V.1 88 (5 * k)), .ref 70]) (by rw [(show ((cmL V k).1 88 (5 * k)) = (V.1 88 (5 * k)) from congrFun (cmL_o (by decide)) _)]) ?_
    refine q_aload_n (pc := 113) (j := 0) rfl rfl ?_
    refine q_get (pc := 114) (a := 70) (v := .ref 88) rfl fl_X9_63 hm.1 rfl rfl ?_
    refine q_iconst (pc := 117) 5 rfl (by decide) ?_
    refine q_iload_n (pc := 118) (j := 1) rfl rfl ?_
    refine q_imul (pc := 119) rfl ?_
    refine q_st (st2 := [.int (nI (5 * k)), .ref 88, .int (V.1 88 (5 * k)), .ref 70]) (by rw [sx5]) ?_
    refine q_iconst (pc := 120) 1 rfl (by decide) ?_
    refine q_iadd (pc := 121) rfl ?_
    refine q_st (st2 := [.int (nI (5 * k + 1)), .ref 88, .int (V.1 88 (5 * k)), .ref 70]) (by rw [(show nI (5 * k) + 1 = _ from nI_add (5 * k) 1)]) ?_
    refine q_iald (pc := 122) (a := 88) (5 * k + 1) rfl hm.2.2.2.2.2.2.2.2.2.2.2.2.2.2.2.2.2.2.1 (vp_in_nI (by omega) (by decide)) (nI_clamp (by omega)) ?_
    refine q_st (st2 := [.int (V.1 88 (5 * k + 1)), .int (V.1 88 (5 * k)), .ref 70]) (by rw [(show ((cmL V k).1 88 (5 * k + 1)) = (V.1 88 (5 * k + 1)) from congrFun (cmL_o (by decide)) _)]) ?_
    refine q_aload_n (pc := 123) (j := 0) rfl rfl ?_
    refine q_get (pc := 124) (a := 70) (v := .ref 88) rfl fl_X9_63 hm.1 rfl rfl ?_
    refine q_iconst (pc := 127) 5 rfl (by decide) ?_
    refine q_iload_n (pc := 128) (j := 1) rfl rfl ?_
    refine q_imul (pc := 129) rfl ?_
    refine q_st (st2 := [.int (nI (5 * k)), .ref 88, .int (V.1 88 (5 * k + 1)), .int (V.1 88 (5 * k)), .ref 70]) (by rw [sx5]) ?_
    refine q_iconst (pc := 130) 2 rfl (by decide) ?_
    refine q_iadd (pc := 131) rfl ?_
    refine q_st (st2 := [.int (nI (5 * k + 2)), .ref 88, .int (V.1 88 (5 * k + 1)), .int (V.1 88 (5 * k)), .ref 70]) (by rw [(show nI (5 * k) + 2 = _ from nI_add (5 * k) 2)]) ?_
    refine q_iald (pc := 132) (a := 88) (5 * k + 2) rfl hm.2.2.2.2.2.2.2.2.2.2.2.2.2.2.2.2.2.2.1 (vp_in_nI (by omega) (by decide)) (nI_clamp (by omega)) ?_
    refine q_st (st2 := [.int (V.1 88 (5 * k + 2)), .int (V.1 88 (5 * k + 1)), .int (V.1 88 (5 * k)), .ref 70]) (by rw [(show ((cmL V k).1 88 (5 * k + 2)) = (V.1 88 (5 * k + 2)) from congrFun (cmL_o (by decide)) _)]) ?_
    refine q_iconst (pc := 133) 2 rfl (by decide) ?_
    refine q_aload_n (pc := 134) (j := 0) rfl rfl ?_
    refine q_get (pc := 135) (a := 70) (v := .ref 88) rfl fl_X9_63 hm.1 rfl rfl ?_
    refine q_iconst (pc := 138) 5 rfl (by decide) ?_
    refine q_iload_n (pc := 139) (j := 1) rfl rfl ?_
    refine q_imul (pc := 140) rfl ?_
    refine q_st (st2 := [.int (nI (5 * k)), .ref 88, .int 2, .int (V.1 88 (5 * k + 2)), .int (V.1 88 (5 * k + 1)), .int (V.1 88 (5 * k)), .ref 70]) (by rw [sx5]) ?_
    refine q_iconst (pc := 141) 4 rfl (by decide) ?_
    refine q_iadd (pc := 142) rfl ?_
    refine q_st (st2 := [.int (nI (5 * k + 4)), .ref 88, .int 2, .int (V.1 88 (5 * k + 2)), .int (V.1 88 (5 * k + 1)), .int (V.1 88 (5 * k)), .ref 70]) (by rw [(show nI (5 * k) + 4 = _ from nI_add (5 * k) 4)]) ?_
    refine q_iald (pc := 143) (a := 88) (5 * k + 4) rfl hm.2.2.2.2.2.2.2.2.2.2.2.2.2.2.2.2.2.2.1 (vp_in_nI (by omega) (by decide)) (nI_clamp (by omega)) ?_
    refine q_st (st2 := [.int (V.1 88 (5 * k + 4)), .int 2, .int (V.1 88 (5 * k + 2)), .int (V.1 88 (5 * k + 1)), .int (V.1 88 (5 * k)), .ref 70]) (by rw [(show ((cmL V k).1 88 (5 * k + 4)) = (V.1 88 (5 * k + 4)) from congrFun (cmL_o (by decide)) _)]) ?_
    refine q_callV (pc := 144) (as := [.int (V.1 88 (5 * k)), .int (V.1 88 (5 * k + 1)), .int (V.1 88 (5 * k + 2)), .int 2, .int (V.1 88 (5 * k + 4))]) (rest := []) (b := 70) (st2 := [.int (nI k)]) rfl ce_X9_comes ml_X9_115 im_X9_comes se_X9_comes hm.1 rfl rfl rfl (by omega) (Nat.le_of_ble_eq_true rfl) (sp_X9_comes (N := k) hm cmL_n (by omega)) rfl ?_
    refine q_istore_n (pc := 147) (j := 2) [some (.ref 70), some (.int (nI k)), some (.int (nI k))] rfl (by decide) rfl ?_
    refine q_iinc (pc := 148) (j := 1) (n := 1) (nI (k + 1)) [some (.ref 70), some (.int (nI (k + 1))), some (.int (nI k))] rfl (by decide) rfl (nI_1 k) rfl ?_
    refine q_goto (pc := 151) 96 rfl (by decide) ?_
    exact q_S cmL_s (ih (k + 1) _ (by omega))
theorem mu_ent {U : PSt} {p : Nat} {l : List PSg} (h : enL U l) : ∀ i q, l[i]? = some q → colE (pSI (rdM U true p) 70 23 0) (5 * i + 0) = q.1 ∧ colE (pSI (rdM U true p) 70 23 0) (5 * i + 1) = q.2.1 ∧ colE (pSI (rdM U true p) 70 23 0) (5 * i + 2) = q.2.2.1 ∧ colE (pSI (rdM U true p) 70 23 0) (5 * i + 3) = 2 ∧ colE (pSI (rdM U true p) 70 23 0) (5 * i + 4) = q.2.2.2 := by
  intro i q hq
  have e : (pSI (rdM U true p) 70 23 0).1 88 = U.1 88 := (pSI_ne (by decide)).trans (rd_o (by decide))
  obtain ⟨h0, h1, h2, h4⟩ := h i q hq
  unfold colE
  rw [e, if_neg (by omega), if_neg (by omega), if_neg (by omega), if_pos (by omega), if_neg (by omega)]
  exact ⟨h0, h1, h2, rfl, h4⟩
set_option maxRecDepth 100000 in
theorem sp_X9_music {sh : List PSh} {S : PSt} (hm : isMo sh) {z : Nat} (hz : S.1 70 23 = nI z) (hz1 : z ≤ 160) : pG mX9_music 4 [.ref 70] sh S (fun r9 T9 => r9 = some (.int (ansE (oMusic (muP (S.1 87) z 160 0)).1 (oMusic (muP (S.1 87) z 160 0)).2)) ∧ muOM S T9 (muP (S.1 87) z 160 0)) := by
  refine pG.of [some (.ref 70), none, none] (by decide) tk_X9_music (Nat.le_of_ble_eq_true rfl) rfl (fun X => ?_)
  refine q_aload_n (pc := 0) (j := 0) rfl rfl ?_
  refine q_iconst (pc := 1) 0 rfl (by decide) ?_
  refine q_putI (pc := 2) (a := 70) rfl fl_X9_264 hm.1 rfl (fun _ h9 => by cases h9; rfl) rfl rfl ?_
  refine q_aload_n (pc := 5) (j := 0) rfl rfl ?_
  refine q_iconst (pc := 6) 1 rfl (by decide) ?_
  refine q_putI (pc := 7) (a := 70) rfl fl_X9_260 hm.1 rfl (fun _ h9 => by cases h9; rfl) rfl rfl ?_
  refine q_aload_n (pc := 10) (j := 0) rfl rfl ?_
  refine q_iconst (pc := 11) 0 rfl (by decide) ?_
  refine q_putI (pc := 12) (a := 70) rfl fl_X9_274 hm.1 rfl (fun _ h9 => by cases h9; rfl) rfl rfl ?_
  refine q_S (S2 := (rdM (pSI S 70 27 0) true 0)) mu0 ?_
  refine q_aload_n (pc := 15) (j := 0) rfl rfl ?_
  refine q_callVG (pc := 16) (as := []) (rest := []) (b := 70) rfl ce_X9_sign ml_X9_283 im_X9_sign se_X9_sign hm.1 rfl rfl rfl (by decide) (Nat.le_of_ble_eq_true rfl) (sp_X9_sign (S := pSI S 70 27 0) (z := z) (m := 0) (p := 0) hm ((pSI_j (by decide)).trans hz) hz1 (Nat.zero_le _) pSI_at (by decide)) (fun r9 S9 h9 => ?_)
  obtain ⟨hr9, hS9⟩ := h9
  subst hr9
  refine q_st (st2 := []) rfl ?_
  refine lp_X9_music (S := S) (b := S.1 87) (R := (muP (S.1 87) z 160 0)) (by decide) hm hz rfl hz1 (fun U g p hF => ?_) 159 [] 0 (pSI S 70 27 0) S9 rfl (Nat.zero_le _) (Nat.zero_le _) (fm_I0 (by decide)) (fun i q h9 => by simp at h9) hS9 rfl
  refine q_aload_n (pc := 35) (j := 0) rfl rfl ?_
  refine q_get (pc := 36) (a := 70) (v := .int ((rdM U g p).1 70 25)) rfl fl_X9_260 hm.1 rfl rfl ?_
  refine q_st (st2 := [.int (pB g)]) (by rw [(show ((rdM U g p).1 70 25) = pB g from rd_g)]) ?_
  refine q_if_eq (pc := 39) 53 rfl (by decide) (fun h39 => ?_) (fun h39 => ?_)
  · refine q_aload_n (pc := 53) (j := 0) rfl rfl ?_
    refine q_iconst (pc := 54) 0 rfl (by decide) ?_
    refine q_putI (pc := 55) (a := 70) rfl fl_X9_257 hm.1 rfl (fun _ h9 => by cases h9; rfl) rfl rfl ?_
    refine q_bipush (pc := 58) (-10) rfl (by decide) ?_
    refine q_aload_n (pc := 60) (j := 0) rfl rfl ?_
    refine q_get (pc := 61) (a := 70) (v := .int ((pSI (rdM U g p) 70 23 0).1 70 24)) rfl fl_X9_264 hm.1 rfl rfl ?_
    refine q_st (st2 := [.int (nI p), .int (-10)]) (by rw [(show ((pSI (rdM U g p) 70 23 0).1 70 24) = nI p from (pSI_j (by decide)).trans rd_p)]) ?_
    refine q_isub (pc := 64) rfl ?_
    exact q_iret (pc := 65) rfl rfl ⟨congrArg (fun v => some (Value.int v)) (by have hne : ¬ (muP (S.1 87) z 160 0).1 = -1 := (fun q9 => by have hF2 := hF.2.2; rw [if_pos q9] at hF2; have h8 := hF2.1; rw [h8] at h39; exact absurd h39 (by decide)); have h7 := hF.2.2; rw [if_neg hne] at h7; rw [oMusic, if_neg hne, ansE, if_pos rfl, h7.1]), (by have hne : ¬ (muP (S.1 87) z 160 0).1 = -1 := (fun q9 => by have hF2 := hF.2.2; rw [if_pos q9] at hF2; have h8 := hF2.1; rw [h8] at h39; exact absurd h39 (by decide)); unfold muOM; rw [if_neg hne]; exact fm_23 (fm_tr hF.1 fm_rd))⟩
  · refine q_aload_n (pc := 42) (j := 0) rfl rfl ?_
    refine q_get (pc := 43) (a := 70) (v := .int ((rdM U g p).1 70 24)) rfl fl_X9_264 hm.1 rfl rfl ?_
    refine q_st (st2 := [.int (nI p)]) (by rw [(show ((rdM U g p).1 70 24) = nI p from rd_p)]) ?_
    refine q_aload_n (pc := 46) (j := 0) rfl rfl ?_
    refine q_get (pc := 47) (a := 70) (v := .int ((rdM U g p).1 70 23)) rfl fl_X9_257 hm.1 rfl rfl ?_
    refine q_st (st2 := [.int (nI z), .int (nI p)]) (by rw [(show ((rdM U g p).1 70 23) = nI z from (rd_j (by decide) (by decide)).trans (hF.1.2.2.trans hz))]) ?_
    refine q_icmp_ge (pc := 50) 66 rfl (by decide) (fun h50 => ?_) (fun h50 => ?_)
    · have hF3 := hF.2.2; have hR1 : (muP (S.1 87) z 160 0).1 = -1 := (by by_cases h9 : (muP (S.1 87) z 160 0).1 = -1; exact h9; rw [if_neg h9] at hF3; have h8 := (nI_leI (a := z) (b := p) (by omega) (by have := hF.2.1; omega)).mp h50; have h7 := pB_t h39; exact absurd hF3.2 (fun q9 => q9.elim (fun q9 => by rw [q9] at h7; exact absurd h7 (by decide)) (fun q9 => by omega))); rw [if_pos hR1] at hF3; obtain ⟨hgt, hzp, hF27, hF4⟩ := hF3; subst hgt
      refine q_aload_n (pc := 66) (j := 0) rfl rfl ?_
      refine q_get (pc := 67) (a := 70) (v := .int ((rdM U true p).1 70 27)) rfl fl_X9_274 hm.1 rfl rfl ?_
      refine q_st (st2 := [.int (nI (muP (S.1 87) z 160 0).2.length)]) (by rw [(show ((rdM U true p).1 70 27) = _ from (rd_j (by decide) (by decide)).trans hF27)]) ?_
      refine q_bipush (pc := 70) 32 rfl (by decide) ?_
      refine q_icmp_le (pc := 72) 82 rfl (by decide) (fun h72 => ?_) (fun h72 => ?_)
      · have hml := muP_len (b := S.1 87) (z := z) 160 0; have hge : ¬ 32 < (muP (S.1 87) z 160 0).2.length := (by have h9 := (nI_leI (a := (muP (S.1 87) z 160 0).2.length) (b := 32) (by omega) (by decide)).mp h72; omega)
        refine q_aload_n (pc := 82) (j := 0) rfl rfl ?_
        refine q_iconst (pc := 83) 0 rfl (by decide) ?_
        refine q_putI (pc := 84) (a := 70) rfl fl_X9_257 hm.1 rfl (fun _ h9 => by cases h9; rfl) rfl rfl ?_
        refine q_aload_n (pc := 87) (j := 0) rfl rfl ?_
        refine q_get (pc := 88) (a := 70) (v := .ref 71) rfl fl_X9_9 hm.1 rfl rfl ?_
        refine q_iconst (pc := 91) 0 rfl (by decide) ?_
        refine q_iconst (pc := 92) 0 rfl (by decide) ?_
        refine q_iast (pc := 93) (a := 71) 0 rfl hm.2.1 (vp_in_nI (n := 0) (by decide) (by decide)) rfl ?_
        refine q_iconst (pc := 94) 0 rfl (by decide) ?_
        refine q_istore_n (pc := 95) (j := 1) [some (.ref 70), some (.int 0), none] rfl (by decide) rfl ?_
        refine q_S cmL_0 (lp_X9_musicC (V := (pSI (rdM U true p) 70 23 0)) (L := (muP (S.1 87) z 160 0).2.length) (by decide) hm (by omega) ((pSI_j (by decide)).trans ((rd_j (by decide) (by decide)).trans hF27)) (fun i o2 => ?_) (muP (S.1 87) z 160 0).2.length 0 none (Nat.zero_add _))
        refine q_aload_n (pc := 154) (j := 0) rfl rfl ?_
        refine q_get (pc := 155) (a := 70) (v := .int ((cmL (pSI (rdM U true p) 70 23 0) (muP (S.1 87) z 160 0).2.length).1 70 27)) rfl fl_X9_274 hm.1 rfl rfl ?_
        refine q_st (st2 := [.int (nI (muP (S.1 87) z 160 0).2.length)]) (by rw [(show ((cmL (pSI (rdM U true p) 70 23 0) (muP (S.1 87) z 160 0).2.length).1 70 27) = _ from (congrFun (cmL_o (by decide)) 27).trans ((pSI_j (by decide)).trans ((rd_j (by decide) (by decide)).trans hF27)))]) ?_
        exact q_iret (pc := 158) rfl rfl ⟨congrArg (fun v => some (Value.int v)) (by rw [oMusic, if_pos hR1, if_neg hge]; rfl), (by unfold muOM; rw [if_pos hR1, if_neg hge]; exact ⟨_, fm_cols hF.1, mu_ent hF4⟩)⟩
      · have hml := muP_len (b := S.1 87) (z := z) 160 0; have hlt : 32 < (muP (S.1 87) z 160 0).2.length := (by have h9 := mt (nI_leI (a := (muP (S.1 87) z 160 0).2.length) (b := 32) (by omega) (by decide)).mpr h72; omega)
        refine q_aload_n (pc := 75) (j := 0) rfl rfl ?_
        refine q_ldc (pc := 76) (v := (-2147483004)) rfl kc_X9_114 ?_
        refine q_callV (pc := 78) (as := [.int (-2147483004)]) (rest := []) (b := 70) (st2 := [.int (-2147483000 - nI 4)]) rfl ce_X9_errs ml_X9_110 im_X9_errs se_X9_errs hm.1 rfl rfl rfl (by decide) (Nat.le_of_ble_eq_true rfl) (sp_X9_errs (e := 4) hm (by decide) (by decide)) rfl ?_
        exact q_iret (pc := 81) rfl rfl ⟨congrArg (fun v => some (Value.int v)) (by rw [oMusic, if_pos hR1, if_pos hlt]; rfl), (by unfold muOM; rw [if_pos hR1, if_pos hlt]; exact fm_er (fm_tr hF.1 fm_rd))⟩
    · refine q_aload_n (pc := 53) (j := 0) rfl rfl ?_
      refine q_iconst (pc := 54) 0 rfl (by decide) ?_
      refine q_putI (pc := 55) (a := 70) rfl fl_X9_257 hm.1 rfl (fun _ h9 => by cases h9; rfl) rfl rfl ?_
      refine q_bipush (pc := 58) (-10) rfl (by decide) ?_
      refine q_aload_n (pc := 60) (j := 0) rfl rfl ?_
      refine q_get (pc := 61) (a := 70) (v := .int ((pSI (rdM U g p) 70 23 0).1 70 24)) rfl fl_X9_264 hm.1 rfl rfl ?_
      refine q_st (st2 := [.int (nI p), .int (-10)]) (by rw [(show ((pSI (rdM U g p) 70 23 0).1 70 24) = nI p from (pSI_j (by decide)).trans rd_p)]) ?_
      refine q_isub (pc := 64) rfl ?_
      exact q_iret (pc := 65) rfl rfl ⟨congrArg (fun v => some (Value.int v)) (by have hne : ¬ (muP (S.1 87) z 160 0).1 = -1 := (fun q9 => by have hF2 := hF.2.2; rw [if_pos q9] at hF2; have h8 := hF2.2.1; exact h50 (nI_le h8 (by have := hF.2.1; omega))); have h7 := hF.2.2; rw [if_neg hne] at h7; rw [oMusic, if_neg hne, ansE, if_pos rfl, h7.1]), (by have hne : ¬ (muP (S.1 87) z 160 0).1 = -1 := (fun q9 => by have hF2 := hF.2.2; rw [if_pos q9] at hF2; have h8 := hF2.2.1; exact h50 (nI_le h8 (by have := hF.2.1; omega))); unfold muOM; rw [if_neg hne]; exact fm_23 (fm_tr hF.1 fm_rd))⟩
