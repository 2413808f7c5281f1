/-! the class's call moved: written by wip/whole/gen/c40.py -/
theorem dif_mono {g g2 : Nat → Int32} {w : Int32} {x n k : Nat} (hk : difV g g2 w x n (k + 1) = true) : ∀ {m : Nat}, k < m → difV g g2 w x n m = true := by
  intro m
  induction m with
  | zero => intro h; omega
  | succ m ih =>
    intro h
    by_cases e : k = m
    · subst e; exact hk
    · unfold difV
      rw [ih (by omega), Bool.true_or]
/-- the bests of the columns and of those told otherwise lie ready -/
def oBe (S : PSt) (N : Nat) : Prop := cIv S N ∧ okG (S.1 60) N ∧ fouV (S.1 3) (S.1 1 2) N = true ∧ fouV (S.1 60) (S.1 1 2) N = true ∧ S.1 48 4 = nI (linV (S.1 60) (S.1 1 2) N) ∧ (∀ j, j ≤ linV (S.1 3) (S.1 1 2) N → S.1 40 j = nI (staV (S.1 3) (S.1 1 2) N j)) ∧ (∀ j, j ≤ linV (S.1 60) (S.1 1 2) N → S.1 51 j = nI (staV (S.1 60) (S.1 1 2) N j)) ∧ S.1 37 4 = nI (linV (S.1 3) (S.1 1 2) N)
theorem oBe_fr {S T : PSt} {N : Nat} (h : oBe S N) (hf : fr 15 29 S T) : oBe T N := by
  obtain ⟨h1, h2, h3, h4, h5, h6, h7, h8⟩ := h
  have e : ∀ x, x < 15 ∨ 29 ≤ x → T.1 x = S.1 x := fun x hx => (hf x hx).1
  refine ⟨cIv_fr h1 (fr_wd hf (by decide) (by decide)), ?_⟩
  rw [e 60 (by omega), e 3 (by omega), e 1 (by omega), e 48 (by omega), e 40 (by omega), e 51 (by omega), e 37 (by omega)]
  exact ⟨h2, h3, h4, h5, h6, h7, h8⟩
set_option maxRecDepth 100000 in
theorem lp_X8_standsOtherwise {n0 : Nat} {X : Nat × (Nat → Int32)} {P : Option Value → PSt → Prop} {d : Nat} (hd9 : 2 ≤ d) {sh : List PSh} {S : PSt} (he : isEl sh) {g g2 : Nat → Int32} {w : Int32} {x n : Nat} {a b : Int32} (hb : b = nI (x + n - 1)) (hn : 0 < n) (hxn : x + n ≤ 32) (h1 : ∀ j, j < n → S.2.1 21 j = atV g w x n j) (h2 : ∀ j, j < n → S.2.1 28 j = atV g2 w x n j) (hf1 : S.1 15 6 = nI x) (hf2 : S.1 22 6 = nI x) (hex : difV g g2 w x n n = false → pV mX8_standsOtherwise d n0 X sh P 137 [some (.ref 0), some (.int a), some (.int (nI x)), some (.int b), some (.int (nI (x + n)))] [] S) (hno : difV g g2 w x n n = true → P (some (.int 1)) S) : ∀ (m k : Nat), k + m = n → difV g g2 w x n k = false → pV mX8_standsOtherwise d n0 X sh P 101 [some (.ref 0), some (.int a), some (.int (nI x)), some (.int b), some (.int (nI (x + k)))] [] S := by
  intro m
  induction m with
  | zero =>
    intro k hk hnt
    have hk9 : n = k := by omega
    subst hk9
    refine q_iload (pc := 101) (j := 4) rfl rfl ?_
    refine q_iload_n (pc := 103) (j := 3) rfl rfl ?_
    refine q_icmp_gt (pc := 104) 137 rfl (by decide) (fun _ => ?_) (fun h9 => absurd (by rw [hb]; exact nI_lt (by omega) (by omega)) h9)
    exact hex hnt
  | succ m ih =>
    intro k hk hnt
    have hk1 : k < n := by omega
    have hk2 : k < n := hk1
    refine q_iload (pc := 101) (j := 4) rfl rfl ?_
    refine q_iload_n (pc := 103) (j := 3) rfl rfl ?_
    refine q_icmp_gt (pc := 104) 137 rfl (by decide) (fun h9 => absurd h9 (by rw [hb]; exact nI_nlt (by omega) (by omega))) (fun _ => ?_)
    refine q_aload_n (pc := 107) (j := 0) rfl rfl ?_
    refine q_get (pc := 108) (a := 0) (v := .ref 15) rfl fl_X8_26 he.1 rfl rfl ?_
    refine q_iload (pc := 111) (j := 4) rfl rfl ?_
    refine q_callV (pc := 113) (as := [.int (nI (x + k))]) (rest := []) (b := 15) (st2 := [.float (S.2.1 21 (x + k - x))]) rfl ce_X6_place ml_X8_155 im_X6_place se_X6_place he.2.2.2.1.1 rfl rfl rfl (by omega) (Nat.le_of_ble_eq_true rfl) (sp_X6_place (a := x) (c := x + k) he.2.2.2.1 hf1 (by omega) (by omega)) rfl ?_
    refine q_aload_n (pc := 116) (j := 0) rfl rfl ?_
    refine q_get (pc := 117) (a := 0) (v := .ref 22) rfl fl_X8_30 he.1 rfl rfl ?_
    refine q_iload (pc := 120) (j := 4) rfl rfl ?_
    refine q_callV (pc := 122) (as := [.int (nI (x + k))]) (rest := [.float (S.2.1 21 (x + k - x))]) (b := 22) (st2 := [.float (S.2.1 28 (x + k - x)), .float (S.2.1 21 (x + k - x))]) rfl ce_X6_place ml_X8_155 im_X6_place se_X6_place he.2.2.2.2.1.1 rfl rfl rfl (by omega) (Nat.le_of_ble_eq_true rfl) (sp_X6_place (a := x) (c := x + k) he.2.2.2.2.1 hf2 (by omega) (by omega)) rfl ?_
    refine q_st (st2 := [.float (atV g2 w x n k), .float (atV g w x n k)]) (by rw [Nat.add_sub_cancel_left, h1 k hk1, h2 k hk1]) ?_
    refine q_fcmp (pc := 125) (op := .l) rfl ?_
    refine q_if_eq (pc := 126) 131 rfl (by decide) (fun h126 => ?_) (fun h126 => ?_)
    · refine q_iinc (pc := 131) (j := 4) (n := 1) (nI (x + (k + 1))) [some (.ref 0), some (.int a), some (.int (nI x)), some (.int b), some (.int (nI (x + (k + 1))))] rfl (by decide) rfl (show nI (x + k) + 1 = nI (x + (k + 1)) from nI_1 (x + k)) rfl ?_
      refine q_goto (pc := 134) 101 rfl (by decide) ?_
      exact ih (k + 1) (by omega) (by rw [difV, hnt, decide_eq_true h126]; rfl)
    · refine q_iconst (pc := 129) 1 rfl (by decide) ?_
      exact q_zret (pc := 130) rfl rfl rfl (hno (dif_mono (k := k) (by rw [difV, decide_eq_false h126]; exact Bool.or_true _) hk1))
set_option maxRecDepth 100000 in
theorem sp_X8_standsOtherwise {sh : List PSh} {S : PSt} {N k : Nat} (he : isEl sh) (ho : oBe S N) (hk : k < linV (S.1 3) (S.1 1 2) N) : pG mX8_standsOtherwise 6 [.ref 0, .int (nI k)] sh S (fun r T => r = some (.int (pB (othV (S.1 3) (S.1 60) (S.1 1 2) N k))) ∧ fr 15 29 S T) := by
  obtain ⟨⟨hN, hN2, hg, hw⟩, hg2, hfo, hfo2, hl2, hst, hst2, hl1⟩ := ho
  have hL1 := lin_le (g := S.1 3) (w := S.1 1 2) hN2 hfo
  have hL2 := lin_le (g := S.1 60) (w := S.1 1 2) hN2 hfo2
  have hlt := sta_lt (g := S.1 3) (w := S.1 1 2) hN2 hfo hk
  refine pG.of [some (.ref 0), some (.int (nI k)), none, none, none] (by decide) tk_X8_standsOtherwise (Nat.le_of_ble_eq_true rfl) rfl (fun X => ?_)
  refine q_aload_n (pc := 0) (j := 0) rfl rfl ?_
  refine q_get (pc := 1) (a := 0) (v := .ref 37) rfl fl_X8_46 he.1 rfl rfl ?_
  refine q_iload_n (pc := 4) (j := 1) rfl rfl ?_
  refine q_callV (pc := 5) (as := [.int (nI k)]) (rest := []) (b := 37) (st2 := [.int (S.1 40 k)]) rfl ce_X0_first ml_X8_198 im_X0_first se_X0_first he.2.2.2.2.2.2.2.1.1 rfl rfl rfl (by decide) (Nat.le_of_ble_eq_true rfl) (sp_X0_first (x := k) he.2.2.2.2.2.2.2.1 (by omega)) rfl ?_
  refine q_st (st2 := [.int (nI (staV (S.1 3) (S.1 1 2) N k))]) (by rw [(show (S.1 40 k) = nI (staV (S.1 3) (S.1 1 2) N k) from hst k (by omega))]) ?_
  refine q_istore_n (pc := 8) (j := 2) [some (.ref 0), some (.int (nI k)), some (.int (nI (staV (S.1 3) (S.1 1 2) N k))), none, none] rfl (by decide) rfl ?_
  refine q_aload_n (pc := 9) (j := 0) rfl rfl ?_
  refine q_get (pc := 10) (a := 0) (v := .ref 37) rfl fl_X8_46 he.1 rfl rfl ?_
  refine q_iload_n (pc := 13) (j := 1) rfl rfl ?_
  refine q_callV (pc := 14) (as := [.int (nI k)]) (rest := []) (b := 37) (st2 := [.int (S.1 40 (k + 1) - 1)]) rfl ce_X0_last ml_X8_201 im_X0_last se_X0_last he.2.2.2.2.2.2.2.1.1 rfl rfl rfl (by decide) (Nat.le_of_ble_eq_true rfl) (sp_X0_last (x := k) he.2.2.2.2.2.2.2.1 (by omega)) rfl ?_
  refine q_st (st2 := [.int (nI ((staV (S.1 3) (S.1 1 2) N (k + 1)) - 1))]) (by rw [show (S.1 40 (k + 1) - 1) = (nI ((staV (S.1 3) (S.1 1 2) N (k + 1)) - 1)) from (by rw [show S.1 40 (k + 1) = nI (staV (S.1 3) (S.1 1 2) N (k + 1)) from hst (k + 1) (by omega)]; exact pk_sub (b := 1) (by omega))]) ?_
  refine q_istore_n (pc := 17) (j := 3) [some (.ref 0), some (.int (nI k)), some (.int (nI (staV (S.1 3) (S.1 1 2) N k))), some (.int (nI ((staV (S.1 3) (S.1 1 2) N (k + 1)) - 1))), none] rfl (by decide) rfl ?_
  refine q_iload_n (pc := 18) (j := 1) rfl rfl ?_
  refine q_aload_n (pc := 19) (j := 0) rfl rfl ?_
  refine q_get (pc := 20) (a := 0) (v := .ref 48) rfl fl_X8_50 he.1 rfl rfl ?_
  refine q_get (pc := 23) (a := 48) (v := .int (S.1 48 4)) rfl fl_X8_195 he.2.2.2.2.2.2.2.2.1.1 rfl rfl ?_
  refine q_st (st2 := [.int (nI (linV (S.1 60) (S.1 1 2) N)), .int (nI k)]) (by rw [(show (S.1 48 4) = nI (linV (S.1 60) (S.1 1 2) N) from hl2)]) ?_
  refine q_icmp_ge (pc := 26) 53 rfl (by decide) (fun h26 => ?_) (fun h26 => ?_)
  · refine q_iconst (pc := 53) 1 rfl (by decide) ?_
    exact q_zret (pc := 54) rfl rfl rfl ⟨congrArg (fun v => some (Value.int v)) (by rw [show (othV (S.1 3) (S.1 60) (S.1 1 2) N k) = true from (by rw [othV, decide_eq_true ((nI_leI (by omega) (by omega)).mp h26), Bool.true_or])]; rfl), fr_rf⟩
  · have hk2 : k < linV (S.1 60) (S.1 1 2) N := (by have h9 := mt (nI_leI (a := linV (S.1 60) (S.1 1 2) N) (b := k) (by omega) (by omega)).mpr h26; omega); have hlt2 := sta_lt (g := S.1 60) (w := S.1 1 2) hN2 hfo2 hk2
    refine q_iload_n (pc := 29) (j := 2) rfl rfl ?_
    refine q_aload_n (pc := 30) (j := 0) rfl rfl ?_
    refine q_get (pc := 31) (a := 0) (v := .ref 48) rfl fl_X8_50 he.1 rfl rfl ?_
    refine q_iload_n (pc := 34) (j := 1) rfl rfl ?_
    refine q_callV (pc := 35) (as := [.int (nI k)]) (rest := [.int (nI (staV (S.1 3) (S.1 1 2) N k))]) (b := 48) (st2 := [.int (S.1 51 k), .int (nI (staV (S.1 3) (S.1 1 2) N k))]) rfl ce_X0_first ml_X8_198 im_X0_first se_X0_first he.2.2.2.2.2.2.2.2.1.1 rfl rfl rfl (by decide) (Nat.le_of_ble_eq_true rfl) (sp_X0_first (x := k) he.2.2.2.2.2.2.2.2.1 (by omega)) rfl ?_
    refine q_st (st2 := [.int (nI (staV (S.1 60) (S.1 1 2) N k)), .int (nI (staV (S.1 3) (S.1 1 2) N k))]) (by rw [(show (S.1 51 k) = nI (staV (S.1 60) (S.1 1 2) N k) from hst2 k (by omega))]) ?_
    refine q_icmp_ne (pc := 38) 53 rfl (by decide) (fun h38 => ?_) (fun h38 => ?_)
    · refine q_iconst (pc := 53) 1 rfl (by decide) ?_
      exact q_zret (pc := 54) rfl rfl rfl ⟨congrArg (fun v => some (Value.int v)) (by rw [show (othV (S.1 3) (S.1 60) (S.1 1 2) N k) = true from (by unfold othV; rw [show decide ((staV (S.1 3) (S.1 1 2) N k) = (staV (S.1 60) (S.1 1 2) N k)) = false from decide_eq_false (fun q9 => h38 (by rw [q9]))]; simp)]; rfl), fr_rf⟩
    · refine q_iload_n (pc := 41) (j := 3) rfl rfl ?_
      refine q_aload_n (pc := 42) (j := 0) rfl rfl ?_
      refine q_get (pc := 43) (a := 0) (v := .ref 48) rfl fl_X8_50 he.1 rfl rfl ?_
      refine q_iload_n (pc := 46) (j := 1) rfl rfl ?_
      refine q_callV (pc := 47) (as := [.int (nI k)]) (rest := [.int (nI ((staV (S.1 3) (S.1 1 2) N (k + 1)) - 1))]) (b := 48) (st2 := [.int (S.1 51 (k + 1) - 1), .int (nI ((staV (S.1 3) (S.1 1 2) N (k + 1)) - 1))]) rfl ce_X0_last ml_X8_201 im_X0_last se_X0_last he.2.2.2.2.2.2.2.2.1.1 rfl rfl rfl (by decide) (Nat.le_of_ble_eq_true rfl) (sp_X0_last (x := k) he.2.2.2.2.2.2.2.2.1 (by omega)) rfl ?_
      refine q_st (st2 := [.int (nI ((staV (S.1 60) (S.1 1 2) N (k + 1)) - 1)), .int (nI ((staV (S.1 3) (S.1 1 2) N (k + 1)) - 1))]) (by rw [show (S.1 51 (k + 1) - 1) = (nI ((staV (S.1 60) (S.1 1 2) N (k + 1)) - 1)) from (by rw [show S.1 51 (k + 1) = nI (staV (S.1 60) (S.1 1 2) N (k + 1)) from hst2 (k + 1) (by omega)]; exact pk_sub (b := 1) (by omega))]) ?_
      refine q_icmp_eq (pc := 50) 55 rfl (by decide) (fun h50 => ?_) (fun h50 => ?_)
      · refine q_aload_n (pc := 55) (j := 0) rfl rfl ?_
        refine q_get (pc := 56) (a := 0) (v := .ref 15) rfl fl_X8_26 he.1 rfl rfl ?_
        refine q_aload_n (pc := 59) (j := 0) rfl rfl ?_
        refine q_get (pc := 60) (a := 0) (v := .ref 1) rfl fl_X8_10 he.1 rfl rfl ?_
        refine q_get (pc := 63) (a := 1) (v := .ref 2) rfl fl_X8_90 he.2.1.1 rfl rfl ?_
        refine q_iload_n (pc := 66) (j := 2) rfl rfl ?_
        refine q_iload_n (pc := 67) (j := 3) rfl rfl ?_
        refine q_aload_n (pc := 68) (j := 0) rfl rfl ?_
        refine q_get (pc := 69) (a := 0) (v := .ref 1) rfl fl_X8_10 he.1 rfl rfl ?_
        refine q_get (pc := 72) (a := 1) (v := .int (S.1 1 2)) rfl fl_X8_134 he.2.1.1 rfl rfl ?_
        refine q_callV (pc := 75) (as := [.ref 2, .int (nI (staV (S.1 3) (S.1 1 2) N k)), .int (nI ((staV (S.1 3) (S.1 1 2) N (k + 1)) - 1)), .int (S.1 1 2)]) (rest := []) (b := 15) (st2 := []) rfl ce_X6_settle ml_X8_140 im_X6_settle se_X6_settle he.2.2.2.1.1 rfl rfl rfl (by decide) (Nat.le_of_ble_eq_true rfl) (sp_settleG (N := N) (x := (staV (S.1 3) (S.1 1 2) N k)) (y := (staV (S.1 3) (S.1 1 2) N (k + 1)) - 1) he.2.2.2.1 he.2.1.2.1 (by decide) hg hw hN2 (by omega) (by omega)) rfl ?_
        refine q_aload_n (pc := 78) (j := 0) rfl rfl ?_
        refine q_get (pc := 79) (a := 0) (v := .ref 22) rfl fl_X8_30 he.1 rfl rfl ?_
        refine q_aload_n (pc := 82) (j := 0) rfl rfl ?_
        refine q_get (pc := 83) (a := 0) (v := .ref 59) rfl fl_X8_56 he.1 rfl rfl ?_
        refine q_iload_n (pc := 86) (j := 2) rfl rfl ?_
        refine q_iload_n (pc := 87) (j := 3) rfl rfl ?_
        refine q_aload_n (pc := 88) (j := 0) rfl rfl ?_
        refine q_get (pc := 89) (a := 0) (v := .ref 1) rfl fl_X8_10 he.1 rfl rfl ?_
        refine q_get (pc := 92) (a := 1) (v := .int ((stl S 15 2 (staV (S.1 3) (S.1 1 2) N k) (S.1 1 2) ((staV (S.1 3) (S.1 1 2) N (k + 1)) - 1 - (staV (S.1 3) (S.1 1 2) N k) + 1)).1 1 2)) rfl fl_X8_134 he.2.1.1 rfl rfl ?_
        refine q_st (st2 := [.int (S.1 1 2), .int (nI ((staV (S.1 3) (S.1 1 2) N (k + 1)) - 1)), .int (nI (staV (S.1 3) (S.1 1 2) N k)), .ref 59, .ref 22]) (by rw [(show ((stl S 15 2 (staV (S.1 3) (S.1 1 2) N k) (S.1 1 2) ((staV (S.1 3) (S.1 1 2) N (k + 1)) - 1 - (staV (S.1 3) (S.1 1 2) N k) + 1)).1 1 2) = S.1 1 2 from congrFun (fr_stl (S := S) (r := 15) 1 (by omega)).1 2)]) ?_
        refine q_callV (pc := 95) (as := [.ref 59, .int (nI (staV (S.1 3) (S.1 1 2) N k)), .int (nI ((staV (S.1 3) (S.1 1 2) N (k + 1)) - 1)), .int (S.1 1 2)]) (rest := []) (b := 22) (st2 := []) rfl ce_X6_settle ml_X8_140 im_X6_settle se_X6_settle he.2.2.2.2.1.1 rfl rfl rfl (by decide) (Nat.le_of_ble_eq_true rfl) (sp_settleG (S := (stl S 15 2 (staV (S.1 3) (S.1 1 2) N k) (S.1 1 2) ((staV (S.1 3) (S.1 1 2) N (k + 1)) - 1 - (staV (S.1 3) (S.1 1 2) N k) + 1))) (N := N) (x := (staV (S.1 3) (S.1 1 2) N k)) (y := (staV (S.1 3) (S.1 1 2) N (k + 1)) - 1) he.2.2.2.2.1 he.2.2.2.2.2.2.2.2.2.1 (by decide) (by rw [show (stl S 15 2 (staV (S.1 3) (S.1 1 2) N k) (S.1 1 2) ((staV (S.1 3) (S.1 1 2) N (k + 1)) - 1 - (staV (S.1 3) (S.1 1 2) N k) + 1)).1 (59 + 1) = S.1 60 from (fr_stl 60 (by omega)).1]; exact hg2) hw hN2 (by omega) (by omega)) rfl ?_
        refine q_iload_n (pc := 98) (j := 2) rfl rfl ?_
        refine q_istore (pc := 99) (j := 4) [some (.ref 0), some (.int (nI k)), some (.int (nI (staV (S.1 3) (S.1 1 2) N k))), some (.int (nI ((staV (S.1 3) (S.1 1 2) N (k + 1)) - 1))), some (.int (nI (staV (S.1 3) (S.1 1 2) N k)))] rfl (by decide) rfl ?_
        have e38 : (staV (S.1 3) (S.1 1 2) N k) = (staV (S.1 60) (S.1 1 2) N k) := (nI_eq (by omega) (by omega)).mp h38; have e50 : (staV (S.1 3) (S.1 1 2) N (k + 1)) = (staV (S.1 60) (S.1 1 2) N (k + 1)) := (by have h9 := (nI_eq (by omega) (by omega)).mp h50; omega); have ho9 : (othV (S.1 3) (S.1 60) (S.1 1 2) N k) = difV (S.1 3) (S.1 60) (S.1 1 2) (staV (S.1 3) (S.1 1 2) N k) ((staV (S.1 3) (S.1 1 2) N (k + 1)) - (staV (S.1 3) (S.1 1 2) N k)) ((staV (S.1 3) (S.1 1 2) N (k + 1)) - (staV (S.1 3) (S.1 1 2) N k)) := (by unfold othV; rw [decide_eq_false (show ¬ linV (S.1 60) (S.1 1 2) N ≤ k by omega), decide_eq_true e38, decide_eq_true e50]; rfl); have hn9 : (staV (S.1 3) (S.1 1 2) N (k + 1)) - 1 - (staV (S.1 3) (S.1 1 2) N k) + 1 = ((staV (S.1 3) (S.1 1 2) N (k + 1)) - (staV (S.1 3) (S.1 1 2) N k)) := (by omega); have hfr : fr 15 29 S (stl (stl S 15 2 (staV (S.1 3) (S.1 1 2) N k) (S.1 1 2) ((staV (S.1 3) (S.1 1 2) N (k + 1)) - 1 - (staV (S.1 3) (S.1 1 2) N k) + 1)) 22 59 (staV (S.1 3) (S.1 1 2) N k) (S.1 1 2) ((staV (S.1 3) (S.1 1 2) N (k + 1)) - 1 - (staV (S.1 3) (S.1 1 2) N k) + 1)) := fr_tr (fr_wd fr_stl (by decide) (by decide)) (fr_wd fr_stl (by decide) (by decide)); refine q_L (L2 := [some (.ref 0), some (.int (nI k)), some (.int (nI (staV (S.1 3) (S.1 1 2) N k))), some (.int (nI ((staV (S.1 3) (S.1 1 2) N (k + 1)) - 1))), some (.int (nI ((staV (S.1 3) (S.1 1 2) N k) + 0)))]) rfl (lp_X8_standsOtherwise (S := (stl (stl S 15 2 (staV (S.1 3) (S.1 1 2) N k) (S.1 1 2) ((staV (S.1 3) (S.1 1 2) N (k + 1)) - 1 - (staV (S.1 3) (S.1 1 2) N k) + 1)) 22 59 (staV (S.1 3) (S.1 1 2) N k) (S.1 1 2) ((staV (S.1 3) (S.1 1 2) N (k + 1)) - 1 - (staV (S.1 3) (S.1 1 2) N k) + 1))) (g := S.1 3) (g2 := S.1 60) (w := S.1 1 2) (x := (staV (S.1 3) (S.1 1 2) N k)) (n := ((staV (S.1 3) (S.1 1 2) N (k + 1)) - (staV (S.1 3) (S.1 1 2) N k))) (by decide) he (by rw [show (staV (S.1 3) (S.1 1 2) N k) + ((staV (S.1 3) (S.1 1 2) N (k + 1)) - (staV (S.1 3) (S.1 1 2) N k)) - 1 = (staV (S.1 3) (S.1 1 2) N (k + 1)) - 1 by omega]) (by omega) (by omega) (fun j hj => by rw [show (stl (stl S 15 2 (staV (S.1 3) (S.1 1 2) N k) (S.1 1 2) ((staV (S.1 3) (S.1 1 2) N (k + 1)) - 1 - (staV (S.1 3) (S.1 1 2) N k) + 1)) 22 59 (staV (S.1 3) (S.1 1 2) N k) (S.1 1 2) ((staV (S.1 3) (S.1 1 2) N (k + 1)) - 1 - (staV (S.1 3) (S.1 1 2) N k) + 1)).2.1 21 = (stl S 15 2 (staV (S.1 3) (S.1 1 2) N k) (S.1 1 2) ((staV (S.1 3) (S.1 1 2) N (k + 1)) - 1 - (staV (S.1 3) (S.1 1 2) N k) + 1)).2.1 21 from (fr_stl 21 (by omega)).2.1, ← hn9]; exact stl_at (r := 15) (q := 2) (by omega) (by omega)) (fun j hj => by have h8 := stl_at (S := (stl S 15 2 (staV (S.1 3) (S.1 1 2) N k) (S.1 1 2) ((staV (S.1 3) (S.1 1 2) N (k + 1)) - 1 - (staV (S.1 3) (S.1 1 2) N k) + 1))) (r := 22) (q := 59) (a := (staV (S.1 3) (S.1 1 2) N k)) (n := (staV (S.1 3) (S.1 1 2) N (k + 1)) - 1 - (staV (S.1 3) (S.1 1 2) N k) + 1) (w := S.1 1 2) (j := j) (by omega) (by omega); rw [show (stl S 15 2 (staV (S.1 3) (S.1 1 2) N k) (S.1 1 2) ((staV (S.1 3) (S.1 1 2) N (k + 1)) - 1 - (staV (S.1 3) (S.1 1 2) N k) + 1)).1 (59 + 1) = S.1 60 from (fr_stl 60 (by omega)).1] at h8; rw [← hn9]; exact h8) ((congrFun (fr_stl (S := (stl S 15 2 (staV (S.1 3) (S.1 1 2) N k) (S.1 1 2) ((staV (S.1 3) (S.1 1 2) N (k + 1)) - 1 - (staV (S.1 3) (S.1 1 2) N k) + 1))) (r := 22) (q := 59) 15 (by omega)).1 6).trans stl_6) stl_6 (fun hnt => ?_) (fun hnt => ⟨congrArg (fun v => some (Value.int v)) (by rw [ho9, hnt]; rfl), hfr⟩) ((staV (S.1 3) (S.1 1 2) N (k + 1)) - (staV (S.1 3) (S.1 1 2) N k)) 0 (Nat.zero_add _) rfl)
        refine q_iconst (pc := 137) 0 rfl (by decide) ?_
        exact q_zret (pc := 138) rfl rfl rfl ⟨congrArg (fun v => some (Value.int v)) (by rw [ho9, hnt]; rfl), hfr⟩
      · refine q_iconst (pc := 53) 1 rfl (by decide) ?_
        exact q_zret (pc := 54) rfl rfl rfl ⟨congrArg (fun v => some (Value.int v)) (by rw [show (othV (S.1 3) (S.1 60) (S.1 1 2) N k) = true from (by unfold othV; rw [show decide ((staV (S.1 3) (S.1 1 2) N (k + 1)) = (staV (S.1 60) (S.1 1 2) N (k + 1))) = false from decide_eq_false (fun q9 => h50 (by rw [q9]))]; simp)]; rfl), fr_rf⟩
/-- the columns told otherwise -/
def mvS (S : PSt) (x : Nat) (step dur : Int32) : PSt := if dur = 0 then pSI (cpI S 3 60 180) 60 (5 * x + 2) step else pSI (pSI (cpI S 3 60 180) 60 (5 * x + 2) step) 60 (5 * x + 1) dur
def mv2 (S : PSt) (x : Nat) (step dur : Int32) : Nat → Int32 := (mvS S x step dur).1 60
theorem mv_fr {S : PSt} {x : Nat} {step dur : Int32} : fr 60 61 S (mvS S x step dur) := by
  unfold mvS
  split
  · exact fr_tr (fr_cpI (by decide) (by decide)) (fr_I (by decide) (by decide))
  · exact fr_tr (fr_tr (fr_cpI (by decide) (by decide)) (fr_I (by decide) (by decide))) (fr_I (by decide) (by decide))
theorem mv_G {S : PSt} {x j : Nat} {step dur : Int32} (hj : j < 180) : mv2 S x step dur j = movG (S.1 3) x step dur j := by
  unfold mv2 mvS movG
  by_cases h : dur = 0
  · rw [if_pos h]
    simp [pSI, pU, cpI, h, hj]
  · rw [if_neg h]
    simp [pSI, pU, cpI, h, hj]
theorem isDur_al {d : Int32} (h : pAl 1 d = true) : isDur d := by
  have h := of_decide_eq_true h
  rw [show (pLeast 1).toInt = 1 by decide, show (pMost 1).toInt = 64 by decide] at h
  obtain ⟨k, hk, e⟩ := i_of_nat (x := d) (lo := 1) (n := 64) h.1 (by omega) (by decide)
  exact ⟨k, hk, by rw [e, Nat.add_comm]⟩
theorem mv_ok {S : PSt} {N x : Nat} {step dur : Int32} (hN : N ≤ 32) (hg : okG (S.1 3) N) (hs : pAl 2 step = true) (hd : dur = 0 ∨ pAl 1 dur = true) : okG (mv2 S x step dur) N := by
  have hs := of_decide_eq_true hs
  rw [show (pLeast 2).toInt = -12 by decide, show (pMost 2).toInt = 20 by decide] at hs
  intro i hi
  have h := hg i hi
  unfold okC
  rw [mv_G (by omega), mv_G (by omega), mv_G (by omega), mv_G (by omega), mv_G (by omega)]
  unfold movG
  rw [if_neg (by omega), if_neg (by omega), if_neg (show ¬ (¬ dur = 0 ∧ 5 * i + 2 = 5 * x + 1) by omega), if_neg (show ¬ (¬ dur = 0 ∧ 5 * i + 3 = 5 * x + 1) by omega), if_neg (show ¬ (5 * i + 3 = 5 * x + 2) by omega), if_neg (show ¬ (¬ dur = 0 ∧ 5 * i + 4 = 5 * x + 1) by omega), if_neg (show ¬ (5 * i + 4 = 5 * x + 2) by omega), if_neg (show ¬ (5 * i + 1 = 5 * x + 2) by omega)]
  refine ⟨h.1, ?_, ?_, h.2.2.2⟩
  · split
    · rename_i h9
      exact isDur_al (hd.resolve_left h9.1)
    · exact h.2.1
  · split
    · exact hs
    · exact h.2.2.1
/-- both bests are found -/
def mbS (S : PSt) (N x : Nat) (step dur : Int32) : PSt := fnG (fbS (mvS S x step dur) N) 48 59 N (S.1 1 2)
theorem mb_fr {S : PSt} {N x : Nat} {step dur : Int32} : fr 15 61 S (mbS S N x step dur) := fr_tr (fr_wd mv_fr (by decide) (by decide)) (fr_tr fb_fr (fr_wd fr_fnG (by decide) (by decide)))
theorem mb_I {S : PSt} {N x c : Nat} {step dur : Int32} (h1 : c < 37 ∨ 59 ≤ c) (h2 : c ≠ 60) : (mbS S N x step dur).1 c = S.1 c :=
  ((fr_fnG (r := 48)) c (by omega)).1.trans ((fb_fr2 c (by omega)).1.trans ((mv_fr (x := x) (step := step) (dur := dur)) c (by omega)).1)
theorem mb_60 {S : PSt} {N x : Nat} {step dur : Int32} : (mbS S N x step dur).1 60 = mv2 S x step dur := ((fr_fnG (r := 48)) 60 (by omega)).1.trans (fb_fr2 60 (by omega)).1
theorem mv_3 {S : PSt} {x : Nat} {step dur : Int32} : (mvS S x step dur).1 3 = S.1 3 ∧ (mvS S x step dur).1 1 = S.1 1 := ⟨(mv_fr 3 (by omega)).1, (mv_fr 1 (by omega)).1⟩
theorem fbm_60 {S : PSt} {N x : Nat} {step dur : Int32} : (fbS (mvS S x step dur) N).1 (59 + 1) = mv2 S x step dur := (fb_fr2 60 (by omega)).1
theorem mb_5 {S : PSt} {N x : Nat} {step dur : Int32} : (mbS S N x step dur).1 48 5 = pB (fouV (mv2 S x step dur) (S.1 1 2) N) := by
  have h := fn_5 (S := fbS (mvS S x step dur) N) (r := 48) (q := 59) (n := N) (w := S.1 1 2) (by decide)
  rw [fbm_60] at h
  exact h
theorem mb_37 {S : PSt} {N x : Nat} {step dur : Int32} {c : Nat} (hc : 37 ≤ c) (hc2 : c < 48) : (mbS S N x step dur).1 c = (fbS (mvS S x step dur) N).1 c := ((fr_fnG (r := 48)) c (by omega)).1
theorem mb_5a {S : PSt} {N x : Nat} {step dur : Int32} : (mbS S N x step dur).1 37 5 = pB (fouV (S.1 3) (S.1 1 2) N) := by
  rw [mb_37 (by decide) (by decide), fb_5, mv_3.1, mv_3.2]
theorem mb_be {S : PSt} {N x : Nat} {step dur : Int32} (hi : cIv S N) (hg2 : okG (mv2 S x step dur) N) (h1 : fouV (S.1 3) (S.1 1 2) N = true) (h2 : fouV (mv2 S x step dur) (S.1 1 2) N = true) : oBe (mbS S N x step dur) N := by
  refine ⟨cIv_fr hi mb_fr, ?_⟩
  rw [mb_60, mb_I (c := 3) (by omega) (by omega), mb_I (c := 1) (by omega) (by omega)]
  have h1' : fouV ((mvS S x step dur).1 3) ((mvS S x step dur).1 1 2) N = true := by rw [mv_3.1, mv_3.2]; exact h1
  have e4 := fn_4 (S := fbS (mvS S x step dur) N) (r := 48) (q := 59) (n := N) (w := S.1 1 2) (by decide)
  rw [fbm_60] at e4
  refine ⟨hg2, h1, h2, e4 h2, fun j hj => ?_, fun j hj => ?_, ?_⟩
  · have h := fb_st (S := mvS S x step dur) hi.2.1 h1' (k := j) (by rw [mv_3.1, mv_3.2]; exact hj)
    rw [mv_3.1, mv_3.2] at h
    rw [mb_37 (by decide) (by decide)]
    exact h
  · have h := fn_sta (S := fbS (mvS S x step dur) N) (r := 48) (q := 59) (n := N) (w := S.1 1 2) (k := j) (by decide) hi.2.1
    rw [fbm_60] at h
    exact h h2 hj
  · have h := fb_4 (S := mvS S x step dur) h1'
    rw [mv_3.1, mv_3.2] at h
    rw [mb_37 (by decide) (by decide)]
    exact h
set_option maxRecDepth 100000 in
theorem lp_X8_moved {n0 : Nat} {X : Nat × (Nat → Int32)} {P : Option Value → PSt → Prop} {d : Nat} (hd9 : 8 ≤ d) {sh : List PSh} (he : isEl sh) {U : PSt} {g g2 : Nat → Int32} {w : Int32} {N x : Nat} {step dur f : Int32} (hL : linV g w N ≤ 32) (hex : ∀ T, fr 15 61 U T → pV mX8_moved d n0 X sh P 176 [some (.ref 0), some (.int (nI x)), some (.int step), some (.int dur), some (.int f), some (.int (nI (movN g g2 w N (linV g w N)))), some (.int (nI (linV g w N)))] [] T) : ∀ (m k : Nat) (T : PSt), k + m = (linV g w N) → oBe T N → (T.1 3 = g ∧ T.1 60 = g2 ∧ T.1 1 2 = w) → fr 15 61 U T → pV mX8_moved d n0 X sh P 146 [some (.ref 0), some (.int (nI x)), some (.int step), some (.int dur), some (.int f), some (.int (nI (movN g g2 w N k))), some (.int (nI k))] [] T := by
  intro m
  induction m with
  | zero =>
    intro k T hk hT hgT hfT
    have hk9 : (linV g w N) = k := by omega
    subst hk9
    refine q_iload (pc := 146) (j := 6) rfl rfl ?_
    refine q_aload_n (pc := 148) (j := 0) rfl rfl ?_
    refine q_get (pc := 149) (a := 0) (v := .ref 37) rfl fl_X8_46 he.1 rfl rfl ?_
    refine q_get (pc := 152) (a := 37) (v := .int (T.1 37 4)) rfl fl_X8_195 he.2.2.2.2.2.2.2.1.1 rfl rfl ?_
    refine q_st (st2 := [.int (nI (linV g w N)), .int (nI (linV g w N))]) (by rw [(show T.1 37 4 = nI (linV g w N) from (by rw [← hgT.1, ← hgT.2.2]; exact hT.2.2.2.2.2.2.2))]) ?_
    refine q_icmp_ge (pc := 155) 176 rfl (by decide) (fun _ => ?_) (fun h9 => absurd (Int32.le_refl _) h9)
    exact hex _ hfT
  | succ m ih =>
    intro k T hk hT hgT hfT
    have hk1 : k < (linV g w N) := by omega
    have hk2 : k < (linV g w N) := hk1
    refine q_iload (pc := 146) (j := 6) rfl rfl ?_
    refine q_aload_n (pc := 148) (j := 0) rfl rfl ?_
    refine q_get (pc := 149) (a := 0) (v := .ref 37) rfl fl_X8_46 he.1 rfl rfl ?_
    refine q_get (pc := 152) (a := 37) (v := .int (T.1 37 4)) rfl fl_X8_195 he.2.2.2.2.2.2.2.1.1 rfl rfl ?_
    refine q_st (st2 := [.int (nI (linV g w N)), .int (nI k)]) (by rw [(show T.1 37 4 = nI (linV g w N) from (by rw [← hgT.1, ← hgT.2.2]; exact hT.2.2.2.2.2.2.2))]) ?_
    refine q_icmp_ge (pc := 155) 176 rfl (by decide) (fun h9 => absurd h9 (nI_ge hk1 (by omega))) (fun _ => ?_)
    refine q_aload_n (pc := 158) (j := 0) rfl rfl ?_
    refine q_iload (pc := 159) (j := 6) rfl rfl ?_
    refine q_callVG (pc := 161) (as := [.int (nI k)]) (rest := []) (b := 0) rfl ce_X8_standsOtherwise ml_X8_215 im_X8_standsOtherwise se_X8_standsOtherwise he.1 rfl rfl rfl (by omega) (Nat.le_of_ble_eq_true rfl) (sp_X8_standsOtherwise (S := T) (k := k) he hT (by rw [hgT.1, hgT.2.2]; exact hk1)) (fun r9 S9 h9 => ?_)
    obtain ⟨hr9, hf9⟩ := h9
    subst hr9
    have ho9 : othV (T.1 3) (T.1 60) (T.1 1 2) N k = othV g g2 w N k := (by rw [hgT.1, hgT.2.1, hgT.2.2])
    refine q_if_eq (pc := 164) 170 rfl (by decide) (fun h164 => ?_) (fun h164 => ?_)
    · refine q_iinc (pc := 170) (j := 6) (n := 1) (nI (k + 1)) [some (.ref 0), some (.int (nI x)), some (.int step), some (.int dur), some (.int f), some (.int (nI (movN g g2 w N k))), some (.int (nI (k + 1)))] rfl (by decide) rfl (nI_1 k) rfl ?_
      refine q_goto (pc := 173) 146 rfl (by decide) ?_
      exact q_L (by rw [movN, if_neg (by rw [← ho9, pB_f h164]; decide)]) (ih (k + 1) S9 (by omega) (oBe_fr hT hf9) (by rw [(hf9 3 (by omega)).1, (hf9 60 (by omega)).1, (hf9 1 (by omega)).1]; exact hgT) (fr_tr hfT (fr_wd hf9 (by decide) (by decide))))
    · refine q_iinc (pc := 167) (j := 5) (n := 1) (nI (movN g g2 w N k + 1)) [some (.ref 0), some (.int (nI x)), some (.int step), some (.int dur), some (.int f), some (.int (nI (movN g g2 w N k + 1))), some (.int (nI k))] rfl (by decide) rfl (nI_1 _) rfl ?_
      refine q_iinc (pc := 170) (j := 6) (n := 1) (nI (k + 1)) [some (.ref 0), some (.int (nI x)), some (.int step), some (.int dur), some (.int f), some (.int (nI (movN g g2 w N k + 1))), some (.int (nI (k + 1)))] rfl (by decide) rfl (nI_1 k) rfl ?_
      refine q_goto (pc := 173) 146 rfl (by decide) ?_
      exact q_L (by rw [movN, if_pos (by rw [← ho9, pB_t h164])]) (ih (k + 1) S9 (by omega) (oBe_fr hT hf9) (by rw [(hf9 3 (by omega)).1, (hf9 60 (by omega)).1, (hf9 1 (by omega)).1]; exact hgT) (fr_tr hfT (fr_wd hf9 (by decide) (by decide))))
set_option maxRecDepth 100000 in
theorem sp_X8_moved {sh : List PSh} {S : PSt} {N : Nat} (he : isEl sh) (hi : cIv S N) {c step dur : Int32} : pG mX8_moved 8 [.ref 0, .int c, .int step, .int dur] sh S (pA (oMoved (S.1 3) (mv2 S (tN c) step dur) (S.1 1 2) N c step dur) S S) := by
  obtain ⟨hN, hN2, hg, hw⟩ := hi
  refine pG.of [some (.ref 0), some (.int c), some (.int step), some (.int dur), none, none, none] (by decide) tk_X8_moved (Nat.le_of_ble_eq_true rfl) rfl (fun X => ?_)
  refine q_iload_n (pc := 0) (j := 3) rfl rfl ?_
  refine q_join 9 [some (.ref 0), some (.int c), some (.int step), some (.int dur), none, none, none] [.int (pB (decide (dur = 0)))] S ?_ (fun key1 => ?_)
  · refine q_istore (pc := 9) (j := 4) [some (.ref 0), some (.int c), some (.int step), some (.int dur), some (.int (pB (decide (dur = 0)))), none, none] rfl (by decide) rfl ?_
    refine q_aload_n (pc := 11) (j := 0) rfl rfl ?_
    refine q_iload_n (pc := 12) (j := 1) rfl rfl ?_
    refine q_callV (pc := 13) (as := [.int c]) (rest := []) (b := 0) (st2 := [.int (pB (isCoB N c))]) rfl ce_X8_isColumn ml_X8_97 im_X8_isColumn se_X8_isColumn he.1 rfl rfl rfl (by decide) (Nat.le_of_ble_eq_true rfl) (sp_X8_isColumn he hN hN2) rfl ?_
    refine q_if_eq (pc := 16) 40 rfl (by decide) (fun h16 => ?_) (fun h16 => ?_)
    · refine q_aload_n (pc := 40) (j := 0) rfl rfl ?_
      refine q_iconst (pc := 41) 1 rfl (by decide) ?_
      refine q_callV (pc := 42) (as := [.int 1]) (rest := []) (b := 0) (st2 := [.int (-2147483000 - nI 1)]) rfl ce_X8_refuse ml_X8_82 im_X8_refuse se_X8_refuse he.1 rfl rfl rfl (by decide) (Nat.le_of_ble_eq_true rfl) (sp_X8_refuse (e := 1) he (by decide)) rfl ?_
      exact q_iret (pc := 45) rfl rfl (pA_no (k := 0) (by rw [oMoved, if_neg (show ¬ _ = true from by rw [pB_f h16]; decide)]) fr_rf)
    · refine q_iconst (pc := 19) 2 rfl (by decide) ?_
      refine q_iload_n (pc := 20) (j := 2) rfl rfl ?_
      refine q_callS (pc := 21) (as := [.int 2, .int step]) (rest := []) (st2 := [.int (pB (pAl 2 step))]) rfl ce_X8_isAllowed ml_X8_78 st_X8_isAllowed rfl (by decide) (Nat.le_of_ble_eq_true rfl) (sp_X8_isAllowed) rfl ?_
      refine q_if_eq (pc := 24) 40 rfl (by decide) (fun h24 => ?_) (fun h24 => ?_)
      · refine q_aload_n (pc := 40) (j := 0) rfl rfl ?_
        refine q_iconst (pc := 41) 1 rfl (by decide) ?_
        refine q_callV (pc := 42) (as := [.int 1]) (rest := []) (b := 0) (st2 := [.int (-2147483000 - nI 1)]) rfl ce_X8_refuse ml_X8_82 im_X8_refuse se_X8_refuse he.1 rfl rfl rfl (by decide) (Nat.le_of_ble_eq_true rfl) (sp_X8_refuse (e := 1) he (by decide)) rfl ?_
        exact q_iret (pc := 45) rfl rfl (pA_no (k := 0) (by rw [oMoved, if_pos (pB_t h16), if_neg (show ¬ _ = true from by rw [pB_f h24]; decide)]) fr_rf)
      · refine q_iload (pc := 27) (j := 4) rfl rfl ?_
        refine q_if_ne (pc := 29) 46 rfl (by decide) (fun h29 => ?_) (fun h29 => ?_)
        · obtain ⟨x, rfl, hxN⟩ := isCo_of hN2 (pB_t h16); have hd9 : dur = 0 ∨ pAl 1 dur = true := Or.inl (of_decide_eq_true (pB_t h29)); have hg2 := mv_ok (x := x) hN2 hg (pB_t h24) hd9
          refine q_aload_n (pc := 46) (j := 0) rfl rfl ?_
          refine q_get (pc := 47) (a := 0) (v := .ref 59) rfl fl_X8_56 he.1 rfl rfl ?_
          refine q_aload_n (pc := 50) (j := 0) rfl rfl ?_
          refine q_get (pc := 51) (a := 0) (v := .ref 1) rfl fl_X8_10 he.1 rfl rfl ?_
          refine q_get (pc := 54) (a := 1) (v := .ref 2) rfl fl_X8_90 he.2.1.1 rfl rfl ?_
          refine q_callV (pc := 57) (as := [.ref 2]) (rest := []) (b := 59) (st2 := []) rfl ce_X4_become ml_X8_207 im_X4_become se_X4_become he.2.2.2.2.2.2.2.2.2.1.1 rfl rfl rfl (by decide) (Nat.le_of_ble_eq_true rfl) (sp_X4_become he.2.2.2.2.2.2.2.2.2.1 he.2.1.2.1 (by omega)) rfl ?_
          refine q_aload_n (pc := 60) (j := 0) rfl rfl ?_
          refine q_get (pc := 61) (a := 0) (v := .ref 59) rfl fl_X8_56 he.1 rfl rfl ?_
          refine q_iload_n (pc := 64) (j := 1) rfl rfl ?_
          refine q_iconst (pc := 65) 2 rfl (by decide) ?_
          refine q_iload_n (pc := 66) (j := 2) rfl rfl ?_
          refine q_callV (pc := 67) (as := [.int (nI x), .int 2, .int step]) (rest := []) (b := 59) (st2 := []) rfl ce_X4_change ml_X8_109 im_X4_change se_X4_change he.2.2.2.2.2.2.2.2.2.1.1 rfl rfl rfl (by decide) (Nat.le_of_ble_eq_true rfl) (sp_X4_change (c := x) (w := 2) he.2.2.2.2.2.2.2.2.2.1 (by omega) (by omega)) rfl ?_
          refine q_iload (pc := 70) (j := 4) rfl rfl ?_
          refine q_if_ne (pc := 72) 85 rfl (by decide) (fun h72 => ?_) (fun h72 => ?_)
          · refine q_S (show (pSI (cpI S 3 60 180) 60 (5 * x + 2) step) = (mvS S x step dur) from (by rw [mvS, if_pos (of_decide_eq_true (pB_t h72))])) ?_
            refine q_aload_n (pc := 85) (j := 0) rfl rfl ?_
            refine q_callV (pc := 86) (as := []) (rest := []) (b := 0) (st2 := []) rfl ce_X8_findBest ml_X8_189 im_X8_findBest se_X8_findBest he.1 rfl rfl rfl (by decide) (Nat.le_of_ble_eq_true rfl) (sp_X8_findBest (S := (mvS S x step dur)) (N := N) he (cIv_fr ⟨hN, hN2, hg, hw⟩ (fr_wd mv_fr (by decide) (by decide)))) rfl ?_
            refine q_aload_n (pc := 89) (j := 0) rfl rfl ?_
            refine q_get (pc := 90) (a := 0) (v := .ref 48) rfl fl_X8_50 he.1 rfl rfl ?_
            refine q_aload_n (pc := 93) (j := 0) rfl rfl ?_
            refine q_get (pc := 94) (a := 0) (v := .ref 59) rfl fl_X8_56 he.1 rfl rfl ?_
            refine q_aload_n (pc := 97) (j := 0) rfl rfl ?_
            refine q_get (pc := 98) (a := 0) (v := .ref 1) rfl fl_X8_10 he.1 rfl rfl ?_
            refine q_get (pc := 101) (a := 1) (v := .int ((fbS (mvS S x step dur) N).1 1 1)) rfl fl_X8_86 he.2.1.1 rfl rfl ?_
            refine q_st (st2 := [.int (nI N), .ref 59, .ref 48]) (by rw [(show ((fbS (mvS S x step dur) N).1 1 1) = nI N from (by rw [show (fbS (mvS S x step dur) N).1 1 = S.1 1 from (fb_fr2 1 (by omega)).1.trans mv_3.2]; exact hN))]) ?_
            refine q_aload_n (pc := 104) (j := 0) rfl rfl ?_
            refine q_get (pc := 105) (a := 0) (v := .ref 1) rfl fl_X8_10 he.1 rfl rfl ?_
            refine q_get (pc := 108) (a := 1) (v := .int ((fbS (mvS S x step dur) N).1 1 2)) rfl fl_X8_134 he.2.1.1 rfl rfl ?_
            refine q_st (st2 := [.int (S.1 1 2), .int (nI N), .ref 59, .ref 48]) (by rw [(show ((fbS (mvS S x step dur) N).1 1 2) = S.1 1 2 from congrFun ((fb_fr2 1 (by omega)).1.trans mv_3.2) 2)]) ?_
            refine q_callV (pc := 111) (as := [.ref 59, .int (nI N), .int (S.1 1 2)]) (rest := []) (b := 48) (st2 := []) rfl ce_X0_find ml_X8_211 im_X0_find se_X0_find he.2.2.2.2.2.2.2.2.1.1 rfl rfl rfl (by decide) (Nat.le_of_ble_eq_true rfl) (sp_findG (S := fbS (mvS S x step dur) N) he.2.2.2.2.2.2.2.2.1 he.2.2.2.2.2.2.2.2.2.1 (by decide) hN2 (by rw [fbm_60]; exact hg2) hw) rfl ?_
            refine q_aload_n (pc := 114) (j := 0) rfl rfl ?_
            refine q_get (pc := 115) (a := 0) (v := .ref 37) rfl fl_X8_46 he.1 rfl rfl ?_
            refine q_get (pc := 118) (a := 37) (v := .int ((mbS S N x step dur).1 37 5)) rfl fl_X8_192 he.2.2.2.2.2.2.2.1.1 rfl rfl ?_
            refine q_st (st2 := [.int (pB (fouV (S.1 3) (S.1 1 2) N))]) (by rw [(show (mbS S N x step dur).1 37 5 = _ from mb_5a)]) ?_
            refine q_if_eq (pc := 121) 134 rfl (by decide) (fun h121 => ?_) (fun h121 => ?_)
            · refine q_aload_n (pc := 134) (j := 0) rfl rfl ?_
              refine q_iconst (pc := 135) 2 rfl (by decide) ?_
              refine q_callV (pc := 136) (as := [.int 2]) (rest := []) (b := 0) (st2 := [.int (-2147483000 - nI 2)]) rfl ce_X8_refuse ml_X8_82 im_X8_refuse se_X8_refuse he.1 rfl rfl rfl (by decide) (Nat.le_of_ble_eq_true rfl) (sp_X8_refuse (e := 2) he (by decide)) rfl ?_
              exact q_iret (pc := 139) rfl rfl (pA_no (k := 1) (by rw [oMoved, if_pos (pB_t h16), if_pos (pB_t h24), if_pos hd9, tN_nI (show x < 2 ^ 31 by omega), if_neg (fun q9 => by rw [q9.1] at h121; exact absurd h121 (by decide))]) (fr_rfS mb_fr))
            · refine q_aload_n (pc := 124) (j := 0) rfl rfl ?_
              refine q_get (pc := 125) (a := 0) (v := .ref 48) rfl fl_X8_50 he.1 rfl rfl ?_
              refine q_get (pc := 128) (a := 48) (v := .int ((mbS S N x step dur).1 48 5)) rfl fl_X8_192 he.2.2.2.2.2.2.2.2.1.1 rfl rfl ?_
              refine q_st (st2 := [.int (pB (fouV (mv2 S x step dur) (S.1 1 2) N))]) (by rw [(show (mbS S N x step dur).1 48 5 = _ from mb_5)]) ?_
              refine q_if_ne (pc := 131) 140 rfl (by decide) (fun h131 => ?_) (fun h131 => ?_)
              · refine q_iconst (pc := 140) 0 rfl (by decide) ?_
                refine q_istore (pc := 141) (j := 5) [some (.ref 0), some (.int (nI x)), some (.int step), some (.int dur), some (.int (pB (decide (dur = 0)))), some (.int 0), none] rfl (by decide) rfl ?_
                refine q_iconst (pc := 143) 0 rfl (by decide) ?_
                refine q_istore (pc := 144) (j := 6) [some (.ref 0), some (.int (nI x)), some (.int step), some (.int dur), some (.int (pB (decide (dur = 0)))), some (.int 0), some (.int 0)] rfl (by decide) rfl ?_
                refine lp_X8_moved (U := S) (g := S.1 3) (g2 := mv2 S x step dur) (w := S.1 1 2) (by decide) he (Nat.le_trans (lin_le hN2 (pB_t h121)) hN2) (fun T hfT => ?_) (linV (S.1 3) (S.1 1 2) N) 0 (mbS S N x step dur) (Nat.zero_add _) (mb_be ⟨hN, hN2, hg, hw⟩ hg2 (pB_t h121) (pB_t h131)) ⟨mb_I (by omega) (by omega), mb_60, congrFun (mb_I (c := 1) (by omega) (by omega)) 2⟩ mb_fr
                refine q_iload (pc := 176) (j := 5) rfl rfl ?_
                exact q_iret (pc := 178) rfl rfl (pA_ok (by rw [oMoved, if_pos (pB_t h16), if_pos (pB_t h24), if_pos hd9, tN_nI (show x < 2 ^ 31 by omega), if_pos ⟨pB_t h121, pB_t h131⟩]) hfT)
              · refine q_aload_n (pc := 134) (j := 0) rfl rfl ?_
                refine q_iconst (pc := 135) 2 rfl (by decide) ?_
                refine q_callV (pc := 136) (as := [.int 2]) (rest := []) (b := 0) (st2 := [.int (-2147483000 - nI 2)]) rfl ce_X8_refuse ml_X8_82 im_X8_refuse se_X8_refuse he.1 rfl rfl rfl (by decide) (Nat.le_of_ble_eq_true rfl) (sp_X8_refuse (e := 2) he (by decide)) rfl ?_
                exact q_iret (pc := 139) rfl rfl (pA_no (k := 1) (by rw [oMoved, if_pos (pB_t h16), if_pos (pB_t h24), if_pos hd9, tN_nI (show x < 2 ^ 31 by omega), if_neg (fun q9 => by rw [q9.2] at h131; exact absurd h131 (by decide))]) (fr_rfS mb_fr))
          · refine q_aload_n (pc := 75) (j := 0) rfl rfl ?_
            refine q_get (pc := 76) (a := 0) (v := .ref 59) rfl fl_X8_56 he.1 rfl rfl ?_
            refine q_iload_n (pc := 79) (j := 1) rfl rfl ?_
            refine q_iconst (pc := 80) 1 rfl (by decide) ?_
            refine q_iload_n (pc := 81) (j := 3) rfl rfl ?_
            refine q_callV (pc := 82) (as := [.int (nI x), .int 1, .int dur]) (rest := []) (b := 59) (st2 := []) rfl ce_X4_change ml_X8_109 im_X4_change se_X4_change he.2.2.2.2.2.2.2.2.2.1.1 rfl rfl rfl (by decide) (Nat.le_of_ble_eq_true rfl) (sp_X4_change (c := x) (w := 1) he.2.2.2.2.2.2.2.2.2.1 (by omega) (by omega)) rfl ?_
            refine q_S (show (pSI (pSI (cpI S 3 60 180) 60 (5 * x + 2) step) 60 (5 * x + 1) dur) = (mvS S x step dur) from (by rw [mvS, if_neg (of_decide_eq_false (pB_f h72))])) ?_
            refine q_aload_n (pc := 85) (j := 0) rfl rfl ?_
            refine q_callV (pc := 86) (as := []) (rest := []) (b := 0) (st2 := []) rfl ce_X8_findBest ml_X8_189 im_X8_findBest se_X8_findBest he.1 rfl rfl rfl (by decide) (Nat.le_of_ble_eq_true rfl) (sp_X8_findBest (S := (mvS S x step dur)) (N := N) he (cIv_fr ⟨hN, hN2, hg, hw⟩ (fr_wd mv_fr (by decide) (by decide)))) rfl ?_
            refine q_aload_n (pc := 89) (j := 0) rfl rfl ?_
            refine q_get (pc := 90) (a := 0) (v := .ref 48) rfl fl_X8_50 he.1 rfl rfl ?_
            refine q_aload_n (pc := 93) (j := 0) rfl rfl ?_
            refine q_get (pc := 94) (a := 0) (v := .ref 59) rfl fl_X8_56 he.1 rfl rfl ?_
            refine q_aload_n (pc := 97) (j := 0) rfl rfl ?_
            refine q_get (pc := 98) (a := 0) (v := .ref 1) rfl fl_X8_10 he.1 rfl rfl ?_
            refine q_get (pc := 101) (a := 1) (v := .int ((fbS (mvS S x step dur) N).1 1 1)) rfl fl_X8_86 he.2.1.1 rfl rfl ?_
            refine q_st (st2 := [.int (nI N), .ref 59, .ref 48]) (by rw [(show ((fbS (mvS S x step dur) N).1 1 1) = nI N from (by rw [show (fbS (mvS S x step dur) N).1 1 = S.1 1 from (fb_fr2 1 (by omega)).1.trans mv_3.2]; exact hN))]) ?_
            refine q_aload_n (pc := 104) (j := 0) rfl rfl ?_
            refine q_get (pc := 105) (a := 0) (v := .ref 1) rfl fl_X8_10 he.1 rfl rfl ?_
            refine q_get (pc := 108) (a := 1) (v := .int ((fbS (mvS S x step dur) N).1 1 2)) rfl fl_X8_134 he.2.1.1 rfl rfl ?_
            refine q_st (st2 := [.int (S.1 1 2), .int (nI N), .ref 59, .ref 48]) (by rw [(show ((fbS (mvS S x step dur) N).1 1 2) = S.1 1 2 from congrFun ((fb_fr2 1 (by omega)).1.trans mv_3.2) 2)]) ?_
            refine q_callV (pc := 111) (as := [.ref 59, .int (nI N), .int (S.1 1 2)]) (rest := []) (b := 48) (st2 := []) rfl ce_X0_find ml_X8_211 im_X0_find se_X0_find he.2.2.2.2.2.2.2.2.1.1 rfl rfl rfl (by decide) (Nat.le_of_ble_eq_true rfl) (sp_findG (S := fbS (mvS S x step dur) N) he.2.2.2.2.2.2.2.2.1 he.2.2.2.2.2.2.2.2.2.1 (by decide) hN2 (by rw [fbm_60]; exact hg2) hw) rfl ?_
            refine q_aload_n (pc := 114) (j := 0) rfl rfl ?_
            refine q_get (pc := 115) (a := 0) (v := .ref 37) rfl fl_X8_46 he.1 rfl rfl ?_
            refine q_get (pc := 118) (a := 37) (v := .int ((mbS S N x step dur).1 37 5)) rfl fl_X8_192 he.2.2.2.2.2.2.2.1.1 rfl rfl ?_
            refine q_st (st2 := [.int (pB (fouV (S.1 3) (S.1 1 2) N))]) (by rw [(show (mbS S N x step dur).1 37 5 = _ from mb_5a)]) ?_
            refine q_if_eq (pc := 121) 134 rfl (by decide) (fun h121 => ?_) (fun h121 => ?_)
            · refine q_aload_n (pc := 134) (j := 0) rfl rfl ?_
              refine q_iconst (pc := 135) 2 rfl (by decide) ?_
              refine q_callV (pc := 136) (as := [.int 2]) (rest := []) (b := 0) (st2 := [.int (-2147483000 - nI 2)]) rfl ce_X8_refuse ml_X8_82 im_X8_refuse se_X8_refuse he.1 rfl rfl rfl (by decide) (Nat.le_of_ble_eq_true rfl) (sp_X8_refuse (e := 2) he (by decide)) rfl ?_
              exact q_iret (pc := 139) rfl rfl (pA_no (k := 1) (by rw [oMoved, if_pos (pB_t h16), if_pos (pB_t h24), if_pos hd9, tN_nI (show x < 2 ^ 31 by omega), if_neg (fun q9 => by rw [q9.1] at h121; exact absurd h121 (by decide))]) (fr_rfS mb_fr))
            · refine q_aload_n (pc := 124) (j := 0) rfl rfl ?_
              refine q_get (pc := 125) (a := 0) (v := .ref 48) rfl fl_X8_50 he.1 rfl rfl ?_
              refine q_get (pc := 128) (a := 48) (v := .int ((mbS S N x step dur).1 48 5)) rfl fl_X8_192 he.2.2.2.2.2.2.2.2.1.1 rfl rfl ?_
              refine q_st (st2 := [.int (pB (fouV (mv2 S x step dur) (S.1 1 2) N))]) (by rw [(show (mbS S N x step dur).1 48 5 = _ from mb_5)]) ?_
              refine q_if_ne (pc := 131) 140 rfl (by decide) (fun h131 => ?_) (fun h131 => ?_)
              · refine q_iconst (pc := 140) 0 rfl (by decide) ?_
                refine q_istore (pc := 141) (j := 5) [some (.ref 0), some (.int (nI x)), some (.int step), some (.int dur), some (.int (pB (decide (dur = 0)))), some (.int 0), none] rfl (by decide) rfl ?_
                refine q_iconst (pc := 143) 0 rfl (by decide) ?_
                refine q_istore (pc := 144) (j := 6) [some (.ref 0), some (.int (nI x)), some (.int step), some (.int dur), some (.int (pB (decide (dur = 0)))), some (.int 0), some (.int 0)] rfl (by decide) rfl ?_
                refine lp_X8_moved (U := S) (g := S.1 3) (g2 := mv2 S x step dur) (w := S.1 1 2) (by decide) he (Nat.le_trans (lin_le hN2 (pB_t h121)) hN2) (fun T hfT => ?_) (linV (S.1 3) (S.1 1 2) N) 0 (mbS S N x step dur) (Nat.zero_add _) (mb_be ⟨hN, hN2, hg, hw⟩ hg2 (pB_t h121) (pB_t h131)) ⟨mb_I (by omega) (by omega), mb_60, congrFun (mb_I (c := 1) (by omega) (by omega)) 2⟩ mb_fr
                refine q_iload (pc := 176) (j := 5) rfl rfl ?_
                exact q_iret (pc := 178) rfl rfl (pA_ok (by rw [oMoved, if_pos (pB_t h16), if_pos (pB_t h24), if_pos hd9, tN_nI (show x < 2 ^ 31 by omega), if_pos ⟨pB_t h121, pB_t h131⟩]) hfT)
              · refine q_aload_n (pc := 134) (j := 0) rfl rfl ?_
                refine q_iconst (pc := 135) 2 rfl (by decide) ?_
                refine q_callV (pc := 136) (as := [.int 2]) (rest := []) (b := 0) (st2 := [.int (-2147483000 - nI 2)]) rfl ce_X8_refuse ml_X8_82 im_X8_refuse se_X8_refuse he.1 rfl rfl rfl (by decide) (Nat.le_of_ble_eq_true rfl) (sp_X8_refuse (e := 2) he (by decide)) rfl ?_
                exact q_iret (pc := 139) rfl rfl (pA_no (k := 1) (by rw [oMoved, if_pos (pB_t h16), if_pos (pB_t h24), if_pos hd9, tN_nI (show x < 2 ^ 31 by omega), if_neg (fun q9 => by rw [q9.2] at h131; exact absurd h131 (by decide))]) (fr_rfS mb_fr))
        · refine q_iconst (pc := 32) 1 rfl (by decide) ?_
          refine q_iload_n (pc := 33) (j := 3) rfl rfl ?_
          refine q_callS (pc := 34) (as := [.int 1, .int dur]) (rest := []) (st2 := [.int (pB (pAl 1 dur))]) rfl ce_X8_isAllowed ml_X8_78 st_X8_isAllowed rfl (by decide) (Nat.le_of_ble_eq_true rfl) (sp_X8_isAllowed) rfl ?_
          refine q_if_ne (pc := 37) 46 rfl (by decide) (fun h37 => ?_) (fun h37 => ?_)
          · obtain ⟨x, rfl, hxN⟩ := isCo_of hN2 (pB_t h16); have hd9 : dur = 0 ∨ pAl 1 dur = true := Or.inr (pB_t h37); have hg2 := mv_ok (x := x) hN2 hg (pB_t h24) hd9
            refine q_aload_n (pc := 46) (j := 0) rfl rfl ?_
            refine q_get (pc := 47) (a := 0) (v := .ref 59) rfl fl_X8_56 he.1 rfl rfl ?_
            refine q_aload_n (pc := 50) (j := 0) rfl rfl ?_
            refine q_get (pc := 51) (a := 0) (v := .ref 1) rfl fl_X8_10 he.1 rfl rfl ?_
            refine q_get (pc := 54) (a := 1) (v := .ref 2) rfl fl_X8_90 he.2.1.1 rfl rfl ?_
            refine q_callV (pc := 57) (as := [.ref 2]) (rest := []) (b := 59) (st2 := []) rfl ce_X4_become ml_X8_207 im_X4_become se_X4_become he.2.2.2.2.2.2.2.2.2.1.1 rfl rfl rfl (by decide) (Nat.le_of_ble_eq_true rfl) (sp_X4_become he.2.2.2.2.2.2.2.2.2.1 he.2.1.2.1 (by omega)) rfl ?_
            refine q_aload_n (pc := 60) (j := 0) rfl rfl ?_
            refine q_get (pc := 61) (a := 0) (v := .ref 59) rfl fl_X8_56 he.1 rfl rfl ?_
            refine q_iload_n (pc := 64) (j := 1) rfl rfl ?_
            refine q_iconst (pc := 65) 2 rfl (by decide) ?_
            refine q_iload_n (pc := 66) (j := 2) rfl rfl ?_
            refine q_callV (pc := 67) (as := [.int (nI x), .int 2, .int step]) (rest := []) (b := 59) (st2 := []) rfl ce_X4_change ml_X8_109 im_X4_change se_X4_change he.2.2.2.2.2.2.2.2.2.1.1 rfl rfl rfl (by decide) (Nat.le_of_ble_eq_true rfl) (sp_X4_change (c := x) (w := 2) he.2.2.2.2.2.2.2.2.2.1 (by omega) (by omega)) rfl ?_
            refine q_iload (pc := 70) (j := 4) rfl rfl ?_
            refine q_if_ne (pc := 72) 85 rfl (by decide) (fun h72 => ?_) (fun h72 => ?_)
            · refine q_S (show (pSI (cpI S 3 60 180) 60 (5 * x + 2) step) = (mvS S x step dur) from (by rw [mvS, if_pos (of_decide_eq_true (pB_t h72))])) ?_
              refine q_aload_n (pc := 85) (j := 0) rfl rfl ?_
              refine q_callV (pc := 86) (as := []) (rest := []) (b := 0) (st2 := []) rfl ce_X8_findBest ml_X8_189 im_X8_findBest se_X8_findBest he.1 rfl rfl rfl (by decide) (Nat.le_of_ble_eq_true rfl) (sp_X8_findBest (S := (mvS S x step dur)) (N := N) he (cIv_fr ⟨hN, hN2, hg, hw⟩ (fr_wd mv_fr (by decide) (by decide)))) rfl ?_
              refine q_aload_n (pc := 89) (j := 0) rfl rfl ?_
              refine q_get (pc := 90) (a := 0) (v := .ref 48) rfl fl_X8_50 he.1 rfl rfl ?_
              refine q_aload_n (pc := 93) (j := 0) rfl rfl ?_
              refine q_get (pc := 94) (a := 0) (v := .ref 59) rfl fl_X8_56 he.1 rfl rfl ?_
              refine q_aload_n (pc := 97) (j := 0) rfl rfl ?_
              refine q_get (pc := 98) (a := 0) (v := .ref 1) rfl fl_X8_10 he.1 rfl rfl ?_
              refine q_get (pc := 101) (a := 1) (v := .int ((fbS (mvS S x step dur) N).1 1 1)) rfl fl_X8_86 he.2.1.1 rfl rfl ?_
              refine q_st (st2 := [.int (nI N), .ref 59, .ref 48]) (by rw [(show ((fbS (mvS S x step dur) N).1 1 1) = nI N from (by rw [show (fbS (mvS S x step dur) N).1 1 = S.1 1 from (fb_fr2 1 (by omega)).1.trans mv_3.2]; exact hN))]) ?_
              refine q_aload_n (pc := 104) (j := 0) rfl rfl ?_
              refine q_get (pc := 105) (a := 0) (v := .ref 1) rfl fl_X8_10 he.1 rfl rfl ?_
              refine q_get (pc := 108) (a := 1) (v := .int ((fbS (mvS S x step dur) N).1 1 2)) rfl fl_X8_134 he.2.1.1 rfl rfl ?_
              refine q_st (st2 := [.int (S.1 1 2), .int (nI N), .ref 59, .ref 48]) (by rw [(show ((fbS (mvS S x step dur) N).1 1 2) = S.1 1 2 from congrFun ((fb_fr2 1 (by omega)).1.trans mv_3.2) 2)]) ?_
              refine q_callV (pc := 111) (as := [.ref 59, .int (nI N), .int (S.1 1 2)]) (rest := []) (b := 48) (st2 := []) rfl ce_X0_find ml_X8_211 im_X0_find se_X0_find he.2.2.2.2.2.2.2.2.1.1 rfl rfl rfl (by decide) (Nat.le_of_ble_eq_true rfl) (sp_findG (S := fbS (mvS S x step dur) N) he.2.2.2.2.2.2.2.2.1 he.2.2.2.2.2.2.2.2.2.1 (by decide) hN2 (by rw [fbm_60]; exact hg2) hw) rfl ?_
              refine q_aload_n (pc := 114) (j := 0) rfl rfl ?_
              refine q_get (pc := 115) (a := 0) (v := .ref 37) rfl fl_X8_46 he.1 rfl rfl ?_
              refine q_get (pc := 118) (a := 37) (v := .int ((mbS S N x step dur).1 37 5)) rfl fl_X8_192 he.2.2.2.2.2.2.2.1.1 rfl rfl ?_
              refine q_st (st2 := [.int (pB (fouV (S.1 3) (S.1 1 2) N))]) (by rw [(show (mbS S N x step dur).1 37 5 = _ from mb_5a)]) ?_
              refine q_if_eq (pc := 121) 134 rfl (by decide) (fun h121 => ?_) (fun h121 => ?_)
              · refine q_aload_n (pc := 134) (j := 0) rfl rfl ?_
                refine q_iconst (pc := 135) 2 rfl (by decide) ?_
                refine q_callV (pc := 136) (as := [.int 2]) (rest := []) (b := 0) (st2 := [.int (-2147483000 - nI 2)]) rfl ce_X8_refuse ml_X8_82 im_X8_refuse se_X8_refuse he.1 rfl rfl rfl (by decide) (Nat.le_of_ble_eq_true rfl) (sp_X8_refuse (e := 2) he (by decide)) rfl ?_
                exact q_iret (pc := 139) rfl rfl (pA_no (k := 1) (by rw [oMoved, if_pos (pB_t h16), if_pos (pB_t h24), if_pos hd9, tN_nI (show x < 2 ^ 31 by omega), if_neg (fun q9 => by rw [q9.1] at h121; exact absurd h121 (by decide))]) (fr_rfS mb_fr))
              · refine q_aload_n (pc := 124) (j := 0) rfl rfl ?_
                refine q_get (pc := 125) (a := 0) (v := .ref 48) rfl fl_X8_50 he.1 rfl rfl ?_
                refine q_get (pc := 128) (a := 48) (v := .int ((mbS S N x step dur).1 48 5)) rfl fl_X8_192 he.2.2.2.2.2.2.2.2.1.1 rfl rfl ?_
                refine q_st (st2 := [.int (pB (fouV (mv2 S x step dur) (S.1 1 2) N))]) (by rw [(show (mbS S N x step dur).1 48 5 = _ from mb_5)]) ?_
                refine q_if_ne (pc := 131) 140 rfl (by decide) (fun h131 => ?_) (fun h131 => ?_)
                · refine q_iconst (pc := 140) 0 rfl (by decide) ?_
                  refine q_istore (pc := 141) (j := 5) [some (.ref 0), some (.int (nI x)), some (.int step), some (.int dur), some (.int (pB (decide (dur = 0)))), some (.int 0), none] rfl (by decide) rfl ?_
                  refine q_iconst (pc := 143) 0 rfl (by decide) ?_
                  refine q_istore (pc := 144) (j := 6) [some (.ref 0), some (.int (nI x)), some (.int step), some (.int dur), some (.int (pB (decide (dur = 0)))), some (.int 0), some (.int 0)] rfl (by decide) rfl ?_
                  refine lp_X8_moved (U := S) (g := S.1 3) (g2 := mv2 S x step dur) (w := S.1 1 2) (by decide) he (Nat.le_trans (lin_le hN2 (pB_t h121)) hN2) (fun T hfT => ?_) (linV (S.1 3) (S.1 1 2) N) 0 (mbS S N x step dur) (Nat.zero_add _) (mb_be ⟨hN, hN2, hg, hw⟩ hg2 (pB_t h121) (pB_t h131)) ⟨mb_I (by omega) (by omega), mb_60, congrFun (mb_I (c := 1) (by omega) (by omega)) 2⟩ mb_fr
                  refine q_iload (pc := 176) (j := 5) rfl rfl ?_
                  exact q_iret (pc := 178) rfl rfl (pA_ok (by rw [oMoved, if_pos (pB_t h16), if_pos (pB_t h24), if_pos hd9, tN_nI (show x < 2 ^ 31 by omega), if_pos ⟨pB_t h121, pB_t h131⟩]) hfT)
                · refine q_aload_n (pc := 134) (j := 0) rfl rfl ?_
                  refine q_iconst (pc := 135) 2 rfl (by decide) ?_
                  refine q_callV (pc := 136) (as := [.int 2]) (rest := []) (b := 0) (st2 := [.int (-2147483000 - nI 2)]) rfl ce_X8_refuse ml_X8_82 im_X8_refuse se_X8_refuse he.1 rfl rfl rfl (by decide) (Nat.le_of_ble_eq_true rfl) (sp_X8_refuse (e := 2) he (by decide)) rfl ?_
                  exact q_iret (pc := 139) rfl rfl (pA_no (k := 1) (by rw [oMoved, if_pos (pB_t h16), if_pos (pB_t h24), if_pos hd9, tN_nI (show x < 2 ^ 31 by omega), if_neg (fun q9 => by rw [q9.2] at h131; exact absurd h131 (by decide))]) (fr_rfS mb_fr))
            · refine q_aload_n (pc := 75) (j := 0) rfl rfl ?_
              refine q_get (pc := 76) (a := 0) (v := .ref 59) rfl fl_X8_56 he.1 rfl rfl ?_
              refine q_iload_n (pc := 79) (j := 1) rfl rfl ?_
              refine q_iconst (pc := 80) 1 rfl (by decide) ?_
              refine q_iload_n (pc := 81) (j := 3) rfl rfl ?_
              refine q_callV (pc := 82) (as := [.int (nI x), .int 1, .int dur]) (rest := []) (b := 59) (st2 := []) rfl ce_X4_change ml_X8_109 im_X4_change se_X4_change he.2.2.2.2.2.2.2.2.2.1.1 rfl rfl rfl (by decide) (Nat.le_of_ble_eq_true rfl) (sp_X4_change (c := x) (w := 1) he.2.2.2.2.2.2.2.2.2.1 (by omega) (by omega)) rfl ?_
              refine q_S (show (pSI (pSI (cpI S 3 60 180) 60 (5 * x + 2) step) 60 (5 * x + 1) dur) = (mvS S x step dur) from (by rw [mvS, if_neg (of_decide_eq_false (pB_f h72))])) ?_
              refine q_aload_n (pc := 85) (j := 0) rfl rfl ?_
              refine q_callV (pc := 86) (as := []) (rest := []) (b := 0) (st2 := []) rfl ce_X8_findBest ml_X8_189 im_X8_findBest se_X8_findBest he.1 rfl rfl rfl (by decide) (Nat.le_of_ble_eq_true rfl) (sp_X8_findBest (S := (mvS S x step dur)) (N := N) he (cIv_fr ⟨hN, hN2, hg, hw⟩ (fr_wd mv_fr (by decide) (by decide)))) rfl ?_
              refine q_aload_n (pc := 89) (j := 0) rfl rfl ?_
              refine q_get (pc := 90) (a := 0) (v := .ref 48) rfl fl_X8_50 he.1 rfl rfl ?_
              refine q_aload_n (pc := 93) (j := 0) rfl rfl ?_
              refine q_get (pc := 94) (a := 0) (v := .ref 59) rfl fl_X8_56 he.1 rfl rfl ?_
              refine q_aload_n (pc := 97) (j := 0) rfl rfl ?_
              refine q_get (pc := 98) (a := 0) (v := .ref 1) rfl fl_X8_10 he.1 rfl rfl ?_
              refine q_get (pc := 101) (a := 1) (v := .int ((fbS (mvS S x step dur) N).1 1 1)) rfl fl_X8_86 he.2.1.1 rfl rfl ?_
              refine q_st (st2 := [.int (nI N), .ref 59, .ref 48]) (by rw [(show ((fbS (mvS S x step dur) N).1 1 1) = nI N from (by rw [show (fbS (mvS S x step dur) N).1 1 = S.1 1 from (fb_fr2 1 (by omega)).1.trans mv_3.2]; exact hN))]) ?_
              refine q_aload_n (pc := 104) (j := 0) rfl rfl ?_
              refine q_get (pc := 105) (a := 0) (v := .ref 1) rfl fl_X8_10 he.1 rfl rfl ?_
              refine q_get (pc := 108) (a := 1) (v := .int ((fbS (mvS S x step dur) N).1 1 2)) rfl fl_X8_134 he.2.1.1 rfl rfl ?_
              refine q_st (st2 := [.int (S.1 1 2), .int (nI N), .ref 59, .ref 48]) (by rw [(show ((fbS (mvS S x step dur) N).1 1 2) = S.1 1 2 from congrFun ((fb_fr2 1 (by omega)).1.trans mv_3.2) 2)]) ?_
              refine q_callV (pc := 111) (as := [.ref 59, .int (nI N), .int (S.1 1 2)]) (rest := []) (b := 48) (st2 := []) rfl ce_X0_find ml_X8_211 im_X0_find se_X0_find he.2.2.2.2.2.2.2.2.1.1 rfl rfl rfl (by decide) (Nat.le_of_ble_eq_true rfl) (sp_findG (S := fbS (mvS S x step dur) N) he.2.2.2.2.2.2.2.2.1 he.2.2.2.2.2.2.2.2.2.1 (by decide) hN2 (by rw [fbm_60]; exact hg2) hw) rfl ?_
              refine q_aload_n (pc := 114) (j := 0) rfl rfl ?_
              refine q_get (pc := 115) (a := 0) (v := .ref 37) rfl fl_X8_46 he.1 rfl rfl ?_
              refine q_get (pc := 118) (a := 37) (v := .int ((mbS S N x step dur).1 37 5)) rfl fl_X8_192 he.2.2.2.2.2.2.2.1.1 rfl rfl ?_
              refine q_st (st2 := [.int (pB (fouV (S.1 3) (S.1 1 2) N))]) (by rw [(show (mbS S N x step dur).1 37 5 = _ from mb_5a)]) ?_
              refine q_if_eq (pc := 121) 134 rfl (by decide) (fun h121 => ?_) (fun h121 => ?_)
              · refine q_aload_n (pc := 134) (j := 0) rfl rfl ?_
                refine q_iconst (pc := 135) 2 rfl (by decide) ?_
                refine q_callV (pc := 136) (as := [.int 2]) (rest := []) (b := 0) (st2 := [.int (-2147483000 - nI 2)]) rfl ce_X8_refuse ml_X8_82 im_X8_refuse se_X8_refuse he.1 rfl rfl rfl (by decide) (Nat.le_of_ble_eq_true rfl) (sp_X8_refuse (e := 2) he (by decide)) rfl ?_
                exact q_iret (pc := 139) rfl rfl (pA_no (k := 1) (by rw [oMoved, if_pos (pB_t h16), if_pos (pB_t h24), if_pos hd9, tN_nI (show x < 2 ^ 31 by omega), if_neg (fun q9 => by rw [q9.1] at h121; exact absurd h121 (by decide))]) (fr_rfS mb_fr))
              · refine q_aload_n (pc := 124) (j := 0) rfl rfl ?_
                refine q_get (pc := 125) (a := 0) (v := .ref 48) rfl fl_X8_50 he.1 rfl rfl ?_
                refine q_get (pc := 128) (a := 48) (v := .int ((mbS S N x step dur).1 48 5)) rfl fl_X8_192 he.2.2.2.2.2.2.2.2.1.1 rfl rfl ?_
                refine q_st (st2 := [.int (pB (fouV (mv2 S x step dur) (S.1 1 2) N))]) (by rw [(show (mbS S N x step dur).1 48 5 = _ from mb_5)]) ?_
                refine q_if_ne (pc := 131) 140 rfl (by decide) (fun h131 => ?_) (fun h131 => ?_)
                · refine q_iconst (pc := 140) 0 rfl (by decide) ?_
                  refine q_istore (pc := 141) (j := 5) [some (.ref 0), some (.int (nI x)), some (.int step), some (.int dur), some (.int (pB (decide (dur = 0)))), some (.int 0), none] rfl (by decide) rfl ?_
                  refine q_iconst (pc := 143) 0 rfl (by decide) ?_
                  refine q_istore (pc := 144) (j := 6) [some (.ref 0), some (.int (nI x)), some (.int step), some (.int dur), some (.int (pB (decide (dur = 0)))), some (.int 0), some (.int 0)] rfl (by decide) rfl ?_
                  refine lp_X8_moved (U := S) (g := S.1 3) (g2 := mv2 S x step dur) (w := S.1 1 2) (by decide) he (Nat.le_trans (lin_le hN2 (pB_t h121)) hN2) (fun T hfT => ?_) (linV (S.1 3) (S.1 1 2) N) 0 (mbS S N x step dur) (Nat.zero_add _) (mb_be ⟨hN, hN2, hg, hw⟩ hg2 (pB_t h121) (pB_t h131)) ⟨mb_I (by omega) (by omega), mb_60, congrFun (mb_I (c := 1) (by omega) (by omega)) 2⟩ mb_fr
                  refine q_iload (pc := 176) (j := 5) rfl rfl ?_
                  exact q_iret (pc := 178) rfl rfl (pA_ok (by rw [oMoved, if_pos (pB_t h16), if_pos (pB_t h24), if_pos hd9, tN_nI (show x < 2 ^ 31 by omega), if_pos ⟨pB_t h121, pB_t h131⟩]) hfT)
                · refine q_aload_n (pc := 134) (j := 0) rfl rfl ?_
                  refine q_iconst (pc := 135) 2 rfl (by decide) ?_
                  refine q_callV (pc := 136) (as := [.int 2]) (rest := []) (b := 0) (st2 := [.int (-2147483000 - nI 2)]) rfl ce_X8_refuse ml_X8_82 im_X8_refuse se_X8_refuse he.1 rfl rfl rfl (by decide) (Nat.le_of_ble_eq_true rfl) (sp_X8_refuse (e := 2) he (by decide)) rfl ?_
                  exact q_iret (pc := 139) rfl rfl (pA_no (k := 1) (by rw [oMoved, if_pos (pB_t h16), if_pos (pB_t h24), if_pos hd9, tN_nI (show x < 2 ^ 31 by omega), if_neg (fun q9 => by rw [q9.2] at h131; exact absurd h131 (by decide))]) (fr_rfS mb_fr))
          · refine q_aload_n (pc := 40) (j := 0) rfl rfl ?_
            refine q_iconst (pc := 41) 1 rfl (by decide) ?_
            refine q_callV (pc := 42) (as := [.int 1]) (rest := []) (b := 0) (st2 := [.int (-2147483000 - nI 1)]) rfl ce_X8_refuse ml_X8_82 im_X8_refuse se_X8_refuse he.1 rfl rfl rfl (by decide) (Nat.le_of_ble_eq_true rfl) (sp_X8_refuse (e := 1) he (by decide)) rfl ?_
            exact q_iret (pc := 45) rfl rfl (pA_no (k := 0) (by rw [oMoved, if_pos (pB_t h16), if_pos (pB_t h24), if_neg (fun q9 => q9.elim (fun q9 => absurd q9 (of_decide_eq_false (pB_f h29))) (fun q9 => by rw [q9] at h37; exact absurd h37 (by decide)))]) fr_rf)
  · refine q_if_ne (pc := 1) 8 rfl (by decide) (fun h1 => ?_) (fun h1 => ?_)
    · refine q_iconst (pc := 8) 0 rfl (by decide) ?_
      exact q_st (by rw [decide_eq_false (show ¬ dur = 0 from h1)]; rfl) key1
    · refine q_iconst (pc := 4) 1 rfl (by decide) ?_
      refine q_goto (pc := 5) 9 rfl (by decide) ?_
      exact q_st (by rw [decide_eq_true (show dur = 0 from h1)]; rfl) key1
