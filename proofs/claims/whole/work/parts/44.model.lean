/-! the model: springs, columns' calls: written by wip/whole/gen/c44.py -/
def topM (k s a : Int32) : Int32 := (if k = 2 then 4 else if k = 1 then 3 else if s < 0 then s + 7 else s + 1) + a
def botM (k s : Int32) : Int32 := if k = 2 then -4 else if k = 1 then -3 else if s < 0 then s - 1 else s - 7
theorem topM_V {k s a : Int32} (h : k = 0 ∨ k = 1 ∨ k = 2) : topM k s a = topV k s a := by
  rcases h with rfl | rfl | rfl <;> rfl
theorem botM_V {k s : Int32} (h : k = 0 ∨ k = 1 ∨ k = 2) : botM k s = botV k s := by
  rcases h with rfl | rfl | rfl <;> rfl
/-- IDEAL as the model has it, e halvings -/
def idQ (d : Int32) (e : Nat) : UInt32 := FP.fsub (FP.fdiv (FP.i2f d) (FP.i2f (nI (2 ^ e)))) FP.fconst1
def idM (d : Int32) (e : Nat) : UInt32 := FP.fmul 1086324736 (FP.fadd FP.fconst1 (FP.fdiv (FP.fadd (FP.i2f (nI e)) (idQ d e)) FP.fconst2))
def dbE (d : Int32) : Nat := (exI d 6).toNatClampNeg
def idMk (d : Int32) : Bool :=
  nb (FP.fdiv (FP.i2f d) (FP.i2f (nI (2 ^ dbE d)))) && nb (idQ d (dbE d)) && nb (FP.fadd (FP.i2f (nI (dbE d))) (idQ d (dbE d))) && nb (FP.fdiv (FP.fadd (FP.i2f (nI (dbE d))) (idQ d (dbE d))) FP.fconst2) &&
  nb (FP.fadd FP.fconst1 (FP.fdiv (FP.fadd (FP.i2f (nI (dbE d))) (idQ d (dbE d))) FP.fconst2)) && nb (idM d (dbE d)) && decide (idM d (dbE d) = idF 0 d) && nb (FP.fdiv (idF 0 d) FP.fconst2) && decide (FP.fdiv (idF 0 d) FP.fconst2 = FP.fmul 1056964608 (idF 0 d)) &&
  decide (dbE d ≤ 6) && ((List.range 7).all fun k => decide (dbE d ≤ k) || !(decide (d < nI (2 * 2 ^ k)))) && decide (d < nI (2 * 2 ^ dbE d))
theorem idMk_all : ∀ k, k < 64 → idMk (nI (k + 1)) = true := by decide +kernel
theorem isDur.mk {d : Int32} (h : isDur d) : idMk d = true := by obtain ⟨k, hk, rfl⟩ := h; exact idMk_all k hk
def pIdM (d : Int32) : Prop := (vf_n32 (FP.fdiv (FP.i2f d) (FP.i2f (nI (2 ^ dbE d))))) ∧ (vf_n32 (idQ d (dbE d))) ∧ (vf_n32 (FP.fadd (FP.i2f (nI (dbE d))) (idQ d (dbE d)))) ∧ (vf_n32 (FP.fdiv (FP.fadd (FP.i2f (nI (dbE d))) (idQ d (dbE d))) FP.fconst2)) ∧ (vf_n32 (FP.fadd FP.fconst1 (FP.fdiv (FP.fadd (FP.i2f (nI (dbE d))) (idQ d (dbE d))) FP.fconst2))) ∧ (vf_n32 (idM d (dbE d))) ∧ (idM d (dbE d) = idF 0 d) ∧ (vf_n32 (FP.fdiv (idF 0 d) FP.fconst2)) ∧ (FP.fdiv (idF 0 d) FP.fconst2 = FP.fmul 1056964608 (idF 0 d)) ∧ (dbE d ≤ 6) ∧ (∀ k, k < dbE d → ¬ d < nI (2 * 2 ^ k)) ∧ (d < nI (2 * 2 ^ dbE d))
theorem isDur.pm {d : Int32} (h : isDur d) : pIdM d := by
  have h := h.mk
  simp only [idMk, Bool.and_eq_true] at h
  obtain ⟨⟨⟨⟨⟨⟨⟨⟨⟨⟨⟨h1, h2⟩, h3⟩, h4⟩, h5⟩, h6⟩, h7⟩, h8⟩, h9⟩, h10⟩, h11⟩, h12⟩ := h
  have hle := of_decide_eq_true h10
  exact ⟨nb_ok h1, nb_ok h2, nb_ok h3, nb_ok h4, nb_ok h5, nb_ok h6, of_decide_eq_true h7, nb_ok h8, of_decide_eq_true h9, hle, fun k hk => by
    have h := List.all_eq_true.mp h11 k (List.mem_range.mpr (by omega))
    rw [decide_eq_false (show ¬ dbE d ≤ k by omega), Bool.false_or] at h
    simpa using h, of_decide_eq_true h12⟩
def roMk (w : Int32) : Bool := nb (FP.fadd (FP.i2f w) FP.fconst1) && decide (FP.fadd (FP.i2f w) FP.fconst1 = roF w)
theorem roMk_all : ∀ k, k < 12 → roMk (nI (1 + k)) = true := by decide +kernel
theorem ro_m {w : Int32} (h : 1 ≤ w.toInt ∧ w.toInt ≤ 12) : vf_n32 (FP.fadd (FP.i2f w) FP.fconst1) ∧ FP.fadd (FP.i2f w) FP.fconst1 = roF w := by
  obtain ⟨k, hk, rfl⟩ := i_of_nat (lo := 1) (n := 12) h.1 (by omega) (by decide)
  have h := roMk_all k hk
  simp only [roMk, Bool.and_eq_true] at h
  exact ⟨nb_ok h.1, of_decide_eq_true h.2⟩
theorem p2_mul {k : Nat} : (2 : Int32) * nI (2 ^ k) = nI (2 * 2 ^ k) := by rw [show (2 : Int32) = nI 2 from rfl, pk_mul]
theorem p2_suc {k : Nat} : nI (2 ^ k) * 2 = nI (2 ^ (k + 1)) := by rw [show (2 : Int32) = nI 2 from rfl, pk_mul, Nat.pow_succ]
set_option maxRecDepth 100000 in
theorem lp_X9_copy {n0 : Nat} {X : Nat × (Nat → Int32)} {P : Option Value → PSt → Prop} {d : Nat} (hd9 : 0 ≤ d) {sh : List PSh} {S : PSt} {a b : Nat} (ha : sh[a]? = some (.inl (0, 348))) (hb : sh[b]? = some (.inl (0, 348))) (hab : a ≠ b)  (hex : ∀ i, pV mX9_copy d n0 X sh P 21 [some (.ref a), some (.ref b), some (.int i)] [] (cpI S a b 348)) : ∀ (m k : Nat), k + m = 348 → pV mX9_copy d n0 X sh P 2 [some (.ref a), some (.ref b), some (.int (nI k))] [] (cpI S a b k) := by
  intro m
  induction m with
  | zero =>
    intro k hk
    have hk9 : 348 = k := by omega
    subst hk9
    refine q_iload_n (pc := 2) (j := 2) rfl rfl ?_
    refine q_sipush (pc := 3) 348 rfl (by decide) ?_
    refine q_icmp_ge (pc := 6) 21 rfl (by decide) (fun _ => ?_) (fun h9 => absurd (by decide) h9)
    exact hex _
  | succ m ih =>
    intro k hk
    have hk1 : k < 348 := by omega
    have hk2 : k < 348 := hk1
    refine q_iload_n (pc := 2) (j := 2) rfl rfl ?_
    refine q_sipush (pc := 3) 348 rfl (by decide) ?_
    refine q_icmp_ge (pc := 6) 21 rfl (by decide) (fun h9 => absurd h9 (nI_ge hk1 (by decide))) (fun _ => ?_)
    refine q_aload_n (pc := 9) (j := 1) rfl rfl ?_
    refine q_iload_n (pc := 10) (j := 2) rfl rfl ?_
    refine q_aload_n (pc := 11) (j := 0) rfl rfl ?_
    refine q_iload_n (pc := 12) (j := 2) rfl rfl ?_
    refine q_iald (pc := 13) (a := a) k rfl ha (vp_in_nI (by omega) (by decide)) (nI_clamp (by omega)) ?_
    refine q_iast (pc := 14) (a := b) k rfl hb (vp_in_nI (by omega) (by decide)) (nI_clamp (by omega)) ?_
    refine q_iinc (pc := 15) (j := 2) (n := 1) (nI (k + 1)) [some (.ref a), some (.ref b), some (.int (nI (k + 1)))] rfl (by decide) rfl (nI_1 k) rfl ?_
    refine q_goto (pc := 18) 2 rfl (by decide) ?_
    exact q_S (cpI_s hab) (ih (k + 1) (by omega))
set_option maxRecDepth 100000 in
theorem sp_X9_copy {sh : List PSh} {S : PSt} {a b : Nat} (ha : sh[a]? = some (.inl (0, 348))) (hb : sh[b]? = some (.inl (0, 348))) (hab : a ≠ b) : pF mX9_copy 0 [.ref a, .ref b] sh S (cpI S a b 348) (none) := by
  refine pF.of (pG.of [some (.ref a), some (.ref b), none] (by decide) tk_X9_copy (Nat.le_of_ble_eq_true rfl) rfl (fun X => ?_))
  refine q_iconst (pc := 0) 0 rfl (by decide) ?_
  refine q_istore_n (pc := 1) (j := 2) [some (.ref a), some (.ref b), some (.int 0)] rfl (by decide) rfl ?_
  refine q_S (cpI_0 S a b).symm (lp_X9_copy (by decide) ha hb hab (fun i => ?_) 348 0 rfl)
  exact q_vret (pc := 21) rfl rfl ⟨rfl, rfl⟩
/-- the columns with one more -/
def cmS (S : PSt) (N : Nat) (x0 x1 x2 x3 x4 : Int32) : PSt := pSI (pSI (pSI (pSI (pSI (pSI S 71 0 (nI (N + 1))) 71 (2 + (5 * N + 0)) x0) 71 (2 + (5 * N + 1)) x1) 71 (2 + (5 * N + 2)) x2) 71 (2 + (5 * N + 3)) x3) 71 (2 + (5 * N + 4)) x4
set_option maxRecDepth 100000 in
theorem sp_X9_comes {sh : List PSh} {S : PSt} {N : Nat} (hm : isMo sh) (hN : S.1 71 0 = nI N) (hN2 : N < 32) {x0 x1 x2 x3 x4 : Int32} : pF mX9_comes 1 [.ref 70, .int x0, .int x1, .int x2, .int x3, .int x4] sh S (cmS S N x0 x1 x2 x3 x4) (some (.int (nI N))) := by
  refine pF.of (pG.of [some (.ref 70), some (.int x0), some (.int x1), some (.int x2), some (.int x3), some (.int x4), none] (by decide) tk_X9_comes (Nat.le_of_ble_eq_true rfl) rfl (fun X => ?_))
  refine q_aload_n (pc := 0) (j := 0) rfl rfl ?_
  refine q_get (pc := 1) (a := 70) (v := .ref 71) rfl fl_X9_9 hm.1 rfl rfl ?_
  refine q_iconst (pc := 4) 0 rfl (by decide) ?_
  refine q_iald (pc := 5) (a := 71) 0 rfl hm.2.1 (vp_in_nI (n := 0) (by decide) (by decide)) rfl ?_
  refine q_st (st2 := [.int (nI N)]) (by rw [(show (S.1 71 0) = nI N from hN)]) ?_
  refine q_istore (pc := 6) (j := 6) [some (.ref 70), some (.int x0), some (.int x1), some (.int x2), some (.int x3), some (.int x4), some (.int (nI N))] rfl (by decide) rfl ?_
  refine q_aload_n (pc := 8) (j := 0) rfl rfl ?_
  refine q_get (pc := 9) (a := 70) (v := .ref 71) rfl fl_X9_9 hm.1 rfl rfl ?_
  refine q_iconst (pc := 12) 0 rfl (by decide) ?_
  refine q_dup2 (pc := 13) rfl rfl rfl ?_
  refine q_iald (pc := 14) (a := 71) 0 rfl hm.2.1 (vp_in_nI (n := 0) (by decide) (by decide)) rfl ?_
  refine q_st (st2 := [.int (nI N), .int 0, .ref 71]) (by rw [(show (S.1 71 0) = nI N from hN)]) ?_
  refine q_iconst (pc := 15) 1 rfl (by decide) ?_
  refine q_iadd (pc := 16) rfl ?_
  refine q_st (st2 := [.int (nI (N + 1)), .int 0, .ref 71]) (by rw [nI_1 N]) ?_
  refine q_iast (pc := 17) (a := 71) 0 rfl hm.2.1 (vp_in_nI (n := 0) (by decide) (by decide)) rfl ?_
  refine q_aload_n (pc := 18) (j := 0) rfl rfl ?_
  refine q_iload (pc := 19) (j := 6) rfl rfl ?_
  refine q_iconst (pc := 21) 0 rfl (by decide) ?_
  refine q_iload_n (pc := 22) (j := 1) rfl rfl ?_
  refine q_callV (pc := 23) (as := [.int (nI N), .int 0, .int x0]) (rest := []) (b := 70) (st2 := []) rfl ce_X9_sets ml_X9_101 im_X9_sets se_X9_sets hm.1 rfl rfl rfl (by decide) (Nat.le_of_ble_eq_true rfl) (sp_X9_sets (c := N) (i := 0) hm (by omega) (by omega)) rfl ?_
  refine q_aload_n (pc := 26) (j := 0) rfl rfl ?_
  refine q_iload (pc := 27) (j := 6) rfl rfl ?_
  refine q_iconst (pc := 29) 1 rfl (by decide) ?_
  refine q_iload_n (pc := 30) (j := 2) rfl rfl ?_
  refine q_callV (pc := 31) (as := [.int (nI N), .int 1, .int x1]) (rest := []) (b := 70) (st2 := []) rfl ce_X9_sets ml_X9_101 im_X9_sets se_X9_sets hm.1 rfl rfl rfl (by decide) (Nat.le_of_ble_eq_true rfl) (sp_X9_sets (c := N) (i := 1) hm (by omega) (by omega)) rfl ?_
  refine q_aload_n (pc := 34) (j := 0) rfl rfl ?_
  refine q_iload (pc := 35) (j := 6) rfl rfl ?_
  refine q_iconst (pc := 37) 2 rfl (by decide) ?_
  refine q_iload_n (pc := 38) (j := 3) rfl rfl ?_
  refine q_callV (pc := 39) (as := [.int (nI N), .int 2, .int x2]) (rest := []) (b := 70) (st2 := []) rfl ce_X9_sets ml_X9_101 im_X9_sets se_X9_sets hm.1 rfl rfl rfl (by decide) (Nat.le_of_ble_eq_true rfl) (sp_X9_sets (c := N) (i := 2) hm (by omega) (by omega)) rfl ?_
  refine q_aload_n (pc := 42) (j := 0) rfl rfl ?_
  refine q_iload (pc := 43) (j := 6) rfl rfl ?_
  refine q_iconst (pc := 45) 3 rfl (by decide) ?_
  refine q_iload (pc := 46) (j := 4) rfl rfl ?_
  refine q_callV (pc := 48) (as := [.int (nI N), .int 3, .int x3]) (rest := []) (b := 70) (st2 := []) rfl ce_X9_sets ml_X9_101 im_X9_sets se_X9_sets hm.1 rfl rfl rfl (by decide) (Nat.le_of_ble_eq_true rfl) (sp_X9_sets (c := N) (i := 3) hm (by omega) (by omega)) rfl ?_
  refine q_aload_n (pc := 51) (j := 0) rfl rfl ?_
  refine q_iload (pc := 52) (j := 6) rfl rfl ?_
  refine q_iconst (pc := 54) 4 rfl (by decide) ?_
  refine q_iload (pc := 55) (j := 5) rfl rfl ?_
  refine q_callV (pc := 57) (as := [.int (nI N), .int 4, .int x4]) (rest := []) (b := 70) (st2 := []) rfl ce_X9_sets ml_X9_101 im_X9_sets se_X9_sets hm.1 rfl rfl rfl (by decide) (Nat.le_of_ble_eq_true rfl) (sp_X9_sets (c := N) (i := 4) hm (by omega) (by omega)) rfl ?_
  refine q_iload (pc := 60) (j := 6) rfl rfl ?_
  exact q_iret (pc := 62) rfl rfl ⟨rfl, rfl⟩
set_option maxRecDepth 100000 in
theorem sp_X9_topOf {sh : List PSh} {S : PSt} {k s a : Int32} : pF mX9_topOf 0 [.int k, .int s, .int a] sh S S (some (.int (topM k s a))) := by
  refine pF.of (pG.of [some (.int k), some (.int s), some (.int a)] (by decide) tk_X9_topOf (Nat.le_of_ble_eq_true rfl) rfl (fun X => ?_))
  refine q_iload_n (pc := 0) (j := 0) rfl rfl ?_
  refine q_iconst (pc := 1) 2 rfl (by decide) ?_
  refine q_icmp_ne (pc := 2) 9 rfl (by decide) (fun h2 => ?_) (fun h2 => ?_)
  · refine q_iload_n (pc := 9) (j := 0) rfl rfl ?_
    refine q_iconst (pc := 10) 1 rfl (by decide) ?_
    refine q_icmp_ne (pc := 11) 18 rfl (by decide) (fun h11 => ?_) (fun h11 => ?_)
    · refine q_iload_n (pc := 18) (j := 1) rfl rfl ?_
      refine q_if_ge (pc := 19) 29 rfl (by decide) (fun h19 => ?_) (fun h19 => ?_)
      · refine q_iload_n (pc := 29) (j := 1) rfl rfl ?_
        refine q_iconst (pc := 30) 1 rfl (by decide) ?_
        refine q_iadd (pc := 31) rfl ?_
        refine q_iload_n (pc := 32) (j := 2) rfl rfl ?_
        refine q_iadd (pc := 33) rfl ?_
        exact q_iret (pc := 34) rfl rfl ⟨congrArg (fun v => some (Value.int v)) (by rw [topM]; first | (rw [if_pos (show k = 2 from h2)]) | (rw [if_neg h2, if_pos (show k = 1 from h11)]) | (rw [if_neg h2, if_neg h11, if_pos (Int32.not_le.mp h19)]) | (rw [if_neg h2, if_neg h11, if_neg (Int32.not_lt.mpr h19)])), rfl⟩
      · refine q_iload_n (pc := 22) (j := 1) rfl rfl ?_
        refine q_bipush (pc := 23) 7 rfl (by decide) ?_
        refine q_iadd (pc := 25) rfl ?_
        refine q_goto (pc := 26) 32 rfl (by decide) ?_
        refine q_iload_n (pc := 32) (j := 2) rfl rfl ?_
        refine q_iadd (pc := 33) rfl ?_
        exact q_iret (pc := 34) rfl rfl ⟨congrArg (fun v => some (Value.int v)) (by rw [topM]; first | (rw [if_pos (show k = 2 from h2)]) | (rw [if_neg h2, if_pos (show k = 1 from h11)]) | (rw [if_neg h2, if_neg h11, if_pos (Int32.not_le.mp h19)]) | (rw [if_neg h2, if_neg h11, if_neg (Int32.not_lt.mpr h19)])), rfl⟩
    · refine q_iconst (pc := 14) 3 rfl (by decide) ?_
      refine q_goto (pc := 15) 32 rfl (by decide) ?_
      refine q_iload_n (pc := 32) (j := 2) rfl rfl ?_
      refine q_iadd (pc := 33) rfl ?_
      exact q_iret (pc := 34) rfl rfl ⟨congrArg (fun v => some (Value.int v)) (by rw [topM]; first | (rw [if_pos (show k = 2 from h2)]) | (rw [if_neg h2, if_pos (show k = 1 from h11)]) | (rw [if_neg h2, if_neg h11, if_pos (Int32.not_le.mp h19)]) | (rw [if_neg h2, if_neg h11, if_neg (Int32.not_lt.mpr h19)])), rfl⟩
  · refine q_iconst (pc := 5) 4 rfl (by decide) ?_
    refine q_goto (pc := 6) 32 rfl (by decide) ?_
    refine q_iload_n (pc := 32) (j := 2) rfl rfl ?_
    refine q_iadd (pc := 33) rfl ?_
    exact q_iret (pc := 34) rfl rfl ⟨congrArg (fun v => some (Value.int v)) (by rw [topM]; first | (rw [if_pos (show k = 2 from h2)]) | (rw [if_neg h2, if_pos (show k = 1 from h11)]) | (rw [if_neg h2, if_neg h11, if_pos (Int32.not_le.mp h19)]) | (rw [if_neg h2, if_neg h11, if_neg (Int32.not_lt.mpr h19)])), rfl⟩
set_option maxRecDepth 100000 in
theorem sp_X9_top {sh : List PSh} {S : PSt} (hm : isMo sh) {c : Nat} (hc : c < 32) (hk : mG S (5 * c + 0) = 0 ∨ mG S (5 * c + 0) = 1 ∨ mG S (5 * c + 0) = 2) : pF mX9_top 1 [.ref 70, .int (nI c)] sh S S (some (.int (topG (mG S) c))) := by
  refine pF.of (pG.of [some (.ref 70), some (.int (nI c))] (by decide) tk_X9_top (Nat.le_of_ble_eq_true rfl) rfl (fun X => ?_))
  refine q_aload_n (pc := 0) (j := 0) rfl rfl ?_
  refine q_iload_n (pc := 1) (j := 1) rfl rfl ?_
  refine q_iconst (pc := 2) 0 rfl (by decide) ?_
  refine q_callV (pc := 3) (as := [.int (nI c), .int 0]) (rest := []) (b := 70) (st2 := [.int (mG S (5 * c + 0))]) rfl ce_X9_its ml_X9_124 im_X9_its se_X9_its hm.1 rfl rfl rfl (by decide) (Nat.le_of_ble_eq_true rfl) (sp_X9_its (c := c) (i := 0) hm (by omega) (by omega)) rfl ?_
  refine q_aload_n (pc := 6) (j := 0) rfl rfl ?_
  refine q_iload_n (pc := 7) (j := 1) rfl rfl ?_
  refine q_iconst (pc := 8) 2 rfl (by decide) ?_
  refine q_callV (pc := 9) (as := [.int (nI c), .int 2]) (rest := [.int (mG S (5 * c + 0))]) (b := 70) (st2 := [.int (mG S (5 * c + 2)), .int (mG S (5 * c + 0))]) rfl ce_X9_its ml_X9_124 im_X9_its se_X9_its hm.1 rfl rfl rfl (by decide) (Nat.le_of_ble_eq_true rfl) (sp_X9_its (c := c) (i := 2) hm (by omega) (by omega)) rfl ?_
  refine q_aload_n (pc := 12) (j := 0) rfl rfl ?_
  refine q_iload_n (pc := 13) (j := 1) rfl rfl ?_
  refine q_iconst (pc := 14) 4 rfl (by decide) ?_
  refine q_callV (pc := 15) (as := [.int (nI c), .int 4]) (rest := [.int (mG S (5 * c + 2)), .int (mG S (5 * c + 0))]) (b := 70) (st2 := [.int (mG S (5 * c + 4)), .int (mG S (5 * c + 2)), .int (mG S (5 * c + 0))]) rfl ce_X9_its ml_X9_124 im_X9_its se_X9_its hm.1 rfl rfl rfl (by decide) (Nat.le_of_ble_eq_true rfl) (sp_X9_its (c := c) (i := 4) hm (by omega) (by omega)) rfl ?_
  refine q_callS (pc := 18) (as := [.int (mG S (5 * c + 0)), .int (mG S (5 * c + 2)), .int (mG S (5 * c + 4))]) (rest := []) (st2 := [.int (topM (mG S (5 * c + 0)) (mG S (5 * c + 2)) (mG S (5 * c + 4)))]) rfl ce_X9_topOf ml_X9_128 st_X9_topOf rfl (by decide) (Nat.le_of_ble_eq_true rfl) (sp_X9_topOf) rfl ?_
  exact q_iret (pc := 21) rfl rfl ⟨congrArg (fun v => some (Value.int v)) (topM_V hk), rfl⟩
set_option maxRecDepth 100000 in
theorem sp_X9_bottom {sh : List PSh} {S : PSt} (hm : isMo sh) {c : Nat} (hc : c < 32) (hk : mG S (5 * c + 0) = 0 ∨ mG S (5 * c + 0) = 1 ∨ mG S (5 * c + 0) = 2) : pF mX9_bottom 1 [.ref 70, .int (nI c)] sh S S (some (.int (botG (mG S) c))) := by
  refine pF.of (pG.of [some (.ref 70), some (.int (nI c)), none] (by decide) tk_X9_bottom (Nat.le_of_ble_eq_true rfl) rfl (fun X => ?_))
  refine q_aload_n (pc := 0) (j := 0) rfl rfl ?_
  refine q_iload_n (pc := 1) (j := 1) rfl rfl ?_
  refine q_iconst (pc := 2) 2 rfl (by decide) ?_
  refine q_callV (pc := 3) (as := [.int (nI c), .int 2]) (rest := []) (b := 70) (st2 := [.int (mG S (5 * c + 2))]) rfl ce_X9_its ml_X9_124 im_X9_its se_X9_its hm.1 rfl rfl rfl (by decide) (Nat.le_of_ble_eq_true rfl) (sp_X9_its (c := c) (i := 2) hm (by omega) (by omega)) rfl ?_
  refine q_istore_n (pc := 6) (j := 2) [some (.ref 70), some (.int (nI c)), some (.int (mG S (5 * c + 2)))] rfl (by decide) rfl ?_
  refine q_aload_n (pc := 7) (j := 0) rfl rfl ?_
  refine q_iload_n (pc := 8) (j := 1) rfl rfl ?_
  refine q_iconst (pc := 9) 0 rfl (by decide) ?_
  refine q_callV (pc := 10) (as := [.int (nI c), .int 0]) (rest := []) (b := 70) (st2 := [.int (mG S (5 * c + 0))]) rfl ce_X9_its ml_X9_124 im_X9_its se_X9_its hm.1 rfl rfl rfl (by decide) (Nat.le_of_ble_eq_true rfl) (sp_X9_its (c := c) (i := 0) hm (by omega) (by omega)) rfl ?_
  refine q_iconst (pc := 13) 2 rfl (by decide) ?_
  refine q_icmp_ne (pc := 14) 22 rfl (by decide) (fun h14 => ?_) (fun h14 => ?_)
  · refine q_aload_n (pc := 22) (j := 0) rfl rfl ?_
    refine q_iload_n (pc := 23) (j := 1) rfl rfl ?_
    refine q_iconst (pc := 24) 0 rfl (by decide) ?_
    refine q_callV (pc := 25) (as := [.int (nI c), .int 0]) (rest := []) (b := 70) (st2 := [.int (mG S (5 * c + 0))]) rfl ce_X9_its ml_X9_124 im_X9_its se_X9_its hm.1 rfl rfl rfl (by decide) (Nat.le_of_ble_eq_true rfl) (sp_X9_its (c := c) (i := 0) hm (by omega) (by omega)) rfl ?_
    refine q_iconst (pc := 28) 1 rfl (by decide) ?_
    refine q_icmp_ne (pc := 29) 37 rfl (by decide) (fun h29 => ?_) (fun h29 => ?_)
    · refine q_iload_n (pc := 37) (j := 2) rfl rfl ?_
      refine q_if_ge (pc := 38) 47 rfl (by decide) (fun h38 => ?_) (fun h38 => ?_)
      · refine q_iload_n (pc := 47) (j := 2) rfl rfl ?_
        refine q_bipush (pc := 48) 7 rfl (by decide) ?_
        refine q_isub (pc := 50) rfl ?_
        exact q_iret (pc := 51) rfl rfl ⟨congrArg (fun v => some (Value.int v)) (by rw [botG, ← botM_V hk, botM]; first | (rw [if_pos (show mG S (5 * c + 0) = 2 from h14)]) | (rw [if_neg h14, if_pos (show mG S (5 * c + 0) = 1 from h29)]) | (rw [if_neg h14, if_neg h29, if_pos (Int32.not_le.mp h38)]) | (rw [if_neg h14, if_neg h29, if_neg (Int32.not_lt.mpr h38)])), rfl⟩
      · refine q_iload_n (pc := 41) (j := 2) rfl rfl ?_
        refine q_iconst (pc := 42) 1 rfl (by decide) ?_
        refine q_isub (pc := 43) rfl ?_
        refine q_goto (pc := 44) 51 rfl (by decide) ?_
        exact q_iret (pc := 51) rfl rfl ⟨congrArg (fun v => some (Value.int v)) (by rw [botG, ← botM_V hk, botM]; first | (rw [if_pos (show mG S (5 * c + 0) = 2 from h14)]) | (rw [if_neg h14, if_pos (show mG S (5 * c + 0) = 1 from h29)]) | (rw [if_neg h14, if_neg h29, if_pos (Int32.not_le.mp h38)]) | (rw [if_neg h14, if_neg h29, if_neg (Int32.not_lt.mpr h38)])), rfl⟩
    · refine q_bipush (pc := 32) (-3) rfl (by decide) ?_
      refine q_goto (pc := 34) 51 rfl (by decide) ?_
      exact q_iret (pc := 51) rfl rfl ⟨congrArg (fun v => some (Value.int v)) (by rw [botG, ← botM_V hk, botM]; first | (rw [if_pos (show mG S (5 * c + 0) = 2 from h14)]) | (rw [if_neg h14, if_pos (show mG S (5 * c + 0) = 1 from h29)]) | (rw [if_neg h14, if_neg h29, if_pos (Int32.not_le.mp h38)]) | (rw [if_neg h14, if_neg h29, if_neg (Int32.not_lt.mpr h38)])), rfl⟩
  · refine q_bipush (pc := 17) (-4) rfl (by decide) ?_
    refine q_goto (pc := 19) 51 rfl (by decide) ?_
    exact q_iret (pc := 51) rfl rfl ⟨congrArg (fun v => some (Value.int v)) (by rw [botG, ← botM_V hk, botM]; first | (rw [if_pos (show mG S (5 * c + 0) = 2 from h14)]) | (rw [if_neg h14, if_pos (show mG S (5 * c + 0) = 1 from h29)]) | (rw [if_neg h14, if_neg h29, if_pos (Int32.not_le.mp h38)]) | (rw [if_neg h14, if_neg h29, if_neg (Int32.not_lt.mpr h38)])), rfl⟩
set_option maxRecDepth 100000 in
theorem lp_X9_ideal {n0 : Nat} {X : Nat × (Nat → Int32)} {P : Option Value → PSt → Prop} {d : Nat} (hd9 : 1 ≤ d) {sh : List PSh} {S : PSt} (hm : isMo sh) {c : Nat} (hc : c < 32) (hok : okC (mG S) c) (hp : pIdM (mG S (5 * c + 1)))  (hex : pV mX9_ideal d n0 X sh P 39 [some (.ref 70), some (.int (nI c)), some (.int (nI (dbE (mG S (5 * c + 1))))), some (.int (nI (2 ^ (dbE (mG S (5 * c + 1)))))), none, none] [] S) : ∀ (m k : Nat), k + m = (dbE (mG S (5 * c + 1))) → pV mX9_ideal d n0 X sh P 17 [some (.ref 70), some (.int (nI c)), some (.int (nI k)), some (.int (nI (2 ^ k))), none, none] [] S := by
  intro m
  induction m with
  | zero =>
    intro k hk
    have hk9 : (dbE (mG S (5 * c + 1))) = k := by omega
    subst hk9
    refine q_iconst (pc := 17) 2 rfl (by decide) ?_
    refine q_iload_n (pc := 18) (j := 3) rfl rfl ?_
    refine q_imul (pc := 19) rfl ?_
    refine q_st (st2 := [.int (nI (2 * 2 ^ (dbE (mG S (5 * c + 1)))))]) (by rw [p2_mul]) ?_
    refine q_aload_n (pc := 20) (j := 0) rfl rfl ?_
    refine q_iload_n (pc := 21) (j := 1) rfl rfl ?_
    refine q_iconst (pc := 22) 1 rfl (by decide) ?_
    refine q_callV (pc := 23) (as := [.int (nI c), .int 1]) (rest := [.int (nI (2 * 2 ^ (dbE (mG S (5 * c + 1)))))]) (b := 70) (st2 := [.int (mG S (5 * c + 1)), .int (nI (2 * 2 ^ (dbE (mG S (5 * c + 1)))))]) rfl ce_X9_its ml_X9_124 im_X9_its se_X9_its hm.1 rfl rfl rfl (by omega) (Nat.le_of_ble_eq_true rfl) (sp_X9_its (c := c) (i := 1) hm (by omega) (by omega)) rfl ?_
    refine q_icmp_gt (pc := 26) 39 rfl (by decide) (fun _ => ?_) (fun h9 => absurd hp.2.2.2.2.2.2.2.2.2.2.2 h9)
    exact hex
  | succ m ih =>
    intro k hk
    have hk1 : k < (dbE (mG S (5 * c + 1))) := by omega
    have hk2 : k < (dbE (mG S (5 * c + 1))) := hk1
    refine q_iconst (pc := 17) 2 rfl (by decide) ?_
    refine q_iload_n (pc := 18) (j := 3) rfl rfl ?_
    refine q_imul (pc := 19) rfl ?_
    refine q_st (st2 := [.int (nI (2 * 2 ^ k))]) (by rw [p2_mul]) ?_
    refine q_aload_n (pc := 20) (j := 0) rfl rfl ?_
    refine q_iload_n (pc := 21) (j := 1) rfl rfl ?_
    refine q_iconst (pc := 22) 1 rfl (by decide) ?_
    refine q_callV (pc := 23) (as := [.int (nI c), .int 1]) (rest := [.int (nI (2 * 2 ^ k))]) (b := 70) (st2 := [.int (mG S (5 * c + 1)), .int (nI (2 * 2 ^ k))]) rfl ce_X9_its ml_X9_124 im_X9_its se_X9_its hm.1 rfl rfl rfl (by omega) (Nat.le_of_ble_eq_true rfl) (sp_X9_its (c := c) (i := 1) hm (by omega) (by omega)) rfl ?_
    refine q_icmp_gt (pc := 26) 39 rfl (by decide) (fun h9 => absurd h9 (hp.2.2.2.2.2.2.2.2.2.2.1 k hk1)) (fun _ => ?_)
    refine q_iload_n (pc := 29) (j := 3) rfl rfl ?_
    refine q_iconst (pc := 30) 2 rfl (by decide) ?_
    refine q_imul (pc := 31) rfl ?_
    refine q_st (st2 := [.int (nI (2 ^ (k + 1)))]) (by rw [p2_suc]) ?_
    refine q_istore_n (pc := 32) (j := 3) [some (.ref 70), some (.int (nI c)), some (.int (nI k)), some (.int (nI (2 ^ (k + 1)))), none, none] rfl (by decide) rfl ?_
    refine q_iinc (pc := 33) (j := 2) (n := 1) (nI (k + 1)) [some (.ref 70), some (.int (nI c)), some (.int (nI (k + 1))), some (.int (nI (2 ^ (k + 1)))), none, none] rfl (by decide) rfl (nI_1 k) rfl ?_
    refine q_goto (pc := 36) 17 rfl (by decide) ?_
    exact ih (k + 1) (by omega)
set_option maxRecDepth 100000 in
theorem sp_X9_ideal {sh : List PSh} {S : PSt} (hm : isMo sh) {c : Nat} (hc : c < 32) (hok : okC (mG S) c)  : pF mX9_ideal 1 [.ref 70, .int (nI c)] sh S S (some (.float (idG (mG S) c))) := by
  have hp := hok.2.1.pm
  refine pF.of (pG.of [some (.ref 70), some (.int (nI c)), none, none, none, none] (by decide) tk_X9_ideal (Nat.le_of_ble_eq_true rfl) rfl (fun X => ?_))
  refine q_aload_n (pc := 0) (j := 0) rfl rfl ?_
  refine q_iload_n (pc := 1) (j := 1) rfl rfl ?_
  refine q_iconst (pc := 2) 0 rfl (by decide) ?_
  refine q_callV (pc := 3) (as := [.int (nI c), .int 0]) (rest := []) (b := 70) (st2 := [.int (mG S (5 * c + 0))]) rfl ce_X9_its ml_X9_124 im_X9_its se_X9_its hm.1 rfl rfl rfl (by decide) (Nat.le_of_ble_eq_true rfl) (sp_X9_its (c := c) (i := 0) hm (by omega) (by omega)) rfl ?_
  refine q_iconst (pc := 6) 2 rfl (by decide) ?_
  refine q_icmp_ne (pc := 7) 13 rfl (by decide) (fun h7 => ?_) (fun h7 => ?_)
  · refine q_iconst (pc := 13) 0 rfl (by decide) ?_
    refine q_istore_n (pc := 14) (j := 2) [some (.ref 70), some (.int (nI c)), some (.int 0), none, none, none] rfl (by decide) rfl ?_
    refine q_iconst (pc := 15) 1 rfl (by decide) ?_
    refine q_istore_n (pc := 16) (j := 3) [some (.ref 70), some (.int (nI c)), some (.int 0), some (.int 1), none, none] rfl (by decide) rfl ?_
    refine lp_X9_ideal (by decide) hm hc hok hp ?_ (dbE (mG S (5 * c + 1))) 0 (Nat.zero_add _)
    refine q_aload_n (pc := 39) (j := 0) rfl rfl ?_
    refine q_iload_n (pc := 40) (j := 1) rfl rfl ?_
    refine q_iconst (pc := 41) 1 rfl (by decide) ?_
    refine q_callV (pc := 42) (as := [.int (nI c), .int 1]) (rest := []) (b := 70) (st2 := [.int (mG S (5 * c + 1))]) rfl ce_X9_its ml_X9_124 im_X9_its se_X9_its hm.1 rfl rfl rfl (by decide) (Nat.le_of_ble_eq_true rfl) (sp_X9_its (c := c) (i := 1) hm (by omega) (by omega)) rfl ?_
    refine q_i2f (pc := 45) rfl ?_
    refine q_iload_n (pc := 46) (j := 3) rfl rfl ?_
    refine q_i2f (pc := 47) rfl ?_
    refine q_fdiv (pc := 48) rfl hp.1 ?_
    refine q_fstore (pc := 49) (j := 4) [some (.ref 70), some (.int (nI c)), some (.int (nI (dbE (mG S (5 * c + 1))))), some (.int (nI (2 ^ (dbE (mG S (5 * c + 1)))))), some (.float (FP.fdiv (FP.i2f (mG S (5 * c + 1))) (FP.i2f (nI (2 ^ (dbE (mG S (5 * c + 1)))))))), none] rfl (by decide) rfl ?_
    refine q_fload (pc := 51) (j := 4) rfl rfl ?_
    refine q_fconst1 (pc := 53) rfl ?_
    refine q_fsub (pc := 54) rfl hp.2.1 ?_
    refine q_st (st2 := [.float (idQ (mG S (5 * c + 1)) (dbE (mG S (5 * c + 1))))]) (by rw [show (FP.fsub (FP.fdiv (FP.i2f (mG S (5 * c + 1))) (FP.i2f (nI (2 ^ (dbE (mG S (5 * c + 1))))))) FP.fconst1) = (idQ (mG S (5 * c + 1)) (dbE (mG S (5 * c + 1)))) from rfl]) ?_
    refine q_fstore (pc := 55) (j := 4) [some (.ref 70), some (.int (nI c)), some (.int (nI (dbE (mG S (5 * c + 1))))), some (.int (nI (2 ^ (dbE (mG S (5 * c + 1)))))), some (.float (idQ (mG S (5 * c + 1)) (dbE (mG S (5 * c + 1))))), none] rfl (by decide) rfl ?_
    refine q_iload_n (pc := 57) (j := 2) rfl rfl ?_
    refine q_i2f (pc := 58) rfl ?_
    refine q_fload (pc := 59) (j := 4) rfl rfl ?_
    refine q_fadd (pc := 61) rfl hp.2.2.1 ?_
    refine q_fstore (pc := 62) (j := 5) [some (.ref 70), some (.int (nI c)), some (.int (nI (dbE (mG S (5 * c + 1))))), some (.int (nI (2 ^ (dbE (mG S (5 * c + 1)))))), some (.float (idQ (mG S (5 * c + 1)) (dbE (mG S (5 * c + 1))))), some (.float (FP.fadd (FP.i2f (nI (dbE (mG S (5 * c + 1))))) (idQ (mG S (5 * c + 1)) (dbE (mG S (5 * c + 1))))))] rfl (by decide) rfl ?_
    refine q_fload (pc := 64) (j := 5) rfl rfl ?_
    refine q_fconst2 (pc := 66) rfl ?_
    refine q_fdiv (pc := 67) rfl hp.2.2.2.1 ?_
    refine q_fstore (pc := 68) (j := 5) [some (.ref 70), some (.int (nI c)), some (.int (nI (dbE (mG S (5 * c + 1))))), some (.int (nI (2 ^ (dbE (mG S (5 * c + 1)))))), some (.float (idQ (mG S (5 * c + 1)) (dbE (mG S (5 * c + 1))))), some (.float (FP.fdiv (FP.fadd (FP.i2f (nI (dbE (mG S (5 * c + 1))))) (idQ (mG S (5 * c + 1)) (dbE (mG S (5 * c + 1))))) FP.fconst2))] rfl (by decide) rfl ?_
    refine q_fconst1 (pc := 70) rfl ?_
    refine q_fload (pc := 71) (j := 5) rfl rfl ?_
    refine q_fadd (pc := 73) rfl hp.2.2.2.2.1 ?_
    refine q_fstore (pc := 74) (j := 5) [some (.ref 70), some (.int (nI c)), some (.int (nI (dbE (mG S (5 * c + 1))))), some (.int (nI (2 ^ (dbE (mG S (5 * c + 1)))))), some (.float (idQ (mG S (5 * c + 1)) (dbE (mG S (5 * c + 1))))), some (.float (FP.fadd FP.fconst1 (FP.fdiv (FP.fadd (FP.i2f (nI (dbE (mG S (5 * c + 1))))) (idQ (mG S (5 * c + 1)) (dbE (mG S (5 * c + 1))))) FP.fconst2)))] rfl (by decide) rfl ?_
    refine q_ldcf (pc := 76) (v := 1086324736) rfl kc_X9_141 ?_
    refine q_fload (pc := 78) (j := 5) rfl rfl ?_
    refine q_fmul (pc := 80) rfl hp.2.2.2.2.2.1 ?_
    exact q_fret (pc := 81) rfl rfl ⟨congrArg (fun v => some (Value.float v)) (by rw [idG, idF]; first | (rw [if_pos (show mG S (5 * c + 0) = 2 from h7)]) | (rw [if_neg h7, show FP.fmul _ _ = idM _ _ from rfl, hp.2.2.2.2.2.2.1, idF, if_neg (by decide)])), rfl⟩
  · refine q_ldcf (pc := 10) (v := 1077936128) rfl kc_X9_140 ?_
    exact q_fret (pc := 12) rfl rfl ⟨congrArg (fun v => some (Value.float v)) (by rw [idG, idF]; first | (rw [if_pos (show mG S (5 * c + 0) = 2 from h7)]) | (rw [if_neg h7, show FP.fmul _ _ = idM _ _ from rfl, hp.2.2.2.2.2.2.1, idF, if_neg (by decide)])), rfl⟩
set_option maxRecDepth 100000 in
theorem sp_X9_flex {sh : List PSh} {S : PSt} (hm : isMo sh) {c : Nat} (hc : c < 32) (hok : okC (mG S) c)  : pF mX9_flex 2 [.ref 70, .int (nI c)] sh S S (some (.float (flG (mG S) c))) := by
  have hp := hok.2.1.pm
  refine pF.of (pG.of [some (.ref 70), some (.int (nI c))] (by decide) tk_X9_flex (Nat.le_of_ble_eq_true rfl) rfl (fun X => ?_))
  refine q_aload_n (pc := 0) (j := 0) rfl rfl ?_
  refine q_iload_n (pc := 1) (j := 1) rfl rfl ?_
  refine q_iconst (pc := 2) 0 rfl (by decide) ?_
  refine q_callV (pc := 3) (as := [.int (nI c), .int 0]) (rest := []) (b := 70) (st2 := [.int (mG S (5 * c + 0))]) rfl ce_X9_its ml_X9_124 im_X9_its se_X9_its hm.1 rfl rfl rfl (by decide) (Nat.le_of_ble_eq_true rfl) (sp_X9_its (c := c) (i := 0) hm (by omega) (by omega)) rfl ?_
  refine q_iconst (pc := 6) 2 rfl (by decide) ?_
  refine q_icmp_ne (pc := 7) 15 rfl (by decide) (fun h7 => ?_) (fun h7 => ?_)
  · refine q_aload_n (pc := 15) (j := 0) rfl rfl ?_
    refine q_iload_n (pc := 16) (j := 1) rfl rfl ?_
    refine q_callV (pc := 17) (as := [.int (nI c)]) (rest := []) (b := 70) (st2 := [.float (idG (mG S) c)]) rfl ce_X9_ideal ml_X9_143 im_X9_ideal se_X9_ideal hm.1 rfl rfl rfl (by decide) (Nat.le_of_ble_eq_true rfl) (sp_X9_ideal (c := c) hm (by omega) hok) rfl ?_
    refine q_fconst2 (pc := 20) rfl ?_
    refine q_fdiv (pc := 21) rfl (by unfold idG; rw [idF_0 h7]; exact hp.2.2.2.2.2.2.2.1) ?_
    exact q_fret (pc := 22) rfl rfl ⟨congrArg (fun v => some (Value.float v)) (by rw [flG, flF]; first | (rw [if_pos (show mG S (5 * c + 0) = 2 from h7)]) | (rw [if_neg h7]; unfold idG; rw [idF_0 h7, hp.2.2.2.2.2.2.2.2.1])), rfl⟩
  · refine q_ldcf (pc := 10) (v := 1048576000) rfl kc_X9_142 ?_
    refine q_goto (pc := 12) 22 rfl (by decide) ?_
    exact q_fret (pc := 22) rfl rfl ⟨congrArg (fun v => some (Value.float v)) (by rw [flG, flF]; first | (rw [if_pos (show mG S (5 * c + 0) = 2 from h7)]) | (rw [if_neg h7]; unfold idG; rw [idF_0 h7, hp.2.2.2.2.2.2.2.2.1])), rfl⟩
set_option maxRecDepth 100000 in
theorem sp_X9_rod {sh : List PSh} {S : PSt} (hm : isMo sh) {c : Nat} (hc : c < 32) (hok : okC (mG S) c)  : pF mX9_rod 1 [.ref 70, .int (nI c)] sh S S (some (.float (roG (mG S) c))) := by
  refine pF.of (pG.of [some (.ref 70), some (.int (nI c))] (by decide) tk_X9_rod (Nat.le_of_ble_eq_true rfl) rfl (fun X => ?_))
  refine q_aload_n (pc := 0) (j := 0) rfl rfl ?_
  refine q_iload_n (pc := 1) (j := 1) rfl rfl ?_
  refine q_iconst (pc := 2) 3 rfl (by decide) ?_
  refine q_callV (pc := 3) (as := [.int (nI c), .int 3]) (rest := []) (b := 70) (st2 := [.int (mG S (5 * c + 3))]) rfl ce_X9_its ml_X9_124 im_X9_its se_X9_its hm.1 rfl rfl rfl (by decide) (Nat.le_of_ble_eq_true rfl) (sp_X9_its (c := c) (i := 3) hm (by omega) (by omega)) rfl ?_
  refine q_i2f (pc := 6) rfl ?_
  refine q_fconst1 (pc := 7) rfl ?_
  refine q_fadd (pc := 8) rfl (ro_m hok.2.2.2.1).1 ?_
  exact q_fret (pc := 9) rfl rfl ⟨congrArg (fun v => some (Value.float v)) (ro_m hok.2.2.2.1).2, rfl⟩
set_option maxRecDepth 100000 in
theorem sp_X9_add {sh : List PSh} {S : PSt} {N : Nat} (hm : isMo sh) (hi : mIv S N) {k d : Int32}  : pG mX9_add 2 [.ref 70, .int k, .int d] sh S (mA (oAdd N k d) S (cmS S N k d 0 2 0)) := by
  obtain ⟨hN, hN2, hok, hw⟩ := hi
  refine pG.of [some (.ref 70), some (.int k), some (.int d)] (by decide) tk_X9_add (Nat.le_of_ble_eq_true rfl) rfl (fun X => ?_)
  refine q_iconst (pc := 0) 0 rfl (by decide) ?_
  refine q_iload_n (pc := 1) (j := 1) rfl rfl ?_
  refine q_callS (pc := 2) (as := [.int 0, .int k]) (rest := []) (st2 := [.int (pB (pAl 0 k))]) rfl ce_X9_mayBe ml_X9_105 st_X9_mayBe rfl (by decide) (Nat.le_of_ble_eq_true rfl) (sp_X9_mayBeL (x := 0) (by decide)) rfl ?_
  refine q_if_eq (pc := 5) 16 rfl (by decide) (fun h5 => ?_) (fun h5 => ?_)
  · refine q_aload_n (pc := 16) (j := 0) rfl rfl ?_
    refine q_ldc (pc := 17) (v := (-2147483001)) rfl kc_X9_109 ?_
    refine q_callV (pc := 19) (as := [.int (-2147483001)]) (rest := []) (b := 70) (st2 := [.int (-2147483000 - nI 1)]) rfl ce_X9_errs ml_X9_110 im_X9_errs se_X9_errs hm.1 rfl rfl rfl (by decide) (Nat.le_of_ble_eq_true rfl) (sp_X9_errs (e := 1) hm (by decide) (by decide)) rfl ?_
    exact q_iret (pc := 22) rfl rfl (mA_no (k := 0) (by rw [oAdd, if_neg (show ¬ _ = true from by rw [pB_f h5]; decide)]) fm_rf)
  · refine q_iconst (pc := 8) 1 rfl (by decide) ?_
    refine q_iload_n (pc := 9) (j := 2) rfl rfl ?_
    refine q_callS (pc := 10) (as := [.int 1, .int d]) (rest := []) (st2 := [.int (pB (pAl 1 d))]) rfl ce_X9_mayBe ml_X9_105 st_X9_mayBe rfl (by decide) (Nat.le_of_ble_eq_true rfl) (sp_X9_mayBeL (x := 1) (by decide)) rfl ?_
    refine q_if_ne (pc := 13) 23 rfl (by decide) (fun h13 => ?_) (fun h13 => ?_)
    · refine q_aload_n (pc := 23) (j := 0) rfl rfl ?_
      refine q_get (pc := 24) (a := 70) (v := .ref 71) rfl fl_X9_9 hm.1 rfl rfl ?_
      refine q_iconst (pc := 27) 0 rfl (by decide) ?_
      refine q_iald (pc := 28) (a := 71) 0 rfl hm.2.1 (vp_in_nI (n := 0) (by decide) (by decide)) rfl ?_
      refine q_st (st2 := [.int (nI N)]) (by rw [(show (S.1 71 0) = nI N from hN)]) ?_
      refine q_bipush (pc := 29) 32 rfl (by decide) ?_
      refine q_icmp_ne (pc := 31) 43 rfl (by decide) (fun h31 => ?_) (fun h31 => ?_)
      · have hN3 : N < 32 := by have h9 := mt (nI_eq (a := N) (b := 32) (by omega) (by decide)).mpr h31; omega
        refine q_aload_n (pc := 43) (j := 0) rfl rfl ?_
        refine q_iload_n (pc := 44) (j := 1) rfl rfl ?_
        refine q_iload_n (pc := 45) (j := 2) rfl rfl ?_
        refine q_iconst (pc := 46) 0 rfl (by decide) ?_
        refine q_iconst (pc := 47) 2 rfl (by decide) ?_
        refine q_iconst (pc := 48) 0 rfl (by decide) ?_
        refine q_callV (pc := 49) (as := [.int k, .int d, .int 0, .int 2, .int 0]) (rest := []) (b := 70) (st2 := [.int (nI N)]) rfl ce_X9_comes ml_X9_115 im_X9_comes se_X9_comes hm.1 rfl rfl rfl (by decide) (Nat.le_of_ble_eq_true rfl) (sp_X9_comes (N := N) hm hN hN3) rfl ?_
        exact q_iret (pc := 52) rfl rfl (mA_ok (by rw [oAdd, if_pos (pB_t h5), if_pos (pB_t h13), if_neg (Nat.ne_of_lt hN3)]) fm_rf)
      · have hN9 : N = 32 := (nI_eq (a := N) (b := 32) (by omega) (by decide)).mp h31
        refine q_aload_n (pc := 34) (j := 0) rfl rfl ?_
        refine q_ldc (pc := 35) (v := (-2147483004)) rfl kc_X9_114 ?_
        refine q_callV (pc := 37) (as := [.int (-2147483004)]) (rest := []) (b := 70) (st2 := [.int (-2147483000 - nI 4)]) rfl ce_X9_errs ml_X9_110 im_X9_errs se_X9_errs hm.1 rfl rfl rfl (by decide) (Nat.le_of_ble_eq_true rfl) (sp_X9_errs (e := 4) hm (by decide) (by decide)) rfl ?_
        refine q_goto (pc := 40) 52 rfl (by decide) ?_
        exact q_iret (pc := 52) rfl rfl (mA_no (k := 3) (by rw [oAdd, if_pos (pB_t h5), if_pos (pB_t h13), if_pos hN9]) fm_rf)
    · refine q_aload_n (pc := 16) (j := 0) rfl rfl ?_
      refine q_ldc (pc := 17) (v := (-2147483001)) rfl kc_X9_109 ?_
      refine q_callV (pc := 19) (as := [.int (-2147483001)]) (rest := []) (b := 70) (st2 := [.int (-2147483000 - nI 1)]) rfl ce_X9_errs ml_X9_110 im_X9_errs se_X9_errs hm.1 rfl rfl rfl (by decide) (Nat.le_of_ble_eq_true rfl) (sp_X9_errs (e := 1) hm (by decide) (by decide)) rfl ?_
      exact q_iret (pc := 22) rfl rfl (mA_no (k := 0) (by rw [oAdd, if_pos (pB_t h5), if_neg (show ¬ _ = true from by rw [pB_f h13]; decide)]) fm_rf)
set_option maxRecDepth 100000 in
theorem sp_X9_drop {sh : List PSh} {S : PSt} {N : Nat} (hm : isMo sh) (hi : mIv S N)  : pG mX9_drop 1 [.ref 70] sh S (mA (oDrop N) S (pSI S 71 0 (nI (N - 1)))) := by
  obtain ⟨hN, hN2, hok, hw⟩ := hi
  refine pG.of [some (.ref 70)] (by decide) tk_X9_drop (Nat.le_of_ble_eq_true rfl) rfl (fun X => ?_)
  refine q_aload_n (pc := 0) (j := 0) rfl rfl ?_
  refine q_get (pc := 1) (a := 70) (v := .ref 71) rfl fl_X9_9 hm.1 rfl rfl ?_
  refine q_iconst (pc := 4) 0 rfl (by decide) ?_
  refine q_iald (pc := 5) (a := 71) 0 rfl hm.2.1 (vp_in_nI (n := 0) (by decide) (by decide)) rfl ?_
  refine q_st (st2 := [.int (nI N)]) (by rw [(show (S.1 71 0) = nI N from hN)]) ?_
  refine q_if_ne (pc := 6) 16 rfl (by decide) (fun h6 => ?_) (fun h6 => ?_)
  · have hN3 : 0 < N := by have h9 := mt (nI_eq (a := N) (b := 0) (by omega) (by decide)).mpr h6; omega
    refine q_aload_n (pc := 16) (j := 0) rfl rfl ?_
    refine q_get (pc := 17) (a := 70) (v := .ref 71) rfl fl_X9_9 hm.1 rfl rfl ?_
    refine q_iconst (pc := 20) 0 rfl (by decide) ?_
    refine q_dup2 (pc := 21) rfl rfl rfl ?_
    refine q_iald (pc := 22) (a := 71) 0 rfl hm.2.1 (vp_in_nI (n := 0) (by decide) (by decide)) rfl ?_
    refine q_st (st2 := [.int (nI N), .int 0, .ref 71]) (by rw [(show (S.1 71 0) = nI N from hN)]) ?_
    refine q_iconst (pc := 23) 1 rfl (by decide) ?_
    refine q_isub (pc := 24) rfl ?_
    refine q_st (st2 := [.int (nI (N - 1)), .int 0, .ref 71]) (by rw [(show nI N - 1 = nI (N - 1) from pk_sub (b := 1) hN3)]) ?_
    refine q_iast (pc := 25) (a := 71) 0 rfl hm.2.1 (vp_in_nI (n := 0) (by decide) (by decide)) rfl ?_
    refine q_aload_n (pc := 26) (j := 0) rfl rfl ?_
    refine q_get (pc := 27) (a := 70) (v := .ref 71) rfl fl_X9_9 hm.1 rfl rfl ?_
    refine q_iconst (pc := 30) 0 rfl (by decide) ?_
    refine q_iald (pc := 31) (a := 71) 0 rfl hm.2.1 (vp_in_nI (n := 0) (by decide) (by decide)) rfl ?_
    refine q_st (st2 := [.int (nI (N - 1))]) (by rw [show ((pSI S 71 0 (nI (N - 1))).1 71 0) = nI (N - 1) by simp [pSI, pU]]) ?_
    exact q_iret (pc := 32) rfl rfl (mA_ok (by rw [oDrop, if_neg (by omega)]) fm_rf)
  · refine q_aload_n (pc := 9) (j := 0) rfl rfl ?_
    refine q_ldc (pc := 10) (v := (-2147483002)) rfl kc_X9_119 ?_
    refine q_callV (pc := 12) (as := [.int (-2147483002)]) (rest := []) (b := 70) (st2 := [.int (-2147483000 - nI 2)]) rfl ce_X9_errs ml_X9_110 im_X9_errs se_X9_errs hm.1 rfl rfl rfl (by decide) (Nat.le_of_ble_eq_true rfl) (sp_X9_errs (e := 2) hm (by decide) (by decide)) rfl ?_
    exact q_iret (pc := 15) rfl rfl (mA_no (k := 1) (by rw [oDrop, if_pos ((nI_eq (a := N) (b := 0) (by omega) (by decide)).mp h6)]) fm_rf)
set_option maxRecDepth 100000 in
theorem sp_X9_set {sh : List PSh} {S : PSt} {N : Nat} (hm : isMo sh) (hi : mIv S N) {c what v : Int32}  : pG mX9_set 2 [.ref 70, .int c, .int what, .int v] sh S (mA (oSet (mG S) N c what v) S (pSI S 71 (2 + (5 * tN c + tN what)) v)) := by
  obtain ⟨hN, hN2, hok, hw⟩ := hi
  refine pG.of [some (.ref 70), some (.int c), some (.int what), some (.int v), none] (by decide) tk_X9_set (Nat.le_of_ble_eq_true rfl) rfl (fun X => ?_)
  refine q_aload_n (pc := 0) (j := 0) rfl rfl ?_
  refine q_iload_n (pc := 1) (j := 1) rfl rfl ?_
  refine q_callV (pc := 2) (as := [.int c]) (rest := []) (b := 70) (st2 := [.int (pB (isCoB N c))]) rfl ce_X9_isColumn ml_X9_120 im_X9_isColumn se_X9_isColumn hm.1 rfl rfl rfl (by decide) (Nat.le_of_ble_eq_true rfl) (sp_X9_isColumn hm hN hN2) rfl ?_
  refine q_if_eq (pc := 5) 16 rfl (by decide) (fun h5 => ?_) (fun h5 => ?_)
  · refine q_aload_n (pc := 16) (j := 0) rfl rfl ?_
    refine q_ldc (pc := 17) (v := (-2147483001)) rfl kc_X9_109 ?_
    refine q_callV (pc := 19) (as := [.int (-2147483001)]) (rest := []) (b := 70) (st2 := [.int (-2147483000 - nI 1)]) rfl ce_X9_errs ml_X9_110 im_X9_errs se_X9_errs hm.1 rfl rfl rfl (by decide) (Nat.le_of_ble_eq_true rfl) (sp_X9_errs (e := 1) hm (by decide) (by decide)) rfl ?_
    exact q_iret (pc := 22) rfl rfl (mA_no (k := 0) (by rw [oSet, if_neg (show ¬ _ = true from by rw [pB_f h5]; decide)]) fm_rf)
  · refine q_iload_n (pc := 8) (j := 2) rfl rfl ?_
    refine q_iload_n (pc := 9) (j := 3) rfl rfl ?_
    refine q_callS (pc := 10) (as := [.int what, .int v]) (rest := []) (st2 := [.int (pB (pWi what 0 4 && pAl what v))]) rfl ce_X9_mayBe ml_X9_105 st_X9_mayBe rfl (by decide) (Nat.le_of_ble_eq_true rfl) (sp_X9_mayBe) rfl ?_
    refine q_if_ne (pc := 13) 23 rfl (by decide) (fun h13 => ?_) (fun h13 => ?_)
    · obtain ⟨x, rfl, hxN⟩ := isCo_of hN2 (pB_t h5); obtain ⟨u, hu4, rfl⟩ := pWi_of (m := 4) (by decide) (by decide) ((Bool.and_eq_true _ _).mp (pB_t h13)).1
      refine q_aload_n (pc := 23) (j := 0) rfl rfl ?_
      refine q_iload_n (pc := 24) (j := 1) rfl rfl ?_
      refine q_iload_n (pc := 25) (j := 2) rfl rfl ?_
      refine q_callV (pc := 26) (as := [.int (nI x), .int (nI u)]) (rest := []) (b := 70) (st2 := [.int (mG S (5 * x + u))]) rfl ce_X9_its ml_X9_124 im_X9_its se_X9_its hm.1 rfl rfl rfl (by decide) (Nat.le_of_ble_eq_true rfl) (sp_X9_its (c := x) (i := u) hm (by omega) (by omega)) rfl ?_
      refine q_istore (pc := 29) (j := 4) [some (.ref 70), some (.int (nI x)), some (.int (nI u)), some (.int v), some (.int (mG S (5 * x + u)))] rfl (by decide) rfl ?_
      refine q_aload_n (pc := 31) (j := 0) rfl rfl ?_
      refine q_iload_n (pc := 32) (j := 1) rfl rfl ?_
      refine q_iload_n (pc := 33) (j := 2) rfl rfl ?_
      refine q_iload_n (pc := 34) (j := 3) rfl rfl ?_
      refine q_callV (pc := 35) (as := [.int (nI x), .int (nI u), .int v]) (rest := []) (b := 70) (st2 := []) rfl ce_X9_sets ml_X9_101 im_X9_sets se_X9_sets hm.1 rfl rfl rfl (by decide) (Nat.le_of_ble_eq_true rfl) (sp_X9_sets (c := x) (i := u) hm (by omega) (by omega)) rfl ?_
      refine q_iload (pc := 38) (j := 4) rfl rfl ?_
      exact q_iret (pc := 40) rfl rfl (mA_ok (by rw [oSet, if_pos (pB_t h5), and_ok (pB_t h13), tN_nI (by omega), tN_nI (by omega)]) (by rw [tN_nI (by omega), tN_nI (by omega)]; exact fm_rf))
    · refine q_aload_n (pc := 16) (j := 0) rfl rfl ?_
      refine q_ldc (pc := 17) (v := (-2147483001)) rfl kc_X9_109 ?_
      refine q_callV (pc := 19) (as := [.int (-2147483001)]) (rest := []) (b := 70) (st2 := [.int (-2147483000 - nI 1)]) rfl ce_X9_errs ml_X9_110 im_X9_errs se_X9_errs hm.1 rfl rfl rfl (by decide) (Nat.le_of_ble_eq_true rfl) (sp_X9_errs (e := 1) hm (by decide) (by decide)) rfl ?_
      exact q_iret (pc := 22) rfl rfl (mA_no (k := 0) (by rw [oSet, if_pos (pB_t h5), and_no (pB_f h13)]) fm_rf)
set_option maxRecDepth 100000 in
theorem sp_X9_of {sh : List PSh} {S : PSt} {N : Nat} (hm : isMo sh) (hi : mIv S N) {c what : Int32}  : pG mX9_of 2 [.ref 70, .int c, .int what] sh S (mA (oOf (mG S) N c what) S S) := by
  obtain ⟨hN, hN2, hok, hw⟩ := hi
  refine pG.of [some (.ref 70), some (.int c), some (.int what)] (by decide) tk_X9_of (Nat.le_of_ble_eq_true rfl) rfl (fun X => ?_)
  refine q_aload_n (pc := 0) (j := 0) rfl rfl ?_
  refine q_iload_n (pc := 1) (j := 1) rfl rfl ?_
  refine q_callV (pc := 2) (as := [.int c]) (rest := []) (b := 70) (st2 := [.int (pB (isCoB N c))]) rfl ce_X9_isColumn ml_X9_120 im_X9_isColumn se_X9_isColumn hm.1 rfl rfl rfl (by decide) (Nat.le_of_ble_eq_true rfl) (sp_X9_isColumn hm hN hN2) rfl ?_
  refine q_if_eq (pc := 5) 20 rfl (by decide) (fun h5 => ?_) (fun h5 => ?_)
  · refine q_aload_n (pc := 20) (j := 0) rfl rfl ?_
    refine q_ldc (pc := 21) (v := (-2147483001)) rfl kc_X9_109 ?_
    refine q_callV (pc := 23) (as := [.int (-2147483001)]) (rest := []) (b := 70) (st2 := [.int (-2147483000 - nI 1)]) rfl ce_X9_errs ml_X9_110 im_X9_errs se_X9_errs hm.1 rfl rfl rfl (by decide) (Nat.le_of_ble_eq_true rfl) (sp_X9_errs (e := 1) hm (by decide) (by decide)) rfl ?_
    exact q_iret (pc := 26) rfl rfl (mA_no (k := 0) (by rw [oOf, if_neg (show ¬ _ = true from by rw [pB_f h5]; decide)]) fm_rf)
  · refine q_iload_n (pc := 8) (j := 2) rfl rfl ?_
    refine q_i2l (pc := 9) rfl ?_
    refine q_lconst (pc := 10) 0 rfl (by decide) ?_
    refine q_ldc2 (pc := 11) (v := 6) rfl kc_X9_132 ?_
    refine q_callS (pc := 14) (as := [.long (what.toInt64), .long 0, .long 6]) (rest := []) (st2 := [.int (pB (pWi what 0 6))]) rfl ce_X9_in ml_X9_85 st_X9_in rfl (by decide) (Nat.le_of_ble_eq_true rfl) (sp_X9_inW (v := what) (l := 0) (m := 6) (Int32.toInt_toInt64 _) (by decide) (by decide)) rfl ?_
    refine q_if_ne (pc := 17) 27 rfl (by decide) (fun h17 => ?_) (fun h17 => ?_)
    · obtain ⟨x, rfl, hxN⟩ := isCo_of hN2 (pB_t h5); obtain ⟨u, hu, rfl⟩ := pWi_of (m := 6) (by decide) (by decide) (pB_t h17)
      refine q_iload_n (pc := 27) (j := 2) rfl rfl ?_
      refine q_iconst (pc := 28) 5 rfl (by decide) ?_
      refine q_icmp_ge (pc := 29) 41 rfl (by decide) (fun h29 => ?_) (fun h29 => ?_)
      · refine q_iload_n (pc := 41) (j := 2) rfl rfl ?_
        refine q_iconst (pc := 42) 5 rfl (by decide) ?_
        refine q_icmp_ne (pc := 43) 54 rfl (by decide) (fun h43 => ?_) (fun h43 => ?_)
        · refine q_aload_n (pc := 54) (j := 0) rfl rfl ?_
          refine q_iload_n (pc := 55) (j := 1) rfl rfl ?_
          refine q_callV (pc := 56) (as := [.int (nI x)]) (rest := []) (b := 70) (st2 := [.int (botG (mG S) x)]) rfl ce_X9_bottom ml_X9_137 im_X9_bottom se_X9_bottom hm.1 rfl rfl rfl (by decide) (Nat.le_of_ble_eq_true rfl) (sp_X9_bottom (c := x) hm (by omega) (hok x (by omega)).1) rfl ?_
          exact q_iret (pc := 59) rfl rfl (mA_ok (by rw [oOf, if_pos (pB_t h5), if_pos (pB_t h17), if_neg (Int32.not_lt.mpr h29), if_neg h43, tN_nI (by omega)]) fm_rf)
        · refine q_aload_n (pc := 46) (j := 0) rfl rfl ?_
          refine q_iload_n (pc := 47) (j := 1) rfl rfl ?_
          refine q_callV (pc := 48) (as := [.int (nI x)]) (rest := []) (b := 70) (st2 := [.int (topG (mG S) x)]) rfl ce_X9_top ml_X9_134 im_X9_top se_X9_top hm.1 rfl rfl rfl (by decide) (Nat.le_of_ble_eq_true rfl) (sp_X9_top (c := x) hm (by omega) (hok x (by omega)).1) rfl ?_
          refine q_goto (pc := 51) 59 rfl (by decide) ?_
          exact q_iret (pc := 59) rfl rfl (mA_ok (by rw [oOf, if_pos (pB_t h5), if_pos (pB_t h17), if_neg (Int32.not_lt.mpr h29), if_pos (show nI u = 5 from h43), tN_nI (by omega)]) fm_rf)
      · have hu5 : u < 5 := (nI_ltI (a := u) (b := 5) (by omega) (by decide)).mp (Int32.not_le.mp h29)
        refine q_aload_n (pc := 32) (j := 0) rfl rfl ?_
        refine q_iload_n (pc := 33) (j := 1) rfl rfl ?_
        refine q_iload_n (pc := 34) (j := 2) rfl rfl ?_
        refine q_callV (pc := 35) (as := [.int (nI x), .int (nI u)]) (rest := []) (b := 70) (st2 := [.int (mG S (5 * x + u))]) rfl ce_X9_its ml_X9_124 im_X9_its se_X9_its hm.1 rfl rfl rfl (by decide) (Nat.le_of_ble_eq_true rfl) (sp_X9_its (c := x) (i := u) hm (by omega) (by omega)) rfl ?_
        refine q_goto (pc := 38) 59 rfl (by decide) ?_
        exact q_iret (pc := 59) rfl rfl (mA_ok (by rw [oOf, if_pos (pB_t h5), if_pos (pB_t h17), if_pos (Int32.not_le.mp h29), tN_nI (by omega), tN_nI (by omega)]) fm_rf)
    · refine q_aload_n (pc := 20) (j := 0) rfl rfl ?_
      refine q_ldc (pc := 21) (v := (-2147483001)) rfl kc_X9_109 ?_
      refine q_callV (pc := 23) (as := [.int (-2147483001)]) (rest := []) (b := 70) (st2 := [.int (-2147483000 - nI 1)]) rfl ce_X9_errs ml_X9_110 im_X9_errs se_X9_errs hm.1 rfl rfl rfl (by decide) (Nat.le_of_ble_eq_true rfl) (sp_X9_errs (e := 1) hm (by decide) (by decide)) rfl ?_
      exact q_iret (pc := 26) rfl rfl (mA_no (k := 0) (by rw [oOf, if_pos (pB_t h5), if_neg (show ¬ _ = true from by rw [pB_f h17]; decide)]) fm_rf)
theorem id_nn {g : Nat → Int32} {i : Nat} (h : okC g i) : vf_n32 (idG g i) := (id_fu h).1.elim fun _ q => fF_nn q.1.1
theorem fl_nn {g : Nat → Int32} {i : Nat} (h : okC g i) : vf_n32 (flG g i) := (id_fu h).2.elim fun _ q => fF_nn q.1.1
theorem ro_nn {g : Nat → Int32} {i : Nat} (h : okC g i) : vf_n32 (roG g i) := (ro_fu h).elim fun _ q => fF_nn q.1.1
set_option maxRecDepth 100000 in
theorem sp_X9_spring {sh : List PSh} {S : PSt} {N : Nat} (hm : isMo sh) (hi : mIv S N) {c what : Int32}  : pG mX9_spring 3 [.ref 70, .int c, .int what] sh S (mA (oSpring (mG S) N c what) S S) := by
  obtain ⟨hN, hN2, hok, hw⟩ := hi
  refine pG.of [some (.ref 70), some (.int c), some (.int what)] (by decide) tk_X9_spring (Nat.le_of_ble_eq_true rfl) rfl (fun X => ?_)
  refine q_aload_n (pc := 0) (j := 0) rfl rfl ?_
  refine q_iload_n (pc := 1) (j := 1) rfl rfl ?_
  refine q_callV (pc := 2) (as := [.int c]) (rest := []) (b := 70) (st2 := [.int (pB (isCoB N c))]) rfl ce_X9_isColumn ml_X9_120 im_X9_isColumn se_X9_isColumn hm.1 rfl rfl rfl (by decide) (Nat.le_of_ble_eq_true rfl) (sp_X9_isColumn hm hN hN2) rfl ?_
  refine q_if_eq (pc := 5) 20 rfl (by decide) (fun h5 => ?_) (fun h5 => ?_)
  · refine q_aload_n (pc := 20) (j := 0) rfl rfl ?_
    refine q_ldc (pc := 21) (v := (-2147483001)) rfl kc_X9_109 ?_
    refine q_callV (pc := 23) (as := [.int (-2147483001)]) (rest := []) (b := 70) (st2 := [.int (-2147483000 - nI 1)]) rfl ce_X9_errs ml_X9_110 im_X9_errs se_X9_errs hm.1 rfl rfl rfl (by decide) (Nat.le_of_ble_eq_true rfl) (sp_X9_errs (e := 1) hm (by decide) (by decide)) rfl ?_
    exact q_iret (pc := 26) rfl rfl (mA_no (k := 0) (by rw [oSpring, if_neg (show ¬ _ = true from by rw [pB_f h5]; decide)]) fm_rf)
  · refine q_iload_n (pc := 8) (j := 2) rfl rfl ?_
    refine q_i2l (pc := 9) rfl ?_
    refine q_lconst (pc := 10) 0 rfl (by decide) ?_
    refine q_ldc2 (pc := 11) (v := 2) rfl kc_X9_89 ?_
    refine q_callS (pc := 14) (as := [.long (what.toInt64), .long 0, .long 2]) (rest := []) (st2 := [.int (pB (pWi what 0 2))]) rfl ce_X9_in ml_X9_85 st_X9_in rfl (by decide) (Nat.le_of_ble_eq_true rfl) (sp_X9_inW (v := what) (l := 0) (m := 2) (Int32.toInt_toInt64 _) (by decide) (by decide)) rfl ?_
    refine q_if_ne (pc := 17) 27 rfl (by decide) (fun h17 => ?_) (fun h17 => ?_)
    · obtain ⟨x, rfl, hxN⟩ := isCo_of hN2 (pB_t h5)
      refine q_iload_n (pc := 27) (j := 2) rfl rfl ?_
      refine q_if_ne (pc := 28) 39 rfl (by decide) (fun h28 => ?_) (fun h28 => ?_)
      · refine q_iload_n (pc := 39) (j := 2) rfl rfl ?_
        refine q_iconst (pc := 40) 1 rfl (by decide) ?_
        refine q_icmp_ne (pc := 41) 52 rfl (by decide) (fun h41 => ?_) (fun h41 => ?_)
        · refine q_aload_n (pc := 52) (j := 0) rfl rfl ?_
          refine q_iload_n (pc := 53) (j := 1) rfl rfl ?_
          refine q_callV (pc := 54) (as := [.int (nI x)]) (rest := []) (b := 70) (st2 := [.float (roG (mG S) x)]) rfl ce_X9_rod ml_X9_150 im_X9_rod se_X9_rod hm.1 rfl rfl rfl (by decide) (Nat.le_of_ble_eq_true rfl) (sp_X9_rod (c := x) hm (by omega) (hok x (by omega))) rfl ?_
          refine q_callS (pc := 57) (as := [.float (roG (mG S) x)]) (rest := []) (st2 := [.int ((roG (mG S) x).toInt32)]) rfl ce_Jxf58ca_floatToIntBits_5c35a ml_X9_153 st_Jxf58ca_floatToIntBits_5c35a rfl (by decide) (Nat.le_of_ble_eq_true rfl) (sp_fbits (x := (roG (mG S) x)) (ro_nn (hok x hxN))) rfl ?_
          exact q_iret (pc := 60) rfl rfl (mA_ok (by rw [oSpring, if_pos (pB_t h5), if_pos (pB_t h17), tN_nI (by omega), if_neg h28, if_neg h41]) fm_rf)
        · refine q_aload_n (pc := 44) (j := 0) rfl rfl ?_
          refine q_iload_n (pc := 45) (j := 1) rfl rfl ?_
          refine q_callV (pc := 46) (as := [.int (nI x)]) (rest := []) (b := 70) (st2 := [.float (flG (mG S) x)]) rfl ce_X9_flex ml_X9_147 im_X9_flex se_X9_flex hm.1 rfl rfl rfl (by decide) (Nat.le_of_ble_eq_true rfl) (sp_X9_flex (c := x) hm (by omega) (hok x (by omega))) rfl ?_
          refine q_goto (pc := 49) 57 rfl (by decide) ?_
          refine q_callS (pc := 57) (as := [.float (flG (mG S) x)]) (rest := []) (st2 := [.int ((flG (mG S) x).toInt32)]) rfl ce_Jxf58ca_floatToIntBits_5c35a ml_X9_153 st_Jxf58ca_floatToIntBits_5c35a rfl (by decide) (Nat.le_of_ble_eq_true rfl) (sp_fbits (x := (flG (mG S) x)) (fl_nn (hok x hxN))) rfl ?_
          exact q_iret (pc := 60) rfl rfl (mA_ok (by rw [oSpring, if_pos (pB_t h5), if_pos (pB_t h17), tN_nI (by omega), if_neg h28, if_pos (show what = 1 from h41)]) fm_rf)
      · refine q_aload_n (pc := 31) (j := 0) rfl rfl ?_
        refine q_iload_n (pc := 32) (j := 1) rfl rfl ?_
        refine q_callV (pc := 33) (as := [.int (nI x)]) (rest := []) (b := 70) (st2 := [.float (idG (mG S) x)]) rfl ce_X9_ideal ml_X9_143 im_X9_ideal se_X9_ideal hm.1 rfl rfl rfl (by decide) (Nat.le_of_ble_eq_true rfl) (sp_X9_ideal (c := x) hm (by omega) (hok x (by omega))) rfl ?_
        refine q_goto (pc := 36) 57 rfl (by decide) ?_
        refine q_callS (pc := 57) (as := [.float (idG (mG S) x)]) (rest := []) (st2 := [.int ((idG (mG S) x).toInt32)]) rfl ce_Jxf58ca_floatToIntBits_5c35a ml_X9_153 st_Jxf58ca_floatToIntBits_5c35a rfl (by decide) (Nat.le_of_ble_eq_true rfl) (sp_fbits (x := (idG (mG S) x)) (id_nn (hok x hxN))) rfl ?_
        exact q_iret (pc := 60) rfl rfl (mA_ok (by rw [oSpring, if_pos (pB_t h5), if_pos (pB_t h17), tN_nI (by omega), if_pos h28]) fm_rf)
    · refine q_aload_n (pc := 20) (j := 0) rfl rfl ?_
      refine q_ldc (pc := 21) (v := (-2147483001)) rfl kc_X9_109 ?_
      refine q_callV (pc := 23) (as := [.int (-2147483001)]) (rest := []) (b := 70) (st2 := [.int (-2147483000 - nI 1)]) rfl ce_X9_errs ml_X9_110 im_X9_errs se_X9_errs hm.1 rfl rfl rfl (by decide) (Nat.le_of_ble_eq_true rfl) (sp_X9_errs (e := 1) hm (by decide) (by decide)) rfl ?_
      exact q_iret (pc := 26) rfl rfl (mA_no (k := 0) (by rw [oSpring, if_pos (pB_t h5), if_neg (show ¬ _ = true from by rw [pB_f h17]; decide)]) fm_rf)
set_option maxRecDepth 100000 in
theorem sp_X9_width {sh : List PSh} {S : PSt} {N : Nat} (hm : isMo sh) (hi : mIv S N) {v : Int32}  : pG mX9_width 1 [.ref 70, .int v] sh S (mA (oWidth (S.1 71 1) v) S (pSI S 71 1 v)) := by
  obtain ⟨hN, hN2, hok, hw⟩ := hi
  refine pG.of [some (.ref 70), some (.int v), none] (by decide) tk_X9_width (Nat.le_of_ble_eq_true rfl) rfl (fun X => ?_)
  refine q_iload_n (pc := 0) (j := 1) rfl rfl ?_
  refine q_i2l (pc := 1) rfl ?_
  refine q_ldc2 (pc := 2) (v := 20) rfl kc_X9_95 ?_
  refine q_ldc2 (pc := 5) (v := 380) rfl kc_X9_159 ?_
  refine q_callS (pc := 8) (as := [.long (v.toInt64), .long 20, .long 380]) (rest := []) (st2 := [.int (pB (pWi v 20 380))]) rfl ce_X9_in ml_X9_85 st_X9_in rfl (by decide) (Nat.le_of_ble_eq_true rfl) (sp_X9_inW (v := v) (l := 20) (m := 380) (Int32.toInt_toInt64 _) (by decide) (by decide)) rfl ?_
  refine q_if_ne (pc := 11) 21 rfl (by decide) (fun h11 => ?_) (fun h11 => ?_)
  · refine q_aload_n (pc := 21) (j := 0) rfl rfl ?_
    refine q_get (pc := 22) (a := 70) (v := .ref 71) rfl fl_X9_9 hm.1 rfl rfl ?_
    refine q_iconst (pc := 25) 1 rfl (by decide) ?_
    refine q_iald (pc := 26) (a := 71) 1 rfl hm.2.1 (vp_in_nI (n := 1) (by decide) (by decide)) rfl ?_
    refine q_istore_n (pc := 27) (j := 2) [some (.ref 70), some (.int v), some (.int (S.1 71 1))] rfl (by decide) rfl ?_
    refine q_aload_n (pc := 28) (j := 0) rfl rfl ?_
    refine q_get (pc := 29) (a := 70) (v := .ref 71) rfl fl_X9_9 hm.1 rfl rfl ?_
    refine q_iconst (pc := 32) 1 rfl (by decide) ?_
    refine q_iload_n (pc := 33) (j := 1) rfl rfl ?_
    refine q_iast (pc := 34) (a := 71) 1 rfl hm.2.1 (vp_in_nI (n := 1) (by decide) (by decide)) rfl ?_
    refine q_iload_n (pc := 35) (j := 2) rfl rfl ?_
    exact q_iret (pc := 36) rfl rfl (mA_ok (by rw [oWidth, if_pos (pB_t h11)]) fm_rf)
  · refine q_aload_n (pc := 14) (j := 0) rfl rfl ?_
    refine q_ldc (pc := 15) (v := (-2147483001)) rfl kc_X9_109 ?_
    refine q_callV (pc := 17) (as := [.int (-2147483001)]) (rest := []) (b := 70) (st2 := [.int (-2147483000 - nI 1)]) rfl ce_X9_errs ml_X9_110 im_X9_errs se_X9_errs hm.1 rfl rfl rfl (by decide) (Nat.le_of_ble_eq_true rfl) (sp_X9_errs (e := 1) hm (by decide) (by decide)) rfl ?_
    exact q_iret (pc := 20) rfl rfl (mA_no (k := 0) (by rw [oWidth, if_neg (show ¬ _ = true from by rw [pB_f h11]; decide)]) fm_rf)
