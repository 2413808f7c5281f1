/-! the law's cell, rodOf, stretch: written by wip/p37/gen/c51.py -/
/-- a contract where the script is X -/
def pGX (X : Nat × (Nat → Int32)) (M : PM) (d : Nat) (av : List Value) (sh : List PSh) (S : PSt) (P : Option Value → PSt → Prop) : Prop := pSpec M d 0 0 av X sh S (pE sh P)
theorem pGX.of {X : Nat × (Nat → Int32)} {M : PM} {d : Nat} {av : List Value} {sh : List PSh} {S : PSt} {P : Option Value → PSt → Prop} (L0 : PL) (hy : plainName M.1.cls = true) (hT : pTabOk M.2.1 M.2.2.2.2 = true) (ha : (pArgs av).length ≤ M.2.2.1) (hL : pL0 M.2.2.1 av = L0)
    (h : pV M d sh.length X sh P 0 L0 [] S) : pGX X M d av sh S P := pSpec.of hy hT ha (by rw [hL]; exact h)
theorem q_callSX {M M1 : PM} {d d1 n0 idx n : Nat} {X : Nat × (Nat → Int32)} {sh : List PSh} {P P1 : Option Value → PSt → Prop} {pc : Nat} {L : PL} {S : PSt} (as rest : List Value) (hi : pLook M.2.2.2.2 pc = some (.invokestatic idx, 3)) (hce : pCallee M1 n) (hml : pML M.1.cls idx M1) (hst : Cond.static M1.1 ∈ pGood) (hn : as.length = n) (hd : d1 + 1 ≤ d) (hcat : (rest.map fun v => v.category).sum ≤ 8) (hsp : pGX X M1 d1 as sh S P1) (k : ∀ (r : Option Value) (S2 : PSt), P1 r S2 → pV M d n0 X sh P (pc + 3) L (r.toList ++ rest) S2) : pV M d n0 X sh P pc L (as.reverse ++ rest) S := by
  exact pr_callS hi hce hml hst hn hd hcat ⟨Nat.le_refl _, Nat.le_refl _⟩ hsp (fun r sh2 T h => pSame0 (by rw [h.1])) (fun r sh2 T h => by obtain ⟨rfl, h⟩ := h; exact k r T h)
set_option maxRecDepth 100000 in
theorem sp_L_cell {X : Nat × (Nat → Int32)} {sh : List PSh} {S : PSt} {i : Nat} (hX : X.1 ≤ 260) (hi : i < 1000) : pGX X mL_cell 0 [.ref 1000, .int (nI i)] sh S (fun r T => r = some (.int (celI X i)) ∧ T = S) := by
  refine pGX.of [some (.ref 1000), some (.int (nI i))] (by decide) tk_L_cell (Nat.le_of_ble_eq_true rfl) rfl ?_
  refine q_iload_n (pc := 0) (j := 1) rfl rfl ?_
  refine q_aload_n (pc := 1) (j := 0) rfl rfl ?_
  refine q_alenR (pc := 2) 0 (by decide) rfl ?_
  refine q_icmp_ge (pc := 3) 12 rfl (by decide) (fun h => ?_) (fun h => ?_)
  · refine q_iconst (pc := 12) 0 rfl (by decide) ?_
    exact q_iret (pc := 13) rfl rfl ⟨by rw [celI, if_neg (by have := (nI_leI (a := X.1) (b := i) (by omega) (by omega)).mp h; omega)], rfl⟩
  · have hlt : i < X.1 := by
      have := mt (nI_leI (a := X.1) (b := i) (by omega) (by omega)).mpr h
      omega
    refine q_aload_n (pc := 6) (j := 0) rfl rfl ?_
    refine q_iload_n (pc := 7) (j := 1) rfl rfl ?_
    refine q_ialdR (pc := 8) 0 i (by decide) rfl (vp_in_nI (N := X.1) hlt (by omega)) (nI_clamp (by omega)) ?_
    refine q_goto (pc := 9) 13 rfl (by decide) ?_
    exact q_iret (pc := 13) rfl rfl ⟨by rw [celI, if_pos hlt]; rfl, rfl⟩
theorem ro_F {S : PSt} {N c : Nat} (hi : cIv S N) (hc : c < N) : fF (roG (S.1 3) c) := by
  obtain ⟨m, hm, _⟩ := ro_fu (hi.2.2.1 c hc)
  exact hm.1
set_option maxRecDepth 100000 in
theorem sp_L_rodOf {sh : List PSh} {S : PSt} {N : Nat} (he : isLw sh) (hi : cIv S N) (hN : N ≤ 20) {T : PSt} (hf : frL S T) {c : Nat} (hc : c < N) : pG mL_rodOf 5 [.ref 0, .int (nI c)] sh T (fun r U => r = some (.float (roG (S.1 3) c)) ∧ frL S U) := by
  refine pG.of [some (.ref 0), some (.int (nI c))] (by decide) tk_L_rodOf (Nat.le_of_ble_eq_true rfl) rfl (fun X => ?_)
  refine q_aload_n (pc := 0) (j := 0) rfl rfl ?_
  refine q_iload_n (pc := 1) (j := 1) rfl rfl ?_
  refine q_iconst (pc := 2) 2 rfl (by decide) ?_
  refine q_callVG (pc := 3) (as := [.int (nI c), .int 2]) (rest := []) (b := 0) rfl ce_X8_spring ml_L_47 im_X8_spring se_X8_spring he.1.1 rfl rfl rfl (by decide) (Nat.le_of_ble_eq_true rfl) (sp_X8_spring he.1 (fl_iv hi hf)) (fun r9 S9 h9 => ?_)
  obtain ⟨rfl, hf⟩ := rd_spring2 hi hf (c := c) hc h9
  refine q_callS (pc := 6) (as := [.int ((roG (S.1 3) c).toInt32)]) (rest := []) (st2 := [.float (roG (S.1 3) c)]) rfl ce_L_f ml_L_44 st_L_f rfl (by decide) (Nat.le_of_ble_eq_true rfl) (sp_L_f (x := (roG (S.1 3) c)) (sn_F (ro_F hi hc))) rfl ?_
  exact q_fret (pc := 9) rfl rfl ⟨rfl, hf⟩
theorem lt_of_g {x y : UInt32} : Op.cmpValue (FP.fcmp x y) .g < 0 ↔ flt x y = true := ⟨fun h => decide_eq_true h, fun h => of_decide_eq_true h⟩
theorem gt_of_l {x y : UInt32} : 0 < Op.cmpValue (FP.fcmp x y) .l ↔ fgt x y = true := ⟨fun h => decide_eq_true h, fun h => of_decide_eq_true h⟩
theorem nI_pd {a k : Nat} (h : 0 < k) : nI (a + k) - 1 = nI (a + (k - 1)) := by
  obtain ⟨j, rfl⟩ : ∃ j, k = j + 1 := ⟨k - 1, by omega⟩
  exact nI_pred (a + j)
section STW
variable {S : PSt} {N a m : Nat}
theorem far_nl (hi : cIv S N) (hN : N ≤ 20) (hb : a + m < N) {k : Nat} (hk : k < m + 1) (h0 : 0 < k) : ¬ Op.cmpValue (FP.fcmp (atV (S.1 3) (S.1 1 2) a (m + 1) k) (FP.fadd (atV (S.1 3) (S.1 1 2) a (m + 1) (k - 1)) (FP.fmul (roG (S.1 3) (a + (k - 1))) 1065185444))) .g < 0 := by
  obtain ⟨j, rfl⟩ : ∃ j, k = j + 1 := ⟨k - 1, by omega⟩
  rw [Nat.add_sub_cancel]
  have h := at_far (g := S.1 3) (w := S.1 1 2) (a := a) (n := m + 1) hi.2.2.1 hi.2.2.2 (by omega) (by omega) (show j < m + 1 by omega)
  rw [lt_of_g, flt_iff (atV_ok hi.2.2.1 hi.2.2.2 (by omega) (by omega) (j + 1) (by omega)).1 h.1]
  exact Int.not_lt.mpr h.2
theorem far_nn (hi : cIv S N) (hN : N ≤ 20) (hb : a + m < N) {k : Nat} (hk : k < m + 1) (h0 : 0 < k) : vf_n32 (FP.fmul (roG (S.1 3) (a + (k - 1))) 1065185444) ∧ vf_n32 (FP.fadd (atV (S.1 3) (S.1 1 2) a (m + 1) (k - 1)) (FP.fmul (roG (S.1 3) (a + (k - 1))) 1065185444)) := by
  have h := at_far (g := S.1 3) (w := S.1 1 2) (a := a) (n := m + 1) hi.2.2.1 hi.2.2.2 (by omega) (by omega) (show k - 1 < m + 1 by omega)
  exact ⟨fF_nn (rod_99 hi.2.2.1 (c := a + (k - 1)) (by omega)).1, fF_nn h.1⟩
theorem mg_L_58 : Cond.methodLink RL 58 yJ9_abs_f6c48 ∈ pGood := pGood_in 590 (by decide +kernel) (by decide +kernel)
theorem mg_L_109 : Cond.methodLink RL 109 yJ9_min_e70c8 ∈ pGood := pGood_in 769 (by decide +kernel) (by decide +kernel)
theorem abs_fz {x : UInt32} (hx : fF x) : x &&& 0x7fffffff ≤ 0x7f800000 ∧ fF (x &&& 0x7fffffff) ∧ fz (x &&& 0x7fffffff) = ((fz x).natAbs : Int) := by
  have en : (x &&& 0x7fffffff).toNat = x.toNat % 2 ^ 31 := by
    rw [UInt32.toNat_and]
    exact Nat.and_two_pow_sub_one_eq_mod _ 31
  have h0 := (fF_bits x).mp hx
  have h1 : fF (x &&& 0x7fffffff) := (fF_bits _).mpr (by rw [en, Nat.mod_mod]; exact h0)
  refine ⟨?_, h1, ?_⟩
  · rw [UInt32.le_iff_toNat_le, en]
    exact Nat.le_of_lt h0
  · rw [fz_bits h1.ne_nan, fz_abs hx.ne_nan, en, Nat.mod_mod, decide_eq_false (by have := Nat.mod_lt x.toNat (show 0 < 2 ^ 31 by decide); omega)]
    rfl
theorem c02 : fF 1017370378 ∧ 0 ≤ fz 1017370378 ∧ 3 * ((2 ^ 146 : Nat) : Int) ≤ fz 1017370378 * 20 ∧ fz 1017370378 ≤ ((2 ^ 149 : Nat) : Int) := ⟨(fF_bits _).mpr (by decide), by decide +kernel, by decide +kernel, by decide +kernel⟩
theorem w02 {w : Int32} (hw : okWd w) : fF (FP.fmul 1017370378 (FP.i2f w)) ∧ 3 * ((2 ^ 146 : Nat) : Int) ≤ fz (FP.fmul 1017370378 (FP.i2f w)) := by
  obtain ⟨mw, w1, w2, w3⟩ := wd_fu hw
  obtain ⟨c1, c2, c3, c4⟩ := c02
  have hU := U6_pos
  have e1 : fz (FP.i2f w) = mw * (U6 : Int) := w1.2
  have h20 : 20 * ((2 ^ 149 : Nat) : Int) ≤ fz (FP.i2f w) := by
    rw [e1, two149]
    generalize (U6 : Int) = c at *
    have := Int.mul_le_mul_of_nonneg_right w2 (Int.le_of_lt hU)
    omega
  have hup : fz (FP.i2f w) ≤ ((2 ^ 158 : Nat) : Int) := by
    have := fz_U (e := 15) w1 (by omega)
    have h9 : (2 : Nat) ^ (15 + 143) = 2 ^ 158 := rfl
    omega
  have h149 : (0 : Int) ≤ ((2 ^ 149 : Nat) : Int) := Int.natCast_nonneg _
  refine ⟨(fmul_err (e := 140) c1 w1.1 (by decide) ?_).1, ?_⟩
  · rw [Int.natAbs_mul]
    have k1 : (fz 1017370378).natAbs ≤ 2 ^ 149 := by omega
    have k2 : (fz (FP.i2f w)).natAbs ≤ 2 ^ 158 := by omega
    exact Nat.le_trans (Nat.mul_le_mul k1 k2) (by decide)
  · obtain ⟨V, v1, v2, v3⟩ := rp (m := 3) (e := 146) (by decide) (by decide)
    have := fmul_ge c1 w1.1 v1 v2 (by
      rw [v3]
      have k1 : fz 1017370378 * (20 * ((2 ^ 149 : Nat) : Int)) ≤ fz 1017370378 * fz (FP.i2f w) := Int.mul_le_mul_of_nonneg_left h20 c2
      have k2 : 3 * ((2 ^ 146 : Nat) : Int) * ((2 ^ 149 : Nat) : Int) ≤ fz 1017370378 * 20 * ((2 ^ 149 : Nat) : Int) := Int.mul_le_mul_of_nonneg_right c3 h149
      rw [Int.mul_assoc (fz 1017370378)] at k2
      exact Int.le_trans k2 k1)
    rw [v3] at this
    exact this
theorem non_law (hi : cIv S N) (hN : N ≤ 20) (hb : a + m < N) (hh : nI (heldV (S.1 3) (S.1 1 2) a (m + 1)) = 0) :
    vf_n32 (FP.fsub (atV (S.1 3) (S.1 1 2) a (m + 1) (m + 1)) (FP.i2f (S.1 1 2))) ∧ (FP.fsub (atV (S.1 3) (S.1 1 2) a (m + 1) (m + 1)) (FP.i2f (S.1 1 2))) &&& 0x7fffffff ≤ 0x7f800000 ∧ vf_n32 (FP.fmul 1017370378 (FP.i2f (S.1 1 2))) ∧
    Op.cmpValue (FP.fcmp ((FP.fsub (atV (S.1 3) (S.1 1 2) a (m + 1) (m + 1)) (FP.i2f (S.1 1 2))) &&& 0x7fffffff) (FP.fmul 1017370378 (FP.i2f (S.1 1 2)))) .l ≤ 0 := by
  have h0 : heldV (S.1 3) (S.1 1 2) a (m + 1) = 0 := by
    have hle := cntH_le (setV (S.1 3) (S.1 1 2) a (m + 1)).1 (m + 1)
    by_cases h9 : heldV (S.1 3) (S.1 1 2) a (m + 1) = 0
    · exact h9
    · exact absurd hh (nI_ne0 (by omega) (by unfold heldV; omega))
  have h := non_all (g := S.1 3) (w := S.1 1 2) (a := a) (n := m + 1) hi.2.2.1 hi.2.2.2 (by omega) (by omega) (by omega) h0
  have hA := (atV_ok (g := S.1 3) (w := S.1 1 2) (a := a) (n := m + 1) hi.2.2.1 hi.2.2.2 (by omega) (by omega) (m + 1) (Nat.le_refl _)).1
  have hW := i2f_F (S.1 1 2)
  obtain ⟨c1, c2⟩ := w02 hi.2.2.2
  have e147 : (2 : Nat) ^ 23 * 2 ^ 124 = 2 ^ 147 := by decide +kernel
  have s := fsub_err (e := 124) hA hW (by decide) (by rw [e147]; omega)
  have ha := abs_fz s.1
  refine ⟨fF_nn s.1, ha.1, fF_nn c1, ?_⟩
  · refine Int32.not_lt.mp fun q => ?_
    rw [gt_of_l, fgt_iff ha.2.1 c1, ha.2.2] at q
    have s2 := s.2
    have u1 : ((2 ^ 147 : Nat) : Int) = 2 * ((2 ^ 146 : Nat) : Int) := by decide +kernel
    have u2 : (2 : Nat) ^ 146 = 4194304 * 2 ^ 124 := by decide +kernel
    rw [u1] at h
    rw [u2] at h c2
    have u3 : 0 < 2 ^ 124 := Nat.two_pow_pos 124
    generalize (2 : Nat) ^ 124 = P at *
    omega
theorem bsum_tr {h : Nat → Bool} {f : Nat → UInt32} : ∀ {k : Nat}, (∀ j, j < k → h j = true) → bsum h false f k = FP.fconst0 := by
  intro k
  induction k with
  | zero => intro _; rfl
  | succ k ih =>
    intro hj
    unfold bsum
    rw [if_neg (by rw [hj k (by omega)]; decide)]
    exact ih (fun j q => hj j (by omega))
theorem all_0 (hN : m + 1 ≤ 32) (hh : ¬ nI (heldV (S.1 3) (S.1 1 2) a (m + 1)) < nI (m + 1)) : (setV (S.1 3) (S.1 1 2) a (m + 1)).2.toInt32 = 0 := by
  have hle := cntH_le (setV (S.1 3) (S.1 1 2) a (m + 1)).1 (m + 1)
  have h1 : m + 1 ≤ cntH (setV (S.1 3) (S.1 1 2) a (m + 1)).1 (m + 1) := by
    have := mt (nI_ltI (a := heldV (S.1 3) (S.1 1 2) a (m + 1)) (b := m + 1) (by unfold heldV; omega) (by omega)).mpr hh
    unfold heldV at this
    omega
  rw [(set_fix (g := S.1 3) (w := S.1 1 2) (a := a) hN).2]
  unfold balF
  rw [bsum_tr (cntH_all h1), if_neg (by decide)]
  rfl
end STW
set_option maxRecDepth 100000 in
theorem lp_L_stretch {n0 : Nat} {X : Nat × (Nat → Int32)} {P : Option Value → PSt → Prop} {d : Nat} (hd9 : 7 ≤ d) {sh : List PSh} {S : PSt} {N : Nat} (he : isLw sh) (hi : cIv S N) (hN : N ≤ 20) {a m : Nat} (hb : a + m < N) (hE : eOk S N) (hA : ∀ k, k ≤ m + 1 → fF (atV (S.1 3) (S.1 1 2) a (m + 1) k)) (hLn : ∀ k, k < m + 1 → fF (lenV (S.1 3) (S.1 1 2) a (m + 1) k)) (hR : ∀ c, c < N → fF (roG (S.1 3) c)) (hex : ∀ f6 f7 T, frL S T → pV mL_stretch d n0 X sh P 124 [some (.ref 0), some (.ref 70), some (.int (nI a)), some (.int (nI (a + m))), some (.float (atV (S.1 3) (S.1 1 2) a (m + 1) (m + 1))), some (.int (nI (a + (m + 1)))), f6, f7] [] T) : ∀ (m9 k : Nat) (f6 : Option Value) (f7 : Option Value) (T : PSt), k + m9 = (m + 1) → frL S T → pV mL_stretch d n0 X sh P 28 [some (.ref 0), some (.ref 70), some (.int (nI a)), some (.int (nI (a + m))), some (.float (atV (S.1 3) (S.1 1 2) a (m + 1) (m + 1))), some (.int (nI (a + k))), f6, f7] [] T := by
  intro m9
  induction m9 with
  | zero =>
    intro k f6 f7 T hk hf
    have hk9 : (m + 1) = k := by omega
    subst hk9
    refine q_iload (pc := 28) (j := 5) rfl rfl ?_
    refine q_iload_n (pc := 30) (j := 3) rfl rfl ?_
    refine q_icmp_gt (pc := 31) 124 rfl (by decide) (fun _ => ?_) (fun h9 => absurd (nI_lt (by omega) (by omega)) h9)
    exact hex _ _ _ hf
  | succ m9 ih =>
    intro k f6 f7 T hk hf
    have hk1 : k < (m + 1) := by omega
    have hk2 : k < (m + 1) := hk1
    refine q_iload (pc := 28) (j := 5) rfl rfl ?_
    refine q_iload_n (pc := 30) (j := 3) rfl rfl ?_
    refine q_icmp_gt (pc := 31) 124 rfl (by decide) (fun h9 => absurd h9 (nI_nlt (by omega) (by omega))) (fun _ => ?_)
    refine q_aload_n (pc := 34) (j := 0) rfl rfl ?_
    refine q_iload (pc := 35) (j := 5) rfl rfl ?_
    refine q_iconst (pc := 37) 2 rfl (by decide) ?_
    refine q_callVG (pc := 38) (as := [.int (nI (a + k)), .int 2]) (rest := []) (b := 0) rfl ce_X8_spring ml_L_47 im_X8_spring se_X8_spring he.1.1 rfl rfl rfl (by omega) (Nat.le_of_ble_eq_true rfl) (sp_X8_spring he.1 (fl_iv hi hf)) (fun r9 S9 h9 => ?_)
    obtain ⟨rfl, hf⟩ := rd_spring2 hi hf (c := a + k) (by omega) h9
    refine q_callS (pc := 41) (as := [.int ((roG (S.1 3) (a + k)).toInt32)]) (rest := []) (st2 := [.float (roG (S.1 3) (a + k))]) rfl ce_L_f ml_L_44 st_L_f rfl (by omega) (Nat.le_of_ble_eq_true rfl) (sp_L_f (x := (roG (S.1 3) (a + k))) (sn_F (hR _ (by omega)))) rfl ?_
    refine q_fstore (pc := 44) (j := 6) [some (.ref 0), some (.ref 70), some (.int (nI a)), some (.int (nI (a + m))), some (.float (atV (S.1 3) (S.1 1 2) a (m + 1) (m + 1))), some (.int (nI (a + k))), some (.float (roG (S.1 3) (a + k))), f7] rfl (by decide) rfl ?_
    refine q_aload_n (pc := 46) (j := 0) rfl rfl ?_
    refine q_iload_n (pc := 47) (j := 2) rfl rfl ?_
    refine q_iload_n (pc := 48) (j := 3) rfl rfl ?_
    refine q_iload (pc := 49) (j := 5) rfl rfl ?_
    refine q_iconst (pc := 51) 0 rfl (by decide) ?_
    refine q_callVG (pc := 52) (as := [.int (nI a), .int (nI (a + m)), .int (nI (a + k)), .int 0]) (rest := []) (b := 0) rfl ce_X8_at ml_L_40 im_X8_at se_X8_at he.1.1 rfl rfl rfl (by omega) (Nat.le_of_ble_eq_true rfl) (sp_X8_at he.1 (fl_iv hi hf)) (fun r9 S9 h9 => ?_)
    obtain ⟨rfl, hf⟩ := rk_at0 hi hf (a := a) (m := m) (k := k) (by omega) (by omega) h9
    refine q_callS (pc := 55) (as := [.int ((lenV (S.1 3) (S.1 1 2) a (m + 1) k).toInt32)]) (rest := []) (st2 := [.float (lenV (S.1 3) (S.1 1 2) a (m + 1) k)]) rfl ce_L_f ml_L_44 st_L_f rfl (by omega) (Nat.le_of_ble_eq_true rfl) (sp_L_f (x := (lenV (S.1 3) (S.1 1 2) a (m + 1) k)) (sn_F (hLn _ (by omega)))) rfl ?_
    refine q_fstore (pc := 58) (j := 7) [some (.ref 0), some (.ref 70), some (.int (nI a)), some (.int (nI (a + m))), some (.float (atV (S.1 3) (S.1 1 2) a (m + 1) (m + 1))), some (.int (nI (a + k))), some (.float (roG (S.1 3) (a + k))), some (.float (lenV (S.1 3) (S.1 1 2) a (m + 1) k))] rfl (by decide) rfl ?_
    refine q_fload (pc := 60) (j := 7) rfl rfl ?_
    refine q_fload (pc := 62) (j := 6) rfl rfl ?_
    refine q_fcmp (pc := 64) (op := .g) rfl ?_
    refine q_if_lt (pc := 65) 116 rfl (by decide) (fun h9 => absurd h9 (fun h9 => absurd ((flt_iff (hLn k (by omega)) (hR (a + k) (by omega))).mp (decide_eq_true h9)) (Int.not_lt.mpr (len_ge hi.2.2.1 hi.2.2.2 (by omega) (by omega) (by omega))))) (fun _ => ?_)
    refine q_iload (pc := 68) (j := 5) rfl rfl ?_
    refine q_iload_n (pc := 70) (j := 2) rfl rfl ?_
    refine q_icmp_le (pc := 71) 118 rfl (by decide) (fun h71 => ?_) (fun h71 => ?_)
    · refine q_iinc (pc := 118) (j := 5) (n := 1) (nI (a + (k + 1))) [some (.ref 0), some (.ref 70), some (.int (nI a)), some (.int (nI (a + m))), some (.float (atV (S.1 3) (S.1 1 2) a (m + 1) (m + 1))), some (.int (nI (a + (k + 1)))), some (.float (roG (S.1 3) (a + k))), some (.float (lenV (S.1 3) (S.1 1 2) a (m + 1) k))] rfl (by decide) rfl (nI_1 (a + k)) rfl ?_
      refine q_goto (pc := 121) 28 rfl (by decide) ?_
      exact ih (k + 1) _ _ _ (by omega) hf
    · have h0 : 0 < k := (by have := mt (nI_leI (a := a + k) (b := a) (by omega) (by omega)).mpr h71; omega)
      refine q_aload_n (pc := 74) (j := 0) rfl rfl ?_
      refine q_iload_n (pc := 75) (j := 2) rfl rfl ?_
      refine q_iload_n (pc := 76) (j := 3) rfl rfl ?_
      refine q_iload (pc := 77) (j := 5) rfl rfl ?_
      refine q_iconst (pc := 79) 1 rfl (by decide) ?_
      refine q_callVG (pc := 80) (as := [.int (nI a), .int (nI (a + m)), .int (nI (a + k)), .int 1]) (rest := []) (b := 0) rfl ce_X8_at ml_L_40 im_X8_at se_X8_at he.1.1 rfl rfl rfl (by omega) (Nat.le_of_ble_eq_true rfl) (sp_X8_at he.1 (fl_iv hi hf)) (fun r9 S9 h9 => ?_)
      obtain ⟨rfl, hf⟩ := rk_at1 hi hf (a := a) (m := m) (k := k) (by omega) (by omega) h9
      refine q_callS (pc := 83) (as := [.int ((atV (S.1 3) (S.1 1 2) a (m + 1) k).toInt32)]) (rest := []) (st2 := [.float (atV (S.1 3) (S.1 1 2) a (m + 1) k)]) rfl ce_L_f ml_L_44 st_L_f rfl (by omega) (Nat.le_of_ble_eq_true rfl) (sp_L_f (x := (atV (S.1 3) (S.1 1 2) a (m + 1) k)) (sn_F (hA _ (by omega)))) rfl ?_
      refine q_aload_n (pc := 86) (j := 0) rfl rfl ?_
      refine q_iload_n (pc := 87) (j := 2) rfl rfl ?_
      refine q_iload_n (pc := 88) (j := 3) rfl rfl ?_
      refine q_iload (pc := 89) (j := 5) rfl rfl ?_
      refine q_iconst (pc := 91) 1 rfl (by decide) ?_
      refine q_isub (pc := 92) rfl ?_
      refine q_st (st2 := [.int (nI (a + (k - 1))), .int (nI (a + m)), .int (nI a), .ref 0, .float (atV (S.1 3) (S.1 1 2) a (m + 1) k)]) (by rw [nI_pd h0]; try rfl) ?_
      refine q_iconst (pc := 93) 1 rfl (by decide) ?_
      refine q_callVG (pc := 94) (as := [.int (nI a), .int (nI (a + m)), .int (nI (a + (k - 1))), .int 1]) (rest := [.float (atV (S.1 3) (S.1 1 2) a (m + 1) k)]) (b := 0) rfl ce_X8_at ml_L_40 im_X8_at se_X8_at he.1.1 rfl rfl rfl (by omega) (Nat.le_of_ble_eq_true rfl) (sp_X8_at he.1 (fl_iv hi hf)) (fun r9 S9 h9 => ?_)
      obtain ⟨rfl, hf⟩ := rk_at1 hi hf (a := a) (m := m) (k := (k - 1)) (by omega) (by omega) h9
      refine q_callS (pc := 97) (as := [.int ((atV (S.1 3) (S.1 1 2) a (m + 1) (k - 1)).toInt32)]) (rest := [.float (atV (S.1 3) (S.1 1 2) a (m + 1) k)]) (st2 := [.float (atV (S.1 3) (S.1 1 2) a (m + 1) (k - 1)), .float (atV (S.1 3) (S.1 1 2) a (m + 1) k)]) rfl ce_L_f ml_L_44 st_L_f rfl (by omega) (Nat.le_of_ble_eq_true rfl) (sp_L_f (x := (atV (S.1 3) (S.1 1 2) a (m + 1) (k - 1))) (sn_F (hA _ (by omega)))) rfl ?_
      refine q_aload_n (pc := 100) (j := 0) rfl rfl ?_
      refine q_iload (pc := 101) (j := 5) rfl rfl ?_
      refine q_iconst (pc := 103) 1 rfl (by decide) ?_
      refine q_isub (pc := 104) rfl ?_
      refine q_st (st2 := [.int (nI (a + (k - 1))), .ref 0, .float (atV (S.1 3) (S.1 1 2) a (m + 1) (k - 1)), .float (atV (S.1 3) (S.1 1 2) a (m + 1) k)]) (by rw [nI_pd h0]; try rfl) ?_
      refine q_callSG (pc := 105) (as := [.ref 0, .int (nI (a + (k - 1)))]) (rest := [.float (atV (S.1 3) (S.1 1 2) a (m + 1) (k - 1)), .float (atV (S.1 3) (S.1 1 2) a (m + 1) k)]) rfl ce_L_rodOf ml_L_50 st_L_rodOf rfl (by omega) (Nat.le_of_ble_eq_true rfl) (sp_L_rodOf he hi hN hf (c := a + (k - 1)) (by omega)) (fun r9 S9 h9 => ?_)
      obtain ⟨rfl, hf⟩ := h9
      refine q_ldcf (pc := 108) (v := 1065185444) rfl kc_L_54 ?_
      refine q_fmul (pc := 110) rfl (far_nn hi hN hb (by omega) h0).1 ?_
      refine q_fadd (pc := 111) rfl (far_nn hi hN hb (by omega) h0).2 ?_
      refine q_fcmp (pc := 112) (op := .g) rfl ?_
      refine q_if_ge (pc := 113) 118 rfl (by decide) (fun _ => ?_) (fun h9 => absurd (Int32.not_lt.mp (far_nl hi hN hb (by omega) h0)) h9)
      refine q_iinc (pc := 118) (j := 5) (n := 1) (nI (a + (k + 1))) [some (.ref 0), some (.ref 70), some (.int (nI a)), some (.int (nI (a + m))), some (.float (atV (S.1 3) (S.1 1 2) a (m + 1) (m + 1))), some (.int (nI (a + (k + 1)))), some (.float (roG (S.1 3) (a + k))), some (.float (lenV (S.1 3) (S.1 1 2) a (m + 1) k))] rfl (by decide) rfl (nI_1 (a + k)) rfl ?_
      refine q_goto (pc := 121) 28 rfl (by decide) ?_
      exact ih (k + 1) _ _ _ (by omega) hf
set_option maxRecDepth 100000 in
theorem sp_L_stretch {sh : List PSh} {S : PSt} {N : Nat} (he : isLw sh) (hi : cIv S N) (hN : N ≤ 20) {T0 : PSt} (hf : frL S T0) {a m : Nat} (hb : a + m < N) (hE : eOk S N)  : pG mL_stretch 7 [.ref 0, .ref 70, .int (nI a), .int (nI (a + m))] sh T0 (fun r U => r = some (.int 1) ∧ frL S U) := by
  have hA : ∀ k, k ≤ m + 1 → fF (atV (S.1 3) (S.1 1 2) a (m + 1) k) := fun k hk => (atV_ok hi.2.2.1 hi.2.2.2 (by omega) (by omega) k hk).1
  have hLn : ∀ k, k < m + 1 → fF (lenV (S.1 3) (S.1 1 2) a (m + 1) k) := fun k hk => (lenV_ok hi.2.2.1 hi.2.2.2 (by omega) (by omega) hk).1
  have hR : ∀ c, c < N → fF (roG (S.1 3) c) := fun c hc => ro_F hi hc
  refine pG.of [some (.ref 0), some (.ref 70), some (.int (nI a)), some (.int (nI (a + m))), none, none, none, none] (by decide) tk_L_stretch (Nat.le_of_ble_eq_true rfl) rfl (fun X => ?_)
  refine q_aload_n (pc := 0) (j := 0) rfl rfl ?_
  refine q_iload_n (pc := 1) (j := 2) rfl rfl ?_
  refine q_iload_n (pc := 2) (j := 3) rfl rfl ?_
  refine q_iload_n (pc := 3) (j := 3) rfl rfl ?_
  refine q_iconst (pc := 4) 1 rfl (by decide) ?_
  refine q_callVG (pc := 5) (as := [.int (nI a), .int (nI (a + m)), .int (nI (a + m)), .int 1]) (rest := []) (b := 0) rfl ce_X8_at ml_L_40 im_X8_at se_X8_at he.1.1 rfl rfl rfl (by decide) (Nat.le_of_ble_eq_true rfl) (sp_X8_at he.1 (fl_iv hi hf)) (fun r9 S9 h9 => ?_)
  obtain ⟨rfl, hf⟩ := rk_at1 hi hf (a := a) (m := m) (k := m) (by omega) (by omega) h9
  refine q_callS (pc := 8) (as := [.int ((atV (S.1 3) (S.1 1 2) a (m + 1) m).toInt32)]) (rest := []) (st2 := [.float (atV (S.1 3) (S.1 1 2) a (m + 1) m)]) rfl ce_L_f ml_L_44 st_L_f rfl (by decide) (Nat.le_of_ble_eq_true rfl) (sp_L_f (x := (atV (S.1 3) (S.1 1 2) a (m + 1) m)) (sn_F (hA _ (by omega)))) rfl ?_
  refine q_aload_n (pc := 11) (j := 0) rfl rfl ?_
  refine q_iload_n (pc := 12) (j := 2) rfl rfl ?_
  refine q_iload_n (pc := 13) (j := 3) rfl rfl ?_
  refine q_iload_n (pc := 14) (j := 3) rfl rfl ?_
  refine q_iconst (pc := 15) 0 rfl (by decide) ?_
  refine q_callVG (pc := 16) (as := [.int (nI a), .int (nI (a + m)), .int (nI (a + m)), .int 0]) (rest := [.float (atV (S.1 3) (S.1 1 2) a (m + 1) m)]) (b := 0) rfl ce_X8_at ml_L_40 im_X8_at se_X8_at he.1.1 rfl rfl rfl (by decide) (Nat.le_of_ble_eq_true rfl) (sp_X8_at he.1 (fl_iv hi hf)) (fun r9 S9 h9 => ?_)
  obtain ⟨rfl, hf⟩ := rk_at0 hi hf (a := a) (m := m) (k := m) (by omega) (by omega) h9
  refine q_callS (pc := 19) (as := [.int ((lenV (S.1 3) (S.1 1 2) a (m + 1) m).toInt32)]) (rest := [.float (atV (S.1 3) (S.1 1 2) a (m + 1) m)]) (st2 := [.float (lenV (S.1 3) (S.1 1 2) a (m + 1) m), .float (atV (S.1 3) (S.1 1 2) a (m + 1) m)]) rfl ce_L_f ml_L_44 st_L_f rfl (by decide) (Nat.le_of_ble_eq_true rfl) (sp_L_f (x := (lenV (S.1 3) (S.1 1 2) a (m + 1) m)) (sn_F (hLn _ (by omega)))) rfl ?_
  refine q_fadd (pc := 22) rfl (fF_nn (hA (m + 1) (Nat.le_refl _))) ?_
  refine q_st (st2 := [.float (atV (S.1 3) (S.1 1 2) a (m + 1) (m + 1))]) (by rw [show (FP.fadd (atV (S.1 3) (S.1 1 2) a (m + 1) m) (lenV (S.1 3) (S.1 1 2) a (m + 1) m)) = (atV (S.1 3) (S.1 1 2) a (m + 1) (m + 1)) from rfl]; try rfl) ?_
  refine q_fstore (pc := 23) (j := 4) [some (.ref 0), some (.ref 70), some (.int (nI a)), some (.int (nI (a + m))), some (.float (atV (S.1 3) (S.1 1 2) a (m + 1) (m + 1))), none, none, none] rfl (by decide) rfl ?_
  refine q_iload_n (pc := 25) (j := 2) rfl rfl ?_
  refine q_istore (pc := 26) (j := 5) [some (.ref 0), some (.ref 70), some (.int (nI a)), some (.int (nI (a + m))), some (.float (atV (S.1 3) (S.1 1 2) a (m + 1) (m + 1))), some (.int (nI a)), none, none] rfl (by decide) rfl ?_
  refine lp_L_stretch (by decide) he hi hN hb hE hA hLn hR (fun f6 f7 T hf => ?_) (m + 1) 0 _ _ _ (Nat.zero_add _) hf
  refine q_aload_n (pc := 124) (j := 0) rfl rfl ?_
  refine q_iload_n (pc := 125) (j := 2) rfl rfl ?_
  refine q_iload_n (pc := 126) (j := 3) rfl rfl ?_
  refine q_callVG (pc := 127) (as := [.int (nI a), .int (nI (a + m))]) (rest := []) (b := 0) rfl ce_X8_held ml_L_55 im_X8_held se_X8_held he.1.1 rfl rfl rfl (by decide) (Nat.le_of_ble_eq_true rfl) (sp_X8_held he.1 (fl_iv hi hf)) (fun r9 S9 h9 => ?_)
  obtain ⟨rfl, hf⟩ := rk_held hi hf (a := a) (m := m) (by omega) h9
  refine q_if_ne (pc := 130) 156 rfl (by decide) (fun h130 => ?_) (fun h130 => ?_)
  · refine q_aload_n (pc := 156) (j := 0) rfl rfl ?_
    refine q_iload_n (pc := 157) (j := 2) rfl rfl ?_
    refine q_iload_n (pc := 158) (j := 3) rfl rfl ?_
    refine q_callVG (pc := 159) (as := [.int (nI a), .int (nI (a + m))]) (rest := []) (b := 0) rfl ce_X8_held ml_L_55 im_X8_held se_X8_held he.1.1 rfl rfl rfl (by decide) (Nat.le_of_ble_eq_true rfl) (sp_X8_held he.1 (fl_iv hi hf)) (fun r9 S9 h9 => ?_)
    obtain ⟨rfl, hf⟩ := rk_held hi hf (a := a) (m := m) (by omega) h9
    refine q_iload_n (pc := 162) (j := 3) rfl rfl ?_
    refine q_iload_n (pc := 163) (j := 2) rfl rfl ?_
    refine q_isub (pc := 164) rfl ?_
    refine q_iconst (pc := 165) 1 rfl (by decide) ?_
    refine q_iadd (pc := 166) rfl ?_
    refine q_st (st2 := [.int (nI (m + 1)), .int (nI (heldV (S.1 3) (S.1 1 2) a (m + 1)))]) (by rw [show nI (a + m) - nI a + 1 = nI (m + 1) from (by rw [pk_sub (by omega), Nat.add_sub_cancel_left]; exact nI_1 m)]; try rfl) ?_
    refine q_icmp_gt (pc := 167) 197 rfl (by decide) (fun h9 => absurd h9 (nI_nlt (cntH_le _ _) (by omega))) (fun _ => ?_)
    refine q_aload_n (pc := 170) (j := 0) rfl rfl ?_
    refine q_iload_n (pc := 171) (j := 2) rfl rfl ?_
    refine q_iload_n (pc := 172) (j := 3) rfl rfl ?_
    refine q_callVG (pc := 173) (as := [.int (nI a), .int (nI (a + m))]) (rest := []) (b := 0) rfl ce_X8_held ml_L_55 im_X8_held se_X8_held he.1.1 rfl rfl rfl (by decide) (Nat.le_of_ble_eq_true rfl) (sp_X8_held he.1 (fl_iv hi hf)) (fun r9 S9 h9 => ?_)
    obtain ⟨rfl, hf⟩ := rk_held hi hf (a := a) (m := m) (by omega) h9
    refine q_iload_n (pc := 176) (j := 3) rfl rfl ?_
    refine q_iload_n (pc := 177) (j := 2) rfl rfl ?_
    refine q_isub (pc := 178) rfl ?_
    refine q_iconst (pc := 179) 1 rfl (by decide) ?_
    refine q_iadd (pc := 180) rfl ?_
    refine q_st (st2 := [.int (nI (m + 1)), .int (nI (heldV (S.1 3) (S.1 1 2) a (m + 1)))]) (by rw [show nI (a + m) - nI a + 1 = nI (m + 1) from (by rw [pk_sub (by omega), Nat.add_sub_cancel_left]; exact nI_1 m)]; try rfl) ?_
    refine q_icmp_lt (pc := 181) 193 rfl (by decide) (fun h181 => ?_) (fun h181 => ?_)
    · refine q_iconst (pc := 193) 1 rfl (by decide) ?_
      refine q_goto (pc := 194) 198 rfl (by decide) ?_
      exact q_zret (pc := 198) rfl rfl rfl ⟨rfl, hf⟩
    · refine q_aload_n (pc := 184) (j := 0) rfl rfl ?_
      refine q_iload_n (pc := 185) (j := 2) rfl rfl ?_
      refine q_iload_n (pc := 186) (j := 3) rfl rfl ?_
      refine q_callVG (pc := 187) (as := [.int (nI a), .int (nI (a + m))]) (rest := []) (b := 0) rfl ce_X8_force ml_L_65 im_X8_force se_X8_force he.1.1 rfl rfl rfl (by decide) (Nat.le_of_ble_eq_true rfl) (sp_X8_force he.1 (fl_iv hi hf)) (fun r9 S9 h9 => ?_)
      obtain ⟨rfl, hf⟩ := rk_force hi hf (a := a) (m := m) (by omega) h9
      refine q_if_ne (pc := 190) 197 rfl (by decide) (fun h9 => absurd h9 (fun q9 => q9 (all_0 (by omega) h181))) (fun _ => ?_)
      refine q_iconst (pc := 193) 1 rfl (by decide) ?_
      refine q_goto (pc := 194) 198 rfl (by decide) ?_
      exact q_zret (pc := 198) rfl rfl rfl ⟨rfl, hf⟩
  · refine q_fload (pc := 133) (j := 4) rfl rfl ?_
    refine q_aload_n (pc := 135) (j := 1) rfl rfl ?_
    refine q_iconst (pc := 136) 1 rfl (by decide) ?_
    refine q_iald (pc := 137) (a := 70) 1 rfl he.2 (vp_in_nI (n := 1) (by decide) (by decide)) rfl ?_
    refine q_st (st2 := [.int (S.1 1 2), .float (atV (S.1 3) (S.1 1 2) a (m + 1) (m + 1))]) (by rw [show (S9.1 70 1) = S.1 1 2 from (congrFun (fl_g hf).2.2 1).trans hE.2.1]; try rfl) ?_
    refine q_i2f (pc := 138) rfl ?_
    refine q_fsub (pc := 139) rfl (non_law hi hN hb h130).1 ?_
    refine q_absF (pc := 140) rfl mg_L_58 (by decide) (Nat.le_of_ble_eq_true rfl) (non_law hi hN hb h130).2.1 ?_
    refine q_ldcf (pc := 143) (v := 1017370378) rfl kc_L_64 ?_
    refine q_aload_n (pc := 145) (j := 1) rfl rfl ?_
    refine q_iconst (pc := 146) 1 rfl (by decide) ?_
    refine q_iald (pc := 147) (a := 70) 1 rfl he.2 (vp_in_nI (n := 1) (by decide) (by decide)) rfl ?_
    refine q_st (st2 := [.int (S.1 1 2), .float 1017370378, .float ((FP.fsub (atV (S.1 3) (S.1 1 2) a (m + 1) (m + 1)) (FP.i2f (S.1 1 2))) &&& 0x7fffffff)]) (by rw [show (S9.1 70 1) = S.1 1 2 from (congrFun (fl_g hf).2.2 1).trans hE.2.1]; try rfl) ?_
    refine q_i2f (pc := 148) rfl ?_
    refine q_fmul (pc := 149) rfl (non_law hi hN hb h130).2.2.1 ?_
    refine q_fcmp (pc := 150) (op := .l) rfl ?_
    refine q_if_le (pc := 151) 156 rfl (by decide) (fun _ => ?_) (fun h9 => absurd (non_law hi hN hb h130).2.2.2 h9)
    refine q_aload_n (pc := 156) (j := 0) rfl rfl ?_
    refine q_iload_n (pc := 157) (j := 2) rfl rfl ?_
    refine q_iload_n (pc := 158) (j := 3) rfl rfl ?_
    refine q_callVG (pc := 159) (as := [.int (nI a), .int (nI (a + m))]) (rest := []) (b := 0) rfl ce_X8_held ml_L_55 im_X8_held se_X8_held he.1.1 rfl rfl rfl (by decide) (Nat.le_of_ble_eq_true rfl) (sp_X8_held he.1 (fl_iv hi hf)) (fun r9 S9 h9 => ?_)
    obtain ⟨rfl, hf⟩ := rk_held hi hf (a := a) (m := m) (by omega) h9
    refine q_iload_n (pc := 162) (j := 3) rfl rfl ?_
    refine q_iload_n (pc := 163) (j := 2) rfl rfl ?_
    refine q_isub (pc := 164) rfl ?_
    refine q_iconst (pc := 165) 1 rfl (by decide) ?_
    refine q_iadd (pc := 166) rfl ?_
    refine q_st (st2 := [.int (nI (m + 1)), .int (nI (heldV (S.1 3) (S.1 1 2) a (m + 1)))]) (by rw [show nI (a + m) - nI a + 1 = nI (m + 1) from (by rw [pk_sub (by omega), Nat.add_sub_cancel_left]; exact nI_1 m)]; try rfl) ?_
    refine q_icmp_gt (pc := 167) 197 rfl (by decide) (fun h9 => absurd h9 (nI_nlt (cntH_le _ _) (by omega))) (fun _ => ?_)
    refine q_aload_n (pc := 170) (j := 0) rfl rfl ?_
    refine q_iload_n (pc := 171) (j := 2) rfl rfl ?_
    refine q_iload_n (pc := 172) (j := 3) rfl rfl ?_
    refine q_callVG (pc := 173) (as := [.int (nI a), .int (nI (a + m))]) (rest := []) (b := 0) rfl ce_X8_held ml_L_55 im_X8_held se_X8_held he.1.1 rfl rfl rfl (by decide) (Nat.le_of_ble_eq_true rfl) (sp_X8_held he.1 (fl_iv hi hf)) (fun r9 S9 h9 => ?_)
    obtain ⟨rfl, hf⟩ := rk_held hi hf (a := a) (m := m) (by omega) h9
    refine q_iload_n (pc := 176) (j := 3) rfl rfl ?_
    refine q_iload_n (pc := 177) (j := 2) rfl rfl ?_
    refine q_isub (pc := 178) rfl ?_
    refine q_iconst (pc := 179) 1 rfl (by decide) ?_
    refine q_iadd (pc := 180) rfl ?_
    refine q_st (st2 := [.int (nI (m + 1)), .int (nI (heldV (S.1 3) (S.1 1 2) a (m + 1)))]) (by rw [show nI (a + m) - nI a + 1 = nI (m + 1) from (by rw [pk_sub (by omega), Nat.add_sub_cancel_left]; exact nI_1 m)]; try rfl) ?_
    refine q_icmp_lt (pc := 181) 193 rfl (by decide) (fun h181 => ?_) (fun h181 => ?_)
    · refine q_iconst (pc := 193) 1 rfl (by decide) ?_
      refine q_goto (pc := 194) 198 rfl (by decide) ?_
      exact q_zret (pc := 198) rfl rfl rfl ⟨rfl, hf⟩
    · refine q_aload_n (pc := 184) (j := 0) rfl rfl ?_
      refine q_iload_n (pc := 185) (j := 2) rfl rfl ?_
      refine q_iload_n (pc := 186) (j := 3) rfl rfl ?_
      refine q_callVG (pc := 187) (as := [.int (nI a), .int (nI (a + m))]) (rest := []) (b := 0) rfl ce_X8_force ml_L_65 im_X8_force se_X8_force he.1.1 rfl rfl rfl (by decide) (Nat.le_of_ble_eq_true rfl) (sp_X8_force he.1 (fl_iv hi hf)) (fun r9 S9 h9 => ?_)
      obtain ⟨rfl, hf⟩ := rk_force hi hf (a := a) (m := m) (by omega) h9
      refine q_if_ne (pc := 190) 197 rfl (by decide) (fun h9 => absurd h9 (fun q9 => q9 (all_0 (by omega) h181))) (fun _ => ?_)
      refine q_iconst (pc := 193) 1 rfl (by decide) ?_
      refine q_goto (pc := 194) 198 rfl (by decide) ?_
      exact q_zret (pc := 198) rfl rfl rfl ⟨rfl, hf⟩
