/-! the law's lines: written by wip/p37/gen/c53.py -/
theorem e25 (x : Nat) : (2 : Int32) + 5 * nI x = nI (2 + 5 * x) := by
  show _ = Int32.ofNat (2 + 5 * x)
  rw [Int32.ofNat_add, Int32.ofNat_mul]
  rfl
theorem nI_nn {n : Nat} (h : n < 2 ^ 31) : ¬ nI n = -2147483002 := fun q => by
  have := congrArg Int32.toInt q
  rw [nI_toInt h] at this
  have h2 : (-2147483002 : Int32).toInt = -2147483002 := by decide
  omega
def stK (S : PSt) (N k : Nat) : Nat := staV (S.1 3) (S.1 1 2) N k
def stM (S : PSt) (N k : Nat) : Nat := stK S N (k + 1) - stK S N k - 1
section LNW
variable {S T U : PSt} {N : Nat} {r : Option Value}
theorem st_in (hi : cIv S N) (hfo : fouV (S.1 3) (S.1 1 2) N = true) {k : Nat} (hk : k < linV (S.1 3) (S.1 1 2) N) : stK S N k + stM S N k + 1 = stK S N (k + 1) ∧ stK S N (k + 1) ≤ N ∧ isEnV (S.1 3) N (stK S N (k + 1)) = true ∧ fitV (S.1 3) (S.1 1 2) (stK S N k) (stM S N k + 1) = true ∧
    toV (S.1 3) (S.1 1 2) N (stK S N (k + 1)) = FP.fadd (toV (S.1 3) (S.1 1 2) N (stK S N k)) (badV (S.1 3) (S.1 1 2) (stK S N k) (stM S N k + 1)) := by
  obtain ⟨a1, a2, a3, a4, a5⟩ := ln_in hi.2.2.1 hi.2.2.2 hi.2.1 hfo hk
  have e : staV (S.1 3) (S.1 1 2) N (k + 1) - staV (S.1 3) (S.1 1 2) N k = stM S N k + 1 := by unfold stM stK; omega
  rw [e] at a4 a5
  exact ⟨by unfold stK at *; omega, a2, a3, a4, a5⟩
theorem stk_0 (hi : cIv S N) (hfo : fouV (S.1 3) (S.1 1 2) N = true) : stK S N 0 = 0 := sta_0 hi.2.1 hfo
theorem stk_L : stK S N (linV (S.1 3) (S.1 1 2) N) = N := sta_L
theorem rk_line0 (hi : cIv S N) (h : frL S T) (hf : fouV (S.1 3) (S.1 1 2) N = true) {k : Nat} (hk : k < linV (S.1 3) (S.1 1 2) N) (hp : pA (oLine (T.1 3) (T.1 1 2) N (nI k) 0) T T r U) : r = some (.int (nI (stK S N k))) ∧ frL S U := rd_line0 hi h hf hk hp
theorem rk_line1 (hi : cIv S N) (h : frL S T) (hf : fouV (S.1 3) (S.1 1 2) N = true) {k : Nat} (hk : k < linV (S.1 3) (S.1 1 2) N) (hp : pA (oLine (T.1 3) (T.1 1 2) N (nI k) 1) T T r U) : r = some (.int (nI (stK S N k + stM S N k))) ∧ frL S U := by
  have h2 := rd_line1 hi h hf hk hp
  have h3 := (st_in hi hf hk).1
  rw [show staV (S.1 3) (S.1 1 2) N (k + 1) - 1 = stK S N k + stM S N k by unfold stM stK at *; omega] at h2
  exact h2
theorem rk_line3 (hi : cIv S N) (h : frL S T) (hf : fouV (S.1 3) (S.1 1 2) N = true) {k : Nat} (hk : k + 1 < linV (S.1 3) (S.1 1 2) N) (hp : pA (oLine (T.1 3) (T.1 1 2) N (nI k) 3) T T r U) : r = some (.int (apV (S.1 3) (S.1 1 2) (stK S N k) (stM S N k + 1) (stK S N (k + 1)) (stM S N (k + 1) + 1))) ∧ frL S U := by
  have h2 := rd_line3 hi h hf hk hp
  have h3 := (st_in hi hf (k := k) (by omega)).1
  have h4 := (st_in hi hf hk).1
  rw [show k + 2 = k + 1 + 1 from rfl] at h2
  rw [show staV (S.1 3) (S.1 1 2) N (k + 1) - staV (S.1 3) (S.1 1 2) N k = stM S N k + 1 by unfold stM stK at *; omega, show staV (S.1 3) (S.1 1 2) N (k + 1 + 1) - staV (S.1 3) (S.1 1 2) N (k + 1) = stM S N (k + 1) + 1 by unfold stM stK at *; omega] at h2
  exact h2
theorem rd_linesY (h : frL S T) (hf : fouV (S.1 3) (S.1 1 2) N = true) (hp : pA (oLines (T.1 3) (T.1 1 2) N) T T r U) : r = some (.int (nI (linV (S.1 3) (S.1 1 2) N))) ∧ frL S U := by
  have := rd_lines h hp
  rw [linsA, if_pos hf] at this
  exact this
theorem rd_linesN (h : frL S T) (hf : ¬ fouV (S.1 3) (S.1 1 2) N = true) (hp : pA (oLines (T.1 3) (T.1 1 2) N) T T r U) : r = some (.int (-2147483002)) ∧ frL S U := by
  have := rd_lines h hp
  rw [linsA, if_neg hf] at this
  exact this
theorem rd_totalY (h : frL S T) (hf : fouV (S.1 3) (S.1 1 2) N = true) (hp : pA (oTotal (T.1 3) (T.1 1 2) N) T T r U) : r = some (.int (totV (S.1 3) (S.1 1 2) N).toInt32) ∧ frL S U := by
  have := rd_total h hp
  rw [totA, if_pos hf] at this
  exact this
theorem rd_totalN (h : frL S T) (hf : ¬ fouV (S.1 3) (S.1 1 2) N = true) (hp : pA (oTotal (T.1 3) (T.1 1 2) N) T T r U) : r = some (.int (-2147483002)) ∧ frL S U := by
  have := rd_total h hp
  rw [totA, if_neg hf] at this
  exact this
theorem rd_badY (hi : cIv S N) (h : frL S T) {a b : Nat} (h1 : a ≤ b) (h3 : b < N) (hfit : fitV (S.1 3) (S.1 1 2) a (b - a + 1) = true) (hp : pA (oBad (T.1 3) (T.1 1 2) N (nI a) (nI b)) T T r U) : r = some (.int (badV (S.1 3) (S.1 1 2) a (b - a + 1)).toInt32) ∧ frL S U := by
  have := rd_bad hi h h1 h3 hp
  rw [badA, if_pos hfit] at this
  exact this
theorem rk_badY (hi : cIv S N) (h : frL S T) {a m : Nat} (h3 : a + m < N) (hfit : fitV (S.1 3) (S.1 1 2) a (m + 1) = true) (hp : pA (oBad (T.1 3) (T.1 1 2) N (nI a) (nI (a + m))) T T r U) : r = some (.int (badV (S.1 3) (S.1 1 2) a (m + 1)).toInt32) ∧ frL S U := by
  have := rk_bad hi h h3 hp
  rw [badA, if_pos hfit] at this
  exact this
theorem rd_bad0 (hi : cIv S N) (h : frL S T) (h0 : 0 < N) (hp : pA (oBad (T.1 3) (T.1 1 2) N 0 (nI (N - 1))) T T r U) : r = some (.int (badA (S.1 3) (S.1 1 2) 0 N)) ∧ frL S U := by
  have h2 := rd_bad hi h (a := 0) (b := N - 1) (Nat.zero_le _) (by omega) hp
  rw [show N - 1 - 0 + 1 = N by omega] at h2
  exact h2
theorem no_bad (hi : cIv S N) (h0 : 0 < N) (hf : ¬ fouV (S.1 3) (S.1 1 2) N = true) : badA (S.1 3) (S.1 1 2) 0 N = -2147483002 := (badA_iff hi.2.2.1 hi.2.2.2 hi.2.1 (by omega)).mpr (no_fit hi.2.2.1 hi.2.2.2 hi.2.1 h0 hf)
theorem badV_F (hi : cIv S N) {a m : Nat} (h : a + m ≤ N) : fF (badV (S.1 3) (S.1 1 2) a m) := (badV_ok hi.2.2.1 hi.2.2.2 (by have := hi.2.1; omega) h).1.1
theorem badV_ne (hi : cIv S N) {a m : Nat} (h : a + m ≤ N) : ¬ (badV (S.1 3) (S.1 1 2) a m).toInt32 = -2147483002 := bits_ne (okT_pos (badV_ok hi.2.2.1 hi.2.2.2 (by have := hi.2.1; omega) h))
theorem to_sta (hi : cIv S N) (hfo : fouV (S.1 3) (S.1 1 2) N = true) {k : Nat} (hk : k < linV (S.1 3) (S.1 1 2) N) : fF (toV (S.1 3) (S.1 1 2) N (stK S N (k + 1))) := by
  obtain ⟨s1, s2, s3, s4, s5⟩ := st_in hi hfo hk
  have hb : beV (S.1 3) (S.1 1 2) N (stK S N (k + 1)) ≠ -1 := by
    obtain ⟨a1, a2, a3⟩ := poB_lt (b := beV (S.1 3) (S.1 1 2) N) (linV (S.1 3) (S.1 1 2) N) N k (by have := hi.2.1; omega) (lin_ch hi.2.1 hfo) hk
    show beV (S.1 3) (S.1 1 2) N (poB (beV (S.1 3) (S.1 1 2) N) (linV (S.1 3) (S.1 1 2) N) N (k + 1)) ≠ -1
    rw [a3]
    exact nI_nm1 (by have := hi.2.1; omega)
  exact (to_ok hi.2.2.1 hi.2.2.2 hi.2.1 s2 hb).1.1
theorem en_bar {p : Nat} {g : Nat → Int32} (h : isEnV g N (p + 1) = true) (hn : ¬ p + 1 = N) : g (5 * p) = 2 := by
  unfold isEnV at h
  rw [Bool.or_eq_true] at h
  rcases h with h | h
  · exact absurd (of_decide_eq_true h) hn
  · exact of_decide_eq_true h
theorem en_no {p : Nat} {g : Nat → Int32} (h : isEnV g N (p + 1) = false) : ¬ p + 1 = N ∧ ¬ g (5 * p) = 2 := by
  unfold isEnV at h
  rw [Bool.or_eq_false_iff] at h
  exact ⟨of_decide_eq_false h.1, of_decide_eq_false h.2⟩
theorem fcl_lt {x y : UInt32} (hx : fF x) (hy : fF y) : Op.cmpValue (FP.fcmp x y) .l < 0 ↔ fz x < fz y := by
  rw [← flt_iff hx hy, ← lt_of_g, cmp_some hx hy]
  cases compare (fz x) (fz y) <;> exact Iff.rfl
theorem oth_y {g : Nat → Int32} {w : Int32} {f p : Nat} {x : UInt32} {gd : Bool} (hg : okG g N) (hw : okWd w) (hn : N ≤ 32) (hgd : gd = true) (hfp : f ≤ p) (hp : p < N) (hE : isEnV g N (p + 1) = true) (hfit : fitV g w f (p - f + 1) = true) (h : othW g w N f gd x) :
    othW g w N (p + 1) true (FP.fadd x (badV g w f (p - f + 1))) := by
  have h2 := oth_up hg hw hn (f := f) (p := p + 1) (by omega) (by omega) hE h
  rw [show p + 1 - f = p - f + 1 by omega, hfit, hgd] at h2
  exact h2
theorem oth_n {g : Nat → Int32} {w : Int32} {p : Nat} {x : UInt32} : othW g w N p false x := fun h => absurd h (by decide)
theorem oth_F {g : Nat → Int32} {w : Int32} {f m : Nat} {x : UInt32} {gd : Bool} (hg : okG g N) (hw : okWd w) (hn : N ≤ 32) (hgd : gd = true) (hfm : f + m ≤ N) (h : othW g w N f gd x) : vf_n32 (FP.fadd x (badV g w f m)) := by
  obtain ⟨a1, a2, a3⟩ := h hgd
  exact fF_nn (add_okT a2 (badV_ok hg hw (by omega) hfm) (by omega)).1.1
end LNW
set_option maxRecDepth 100000 in
theorem lp_L_linesA {n0 : Nat} {X : Nat × (Nat → Int32)} {P : Option Value → PSt → Prop} {d : Nat} (hd9 : 9 ≤ d) {sh : List PSh} {S : PSt} {N : Nat} (he : isLw sh) (hi : cIv S N) (hN : N ≤ 20) (hE : eOk S N) (hfo : fouV (S.1 3) (S.1 1 2) N = true) {x : Int32}  (hex : ∀ f8 f9 f10 T, frL S T → pV mL_lines d n0 X sh P 208 [some (.ref 0), some (.ref 70), some (.int x), some (.int (nI N)), some (.int (nI (linV (S.1 3) (S.1 1 2) N))), some (.float (toV (S.1 3) (S.1 1 2) N (stK S N (linV (S.1 3) (S.1 1 2) N)))), some (.int (nI (stK S N (linV (S.1 3) (S.1 1 2) N)))), some (.int (nI (linV (S.1 3) (S.1 1 2) N))), f8, f9, f10] [] T) : ∀ (m9 k : Nat) (f8 : Option Value) (f9 : Option Value) (f10 : Option Value) (T : PSt), k + m9 = (linV (S.1 3) (S.1 1 2) N) → frL S T → pV mL_lines d n0 X sh P 54 [some (.ref 0), some (.ref 70), some (.int x), some (.int (nI N)), some (.int (nI (linV (S.1 3) (S.1 1 2) N))), some (.float (toV (S.1 3) (S.1 1 2) N (stK S N k))), some (.int (nI (stK S N k))), some (.int (nI k)), f8, f9, f10] [] T := by
  intro m9
  induction m9 with
  | zero =>
    intro k f8 f9 f10 T hk hf
    have hk9 : (linV (S.1 3) (S.1 1 2) N) = k := by omega
    subst hk9
    refine q_iload (pc := 54) (j := 7) rfl rfl ?_
    refine q_iload (pc := 56) (j := 4) rfl rfl ?_
    refine q_icmp_ge (pc := 58) 208 rfl (by decide) (fun _ => ?_) (fun h9 => absurd (Int32.le_refl _) h9)
    exact hex _ _ _ _ hf
  | succ m9 ih =>
    intro k f8 f9 f10 T hk hf
    have hk1 : k < (linV (S.1 3) (S.1 1 2) N) := by omega
    obtain ⟨s1, s2, s3, s4, s5⟩ := st_in hi hfo hk1
    have hLL := lin_le hi.2.1 hfo
    have hk2 : k < (linV (S.1 3) (S.1 1 2) N) := hk1
    refine q_iload (pc := 54) (j := 7) rfl rfl ?_
    refine q_iload (pc := 56) (j := 4) rfl rfl ?_
    refine q_icmp_ge (pc := 58) 208 rfl (by decide) (fun h9 => absurd h9 (nI_ge hk1 (by have := lin_le hi.2.1 hfo; omega))) (fun _ => ?_)
    refine q_aload_n (pc := 61) (j := 0) rfl rfl ?_
    refine q_iload (pc := 62) (j := 7) rfl rfl ?_
    refine q_iconst (pc := 64) 0 rfl (by decide) ?_
    refine q_callVG (pc := 65) (as := [.int (nI k), .int 0]) (rest := []) (b := 0) rfl ce_X8_line ml_L_78 im_X8_line se_X8_line he.1.1 rfl rfl rfl (by omega) (Nat.le_of_ble_eq_true rfl) (sp_X8_line he.1 (fl_iv hi hf)) (fun r9 S9 h9 => ?_)
    obtain ⟨rfl, hf⟩ := rk_line0 (k := k) hi hf hfo hk1 h9
    refine q_istore (pc := 68) (j := 8) [some (.ref 0), some (.ref 70), some (.int x), some (.int (nI N)), some (.int (nI (linV (S.1 3) (S.1 1 2) N))), some (.float (toV (S.1 3) (S.1 1 2) N (stK S N k))), some (.int (nI (stK S N k))), some (.int (nI k)), some (.int (nI (stK S N k))), f9, f10] rfl (by decide) rfl ?_
    refine q_aload_n (pc := 70) (j := 0) rfl rfl ?_
    refine q_iload (pc := 71) (j := 7) rfl rfl ?_
    refine q_iconst (pc := 73) 1 rfl (by decide) ?_
    refine q_callVG (pc := 74) (as := [.int (nI k), .int 1]) (rest := []) (b := 0) rfl ce_X8_line ml_L_78 im_X8_line se_X8_line he.1.1 rfl rfl rfl (by omega) (Nat.le_of_ble_eq_true rfl) (sp_X8_line he.1 (fl_iv hi hf)) (fun r9 S9 h9 => ?_)
    obtain ⟨rfl, hf⟩ := rk_line1 (k := k) hi hf hfo hk1 h9
    refine q_istore (pc := 77) (j := 9) [some (.ref 0), some (.ref 70), some (.int x), some (.int (nI N)), some (.int (nI (linV (S.1 3) (S.1 1 2) N))), some (.float (toV (S.1 3) (S.1 1 2) N (stK S N k))), some (.int (nI (stK S N k))), some (.int (nI k)), some (.int (nI (stK S N k))), some (.int (nI (stK S N k + stM S N k))), f10] rfl (by decide) rfl ?_
    refine q_iload (pc := 79) (j := 8) rfl rfl ?_
    refine q_iload (pc := 81) (j := 6) rfl rfl ?_
    refine q_icmp_ne (pc := 83) 131 rfl (by decide) (fun h9 => absurd h9 (fun q9 => q9 rfl)) (fun _ => ?_)
    refine q_iload (pc := 86) (j := 9) rfl rfl ?_
    refine q_iload_n (pc := 88) (j := 3) rfl rfl ?_
    refine q_iconst (pc := 89) 1 rfl (by decide) ?_
    refine q_isub (pc := 90) rfl ?_
    refine q_st (st2 := [.int (nI (N - 1)), .int (nI (stK S N k + stM S N k))]) (by rw [show nI N - 1 = nI (N - 1) from pk_sub (b := 1) (by omega)]; try rfl) ?_
    refine q_icmp_ge (pc := 91) 106 rfl (by decide) (fun h91 => ?_) (fun h91 => ?_)
    · refine q_aload_n (pc := 106) (j := 0) rfl rfl ?_
      refine q_iload (pc := 107) (j := 8) rfl rfl ?_
      refine q_iload (pc := 109) (j := 9) rfl rfl ?_
      refine q_callVG (pc := 111) (as := [.int (nI (stK S N k)), .int (nI (stK S N k + stM S N k))]) (rest := []) (b := 0) rfl ce_X8_bad ml_L_75 im_X8_bad se_X8_bad he.1.1 rfl rfl rfl (by omega) (Nat.le_of_ble_eq_true rfl) (sp_X8_bad he.1 (fl_iv hi hf)) (fun r9 S9 h9 => ?_)
      obtain ⟨rfl, hf⟩ := rk_badY hi hf (a := stK S N k) (m := stM S N k) (by omega) s4 h9
      refine q_ldc (pc := 114) (v := (-2147483002)) rfl kc_L_71 ?_
      refine q_icmp_eq (pc := 116) 131 rfl (by decide) (fun h9 => absurd h9 (badV_ne hi (by omega))) (fun _ => ?_)
      refine q_aload_n (pc := 119) (j := 0) rfl rfl ?_
      refine q_aload_n (pc := 120) (j := 1) rfl rfl ?_
      refine q_iload (pc := 121) (j := 8) rfl rfl ?_
      refine q_iload (pc := 123) (j := 9) rfl rfl ?_
      refine q_callSG (pc := 125) (as := [.ref 0, .ref 70, .int (nI (stK S N k)), .int (nI (stK S N k + stM S N k))]) (rest := []) rfl ce_L_stretch ml_L_81 st_L_stretch rfl (by omega) (Nat.le_of_ble_eq_true rfl) (sp_L_stretch he hi hN hf (a := stK S N k) (m := stM S N k) (by omega) hE) (fun r9 S9 h9 => ?_)
      obtain ⟨rfl, hf⟩ := h9
      refine q_if_ne (pc := 128) 133 rfl (by decide) (fun _ => ?_) (fun h9 => absurd h9 (by decide : (1 : Int32) = 0 → False))
      refine q_iload (pc := 133) (j := 7) rfl rfl ?_
      refine q_iconst (pc := 135) 1 rfl (by decide) ?_
      refine q_iadd (pc := 136) rfl ?_
      refine q_st (st2 := [.int (nI (k + 1))]) (by rw [nI_1 k]; try rfl) ?_
      refine q_iload (pc := 137) (j := 4) rfl rfl ?_
      refine q_icmp_ge (pc := 139) 180 rfl (by decide) (fun h139 => ?_) (fun h139 => ?_)
      · refine q_fload (pc := 180) (j := 5) rfl rfl ?_
        refine q_aload_n (pc := 182) (j := 0) rfl rfl ?_
        refine q_iload (pc := 183) (j := 8) rfl rfl ?_
        refine q_iload (pc := 185) (j := 9) rfl rfl ?_
        refine q_callVG (pc := 187) (as := [.int (nI (stK S N k)), .int (nI (stK S N k + stM S N k))]) (rest := [.float (toV (S.1 3) (S.1 1 2) N (stK S N k))]) (b := 0) rfl ce_X8_bad ml_L_75 im_X8_bad se_X8_bad he.1.1 rfl rfl rfl (by omega) (Nat.le_of_ble_eq_true rfl) (sp_X8_bad he.1 (fl_iv hi hf)) (fun r9 S9 h9 => ?_)
        obtain ⟨rfl, hf⟩ := rk_badY hi hf (a := stK S N k) (m := stM S N k) (by omega) s4 h9
        refine q_callS (pc := 190) (as := [.int ((badV (S.1 3) (S.1 1 2) (stK S N k) (stM S N k + 1)).toInt32)]) (rest := [.float (toV (S.1 3) (S.1 1 2) N (stK S N k))]) (st2 := [.float (badV (S.1 3) (S.1 1 2) (stK S N k) (stM S N k + 1)), .float (toV (S.1 3) (S.1 1 2) N (stK S N k))]) rfl ce_L_f ml_L_44 st_L_f rfl (by omega) (Nat.le_of_ble_eq_true rfl) (sp_L_f (x := (badV (S.1 3) (S.1 1 2) (stK S N k) (stM S N k + 1))) (sn_F (badV_F hi (by omega)))) rfl ?_
        refine q_fadd (pc := 193) rfl (by rw [← s5]; exact fF_nn (to_sta hi hfo hk1)) ?_
        refine q_st (st2 := [.float (toV (S.1 3) (S.1 1 2) N (stK S N (k + 1)))]) (by rw [s5.symm]; try rfl) ?_
        refine q_fstore (pc := 194) (j := 5) [some (.ref 0), some (.ref 70), some (.int x), some (.int (nI N)), some (.int (nI (linV (S.1 3) (S.1 1 2) N))), some (.float (toV (S.1 3) (S.1 1 2) N (stK S N (k + 1)))), some (.int (nI (stK S N k))), some (.int (nI k)), some (.int (nI (stK S N k))), some (.int (nI (stK S N k + stM S N k))), f10] rfl (by decide) rfl ?_
        refine q_iload (pc := 196) (j := 9) rfl rfl ?_
        refine q_iconst (pc := 198) 1 rfl (by decide) ?_
        refine q_iadd (pc := 199) rfl ?_
        refine q_st (st2 := [.int (nI (stK S N (k + 1)))]) (by rw [show nI (stK S N k + stM S N k) + 1 = nI (stK S N (k + 1)) from (by rw [nI_1, s1])]; try rfl) ?_
        refine q_istore (pc := 200) (j := 6) [some (.ref 0), some (.ref 70), some (.int x), some (.int (nI N)), some (.int (nI (linV (S.1 3) (S.1 1 2) N))), some (.float (toV (S.1 3) (S.1 1 2) N (stK S N (k + 1)))), some (.int (nI (stK S N (k + 1)))), some (.int (nI k)), some (.int (nI (stK S N k))), some (.int (nI (stK S N k + stM S N k))), f10] rfl (by decide) rfl ?_
        refine q_iinc (pc := 202) (j := 7) (n := 1) (nI (k + 1)) [some (.ref 0), some (.ref 70), some (.int x), some (.int (nI N)), some (.int (nI (linV (S.1 3) (S.1 1 2) N))), some (.float (toV (S.1 3) (S.1 1 2) N (stK S N (k + 1)))), some (.int (nI (stK S N (k + 1)))), some (.int (nI (k + 1))), some (.int (nI (stK S N k))), some (.int (nI (stK S N k + stM S N k))), f10] rfl (by decide) rfl (nI_1 k) rfl ?_
        refine q_goto (pc := 205) 54 rfl (by decide) ?_
        exact ih (k + 1) (some (.int (nI (stK S N k)))) (some (.int (nI (stK S N k + stM S N k)))) f10 S9 (by omega) hf
      · have hk3 : k + 1 < linV (S.1 3) (S.1 1 2) N := (by have h8 := mt (nI_leI (a := linV (S.1 3) (S.1 1 2) N) (b := k + 1) (by have := lin_le hi.2.1 hfo; omega) (by omega)).mpr h139; omega); obtain ⟨u1, u2, -, -, -⟩ := st_in hi hfo hk3
        refine q_aload_n (pc := 142) (j := 0) rfl rfl ?_
        refine q_iload (pc := 143) (j := 8) rfl rfl ?_
        refine q_iload (pc := 145) (j := 9) rfl rfl ?_
        refine q_aload_n (pc := 147) (j := 0) rfl rfl ?_
        refine q_iload (pc := 148) (j := 7) rfl rfl ?_
        refine q_iconst (pc := 150) 1 rfl (by decide) ?_
        refine q_iadd (pc := 151) rfl ?_
        refine q_st (st2 := [.int (nI (k + 1)), .ref 0, .int (nI (stK S N k + stM S N k)), .int (nI (stK S N k)), .ref 0]) (by rw [nI_1 k]; try rfl) ?_
        refine q_iconst (pc := 152) 0 rfl (by decide) ?_
        refine q_callVG (pc := 153) (as := [.int (nI (k + 1)), .int 0]) (rest := [.int (nI (stK S N k + stM S N k)), .int (nI (stK S N k)), .ref 0]) (b := 0) rfl ce_X8_line ml_L_78 im_X8_line se_X8_line he.1.1 rfl rfl rfl (by omega) (Nat.le_of_ble_eq_true rfl) (sp_X8_line he.1 (fl_iv hi hf)) (fun r9 S9 h9 => ?_)
        obtain ⟨rfl, hf⟩ := rk_line0 (k := (k + 1)) hi hf hfo hk3 h9
        refine q_aload_n (pc := 156) (j := 0) rfl rfl ?_
        refine q_iload (pc := 157) (j := 7) rfl rfl ?_
        refine q_iconst (pc := 159) 1 rfl (by decide) ?_
        refine q_iadd (pc := 160) rfl ?_
        refine q_st (st2 := [.int (nI (k + 1)), .ref 0, .int (nI (stK S N (k + 1))), .int (nI (stK S N k + stM S N k)), .int (nI (stK S N k)), .ref 0]) (by rw [nI_1 k]; try rfl) ?_
        refine q_iconst (pc := 161) 1 rfl (by decide) ?_
        refine q_callVG (pc := 162) (as := [.int (nI (k + 1)), .int 1]) (rest := [.int (nI (stK S N (k + 1))), .int (nI (stK S N k + stM S N k)), .int (nI (stK S N k)), .ref 0]) (b := 0) rfl ce_X8_line ml_L_78 im_X8_line se_X8_line he.1.1 rfl rfl rfl (by omega) (Nat.le_of_ble_eq_true rfl) (sp_X8_line he.1 (fl_iv hi hf)) (fun r9 S9 h9 => ?_)
        obtain ⟨rfl, hf⟩ := rk_line1 (k := (k + 1)) hi hf hfo hk3 h9
        refine q_aload_n (pc := 165) (j := 0) rfl rfl ?_
        refine q_iload (pc := 166) (j := 7) rfl rfl ?_
        refine q_iconst (pc := 168) 3 rfl (by decide) ?_
        refine q_callVG (pc := 169) (as := [.int (nI k), .int 3]) (rest := [.int (nI (stK S N (k + 1) + stM S N (k + 1))), .int (nI (stK S N (k + 1))), .int (nI (stK S N k + stM S N k)), .int (nI (stK S N k)), .ref 0]) (b := 0) rfl ce_X8_line ml_L_78 im_X8_line se_X8_line he.1.1 rfl rfl rfl (by omega) (Nat.le_of_ble_eq_true rfl) (sp_X8_line he.1 (fl_iv hi hf)) (fun r9 S9 h9 => ?_)
        obtain ⟨rfl, hf⟩ := rk_line3 (k := k) hi hf hfo hk3 h9
        refine q_callSG (pc := 172) (as := [.ref 0, .int (nI (stK S N k)), .int (nI (stK S N k + stM S N k)), .int (nI (stK S N (k + 1))), .int (nI (stK S N (k + 1) + stM S N (k + 1))), .int (apV (S.1 3) (S.1 1 2) (stK S N k) (stM S N k + 1) (stK S N (k + 1)) (stM S N (k + 1) + 1))]) (rest := []) rfl ce_L_apart ml_L_85 st_L_apart rfl (by omega) (Nat.le_of_ble_eq_true rfl) (sp_L_apart he hi (a := stK S N k) (m := stM S N k) (c := stK S N (k + 1)) (l := stM S N (k + 1)) (by omega) (by omega) hf rfl) (fun r9 S9 h9 => ?_)
        obtain ⟨rfl, hf⟩ := h9
        refine q_if_ne (pc := 175) 180 rfl (by decide) (fun _ => ?_) (fun h9 => absurd h9 (by decide : (1 : Int32) = 0 → False))
        refine q_fload (pc := 180) (j := 5) rfl rfl ?_
        refine q_aload_n (pc := 182) (j := 0) rfl rfl ?_
        refine q_iload (pc := 183) (j := 8) rfl rfl ?_
        refine q_iload (pc := 185) (j := 9) rfl rfl ?_
        refine q_callVG (pc := 187) (as := [.int (nI (stK S N k)), .int (nI (stK S N k + stM S N k))]) (rest := [.float (toV (S.1 3) (S.1 1 2) N (stK S N k))]) (b := 0) rfl ce_X8_bad ml_L_75 im_X8_bad se_X8_bad he.1.1 rfl rfl rfl (by omega) (Nat.le_of_ble_eq_true rfl) (sp_X8_bad he.1 (fl_iv hi hf)) (fun r9 S9 h9 => ?_)
        obtain ⟨rfl, hf⟩ := rk_badY hi hf (a := stK S N k) (m := stM S N k) (by omega) s4 h9
        refine q_callS (pc := 190) (as := [.int ((badV (S.1 3) (S.1 1 2) (stK S N k) (stM S N k + 1)).toInt32)]) (rest := [.float (toV (S.1 3) (S.1 1 2) N (stK S N k))]) (st2 := [.float (badV (S.1 3) (S.1 1 2) (stK S N k) (stM S N k + 1)), .float (toV (S.1 3) (S.1 1 2) N (stK S N k))]) rfl ce_L_f ml_L_44 st_L_f rfl (by omega) (Nat.le_of_ble_eq_true rfl) (sp_L_f (x := (badV (S.1 3) (S.1 1 2) (stK S N k) (stM S N k + 1))) (sn_F (badV_F hi (by omega)))) rfl ?_
        refine q_fadd (pc := 193) rfl (by rw [← s5]; exact fF_nn (to_sta hi hfo hk1)) ?_
        refine q_st (st2 := [.float (toV (S.1 3) (S.1 1 2) N (stK S N (k + 1)))]) (by rw [s5.symm]; try rfl) ?_
        refine q_fstore (pc := 194) (j := 5) [some (.ref 0), some (.ref 70), some (.int x), some (.int (nI N)), some (.int (nI (linV (S.1 3) (S.1 1 2) N))), some (.float (toV (S.1 3) (S.1 1 2) N (stK S N (k + 1)))), some (.int (nI (stK S N k))), some (.int (nI k)), some (.int (nI (stK S N k))), some (.int (nI (stK S N k + stM S N k))), f10] rfl (by decide) rfl ?_
        refine q_iload (pc := 196) (j := 9) rfl rfl ?_
        refine q_iconst (pc := 198) 1 rfl (by decide) ?_
        refine q_iadd (pc := 199) rfl ?_
        refine q_st (st2 := [.int (nI (stK S N (k + 1)))]) (by rw [show nI (stK S N k + stM S N k) + 1 = nI (stK S N (k + 1)) from (by rw [nI_1, s1])]; try rfl) ?_
        refine q_istore (pc := 200) (j := 6) [some (.ref 0), some (.ref 70), some (.int x), some (.int (nI N)), some (.int (nI (linV (S.1 3) (S.1 1 2) N))), some (.float (toV (S.1 3) (S.1 1 2) N (stK S N (k + 1)))), some (.int (nI (stK S N (k + 1)))), some (.int (nI k)), some (.int (nI (stK S N k))), some (.int (nI (stK S N k + stM S N k))), f10] rfl (by decide) rfl ?_
        refine q_iinc (pc := 202) (j := 7) (n := 1) (nI (k + 1)) [some (.ref 0), some (.ref 70), some (.int x), some (.int (nI N)), some (.int (nI (linV (S.1 3) (S.1 1 2) N))), some (.float (toV (S.1 3) (S.1 1 2) N (stK S N (k + 1)))), some (.int (nI (stK S N (k + 1)))), some (.int (nI (k + 1))), some (.int (nI (stK S N k))), some (.int (nI (stK S N k + stM S N k))), f10] rfl (by decide) rfl (nI_1 k) rfl ?_
        refine q_goto (pc := 205) 54 rfl (by decide) ?_
        exact ih (k + 1) (some (.int (nI (stK S N k)))) (some (.int (nI (stK S N k + stM S N k)))) f10 S9 (by omega) hf
    · refine q_aload_n (pc := 94) (j := 1) rfl rfl ?_
      refine q_iconst (pc := 95) 2 rfl (by decide) ?_
      refine q_iconst (pc := 96) 5 rfl (by decide) ?_
      refine q_iload (pc := 97) (j := 9) rfl rfl ?_
      refine q_imul (pc := 99) rfl ?_
      refine q_iadd (pc := 100) rfl ?_
      refine q_st (st2 := [.int (nI (2 + 5 * (stK S N k + stM S N k))), .ref 70]) (by rw [e25 (stK S N k + stM S N k)]; try rfl) ?_
      refine q_iald (pc := 101) (a := 70) (2 + 5 * (stK S N k + stM S N k)) rfl he.2 (vp_in_nI (by omega) (by decide)) (nI_clamp (by omega)) ?_
      refine q_st (st2 := [.int (S.1 3 (5 * (stK S N k + stM S N k)))]) (by rw [show (S9.1 70 (2 + 5 * (stK S N k + stM S N k))) = S.1 3 (5 * (stK S N k + stM S N k)) from (congrFun (fl_g hf).2.2 _).trans (hE.2.2 _ (by omega))]; try rfl) ?_
      refine q_iconst (pc := 102) 2 rfl (by decide) ?_
      refine q_icmp_ne (pc := 103) 131 rfl (by decide) (fun h9 => absurd h9 (fun q9 => q9 (en_bar (p := stK S N k + stM S N k) (by rw [s1]; exact s3) (fun q8 => h91 (nI_le (by omega) (by omega)))))) (fun _ => ?_)
      refine q_aload_n (pc := 106) (j := 0) rfl rfl ?_
      refine q_iload (pc := 107) (j := 8) rfl rfl ?_
      refine q_iload (pc := 109) (j := 9) rfl rfl ?_
      refine q_callVG (pc := 111) (as := [.int (nI (stK S N k)), .int (nI (stK S N k + stM S N k))]) (rest := []) (b := 0) rfl ce_X8_bad ml_L_75 im_X8_bad se_X8_bad he.1.1 rfl rfl rfl (by omega) (Nat.le_of_ble_eq_true rfl) (sp_X8_bad he.1 (fl_iv hi hf)) (fun r9 S9 h9 => ?_)
      obtain ⟨rfl, hf⟩ := rk_badY hi hf (a := stK S N k) (m := stM S N k) (by omega) s4 h9
      refine q_ldc (pc := 114) (v := (-2147483002)) rfl kc_L_71 ?_
      refine q_icmp_eq (pc := 116) 131 rfl (by decide) (fun h9 => absurd h9 (badV_ne hi (by omega))) (fun _ => ?_)
      refine q_aload_n (pc := 119) (j := 0) rfl rfl ?_
      refine q_aload_n (pc := 120) (j := 1) rfl rfl ?_
      refine q_iload (pc := 121) (j := 8) rfl rfl ?_
      refine q_iload (pc := 123) (j := 9) rfl rfl ?_
      refine q_callSG (pc := 125) (as := [.ref 0, .ref 70, .int (nI (stK S N k)), .int (nI (stK S N k + stM S N k))]) (rest := []) rfl ce_L_stretch ml_L_81 st_L_stretch rfl (by omega) (Nat.le_of_ble_eq_true rfl) (sp_L_stretch he hi hN hf (a := stK S N k) (m := stM S N k) (by omega) hE) (fun r9 S9 h9 => ?_)
      obtain ⟨rfl, hf⟩ := h9
      refine q_if_ne (pc := 128) 133 rfl (by decide) (fun _ => ?_) (fun h9 => absurd h9 (by decide : (1 : Int32) = 0 → False))
      refine q_iload (pc := 133) (j := 7) rfl rfl ?_
      refine q_iconst (pc := 135) 1 rfl (by decide) ?_
      refine q_iadd (pc := 136) rfl ?_
      refine q_st (st2 := [.int (nI (k + 1))]) (by rw [nI_1 k]; try rfl) ?_
      refine q_iload (pc := 137) (j := 4) rfl rfl ?_
      refine q_icmp_ge (pc := 139) 180 rfl (by decide) (fun h139 => ?_) (fun h139 => ?_)
      · refine q_fload (pc := 180) (j := 5) rfl rfl ?_
        refine q_aload_n (pc := 182) (j := 0) rfl rfl ?_
        refine q_iload (pc := 183) (j := 8) rfl rfl ?_
        refine q_iload (pc := 185) (j := 9) rfl rfl ?_
        refine q_callVG (pc := 187) (as := [.int (nI (stK S N k)), .int (nI (stK S N k + stM S N k))]) (rest := [.float (toV (S.1 3) (S.1 1 2) N (stK S N k))]) (b := 0) rfl ce_X8_bad ml_L_75 im_X8_bad se_X8_bad he.1.1 rfl rfl rfl (by omega) (Nat.le_of_ble_eq_true rfl) (sp_X8_bad he.1 (fl_iv hi hf)) (fun r9 S9 h9 => ?_)
        obtain ⟨rfl, hf⟩ := rk_badY hi hf (a := stK S N k) (m := stM S N k) (by omega) s4 h9
        refine q_callS (pc := 190) (as := [.int ((badV (S.1 3) (S.1 1 2) (stK S N k) (stM S N k + 1)).toInt32)]) (rest := [.float (toV (S.1 3) (S.1 1 2) N (stK S N k))]) (st2 := [.float (badV (S.1 3) (S.1 1 2) (stK S N k) (stM S N k + 1)), .float (toV (S.1 3) (S.1 1 2) N (stK S N k))]) rfl ce_L_f ml_L_44 st_L_f rfl (by omega) (Nat.le_of_ble_eq_true rfl) (sp_L_f (x := (badV (S.1 3) (S.1 1 2) (stK S N k) (stM S N k + 1))) (sn_F (badV_F hi (by omega)))) rfl ?_
        refine q_fadd (pc := 193) rfl (by rw [← s5]; exact fF_nn (to_sta hi hfo hk1)) ?_
        refine q_st (st2 := [.float (toV (S.1 3) (S.1 1 2) N (stK S N (k + 1)))]) (by rw [s5.symm]; try rfl) ?_
        refine q_fstore (pc := 194) (j := 5) [some (.ref 0), some (.ref 70), some (.int x), some (.int (nI N)), some (.int (nI (linV (S.1 3) (S.1 1 2) N))), some (.float (toV (S.1 3) (S.1 1 2) N (stK S N (k + 1)))), some (.int (nI (stK S N k))), some (.int (nI k)), some (.int (nI (stK S N k))), some (.int (nI (stK S N k + stM S N k))), f10] rfl (by decide) rfl ?_
        refine q_iload (pc := 196) (j := 9) rfl rfl ?_
        refine q_iconst (pc := 198) 1 rfl (by decide) ?_
        refine q_iadd (pc := 199) rfl ?_
        refine q_st (st2 := [.int (nI (stK S N (k + 1)))]) (by rw [show nI (stK S N k + stM S N k) + 1 = nI (stK S N (k + 1)) from (by rw [nI_1, s1])]; try rfl) ?_
        refine q_istore (pc := 200) (j := 6) [some (.ref 0), some (.ref 70), some (.int x), some (.int (nI N)), some (.int (nI (linV (S.1 3) (S.1 1 2) N))), some (.float (toV (S.1 3) (S.1 1 2) N (stK S N (k + 1)))), some (.int (nI (stK S N (k + 1)))), some (.int (nI k)), some (.int (nI (stK S N k))), some (.int (nI (stK S N k + stM S N k))), f10] rfl (by decide) rfl ?_
        refine q_iinc (pc := 202) (j := 7) (n := 1) (nI (k + 1)) [some (.ref 0), some (.ref 70), some (.int x), some (.int (nI N)), some (.int (nI (linV (S.1 3) (S.1 1 2) N))), some (.float (toV (S.1 3) (S.1 1 2) N (stK S N (k + 1)))), some (.int (nI (stK S N (k + 1)))), some (.int (nI (k + 1))), some (.int (nI (stK S N k))), some (.int (nI (stK S N k + stM S N k))), f10] rfl (by decide) rfl (nI_1 k) rfl ?_
        refine q_goto (pc := 205) 54 rfl (by decide) ?_
        exact ih (k + 1) (some (.int (nI (stK S N k)))) (some (.int (nI (stK S N k + stM S N k)))) f10 S9 (by omega) hf
      · have hk3 : k + 1 < linV (S.1 3) (S.1 1 2) N := (by have h8 := mt (nI_leI (a := linV (S.1 3) (S.1 1 2) N) (b := k + 1) (by have := lin_le hi.2.1 hfo; omega) (by omega)).mpr h139; omega); obtain ⟨u1, u2, -, -, -⟩ := st_in hi hfo hk3
        refine q_aload_n (pc := 142) (j := 0) rfl rfl ?_
        refine q_iload (pc := 143) (j := 8) rfl rfl ?_
        refine q_iload (pc := 145) (j := 9) rfl rfl ?_
        refine q_aload_n (pc := 147) (j := 0) rfl rfl ?_
        refine q_iload (pc := 148) (j := 7) rfl rfl ?_
        refine q_iconst (pc := 150) 1 rfl (by decide) ?_
        refine q_iadd (pc := 151) rfl ?_
        refine q_st (st2 := [.int (nI (k + 1)), .ref 0, .int (nI (stK S N k + stM S N k)), .int (nI (stK S N k)), .ref 0]) (by rw [nI_1 k]; try rfl) ?_
        refine q_iconst (pc := 152) 0 rfl (by decide) ?_
        refine q_callVG (pc := 153) (as := [.int (nI (k + 1)), .int 0]) (rest := [.int (nI (stK S N k + stM S N k)), .int (nI (stK S N k)), .ref 0]) (b := 0) rfl ce_X8_line ml_L_78 im_X8_line se_X8_line he.1.1 rfl rfl rfl (by omega) (Nat.le_of_ble_eq_true rfl) (sp_X8_line he.1 (fl_iv hi hf)) (fun r9 S9 h9 => ?_)
        obtain ⟨rfl, hf⟩ := rk_line0 (k := (k + 1)) hi hf hfo hk3 h9
        refine q_aload_n (pc := 156) (j := 0) rfl rfl ?_
        refine q_iload (pc := 157) (j := 7) rfl rfl ?_
        refine q_iconst (pc := 159) 1 rfl (by decide) ?_
        refine q_iadd (pc := 160) rfl ?_
        refine q_st (st2 := [.int (nI (k + 1)), .ref 0, .int (nI (stK S N (k + 1))), .int (nI (stK S N k + stM S N k)), .int (nI (stK S N k)), .ref 0]) (by rw [nI_1 k]; try rfl) ?_
        refine q_iconst (pc := 161) 1 rfl (by decide) ?_
        refine q_callVG (pc := 162) (as := [.int (nI (k + 1)), .int 1]) (rest := [.int (nI (stK S N (k + 1))), .int (nI (stK S N k + stM S N k)), .int (nI (stK S N k)), .ref 0]) (b := 0) rfl ce_X8_line ml_L_78 im_X8_line se_X8_line he.1.1 rfl rfl rfl (by omega) (Nat.le_of_ble_eq_true rfl) (sp_X8_line he.1 (fl_iv hi hf)) (fun r9 S9 h9 => ?_)
        obtain ⟨rfl, hf⟩ := rk_line1 (k := (k + 1)) hi hf hfo hk3 h9
        refine q_aload_n (pc := 165) (j := 0) rfl rfl ?_
        refine q_iload (pc := 166) (j := 7) rfl rfl ?_
        refine q_iconst (pc := 168) 3 rfl (by decide) ?_
        refine q_callVG (pc := 169) (as := [.int (nI k), .int 3]) (rest := [.int (nI (stK S N (k + 1) + stM S N (k + 1))), .int (nI (stK S N (k + 1))), .int (nI (stK S N k + stM S N k)), .int (nI (stK S N k)), .ref 0]) (b := 0) rfl ce_X8_line ml_L_78 im_X8_line se_X8_line he.1.1 rfl rfl rfl (by omega) (Nat.le_of_ble_eq_true rfl) (sp_X8_line he.1 (fl_iv hi hf)) (fun r9 S9 h9 => ?_)
        obtain ⟨rfl, hf⟩ := rk_line3 (k := k) hi hf hfo hk3 h9
        refine q_callSG (pc := 172) (as := [.ref 0, .int (nI (stK S N k)), .int (nI (stK S N k + stM S N k)), .int (nI (stK S N (k + 1))), .int (nI (stK S N (k + 1) + stM S N (k + 1))), .int (apV (S.1 3) (S.1 1 2) (stK S N k) (stM S N k + 1) (stK S N (k + 1)) (stM S N (k + 1) + 1))]) (rest := []) rfl ce_L_apart ml_L_85 st_L_apart rfl (by omega) (Nat.le_of_ble_eq_true rfl) (sp_L_apart he hi (a := stK S N k) (m := stM S N k) (c := stK S N (k + 1)) (l := stM S N (k + 1)) (by omega) (by omega) hf rfl) (fun r9 S9 h9 => ?_)
        obtain ⟨rfl, hf⟩ := h9
        refine q_if_ne (pc := 175) 180 rfl (by decide) (fun _ => ?_) (fun h9 => absurd h9 (by decide : (1 : Int32) = 0 → False))
        refine q_fload (pc := 180) (j := 5) rfl rfl ?_
        refine q_aload_n (pc := 182) (j := 0) rfl rfl ?_
        refine q_iload (pc := 183) (j := 8) rfl rfl ?_
        refine q_iload (pc := 185) (j := 9) rfl rfl ?_
        refine q_callVG (pc := 187) (as := [.int (nI (stK S N k)), .int (nI (stK S N k + stM S N k))]) (rest := [.float (toV (S.1 3) (S.1 1 2) N (stK S N k))]) (b := 0) rfl ce_X8_bad ml_L_75 im_X8_bad se_X8_bad he.1.1 rfl rfl rfl (by omega) (Nat.le_of_ble_eq_true rfl) (sp_X8_bad he.1 (fl_iv hi hf)) (fun r9 S9 h9 => ?_)
        obtain ⟨rfl, hf⟩ := rk_badY hi hf (a := stK S N k) (m := stM S N k) (by omega) s4 h9
        refine q_callS (pc := 190) (as := [.int ((badV (S.1 3) (S.1 1 2) (stK S N k) (stM S N k + 1)).toInt32)]) (rest := [.float (toV (S.1 3) (S.1 1 2) N (stK S N k))]) (st2 := [.float (badV (S.1 3) (S.1 1 2) (stK S N k) (stM S N k + 1)), .float (toV (S.1 3) (S.1 1 2) N (stK S N k))]) rfl ce_L_f ml_L_44 st_L_f rfl (by omega) (Nat.le_of_ble_eq_true rfl) (sp_L_f (x := (badV (S.1 3) (S.1 1 2) (stK S N k) (stM S N k + 1))) (sn_F (badV_F hi (by omega)))) rfl ?_
        refine q_fadd (pc := 193) rfl (by rw [← s5]; exact fF_nn (to_sta hi hfo hk1)) ?_
        refine q_st (st2 := [.float (toV (S.1 3) (S.1 1 2) N (stK S N (k + 1)))]) (by rw [s5.symm]; try rfl) ?_
        refine q_fstore (pc := 194) (j := 5) [some (.ref 0), some (.ref 70), some (.int x), some (.int (nI N)), some (.int (nI (linV (S.1 3) (S.1 1 2) N))), some (.float (toV (S.1 3) (S.1 1 2) N (stK S N (k + 1)))), some (.int (nI (stK S N k))), some (.int (nI k)), some (.int (nI (stK S N k))), some (.int (nI (stK S N k + stM S N k))), f10] rfl (by decide) rfl ?_
        refine q_iload (pc := 196) (j := 9) rfl rfl ?_
        refine q_iconst (pc := 198) 1 rfl (by decide) ?_
        refine q_iadd (pc := 199) rfl ?_
        refine q_st (st2 := [.int (nI (stK S N (k + 1)))]) (by rw [show nI (stK S N k + stM S N k) + 1 = nI (stK S N (k + 1)) from (by rw [nI_1, s1])]; try rfl) ?_
        refine q_istore (pc := 200) (j := 6) [some (.ref 0), some (.ref 70), some (.int x), some (.int (nI N)), some (.int (nI (linV (S.1 3) (S.1 1 2) N))), some (.float (toV (S.1 3) (S.1 1 2) N (stK S N (k + 1)))), some (.int (nI (stK S N (k + 1)))), some (.int (nI k)), some (.int (nI (stK S N k))), some (.int (nI (stK S N k + stM S N k))), f10] rfl (by decide) rfl ?_
        refine q_iinc (pc := 202) (j := 7) (n := 1) (nI (k + 1)) [some (.ref 0), some (.ref 70), some (.int x), some (.int (nI N)), some (.int (nI (linV (S.1 3) (S.1 1 2) N))), some (.float (toV (S.1 3) (S.1 1 2) N (stK S N (k + 1)))), some (.int (nI (stK S N (k + 1)))), some (.int (nI (k + 1))), some (.int (nI (stK S N k))), some (.int (nI (stK S N k + stM S N k))), f10] rfl (by decide) rfl (nI_1 k) rfl ?_
        refine q_goto (pc := 205) 54 rfl (by decide) ?_
        exact ih (k + 1) (some (.int (nI (stK S N k)))) (some (.int (nI (stK S N k + stM S N k)))) f10 S9 (by omega) hf
set_option maxRecDepth 100000 in
theorem lp_L_linesB {n0 : Nat} {X : Nat × (Nat → Int32)} {P : Option Value → PSt → Prop} {d : Nat} (hd9 : 5 ≤ d) {sh : List PSh} {S : PSt} {N : Nat} (he : isLw sh) (hi : cIv S N) (hN : N ≤ 20) (hE : eOk S N) {x y : Int32} {tt : UInt32} (htt : tt = (totV (S.1 3) (S.1 1 2) N)) (hto : fF tt)  (hP : ∀ T, frL S T → P (some (.int 1)) T) : ∀ (m9 k : Nat) (ot : UInt32) (fr : Nat) (gd : Bool) (f6 : Int32) (T : PSt), k + m9 = N → fr ≤ k → (k = N → fr = N) → othW (S.1 3) (S.1 1 2) N fr gd ot → frL S T → pV mL_lines d n0 X sh P 240 [some (.ref 0), some (.ref 70), some (.int x), some (.int (nI N)), some (.int y), some (.float tt), some (.int f6), some (.float ot), some (.int (nI fr)), some (.int (pB gd)), some (.int (nI k))] [] T := by
  intro m9
  induction m9 with
  | zero =>
    intro k ot fr gd f6 T hk hfk hfN ho hf
    have hk9 : N = k := by omega
    subst hk9
    refine q_iload (pc := 240) (j := 10) rfl rfl ?_
    refine q_iload_n (pc := 242) (j := 3) rfl rfl ?_
    refine q_icmp_ge (pc := 243) 344 rfl (by decide) (fun _ => ?_) (fun h9 => absurd (Int32.le_refl _) h9)
    rcases Bool.eq_false_or_eq_true gd with hgd | hgd
    · refine q_iload (pc := 344) (j := 9) rfl rfl ?_
      refine q_if_eq (pc := 346) 357 rfl (by decide) (fun h9 => absurd h9 (by rw [hgd]; decide)) (fun _ => ?_)
      refine q_fload (pc := 349) (j := 7) rfl rfl ?_
      refine q_fload (pc := 351) (j := 5) rfl rfl ?_
      refine q_fcmp (pc := 353) (op := .l) rfl ?_
      refine q_if_lt (pc := 354) 361 rfl (by decide) (fun h9 => absurd h9 (fun h8 => absurd ((fcl_lt (ho hgd).2.1.1.1 hto).mp h8) (Int.not_lt.mpr (by have h7 := (ho hgd).2.2; rw [hfN rfl, htt] at *; exact h7)))) (fun _ => ?_)
      refine q_iconst (pc := 357) 1 rfl (by decide) ?_
      refine q_goto (pc := 358) 362 rfl (by decide) ?_
      exact q_zret (pc := 362) rfl rfl rfl (hP T hf)
    · refine q_iload (pc := 344) (j := 9) rfl rfl ?_
      refine q_if_eq (pc := 346) 357 rfl (by decide) (fun _ => ?_) (fun h9 => absurd (by rw [hgd]; rfl) h9)
      refine q_iconst (pc := 357) 1 rfl (by decide) ?_
      refine q_goto (pc := 358) 362 rfl (by decide) ?_
      exact q_zret (pc := 362) rfl rfl rfl (hP T hf)
  | succ m9 ih =>
    intro k ot fr gd f6 T hk hfk hfN ho hf
    have hk1 : k < N := by omega
    have hk2 : k < N := hk1
    refine q_iload (pc := 240) (j := 10) rfl rfl ?_
    refine q_iload_n (pc := 242) (j := 3) rfl rfl ?_
    refine q_icmp_ge (pc := 243) 344 rfl (by decide) (fun h9 => absurd h9 (nI_ge hk1 (by omega))) (fun _ => ?_)
    rcases Bool.eq_false_or_eq_true (isEnV (S.1 3) N (k + 1)) with hEn | hEn
    · refine q_iload (pc := 246) (j := 10) rfl rfl ?_
      refine q_iload_n (pc := 248) (j := 3) rfl rfl ?_
      refine q_iconst (pc := 249) 1 rfl (by decide) ?_
      refine q_isub (pc := 250) rfl ?_
      refine q_st (st2 := [.int (nI (N - 1)), .int (nI k)]) (by rw [show nI N - 1 = nI (N - 1) from pk_sub (b := 1) (by omega)]; try rfl) ?_
      refine q_icmp_ge (pc := 251) 281 rfl (by decide) (fun h251 => ?_) (fun h251 => ?_)
      · rcases Bool.eq_false_or_eq_true gd with hgd | hgd
        · refine q_iload (pc := 281) (j := 9) rfl rfl ?_
          refine q_if_eq (pc := 283) 303 rfl (by decide) (fun h9 => absurd h9 (by rw [hgd]; decide)) (fun _ => ?_)
          refine q_aload_n (pc := 286) (j := 0) rfl rfl ?_
          refine q_iload (pc := 287) (j := 8) rfl rfl ?_
          refine q_iload (pc := 289) (j := 10) rfl rfl ?_
          refine q_callVG (pc := 291) (as := [.int (nI fr), .int (nI k)]) (rest := []) (b := 0) rfl ce_X8_bad ml_L_75 im_X8_bad se_X8_bad he.1.1 rfl rfl rfl (by omega) (Nat.le_of_ble_eq_true rfl) (sp_X8_bad he.1 (fl_iv hi hf)) (fun r9 S9 h9 => ?_)
          obtain ⟨rfl, hf⟩ := rd_bad hi hf (a := fr) (b := k) (by omega) (by omega) h9
          refine q_ldc (pc := 294) (v := (-2147483002)) rfl kc_L_71 ?_
          refine q_icmp_eq (pc := 296) 303 rfl (by decide) (fun h296 => ?_) (fun h296 => ?_)
          · refine q_iconst (pc := 303) 0 rfl (by decide) ?_
            refine q_istore (pc := 304) (j := 9) [some (.ref 0), some (.ref 70), some (.int x), some (.int (nI N)), some (.int y), some (.float tt), some (.int f6), some (.float ot), some (.int (nI fr)), some (.int 0), some (.int (nI k))] rfl (by decide) rfl ?_
            refine q_iload (pc := 306) (j := 9) rfl rfl ?_
            refine q_if_eq (pc := 308) 328 rfl (by decide) (fun _ => ?_) (fun h9 => absurd (by decide : (0 : Int32) = 0) h9)
            refine q_fload (pc := 328) (j := 7) rfl rfl ?_
            refine q_fstore (pc := 330) (j := 7) [some (.ref 0), some (.ref 70), some (.int x), some (.int (nI N)), some (.int y), some (.float tt), some (.int f6), some (.float ot), some (.int (nI fr)), some (.int 0), some (.int (nI k))] rfl (by decide) rfl ?_
            refine q_iload (pc := 332) (j := 10) rfl rfl ?_
            refine q_iconst (pc := 334) 1 rfl (by decide) ?_
            refine q_iadd (pc := 335) rfl ?_
            refine q_st (st2 := [.int (nI (k + 1))]) (by rw [nI_1 k]; try rfl) ?_
            refine q_istore (pc := 336) (j := 8) [some (.ref 0), some (.ref 70), some (.int x), some (.int (nI N)), some (.int y), some (.float tt), some (.int f6), some (.float ot), some (.int (nI (k + 1))), some (.int 0), some (.int (nI k))] rfl (by decide) rfl ?_
            refine q_iinc (pc := 338) (j := 10) (n := 1) (nI (k + 1)) [some (.ref 0), some (.ref 70), some (.int x), some (.int (nI N)), some (.int y), some (.float tt), some (.int f6), some (.float ot), some (.int (nI (k + 1))), some (.int 0), some (.int (nI (k + 1)))] rfl (by decide) rfl (nI_1 k) rfl ?_
            refine q_goto (pc := 341) 240 rfl (by decide) ?_
            exact q_L rfl (ih (k + 1) ot (k + 1) false f6 S9 (by omega) (by omega) (fun _ => by omega) oth_n hf)
          · refine q_iconst (pc := 299) 1 rfl (by decide) ?_
            refine q_goto (pc := 300) 304 rfl (by decide) ?_
            refine q_istore (pc := 304) (j := 9) [some (.ref 0), some (.ref 70), some (.int x), some (.int (nI N)), some (.int y), some (.float tt), some (.int f6), some (.float ot), some (.int (nI fr)), some (.int 1), some (.int (nI k))] rfl (by decide) rfl ?_
            refine q_iload (pc := 306) (j := 9) rfl rfl ?_
            refine q_if_eq (pc := 308) 328 rfl (by decide) (fun h9 => absurd h9 (by decide : ¬ (1 : Int32) = 0)) (fun _ => ?_)
            have hfit := (Classical.not_not.mp (mt (badA_iff hi.2.2.1 hi.2.2.2 (by omega) (by omega)).mpr h296))
            refine q_fload (pc := 311) (j := 7) rfl rfl ?_
            refine q_aload_n (pc := 313) (j := 0) rfl rfl ?_
            refine q_iload (pc := 314) (j := 8) rfl rfl ?_
            refine q_iload (pc := 316) (j := 10) rfl rfl ?_
            refine q_callVG (pc := 318) (as := [.int (nI fr), .int (nI k)]) (rest := [.float ot]) (b := 0) rfl ce_X8_bad ml_L_75 im_X8_bad se_X8_bad he.1.1 rfl rfl rfl (by omega) (Nat.le_of_ble_eq_true rfl) (sp_X8_bad he.1 (fl_iv hi hf)) (fun r9 S9 h9 => ?_)
            obtain ⟨rfl, hf⟩ := rd_badY hi hf (a := fr) (b := k) (by omega) (by omega) hfit h9
            refine q_callS (pc := 321) (as := [.int ((badV (S.1 3) (S.1 1 2) fr (k - fr + 1)).toInt32)]) (rest := [.float ot]) (st2 := [.float (badV (S.1 3) (S.1 1 2) fr (k - fr + 1)), .float ot]) rfl ce_L_f ml_L_44 st_L_f rfl (by omega) (Nat.le_of_ble_eq_true rfl) (sp_L_f (x := (badV (S.1 3) (S.1 1 2) fr (k - fr + 1))) (sn_F (badV_F hi (by omega)))) rfl ?_
            refine q_fadd (pc := 324) rfl (oth_F hi.2.2.1 hi.2.2.2 (by omega) hgd (by omega) ho) ?_
            refine q_goto (pc := 325) 330 rfl (by decide) ?_
            refine q_fstore (pc := 330) (j := 7) [some (.ref 0), some (.ref 70), some (.int x), some (.int (nI N)), some (.int y), some (.float tt), some (.int f6), some (.float (FP.fadd ot (badV (S.1 3) (S.1 1 2) fr (k - fr + 1)))), some (.int (nI fr)), some (.int 1), some (.int (nI k))] rfl (by decide) rfl ?_
            refine q_iload (pc := 332) (j := 10) rfl rfl ?_
            refine q_iconst (pc := 334) 1 rfl (by decide) ?_
            refine q_iadd (pc := 335) rfl ?_
            refine q_st (st2 := [.int (nI (k + 1))]) (by rw [nI_1 k]; try rfl) ?_
            refine q_istore (pc := 336) (j := 8) [some (.ref 0), some (.ref 70), some (.int x), some (.int (nI N)), some (.int y), some (.float tt), some (.int f6), some (.float (FP.fadd ot (badV (S.1 3) (S.1 1 2) fr (k - fr + 1)))), some (.int (nI (k + 1))), some (.int 1), some (.int (nI k))] rfl (by decide) rfl ?_
            refine q_iinc (pc := 338) (j := 10) (n := 1) (nI (k + 1)) [some (.ref 0), some (.ref 70), some (.int x), some (.int (nI N)), some (.int y), some (.float tt), some (.int f6), some (.float (FP.fadd ot (badV (S.1 3) (S.1 1 2) fr (k - fr + 1)))), some (.int (nI (k + 1))), some (.int 1), some (.int (nI (k + 1)))] rfl (by decide) rfl (nI_1 k) rfl ?_
            refine q_goto (pc := 341) 240 rfl (by decide) ?_
            exact q_L rfl (ih (k + 1) (FP.fadd ot (badV (S.1 3) (S.1 1 2) fr (k - fr + 1))) (k + 1) true f6 S9 (by omega) (by omega) (fun _ => by omega) (oth_y hi.2.2.1 hi.2.2.2 (by omega) hgd (by omega) (by omega) hEn hfit ho) hf)
        · refine q_iload (pc := 281) (j := 9) rfl rfl ?_
          refine q_if_eq (pc := 283) 303 rfl (by decide) (fun _ => ?_) (fun h9 => absurd (by rw [hgd]; rfl) h9)
          refine q_iconst (pc := 303) 0 rfl (by decide) ?_
          refine q_istore (pc := 304) (j := 9) [some (.ref 0), some (.ref 70), some (.int x), some (.int (nI N)), some (.int y), some (.float tt), some (.int f6), some (.float ot), some (.int (nI fr)), some (.int 0), some (.int (nI k))] rfl (by decide) rfl ?_
          refine q_iload (pc := 306) (j := 9) rfl rfl ?_
          refine q_if_eq (pc := 308) 328 rfl (by decide) (fun _ => ?_) (fun h9 => absurd (by decide : (0 : Int32) = 0) h9)
          refine q_fload (pc := 328) (j := 7) rfl rfl ?_
          refine q_fstore (pc := 330) (j := 7) [some (.ref 0), some (.ref 70), some (.int x), some (.int (nI N)), some (.int y), some (.float tt), some (.int f6), some (.float ot), some (.int (nI fr)), some (.int 0), some (.int (nI k))] rfl (by decide) rfl ?_
          refine q_iload (pc := 332) (j := 10) rfl rfl ?_
          refine q_iconst (pc := 334) 1 rfl (by decide) ?_
          refine q_iadd (pc := 335) rfl ?_
          refine q_st (st2 := [.int (nI (k + 1))]) (by rw [nI_1 k]; try rfl) ?_
          refine q_istore (pc := 336) (j := 8) [some (.ref 0), some (.ref 70), some (.int x), some (.int (nI N)), some (.int y), some (.float tt), some (.int f6), some (.float ot), some (.int (nI (k + 1))), some (.int 0), some (.int (nI k))] rfl (by decide) rfl ?_
          refine q_iinc (pc := 338) (j := 10) (n := 1) (nI (k + 1)) [some (.ref 0), some (.ref 70), some (.int x), some (.int (nI N)), some (.int y), some (.float tt), some (.int f6), some (.float ot), some (.int (nI (k + 1))), some (.int 0), some (.int (nI (k + 1)))] rfl (by decide) rfl (nI_1 k) rfl ?_
          refine q_goto (pc := 341) 240 rfl (by decide) ?_
          exact q_L rfl (ih (k + 1) ot (k + 1) false f6 T (by omega) (by omega) (fun _ => by omega) oth_n hf)
      · refine q_aload_n (pc := 254) (j := 1) rfl rfl ?_
        refine q_iconst (pc := 255) 2 rfl (by decide) ?_
        refine q_iconst (pc := 256) 5 rfl (by decide) ?_
        refine q_iload (pc := 257) (j := 10) rfl rfl ?_
        refine q_imul (pc := 259) rfl ?_
        refine q_iadd (pc := 260) rfl ?_
        refine q_st (st2 := [.int (nI (2 + 5 * k)), .ref 70]) (by rw [e25 k]; try rfl) ?_
        refine q_iald (pc := 261) (a := 70) (2 + 5 * k) rfl he.2 (vp_in_nI (by omega) (by decide)) (nI_clamp (by omega)) ?_
        refine q_st (st2 := [.int (S.1 3 (5 * k))]) (by rw [show (T.1 70 (2 + 5 * k)) = S.1 3 (5 * k) from (congrFun (fl_g hf).2.2 _).trans (hE.2.2 _ (by omega))]; try rfl) ?_
        refine q_iconst (pc := 262) 2 rfl (by decide) ?_
        refine q_icmp_ne (pc := 263) 338 rfl (by decide) (fun h263 => ?_) (fun h263 => ?_)
        · refine q_iinc (pc := 338) (j := 10) (n := 1) (nI (k + 1)) [some (.ref 0), some (.ref 70), some (.int x), some (.int (nI N)), some (.int y), some (.float tt), some (.int f6), some (.float ot), some (.int (nI fr)), some (.int (pB gd)), some (.int (nI (k + 1)))] rfl (by decide) rfl (nI_1 k) rfl ?_
          refine q_goto (pc := 341) 240 rfl (by decide) ?_
          exact ih (k + 1) ot fr gd f6 T (by omega) (by omega) (fun q9 => absurd (nI_le (a := N - 1) (b := k) (by omega) (by omega)) h251) ho hf
        · refine q_iload_n (pc := 266) (j := 2) rfl rfl ?_
          refine q_iload (pc := 267) (j := 10) rfl rfl ?_
          refine q_bipush (pc := 269) 31 rfl (by decide) ?_
          refine q_irem (pc := 271) rfl (by decide) ?_
          refine q_ishr (pc := 272) rfl ?_
          refine q_iconst (pc := 273) 1 rfl (by decide) ?_
          refine q_iand (pc := 274) rfl ?_
          refine q_if_ne (pc := 275) 281 rfl (by decide) (fun h275 => ?_) (fun h275 => ?_)
          · rcases Bool.eq_false_or_eq_true gd with hgd | hgd
            · refine q_iload (pc := 281) (j := 9) rfl rfl ?_
              refine q_if_eq (pc := 283) 303 rfl (by decide) (fun h9 => absurd h9 (by rw [hgd]; decide)) (fun _ => ?_)
              refine q_aload_n (pc := 286) (j := 0) rfl rfl ?_
              refine q_iload (pc := 287) (j := 8) rfl rfl ?_
              refine q_iload (pc := 289) (j := 10) rfl rfl ?_
              refine q_callVG (pc := 291) (as := [.int (nI fr), .int (nI k)]) (rest := []) (b := 0) rfl ce_X8_bad ml_L_75 im_X8_bad se_X8_bad he.1.1 rfl rfl rfl (by omega) (Nat.le_of_ble_eq_true rfl) (sp_X8_bad he.1 (fl_iv hi hf)) (fun r9 S9 h9 => ?_)
              obtain ⟨rfl, hf⟩ := rd_bad hi hf (a := fr) (b := k) (by omega) (by omega) h9
              refine q_ldc (pc := 294) (v := (-2147483002)) rfl kc_L_71 ?_
              refine q_icmp_eq (pc := 296) 303 rfl (by decide) (fun h296 => ?_) (fun h296 => ?_)
              · refine q_iconst (pc := 303) 0 rfl (by decide) ?_
                refine q_istore (pc := 304) (j := 9) [some (.ref 0), some (.ref 70), some (.int x), some (.int (nI N)), some (.int y), some (.float tt), some (.int f6), some (.float ot), some (.int (nI fr)), some (.int 0), some (.int (nI k))] rfl (by decide) rfl ?_
                refine q_iload (pc := 306) (j := 9) rfl rfl ?_
                refine q_if_eq (pc := 308) 328 rfl (by decide) (fun _ => ?_) (fun h9 => absurd (by decide : (0 : Int32) = 0) h9)
                refine q_fload (pc := 328) (j := 7) rfl rfl ?_
                refine q_fstore (pc := 330) (j := 7) [some (.ref 0), some (.ref 70), some (.int x), some (.int (nI N)), some (.int y), some (.float tt), some (.int f6), some (.float ot), some (.int (nI fr)), some (.int 0), some (.int (nI k))] rfl (by decide) rfl ?_
                refine q_iload (pc := 332) (j := 10) rfl rfl ?_
                refine q_iconst (pc := 334) 1 rfl (by decide) ?_
                refine q_iadd (pc := 335) rfl ?_
                refine q_st (st2 := [.int (nI (k + 1))]) (by rw [nI_1 k]; try rfl) ?_
                refine q_istore (pc := 336) (j := 8) [some (.ref 0), some (.ref 70), some (.int x), some (.int (nI N)), some (.int y), some (.float tt), some (.int f6), some (.float ot), some (.int (nI (k + 1))), some (.int 0), some (.int (nI k))] rfl (by decide) rfl ?_
                refine q_iinc (pc := 338) (j := 10) (n := 1) (nI (k + 1)) [some (.ref 0), some (.ref 70), some (.int x), some (.int (nI N)), some (.int y), some (.float tt), some (.int f6), some (.float ot), some (.int (nI (k + 1))), some (.int 0), some (.int (nI (k + 1)))] rfl (by decide) rfl (nI_1 k) rfl ?_
                refine q_goto (pc := 341) 240 rfl (by decide) ?_
                exact q_L rfl (ih (k + 1) ot (k + 1) false f6 S9 (by omega) (by omega) (fun _ => by omega) oth_n hf)
              · refine q_iconst (pc := 299) 1 rfl (by decide) ?_
                refine q_goto (pc := 300) 304 rfl (by decide) ?_
                refine q_istore (pc := 304) (j := 9) [some (.ref 0), some (.ref 70), some (.int x), some (.int (nI N)), some (.int y), some (.float tt), some (.int f6), some (.float ot), some (.int (nI fr)), some (.int 1), some (.int (nI k))] rfl (by decide) rfl ?_
                refine q_iload (pc := 306) (j := 9) rfl rfl ?_
                refine q_if_eq (pc := 308) 328 rfl (by decide) (fun h9 => absurd h9 (by decide : ¬ (1 : Int32) = 0)) (fun _ => ?_)
                have hfit := (Classical.not_not.mp (mt (badA_iff hi.2.2.1 hi.2.2.2 (by omega) (by omega)).mpr h296))
                refine q_fload (pc := 311) (j := 7) rfl rfl ?_
                refine q_aload_n (pc := 313) (j := 0) rfl rfl ?_
                refine q_iload (pc := 314) (j := 8) rfl rfl ?_
                refine q_iload (pc := 316) (j := 10) rfl rfl ?_
                refine q_callVG (pc := 318) (as := [.int (nI fr), .int (nI k)]) (rest := [.float ot]) (b := 0) rfl ce_X8_bad ml_L_75 im_X8_bad se_X8_bad he.1.1 rfl rfl rfl (by omega) (Nat.le_of_ble_eq_true rfl) (sp_X8_bad he.1 (fl_iv hi hf)) (fun r9 S9 h9 => ?_)
                obtain ⟨rfl, hf⟩ := rd_badY hi hf (a := fr) (b := k) (by omega) (by omega) hfit h9
                refine q_callS (pc := 321) (as := [.int ((badV (S.1 3) (S.1 1 2) fr (k - fr + 1)).toInt32)]) (rest := [.float ot]) (st2 := [.float (badV (S.1 3) (S.1 1 2) fr (k - fr + 1)), .float ot]) rfl ce_L_f ml_L_44 st_L_f rfl (by omega) (Nat.le_of_ble_eq_true rfl) (sp_L_f (x := (badV (S.1 3) (S.1 1 2) fr (k - fr + 1))) (sn_F (badV_F hi (by omega)))) rfl ?_
                refine q_fadd (pc := 324) rfl (oth_F hi.2.2.1 hi.2.2.2 (by omega) hgd (by omega) ho) ?_
                refine q_goto (pc := 325) 330 rfl (by decide) ?_
                refine q_fstore (pc := 330) (j := 7) [some (.ref 0), some (.ref 70), some (.int x), some (.int (nI N)), some (.int y), some (.float tt), some (.int f6), some (.float (FP.fadd ot (badV (S.1 3) (S.1 1 2) fr (k - fr + 1)))), some (.int (nI fr)), some (.int 1), some (.int (nI k))] rfl (by decide) rfl ?_
                refine q_iload (pc := 332) (j := 10) rfl rfl ?_
                refine q_iconst (pc := 334) 1 rfl (by decide) ?_
                refine q_iadd (pc := 335) rfl ?_
                refine q_st (st2 := [.int (nI (k + 1))]) (by rw [nI_1 k]; try rfl) ?_
                refine q_istore (pc := 336) (j := 8) [some (.ref 0), some (.ref 70), some (.int x), some (.int (nI N)), some (.int y), some (.float tt), some (.int f6), some (.float (FP.fadd ot (badV (S.1 3) (S.1 1 2) fr (k - fr + 1)))), some (.int (nI (k + 1))), some (.int 1), some (.int (nI k))] rfl (by decide) rfl ?_
                refine q_iinc (pc := 338) (j := 10) (n := 1) (nI (k + 1)) [some (.ref 0), some (.ref 70), some (.int x), some (.int (nI N)), some (.int y), some (.float tt), some (.int f6), some (.float (FP.fadd ot (badV (S.1 3) (S.1 1 2) fr (k - fr + 1)))), some (.int (nI (k + 1))), some (.int 1), some (.int (nI (k + 1)))] rfl (by decide) rfl (nI_1 k) rfl ?_
                refine q_goto (pc := 341) 240 rfl (by decide) ?_
                exact q_L rfl (ih (k + 1) (FP.fadd ot (badV (S.1 3) (S.1 1 2) fr (k - fr + 1))) (k + 1) true f6 S9 (by omega) (by omega) (fun _ => by omega) (oth_y hi.2.2.1 hi.2.2.2 (by omega) hgd (by omega) (by omega) hEn hfit ho) hf)
            · refine q_iload (pc := 281) (j := 9) rfl rfl ?_
              refine q_if_eq (pc := 283) 303 rfl (by decide) (fun _ => ?_) (fun h9 => absurd (by rw [hgd]; rfl) h9)
              refine q_iconst (pc := 303) 0 rfl (by decide) ?_
              refine q_istore (pc := 304) (j := 9) [some (.ref 0), some (.ref 70), some (.int x), some (.int (nI N)), some (.int y), some (.float tt), some (.int f6), some (.float ot), some (.int (nI fr)), some (.int 0), some (.int (nI k))] rfl (by decide) rfl ?_
              refine q_iload (pc := 306) (j := 9) rfl rfl ?_
              refine q_if_eq (pc := 308) 328 rfl (by decide) (fun _ => ?_) (fun h9 => absurd (by decide : (0 : Int32) = 0) h9)
              refine q_fload (pc := 328) (j := 7) rfl rfl ?_
              refine q_fstore (pc := 330) (j := 7) [some (.ref 0), some (.ref 70), some (.int x), some (.int (nI N)), some (.int y), some (.float tt), some (.int f6), some (.float ot), some (.int (nI fr)), some (.int 0), some (.int (nI k))] rfl (by decide) rfl ?_
              refine q_iload (pc := 332) (j := 10) rfl rfl ?_
              refine q_iconst (pc := 334) 1 rfl (by decide) ?_
              refine q_iadd (pc := 335) rfl ?_
              refine q_st (st2 := [.int (nI (k + 1))]) (by rw [nI_1 k]; try rfl) ?_
              refine q_istore (pc := 336) (j := 8) [some (.ref 0), some (.ref 70), some (.int x), some (.int (nI N)), some (.int y), some (.float tt), some (.int f6), some (.float ot), some (.int (nI (k + 1))), some (.int 0), some (.int (nI k))] rfl (by decide) rfl ?_
              refine q_iinc (pc := 338) (j := 10) (n := 1) (nI (k + 1)) [some (.ref 0), some (.ref 70), some (.int x), some (.int (nI N)), some (.int y), some (.float tt), some (.int f6), some (.float ot), some (.int (nI (k + 1))), some (.int 0), some (.int (nI (k + 1)))] rfl (by decide) rfl (nI_1 k) rfl ?_
              refine q_goto (pc := 341) 240 rfl (by decide) ?_
              exact q_L rfl (ih (k + 1) ot (k + 1) false f6 T (by omega) (by omega) (fun _ => by omega) oth_n hf)
          · refine q_goto (pc := 278) 338 rfl (by decide) ?_
            refine q_iinc (pc := 338) (j := 10) (n := 1) (nI (k + 1)) [some (.ref 0), some (.ref 70), some (.int x), some (.int (nI N)), some (.int y), some (.float tt), some (.int f6), some (.float ot), some (.int (nI fr)), some (.int (pB gd)), some (.int (nI (k + 1)))] rfl (by decide) rfl (nI_1 k) rfl ?_
            refine q_goto (pc := 341) 240 rfl (by decide) ?_
            exact ih (k + 1) ot fr gd f6 T (by omega) (by omega) (fun q9 => absurd (nI_le (a := N - 1) (b := k) (by omega) (by omega)) h251) ho hf
    · refine q_iload (pc := 246) (j := 10) rfl rfl ?_
      refine q_iload_n (pc := 248) (j := 3) rfl rfl ?_
      refine q_iconst (pc := 249) 1 rfl (by decide) ?_
      refine q_isub (pc := 250) rfl ?_
      refine q_st (st2 := [.int (nI (N - 1)), .int (nI k)]) (by rw [show nI N - 1 = nI (N - 1) from pk_sub (b := 1) (by omega)]; try rfl) ?_
      refine q_icmp_ge (pc := 251) 281 rfl (by decide) (fun h9 => absurd h9 (fun h8 => absurd ((nI_leI (by omega) (by omega)).mp h8) (by have := (en_no hEn).1; omega))) (fun _ => ?_)
      refine q_aload_n (pc := 254) (j := 1) rfl rfl ?_
      refine q_iconst (pc := 255) 2 rfl (by decide) ?_
      refine q_iconst (pc := 256) 5 rfl (by decide) ?_
      refine q_iload (pc := 257) (j := 10) rfl rfl ?_
      refine q_imul (pc := 259) rfl ?_
      refine q_iadd (pc := 260) rfl ?_
      refine q_st (st2 := [.int (nI (2 + 5 * k)), .ref 70]) (by rw [e25 k]; try rfl) ?_
      refine q_iald (pc := 261) (a := 70) (2 + 5 * k) rfl he.2 (vp_in_nI (by omega) (by decide)) (nI_clamp (by omega)) ?_
      refine q_st (st2 := [.int (S.1 3 (5 * k))]) (by rw [show (T.1 70 (2 + 5 * k)) = S.1 3 (5 * k) from (congrFun (fl_g hf).2.2 _).trans (hE.2.2 _ (by omega))]; try rfl) ?_
      refine q_iconst (pc := 262) 2 rfl (by decide) ?_
      refine q_icmp_ne (pc := 263) 338 rfl (by decide) (fun _ => ?_) (fun h9 => absurd h9 (en_no hEn).2)
      refine q_iinc (pc := 338) (j := 10) (n := 1) (nI (k + 1)) [some (.ref 0), some (.ref 70), some (.int x), some (.int (nI N)), some (.int y), some (.float tt), some (.int f6), some (.float ot), some (.int (nI fr)), some (.int (pB gd)), some (.int (nI (k + 1)))] rfl (by decide) rfl (nI_1 k) rfl ?_
      refine q_goto (pc := 341) 240 rfl (by decide) ?_
      exact ih (k + 1) ot fr gd f6 T (by omega) (by omega) (fun q9 => absurd q9 (en_no hEn).1) ho hf
set_option maxRecDepth 100000 in
theorem sp_L_linesN {sh : List PSh} {S : PSt} {N : Nat} (he : isLw sh) (hi : cIv S N) (hN : N ≤ 20) (hE : eOk S N) (h0 : 0 < N) {T0 : PSt} (hf : frL S T0) (hfo : ¬ fouV (S.1 3) (S.1 1 2) N = true) {x : Int32} : pG mL_lines 9 [.ref 0, .ref 70, .int x] sh T0 (fun r U => r = some (.int 1) ∧ frL S U) := by
  refine pG.of [some (.ref 0), some (.ref 70), some (.int x), none, none, none, none, none, none, none, none] (by decide) tk_L_lines (Nat.le_of_ble_eq_true rfl) rfl (fun X => ?_)
  refine q_aload_n (pc := 0) (j := 1) rfl rfl ?_
  refine q_iconst (pc := 1) 0 rfl (by decide) ?_
  refine q_iald (pc := 2) (a := 70) 0 rfl he.2 (vp_in_nI (n := 0) (by decide) (by decide)) rfl ?_
  refine q_st (st2 := [.int (nI N)]) (by rw [show (T0.1 70 0) = nI N from (congrFun (fl_g hf).2.2 0).trans hE.1]; try rfl) ?_
  refine q_istore_n (pc := 3) (j := 3) [some (.ref 0), some (.ref 70), some (.int x), some (.int (nI N)), none, none, none, none, none, none, none] rfl (by decide) rfl ?_
  refine q_aload_n (pc := 4) (j := 0) rfl rfl ?_
  refine q_callVG (pc := 5) (as := []) (rest := []) (b := 0) rfl ce_X8_lines ml_L_68 im_X8_lines se_X8_lines he.1.1 rfl rfl rfl (by decide) (Nat.le_of_ble_eq_true rfl) (sp_X8_lines he.1 (fl_iv hi hf)) (fun r9 S9 h9 => ?_)
  obtain ⟨rfl, hf⟩ := rd_linesN hf hfo h9
  refine q_istore (pc := 8) (j := 4) [some (.ref 0), some (.ref 70), some (.int x), some (.int (nI N)), some (.int (-2147483002)), none, none, none, none, none, none] rfl (by decide) rfl ?_
  refine q_iload (pc := 10) (j := 4) rfl rfl ?_
  refine q_ldc (pc := 12) (v := (-2147483002)) rfl kc_L_71 ?_
  refine q_icmp_ne (pc := 14) 45 rfl (by decide) (fun h9 => absurd h9 (by decide : ¬ ¬ ((-2147483002) : Int32) = (-2147483002))) (fun _ => ?_)
  refine q_aload_n (pc := 17) (j := 0) rfl rfl ?_
  refine q_callVG (pc := 18) (as := []) (rest := []) (b := 0) rfl ce_X8_total ml_L_72 im_X8_total se_X8_total he.1.1 rfl rfl rfl (by decide) (Nat.le_of_ble_eq_true rfl) (sp_X8_total he.1 (fl_iv hi hf)) (fun r9 S9 h9 => ?_)
  obtain ⟨rfl, hf⟩ := rd_totalN hf hfo h9
  refine q_ldc (pc := 21) (v := (-2147483002)) rfl kc_L_71 ?_
  refine q_icmp_ne (pc := 23) 43 rfl (by decide) (fun h9 => absurd h9 (by decide : ¬ ¬ ((-2147483002) : Int32) = (-2147483002))) (fun _ => ?_)
  refine q_aload_n (pc := 26) (j := 0) rfl rfl ?_
  refine q_iconst (pc := 27) 0 rfl (by decide) ?_
  refine q_iload_n (pc := 28) (j := 3) rfl rfl ?_
  refine q_iconst (pc := 29) 1 rfl (by decide) ?_
  refine q_isub (pc := 30) rfl ?_
  refine q_st (st2 := [.int (nI (N - 1)), .int 0, .ref 0]) (by rw [show nI N - 1 = nI (N - 1) from pk_sub (b := 1) (by omega)]; try rfl) ?_
  refine q_callVG (pc := 31) (as := [.int 0, .int (nI (N - 1))]) (rest := []) (b := 0) rfl ce_X8_bad ml_L_75 im_X8_bad se_X8_bad he.1.1 rfl rfl rfl (by decide) (Nat.le_of_ble_eq_true rfl) (sp_X8_bad he.1 (fl_iv hi hf)) (fun r9 S9 h9 => ?_)
  obtain ⟨rfl, hf⟩ := rd_bad0 hi hf h0 h9
  refine q_ldc (pc := 34) (v := (-2147483002)) rfl kc_L_71 ?_
  refine q_icmp_ne (pc := 36) 43 rfl (by decide) (fun h9 => absurd h9 (fun q9 => q9 (no_bad hi h0 hfo))) (fun _ => ?_)
  refine q_iconst (pc := 39) 1 rfl (by decide) ?_
  refine q_goto (pc := 40) 44 rfl (by decide) ?_
  exact q_zret (pc := 44) rfl rfl rfl ⟨rfl, hf⟩
set_option maxRecDepth 100000 in
theorem sp_L_linesY {sh : List PSh} {S : PSt} {N : Nat} (he : isLw sh) (hi : cIv S N) (hN : N ≤ 20) (hE : eOk S N) (h0 : 0 < N) {T0 : PSt} (hf : frL S T0) (hfo : fouV (S.1 3) (S.1 1 2) N = true) {x : Int32} : pG mL_lines 9 [.ref 0, .ref 70, .int x] sh T0 (fun r U => r = some (.int 1) ∧ frL S U) := by
  have hto : fF (toV (S.1 3) (S.1 1 2) N (stK S N (linV (S.1 3) (S.1 1 2) N))) := (by rw [stk_L]; exact (to_ok hi.2.2.1 hi.2.2.2 hi.2.1 (Nat.le_refl N) (of_decide_eq_true hfo)).1.1)
  refine pG.of [some (.ref 0), some (.ref 70), some (.int x), none, none, none, none, none, none, none, none] (by decide) tk_L_lines (Nat.le_of_ble_eq_true rfl) rfl (fun X => ?_)
  refine q_aload_n (pc := 0) (j := 1) rfl rfl ?_
  refine q_iconst (pc := 1) 0 rfl (by decide) ?_
  refine q_iald (pc := 2) (a := 70) 0 rfl he.2 (vp_in_nI (n := 0) (by decide) (by decide)) rfl ?_
  refine q_st (st2 := [.int (nI N)]) (by rw [show (T0.1 70 0) = nI N from (congrFun (fl_g hf).2.2 0).trans hE.1]; try rfl) ?_
  refine q_istore_n (pc := 3) (j := 3) [some (.ref 0), some (.ref 70), some (.int x), some (.int (nI N)), none, none, none, none, none, none, none] rfl (by decide) rfl ?_
  refine q_aload_n (pc := 4) (j := 0) rfl rfl ?_
  refine q_callVG (pc := 5) (as := []) (rest := []) (b := 0) rfl ce_X8_lines ml_L_68 im_X8_lines se_X8_lines he.1.1 rfl rfl rfl (by decide) (Nat.le_of_ble_eq_true rfl) (sp_X8_lines he.1 (fl_iv hi hf)) (fun r9 S9 h9 => ?_)
  obtain ⟨rfl, hf⟩ := rd_linesY hf hfo h9
  refine q_istore (pc := 8) (j := 4) [some (.ref 0), some (.ref 70), some (.int x), some (.int (nI N)), some (.int (nI (linV (S.1 3) (S.1 1 2) N))), none, none, none, none, none, none] rfl (by decide) rfl ?_
  refine q_iload (pc := 10) (j := 4) rfl rfl ?_
  refine q_ldc (pc := 12) (v := (-2147483002)) rfl kc_L_71 ?_
  refine q_icmp_ne (pc := 14) 45 rfl (by decide) (fun _ => ?_) (fun h9 => absurd h9 (nI_nn (by have := lin_le hi.2.1 hfo; omega)))
  refine q_fconst0 (pc := 45) rfl ?_
  refine q_fstore (pc := 46) (j := 5) [some (.ref 0), some (.ref 70), some (.int x), some (.int (nI N)), some (.int (nI (linV (S.1 3) (S.1 1 2) N))), some (.float FP.fconst0), none, none, none, none, none] rfl (by decide) rfl ?_
  refine q_iconst (pc := 48) 0 rfl (by decide) ?_
  refine q_istore (pc := 49) (j := 6) [some (.ref 0), some (.ref 70), some (.int x), some (.int (nI N)), some (.int (nI (linV (S.1 3) (S.1 1 2) N))), some (.float FP.fconst0), some (.int 0), none, none, none, none] rfl (by decide) rfl ?_
  refine q_iconst (pc := 51) 0 rfl (by decide) ?_
  refine q_istore (pc := 52) (j := 7) [some (.ref 0), some (.ref 70), some (.int x), some (.int (nI N)), some (.int (nI (linV (S.1 3) (S.1 1 2) N))), some (.float FP.fconst0), some (.int 0), some (.int 0), none, none, none] rfl (by decide) rfl ?_
  refine q_L (by rw [stk_0 hi hfo, be_0.2]; rfl) (lp_L_linesA (by decide) he hi hN hE hfo (fun f8 f9 f10 T hf => ?_) (linV (S.1 3) (S.1 1 2) N) 0 none none none _ (Nat.zero_add _) hf)
  refine q_iload (pc := 208) (j := 6) rfl rfl ?_
  refine q_iload_n (pc := 210) (j := 3) rfl rfl ?_
  refine q_icmp_ne (pc := 211) 226 rfl (by decide) (fun h9 => absurd h9 (fun q9 => q9 (by rw [stk_L]))) (fun _ => ?_)
  refine q_fload (pc := 214) (j := 5) rfl rfl ?_
  refine q_callS (pc := 216) (as := [.float (toV (S.1 3) (S.1 1 2) N (stK S N (linV (S.1 3) (S.1 1 2) N)))]) (rest := []) (st2 := [.int ((toV (S.1 3) (S.1 1 2) N (stK S N (linV (S.1 3) (S.1 1 2) N))).toInt32)]) rfl ce_Jxf58ca_floatToIntBits_5c35a ml_L_89 st_Jxf58ca_floatToIntBits_5c35a rfl (by decide) (Nat.le_of_ble_eq_true rfl) (sp_fbits (fF_nn hto)) rfl ?_
  refine q_aload_n (pc := 219) (j := 0) rfl rfl ?_
  refine q_callVG (pc := 220) (as := []) (rest := [.int ((toV (S.1 3) (S.1 1 2) N (stK S N (linV (S.1 3) (S.1 1 2) N))).toInt32)]) (b := 0) rfl ce_X8_total ml_L_72 im_X8_total se_X8_total he.1.1 rfl rfl rfl (by decide) (Nat.le_of_ble_eq_true rfl) (sp_X8_total he.1 (fl_iv hi hf)) (fun r9 S9 h9 => ?_)
  obtain ⟨rfl, hf⟩ := rd_totalY hf hfo h9
  refine q_icmp_eq (pc := 223) 228 rfl (by decide) (fun _ => ?_) (fun h9 => absurd (by rw [stk_L]; rfl) h9)
  refine q_fconst0 (pc := 228) rfl ?_
  refine q_fstore (pc := 229) (j := 7) [some (.ref 0), some (.ref 70), some (.int x), some (.int (nI N)), some (.int (nI (linV (S.1 3) (S.1 1 2) N))), some (.float (toV (S.1 3) (S.1 1 2) N (stK S N (linV (S.1 3) (S.1 1 2) N)))), some (.int (nI (stK S N (linV (S.1 3) (S.1 1 2) N)))), some (.float FP.fconst0), f8, f9, f10] rfl (by decide) rfl ?_
  refine q_iconst (pc := 231) 0 rfl (by decide) ?_
  refine q_istore (pc := 232) (j := 8) [some (.ref 0), some (.ref 70), some (.int x), some (.int (nI N)), some (.int (nI (linV (S.1 3) (S.1 1 2) N))), some (.float (toV (S.1 3) (S.1 1 2) N (stK S N (linV (S.1 3) (S.1 1 2) N)))), some (.int (nI (stK S N (linV (S.1 3) (S.1 1 2) N)))), some (.float FP.fconst0), some (.int 0), f9, f10] rfl (by decide) rfl ?_
  refine q_iconst (pc := 234) 1 rfl (by decide) ?_
  refine q_istore (pc := 235) (j := 9) [some (.ref 0), some (.ref 70), some (.int x), some (.int (nI N)), some (.int (nI (linV (S.1 3) (S.1 1 2) N))), some (.float (toV (S.1 3) (S.1 1 2) N (stK S N (linV (S.1 3) (S.1 1 2) N)))), some (.int (nI (stK S N (linV (S.1 3) (S.1 1 2) N)))), some (.float FP.fconst0), some (.int 0), some (.int 1), f10] rfl (by decide) rfl ?_
  refine q_iconst (pc := 237) 0 rfl (by decide) ?_
  refine q_istore (pc := 238) (j := 10) [some (.ref 0), some (.ref 70), some (.int x), some (.int (nI N)), some (.int (nI (linV (S.1 3) (S.1 1 2) N))), some (.float (toV (S.1 3) (S.1 1 2) N (stK S N (linV (S.1 3) (S.1 1 2) N)))), some (.int (nI (stK S N (linV (S.1 3) (S.1 1 2) N)))), some (.float FP.fconst0), some (.int 0), some (.int 1), some (.int 0)] rfl (by decide) rfl ?_
  exact q_L rfl (lp_L_linesB (by decide) he hi hN hE (show (toV (S.1 3) (S.1 1 2) N (stK S N (linV (S.1 3) (S.1 1 2) N))) = (totV (S.1 3) (S.1 1 2) N) from (by rw [stk_L]; rfl)) hto (fun T hf => ⟨rfl, hf⟩) N 0 FP.fconst0 0 true _ S9 (Nat.zero_add _) (Nat.le_refl _) (fun q9 => q9) oth_0 hf)
theorem sp_L_lines {sh : List PSh} {S : PSt} {N : Nat} (he : isLw sh) (hi : cIv S N) (hN : N ≤ 20) (hE : eOk S N) (h0 : 0 < N) {T0 : PSt} (hf : frL S T0) {x : Int32} : pG mL_lines 9 [.ref 0, .ref 70, .int x] sh T0 (fun r U => r = some (.int 1) ∧ frL S U) := by
  by_cases hfo : fouV (S.1 3) (S.1 1 2) N = true
  · exact sp_L_linesY he hi hN hE h0 hf hfo
  · exact sp_L_linesN he hi hN hE h0 hf hfo
