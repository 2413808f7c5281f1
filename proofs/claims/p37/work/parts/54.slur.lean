/-! the law's slur: written by wip/p37/gen/c54.py -/
def inkL (g : Nat → Int32) (up : Bool) (c : Nat) : Int32 := if up = true then topG g c else -(botG g c)
theorem inkL_V {g : Nat → Int32} {up : Bool} {c : Nat} : inkL g up c = inkV g up c := by
  unfold inkL inkV
  cases up
  · rw [if_neg (by decide), if_neg (by decide)]
    apply Int32.toInt_inj.mp
    rw [Int32.toInt_neg, Int32.toInt_sub, show (0 : Int32).toInt = 0 from rfl, Int.zero_sub]
  · rfl
def bwL (q k : Nat) : Int32 := if (2 : Int32) * (if nI q + 1 - nI (k + 1) < nI (k + 1) then nI q + 1 - nI (k + 1) else nI (k + 1)) < 6 then (2 : Int32) * (if nI q + 1 - nI (k + 1) < nI (k + 1) then nI q + 1 - nI (k + 1) else nI (k + 1)) else 6
theorem bw_all : ∀ q, q < 32 → ∀ k, k < q → (bwL q k = bowV q (k + 1) ∧ 0 ≤ (bowV q (k + 1)).toInt ∧ (bowV q (k + 1)).toInt ≤ 6) := by decide +kernel
def clE (g : Nat → Int32) (up : Bool) (a q : Nat) (h : Int32) (ls k : Nat) : Int32 := (if inkL g up a < inkL g up (a + (q + 1)) then inkL g up (a + (q + 1)) else inkL g up a) + h - nI ls + bwL q k
def clV (g : Nat → Int32) (up : Bool) (a q : Nat) (h : Int32) (ls : Nat) : Nat → Bool
  | 0 => true
  | k + 1 => clV g up a q h ls k && decide (inkL g up (a + (k + 1)) < clE g up a q h ls k)
section SLU
variable {g : Nat → Int32} {up : Bool} {a q N : Nat}
theorem ink_b {c : Nat} (hg : okG g N) (hc : c < N) : -40 ≤ (inkV g up c).toInt ∧ (inkV g up c).toInt ≤ 40 := by
  have h1 := top_b (hg c hc)
  have h2 := bot_b (hg c hc)
  unfold inkV
  cases up
  · rw [if_neg (by decide), i_sub (by decide) (by omega), show (0 : Int32).toInt = 0 from rfl]
    omega
  · rw [if_pos rfl]
    omega
theorem end_b (hg : okG g N) (hb : a + (q + 1) < N) : -40 ≤ (endV g up a (a + (q + 1))).toInt ∧ (endV g up a (a + (q + 1))).toInt ≤ 40 := by
  have h1 := ink_b (up := up) hg (show a < N by omega)
  have h2 := ink_b (up := up) hg hb
  unfold endV mxI
  split
  · exact h2
  · exact h1
def tmV (g : Nat → Int32) (up : Bool) (a q i : Nat) : Int32 := inkV g up (a + (i + 1)) + 1 - endV g up a (a + (q + 1)) - bowV q (i + 1)
theorem tm_t (hg : okG g N) (hb : a + (q + 1) < N) (hN : N ≤ 32) {i : Nat} (hi : i < q) : (tmV g up a q i).toInt = (inkV g up (a + (i + 1))).toInt + 1 - (endV g up a (a + (q + 1))).toInt - (bowV q (i + 1)).toInt ∧ (tmV g up a q i).toInt ≤ 100 := by
  have h1 := ink_b (up := up) hg (show a + (i + 1) < N by omega)
  have h2 := end_b (up := up) hg hb
  have h3 := bw_all q (by omega) i hi
  have c1 : (1 : Int32).toInt = 1 := by decide
  unfold tmV
  have e1 : (inkV g up (a + (i + 1)) + 1).toInt = (inkV g up (a + (i + 1))).toInt + 1 := by rw [i_add (by omega) (by omega), c1]
  have e2 : (inkV g up (a + (i + 1)) + 1 - endV g up a (a + (q + 1))).toInt = (inkV g up (a + (i + 1))).toInt + 1 - (endV g up a (a + (q + 1))).toInt := by rw [i_sub (by omega) (by omega), e1]
  rw [i_sub (by omega) (by omega), e2]
  omega
theorem slh_b (hg : okG g N) (hb : a + (q + 1) < N) (hN : N ≤ 32) : ∀ k, k ≤ q → 0 ≤ (slhV g up a (a + (q + 1)) k).toInt ∧ (slhV g up a (a + (q + 1)) k).toInt ≤ 100 ∧ (∀ i, i < k → (tmV g up a q i).toInt ≤ (slhV g up a (a + (q + 1)) k).toInt) ∧ (0 < (slhV g up a (a + (q + 1)) k).toInt → ∃ i, i < k ∧ (slhV g up a (a + (q + 1)) k).toInt = (tmV g up a q i).toInt) := by
  intro k
  induction k with
  | zero =>
    intro _
    have e : (slhV g up a (a + (q + 1)) 0).toInt = 0 := rfl
    rw [e]
    exact ⟨Int.le_refl _, by decide, fun i hi => absurd hi (Nat.not_lt_zero i), fun h => absurd h (by decide)⟩
  | succ k ih =>
    intro hk
    obtain ⟨i1, i2, i3, i4⟩ := ih (by omega)
    have ht := tm_t (up := up) hg hb hN (show k < q by omega)
    have e : slhV g up a (a + (q + 1)) (k + 1) = mxI (slhV g up a (a + (q + 1)) k) (tmV g up a q k) := by
      show mxI _ (inkV g up (a + (k + 1)) + 1 - endV g up a (a + (q + 1)) - bowV (a + (q + 1) - a - 1) (k + 1)) = _
      rw [show a + (q + 1) - a - 1 = q by omega]
      rfl
    rw [e]
    unfold mxI
    by_cases hl : slhV g up a (a + (q + 1)) k < tmV g up a q k
    · rw [if_pos hl]
      rw [Int32.lt_iff_toInt_lt] at hl
      refine ⟨by omega, ht.2, fun i hi => ?_, fun _ => ⟨k, by omega, rfl⟩⟩
      by_cases ei : i = k
      · subst ei; exact Int.le_refl _
      · have := i3 i (by omega); omega
    · rw [if_neg hl]
      rw [Int32.lt_iff_toInt_lt] at hl
      refine ⟨i1, i2, fun i hi => ?_, fun h => ?_⟩
      · by_cases ei : i = k
        · subst ei; omega
        · exact i3 i (by omega)
      · obtain ⟨i, j1, j2⟩ := i4 h
        exact ⟨i, by omega, j2⟩
theorem slu_q : sluV g up a (a + (q + 1)) = slhV g up a (a + (q + 1)) q := by
  unfold sluV
  rw [show a + (q + 1) - a - 1 = q by omega]
theorem cl_t (hg : okG g N) (hb : a + (q + 1) < N) (hN : N ≤ 32) {h : Int32} (h0 : 0 ≤ h.toInt) (h1 : h.toInt ≤ 100) {ls k : Nat} (hl : ls < 2) (hk : k < q) : (clE g up a q h ls k).toInt = (endV g up a (a + (q + 1))).toInt + h.toInt - ls + (bowV q (k + 1)).toInt := by
  have b1 := end_b (up := up) hg hb
  have b2 := bw_all q (by omega) k hk
  unfold clE
  rw [b2.1, inkL_V, inkL_V]
  show (endV g up a (a + (q + 1)) + h - nI ls + bowV q (k + 1)).toInt = _
  have e1 : (endV g up a (a + (q + 1)) + h).toInt = (endV g up a (a + (q + 1))).toInt + h.toInt := i_add (by omega) (by omega)
  have e2 : (nI ls).toInt = ls := nI_toInt (by omega)
  have e3 : (endV g up a (a + (q + 1)) + h - nI ls).toInt = (endV g up a (a + (q + 1))).toInt + h.toInt - ls := by rw [i_sub (by omega) (by omega), e1, e2]
  rw [i_add (by omega) (by omega), e3]
theorem cl_0 (hg : okG g N) (hb : a + (q + 1) < N) (hN : N ≤ 32) : ∀ k, k ≤ q → clV g up a q (sluV g up a (a + (q + 1))) 0 k = true := by
  obtain ⟨s1, s2, s3, s4⟩ := slh_b (up := up) hg hb hN q (Nat.le_refl q)
  rw [slu_q]
  intro k
  induction k with
  | zero => intro _; rfl
  | succ k ih =>
    intro hk
    have ht := tm_t (up := up) hg hb hN (show k < q by omega)
    have hc := cl_t (up := up) hg hb hN (h := slhV g up a (a + (q + 1)) q) s1 s2 (ls := 0) (by decide) (show k < q by omega)
    have h3 := s3 k (by omega)
    unfold clV
    rw [ih (by omega), Bool.true_and]
    refine decide_eq_true ?_
    rw [Int32.lt_iff_toInt_lt, hc, inkL_V]
    omega
theorem cl_f {h : Int32} {ls i : Nat} (hf : ¬ inkL g up (a + (i + 1)) < clE g up a q h ls i) : ∀ k, i < k → clV g up a q h ls k = false := by
  intro k
  induction k with
  | zero => intro h; omega
  | succ k ih =>
    intro hk
    unfold clV
    by_cases e : i = k
    · subst e; rw [decide_eq_false hf, Bool.and_false]
    · rw [ih (by omega), Bool.false_and]
theorem cl_1 (hg : okG g N) (hb : a + (q + 1) < N) (hN : N ≤ 32) (hp : ¬ sluV g up a (a + (q + 1)) ≤ 0) : clV g up a q (sluV g up a (a + (q + 1))) 1 q = false := by
  obtain ⟨s1, s2, s3, s4⟩ := slh_b (up := up) hg hb hN q (Nat.le_refl q)
  rw [slu_q] at hp ⊢
  rw [Int32.le_iff_toInt_le, show (0 : Int32).toInt = 0 from rfl] at hp
  obtain ⟨i, j1, j2⟩ := s4 (by omega)
  have ht := tm_t (up := up) hg hb hN j1
  have hc := cl_t (up := up) hg hb hN (h := slhV g up a (a + (q + 1)) q) s1 s2 (ls := 1) (by decide) j1
  refine cl_f (i := i) ?_ q j1
  rw [Int32.lt_iff_toInt_lt, hc, inkL_V]
  omega
theorem slu_r (hg : okG g N) (hb : a + (q + 1) < N) (hN : N ≤ 32) : 0 ≤ (sluV g up a (a + (q + 1))).toInt ∧ (sluV g up a (a + (q + 1))).toInt ≤ 100 := by
  obtain ⟨s1, s2, s3, s4⟩ := slh_b (up := up) hg hb hN q (Nat.le_refl q)
  rw [slu_q]
  exact ⟨s1, s2⟩
theorem pos_ne {x : Int32} (h : 0 ≤ x.toInt) : ¬ x = -2147483002 ∧ ¬ x < 0 := ⟨fun q9 => by rw [q9] at h; exact absurd h (by decide), fun q9 => by rw [Int32.lt_iff_toInt_lt] at q9; exact absurd h (by have : (0 : Int32).toInt = 0 := rfl; omega)⟩
end SLU
section SLR
variable {S T U : PSt} {N : Nat} {r : Option Value}
theorem rd_sluS (hi : cIv S N) (h : frL S T) {a m : Nat} {what : Int32} (hb : a + m < N) (hm : m < 2) (hw : pWi what 0 3 = true) (hp : pA (oSlur (T.1 3) N (nI a) (nI (a + m)) what) T T r U) : r = some (.int (-2147483003)) ∧ frL S U := by
  have hN := hi.2.1
  rw [oSlur, if_pos (isSt_nI hN (by omega) hb), if_pos hw, tN_nI (by omega), tN_nI (by omega), if_pos (by omega)] at hp
  exact rd_no h hp rfl (by decide)
theorem rd_slu (hi : cIv S N) (h : frL S T) {a q : Nat} {what : Int32} (hb : a + (q + 1) < N) (hq : 1 ≤ q) (hw : pWi what 0 3 = true) (hp : pA (oSlur (T.1 3) N (nI a) (nI (a + (q + 1))) what) T T r U) : pA (sluO (sluV (S.1 3) true a (a + (q + 1))) (sluV (S.1 3) false a (a + (q + 1))) what) T T r U := by
  have hN := hi.2.1
  rw [oSlur, if_pos (isSt_nI hN (by omega) hb), if_pos hw, tN_nI (by omega), tN_nI (by omega), if_neg (by omega), (fl_g h).1] at hp
  exact hp
/-- an answer or none -/
def orN (x : Int32) : Int32 := if pWi x 0 40 = true then x else -2147483002
theorem rd_orN (h : frL S T) {x : Int32} (hp : pA (if pWi x 0 40 = true then (0, x) else (2, 0)) T T r U) : r = some (.int (orN x)) ∧ frL S U := by
  unfold orN
  by_cases hx : pWi x 0 40 = true
  · rw [if_pos hx] at hp ⊢
    exact rd_ok h hp rfl
  · rw [if_neg hx] at hp ⊢
    exact rd_no h hp rfl (by decide)
end SLR
def sluR (S : PSt) (up : Bool) (a q : Nat) : Int32 := sluV (S.1 3) up a (a + (q + 1))
section SLR2
variable {S T U : PSt} {N : Nat} {r : Option Value} {a q : Nat}
theorem rd_slu2 (hi : cIv S N) (h : frL S T) (hb : a + (q + 1) < N) (hq : 1 ≤ q) (hp : pA (oSlur (T.1 3) N (nI a) (nI (a + (q + 1))) 2) T T r U) : r = some (.int (orN (sluR S true a q))) ∧ frL S U := rd_orN h (rd_slu hi h hb hq (by decide) hp)
theorem rd_slu3 (hi : cIv S N) (h : frL S T) (hb : a + (q + 1) < N) (hq : 1 ≤ q) (hp : pA (oSlur (T.1 3) N (nI a) (nI (a + (q + 1))) 3) T T r U) : r = some (.int (orN (sluR S false a q))) ∧ frL S U := rd_orN h (rd_slu hi h hb hq (by decide) hp)
theorem rd_slu1 (hi : cIv S N) (h : frL S T) (hb : a + (q + 1) < N) (hq : 1 ≤ q) {up : Bool} (hup : up = decide (¬ sluR S false a q < sluR S true a q)) (hp : pA (oSlur (T.1 3) N (nI a) (nI (a + (q + 1))) 1) T T r U) : r = some (.int (orN (sluR S up a q))) ∧ frL S U := by
  have h2 := rd_slu hi h hb hq (by decide) hp
  rw [show sluV (S.1 3) true a (a + (q + 1)) = sluR S true a q from rfl, show sluV (S.1 3) false a (a + (q + 1)) = sluR S false a q from rfl] at h2
  unfold sluO at h2
  rw [if_neg (by decide)] at h2
  by_cases hl : sluR S false a q < sluR S true a q
  · rw [if_neg (fun q9 => q9.elim (by decide) (fun q8 => q8.2 hl))] at h2
    rw [hup, decide_eq_false (fun q9 => q9 hl)]
    exact rd_orN h h2
  · rw [if_pos (Or.inr ⟨rfl, hl⟩)] at h2
    rw [hup, decide_eq_true hl]
    exact rd_orN h h2
theorem rd_slu0N (hi : cIv S N) (h : frL S T) (hb : a + (q + 1) < N) (hq : 1 ≤ q) (h1 : ¬ (pWi (sluR S true a q) 0 40 = true ∨ pWi (sluR S false a q) 0 40 = true)) (hp : pA (oSlur (T.1 3) N (nI a) (nI (a + (q + 1))) 0) T T r U) : r = some (.int (-2147483002)) ∧ frL S U := by
  have h2 := rd_slu hi h hb hq (by decide) hp
  rw [show sluV (S.1 3) true a (a + (q + 1)) = sluR S true a q from rfl, show sluV (S.1 3) false a (a + (q + 1)) = sluR S false a q from rfl] at h2
  unfold sluO at h2
  rw [if_pos rfl, if_neg h1] at h2
  exact rd_no h h2 rfl (by decide)
theorem rd_slu0 (hi : cIv S N) (h : frL S T) (hb : a + (q + 1) < N) (hq : 1 ≤ q) (h1 : pWi (sluR S true a q) 0 40 = true ∨ pWi (sluR S false a q) 0 40 = true) {s : Int32} (hs : (if sluR S false a q < sluR S true a q then (1 : Int32) else 0) = s) (hp : pA (oSlur (T.1 3) N (nI a) (nI (a + (q + 1))) 0) T T r U) : r = some (.int s) ∧ frL S U := by
  have h2 := rd_slu hi h hb hq (by decide) hp
  rw [show sluV (S.1 3) true a (a + (q + 1)) = sluR S true a q from rfl, show sluV (S.1 3) false a (a + (q + 1)) = sluR S false a q from rfl] at h2
  unfold sluO at h2
  rw [if_pos rfl, if_pos h1, hs] at h2
  exact rd_ok h h2 rfl
theorem rk_of5 (hi : cIv S N) (h : frL S T) {c : Nat} (h3 : c < N) (hp : pA (oOf (T.1 3) N (nI c) 5) T T r U) : r = some (.int (topG (S.1 3) c)) ∧ frL S U := rd_of5 hi h h3 hp
theorem orN_p {x : Int32} (h : pWi x 0 40 = true) : orN x = x := if_pos h
theorem orN_n {x : Int32} (h : ¬ pWi x 0 40 = true) : orN x = -2147483002 := if_neg h
theorem pWi_40 {x : Int32} (h : 0 ≤ x.toInt) : pWi x 0 40 = true ↔ x.toInt ≤ 40 := by
  unfold pWi
  rw [decide_eq_true_iff, show (40 : Int32).toInt = 40 from rfl, show (0 : Int32).toInt = 0 from rfl]
  exact ⟨fun q9 => q9.2, fun q9 => ⟨h, q9⟩⟩
end SLR2
set_option maxRecDepth 100000 in
theorem lp_L_slur0 {n0 : Nat} {X : Nat × (Nat → Int32)} {P : Option Value → PSt → Prop} {d : Nat} (hd9 : 3 ≤ d) {sh : List PSh} {S : PSt} {N : Nat} (he : isLw sh) (hi : cIv S N) (hN : N ≤ 20) {a q : Nat} (hb : a + (q + 1) < N) (hq : 1 ≤ q) {h ot : Int32} {ls : Nat}  (hex : ∀ f10 f11 f12 T, frL S T → pV mL_slur d n0 X sh P 294 [some (.ref 0), some (.int (nI a)), some (.int (nI (a + (q + 1)))), some (.int 0), some (.int h), some (.int ot), some (.int (nI ls)), some (.int (pB (clV (S.1 3) true a q h ls q))), some (.int (nI q)), some (.int (nI (q + 1))), f10, f11, f12] [] T) : ∀ (m9 k : Nat) (f10 : Option Value) (f11 : Option Value) (f12 : Option Value) (T : PSt), k + m9 = q → frL S T → pV mL_slur d n0 X sh P 156 [some (.ref 0), some (.int (nI a)), some (.int (nI (a + (q + 1)))), some (.int 0), some (.int h), some (.int ot), some (.int (nI ls)), some (.int (pB (clV (S.1 3) true a q h ls k))), some (.int (nI q)), some (.int (nI (k + 1))), f10, f11, f12] [] T := by
  intro m9
  induction m9 with
  | zero =>
    intro k f10 f11 f12 T hk hf
    have hk9 : q = k := by omega
    subst hk9
    refine q_iload (pc := 156) (j := 9) rfl rfl ?_
    refine q_iload (pc := 158) (j := 8) rfl rfl ?_
    refine q_icmp_gt (pc := 160) 294 rfl (by decide) (fun _ => ?_) (fun h9 => absurd (nI_lt (by omega) (by omega)) h9)
    exact hex _ _ _ _ hf
  | succ m9 ih =>
    intro k f10 f11 f12 T hk hf
    have hk1 : k < q := by omega
    have hk2 : k < q := hk1
    refine q_iload (pc := 156) (j := 9) rfl rfl ?_
    refine q_iload (pc := 158) (j := 8) rfl rfl ?_
    refine q_icmp_gt (pc := 160) 294 rfl (by decide) (fun h9 => absurd h9 (nI_nlt (by omega) (by omega))) (fun _ => ?_)
    refine q_iload_n (pc := 163) (j := 3) rfl rfl ?_
    refine q_if_ne (pc := 164) 176 rfl (by decide) (fun h9 => absurd h9 (by decide : ¬ ¬ (0 : Int32) = 0)) (fun _ => ?_)
    refine q_aload_n (pc := 167) (j := 0) rfl rfl ?_
    refine q_iload_n (pc := 168) (j := 1) rfl rfl ?_
    refine q_iconst (pc := 169) 5 rfl (by decide) ?_
    refine q_callVG (pc := 170) (as := [.int (nI a), .int 5]) (rest := []) (b := 0) rfl ce_X8_of ml_L_118 im_X8_of se_X8_of he.1.1 rfl rfl rfl (by omega) (Nat.le_of_ble_eq_true rfl) (sp_X8_of he.1 (fl_iv hi hf)) (fun r9 S9 h9 => ?_)
    obtain ⟨rfl, hf⟩ := rd_of5 hi hf (c := a) (by omega) h9
    refine q_goto (pc := 173) 184 rfl (by decide) ?_
    refine q_st (st2 := [.int (inkL (S.1 3) true (a))]) (by rw [show (topG (S.1 3) (a)) = (inkL (S.1 3) true (a)) from rfl]; try rfl) ?_
    refine q_istore (pc := 184) (j := 10) [some (.ref 0), some (.int (nI a)), some (.int (nI (a + (q + 1)))), some (.int 0), some (.int h), some (.int ot), some (.int (nI ls)), some (.int (pB (clV (S.1 3) true a q h ls k))), some (.int (nI q)), some (.int (nI (k + 1))), some (.int (inkL (S.1 3) true (a))), f11, f12] rfl (by decide) rfl ?_
    refine q_iload_n (pc := 186) (j := 3) rfl rfl ?_
    refine q_if_ne (pc := 187) 199 rfl (by decide) (fun h9 => absurd h9 (by decide : ¬ ¬ (0 : Int32) = 0)) (fun _ => ?_)
    refine q_aload_n (pc := 190) (j := 0) rfl rfl ?_
    refine q_iload_n (pc := 191) (j := 2) rfl rfl ?_
    refine q_iconst (pc := 192) 5 rfl (by decide) ?_
    refine q_callVG (pc := 193) (as := [.int (nI (a + (q + 1))), .int 5]) (rest := []) (b := 0) rfl ce_X8_of ml_L_118 im_X8_of se_X8_of he.1.1 rfl rfl rfl (by omega) (Nat.le_of_ble_eq_true rfl) (sp_X8_of he.1 (fl_iv hi hf)) (fun r9 S9 h9 => ?_)
    obtain ⟨rfl, hf⟩ := rd_of5 hi hf (c := a + (q + 1)) (by omega) h9
    refine q_goto (pc := 196) 207 rfl (by decide) ?_
    refine q_st (st2 := [.int (inkL (S.1 3) true (a + (q + 1)))]) (by rw [show (topG (S.1 3) (a + (q + 1))) = (inkL (S.1 3) true (a + (q + 1))) from rfl]; try rfl) ?_
    refine q_istore (pc := 207) (j := 11) [some (.ref 0), some (.int (nI a)), some (.int (nI (a + (q + 1)))), some (.int 0), some (.int h), some (.int ot), some (.int (nI ls)), some (.int (pB (clV (S.1 3) true a q h ls k))), some (.int (nI q)), some (.int (nI (k + 1))), some (.int (inkL (S.1 3) true (a))), some (.int (inkL (S.1 3) true (a + (q + 1)))), f12] rfl (by decide) rfl ?_
    refine q_iload_n (pc := 209) (j := 3) rfl rfl ?_
    refine q_if_ne (pc := 210) 225 rfl (by decide) (fun h9 => absurd h9 (by decide : ¬ ¬ (0 : Int32) = 0)) (fun _ => ?_)
    refine q_aload_n (pc := 213) (j := 0) rfl rfl ?_
    refine q_iload_n (pc := 214) (j := 1) rfl rfl ?_
    refine q_iload (pc := 215) (j := 9) rfl rfl ?_
    refine q_iadd (pc := 217) rfl ?_
    refine q_st (st2 := [.int (nI (a + (k + 1))), .ref 0]) (by rw [nI_add a (k + 1)]; try rfl) ?_
    refine q_iconst (pc := 218) 5 rfl (by decide) ?_
    refine q_callVG (pc := 219) (as := [.int (nI (a + (k + 1))), .int 5]) (rest := []) (b := 0) rfl ce_X8_of ml_L_118 im_X8_of se_X8_of he.1.1 rfl rfl rfl (by omega) (Nat.le_of_ble_eq_true rfl) (sp_X8_of he.1 (fl_iv hi hf)) (fun r9 S9 h9 => ?_)
    obtain ⟨rfl, hf⟩ := rd_of5 hi hf (c := a + (k + 1)) (by omega) h9
    refine q_goto (pc := 222) 236 rfl (by decide) ?_
    refine q_st (st2 := [.int (inkL (S.1 3) true (a + (k + 1)))]) (by rw [show (topG (S.1 3) (a + (k + 1))) = (inkL (S.1 3) true (a + (k + 1))) from rfl]; try rfl) ?_
    refine q_istore (pc := 236) (j := 12) [some (.ref 0), some (.int (nI a)), some (.int (nI (a + (q + 1)))), some (.int 0), some (.int h), some (.int ot), some (.int (nI ls)), some (.int (pB (clV (S.1 3) true a q h ls k))), some (.int (nI q)), some (.int (nI (k + 1))), some (.int (inkL (S.1 3) true (a))), some (.int (inkL (S.1 3) true (a + (q + 1)))), some (.int (inkL (S.1 3) true (a + (k + 1))))] rfl (by decide) rfl ?_
    rcases Bool.eq_false_or_eq_true (clV (S.1 3) true a q h ls k) with hcl | hcl
    · refine q_iload (pc := 238) (j := 7) rfl rfl ?_
      refine q_if_eq (pc := 240) 285 rfl (by decide) (fun h9 => absurd h9 (by rw [hcl]; decide)) (fun _ => ?_)
      refine q_iload (pc := 243) (j := 10) rfl rfl ?_
      refine q_iload (pc := 245) (j := 11) rfl rfl ?_
      refine q_max (pc := 247) rfl ml_L_96 (by omega) (Nat.le_of_ble_eq_true rfl) ?_
      refine q_iload (pc := 250) (j := 4) rfl rfl ?_
      refine q_iadd (pc := 252) rfl ?_
      refine q_iload (pc := 253) (j := 6) rfl rfl ?_
      refine q_isub (pc := 255) rfl ?_
      refine q_bipush (pc := 256) 6 rfl (by decide) ?_
      refine q_iconst (pc := 258) 2 rfl (by decide) ?_
      refine q_iload (pc := 259) (j := 9) rfl rfl ?_
      refine q_iload (pc := 261) (j := 8) rfl rfl ?_
      refine q_iconst (pc := 263) 1 rfl (by decide) ?_
      refine q_iadd (pc := 264) rfl ?_
      refine q_iload (pc := 265) (j := 9) rfl rfl ?_
      refine q_isub (pc := 267) rfl ?_
      refine q_min (pc := 268) rfl ml_L_121 (by omega) (Nat.le_of_ble_eq_true rfl) ?_
      refine q_imul (pc := 271) rfl ?_
      refine q_min (pc := 272) rfl ml_L_121 (by omega) (Nat.le_of_ble_eq_true rfl) ?_
      refine q_iadd (pc := 275) rfl ?_
      refine q_st (st2 := [.int (clE (S.1 3) true a q h ls k)]) (by rw [show ((((if (inkL (S.1 3) true (a)) < (inkL (S.1 3) true (a + (q + 1))) then (inkL (S.1 3) true (a + (q + 1))) else (inkL (S.1 3) true (a))) + h) - (nI ls)) + (if (2 * (if (((nI q) + 1) - (nI (k + 1))) < (nI (k + 1)) then (((nI q) + 1) - (nI (k + 1))) else (nI (k + 1)))) < 6 then (2 * (if (((nI q) + 1) - (nI (k + 1))) < (nI (k + 1)) then (((nI q) + 1) - (nI (k + 1))) else (nI (k + 1)))) else 6)) = (clE (S.1 3) true a q h ls k) from rfl]; try rfl) ?_
      refine q_iload (pc := 276) (j := 12) rfl rfl ?_
      refine q_icmp_le (pc := 278) 285 rfl (by decide) (fun h278 => ?_) (fun h278 => ?_)
      · refine q_iconst (pc := 285) 0 rfl (by decide) ?_
        refine q_istore (pc := 286) (j := 7) [some (.ref 0), some (.int (nI a)), some (.int (nI (a + (q + 1)))), some (.int 0), some (.int h), some (.int ot), some (.int (nI ls)), some (.int 0), some (.int (nI q)), some (.int (nI (k + 1))), some (.int (inkL (S.1 3) true (a))), some (.int (inkL (S.1 3) true (a + (q + 1)))), some (.int (inkL (S.1 3) true (a + (k + 1))))] rfl (by decide) rfl ?_
        refine q_iinc (pc := 288) (j := 9) (n := 1) (nI (k + 1 + 1)) [some (.ref 0), some (.int (nI a)), some (.int (nI (a + (q + 1)))), some (.int 0), some (.int h), some (.int ot), some (.int (nI ls)), some (.int 0), some (.int (nI q)), some (.int (nI (k + 1 + 1))), some (.int (inkL (S.1 3) true (a))), some (.int (inkL (S.1 3) true (a + (q + 1)))), some (.int (inkL (S.1 3) true (a + (k + 1))))] rfl (by decide) rfl (nI_1 (k + 1)) rfl ?_
        refine q_goto (pc := 291) 156 rfl (by decide) ?_
        exact q_L (by rw [show (clV (S.1 3) true a q h ls (k + 1)) = false from (by unfold clV; rw [hcl, Bool.true_and]; exact decide_eq_false (Int32.not_lt.mpr h278))]; rfl) (ih (k + 1) (some (.int (inkL (S.1 3) true (a)))) (some (.int (inkL (S.1 3) true (a + (q + 1))))) (some (.int (inkL (S.1 3) true (a + (k + 1))))) S9 (by omega) hf)
      · refine q_iconst (pc := 281) 1 rfl (by decide) ?_
        refine q_goto (pc := 282) 286 rfl (by decide) ?_
        refine q_istore (pc := 286) (j := 7) [some (.ref 0), some (.int (nI a)), some (.int (nI (a + (q + 1)))), some (.int 0), some (.int h), some (.int ot), some (.int (nI ls)), some (.int 1), some (.int (nI q)), some (.int (nI (k + 1))), some (.int (inkL (S.1 3) true (a))), some (.int (inkL (S.1 3) true (a + (q + 1)))), some (.int (inkL (S.1 3) true (a + (k + 1))))] rfl (by decide) rfl ?_
        refine q_iinc (pc := 288) (j := 9) (n := 1) (nI (k + 1 + 1)) [some (.ref 0), some (.int (nI a)), some (.int (nI (a + (q + 1)))), some (.int 0), some (.int h), some (.int ot), some (.int (nI ls)), some (.int 1), some (.int (nI q)), some (.int (nI (k + 1 + 1))), some (.int (inkL (S.1 3) true (a))), some (.int (inkL (S.1 3) true (a + (q + 1)))), some (.int (inkL (S.1 3) true (a + (k + 1))))] rfl (by decide) rfl (nI_1 (k + 1)) rfl ?_
        refine q_goto (pc := 291) 156 rfl (by decide) ?_
        exact q_L (by rw [show (clV (S.1 3) true a q h ls (k + 1)) = true from (by unfold clV; rw [hcl, Bool.true_and]; exact decide_eq_true (Int32.not_le.mp h278))]; rfl) (ih (k + 1) (some (.int (inkL (S.1 3) true (a)))) (some (.int (inkL (S.1 3) true (a + (q + 1))))) (some (.int (inkL (S.1 3) true (a + (k + 1))))) S9 (by omega) hf)
    · refine q_iload (pc := 238) (j := 7) rfl rfl ?_
      refine q_if_eq (pc := 240) 285 rfl (by decide) (fun _ => ?_) (fun h9 => absurd (by rw [hcl]; rfl) h9)
      refine q_iconst (pc := 285) 0 rfl (by decide) ?_
      refine q_istore (pc := 286) (j := 7) [some (.ref 0), some (.int (nI a)), some (.int (nI (a + (q + 1)))), some (.int 0), some (.int h), some (.int ot), some (.int (nI ls)), some (.int 0), some (.int (nI q)), some (.int (nI (k + 1))), some (.int (inkL (S.1 3) true (a))), some (.int (inkL (S.1 3) true (a + (q + 1)))), some (.int (inkL (S.1 3) true (a + (k + 1))))] rfl (by decide) rfl ?_
      refine q_iinc (pc := 288) (j := 9) (n := 1) (nI (k + 1 + 1)) [some (.ref 0), some (.int (nI a)), some (.int (nI (a + (q + 1)))), some (.int 0), some (.int h), some (.int ot), some (.int (nI ls)), some (.int 0), some (.int (nI q)), some (.int (nI (k + 1 + 1))), some (.int (inkL (S.1 3) true (a))), some (.int (inkL (S.1 3) true (a + (q + 1)))), some (.int (inkL (S.1 3) true (a + (k + 1))))] rfl (by decide) rfl (nI_1 (k + 1)) rfl ?_
      refine q_goto (pc := 291) 156 rfl (by decide) ?_
      exact q_L (by rw [show (clV (S.1 3) true a q h ls (k + 1)) = false from (by unfold clV; rw [hcl, Bool.false_and])]; rfl) (ih (k + 1) (some (.int (inkL (S.1 3) true (a)))) (some (.int (inkL (S.1 3) true (a + (q + 1))))) (some (.int (inkL (S.1 3) true (a + (k + 1))))) S9 (by omega) hf)
set_option maxRecDepth 100000 in
theorem lp_L_slur1 {n0 : Nat} {X : Nat × (Nat → Int32)} {P : Option Value → PSt → Prop} {d : Nat} (hd9 : 3 ≤ d) {sh : List PSh} {S : PSt} {N : Nat} (he : isLw sh) (hi : cIv S N) (hN : N ≤ 20) {a q : Nat} (hb : a + (q + 1) < N) (hq : 1 ≤ q) {h ot : Int32} {ls : Nat}  (hex : ∀ f10 f11 f12 T, frL S T → pV mL_slur d n0 X sh P 294 [some (.ref 0), some (.int (nI a)), some (.int (nI (a + (q + 1)))), some (.int 1), some (.int h), some (.int ot), some (.int (nI ls)), some (.int (pB (clV (S.1 3) false a q h ls q))), some (.int (nI q)), some (.int (nI (q + 1))), f10, f11, f12] [] T) : ∀ (m9 k : Nat) (f10 : Option Value) (f11 : Option Value) (f12 : Option Value) (T : PSt), k + m9 = q → frL S T → pV mL_slur d n0 X sh P 156 [some (.ref 0), some (.int (nI a)), some (.int (nI (a + (q + 1)))), some (.int 1), some (.int h), some (.int ot), some (.int (nI ls)), some (.int (pB (clV (S.1 3) false a q h ls k))), some (.int (nI q)), some (.int (nI (k + 1))), f10, f11, f12] [] T := by
  intro m9
  induction m9 with
  | zero =>
    intro k f10 f11 f12 T hk hf
    have hk9 : q = k := by omega
    subst hk9
    refine q_iload (pc := 156) (j := 9) rfl rfl ?_
    refine q_iload (pc := 158) (j := 8) rfl rfl ?_
    refine q_icmp_gt (pc := 160) 294 rfl (by decide) (fun _ => ?_) (fun h9 => absurd (nI_lt (by omega) (by omega)) h9)
    exact hex _ _ _ _ hf
  | succ m9 ih =>
    intro k f10 f11 f12 T hk hf
    have hk1 : k < q := by omega
    have hk2 : k < q := hk1
    refine q_iload (pc := 156) (j := 9) rfl rfl ?_
    refine q_iload (pc := 158) (j := 8) rfl rfl ?_
    refine q_icmp_gt (pc := 160) 294 rfl (by decide) (fun h9 => absurd h9 (nI_nlt (by omega) (by omega))) (fun _ => ?_)
    refine q_iload_n (pc := 163) (j := 3) rfl rfl ?_
    refine q_if_ne (pc := 164) 176 rfl (by decide) (fun _ => ?_) (fun h9 => absurd h9 (by decide : (1 : Int32) = 0 → False))
    refine q_aload_n (pc := 176) (j := 0) rfl rfl ?_
    refine q_iload_n (pc := 177) (j := 1) rfl rfl ?_
    refine q_bipush (pc := 178) 6 rfl (by decide) ?_
    refine q_callVG (pc := 180) (as := [.int (nI a), .int 6]) (rest := []) (b := 0) rfl ce_X8_of ml_L_118 im_X8_of se_X8_of he.1.1 rfl rfl rfl (by omega) (Nat.le_of_ble_eq_true rfl) (sp_X8_of he.1 (fl_iv hi hf)) (fun r9 S9 h9 => ?_)
    obtain ⟨rfl, hf⟩ := rd_of6 hi hf (c := a) (by omega) h9
    refine q_ineg (pc := 183) rfl ?_
    refine q_st (st2 := [.int (inkL (S.1 3) false (a))]) (by rw [show (-(botG (S.1 3) (a))) = (inkL (S.1 3) false (a)) from rfl]; try rfl) ?_
    refine q_istore (pc := 184) (j := 10) [some (.ref 0), some (.int (nI a)), some (.int (nI (a + (q + 1)))), some (.int 1), some (.int h), some (.int ot), some (.int (nI ls)), some (.int (pB (clV (S.1 3) false a q h ls k))), some (.int (nI q)), some (.int (nI (k + 1))), some (.int (inkL (S.1 3) false (a))), f11, f12] rfl (by decide) rfl ?_
    refine q_iload_n (pc := 186) (j := 3) rfl rfl ?_
    refine q_if_ne (pc := 187) 199 rfl (by decide) (fun _ => ?_) (fun h9 => absurd h9 (by decide : (1 : Int32) = 0 → False))
    refine q_aload_n (pc := 199) (j := 0) rfl rfl ?_
    refine q_iload_n (pc := 200) (j := 2) rfl rfl ?_
    refine q_bipush (pc := 201) 6 rfl (by decide) ?_
    refine q_callVG (pc := 203) (as := [.int (nI (a + (q + 1))), .int 6]) (rest := []) (b := 0) rfl ce_X8_of ml_L_118 im_X8_of se_X8_of he.1.1 rfl rfl rfl (by omega) (Nat.le_of_ble_eq_true rfl) (sp_X8_of he.1 (fl_iv hi hf)) (fun r9 S9 h9 => ?_)
    obtain ⟨rfl, hf⟩ := rd_of6 hi hf (c := a + (q + 1)) (by omega) h9
    refine q_ineg (pc := 206) rfl ?_
    refine q_st (st2 := [.int (inkL (S.1 3) false (a + (q + 1)))]) (by rw [show (-(botG (S.1 3) (a + (q + 1)))) = (inkL (S.1 3) false (a + (q + 1))) from rfl]; try rfl) ?_
    refine q_istore (pc := 207) (j := 11) [some (.ref 0), some (.int (nI a)), some (.int (nI (a + (q + 1)))), some (.int 1), some (.int h), some (.int ot), some (.int (nI ls)), some (.int (pB (clV (S.1 3) false a q h ls k))), some (.int (nI q)), some (.int (nI (k + 1))), some (.int (inkL (S.1 3) false (a))), some (.int (inkL (S.1 3) false (a + (q + 1)))), f12] rfl (by decide) rfl ?_
    refine q_iload_n (pc := 209) (j := 3) rfl rfl ?_
    refine q_if_ne (pc := 210) 225 rfl (by decide) (fun _ => ?_) (fun h9 => absurd h9 (by decide : (1 : Int32) = 0 → False))
    refine q_aload_n (pc := 225) (j := 0) rfl rfl ?_
    refine q_iload_n (pc := 226) (j := 1) rfl rfl ?_
    refine q_iload (pc := 227) (j := 9) rfl rfl ?_
    refine q_iadd (pc := 229) rfl ?_
    refine q_st (st2 := [.int (nI (a + (k + 1))), .ref 0]) (by rw [nI_add a (k + 1)]; try rfl) ?_
    refine q_bipush (pc := 230) 6 rfl (by decide) ?_
    refine q_callVG (pc := 232) (as := [.int (nI (a + (k + 1))), .int 6]) (rest := []) (b := 0) rfl ce_X8_of ml_L_118 im_X8_of se_X8_of he.1.1 rfl rfl rfl (by omega) (Nat.le_of_ble_eq_true rfl) (sp_X8_of he.1 (fl_iv hi hf)) (fun r9 S9 h9 => ?_)
    obtain ⟨rfl, hf⟩ := rd_of6 hi hf (c := a + (k + 1)) (by omega) h9
    refine q_ineg (pc := 235) rfl ?_
    refine q_st (st2 := [.int (inkL (S.1 3) false (a + (k + 1)))]) (by rw [show (-(botG (S.1 3) (a + (k + 1)))) = (inkL (S.1 3) false (a + (k + 1))) from rfl]; try rfl) ?_
    refine q_istore (pc := 236) (j := 12) [some (.ref 0), some (.int (nI a)), some (.int (nI (a + (q + 1)))), some (.int 1), some (.int h), some (.int ot), some (.int (nI ls)), some (.int (pB (clV (S.1 3) false a q h ls k))), some (.int (nI q)), some (.int (nI (k + 1))), some (.int (inkL (S.1 3) false (a))), some (.int (inkL (S.1 3) false (a + (q + 1)))), some (.int (inkL (S.1 3) false (a + (k + 1))))] rfl (by decide) rfl ?_
    rcases Bool.eq_false_or_eq_true (clV (S.1 3) false a q h ls k) with hcl | hcl
    · refine q_iload (pc := 238) (j := 7) rfl rfl ?_
      refine q_if_eq (pc := 240) 285 rfl (by decide) (fun h9 => absurd h9 (by rw [hcl]; decide)) (fun _ => ?_)
      refine q_iload (pc := 243) (j := 10) rfl rfl ?_
      refine q_iload (pc := 245) (j := 11) rfl rfl ?_
      refine q_max (pc := 247) rfl ml_L_96 (by omega) (Nat.le_of_ble_eq_true rfl) ?_
      refine q_iload (pc := 250) (j := 4) rfl rfl ?_
      refine q_iadd (pc := 252) rfl ?_
      refine q_iload (pc := 253) (j := 6) rfl rfl ?_
      refine q_isub (pc := 255) rfl ?_
      refine q_bipush (pc := 256) 6 rfl (by decide) ?_
      refine q_iconst (pc := 258) 2 rfl (by decide) ?_
      refine q_iload (pc := 259) (j := 9) rfl rfl ?_
      refine q_iload (pc := 261) (j := 8) rfl rfl ?_
      refine q_iconst (pc := 263) 1 rfl (by decide) ?_
      refine q_iadd (pc := 264) rfl ?_
      refine q_iload (pc := 265) (j := 9) rfl rfl ?_
      refine q_isub (pc := 267) rfl ?_
      refine q_min (pc := 268) rfl ml_L_121 (by omega) (Nat.le_of_ble_eq_true rfl) ?_
      refine q_imul (pc := 271) rfl ?_
      refine q_min (pc := 272) rfl ml_L_121 (by omega) (Nat.le_of_ble_eq_true rfl) ?_
      refine q_iadd (pc := 275) rfl ?_
      refine q_st (st2 := [.int (clE (S.1 3) false a q h ls k)]) (by rw [show ((((if (inkL (S.1 3) false (a)) < (inkL (S.1 3) false (a + (q + 1))) then (inkL (S.1 3) false (a + (q + 1))) else (inkL (S.1 3) false (a))) + h) - (nI ls)) + (if (2 * (if (((nI q) + 1) - (nI (k + 1))) < (nI (k + 1)) then (((nI q) + 1) - (nI (k + 1))) else (nI (k + 1)))) < 6 then (2 * (if (((nI q) + 1) - (nI (k + 1))) < (nI (k + 1)) then (((nI q) + 1) - (nI (k + 1))) else (nI (k + 1)))) else 6)) = (clE (S.1 3) false a q h ls k) from rfl]; try rfl) ?_
      refine q_iload (pc := 276) (j := 12) rfl rfl ?_
      refine q_icmp_le (pc := 278) 285 rfl (by decide) (fun h278 => ?_) (fun h278 => ?_)
      · refine q_iconst (pc := 285) 0 rfl (by decide) ?_
        refine q_istore (pc := 286) (j := 7) [some (.ref 0), some (.int (nI a)), some (.int (nI (a + (q + 1)))), some (.int 1), some (.int h), some (.int ot), some (.int (nI ls)), some (.int 0), some (.int (nI q)), some (.int (nI (k + 1))), some (.int (inkL (S.1 3) false (a))), some (.int (inkL (S.1 3) false (a + (q + 1)))), some (.int (inkL (S.1 3) false (a + (k + 1))))] rfl (by decide) rfl ?_
        refine q_iinc (pc := 288) (j := 9) (n := 1) (nI (k + 1 + 1)) [some (.ref 0), some (.int (nI a)), some (.int (nI (a + (q + 1)))), some (.int 1), some (.int h), some (.int ot), some (.int (nI ls)), some (.int 0), some (.int (nI q)), some (.int (nI (k + 1 + 1))), some (.int (inkL (S.1 3) false (a))), some (.int (inkL (S.1 3) false (a + (q + 1)))), some (.int (inkL (S.1 3) false (a + (k + 1))))] rfl (by decide) rfl (nI_1 (k + 1)) rfl ?_
        refine q_goto (pc := 291) 156 rfl (by decide) ?_
        exact q_L (by rw [show (clV (S.1 3) false a q h ls (k + 1)) = false from (by unfold clV; rw [hcl, Bool.true_and]; exact decide_eq_false (Int32.not_lt.mpr h278))]; rfl) (ih (k + 1) (some (.int (inkL (S.1 3) false (a)))) (some (.int (inkL (S.1 3) false (a + (q + 1))))) (some (.int (inkL (S.1 3) false (a + (k + 1))))) S9 (by omega) hf)
      · refine q_iconst (pc := 281) 1 rfl (by decide) ?_
        refine q_goto (pc := 282) 286 rfl (by decide) ?_
        refine q_istore (pc := 286) (j := 7) [some (.ref 0), some (.int (nI a)), some (.int (nI (a + (q + 1)))), some (.int 1), some (.int h), some (.int ot), some (.int (nI ls)), some (.int 1), some (.int (nI q)), some (.int (nI (k + 1))), some (.int (inkL (S.1 3) false (a))), some (.int (inkL (S.1 3) false (a + (q + 1)))), some (.int (inkL (S.1 3) false (a + (k + 1))))] rfl (by decide) rfl ?_
        refine q_iinc (pc := 288) (j := 9) (n := 1) (nI (k + 1 + 1)) [some (.ref 0), some (.int (nI a)), some (.int (nI (a + (q + 1)))), some (.int 1), some (.int h), some (.int ot), some (.int (nI ls)), some (.int 1), some (.int (nI q)), some (.int (nI (k + 1 + 1))), some (.int (inkL (S.1 3) false (a))), some (.int (inkL (S.1 3) false (a + (q + 1)))), some (.int (inkL (S.1 3) false (a + (k + 1))))] rfl (by decide) rfl (nI_1 (k + 1)) rfl ?_
        refine q_goto (pc := 291) 156 rfl (by decide) ?_
        exact q_L (by rw [show (clV (S.1 3) false a q h ls (k + 1)) = true from (by unfold clV; rw [hcl, Bool.true_and]; exact decide_eq_true (Int32.not_le.mp h278))]; rfl) (ih (k + 1) (some (.int (inkL (S.1 3) false (a)))) (some (.int (inkL (S.1 3) false (a + (q + 1))))) (some (.int (inkL (S.1 3) false (a + (k + 1))))) S9 (by omega) hf)
    · refine q_iload (pc := 238) (j := 7) rfl rfl ?_
      refine q_if_eq (pc := 240) 285 rfl (by decide) (fun _ => ?_) (fun h9 => absurd (by rw [hcl]; rfl) h9)
      refine q_iconst (pc := 285) 0 rfl (by decide) ?_
      refine q_istore (pc := 286) (j := 7) [some (.ref 0), some (.int (nI a)), some (.int (nI (a + (q + 1)))), some (.int 1), some (.int h), some (.int ot), some (.int (nI ls)), some (.int 0), some (.int (nI q)), some (.int (nI (k + 1))), some (.int (inkL (S.1 3) false (a))), some (.int (inkL (S.1 3) false (a + (q + 1)))), some (.int (inkL (S.1 3) false (a + (k + 1))))] rfl (by decide) rfl ?_
      refine q_iinc (pc := 288) (j := 9) (n := 1) (nI (k + 1 + 1)) [some (.ref 0), some (.int (nI a)), some (.int (nI (a + (q + 1)))), some (.int 1), some (.int h), some (.int ot), some (.int (nI ls)), some (.int 0), some (.int (nI q)), some (.int (nI (k + 1 + 1))), some (.int (inkL (S.1 3) false (a))), some (.int (inkL (S.1 3) false (a + (q + 1)))), some (.int (inkL (S.1 3) false (a + (k + 1))))] rfl (by decide) rfl (nI_1 (k + 1)) rfl ?_
      refine q_goto (pc := 291) 156 rfl (by decide) ?_
      exact q_L (by rw [show (clV (S.1 3) false a q h ls (k + 1)) = false from (by unfold clV; rw [hcl, Bool.false_and])]; rfl) (ih (k + 1) (some (.int (inkL (S.1 3) false (a)))) (some (.int (inkL (S.1 3) false (a + (q + 1))))) (some (.int (inkL (S.1 3) false (a + (k + 1))))) S9 (by omega) hf)
set_option maxRecDepth 100000 in
theorem sp_L_slurS {sh : List PSh} {S : PSt} {N : Nat} (he : isLw sh) (hi : cIv S N) (hN : N ≤ 20) {a m : Nat} (hb : a + m < N) (hm : m < 2) {T0 : PSt} (hf : frL S T0) : pG mL_slur 5 [.ref 0, .int (nI a), .int (nI (a + m))] sh T0 (fun r U => r = some (.int 1) ∧ frL S U) := by
  refine pG.of [some (.ref 0), some (.int (nI a)), some (.int (nI (a + m))), none, none, none, none, none, none, none, none, none, none] (by decide) tk_L_slur (Nat.le_of_ble_eq_true rfl) rfl (fun X => ?_)
  refine q_aload_n (pc := 0) (j := 0) rfl rfl ?_
  refine q_iload_n (pc := 1) (j := 1) rfl rfl ?_
  refine q_iload_n (pc := 2) (j := 2) rfl rfl ?_
  refine q_iconst (pc := 3) 0 rfl (by decide) ?_
  refine q_callVG (pc := 4) (as := [.int (nI a), .int (nI (a + m)), .int 0]) (rest := []) (b := 0) rfl ce_X8_slur ml_L_115 im_X8_slur se_X8_slur he.1.1 rfl rfl rfl (by decide) (Nat.le_of_ble_eq_true rfl) (sp_X8_slur he.1 (fl_iv hi hf)) (fun r9 S9 h9 => ?_)
  obtain ⟨rfl, hf⟩ := rd_sluS hi hf hb hm (by decide) h9
  refine q_istore_n (pc := 7) (j := 3) [some (.ref 0), some (.int (nI a)), some (.int (nI (a + m))), some (.int (-2147483003)), none, none, none, none, none, none, none, none, none] rfl (by decide) rfl ?_
  refine q_iload_n (pc := 8) (j := 3) rfl rfl ?_
  refine q_if_ge (pc := 9) 61 rfl (by decide) (fun h9 => absurd h9 (by decide)) (fun _ => ?_)
  refine q_iload_n (pc := 12) (j := 3) rfl rfl ?_
  refine q_ldc (pc := 13) (v := (-2147483003)) rfl kc_L_102 ?_
  refine q_icmp_ne (pc := 15) 25 rfl (by decide) (fun h9 => absurd h9 (by decide : ¬ ¬ ((-2147483003) : Int32) = (-2147483003))) (fun _ => ?_)
  refine q_iload_n (pc := 18) (j := 2) rfl rfl ?_
  refine q_iload_n (pc := 19) (j := 1) rfl rfl ?_
  refine q_isub (pc := 20) rfl ?_
  refine q_st (st2 := [.int (nI m)]) (by rw [show nI (a + m) - nI a = nI m from (by rw [pk_sub (by omega), Nat.add_sub_cancel_left])]; try rfl) ?_
  refine q_iconst (pc := 21) 2 rfl (by decide) ?_
  refine q_icmp_lt (pc := 22) 55 rfl (by decide) (fun _ => ?_) (fun h9 => absurd (nI_lt (a := m) (b := 2) hm (by decide)) h9)
  refine q_iconst (pc := 55) 1 rfl (by decide) ?_
  refine q_goto (pc := 56) 60 rfl (by decide) ?_
  exact q_zret (pc := 60) rfl rfl rfl ⟨rfl, hf⟩
set_option maxRecDepth 100000 in
theorem sp_L_slurN {sh : List PSh} {S : PSt} {N : Nat} (he : isLw sh) (hi : cIv S N) (hN : N ≤ 20) {a q : Nat} (hb : a + (q + 1) < N) (hq : 1 ≤ q) (h1 : ¬ (pWi (sluR S true a q) 0 40 = true ∨ pWi (sluR S false a q) 0 40 = true)) {T0 : PSt} (hf : frL S T0) : pG mL_slur 5 [.ref 0, .int (nI a), .int (nI (a + (q + 1)))] sh T0 (fun r U => r = some (.int 1) ∧ frL S U) := by
  refine pG.of [some (.ref 0), some (.int (nI a)), some (.int (nI (a + (q + 1)))), none, none, none, none, none, none, none, none, none, none] (by decide) tk_L_slur (Nat.le_of_ble_eq_true rfl) rfl (fun X => ?_)
  refine q_aload_n (pc := 0) (j := 0) rfl rfl ?_
  refine q_iload_n (pc := 1) (j := 1) rfl rfl ?_
  refine q_iload_n (pc := 2) (j := 2) rfl rfl ?_
  refine q_iconst (pc := 3) 0 rfl (by decide) ?_
  refine q_callVG (pc := 4) (as := [.int (nI a), .int (nI (a + (q + 1))), .int 0]) (rest := []) (b := 0) rfl ce_X8_slur ml_L_115 im_X8_slur se_X8_slur he.1.1 rfl rfl rfl (by decide) (Nat.le_of_ble_eq_true rfl) (sp_X8_slur he.1 (fl_iv hi hf)) (fun r9 S9 h9 => ?_)
  obtain ⟨rfl, hf⟩ := rd_slu0N hi hf hb hq h1 h9
  refine q_istore_n (pc := 7) (j := 3) [some (.ref 0), some (.int (nI a)), some (.int (nI (a + (q + 1)))), some (.int (-2147483002)), none, none, none, none, none, none, none, none, none] rfl (by decide) rfl ?_
  refine q_iload_n (pc := 8) (j := 3) rfl rfl ?_
  refine q_if_ge (pc := 9) 61 rfl (by decide) (fun h9 => absurd h9 (by decide)) (fun _ => ?_)
  refine q_iload_n (pc := 12) (j := 3) rfl rfl ?_
  refine q_ldc (pc := 13) (v := (-2147483003)) rfl kc_L_102 ?_
  refine q_icmp_ne (pc := 15) 25 rfl (by decide) (fun _ => ?_) (fun h9 => absurd h9 (by decide : ((-2147483002) : Int32) = (-2147483003) → False))
  refine q_iload_n (pc := 25) (j := 3) rfl rfl ?_
  refine q_ldc (pc := 26) (v := (-2147483002)) rfl kc_L_71 ?_
  refine q_icmp_ne (pc := 28) 59 rfl (by decide) (fun h9 => absurd h9 (by decide : ¬ ¬ ((-2147483002) : Int32) = (-2147483002))) (fun _ => ?_)
  refine q_aload_n (pc := 31) (j := 0) rfl rfl ?_
  refine q_iload_n (pc := 32) (j := 1) rfl rfl ?_
  refine q_iload_n (pc := 33) (j := 2) rfl rfl ?_
  refine q_iconst (pc := 34) 2 rfl (by decide) ?_
  refine q_callVG (pc := 35) (as := [.int (nI a), .int (nI (a + (q + 1))), .int 2]) (rest := []) (b := 0) rfl ce_X8_slur ml_L_115 im_X8_slur se_X8_slur he.1.1 rfl rfl rfl (by decide) (Nat.le_of_ble_eq_true rfl) (sp_X8_slur he.1 (fl_iv hi hf)) (fun r9 S9 h9 => ?_)
  obtain ⟨rfl, hf⟩ := rd_slu2 hi hf hb hq h9
  refine q_ldc (pc := 38) (v := (-2147483002)) rfl kc_L_71 ?_
  refine q_icmp_ne (pc := 40) 59 rfl (by decide) (fun h9 => absurd h9 (fun q9 => q9 (orN_n (fun q8 => h1 (Or.inl q8))))) (fun _ => ?_)
  refine q_aload_n (pc := 43) (j := 0) rfl rfl ?_
  refine q_iload_n (pc := 44) (j := 1) rfl rfl ?_
  refine q_iload_n (pc := 45) (j := 2) rfl rfl ?_
  refine q_iconst (pc := 46) 3 rfl (by decide) ?_
  refine q_callVG (pc := 47) (as := [.int (nI a), .int (nI (a + (q + 1))), .int 3]) (rest := []) (b := 0) rfl ce_X8_slur ml_L_115 im_X8_slur se_X8_slur he.1.1 rfl rfl rfl (by decide) (Nat.le_of_ble_eq_true rfl) (sp_X8_slur he.1 (fl_iv hi hf)) (fun r9 S9 h9 => ?_)
  obtain ⟨rfl, hf⟩ := rd_slu3 hi hf hb hq h9
  refine q_ldc (pc := 50) (v := (-2147483002)) rfl kc_L_71 ?_
  refine q_icmp_ne (pc := 52) 59 rfl (by decide) (fun h9 => absurd h9 (fun q9 => q9 (orN_n (fun q8 => h1 (Or.inr q8))))) (fun _ => ?_)
  refine q_iconst (pc := 55) 1 rfl (by decide) ?_
  refine q_goto (pc := 56) 60 rfl (by decide) ?_
  exact q_zret (pc := 60) rfl rfl rfl ⟨rfl, hf⟩
set_option maxRecDepth 100000 in
theorem sp_L_slur0 {sh : List PSh} {S : PSt} {N : Nat} (he : isLw sh) (hi : cIv S N) (hN : N ≤ 20) {a q : Nat} (hb : a + (q + 1) < N) (hq : 1 ≤ q) (h1 : pWi (sluR S true a q) 0 40 = true) (hs : ¬ sluR S false a q < sluR S true a q) {T0 : PSt} (hf : frL S T0) : pG mL_slur 5 [.ref 0, .int (nI a), .int (nI (a + (q + 1)))] sh T0 (fun r U => r = some (.int 1) ∧ frL S U) := by
  have r1 := slu_r (up := true) hi.2.2.1 hb (by omega)
  have r2 := slu_r (up := false) hi.2.2.1 hb (by omega)
  have hle : ¬ orN (sluR S false a q) = -2147483002 → (sluR S true a q) ≤ orN (sluR S false a q) := (fun q9 => by rw [orN_p (Classical.byContradiction fun q8 => q9 (orN_n q8))]; exact Int32.not_lt.mp hs)
  have hlt : True := trivial
  refine pG.of [some (.ref 0), some (.int (nI a)), some (.int (nI (a + (q + 1)))), none, none, none, none, none, none, none, none, none, none] (by decide) tk_L_slur (Nat.le_of_ble_eq_true rfl) rfl (fun X => ?_)
  refine q_aload_n (pc := 0) (j := 0) rfl rfl ?_
  refine q_iload_n (pc := 1) (j := 1) rfl rfl ?_
  refine q_iload_n (pc := 2) (j := 2) rfl rfl ?_
  refine q_iconst (pc := 3) 0 rfl (by decide) ?_
  refine q_callVG (pc := 4) (as := [.int (nI a), .int (nI (a + (q + 1))), .int 0]) (rest := []) (b := 0) rfl ce_X8_slur ml_L_115 im_X8_slur se_X8_slur he.1.1 rfl rfl rfl (by decide) (Nat.le_of_ble_eq_true rfl) (sp_X8_slur he.1 (fl_iv hi hf)) (fun r9 S9 h9 => ?_)
  obtain ⟨rfl, hf⟩ := rd_slu0 hi hf hb hq (Or.inl h1) (s := 0) (if_neg hs) h9
  refine q_istore_n (pc := 7) (j := 3) [some (.ref 0), some (.int (nI a)), some (.int (nI (a + (q + 1)))), some (.int 0), none, none, none, none, none, none, none, none, none] rfl (by decide) rfl ?_
  refine q_iload_n (pc := 8) (j := 3) rfl rfl ?_
  refine q_if_ge (pc := 9) 61 rfl (by decide) (fun _ => ?_) (fun h9 => absurd (by decide) h9)
  refine q_aload_n (pc := 61) (j := 0) rfl rfl ?_
  refine q_iload_n (pc := 62) (j := 1) rfl rfl ?_
  refine q_iload_n (pc := 63) (j := 2) rfl rfl ?_
  refine q_iconst (pc := 64) 1 rfl (by decide) ?_
  refine q_callVG (pc := 65) (as := [.int (nI a), .int (nI (a + (q + 1))), .int 1]) (rest := []) (b := 0) rfl ce_X8_slur ml_L_115 im_X8_slur se_X8_slur he.1.1 rfl rfl rfl (by decide) (Nat.le_of_ble_eq_true rfl) (sp_X8_slur he.1 (fl_iv hi hf)) (fun r9 S9 h9 => ?_)
  obtain ⟨rfl, hf⟩ := rd_slu1 hi hf hb hq (up := true) ((decide_eq_true hs).symm) h9
  refine q_st (st2 := [.int (sluR S true a q)]) (by rw [orN_p h1]; try rfl) ?_
  refine q_istore (pc := 68) (j := 4) [some (.ref 0), some (.int (nI a)), some (.int (nI (a + (q + 1)))), some (.int 0), some (.int (sluR S true a q)), none, none, none, none, none, none, none, none] rfl (by decide) rfl ?_
  refine q_aload_n (pc := 70) (j := 0) rfl rfl ?_
  refine q_iload_n (pc := 71) (j := 1) rfl rfl ?_
  refine q_iload_n (pc := 72) (j := 2) rfl rfl ?_
  refine q_iconst (pc := 73) 3 rfl (by decide) ?_
  refine q_iload_n (pc := 74) (j := 3) rfl rfl ?_
  refine q_isub (pc := 75) rfl ?_
  refine q_st (st2 := [.int 3, .int (nI (a + (q + 1))), .int (nI a), .ref 0]) (by rfl) ?_
  refine q_callVG (pc := 76) (as := [.int (nI a), .int (nI (a + (q + 1))), .int 3]) (rest := []) (b := 0) rfl ce_X8_slur ml_L_115 im_X8_slur se_X8_slur he.1.1 rfl rfl rfl (by decide) (Nat.le_of_ble_eq_true rfl) (sp_X8_slur he.1 (fl_iv hi hf)) (fun r9 S9 h9 => ?_)
  obtain ⟨rfl, hf⟩ := rd_slu3 hi hf hb hq h9
  refine q_istore (pc := 79) (j := 5) [some (.ref 0), some (.int (nI a)), some (.int (nI (a + (q + 1)))), some (.int 0), some (.int (sluR S true a q)), some (.int (orN (sluR S false a q))), none, none, none, none, none, none, none] rfl (by decide) rfl ?_
  refine q_iload (pc := 81) (j := 4) rfl rfl ?_
  refine q_aload_n (pc := 83) (j := 0) rfl rfl ?_
  refine q_iload_n (pc := 84) (j := 1) rfl rfl ?_
  refine q_iload_n (pc := 85) (j := 2) rfl rfl ?_
  refine q_iconst (pc := 86) 2 rfl (by decide) ?_
  refine q_iload_n (pc := 87) (j := 3) rfl rfl ?_
  refine q_iadd (pc := 88) rfl ?_
  refine q_st (st2 := [.int 2, .int (nI (a + (q + 1))), .int (nI a), .ref 0, .int (sluR S true a q)]) (by rfl) ?_
  refine q_callVG (pc := 89) (as := [.int (nI a), .int (nI (a + (q + 1))), .int 2]) (rest := [.int (sluR S true a q)]) (b := 0) rfl ce_X8_slur ml_L_115 im_X8_slur se_X8_slur he.1.1 rfl rfl rfl (by decide) (Nat.le_of_ble_eq_true rfl) (sp_X8_slur he.1 (fl_iv hi hf)) (fun r9 S9 h9 => ?_)
  obtain ⟨rfl, hf⟩ := rd_slu2 hi hf hb hq h9
  refine q_icmp_ne (pc := 92) 123 rfl (by decide) (fun h9 => absurd h9 (fun q9 => q9 (orN_p h1).symm)) (fun _ => ?_)
  refine q_iload (pc := 95) (j := 5) rfl rfl ?_
  refine q_ldc (pc := 97) (v := (-2147483002)) rfl kc_L_71 ?_
  refine q_icmp_eq (pc := 99) 125 rfl (by decide) (fun h99 => ?_) (fun h99 => ?_)
  · refine q_iconst (pc := 125) 0 rfl (by decide) ?_
    refine q_istore (pc := 126) (j := 6) [some (.ref 0), some (.int (nI a)), some (.int (nI (a + (q + 1)))), some (.int 0), some (.int (sluR S true a q)), some (.int (orN (sluR S false a q))), some (.int 0), none, none, none, none, none, none] rfl (by decide) rfl ?_
    rcases Bool.eq_false_or_eq_true (decide ((sluR S true a q) ≤ 0)) with hp | hp
    · refine q_iload (pc := 128) (j := 6) rfl rfl ?_
      refine q_iload (pc := 130) (j := 4) rfl rfl ?_
      refine q_if_le (pc := 132) 139 rfl (by decide) (fun _ => ?_) (fun h9 => absurd (of_decide_eq_true hp) h9)
      refine q_iconst (pc := 139) 1 rfl (by decide) ?_
      refine q_icmp_ge (pc := 140) 317 rfl (by decide) (fun h9 => absurd h9 (by decide : ¬ (1 : Int32) ≤ (0 : Int32))) (fun _ => ?_)
      refine q_iconst (pc := 143) 1 rfl (by decide) ?_
      refine q_istore (pc := 144) (j := 7) [some (.ref 0), some (.int (nI a)), some (.int (nI (a + (q + 1)))), some (.int 0), some (.int (sluR S true a q)), some (.int (orN (sluR S false a q))), some (.int 0), some (.int 1), none, none, none, none, none] rfl (by decide) rfl ?_
      refine q_iload_n (pc := 146) (j := 2) rfl rfl ?_
      refine q_iload_n (pc := 147) (j := 1) rfl rfl ?_
      refine q_isub (pc := 148) rfl ?_
      refine q_iconst (pc := 149) 1 rfl (by decide) ?_
      refine q_isub (pc := 150) rfl ?_
      refine q_st (st2 := [.int (nI q)]) (by rw [show nI (a + (q + 1)) - nI a - 1 = nI q from (by rw [pk_sub (by omega), Nat.add_sub_cancel_left]; exact nI_pred q)]; try rfl) ?_
      refine q_istore (pc := 151) (j := 8) [some (.ref 0), some (.int (nI a)), some (.int (nI (a + (q + 1)))), some (.int 0), some (.int (sluR S true a q)), some (.int (orN (sluR S false a q))), some (.int 0), some (.int 1), some (.int (nI q)), none, none, none, none] rfl (by decide) rfl ?_
      refine q_iconst (pc := 153) 1 rfl (by decide) ?_
      refine q_istore (pc := 154) (j := 9) [some (.ref 0), some (.int (nI a)), some (.int (nI (a + (q + 1)))), some (.int 0), some (.int (sluR S true a q)), some (.int (orN (sluR S false a q))), some (.int 0), some (.int 1), some (.int (nI q)), some (.int 1), none, none, none] rfl (by decide) rfl ?_
      refine q_L rfl (lp_L_slur0 (h := (sluR S true a q)) (ot := (orN (sluR S false a q))) (ls := 0) (by decide) he hi hN hb hq (fun f10 f11 f12 T hf => ?_) q 0 none none none _ (Nat.zero_add _) hf)
      refine q_iload (pc := 294) (j := 7) rfl rfl ?_
      refine q_iload (pc := 296) (j := 6) rfl rfl ?_
      refine q_if_ne (pc := 298) 305 rfl (by decide) (fun h9 => absurd h9 (by decide : ¬ ¬ (0 : Int32) = 0)) (fun _ => ?_)
      refine q_iconst (pc := 301) 1 rfl (by decide) ?_
      refine q_goto (pc := 302) 306 rfl (by decide) ?_
      refine q_icmp_eq (pc := 306) 311 rfl (by decide) (fun _ => ?_) (fun h9 => absurd (by rw [show (clV (S.1 3) true a q (sluR S true a q) 0 q) = true from cl_0 (up := true) hi.2.2.1 hb (by omega) q (Nat.le_refl q)]; rfl) h9)
      refine q_iinc (pc := 311) (j := 6) (n := 1) 1 [some (.ref 0), some (.int (nI a)), some (.int (nI (a + (q + 1)))), some (.int 0), some (.int (sluR S true a q)), some (.int (orN (sluR S false a q))), some (.int 1), some (.int (pB (clV (S.1 3) true a q (sluR S true a q) 0 q))), some (.int (nI q)), some (.int (nI (q + 1))), f10, f11, f12] rfl (by decide) rfl (by decide) rfl ?_
      refine q_goto (pc := 314) 128 rfl (by decide) ?_
      refine q_iload (pc := 128) (j := 6) rfl rfl ?_
      refine q_iload (pc := 130) (j := 4) rfl rfl ?_
      refine q_if_le (pc := 132) 139 rfl (by decide) (fun _ => ?_) (fun h9 => absurd (of_decide_eq_true hp) h9)
      refine q_iconst (pc := 139) 1 rfl (by decide) ?_
      refine q_icmp_ge (pc := 140) 317 rfl (by decide) (fun _ => ?_) (fun h9 => absurd (by decide : (1 : Int32) ≤ (1 : Int32)) h9)
      refine q_iconst (pc := 317) 1 rfl (by decide) ?_
      exact q_zret (pc := 318) rfl rfl rfl ⟨rfl, hf⟩
    · refine q_iload (pc := 128) (j := 6) rfl rfl ?_
      refine q_iload (pc := 130) (j := 4) rfl rfl ?_
      refine q_if_le (pc := 132) 139 rfl (by decide) (fun h9 => absurd h9 (of_decide_eq_false hp)) (fun _ => ?_)
      refine q_iconst (pc := 135) 2 rfl (by decide) ?_
      refine q_goto (pc := 136) 140 rfl (by decide) ?_
      refine q_icmp_ge (pc := 140) 317 rfl (by decide) (fun h9 => absurd h9 (by decide : ¬ (2 : Int32) ≤ (0 : Int32))) (fun _ => ?_)
      refine q_iconst (pc := 143) 1 rfl (by decide) ?_
      refine q_istore (pc := 144) (j := 7) [some (.ref 0), some (.int (nI a)), some (.int (nI (a + (q + 1)))), some (.int 0), some (.int (sluR S true a q)), some (.int (orN (sluR S false a q))), some (.int 0), some (.int 1), none, none, none, none, none] rfl (by decide) rfl ?_
      refine q_iload_n (pc := 146) (j := 2) rfl rfl ?_
      refine q_iload_n (pc := 147) (j := 1) rfl rfl ?_
      refine q_isub (pc := 148) rfl ?_
      refine q_iconst (pc := 149) 1 rfl (by decide) ?_
      refine q_isub (pc := 150) rfl ?_
      refine q_st (st2 := [.int (nI q)]) (by rw [show nI (a + (q + 1)) - nI a - 1 = nI q from (by rw [pk_sub (by omega), Nat.add_sub_cancel_left]; exact nI_pred q)]; try rfl) ?_
      refine q_istore (pc := 151) (j := 8) [some (.ref 0), some (.int (nI a)), some (.int (nI (a + (q + 1)))), some (.int 0), some (.int (sluR S true a q)), some (.int (orN (sluR S false a q))), some (.int 0), some (.int 1), some (.int (nI q)), none, none, none, none] rfl (by decide) rfl ?_
      refine q_iconst (pc := 153) 1 rfl (by decide) ?_
      refine q_istore (pc := 154) (j := 9) [some (.ref 0), some (.int (nI a)), some (.int (nI (a + (q + 1)))), some (.int 0), some (.int (sluR S true a q)), some (.int (orN (sluR S false a q))), some (.int 0), some (.int 1), some (.int (nI q)), some (.int 1), none, none, none] rfl (by decide) rfl ?_
      refine q_L rfl (lp_L_slur0 (h := (sluR S true a q)) (ot := (orN (sluR S false a q))) (ls := 0) (by decide) he hi hN hb hq (fun f10 f11 f12 T hf => ?_) q 0 none none none _ (Nat.zero_add _) hf)
      refine q_iload (pc := 294) (j := 7) rfl rfl ?_
      refine q_iload (pc := 296) (j := 6) rfl rfl ?_
      refine q_if_ne (pc := 298) 305 rfl (by decide) (fun h9 => absurd h9 (by decide : ¬ ¬ (0 : Int32) = 0)) (fun _ => ?_)
      refine q_iconst (pc := 301) 1 rfl (by decide) ?_
      refine q_goto (pc := 302) 306 rfl (by decide) ?_
      refine q_icmp_eq (pc := 306) 311 rfl (by decide) (fun _ => ?_) (fun h9 => absurd (by rw [show (clV (S.1 3) true a q (sluR S true a q) 0 q) = true from cl_0 (up := true) hi.2.2.1 hb (by omega) q (Nat.le_refl q)]; rfl) h9)
      refine q_iinc (pc := 311) (j := 6) (n := 1) 1 [some (.ref 0), some (.int (nI a)), some (.int (nI (a + (q + 1)))), some (.int 0), some (.int (sluR S true a q)), some (.int (orN (sluR S false a q))), some (.int 1), some (.int (pB (clV (S.1 3) true a q (sluR S true a q) 0 q))), some (.int (nI q)), some (.int (nI (q + 1))), f10, f11, f12] rfl (by decide) rfl (by decide) rfl ?_
      refine q_goto (pc := 314) 128 rfl (by decide) ?_
      refine q_iload (pc := 128) (j := 6) rfl rfl ?_
      refine q_iload (pc := 130) (j := 4) rfl rfl ?_
      refine q_if_le (pc := 132) 139 rfl (by decide) (fun h9 => absurd h9 (of_decide_eq_false hp)) (fun _ => ?_)
      refine q_iconst (pc := 135) 2 rfl (by decide) ?_
      refine q_goto (pc := 136) 140 rfl (by decide) ?_
      refine q_icmp_ge (pc := 140) 317 rfl (by decide) (fun h9 => absurd h9 (by decide : ¬ (2 : Int32) ≤ (1 : Int32))) (fun _ => ?_)
      refine q_iconst (pc := 143) 1 rfl (by decide) ?_
      refine q_istore (pc := 144) (j := 7) [some (.ref 0), some (.int (nI a)), some (.int (nI (a + (q + 1)))), some (.int 0), some (.int (sluR S true a q)), some (.int (orN (sluR S false a q))), some (.int 1), some (.int 1), some (.int (nI q)), some (.int (nI (q + 1))), f10, f11, f12] rfl (by decide) rfl ?_
      refine q_iload_n (pc := 146) (j := 2) rfl rfl ?_
      refine q_iload_n (pc := 147) (j := 1) rfl rfl ?_
      refine q_isub (pc := 148) rfl ?_
      refine q_iconst (pc := 149) 1 rfl (by decide) ?_
      refine q_isub (pc := 150) rfl ?_
      refine q_st (st2 := [.int (nI q)]) (by rw [show nI (a + (q + 1)) - nI a - 1 = nI q from (by rw [pk_sub (by omega), Nat.add_sub_cancel_left]; exact nI_pred q)]; try rfl) ?_
      refine q_istore (pc := 151) (j := 8) [some (.ref 0), some (.int (nI a)), some (.int (nI (a + (q + 1)))), some (.int 0), some (.int (sluR S true a q)), some (.int (orN (sluR S false a q))), some (.int 1), some (.int 1), some (.int (nI q)), some (.int (nI (q + 1))), f10, f11, f12] rfl (by decide) rfl ?_
      refine q_iconst (pc := 153) 1 rfl (by decide) ?_
      refine q_istore (pc := 154) (j := 9) [some (.ref 0), some (.int (nI a)), some (.int (nI (a + (q + 1)))), some (.int 0), some (.int (sluR S true a q)), some (.int (orN (sluR S false a q))), some (.int 1), some (.int 1), some (.int (nI q)), some (.int 1), f10, f11, f12] rfl (by decide) rfl ?_
      refine q_L rfl (lp_L_slur0 (h := (sluR S true a q)) (ot := (orN (sluR S false a q))) (ls := 1) (by decide) he hi hN hb hq (fun f10 f11 f12 T hf => ?_) q 0 f10 f11 f12 _ (Nat.zero_add _) hf)
      refine q_iload (pc := 294) (j := 7) rfl rfl ?_
      refine q_iload (pc := 296) (j := 6) rfl rfl ?_
      refine q_if_ne (pc := 298) 305 rfl (by decide) (fun _ => ?_) (fun h9 => absurd h9 (by decide : (1 : Int32) = 0 → False))
      refine q_iconst (pc := 305) 0 rfl (by decide) ?_
      refine q_icmp_eq (pc := 306) 311 rfl (by decide) (fun _ => ?_) (fun h9 => absurd (by rw [show (clV (S.1 3) true a q (sluR S true a q) 1 q) = false from cl_1 (up := true) hi.2.2.1 hb (by omega) (of_decide_eq_false hp)]; rfl) h9)
      refine q_iinc (pc := 311) (j := 6) (n := 1) 2 [some (.ref 0), some (.int (nI a)), some (.int (nI (a + (q + 1)))), some (.int 0), some (.int (sluR S true a q)), some (.int (orN (sluR S false a q))), some (.int 2), some (.int (pB (clV (S.1 3) true a q (sluR S true a q) 1 q))), some (.int (nI q)), some (.int (nI (q + 1))), f10, f11, f12] rfl (by decide) rfl (by decide) rfl ?_
      refine q_goto (pc := 314) 128 rfl (by decide) ?_
      refine q_iload (pc := 128) (j := 6) rfl rfl ?_
      refine q_iload (pc := 130) (j := 4) rfl rfl ?_
      refine q_if_le (pc := 132) 139 rfl (by decide) (fun h9 => absurd h9 (of_decide_eq_false hp)) (fun _ => ?_)
      refine q_iconst (pc := 135) 2 rfl (by decide) ?_
      refine q_goto (pc := 136) 140 rfl (by decide) ?_
      refine q_icmp_ge (pc := 140) 317 rfl (by decide) (fun _ => ?_) (fun h9 => absurd (by decide : (2 : Int32) ≤ (2 : Int32)) h9)
      refine q_iconst (pc := 317) 1 rfl (by decide) ?_
      exact q_zret (pc := 318) rfl rfl rfl ⟨rfl, hf⟩
  · refine q_iload_n (pc := 102) (j := 3) rfl rfl ?_
    refine q_if_ne (pc := 103) 116 rfl (by decide) (fun h9 => absurd h9 (by decide : ¬ ¬ (0 : Int32) = 0)) (fun _ => ?_)
    refine q_iload (pc := 106) (j := 5) rfl rfl ?_
    refine q_iload (pc := 108) (j := 4) rfl rfl ?_
    refine q_icmp_ge (pc := 110) 125 rfl (by decide) (fun _ => ?_) (fun h9 => absurd (hle h99) h9)
    refine q_iconst (pc := 125) 0 rfl (by decide) ?_
    refine q_istore (pc := 126) (j := 6) [some (.ref 0), some (.int (nI a)), some (.int (nI (a + (q + 1)))), some (.int 0), some (.int (sluR S true a q)), some (.int (orN (sluR S false a q))), some (.int 0), none, none, none, none, none, none] rfl (by decide) rfl ?_
    rcases Bool.eq_false_or_eq_true (decide ((sluR S true a q) ≤ 0)) with hp | hp
    · refine q_iload (pc := 128) (j := 6) rfl rfl ?_
      refine q_iload (pc := 130) (j := 4) rfl rfl ?_
      refine q_if_le (pc := 132) 139 rfl (by decide) (fun _ => ?_) (fun h9 => absurd (of_decide_eq_true hp) h9)
      refine q_iconst (pc := 139) 1 rfl (by decide) ?_
      refine q_icmp_ge (pc := 140) 317 rfl (by decide) (fun h9 => absurd h9 (by decide : ¬ (1 : Int32) ≤ (0 : Int32))) (fun _ => ?_)
      refine q_iconst (pc := 143) 1 rfl (by decide) ?_
      refine q_istore (pc := 144) (j := 7) [some (.ref 0), some (.int (nI a)), some (.int (nI (a + (q + 1)))), some (.int 0), some (.int (sluR S true a q)), some (.int (orN (sluR S false a q))), some (.int 0), some (.int 1), none, none, none, none, none] rfl (by decide) rfl ?_
      refine q_iload_n (pc := 146) (j := 2) rfl rfl ?_
      refine q_iload_n (pc := 147) (j := 1) rfl rfl ?_
      refine q_isub (pc := 148) rfl ?_
      refine q_iconst (pc := 149) 1 rfl (by decide) ?_
      refine q_isub (pc := 150) rfl ?_
      refine q_st (st2 := [.int (nI q)]) (by rw [show nI (a + (q + 1)) - nI a - 1 = nI q from (by rw [pk_sub (by omega), Nat.add_sub_cancel_left]; exact nI_pred q)]; try rfl) ?_
      refine q_istore (pc := 151) (j := 8) [some (.ref 0), some (.int (nI a)), some (.int (nI (a + (q + 1)))), some (.int 0), some (.int (sluR S true a q)), some (.int (orN (sluR S false a q))), some (.int 0), some (.int 1), some (.int (nI q)), none, none, none, none] rfl (by decide) rfl ?_
      refine q_iconst (pc := 153) 1 rfl (by decide) ?_
      refine q_istore (pc := 154) (j := 9) [some (.ref 0), some (.int (nI a)), some (.int (nI (a + (q + 1)))), some (.int 0), some (.int (sluR S true a q)), some (.int (orN (sluR S false a q))), some (.int 0), some (.int 1), some (.int (nI q)), some (.int 1), none, none, none] rfl (by decide) rfl ?_
      refine q_L rfl (lp_L_slur0 (h := (sluR S true a q)) (ot := (orN (sluR S false a q))) (ls := 0) (by decide) he hi hN hb hq (fun f10 f11 f12 T hf => ?_) q 0 none none none _ (Nat.zero_add _) hf)
      refine q_iload (pc := 294) (j := 7) rfl rfl ?_
      refine q_iload (pc := 296) (j := 6) rfl rfl ?_
      refine q_if_ne (pc := 298) 305 rfl (by decide) (fun h9 => absurd h9 (by decide : ¬ ¬ (0 : Int32) = 0)) (fun _ => ?_)
      refine q_iconst (pc := 301) 1 rfl (by decide) ?_
      refine q_goto (pc := 302) 306 rfl (by decide) ?_
      refine q_icmp_eq (pc := 306) 311 rfl (by decide) (fun _ => ?_) (fun h9 => absurd (by rw [show (clV (S.1 3) true a q (sluR S true a q) 0 q) = true from cl_0 (up := true) hi.2.2.1 hb (by omega) q (Nat.le_refl q)]; rfl) h9)
      refine q_iinc (pc := 311) (j := 6) (n := 1) 1 [some (.ref 0), some (.int (nI a)), some (.int (nI (a + (q + 1)))), some (.int 0), some (.int (sluR S true a q)), some (.int (orN (sluR S false a q))), some (.int 1), some (.int (pB (clV (S.1 3) true a q (sluR S true a q) 0 q))), some (.int (nI q)), some (.int (nI (q + 1))), f10, f11, f12] rfl (by decide) rfl (by decide) rfl ?_
      refine q_goto (pc := 314) 128 rfl (by decide) ?_
      refine q_iload (pc := 128) (j := 6) rfl rfl ?_
      refine q_iload (pc := 130) (j := 4) rfl rfl ?_
      refine q_if_le (pc := 132) 139 rfl (by decide) (fun _ => ?_) (fun h9 => absurd (of_decide_eq_true hp) h9)
      refine q_iconst (pc := 139) 1 rfl (by decide) ?_
      refine q_icmp_ge (pc := 140) 317 rfl (by decide) (fun _ => ?_) (fun h9 => absurd (by decide : (1 : Int32) ≤ (1 : Int32)) h9)
      refine q_iconst (pc := 317) 1 rfl (by decide) ?_
      exact q_zret (pc := 318) rfl rfl rfl ⟨rfl, hf⟩
    · refine q_iload (pc := 128) (j := 6) rfl rfl ?_
      refine q_iload (pc := 130) (j := 4) rfl rfl ?_
      refine q_if_le (pc := 132) 139 rfl (by decide) (fun h9 => absurd h9 (of_decide_eq_false hp)) (fun _ => ?_)
      refine q_iconst (pc := 135) 2 rfl (by decide) ?_
      refine q_goto (pc := 136) 140 rfl (by decide) ?_
      refine q_icmp_ge (pc := 140) 317 rfl (by decide) (fun h9 => absurd h9 (by decide : ¬ (2 : Int32) ≤ (0 : Int32))) (fun _ => ?_)
      refine q_iconst (pc := 143) 1 rfl (by decide) ?_
      refine q_istore (pc := 144) (j := 7) [some (.ref 0), some (.int (nI a)), some (.int (nI (a + (q + 1)))), some (.int 0), some (.int (sluR S true a q)), some (.int (orN (sluR S false a q))), some (.int 0), some (.int 1), none, none, none, none, none] rfl (by decide) rfl ?_
      refine q_iload_n (pc := 146) (j := 2) rfl rfl ?_
      refine q_iload_n (pc := 147) (j := 1) rfl rfl ?_
      refine q_isub (pc := 148) rfl ?_
      refine q_iconst (pc := 149) 1 rfl (by decide) ?_
      refine q_isub (pc := 150) rfl ?_
      refine q_st (st2 := [.int (nI q)]) (by rw [show nI (a + (q + 1)) - nI a - 1 = nI q from (by rw [pk_sub (by omega), Nat.add_sub_cancel_left]; exact nI_pred q)]; try rfl) ?_
      refine q_istore (pc := 151) (j := 8) [some (.ref 0), some (.int (nI a)), some (.int (nI (a + (q + 1)))), some (.int 0), some (.int (sluR S true a q)), some (.int (orN (sluR S false a q))), some (.int 0), some (.int 1), some (.int (nI q)), none, none, none, none] rfl (by decide) rfl ?_
      refine q_iconst (pc := 153) 1 rfl (by decide) ?_
      refine q_istore (pc := 154) (j := 9) [some (.ref 0), some (.int (nI a)), some (.int (nI (a + (q + 1)))), some (.int 0), some (.int (sluR S true a q)), some (.int (orN (sluR S false a q))), some (.int 0), some (.int 1), some (.int (nI q)), some (.int 1), none, none, none] rfl (by decide) rfl ?_
      refine q_L rfl (lp_L_slur0 (h := (sluR S true a q)) (ot := (orN (sluR S false a q))) (ls := 0) (by decide) he hi hN hb hq (fun f10 f11 f12 T hf => ?_) q 0 none none none _ (Nat.zero_add _) hf)
      refine q_iload (pc := 294) (j := 7) rfl rfl ?_
      refine q_iload (pc := 296) (j := 6) rfl rfl ?_
      refine q_if_ne (pc := 298) 305 rfl (by decide) (fun h9 => absurd h9 (by decide : ¬ ¬ (0 : Int32) = 0)) (fun _ => ?_)
      refine q_iconst (pc := 301) 1 rfl (by decide) ?_
      refine q_goto (pc := 302) 306 rfl (by decide) ?_
      refine q_icmp_eq (pc := 306) 311 rfl (by decide) (fun _ => ?_) (fun h9 => absurd (by rw [show (clV (S.1 3) true a q (sluR S true a q) 0 q) = true from cl_0 (up := true) hi.2.2.1 hb (by omega) q (Nat.le_refl q)]; rfl) h9)
      refine q_iinc (pc := 311) (j := 6) (n := 1) 1 [some (.ref 0), some (.int (nI a)), some (.int (nI (a + (q + 1)))), some (.int 0), some (.int (sluR S true a q)), some (.int (orN (sluR S false a q))), some (.int 1), some (.int (pB (clV (S.1 3) true a q (sluR S true a q) 0 q))), some (.int (nI q)), some (.int (nI (q + 1))), f10, f11, f12] rfl (by decide) rfl (by decide) rfl ?_
      refine q_goto (pc := 314) 128 rfl (by decide) ?_
      refine q_iload (pc := 128) (j := 6) rfl rfl ?_
      refine q_iload (pc := 130) (j := 4) rfl rfl ?_
      refine q_if_le (pc := 132) 139 rfl (by decide) (fun h9 => absurd h9 (of_decide_eq_false hp)) (fun _ => ?_)
      refine q_iconst (pc := 135) 2 rfl (by decide) ?_
      refine q_goto (pc := 136) 140 rfl (by decide) ?_
      refine q_icmp_ge (pc := 140) 317 rfl (by decide) (fun h9 => absurd h9 (by decide : ¬ (2 : Int32) ≤ (1 : Int32))) (fun _ => ?_)
      refine q_iconst (pc := 143) 1 rfl (by decide) ?_
      refine q_istore (pc := 144) (j := 7) [some (.ref 0), some (.int (nI a)), some (.int (nI (a + (q + 1)))), some (.int 0), some (.int (sluR S true a q)), some (.int (orN (sluR S false a q))), some (.int 1), some (.int 1), some (.int (nI q)), some (.int (nI (q + 1))), f10, f11, f12] rfl (by decide) rfl ?_
      refine q_iload_n (pc := 146) (j := 2) rfl rfl ?_
      refine q_iload_n (pc := 147) (j := 1) rfl rfl ?_
      refine q_isub (pc := 148) rfl ?_
      refine q_iconst (pc := 149) 1 rfl (by decide) ?_
      refine q_isub (pc := 150) rfl ?_
      refine q_st (st2 := [.int (nI q)]) (by rw [show nI (a + (q + 1)) - nI a - 1 = nI q from (by rw [pk_sub (by omega), Nat.add_sub_cancel_left]; exact nI_pred q)]; try rfl) ?_
      refine q_istore (pc := 151) (j := 8) [some (.ref 0), some (.int (nI a)), some (.int (nI (a + (q + 1)))), some (.int 0), some (.int (sluR S true a q)), some (.int (orN (sluR S false a q))), some (.int 1), some (.int 1), some (.int (nI q)), some (.int (nI (q + 1))), f10, f11, f12] rfl (by decide) rfl ?_
      refine q_iconst (pc := 153) 1 rfl (by decide) ?_
      refine q_istore (pc := 154) (j := 9) [some (.ref 0), some (.int (nI a)), some (.int (nI (a + (q + 1)))), some (.int 0), some (.int (sluR S true a q)), some (.int (orN (sluR S false a q))), some (.int 1), some (.int 1), some (.int (nI q)), some (.int 1), f10, f11, f12] rfl (by decide) rfl ?_
      refine q_L rfl (lp_L_slur0 (h := (sluR S true a q)) (ot := (orN (sluR S false a q))) (ls := 1) (by decide) he hi hN hb hq (fun f10 f11 f12 T hf => ?_) q 0 f10 f11 f12 _ (Nat.zero_add _) hf)
      refine q_iload (pc := 294) (j := 7) rfl rfl ?_
      refine q_iload (pc := 296) (j := 6) rfl rfl ?_
      refine q_if_ne (pc := 298) 305 rfl (by decide) (fun _ => ?_) (fun h9 => absurd h9 (by decide : (1 : Int32) = 0 → False))
      refine q_iconst (pc := 305) 0 rfl (by decide) ?_
      refine q_icmp_eq (pc := 306) 311 rfl (by decide) (fun _ => ?_) (fun h9 => absurd (by rw [show (clV (S.1 3) true a q (sluR S true a q) 1 q) = false from cl_1 (up := true) hi.2.2.1 hb (by omega) (of_decide_eq_false hp)]; rfl) h9)
      refine q_iinc (pc := 311) (j := 6) (n := 1) 2 [some (.ref 0), some (.int (nI a)), some (.int (nI (a + (q + 1)))), some (.int 0), some (.int (sluR S true a q)), some (.int (orN (sluR S false a q))), some (.int 2), some (.int (pB (clV (S.1 3) true a q (sluR S true a q) 1 q))), some (.int (nI q)), some (.int (nI (q + 1))), f10, f11, f12] rfl (by decide) rfl (by decide) rfl ?_
      refine q_goto (pc := 314) 128 rfl (by decide) ?_
      refine q_iload (pc := 128) (j := 6) rfl rfl ?_
      refine q_iload (pc := 130) (j := 4) rfl rfl ?_
      refine q_if_le (pc := 132) 139 rfl (by decide) (fun h9 => absurd h9 (of_decide_eq_false hp)) (fun _ => ?_)
      refine q_iconst (pc := 135) 2 rfl (by decide) ?_
      refine q_goto (pc := 136) 140 rfl (by decide) ?_
      refine q_icmp_ge (pc := 140) 317 rfl (by decide) (fun _ => ?_) (fun h9 => absurd (by decide : (2 : Int32) ≤ (2 : Int32)) h9)
      refine q_iconst (pc := 317) 1 rfl (by decide) ?_
      exact q_zret (pc := 318) rfl rfl rfl ⟨rfl, hf⟩
set_option maxRecDepth 100000 in
theorem sp_L_slur1 {sh : List PSh} {S : PSt} {N : Nat} (he : isLw sh) (hi : cIv S N) (hN : N ≤ 20) {a q : Nat} (hb : a + (q + 1) < N) (hq : 1 ≤ q) (h1 : pWi (sluR S false a q) 0 40 = true) (hs : sluR S false a q < sluR S true a q) {T0 : PSt} (hf : frL S T0) : pG mL_slur 5 [.ref 0, .int (nI a), .int (nI (a + (q + 1)))] sh T0 (fun r U => r = some (.int 1) ∧ frL S U) := by
  have r1 := slu_r (up := true) hi.2.2.1 hb (by omega)
  have r2 := slu_r (up := false) hi.2.2.1 hb (by omega)
  have hle : ¬ orN (sluR S true a q) = -2147483002 → (sluR S false a q) ≤ orN (sluR S true a q) := (fun q9 => by rw [orN_p (Classical.byContradiction fun q8 => q9 (orN_n q8))]; exact Int32.le_of_lt hs)
  have hlt : ¬ orN (sluR S true a q) = -2147483002 → (sluR S false a q) < orN (sluR S true a q) := (fun q9 => by rw [orN_p (Classical.byContradiction fun q8 => q9 (orN_n q8))]; exact hs)
  refine pG.of [some (.ref 0), some (.int (nI a)), some (.int (nI (a + (q + 1)))), none, none, none, none, none, none, none, none, none, none] (by decide) tk_L_slur (Nat.le_of_ble_eq_true rfl) rfl (fun X => ?_)
  refine q_aload_n (pc := 0) (j := 0) rfl rfl ?_
  refine q_iload_n (pc := 1) (j := 1) rfl rfl ?_
  refine q_iload_n (pc := 2) (j := 2) rfl rfl ?_
  refine q_iconst (pc := 3) 0 rfl (by decide) ?_
  refine q_callVG (pc := 4) (as := [.int (nI a), .int (nI (a + (q + 1))), .int 0]) (rest := []) (b := 0) rfl ce_X8_slur ml_L_115 im_X8_slur se_X8_slur he.1.1 rfl rfl rfl (by decide) (Nat.le_of_ble_eq_true rfl) (sp_X8_slur he.1 (fl_iv hi hf)) (fun r9 S9 h9 => ?_)
  obtain ⟨rfl, hf⟩ := rd_slu0 hi hf hb hq (Or.inr h1) (s := 1) (if_pos hs) h9
  refine q_istore_n (pc := 7) (j := 3) [some (.ref 0), some (.int (nI a)), some (.int (nI (a + (q + 1)))), some (.int 1), none, none, none, none, none, none, none, none, none] rfl (by decide) rfl ?_
  refine q_iload_n (pc := 8) (j := 3) rfl rfl ?_
  refine q_if_ge (pc := 9) 61 rfl (by decide) (fun _ => ?_) (fun h9 => absurd (by decide) h9)
  refine q_aload_n (pc := 61) (j := 0) rfl rfl ?_
  refine q_iload_n (pc := 62) (j := 1) rfl rfl ?_
  refine q_iload_n (pc := 63) (j := 2) rfl rfl ?_
  refine q_iconst (pc := 64) 1 rfl (by decide) ?_
  refine q_callVG (pc := 65) (as := [.int (nI a), .int (nI (a + (q + 1))), .int 1]) (rest := []) (b := 0) rfl ce_X8_slur ml_L_115 im_X8_slur se_X8_slur he.1.1 rfl rfl rfl (by decide) (Nat.le_of_ble_eq_true rfl) (sp_X8_slur he.1 (fl_iv hi hf)) (fun r9 S9 h9 => ?_)
  obtain ⟨rfl, hf⟩ := rd_slu1 hi hf hb hq (up := false) ((decide_eq_false (fun q9 => q9 hs)).symm) h9
  refine q_st (st2 := [.int (sluR S false a q)]) (by rw [orN_p h1]; try rfl) ?_
  refine q_istore (pc := 68) (j := 4) [some (.ref 0), some (.int (nI a)), some (.int (nI (a + (q + 1)))), some (.int 1), some (.int (sluR S false a q)), none, none, none, none, none, none, none, none] rfl (by decide) rfl ?_
  refine q_aload_n (pc := 70) (j := 0) rfl rfl ?_
  refine q_iload_n (pc := 71) (j := 1) rfl rfl ?_
  refine q_iload_n (pc := 72) (j := 2) rfl rfl ?_
  refine q_iconst (pc := 73) 3 rfl (by decide) ?_
  refine q_iload_n (pc := 74) (j := 3) rfl rfl ?_
  refine q_isub (pc := 75) rfl ?_
  refine q_st (st2 := [.int 2, .int (nI (a + (q + 1))), .int (nI a), .ref 0]) (by rfl) ?_
  refine q_callVG (pc := 76) (as := [.int (nI a), .int (nI (a + (q + 1))), .int 2]) (rest := []) (b := 0) rfl ce_X8_slur ml_L_115 im_X8_slur se_X8_slur he.1.1 rfl rfl rfl (by decide) (Nat.le_of_ble_eq_true rfl) (sp_X8_slur he.1 (fl_iv hi hf)) (fun r9 S9 h9 => ?_)
  obtain ⟨rfl, hf⟩ := rd_slu2 hi hf hb hq h9
  refine q_istore (pc := 79) (j := 5) [some (.ref 0), some (.int (nI a)), some (.int (nI (a + (q + 1)))), some (.int 1), some (.int (sluR S false a q)), some (.int (orN (sluR S true a q))), none, none, none, none, none, none, none] rfl (by decide) rfl ?_
  refine q_iload (pc := 81) (j := 4) rfl rfl ?_
  refine q_aload_n (pc := 83) (j := 0) rfl rfl ?_
  refine q_iload_n (pc := 84) (j := 1) rfl rfl ?_
  refine q_iload_n (pc := 85) (j := 2) rfl rfl ?_
  refine q_iconst (pc := 86) 2 rfl (by decide) ?_
  refine q_iload_n (pc := 87) (j := 3) rfl rfl ?_
  refine q_iadd (pc := 88) rfl ?_
  refine q_st (st2 := [.int 3, .int (nI (a + (q + 1))), .int (nI a), .ref 0, .int (sluR S false a q)]) (by rfl) ?_
  refine q_callVG (pc := 89) (as := [.int (nI a), .int (nI (a + (q + 1))), .int 3]) (rest := [.int (sluR S false a q)]) (b := 0) rfl ce_X8_slur ml_L_115 im_X8_slur se_X8_slur he.1.1 rfl rfl rfl (by decide) (Nat.le_of_ble_eq_true rfl) (sp_X8_slur he.1 (fl_iv hi hf)) (fun r9 S9 h9 => ?_)
  obtain ⟨rfl, hf⟩ := rd_slu3 hi hf hb hq h9
  refine q_icmp_ne (pc := 92) 123 rfl (by decide) (fun h9 => absurd h9 (fun q9 => q9 (orN_p h1).symm)) (fun _ => ?_)
  refine q_iload (pc := 95) (j := 5) rfl rfl ?_
  refine q_ldc (pc := 97) (v := (-2147483002)) rfl kc_L_71 ?_
  refine q_icmp_eq (pc := 99) 125 rfl (by decide) (fun h99 => ?_) (fun h99 => ?_)
  · refine q_iconst (pc := 125) 0 rfl (by decide) ?_
    refine q_istore (pc := 126) (j := 6) [some (.ref 0), some (.int (nI a)), some (.int (nI (a + (q + 1)))), some (.int 1), some (.int (sluR S false a q)), some (.int (orN (sluR S true a q))), some (.int 0), none, none, none, none, none, none] rfl (by decide) rfl ?_
    rcases Bool.eq_false_or_eq_true (decide ((sluR S false a q) ≤ 0)) with hp | hp
    · refine q_iload (pc := 128) (j := 6) rfl rfl ?_
      refine q_iload (pc := 130) (j := 4) rfl rfl ?_
      refine q_if_le (pc := 132) 139 rfl (by decide) (fun _ => ?_) (fun h9 => absurd (of_decide_eq_true hp) h9)
      refine q_iconst (pc := 139) 1 rfl (by decide) ?_
      refine q_icmp_ge (pc := 140) 317 rfl (by decide) (fun h9 => absurd h9 (by decide : ¬ (1 : Int32) ≤ (0 : Int32))) (fun _ => ?_)
      refine q_iconst (pc := 143) 1 rfl (by decide) ?_
      refine q_istore (pc := 144) (j := 7) [some (.ref 0), some (.int (nI a)), some (.int (nI (a + (q + 1)))), some (.int 1), some (.int (sluR S false a q)), some (.int (orN (sluR S true a q))), some (.int 0), some (.int 1), none, none, none, none, none] rfl (by decide) rfl ?_
      refine q_iload_n (pc := 146) (j := 2) rfl rfl ?_
      refine q_iload_n (pc := 147) (j := 1) rfl rfl ?_
      refine q_isub (pc := 148) rfl ?_
      refine q_iconst (pc := 149) 1 rfl (by decide) ?_
      refine q_isub (pc := 150) rfl ?_
      refine q_st (st2 := [.int (nI q)]) (by rw [show nI (a + (q + 1)) - nI a - 1 = nI q from (by rw [pk_sub (by omega), Nat.add_sub_cancel_left]; exact nI_pred q)]; try rfl) ?_
      refine q_istore (pc := 151) (j := 8) [some (.ref 0), some (.int (nI a)), some (.int (nI (a + (q + 1)))), some (.int 1), some (.int (sluR S false a q)), some (.int (orN (sluR S true a q))), some (.int 0), some (.int 1), some (.int (nI q)), none, none, none, none] rfl (by decide) rfl ?_
      refine q_iconst (pc := 153) 1 rfl (by decide) ?_
      refine q_istore (pc := 154) (j := 9) [some (.ref 0), some (.int (nI a)), some (.int (nI (a + (q + 1)))), some (.int 1), some (.int (sluR S false a q)), some (.int (orN (sluR S true a q))), some (.int 0), some (.int 1), some (.int (nI q)), some (.int 1), none, none, none] rfl (by decide) rfl ?_
      refine q_L rfl (lp_L_slur1 (h := (sluR S false a q)) (ot := (orN (sluR S true a q))) (ls := 0) (by decide) he hi hN hb hq (fun f10 f11 f12 T hf => ?_) q 0 none none none _ (Nat.zero_add _) hf)
      refine q_iload (pc := 294) (j := 7) rfl rfl ?_
      refine q_iload (pc := 296) (j := 6) rfl rfl ?_
      refine q_if_ne (pc := 298) 305 rfl (by decide) (fun h9 => absurd h9 (by decide : ¬ ¬ (0 : Int32) = 0)) (fun _ => ?_)
      refine q_iconst (pc := 301) 1 rfl (by decide) ?_
      refine q_goto (pc := 302) 306 rfl (by decide) ?_
      refine q_icmp_eq (pc := 306) 311 rfl (by decide) (fun _ => ?_) (fun h9 => absurd (by rw [show (clV (S.1 3) false a q (sluR S false a q) 0 q) = true from cl_0 (up := false) hi.2.2.1 hb (by omega) q (Nat.le_refl q)]; rfl) h9)
      refine q_iinc (pc := 311) (j := 6) (n := 1) 1 [some (.ref 0), some (.int (nI a)), some (.int (nI (a + (q + 1)))), some (.int 1), some (.int (sluR S false a q)), some (.int (orN (sluR S true a q))), some (.int 1), some (.int (pB (clV (S.1 3) false a q (sluR S false a q) 0 q))), some (.int (nI q)), some (.int (nI (q + 1))), f10, f11, f12] rfl (by decide) rfl (by decide) rfl ?_
      refine q_goto (pc := 314) 128 rfl (by decide) ?_
      refine q_iload (pc := 128) (j := 6) rfl rfl ?_
      refine q_iload (pc := 130) (j := 4) rfl rfl ?_
      refine q_if_le (pc := 132) 139 rfl (by decide) (fun _ => ?_) (fun h9 => absurd (of_decide_eq_true hp) h9)
      refine q_iconst (pc := 139) 1 rfl (by decide) ?_
      refine q_icmp_ge (pc := 140) 317 rfl (by decide) (fun _ => ?_) (fun h9 => absurd (by decide : (1 : Int32) ≤ (1 : Int32)) h9)
      refine q_iconst (pc := 317) 1 rfl (by decide) ?_
      exact q_zret (pc := 318) rfl rfl rfl ⟨rfl, hf⟩
    · refine q_iload (pc := 128) (j := 6) rfl rfl ?_
      refine q_iload (pc := 130) (j := 4) rfl rfl ?_
      refine q_if_le (pc := 132) 139 rfl (by decide) (fun h9 => absurd h9 (of_decide_eq_false hp)) (fun _ => ?_)
      refine q_iconst (pc := 135) 2 rfl (by decide) ?_
      refine q_goto (pc := 136) 140 rfl (by decide) ?_
      refine q_icmp_ge (pc := 140) 317 rfl (by decide) (fun h9 => absurd h9 (by decide : ¬ (2 : Int32) ≤ (0 : Int32))) (fun _ => ?_)
      refine q_iconst (pc := 143) 1 rfl (by decide) ?_
      refine q_istore (pc := 144) (j := 7) [some (.ref 0), some (.int (nI a)), some (.int (nI (a + (q + 1)))), some (.int 1), some (.int (sluR S false a q)), some (.int (orN (sluR S true a q))), some (.int 0), some (.int 1), none, none, none, none, none] rfl (by decide) rfl ?_
      refine q_iload_n (pc := 146) (j := 2) rfl rfl ?_
      refine q_iload_n (pc := 147) (j := 1) rfl rfl ?_
      refine q_isub (pc := 148) rfl ?_
      refine q_iconst (pc := 149) 1 rfl (by decide) ?_
      refine q_isub (pc := 150) rfl ?_
      refine q_st (st2 := [.int (nI q)]) (by rw [show nI (a + (q + 1)) - nI a - 1 = nI q from (by rw [pk_sub (by omega), Nat.add_sub_cancel_left]; exact nI_pred q)]; try rfl) ?_
      refine q_istore (pc := 151) (j := 8) [some (.ref 0), some (.int (nI a)), some (.int (nI (a + (q + 1)))), some (.int 1), some (.int (sluR S false a q)), some (.int (orN (sluR S true a q))), some (.int 0), some (.int 1), some (.int (nI q)), none, none, none, none] rfl (by decide) rfl ?_
      refine q_iconst (pc := 153) 1 rfl (by decide) ?_
      refine q_istore (pc := 154) (j := 9) [some (.ref 0), some (.int (nI a)), some (.int (nI (a + (q + 1)))), some (.int 1), some (.int (sluR S false a q)), some (.int (orN (sluR S true a q))), some (.int 0), some (.int 1), some (.int (nI q)), some (.int 1), none, none, none] rfl (by decide) rfl ?_
      refine q_L rfl (lp_L_slur1 (h := (sluR S false a q)) (ot := (orN (sluR S true a q))) (ls := 0) (by decide) he hi hN hb hq (fun f10 f11 f12 T hf => ?_) q 0 none none none _ (Nat.zero_add _) hf)
      refine q_iload (pc := 294) (j := 7) rfl rfl ?_
      refine q_iload (pc := 296) (j := 6) rfl rfl ?_
      refine q_if_ne (pc := 298) 305 rfl (by decide) (fun h9 => absurd h9 (by decide : ¬ ¬ (0 : Int32) = 0)) (fun _ => ?_)
      refine q_iconst (pc := 301) 1 rfl (by decide) ?_
      refine q_goto (pc := 302) 306 rfl (by decide) ?_
      refine q_icmp_eq (pc := 306) 311 rfl (by decide) (fun _ => ?_) (fun h9 => absurd (by rw [show (clV (S.1 3) false a q (sluR S false a q) 0 q) = true from cl_0 (up := false) hi.2.2.1 hb (by omega) q (Nat.le_refl q)]; rfl) h9)
      refine q_iinc (pc := 311) (j := 6) (n := 1) 1 [some (.ref 0), some (.int (nI a)), some (.int (nI (a + (q + 1)))), some (.int 1), some (.int (sluR S false a q)), some (.int (orN (sluR S true a q))), some (.int 1), some (.int (pB (clV (S.1 3) false a q (sluR S false a q) 0 q))), some (.int (nI q)), some (.int (nI (q + 1))), f10, f11, f12] rfl (by decide) rfl (by decide) rfl ?_
      refine q_goto (pc := 314) 128 rfl (by decide) ?_
      refine q_iload (pc := 128) (j := 6) rfl rfl ?_
      refine q_iload (pc := 130) (j := 4) rfl rfl ?_
      refine q_if_le (pc := 132) 139 rfl (by decide) (fun h9 => absurd h9 (of_decide_eq_false hp)) (fun _ => ?_)
      refine q_iconst (pc := 135) 2 rfl (by decide) ?_
      refine q_goto (pc := 136) 140 rfl (by decide) ?_
      refine q_icmp_ge (pc := 140) 317 rfl (by decide) (fun h9 => absurd h9 (by decide : ¬ (2 : Int32) ≤ (1 : Int32))) (fun _ => ?_)
      refine q_iconst (pc := 143) 1 rfl (by decide) ?_
      refine q_istore (pc := 144) (j := 7) [some (.ref 0), some (.int (nI a)), some (.int (nI (a + (q + 1)))), some (.int 1), some (.int (sluR S false a q)), some (.int (orN (sluR S true a q))), some (.int 1), some (.int 1), some (.int (nI q)), some (.int (nI (q + 1))), f10, f11, f12] rfl (by decide) rfl ?_
      refine q_iload_n (pc := 146) (j := 2) rfl rfl ?_
      refine q_iload_n (pc := 147) (j := 1) rfl rfl ?_
      refine q_isub (pc := 148) rfl ?_
      refine q_iconst (pc := 149) 1 rfl (by decide) ?_
      refine q_isub (pc := 150) rfl ?_
      refine q_st (st2 := [.int (nI q)]) (by rw [show nI (a + (q + 1)) - nI a - 1 = nI q from (by rw [pk_sub (by omega), Nat.add_sub_cancel_left]; exact nI_pred q)]; try rfl) ?_
      refine q_istore (pc := 151) (j := 8) [some (.ref 0), some (.int (nI a)), some (.int (nI (a + (q + 1)))), some (.int 1), some (.int (sluR S false a q)), some (.int (orN (sluR S true a q))), some (.int 1), some (.int 1), some (.int (nI q)), some (.int (nI (q + 1))), f10, f11, f12] rfl (by decide) rfl ?_
      refine q_iconst (pc := 153) 1 rfl (by decide) ?_
      refine q_istore (pc := 154) (j := 9) [some (.ref 0), some (.int (nI a)), some (.int (nI (a + (q + 1)))), some (.int 1), some (.int (sluR S false a q)), some (.int (orN (sluR S true a q))), some (.int 1), some (.int 1), some (.int (nI q)), some (.int 1), f10, f11, f12] rfl (by decide) rfl ?_
      refine q_L rfl (lp_L_slur1 (h := (sluR S false a q)) (ot := (orN (sluR S true a q))) (ls := 1) (by decide) he hi hN hb hq (fun f10 f11 f12 T hf => ?_) q 0 f10 f11 f12 _ (Nat.zero_add _) hf)
      refine q_iload (pc := 294) (j := 7) rfl rfl ?_
      refine q_iload (pc := 296) (j := 6) rfl rfl ?_
      refine q_if_ne (pc := 298) 305 rfl (by decide) (fun _ => ?_) (fun h9 => absurd h9 (by decide : (1 : Int32) = 0 → False))
      refine q_iconst (pc := 305) 0 rfl (by decide) ?_
      refine q_icmp_eq (pc := 306) 311 rfl (by decide) (fun _ => ?_) (fun h9 => absurd (by rw [show (clV (S.1 3) false a q (sluR S false a q) 1 q) = false from cl_1 (up := false) hi.2.2.1 hb (by omega) (of_decide_eq_false hp)]; rfl) h9)
      refine q_iinc (pc := 311) (j := 6) (n := 1) 2 [some (.ref 0), some (.int (nI a)), some (.int (nI (a + (q + 1)))), some (.int 1), some (.int (sluR S false a q)), some (.int (orN (sluR S true a q))), some (.int 2), some (.int (pB (clV (S.1 3) false a q (sluR S false a q) 1 q))), some (.int (nI q)), some (.int (nI (q + 1))), f10, f11, f12] rfl (by decide) rfl (by decide) rfl ?_
      refine q_goto (pc := 314) 128 rfl (by decide) ?_
      refine q_iload (pc := 128) (j := 6) rfl rfl ?_
      refine q_iload (pc := 130) (j := 4) rfl rfl ?_
      refine q_if_le (pc := 132) 139 rfl (by decide) (fun h9 => absurd h9 (of_decide_eq_false hp)) (fun _ => ?_)
      refine q_iconst (pc := 135) 2 rfl (by decide) ?_
      refine q_goto (pc := 136) 140 rfl (by decide) ?_
      refine q_icmp_ge (pc := 140) 317 rfl (by decide) (fun _ => ?_) (fun h9 => absurd (by decide : (2 : Int32) ≤ (2 : Int32)) h9)
      refine q_iconst (pc := 317) 1 rfl (by decide) ?_
      exact q_zret (pc := 318) rfl rfl rfl ⟨rfl, hf⟩
  · refine q_iload_n (pc := 102) (j := 3) rfl rfl ?_
    refine q_if_ne (pc := 103) 116 rfl (by decide) (fun _ => ?_) (fun h9 => absurd h9 (by decide : (1 : Int32) = 0 → False))
    refine q_iload (pc := 116) (j := 5) rfl rfl ?_
    refine q_iload (pc := 118) (j := 4) rfl rfl ?_
    refine q_icmp_gt (pc := 120) 125 rfl (by decide) (fun _ => ?_) (fun h9 => absurd (hlt h99) h9)
    refine q_iconst (pc := 125) 0 rfl (by decide) ?_
    refine q_istore (pc := 126) (j := 6) [some (.ref 0), some (.int (nI a)), some (.int (nI (a + (q + 1)))), some (.int 1), some (.int (sluR S false a q)), some (.int (orN (sluR S true a q))), some (.int 0), none, none, none, none, none, none] rfl (by decide) rfl ?_
    rcases Bool.eq_false_or_eq_true (decide ((sluR S false a q) ≤ 0)) with hp | hp
    · refine q_iload (pc := 128) (j := 6) rfl rfl ?_
      refine q_iload (pc := 130) (j := 4) rfl rfl ?_
      refine q_if_le (pc := 132) 139 rfl (by decide) (fun _ => ?_) (fun h9 => absurd (of_decide_eq_true hp) h9)
      refine q_iconst (pc := 139) 1 rfl (by decide) ?_
      refine q_icmp_ge (pc := 140) 317 rfl (by decide) (fun h9 => absurd h9 (by decide : ¬ (1 : Int32) ≤ (0 : Int32))) (fun _ => ?_)
      refine q_iconst (pc := 143) 1 rfl (by decide) ?_
      refine q_istore (pc := 144) (j := 7) [some (.ref 0), some (.int (nI a)), some (.int (nI (a + (q + 1)))), some (.int 1), some (.int (sluR S false a q)), some (.int (orN (sluR S true a q))), some (.int 0), some (.int 1), none, none, none, none, none] rfl (by decide) rfl ?_
      refine q_iload_n (pc := 146) (j := 2) rfl rfl ?_
      refine q_iload_n (pc := 147) (j := 1) rfl rfl ?_
      refine q_isub (pc := 148) rfl ?_
      refine q_iconst (pc := 149) 1 rfl (by decide) ?_
      refine q_isub (pc := 150) rfl ?_
      refine q_st (st2 := [.int (nI q)]) (by rw [show nI (a + (q + 1)) - nI a - 1 = nI q from (by rw [pk_sub (by omega), Nat.add_sub_cancel_left]; exact nI_pred q)]; try rfl) ?_
      refine q_istore (pc := 151) (j := 8) [some (.ref 0), some (.int (nI a)), some (.int (nI (a + (q + 1)))), some (.int 1), some (.int (sluR S false a q)), some (.int (orN (sluR S true a q))), some (.int 0), some (.int 1), some (.int (nI q)), none, none, none, none] rfl (by decide) rfl ?_
      refine q_iconst (pc := 153) 1 rfl (by decide) ?_
      refine q_istore (pc := 154) (j := 9) [some (.ref 0), some (.int (nI a)), some (.int (nI (a + (q + 1)))), some (.int 1), some (.int (sluR S false a q)), some (.int (orN (sluR S true a q))), some (.int 0), some (.int 1), some (.int (nI q)), some (.int 1), none, none, none] rfl (by decide) rfl ?_
      refine q_L rfl (lp_L_slur1 (h := (sluR S false a q)) (ot := (orN (sluR S true a q))) (ls := 0) (by decide) he hi hN hb hq (fun f10 f11 f12 T hf => ?_) q 0 none none none _ (Nat.zero_add _) hf)
      refine q_iload (pc := 294) (j := 7) rfl rfl ?_
      refine q_iload (pc := 296) (j := 6) rfl rfl ?_
      refine q_if_ne (pc := 298) 305 rfl (by decide) (fun h9 => absurd h9 (by decide : ¬ ¬ (0 : Int32) = 0)) (fun _ => ?_)
      refine q_iconst (pc := 301) 1 rfl (by decide) ?_
      refine q_goto (pc := 302) 306 rfl (by decide) ?_
      refine q_icmp_eq (pc := 306) 311 rfl (by decide) (fun _ => ?_) (fun h9 => absurd (by rw [show (clV (S.1 3) false a q (sluR S false a q) 0 q) = true from cl_0 (up := false) hi.2.2.1 hb (by omega) q (Nat.le_refl q)]; rfl) h9)
      refine q_iinc (pc := 311) (j := 6) (n := 1) 1 [some (.ref 0), some (.int (nI a)), some (.int (nI (a + (q + 1)))), some (.int 1), some (.int (sluR S false a q)), some (.int (orN (sluR S true a q))), some (.int 1), some (.int (pB (clV (S.1 3) false a q (sluR S false a q) 0 q))), some (.int (nI q)), some (.int (nI (q + 1))), f10, f11, f12] rfl (by decide) rfl (by decide) rfl ?_
      refine q_goto (pc := 314) 128 rfl (by decide) ?_
      refine q_iload (pc := 128) (j := 6) rfl rfl ?_
      refine q_iload (pc := 130) (j := 4) rfl rfl ?_
      refine q_if_le (pc := 132) 139 rfl (by decide) (fun _ => ?_) (fun h9 => absurd (of_decide_eq_true hp) h9)
      refine q_iconst (pc := 139) 1 rfl (by decide) ?_
      refine q_icmp_ge (pc := 140) 317 rfl (by decide) (fun _ => ?_) (fun h9 => absurd (by decide : (1 : Int32) ≤ (1 : Int32)) h9)
      refine q_iconst (pc := 317) 1 rfl (by decide) ?_
      exact q_zret (pc := 318) rfl rfl rfl ⟨rfl, hf⟩
    · refine q_iload (pc := 128) (j := 6) rfl rfl ?_
      refine q_iload (pc := 130) (j := 4) rfl rfl ?_
      refine q_if_le (pc := 132) 139 rfl (by decide) (fun h9 => absurd h9 (of_decide_eq_false hp)) (fun _ => ?_)
      refine q_iconst (pc := 135) 2 rfl (by decide) ?_
      refine q_goto (pc := 136) 140 rfl (by decide) ?_
      refine q_icmp_ge (pc := 140) 317 rfl (by decide) (fun h9 => absurd h9 (by decide : ¬ (2 : Int32) ≤ (0 : Int32))) (fun _ => ?_)
      refine q_iconst (pc := 143) 1 rfl (by decide) ?_
      refine q_istore (pc := 144) (j := 7) [some (.ref 0), some (.int (nI a)), some (.int (nI (a + (q + 1)))), some (.int 1), some (.int (sluR S false a q)), some (.int (orN (sluR S true a q))), some (.int 0), some (.int 1), none, none, none, none, none] rfl (by decide) rfl ?_
      refine q_iload_n (pc := 146) (j := 2) rfl rfl ?_
      refine q_iload_n (pc := 147) (j := 1) rfl rfl ?_
      refine q_isub (pc := 148) rfl ?_
      refine q_iconst (pc := 149) 1 rfl (by decide) ?_
      refine q_isub (pc := 150) rfl ?_
      refine q_st (st2 := [.int (nI q)]) (by rw [show nI (a + (q + 1)) - nI a - 1 = nI q from (by rw [pk_sub (by omega), Nat.add_sub_cancel_left]; exact nI_pred q)]; try rfl) ?_
      refine q_istore (pc := 151) (j := 8) [some (.ref 0), some (.int (nI a)), some (.int (nI (a + (q + 1)))), some (.int 1), some (.int (sluR S false a q)), some (.int (orN (sluR S true a q))), some (.int 0), some (.int 1), some (.int (nI q)), none, none, none, none] rfl (by decide) rfl ?_
      refine q_iconst (pc := 153) 1 rfl (by decide) ?_
      refine q_istore (pc := 154) (j := 9) [some (.ref 0), some (.int (nI a)), some (.int (nI (a + (q + 1)))), some (.int 1), some (.int (sluR S false a q)), some (.int (orN (sluR S true a q))), some (.int 0), some (.int 1), some (.int (nI q)), some (.int 1), none, none, none] rfl (by decide) rfl ?_
      refine q_L rfl (lp_L_slur1 (h := (sluR S false a q)) (ot := (orN (sluR S true a q))) (ls := 0) (by decide) he hi hN hb hq (fun f10 f11 f12 T hf => ?_) q 0 none none none _ (Nat.zero_add _) hf)
      refine q_iload (pc := 294) (j := 7) rfl rfl ?_
      refine q_iload (pc := 296) (j := 6) rfl rfl ?_
      refine q_if_ne (pc := 298) 305 rfl (by decide) (fun h9 => absurd h9 (by decide : ¬ ¬ (0 : Int32) = 0)) (fun _ => ?_)
      refine q_iconst (pc := 301) 1 rfl (by decide) ?_
      refine q_goto (pc := 302) 306 rfl (by decide) ?_
      refine q_icmp_eq (pc := 306) 311 rfl (by decide) (fun _ => ?_) (fun h9 => absurd (by rw [show (clV (S.1 3) false a q (sluR S false a q) 0 q) = true from cl_0 (up := false) hi.2.2.1 hb (by omega) q (Nat.le_refl q)]; rfl) h9)
      refine q_iinc (pc := 311) (j := 6) (n := 1) 1 [some (.ref 0), some (.int (nI a)), some (.int (nI (a + (q + 1)))), some (.int 1), some (.int (sluR S false a q)), some (.int (orN (sluR S true a q))), some (.int 1), some (.int (pB (clV (S.1 3) false a q (sluR S false a q) 0 q))), some (.int (nI q)), some (.int (nI (q + 1))), f10, f11, f12] rfl (by decide) rfl (by decide) rfl ?_
      refine q_goto (pc := 314) 128 rfl (by decide) ?_
      refine q_iload (pc := 128) (j := 6) rfl rfl ?_
      refine q_iload (pc := 130) (j := 4) rfl rfl ?_
      refine q_if_le (pc := 132) 139 rfl (by decide) (fun h9 => absurd h9 (of_decide_eq_false hp)) (fun _ => ?_)
      refine q_iconst (pc := 135) 2 rfl (by decide) ?_
      refine q_goto (pc := 136) 140 rfl (by decide) ?_
      refine q_icmp_ge (pc := 140) 317 rfl (by decide) (fun h9 => absurd h9 (by decide : ¬ (2 : Int32) ≤ (1 : Int32))) (fun _ => ?_)
      refine q_iconst (pc := 143) 1 rfl (by decide) ?_
      refine q_istore (pc := 144) (j := 7) [some (.ref 0), some (.int (nI a)), some (.int (nI (a + (q + 1)))), some (.int 1), some (.int (sluR S false a q)), some (.int (orN (sluR S true a q))), some (.int 1), some (.int 1), some (.int (nI q)), some (.int (nI (q + 1))), f10, f11, f12] rfl (by decide) rfl ?_
      refine q_iload_n (pc := 146) (j := 2) rfl rfl ?_
      refine q_iload_n (pc := 147) (j := 1) rfl rfl ?_
      refine q_isub (pc := 148) rfl ?_
      refine q_iconst (pc := 149) 1 rfl (by decide) ?_
      refine q_isub (pc := 150) rfl ?_
      refine q_st (st2 := [.int (nI q)]) (by rw [show nI (a + (q + 1)) - nI a - 1 = nI q from (by rw [pk_sub (by omega), Nat.add_sub_cancel_left]; exact nI_pred q)]; try rfl) ?_
      refine q_istore (pc := 151) (j := 8) [some (.ref 0), some (.int (nI a)), some (.int (nI (a + (q + 1)))), some (.int 1), some (.int (sluR S false a q)), some (.int (orN (sluR S true a q))), some (.int 1), some (.int 1), some (.int (nI q)), some (.int (nI (q + 1))), f10, f11, f12] rfl (by decide) rfl ?_
      refine q_iconst (pc := 153) 1 rfl (by decide) ?_
      refine q_istore (pc := 154) (j := 9) [some (.ref 0), some (.int (nI a)), some (.int (nI (a + (q + 1)))), some (.int 1), some (.int (sluR S false a q)), some (.int (orN (sluR S true a q))), some (.int 1), some (.int 1), some (.int (nI q)), some (.int 1), f10, f11, f12] rfl (by decide) rfl ?_
      refine q_L rfl (lp_L_slur1 (h := (sluR S false a q)) (ot := (orN (sluR S true a q))) (ls := 1) (by decide) he hi hN hb hq (fun f10 f11 f12 T hf => ?_) q 0 f10 f11 f12 _ (Nat.zero_add _) hf)
      refine q_iload (pc := 294) (j := 7) rfl rfl ?_
      refine q_iload (pc := 296) (j := 6) rfl rfl ?_
      refine q_if_ne (pc := 298) 305 rfl (by decide) (fun _ => ?_) (fun h9 => absurd h9 (by decide : (1 : Int32) = 0 → False))
      refine q_iconst (pc := 305) 0 rfl (by decide) ?_
      refine q_icmp_eq (pc := 306) 311 rfl (by decide) (fun _ => ?_) (fun h9 => absurd (by rw [show (clV (S.1 3) false a q (sluR S false a q) 1 q) = false from cl_1 (up := false) hi.2.2.1 hb (by omega) (of_decide_eq_false hp)]; rfl) h9)
      refine q_iinc (pc := 311) (j := 6) (n := 1) 2 [some (.ref 0), some (.int (nI a)), some (.int (nI (a + (q + 1)))), some (.int 1), some (.int (sluR S false a q)), some (.int (orN (sluR S true a q))), some (.int 2), some (.int (pB (clV (S.1 3) false a q (sluR S false a q) 1 q))), some (.int (nI q)), some (.int (nI (q + 1))), f10, f11, f12] rfl (by decide) rfl (by decide) rfl ?_
      refine q_goto (pc := 314) 128 rfl (by decide) ?_
      refine q_iload (pc := 128) (j := 6) rfl rfl ?_
      refine q_iload (pc := 130) (j := 4) rfl rfl ?_
      refine q_if_le (pc := 132) 139 rfl (by decide) (fun h9 => absurd h9 (of_decide_eq_false hp)) (fun _ => ?_)
      refine q_iconst (pc := 135) 2 rfl (by decide) ?_
      refine q_goto (pc := 136) 140 rfl (by decide) ?_
      refine q_icmp_ge (pc := 140) 317 rfl (by decide) (fun _ => ?_) (fun h9 => absurd (by decide : (2 : Int32) ≤ (2 : Int32)) h9)
      refine q_iconst (pc := 317) 1 rfl (by decide) ?_
      exact q_zret (pc := 318) rfl rfl rfl ⟨rfl, hf⟩
theorem sp_L_slur {sh : List PSh} {S : PSt} {N : Nat} (he : isLw sh) (hi : cIv S N) (hN : N ≤ 20) {a m : Nat} (hb : a + m < N) {T0 : PSt} (hf : frL S T0) : pG mL_slur 5 [.ref 0, .int (nI a), .int (nI (a + m))] sh T0 (fun r U => r = some (.int 1) ∧ frL S U) := by
  by_cases hm : m < 2
  · exact sp_L_slurS he hi hN hb hm hf
  · obtain ⟨q, rfl⟩ : ∃ q, m = q + 1 := ⟨m - 1, by omega⟩
    have hq : 1 ≤ q := by omega
    have r1 : 0 ≤ (sluR S true a q).toInt ∧ _ := slu_r (up := true) hi.2.2.1 hb (by omega)
    have r2 : 0 ≤ (sluR S false a q).toInt ∧ _ := slu_r (up := false) hi.2.2.1 hb (by omega)
    by_cases h1 : pWi (sluR S true a q) 0 40 = true ∨ pWi (sluR S false a q) 0 40 = true
    · by_cases hs : sluR S false a q < sluR S true a q
      · refine sp_L_slur1 he hi hN hb hq ?_ hs hf
        rcases h1 with h1 | h1
        · rw [pWi_40 r1.1] at h1
          rw [pWi_40 r2.1]
          have := Int32.lt_iff_toInt_lt.mp hs
          omega
        · exact h1
      · refine sp_L_slur0 he hi hN hb hq ?_ hs hf
        rcases h1 with h1 | h1
        · exact h1
        · rw [pWi_40 r2.1] at h1
          rw [pWi_40 r1.1]
          have := mt Int32.lt_iff_toInt_lt.mpr hs
          omega
    · exact sp_L_slurN he hi hN hb hq h1 hf
