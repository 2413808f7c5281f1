/-! the law's beam: written by wip/p37/gen/c55.py -/
theorem min_v {x y : UInt32} (hx : fF x) (hy : fF y) : fF (minF x y) ∧ (minF x y = x ∨ minF x y = y) ∧ fz (minF x y) ≤ fz x ∧ fz (minF x y) ≤ fz y := by
  have hc := cmp_some hx hy
  have key : (minF x y = x ∨ minF x y = y) ∧ fz (minF x y) ≤ fz x ∧ fz (minF x y) ≤ fz y := by
    unfold minF Native.java_lang_Math.nans.pick32
    rw [hc]
    by_cases h1 : fz x < fz y
    · rw [show compare (fz x) (fz y) = .lt from Std.compare_eq_lt.mpr h1]
      exact ⟨Or.inl rfl, Int.le_refl _, Int.le_of_lt h1⟩
    · by_cases h2 : fz y < fz x
      · rw [show compare (fz x) (fz y) = .gt from Std.compare_eq_gt.mpr h2]
        exact ⟨Or.inr rfl, Int.le_of_lt h2, Int.le_refl _⟩
      · have e : fz x = fz y := by omega
        rw [show compare (fz x) (fz y) = .eq from (FP.Core.compare_eq_iff _ _).mpr e]
        dsimp only
        split
        · exact ⟨Or.inr rfl, by omega, Int.le_refl _⟩
        · exact ⟨Or.inl rfl, Int.le_refl _, by omega⟩
  refine ⟨?_, key⟩
  rcases key.1 with h | h
  · rw [h]; exact hx
  · rw [h]; exact hy
def nrV (f : Nat → UInt32) : Nat → UInt32
  | 0 => 1148846080
  | k + 1 => minF (nrV f k) (f k)
theorem c1000 : fF 1148846080 ∧ fz 1084185641 < fz 1148846080 := ⟨(fF_bits _).mpr (by decide), by decide +kernel⟩
theorem c4985 : fF 1084185641 ∧ fF 1084269527 := ⟨(fF_bits _).mpr (by decide), (fF_bits _).mpr (by decide)⟩
theorem nr_v {f : Nat → UInt32} {n : Nat} (h : ∀ k, k < n → fF (f k) ∧ fz 1084185641 < fz (f k)) : ∀ k, k ≤ n → fF (nrV f k) ∧ fz 1084185641 < fz (nrV f k) ∧ ∀ j, j < k → fz (nrV f k) ≤ fz (f j) := by
  intro k
  induction k with
  | zero => intro _; exact ⟨c1000.1, c1000.2, fun j hj => absurd hj (Nat.not_lt_zero j)⟩
  | succ k ih =>
    intro hk
    obtain ⟨i1, i2, i3⟩ := ih (by omega)
    obtain ⟨f1, f2⟩ := h k (by omega)
    obtain ⟨m1, m2, m3, m4⟩ := min_v i1 f1
    refine ⟨m1, ?_, fun j hj => ?_⟩
    · show fz 1084185641 < fz (minF (nrV f k) (f k))
      rcases m2 with e | e
      · rw [e]; exact i2
      · rw [e]; exact f2
    · by_cases e : j = k
      · subst e; exact m4
      · exact Int.le_trans m3 (i3 j (by omega))
theorem e45 (x : Nat) : (4 : Int32) + 5 * nI x = nI (4 + 5 * x) := by
  show _ = Int32.ofNat (4 + 5 * x)
  rw [Int32.ofNat_add, Int32.ofNat_mul]
  rfl
def buP (S : PSt) (a m : Nat) : Bool := upV (S.1 3) a (m + 1)
def buS (S : PSt) (a m : Nat) : UInt32 := sloV (S.1 3) (S.1 1 2) a (a + m)
def buL (S : PSt) (a m : Nat) : UInt32 := lifV (S.1 3) (S.1 1 2) a (a + m)
def buB (S : PSt) (a m k : Nat) : UInt32 := byC (buP S a m) (buS S a m) (buL S a m) (atV (S.1 3) (S.1 1 2) a (m + 1) k) (atV (S.1 3) (S.1 1 2) a (m + 1) m) (S.1 3 (5 * (a + k) + 2))
section BEW
variable {S T U : PSt} {N : Nat} {r : Option Value} {a m : Nat}
theorem rd_beamS (hi : cIv S N) (h : frL S T) (hb : a < N) {what : Int32} (hw : pWi what 0 3 = true) (hp : pA (oBeam (T.1 3) (T.1 1 2) N (nI a) (nI (a + 0)) what) T T r U) : r = some (.int (-2147483003)) ∧ frL S U := by
  have hN := hi.2.1
  rw [Nat.add_zero, oBeam, if_pos (isSt_nI hN (by omega) (by omega)), if_pos hw, if_pos rfl] at hp
  exact rd_no h hp rfl (by decide)
theorem rd_beamK (hi : cIv S N) (h : frL S T) (h0 : 0 < m) (hb : a + m < N) {what : Int32} (hw : pWi what 0 3 = true) (hn : ¬ ntsV (S.1 3) a (m + 1) = true) (hp : pA (oBeam (T.1 3) (T.1 1 2) N (nI a) (nI (a + m)) what) T T r U) : r = some (.int (-2147483005)) ∧ frL S U := by
  have hN := hi.2.1
  rw [oBeam, if_pos (isSt_nI hN (by omega) hb), if_pos hw, if_neg (fun q9 => by have := nI_inj (by omega) (by omega) q9; omega), lnN, tN_nI (by omega), tN_nI (by omega), Nat.add_sub_cancel_left, (fl_g h).1, if_neg hn] at hp
  exact rd_no h hp rfl (by decide)
theorem rd_beam (hi : cIv S N) (h : frL S T) (h0 : 0 < m) (hb : a + m < N) {what : Int32} (hw : pWi what 0 3 = true) (hn : ntsV (S.1 3) a (m + 1) = true) (hp : pA (oBeam (T.1 3) (T.1 1 2) N (nI a) (nI (a + m)) what) T T r U) : r = some (.int (beaA (S.1 3) (S.1 1 2) a (a + m) what)) ∧ frL S U := by
  have hN := hi.2.1
  rw [oBeam, if_pos (isSt_nI hN (by omega) hb), if_pos hw, if_neg (fun q9 => by have := nI_inj (by omega) (by omega) q9; omega), lnN, tN_nI (by omega), tN_nI (by omega), Nat.add_sub_cancel_left, (fl_g h).1, if_pos hn, (fl_g h).2.1] at hp
  exact rd_ok h hp rfl
theorem rd_beam2 (hi : cIv S N) (h : frL S T) (h0 : 0 < m) (hb : a + m < N) (hn : ntsV (S.1 3) a (m + 1) = true) (hp : pA (oBeam (T.1 3) (T.1 1 2) N (nI a) (nI (a + m)) 2) T T r U) : r = some (.int (pB (buP S a m))) ∧ frL S U := by
  have h2 := rd_beam hi h h0 hb (by decide) hn hp
  rw [show beaA (S.1 3) (S.1 1 2) a (a + m) 2 = pB (upV (S.1 3) a (a + m - a + 1)) from rfl, Nat.add_sub_cancel_left] at h2
  exact h2
theorem rd_beam1 (hi : cIv S N) (h : frL S T) (h0 : 0 < m) (hb : a + m < N) (hn : ntsV (S.1 3) a (m + 1) = true) (hp : pA (oBeam (T.1 3) (T.1 1 2) N (nI a) (nI (a + m)) 1) T T r U) : r = some (.int (buS S a m).toInt32) ∧ frL S U := rd_beam hi h h0 hb (by decide) hn hp
theorem rd_beam3 (hi : cIv S N) (h : frL S T) (h0 : 0 < m) (hb : a + m < N) (hn : ntsV (S.1 3) a (m + 1) = true) (hp : pA (oBeam (T.1 3) (T.1 1 2) N (nI a) (nI (a + m)) 3) T T r U) : r = some (.int (buL S a m).toInt32) ∧ frL S U := rd_beam hi h h0 hb (by decide) hn hp
theorem p_b (hi : cIv S N) (hN : N ≤ 20) (hb : a + m < N) {k : Nat} (hk : k ≤ m) : fF (atV (S.1 3) (S.1 1 2) a (m + 1) k) ∧ 0 ≤ fz (atV (S.1 3) (S.1 1 2) a (m + 1) k) ∧ fz (atV (S.1 3) (S.1 1 2) a (m + 1) k) ≤ ((2 ^ 162 : Nat) : Int) := by
  obtain ⟨a1, a2, -, -⟩ := atV_ok (g := S.1 3) (w := S.1 1 2) (a := a) (n := m + 1) hi.2.2.1 hi.2.2.2 (by omega) (by omega) k (by omega)
  have h := at_405 (g := S.1 3) (w := S.1 1 2) (a := a) (n := m + 1) hi.2.2.1 hi.2.2.2 (by omega) (by omega) k (by omega)
  refine ⟨a1, a2, Int.le_trans h (Int.ofNat_le.mpr ?_)⟩
  have e : (2 : Nat) ^ 162 = 8192 * 2 ^ 149 := by decide +kernel
  rw [e]
  exact Nat.mul_le_mul_right _ (by omega)
theorem bu_slo (hi : cIv S N) (hN : N ≤ 20) (h0 : 0 < m) (hb : a + m < N) : isSlo (buS S a m) := by
  have gx := (hi.2.2.1 a (by omega)).2.2.1
  have gy := (hi.2.2.1 (a + m) hb).2.2.1
  have hd : (S.1 3 (5 * (a + m) + 2) - S.1 3 (5 * a + 2)).toInt = (S.1 3 (5 * (a + m) + 2)).toInt - (S.1 3 (5 * a + 2)).toInt := i_sub (by omega) (by omega)
  obtain ⟨a1, a2, a3, a4⟩ := atV_ok (g := S.1 3) (w := S.1 1 2) (a := a) (n := m + 1) hi.2.2.1 hi.2.2.2 (by omega) (by omega) m (by omega)
  have hr := rise_b (c := S.1 3 (5 * (a + m) + 2) - S.1 3 (5 * a + 2)) (p := atV (S.1 3) (S.1 1 2) a (m + 1) m) (by omega) (by omega) a1 (a4 h0)
  unfold buS sloV risV
  rw [Nat.add_sub_cancel_left]
  exact slo_is hr.1 hr.2
theorem bu_lif : buL S a m = lifC (buP S a m) (tilC (buP S a m) (buS S a m)) (fun k => S.1 3 (5 * (a + k) + 2)) (fun k => atV (S.1 3) (S.1 1 2) a (m + 1) k) (atV (S.1 3) (S.1 1 2) a (m + 1) m) (m + 1) := by
  unfold buL lifV buP buS
  rw [Nat.add_sub_cancel_left]
theorem bu_all (hi : cIv S N) (hN : N ≤ 20) (h0 : 0 < m) (hb : a + m < N) : fF (buL S a m) ∧ (∀ k, k < m + 1 → fF (FP.fadd (buL S a m) (byA (buP S a m) (buS S a m) (atV (S.1 3) (S.1 1 2) a (m + 1) k) (atV (S.1 3) (S.1 1 2) a (m + 1) m))) ∧ fF (buB S a m k) ∧ fz 1084185641 < fz (buB S a m k)) ∧ ∃ k, k < m + 1 ∧ fz (buB S a m k) < fz 1084269527 := by
  have hb2 := by_all (up := buP S a m) (slo := buS S a m) (s := fun k => S.1 3 (5 * (a + k) + 2)) (p := fun k => atV (S.1 3) (S.1 1 2) a (m + 1) k) (pe := atV (S.1 3) (S.1 1 2) a (m + 1) m) (n := m + 1) (bu_slo hi hN h0 hb) (by omega) (fun k hk => (hi.2.2.1 (a + k) (by omega)).2.2.1) (fun k hk => p_b hi hN hb (by omega)) (p_b hi hN hb (Nat.le_refl m))
  rw [← bu_lif] at hb2
  exact hb2
theorem bu_nr (hi : cIv S N) (hN : N ≤ 20) (h0 : 0 < m) (hb : a + m < N) {k : Nat} (hk : k ≤ m + 1) : fF (nrV (buB S a m) k) ∧ fz 1084185641 < fz (nrV (buB S a m) k) := by
  obtain ⟨h1, h2, h3⟩ := bu_all hi hN h0 hb
  have h := nr_v (f := buB S a m) (n := m + 1) (fun k hk => (h2 k hk).2) k hk
  exact ⟨h.1, h.2.1⟩
theorem bu_end (hi : cIv S N) (hN : N ≤ 20) (h0 : 0 < m) (hb : a + m < N) : ¬ Op.cmpValue (FP.fcmp (nrV (buB S a m) (m + 1)) 1084185641) .l ≤ 0 ∧ ¬ 0 ≤ Op.cmpValue (FP.fcmp (nrV (buB S a m) (m + 1)) 1084269527) .g := by
  obtain ⟨h1, h2, j, h3, h4⟩ := bu_all hi hN h0 hb
  have h := nr_v (f := buB S a m) (n := m + 1) (fun k hk => (h2 k hk).2) (m + 1) (Nat.le_refl _)
  refine ⟨?_, ?_⟩
  · rw [Int32.not_le, gt_of_l, fgt_iff h.1 c4985.1]
    exact h.2.1
  · rw [Int32.not_le, lt_of_g, flt_iff h.1 c4985.2]
    exact Int.lt_of_le_of_lt (h.2.2 j h3) h4
theorem bu_by (hi : cIv S N) (hN : N ≤ 20) (h0 : 0 < m) (hb : a + m < N) {k : Nat} (hk : k < m + 1) :
    vf_n32 (FP.fsub (atV (S.1 3) (S.1 1 2) a (m + 1) k) (atV (S.1 3) (S.1 1 2) a (m + 1) m)) ∧ vf_n32 (FP.fmul (FP.fmul (sgU (buP S a m)) (buS S a m)) (FP.fsub (atV (S.1 3) (S.1 1 2) a (m + 1) k) (atV (S.1 3) (S.1 1 2) a (m + 1) m))) ∧ vf_n32 (byA (buP S a m) (buS S a m) (atV (S.1 3) (S.1 1 2) a (m + 1) k) (atV (S.1 3) (S.1 1 2) a (m + 1) m)) ∧
    vf_n32 (FP.fmul (sgU (buP S a m)) (FP.i2f (S.1 3 (5 * (a + k) + 2)))) := by
  have hp := p_b hi hN hb (show k ≤ m by omega)
  have hq := p_b hi hN hb (Nat.le_refl m)
  obtain ⟨a1, a2, a3, a4, a5, a6⟩ := byA_v (up := buP S a m) (bu_slo hi hN h0 hb) hp.1 hq.1 hp.2 hq.2
  have g := (hi.2.2.1 (a + k) (by omega)).2.2.1
  exact ⟨fF_nn a1, fF_nn a2, fF_nn a3, fF_nn (stp_v g.1 g.2 (buP S a m)).2.1⟩
end BEW
set_option maxRecDepth 100000 in
theorem lp_L_beam {n0 : Nat} {X : Nat × (Nat → Int32)} {P : Option Value → PSt → Prop} {d : Nat} (hd9 : 7 ≤ d) {sh : List PSh} {S : PSt} {N : Nat} (he : isLw sh) (hi : cIv S N) (hN : N ≤ 20) (hE : eOk S N) {a m : Nat} (h0 : 0 < m) (hb : a + m < N)  (hex : ∀ f10 T, frL S T → pV mL_beam d n0 X sh P 189 [some (.ref 0), some (.ref 70), some (.int (nI a)), some (.int (nI (a + m))), some (.int (pB (buP S a m))), some (.float (buS S a m)), some (.float (buL S a m)), some (.float (sgU (buP S a m))), some (.float (nrV (buB S a m) (m + 1))), some (.int (nI (a + (m + 1)))), f10] [] T) : ∀ (m9 k : Nat) (f10 : Option Value) (T : PSt), k + m9 = (m + 1) → frL S T → pV mL_beam d n0 X sh P 118 [some (.ref 0), some (.ref 70), some (.int (nI a)), some (.int (nI (a + m))), some (.int (pB (buP S a m))), some (.float (buS S a m)), some (.float (buL S a m)), some (.float (sgU (buP S a m))), some (.float (nrV (buB S a m) k)), some (.int (nI (a + k))), f10] [] T := by
  intro m9
  induction m9 with
  | zero =>
    intro k f10 T hk hf
    have hk9 : (m + 1) = k := by omega
    subst hk9
    refine q_iload (pc := 118) (j := 9) rfl rfl ?_
    refine q_iload_n (pc := 120) (j := 3) rfl rfl ?_
    refine q_icmp_gt (pc := 121) 189 rfl (by decide) (fun _ => ?_) (fun h9 => absurd (nI_lt (by omega) (by omega)) h9)
    exact hex _ _ hf
  | succ m9 ih =>
    intro k f10 T hk hf
    have hk1 : k < (m + 1) := by omega
    have hk2 : k < (m + 1) := hk1
    refine q_iload (pc := 118) (j := 9) rfl rfl ?_
    refine q_iload_n (pc := 120) (j := 3) rfl rfl ?_
    refine q_icmp_gt (pc := 121) 189 rfl (by decide) (fun h9 => absurd h9 (nI_nlt (by omega) (by omega))) (fun _ => ?_)
    refine q_fload (pc := 124) (j := 6) rfl rfl ?_
    refine q_fload (pc := 126) (j := 7) rfl rfl ?_
    refine q_fload (pc := 128) (j := 5) rfl rfl ?_
    refine q_fmul (pc := 130) rfl (fF_nn (tmul (bu_slo hi hN h0 hb)).2.1) ?_
    refine q_aload_n (pc := 131) (j := 0) rfl rfl ?_
    refine q_iload_n (pc := 132) (j := 2) rfl rfl ?_
    refine q_iload_n (pc := 133) (j := 3) rfl rfl ?_
    refine q_iload (pc := 134) (j := 9) rfl rfl ?_
    refine q_iconst (pc := 136) 1 rfl (by decide) ?_
    refine q_callVG (pc := 137) (as := [.int (nI a), .int (nI (a + m)), .int (nI (a + k)), .int 1]) (rest := [.float (FP.fmul (sgU (buP S a m)) (buS S a m)), .float (buL S a m)]) (b := 0) rfl ce_X8_at ml_L_40 im_X8_at se_X8_at he.1.1 rfl rfl rfl (by omega) (Nat.le_of_ble_eq_true rfl) (sp_X8_at he.1 (fl_iv hi hf)) (fun r9 S9 h9 => ?_)
    obtain ⟨rfl, hf⟩ := rk_at1 hi hf (a := a) (m := m) (k := k) (by omega) (by omega) h9
    refine q_callS (pc := 140) (as := [.int ((atV (S.1 3) (S.1 1 2) a (m + 1) k).toInt32)]) (rest := [.float (FP.fmul (sgU (buP S a m)) (buS S a m)), .float (buL S a m)]) (st2 := [.float (atV (S.1 3) (S.1 1 2) a (m + 1) k), .float (FP.fmul (sgU (buP S a m)) (buS S a m)), .float (buL S a m)]) rfl ce_L_f ml_L_44 st_L_f rfl (by omega) (Nat.le_of_ble_eq_true rfl) (sp_L_f (x := (atV (S.1 3) (S.1 1 2) a (m + 1) k)) (sn_F (p_b hi hN hb (by omega)).1)) rfl ?_
    refine q_aload_n (pc := 143) (j := 0) rfl rfl ?_
    refine q_iload_n (pc := 144) (j := 2) rfl rfl ?_
    refine q_iload_n (pc := 145) (j := 3) rfl rfl ?_
    refine q_iload_n (pc := 146) (j := 3) rfl rfl ?_
    refine q_iconst (pc := 147) 1 rfl (by decide) ?_
    refine q_callVG (pc := 148) (as := [.int (nI a), .int (nI (a + m)), .int (nI (a + m)), .int 1]) (rest := [.float (atV (S.1 3) (S.1 1 2) a (m + 1) k), .float (FP.fmul (sgU (buP S a m)) (buS S a m)), .float (buL S a m)]) (b := 0) rfl ce_X8_at ml_L_40 im_X8_at se_X8_at he.1.1 rfl rfl rfl (by omega) (Nat.le_of_ble_eq_true rfl) (sp_X8_at he.1 (fl_iv hi hf)) (fun r9 S9 h9 => ?_)
    obtain ⟨rfl, hf⟩ := rk_at1 hi hf (a := a) (m := m) (k := m) (by omega) (by omega) h9
    refine q_callS (pc := 151) (as := [.int ((atV (S.1 3) (S.1 1 2) a (m + 1) m).toInt32)]) (rest := [.float (atV (S.1 3) (S.1 1 2) a (m + 1) k), .float (FP.fmul (sgU (buP S a m)) (buS S a m)), .float (buL S a m)]) (st2 := [.float (atV (S.1 3) (S.1 1 2) a (m + 1) m), .float (atV (S.1 3) (S.1 1 2) a (m + 1) k), .float (FP.fmul (sgU (buP S a m)) (buS S a m)), .float (buL S a m)]) rfl ce_L_f ml_L_44 st_L_f rfl (by omega) (Nat.le_of_ble_eq_true rfl) (sp_L_f (x := (atV (S.1 3) (S.1 1 2) a (m + 1) m)) (sn_F (p_b hi hN hb (by omega)).1)) rfl ?_
    refine q_fsub (pc := 154) rfl (bu_by hi hN h0 hb (show k < m + 1 by omega)).1 ?_
    refine q_fmul (pc := 155) rfl (bu_by hi hN h0 hb (show k < m + 1 by omega)).2.1 ?_
    refine q_fconst2 (pc := 156) rfl ?_
    refine q_fmul (pc := 157) rfl (bu_by hi hN h0 hb (show k < m + 1 by omega)).2.2.1 ?_
    refine q_st (st2 := [.float (byA (buP S a m) (buS S a m) (atV (S.1 3) (S.1 1 2) a (m + 1) k) (atV (S.1 3) (S.1 1 2) a (m + 1) m)), .float (buL S a m)]) (by rw [show (FP.fmul (FP.fmul (FP.fmul (sgU (buP S a m)) (buS S a m)) (FP.fsub (atV (S.1 3) (S.1 1 2) a (m + 1) k) (atV (S.1 3) (S.1 1 2) a (m + 1) m))) FP.fconst2) = (byA (buP S a m) (buS S a m) (atV (S.1 3) (S.1 1 2) a (m + 1) k) (atV (S.1 3) (S.1 1 2) a (m + 1) m)) from rfl]; try rfl) ?_
    refine q_fadd (pc := 158) rfl (fF_nn ((bu_all hi hN h0 hb).2.1 k (by omega)).1) ?_
    refine q_fload (pc := 159) (j := 7) rfl rfl ?_
    refine q_aload_n (pc := 161) (j := 1) rfl rfl ?_
    refine q_iconst (pc := 162) 4 rfl (by decide) ?_
    refine q_iconst (pc := 163) 5 rfl (by decide) ?_
    refine q_iload (pc := 164) (j := 9) rfl rfl ?_
    refine q_imul (pc := 166) rfl ?_
    refine q_iadd (pc := 167) rfl ?_
    refine q_st (st2 := [.int (nI (4 + 5 * (a + k))), .ref 70, .float (sgU (buP S a m)), .float (FP.fadd (buL S a m) (byA (buP S a m) (buS S a m) (atV (S.1 3) (S.1 1 2) a (m + 1) k) (atV (S.1 3) (S.1 1 2) a (m + 1) m)))]) (by rw [e45 (a + k)]; try rfl) ?_
    refine q_iald (pc := 168) (a := 70) (4 + 5 * (a + k)) rfl he.2 (vp_in_nI (by omega) (by decide)) (nI_clamp (by omega)) ?_
    refine q_st (st2 := [.int (S.1 3 (5 * (a + k) + 2)), .float (sgU (buP S a m)), .float (FP.fadd (buL S a m) (byA (buP S a m) (buS S a m) (atV (S.1 3) (S.1 1 2) a (m + 1) k) (atV (S.1 3) (S.1 1 2) a (m + 1) m)))]) (by rw [show (S9.1 70 (4 + 5 * (a + k))) = (S.1 3 (5 * (a + k) + 2)) from (congrFun (fl_g hf).2.2 _).trans (by rw [show 4 + 5 * (a + k) = 2 + (5 * (a + k) + 2) by omega]; exact hE.2.2 _ (by omega))]; try rfl) ?_
    refine q_i2f (pc := 169) rfl ?_
    refine q_fmul (pc := 170) rfl (bu_by hi hN h0 hb (show k < m + 1 by omega)).2.2.2 ?_
    refine q_fsub (pc := 171) rfl (fF_nn ((bu_all hi hN h0 hb).2.1 k (by omega)).2.1) ?_
    refine q_st (st2 := [.float (buB S a m k)]) (by rw [show (FP.fsub (FP.fadd (buL S a m) (byA (buP S a m) (buS S a m) (atV (S.1 3) (S.1 1 2) a (m + 1) k) (atV (S.1 3) (S.1 1 2) a (m + 1) m))) (FP.fmul (sgU (buP S a m)) (FP.i2f (S.1 3 (5 * (a + k) + 2))))) = (buB S a m k) from rfl]; try rfl) ?_
    refine q_fstore (pc := 172) (j := 10) [some (.ref 0), some (.ref 70), some (.int (nI a)), some (.int (nI (a + m))), some (.int (pB (buP S a m))), some (.float (buS S a m)), some (.float (buL S a m)), some (.float (sgU (buP S a m))), some (.float (nrV (buB S a m) k)), some (.int (nI (a + k))), some (.float (buB S a m k))] rfl (by decide) rfl ?_
    refine q_fload (pc := 174) (j := 8) rfl rfl ?_
    refine q_fload (pc := 176) (j := 10) rfl rfl ?_
    refine q_minF (pc := 178) rfl mg_L_109 (by omega) (Nat.le_of_ble_eq_true rfl) (FP.Core.FFin.notNaN (bu_nr hi hN h0 hb (show k ≤ m + 1 by omega)).1) (FP.Core.FFin.notNaN ((bu_all hi hN h0 hb).2.1 k (by omega)).2.1) ?_
    refine q_st (st2 := [.float (nrV (buB S a m) (k + 1))]) (by rw [show (minF (nrV (buB S a m) k) (buB S a m k)) = (nrV (buB S a m) (k + 1)) from rfl]; try rfl) ?_
    refine q_fstore (pc := 181) (j := 8) [some (.ref 0), some (.ref 70), some (.int (nI a)), some (.int (nI (a + m))), some (.int (pB (buP S a m))), some (.float (buS S a m)), some (.float (buL S a m)), some (.float (sgU (buP S a m))), some (.float (nrV (buB S a m) (k + 1))), some (.int (nI (a + k))), some (.float (buB S a m k))] rfl (by decide) rfl ?_
    refine q_iinc (pc := 183) (j := 9) (n := 1) (nI (a + (k + 1))) [some (.ref 0), some (.ref 70), some (.int (nI a)), some (.int (nI (a + m))), some (.int (pB (buP S a m))), some (.float (buS S a m)), some (.float (buL S a m)), some (.float (sgU (buP S a m))), some (.float (nrV (buB S a m) (k + 1))), some (.int (nI (a + (k + 1)))), some (.float (buB S a m k))] rfl (by decide) rfl (nI_1 (a + k)) rfl ?_
    refine q_goto (pc := 186) 118 rfl (by decide) ?_
    exact ih (k + 1) (some (.float (buB S a m k))) S9 (by omega) hf
set_option maxRecDepth 100000 in
theorem sp_L_beamS {sh : List PSh} {S : PSt} {N : Nat} (he : isLw sh) (hi : cIv S N) (hN : N ≤ 20) (hE : eOk S N) {a : Nat} (hb : a < N) {T0 : PSt} (hf : frL S T0) : pG mL_beam 7 [.ref 0, .ref 70, .int (nI a), .int (nI (a + 0))] sh T0 (fun r U => r = some (.int 1) ∧ frL S U) := by
  refine pG.of [some (.ref 0), some (.ref 70), some (.int (nI a)), some (.int (nI (a + 0))), none, none, none, none, none, none, none] (by decide) tk_L_beam (Nat.le_of_ble_eq_true rfl) rfl (fun X => ?_)
  refine q_aload_n (pc := 0) (j := 0) rfl rfl ?_
  refine q_iload_n (pc := 1) (j := 2) rfl rfl ?_
  refine q_iload_n (pc := 2) (j := 3) rfl rfl ?_
  refine q_iconst (pc := 3) 2 rfl (by decide) ?_
  refine q_callVG (pc := 4) (as := [.int (nI a), .int (nI (a + 0)), .int 2]) (rest := []) (b := 0) rfl ce_X8_beam ml_L_99 im_X8_beam se_X8_beam he.1.1 rfl rfl rfl (by decide) (Nat.le_of_ble_eq_true rfl) (sp_X8_beam he.1 (fl_iv hi hf)) (fun r9 S9 h9 => ?_)
  obtain ⟨rfl, hf⟩ := rd_beamS hi hf hb (by decide) h9
  refine q_istore (pc := 7) (j := 4) [some (.ref 0), some (.ref 70), some (.int (nI a)), some (.int (nI (a + 0))), some (.int (-2147483003)), none, none, none, none, none, none] rfl (by decide) rfl ?_
  refine q_iload (pc := 9) (j := 4) rfl rfl ?_
  refine q_if_ge (pc := 11) 39 rfl (by decide) (fun h9 => absurd h9 (by decide)) (fun _ => ?_)
  refine q_iload (pc := 14) (j := 4) rfl rfl ?_
  refine q_ldc (pc := 16) (v := (-2147483003)) rfl kc_L_102 ?_
  refine q_icmp_ne (pc := 18) 26 rfl (by decide) (fun h9 => absurd h9 (by decide : ¬ ¬ ((-2147483003) : Int32) = (-2147483003))) (fun _ => ?_)
  refine q_iload_n (pc := 21) (j := 2) rfl rfl ?_
  refine q_iload_n (pc := 22) (j := 3) rfl rfl ?_
  refine q_icmp_eq (pc := 23) 33 rfl (by decide) (fun _ => ?_) (fun h9 => absurd rfl h9)
  refine q_iconst (pc := 33) 1 rfl (by decide) ?_
  refine q_goto (pc := 34) 38 rfl (by decide) ?_
  exact q_zret (pc := 38) rfl rfl rfl ⟨rfl, hf⟩
set_option maxRecDepth 100000 in
theorem sp_L_beamK {sh : List PSh} {S : PSt} {N : Nat} (he : isLw sh) (hi : cIv S N) (hN : N ≤ 20) (hE : eOk S N) {a m : Nat} (h0 : 0 < m) (hb : a + m < N) (hn : ¬ ntsV (S.1 3) a (m + 1) = true) {T0 : PSt} (hf : frL S T0) : pG mL_beam 7 [.ref 0, .ref 70, .int (nI a), .int (nI (a + m))] sh T0 (fun r U => r = some (.int 1) ∧ frL S U) := by
  refine pG.of [some (.ref 0), some (.ref 70), some (.int (nI a)), some (.int (nI (a + m))), none, none, none, none, none, none, none] (by decide) tk_L_beam (Nat.le_of_ble_eq_true rfl) rfl (fun X => ?_)
  refine q_aload_n (pc := 0) (j := 0) rfl rfl ?_
  refine q_iload_n (pc := 1) (j := 2) rfl rfl ?_
  refine q_iload_n (pc := 2) (j := 3) rfl rfl ?_
  refine q_iconst (pc := 3) 2 rfl (by decide) ?_
  refine q_callVG (pc := 4) (as := [.int (nI a), .int (nI (a + m)), .int 2]) (rest := []) (b := 0) rfl ce_X8_beam ml_L_99 im_X8_beam se_X8_beam he.1.1 rfl rfl rfl (by decide) (Nat.le_of_ble_eq_true rfl) (sp_X8_beam he.1 (fl_iv hi hf)) (fun r9 S9 h9 => ?_)
  obtain ⟨rfl, hf⟩ := rd_beamK hi hf h0 hb (by decide) hn h9
  refine q_istore (pc := 7) (j := 4) [some (.ref 0), some (.ref 70), some (.int (nI a)), some (.int (nI (a + m))), some (.int (-2147483005)), none, none, none, none, none, none] rfl (by decide) rfl ?_
  refine q_iload (pc := 9) (j := 4) rfl rfl ?_
  refine q_if_ge (pc := 11) 39 rfl (by decide) (fun h9 => absurd h9 (by decide)) (fun _ => ?_)
  refine q_iload (pc := 14) (j := 4) rfl rfl ?_
  refine q_ldc (pc := 16) (v := (-2147483003)) rfl kc_L_102 ?_
  refine q_icmp_ne (pc := 18) 26 rfl (by decide) (fun _ => ?_) (fun h9 => absurd h9 (by decide : ((-2147483005) : Int32) = (-2147483003) → False))
  refine q_iload (pc := 26) (j := 4) rfl rfl ?_
  refine q_ldc (pc := 28) (v := (-2147483005)) rfl kc_L_103 ?_
  refine q_icmp_ne (pc := 30) 37 rfl (by decide) (fun h9 => absurd h9 (by decide : ¬ ¬ ((-2147483005) : Int32) = (-2147483005))) (fun _ => ?_)
  refine q_iconst (pc := 33) 1 rfl (by decide) ?_
  refine q_goto (pc := 34) 38 rfl (by decide) ?_
  exact q_zret (pc := 38) rfl rfl rfl ⟨rfl, hf⟩
set_option maxRecDepth 100000 in
theorem sp_L_beamY {sh : List PSh} {S : PSt} {N : Nat} (he : isLw sh) (hi : cIv S N) (hN : N ≤ 20) (hE : eOk S N) {a m : Nat} (h0 : 0 < m) (hb : a + m < N) (hn : ntsV (S.1 3) a (m + 1) = true) {T0 : PSt} (hf : frL S T0) : pG mL_beam 7 [.ref 0, .ref 70, .int (nI a), .int (nI (a + m))] sh T0 (fun r U => r = some (.int 1) ∧ frL S U) := by
  refine pG.of [some (.ref 0), some (.ref 70), some (.int (nI a)), some (.int (nI (a + m))), none, none, none, none, none, none, none] (by decide) tk_L_beam (Nat.le_of_ble_eq_true rfl) rfl (fun X => ?_)
  refine q_aload_n (pc := 0) (j := 0) rfl rfl ?_
  refine q_iload_n (pc := 1) (j := 2) rfl rfl ?_
  refine q_iload_n (pc := 2) (j := 3) rfl rfl ?_
  refine q_iconst (pc := 3) 2 rfl (by decide) ?_
  refine q_callVG (pc := 4) (as := [.int (nI a), .int (nI (a + m)), .int 2]) (rest := []) (b := 0) rfl ce_X8_beam ml_L_99 im_X8_beam se_X8_beam he.1.1 rfl rfl rfl (by decide) (Nat.le_of_ble_eq_true rfl) (sp_X8_beam he.1 (fl_iv hi hf)) (fun r9 S9 h9 => ?_)
  obtain ⟨rfl, hf⟩ := rd_beam2 hi hf h0 hb hn h9
  refine q_istore (pc := 7) (j := 4) [some (.ref 0), some (.ref 70), some (.int (nI a)), some (.int (nI (a + m))), some (.int (pB (buP S a m))), none, none, none, none, none, none] rfl (by decide) rfl ?_
  refine q_iload (pc := 9) (j := 4) rfl rfl ?_
  refine q_if_ge (pc := 11) 39 rfl (by decide) (fun _ => ?_) (fun h9 => absurd (by cases buP S a m <;> decide) h9)
  refine q_aload_n (pc := 39) (j := 0) rfl rfl ?_
  refine q_iload_n (pc := 40) (j := 2) rfl rfl ?_
  refine q_iload_n (pc := 41) (j := 3) rfl rfl ?_
  refine q_iconst (pc := 42) 1 rfl (by decide) ?_
  refine q_callVG (pc := 43) (as := [.int (nI a), .int (nI (a + m)), .int 1]) (rest := []) (b := 0) rfl ce_X8_beam ml_L_99 im_X8_beam se_X8_beam he.1.1 rfl rfl rfl (by decide) (Nat.le_of_ble_eq_true rfl) (sp_X8_beam he.1 (fl_iv hi hf)) (fun r9 S9 h9 => ?_)
  obtain ⟨rfl, hf⟩ := rd_beam1 hi hf h0 hb hn h9
  refine q_callS (pc := 46) (as := [.int ((buS S a m).toInt32)]) (rest := []) (st2 := [.float (buS S a m)]) rfl ce_L_f ml_L_44 st_L_f rfl (by decide) (Nat.le_of_ble_eq_true rfl) (sp_L_f (x := (buS S a m)) (sn_F (slo_c _ (bu_slo hi hN h0 hb)).1)) rfl ?_
  refine q_fstore (pc := 49) (j := 5) [some (.ref 0), some (.ref 70), some (.int (nI a)), some (.int (nI (a + m))), some (.int (pB (buP S a m))), some (.float (buS S a m)), none, none, none, none, none] rfl (by decide) rfl ?_
  refine q_aload_n (pc := 51) (j := 0) rfl rfl ?_
  refine q_iload_n (pc := 52) (j := 2) rfl rfl ?_
  refine q_iload_n (pc := 53) (j := 3) rfl rfl ?_
  refine q_iconst (pc := 54) 3 rfl (by decide) ?_
  refine q_callVG (pc := 55) (as := [.int (nI a), .int (nI (a + m)), .int 3]) (rest := []) (b := 0) rfl ce_X8_beam ml_L_99 im_X8_beam se_X8_beam he.1.1 rfl rfl rfl (by decide) (Nat.le_of_ble_eq_true rfl) (sp_X8_beam he.1 (fl_iv hi hf)) (fun r9 S9 h9 => ?_)
  obtain ⟨rfl, hf⟩ := rd_beam3 hi hf h0 hb hn h9
  refine q_callS (pc := 58) (as := [.int ((buL S a m).toInt32)]) (rest := []) (st2 := [.float (buL S a m)]) rfl ce_L_f ml_L_44 st_L_f rfl (by decide) (Nat.le_of_ble_eq_true rfl) (sp_L_f (x := (buL S a m)) (sn_F (bu_all hi hN h0 hb).1)) rfl ?_
  refine q_fstore (pc := 61) (j := 6) [some (.ref 0), some (.ref 70), some (.int (nI a)), some (.int (nI (a + m))), some (.int (pB (buP S a m))), some (.float (buS S a m)), some (.float (buL S a m)), none, none, none, none] rfl (by decide) rfl ?_
  refine q_fload (pc := 63) (j := 5) rfl rfl ?_
  refine q_ldcf (pc := 65) (v := 3204448256) rfl kc_L_104 ?_
  refine q_fcmp (pc := 67) (op := .g) rfl ?_
  refine q_if_lt (pc := 68) 95 rfl (by decide) (fun h9 => absurd h9 (slo_c _ (bu_slo hi hN h0 hb)).2.2.1) (fun _ => ?_)
  refine q_fload (pc := 71) (j := 5) rfl rfl ?_
  refine q_ldcf (pc := 73) (v := 1056964608) rfl kc_L_105 ?_
  refine q_fcmp (pc := 75) (op := .l) rfl ?_
  refine q_if_gt (pc := 76) 95 rfl (by decide) (fun h9 => absurd h9 (slo_c _ (bu_slo hi hN h0 hb)).2.2.2.1) (fun _ => ?_)
  refine q_fload (pc := 79) (j := 5) rfl rfl ?_
  refine q_ldcf (pc := 81) (v := 1082130432) rfl kc_L_106 ?_
  refine q_fmul (pc := 83) rfl (slo_c _ (bu_slo hi hN h0 hb)).2.2.2.2.1 ?_
  refine q_fload (pc := 84) (j := 5) rfl rfl ?_
  refine q_ldcf (pc := 86) (v := 1082130432) rfl kc_L_106 ?_
  refine q_fmul (pc := 88) rfl (slo_c _ (bu_slo hi hN h0 hb)).2.2.2.2.1 ?_
  refine q_f2i (pc := 89) rfl ?_
  refine q_i2f (pc := 90) rfl ?_
  refine q_fcmp (pc := 91) (op := .l) rfl ?_
  refine q_if_eq (pc := 92) 97 rfl (by decide) (fun _ => ?_) (fun h9 => absurd (slo_c _ (bu_slo hi hN h0 hb)).2.2.2.2.2 h9)
  rcases Bool.eq_false_or_eq_true (buP S a m) with hup | hup
  · refine q_iload (pc := 97) (j := 4) rfl rfl ?_
    refine q_iconst (pc := 99) 1 rfl (by decide) ?_
    refine q_icmp_ne (pc := 100) 107 rfl (by decide) (fun h9 => absurd h9 (by rw [hup]; decide)) (fun _ => ?_)
    refine q_fconst1 (pc := 103) rfl ?_
    refine q_goto (pc := 104) 109 rfl (by decide) ?_
    refine q_st (st2 := [.float (sgU (buP S a m))]) (by rw [show (FP.fconst1 : UInt32) = (sgU (buP S a m)) from (by rw [hup]; rfl)]; try rfl) ?_
    refine q_fstore (pc := 109) (j := 7) [some (.ref 0), some (.ref 70), some (.int (nI a)), some (.int (nI (a + m))), some (.int (pB (buP S a m))), some (.float (buS S a m)), some (.float (buL S a m)), some (.float (sgU (buP S a m))), none, none, none] rfl (by decide) rfl ?_
    refine q_ldcf (pc := 111) (v := 1148846080) rfl kc_L_108 ?_
    refine q_fstore (pc := 113) (j := 8) [some (.ref 0), some (.ref 70), some (.int (nI a)), some (.int (nI (a + m))), some (.int (pB (buP S a m))), some (.float (buS S a m)), some (.float (buL S a m)), some (.float (sgU (buP S a m))), some (.float 1148846080), none, none] rfl (by decide) rfl ?_
    refine q_iload_n (pc := 115) (j := 2) rfl rfl ?_
    refine q_istore (pc := 116) (j := 9) [some (.ref 0), some (.ref 70), some (.int (nI a)), some (.int (nI (a + m))), some (.int (pB (buP S a m))), some (.float (buS S a m)), some (.float (buL S a m)), some (.float (sgU (buP S a m))), some (.float 1148846080), some (.int (nI a)), none] rfl (by decide) rfl ?_
    refine q_L rfl (lp_L_beam (by decide) he hi hN hE h0 hb (fun f10 T hf => ?_) (m + 1) 0 none _ (Nat.zero_add _) hf)
    refine q_fload (pc := 189) (j := 8) rfl rfl ?_
    refine q_ldcf (pc := 191) (v := 1084185641) rfl kc_L_113 ?_
    refine q_fcmp (pc := 193) (op := .l) rfl ?_
    refine q_if_le (pc := 194) 209 rfl (by decide) (fun h9 => absurd h9 (bu_end hi hN h0 hb).1) (fun _ => ?_)
    refine q_fload (pc := 197) (j := 8) rfl rfl ?_
    refine q_ldcf (pc := 199) (v := 1084269527) rfl kc_L_114 ?_
    refine q_fcmp (pc := 201) (op := .g) rfl ?_
    refine q_if_ge (pc := 202) 209 rfl (by decide) (fun h9 => absurd h9 (bu_end hi hN h0 hb).2) (fun _ => ?_)
    refine q_iconst (pc := 205) 1 rfl (by decide) ?_
    refine q_goto (pc := 206) 210 rfl (by decide) ?_
    exact q_zret (pc := 210) rfl rfl rfl ⟨rfl, hf⟩
  · refine q_iload (pc := 97) (j := 4) rfl rfl ?_
    refine q_iconst (pc := 99) 1 rfl (by decide) ?_
    refine q_icmp_ne (pc := 100) 107 rfl (by decide) (fun _ => ?_) (fun h9 => absurd h9 (by rw [hup]; decide))
    refine q_ldcf (pc := 107) (v := 3212836864) rfl kc_L_107 ?_
    refine q_st (st2 := [.float (sgU (buP S a m))]) (by rw [show (3212836864 : UInt32) = (sgU (buP S a m)) from (by rw [hup]; rfl)]; try rfl) ?_
    refine q_fstore (pc := 109) (j := 7) [some (.ref 0), some (.ref 70), some (.int (nI a)), some (.int (nI (a + m))), some (.int (pB (buP S a m))), some (.float (buS S a m)), some (.float (buL S a m)), some (.float (sgU (buP S a m))), none, none, none] rfl (by decide) rfl ?_
    refine q_ldcf (pc := 111) (v := 1148846080) rfl kc_L_108 ?_
    refine q_fstore (pc := 113) (j := 8) [some (.ref 0), some (.ref 70), some (.int (nI a)), some (.int (nI (a + m))), some (.int (pB (buP S a m))), some (.float (buS S a m)), some (.float (buL S a m)), some (.float (sgU (buP S a m))), some (.float 1148846080), none, none] rfl (by decide) rfl ?_
    refine q_iload_n (pc := 115) (j := 2) rfl rfl ?_
    refine q_istore (pc := 116) (j := 9) [some (.ref 0), some (.ref 70), some (.int (nI a)), some (.int (nI (a + m))), some (.int (pB (buP S a m))), some (.float (buS S a m)), some (.float (buL S a m)), some (.float (sgU (buP S a m))), some (.float 1148846080), some (.int (nI a)), none] rfl (by decide) rfl ?_
    refine q_L rfl (lp_L_beam (by decide) he hi hN hE h0 hb (fun f10 T hf => ?_) (m + 1) 0 none _ (Nat.zero_add _) hf)
    refine q_fload (pc := 189) (j := 8) rfl rfl ?_
    refine q_ldcf (pc := 191) (v := 1084185641) rfl kc_L_113 ?_
    refine q_fcmp (pc := 193) (op := .l) rfl ?_
    refine q_if_le (pc := 194) 209 rfl (by decide) (fun h9 => absurd h9 (bu_end hi hN h0 hb).1) (fun _ => ?_)
    refine q_fload (pc := 197) (j := 8) rfl rfl ?_
    refine q_ldcf (pc := 199) (v := 1084269527) rfl kc_L_114 ?_
    refine q_fcmp (pc := 201) (op := .g) rfl ?_
    refine q_if_ge (pc := 202) 209 rfl (by decide) (fun h9 => absurd h9 (bu_end hi hN h0 hb).2) (fun _ => ?_)
    refine q_iconst (pc := 205) 1 rfl (by decide) ?_
    refine q_goto (pc := 206) 210 rfl (by decide) ?_
    exact q_zret (pc := 210) rfl rfl rfl ⟨rfl, hf⟩
theorem sp_L_beam {sh : List PSh} {S : PSt} {N : Nat} (he : isLw sh) (hi : cIv S N) (hN : N ≤ 20) (hE : eOk S N) {a m : Nat} (hb : a + m < N) {T0 : PSt} (hf : frL S T0) : pG mL_beam 7 [.ref 0, .ref 70, .int (nI a), .int (nI (a + m))] sh T0 (fun r U => r = some (.int 1) ∧ frL S U) := by
  by_cases h0 : m = 0
  · subst h0
    exact sp_L_beamS he hi hN hE (by omega) hf
  · by_cases hn : ntsV (S.1 3) a (m + 1) = true
    · exact sp_L_beamY he hi hN hE (by omega) hb hn hf
    · exact sp_L_beamK he hi hN hE (by omega) hb hn hf
