/-! beams: no NaN, and answers that have all their digits -/
theorem i2f_F (v : Int32) : fF (FP.i2f v) := FP.Core.i2f_fin v
theorem i2f_K (v : Int32) : (FP.i2f v).toNat % 2 ^ 31 < 160 * 2 ^ 23 := FP.Core.i2f_mag v
theorem i2f_lo {v : Int32} (h : v ≠ 0) : 2 ^ 149 ≤ (fz (FP.i2f v)).natAbs := (mg_ge (K := 127) (i2f_F v).ne_nan (by decide)).mp (FP.Core.i2f_big (FP.Core.int32_ne h)).1
theorem c_half : fF 1056964608 ∧ (1056964608 : UInt32).toNat % 2 ^ 31 < 127 * 2 ^ 23 ∧ 2 ^ 148 ≤ (fz 1056964608).natAbs ∧ fz 1056964608 = ((2 ^ 148 : Nat) : Int) := ⟨(fF_bits _).mpr (by decide), by decide, by decide +kernel, by decide +kernel⟩
theorem c_mhalf : fF 3204448256 ∧ (3204448256 : UInt32).toNat % 2 ^ 31 < 127 * 2 ^ 23 ∧ fz 3204448256 = -((2 ^ 148 : Nat) : Int) := ⟨(fF_bits _).mpr (by decide), by decide, by decide +kernel⟩
theorem c_4 : fF 1082130432 ∧ (1082130432 : UInt32).toNat % 2 ^ 31 < 130 * 2 ^ 23 ∧ 129 * 2 ^ 23 ≤ (1082130432 : UInt32).toNat % 2 ^ 31 ∧ (fz 1082130432).natAbs = 2 ^ 151 := ⟨(fF_bits _).mpr (by decide), by decide, by decide, by decide +kernel⟩
theorem c_5 : fF 1084227584 ∧ (1084227584 : UInt32).toNat % 2 ^ 31 < 130 * 2 ^ 23 ∧ fz 1084227584 = ((5 * 2 ^ 149 : Nat) : Int) := ⟨(fF_bits _).mpr (by decide), by decide, by decide +kernel⟩
theorem ri_ok {c : Int32} {p : UInt32} (hp : fF p) (h1 : ((2 ^ 150 : Nat) : Int) ≤ fz p) (h2 : fz p ≤ ((2 ^ 175 : Nat) : Int)) :
    okRi c p ∧ okX (riseC c p) ∧ (riseC c p).toNat % 2 ^ 31 < 161 * 2 ^ 23 ∧ riseC c p = FP.fdiv (FP.fmul (FP.i2f c) 1056964608) p := by
  have hp0 : (0 : Int) < ((2 ^ 150 : Nat) : Int) := Int.natCast_pos.mpr (Nat.two_pow_pos _)
  have hg : fgt p FP.fconst0 = true := (fgt_iff hp fF_0).mpr (by rw [fz_0]; omega)
  have m1 := FP.Core.fmul_mag (a := FP.i2f c) (b := 1056964608) (Ka := 160) (Kb := 127) (i2f_K c) c_half.2.1 (by decide) (by decide)
  have f1 : fF (FP.fmul (FP.i2f c) 1056964608) := fF_mg (K := 161) m1 (by decide)
  have lo := (mg_ge (K := 128) hp.ne_nan (by decide)).mpr (by show 2 ^ 150 ≤ _; omega)
  have hi : p.toNat % 2 ^ 31 < 255 * 2 ^ 23 := by have := (fF_bits p).mp hp; omega
  have m2 := FP.Core.fdiv_mag (a := FP.fmul (FP.i2f c) 1056964608) (b := p) (K := 161) (L := 128) m1 lo hi (by decide) (by decide)
  have f2 : fF (FP.fdiv (FP.fmul (FP.i2f c) 1056964608) p) := fF_mg (K := 161) m2 (by decide)
  have e : riseC c p = FP.fdiv (FP.fmul (FP.i2f c) 1056964608) p := by unfold riseC; rw [if_pos hg]
  refine ⟨fun _ => ⟨fF_nn f1, fF_nn f2⟩, ?_, by rw [e]; exact m2, e⟩
  rw [e]
  by_cases hc : c = 0
  · have e0 : FP.fmul (FP.i2f c) 1056964608 = FP.fconst0 := by rw [hc]; decide +kernel
    rw [e0, fdiv_0 hp (by omega) (pos_bits hp (by omega))]
    exact okX_0
  · have l1 := fmul_lo (e := 148) (i2f_F c) c_half.1 (i2f_lo hc) c_half.2.2.1 rfl (by decide)
    have l2 := fdiv_lo (e := 122) (b := 175) f1 hp (by omega) l1 (by omega) rfl (by decide)
    exact okX_of f2 (Nat.le_trans (Nat.pow_le_pow_right (by decide) (by decide)) l2)
theorem sl_ok {r : UInt32} (hr : r.toNat % 2 ^ 31 < 161 * 2 ^ 23) : okSl r ∧ okX (sloC r) ∧ (sloC r).toNat % 2 ^ 31 < 127 * 2 ^ 23 := by
  have m1 := FP.Core.fmul_mag (a := r) (b := 1082130432) (Ka := 161) (Kb := 130) hr c_4.2.1 (by decide) (by decide)
  have m2 := FP.Core.fadd_mag (a := FP.fmul r 1082130432) (b := 1056964608) (K := 165) m1 (by have := c_half.2.1; omega) (by decide)
  have m3 := FP.Core.fdiv_mag (a := FP.i2f (whoV (qrtV r))) (b := 1082130432) (K := 160) (L := 129) (i2f_K _) c_4.2.2.1 (by have := c_4.2.1; omega) (by decide) (by decide)
  have f3 : fF (FP.fdiv (FP.i2f (whoV (qrtV r))) 1082130432) := fF_mg (K := 159) m3 (by decide)
  have x3 : okX (FP.fdiv (FP.i2f (whoV (qrtV r))) 1082130432) := by
    by_cases hc : whoV (qrtV r) = 0
    · rw [hc]
      have e0 : FP.fdiv (FP.i2f 0) 1082130432 = FP.fconst0 := by decide +kernel
      rw [e0]; exact okX_0
    · have l2 := fdiv_lo (a := 149) (b := 151) (e := 147) (i2f_F _) c_4.1 (by have h9 := c_4.2.2.2; have : 0 < (2 : Nat) ^ 151 := Nat.two_pow_pos _; omega) (i2f_lo hc) (Nat.le_of_eq c_4.2.2.2) rfl (by decide)
      exact okX_of f3 (Nat.le_trans (Nat.pow_le_pow_right (by decide) (by decide)) l2)
  refine ⟨⟨fF_nn (fF_mg (K := 165) m1 (by decide)), fF_nn (fF_mg (K := 167) m2 (by decide)), fF_nn f3⟩, ?_⟩
  unfold sloC clpV
  by_cases h1 : flt (FP.fdiv (FP.i2f (whoV (qrtV r))) 1082130432) 3204448256 = true
  · rw [if_pos h1]
    exact ⟨⟨c_mhalf.1, Or.inr (by decide)⟩, c_mhalf.2.1⟩
  · rw [if_neg h1]
    by_cases h2 : fgt (FP.fdiv (FP.i2f (whoV (qrtV r))) 1082130432) 1056964608 = true
    · rw [if_pos h2]
      exact ⟨⟨c_half.1, Or.inr (by decide)⟩, c_half.2.1⟩
    · rw [if_neg h2]
      refine ⟨x3, (mg_lt f3.ne_nan (by decide)).mpr ?_⟩
      have a1 : ¬ fz (FP.fdiv (FP.i2f (whoV (qrtV r))) 1082130432) < -((2 ^ 148 : Nat) : Int) := fun h => h1 ((flt_iff f3 c_mhalf.1).mpr (by rw [c_mhalf.2.2]; exact h))
      have a2 : ¬ ((2 ^ 148 : Nat) : Int) < fz (FP.fdiv (FP.i2f (whoV (qrtV r))) 1082130432) := fun h => h2 ((fgt_iff f3 c_half.1).mpr (by rw [c_half.2.2.2]; exact h))
      have a3 : (2 : Nat) ^ 148 < 2 ^ (22 + 127) := Nat.pow_lt_pow_right (by decide) (by decide)
      omega
theorem ti_ok {up : Bool} {s : UInt32} {K : Nat} (h : s.toNat % 2 ^ 31 < K * 2 ^ 23) (hK : K ≤ 200) : okTi up s ∧ (tilC up s).toNat % 2 ^ 31 < (K + 2) * 2 ^ 23 := by
  have m0 : FP.fconst0.toNat % 2 ^ 31 < K * 2 ^ 23 := by
    have : FP.fconst0.toNat % 2 ^ 31 = 0 := by decide
    omega
  have m1 := FP.Core.fsub_mag (a := FP.fconst0) (b := s) (K := K) m0 h (by omega)
  refine ⟨fun _ => fF_nn (fF_mg (K := K + 2) m1 (by omega)), ?_⟩
  unfold tilC
  split
  · exact Nat.lt_of_lt_of_le h (Nat.mul_le_mul_right _ (by omega))
  · exact m1
theorem dr_ok {up : Bool} {t p pe : UInt32} {s : Int32} (ht : t.toNat % 2 ^ 31 < 129 * 2 ^ 23) (hp : p.toNat % 2 ^ 31 < 154 * 2 ^ 23) (hpe : pe.toNat % 2 ^ 31 < 154 * 2 ^ 23) : okDr up t s p pe ∧ (droC up t s p pe).toNat % 2 ^ 31 < 164 * 2 ^ 23 := by
  obtain ⟨a1, a2⟩ := ti_ok (up := up) (s := FP.i2f s) (K := 160) (i2f_K s) (by decide)
  have m1 := FP.Core.fsub_mag (a := p) (b := pe) (K := 154) hp hpe (by decide)
  have m2 := FP.Core.fmul_mag (a := t) (b := FP.fsub p pe) (Ka := 129) (Kb := 156) ht m1 (by decide) (by decide)
  have m3 := FP.Core.fmul_mag (a := FP.fmul t (FP.fsub p pe)) (b := FP.fconst2) (Ka := 159) (Kb := 129) m2 c2.2.1 (by decide) (by decide)
  have m4 := FP.Core.fsub_mag (a := tilC up (FP.i2f s)) (b := FP.fmul (FP.fmul t (FP.fsub p pe)) FP.fconst2) (K := 162) a2 m3 (by decide)
  exact ⟨⟨a1, fF_nn (fF_mg (K := 156) m1 (by decide)), fF_nn (fF_mg (K := 159) m2 (by decide)), fF_nn (fF_mg (K := 162) m3 (by decide)), fF_nn (fF_mg (K := 164) m4 (by decide))⟩, m4⟩
theorem grt_ok {up : Bool} {t pe : UInt32} {s : Nat → Int32} {p : Nat → UInt32} {n : Nat} (ht : t.toNat % 2 ^ 31 < 129 * 2 ^ 23) (hp : ∀ k, k < n → (p k).toNat % 2 ^ 31 < 154 * 2 ^ 23) (hpe : pe.toNat % 2 ^ 31 < 154 * 2 ^ 23) : ∀ k, k ≤ n → (grtC up t s p pe k).toNat % 2 ^ 31 < 164 * 2 ^ 23 := by
  intro k
  induction k with
  | zero => intro _; exact (by decide : FP.fconst0.toNat % 2 ^ 31 < 164 * 2 ^ 23)
  | succ k ih =>
    intro hk
    unfold grtC
    split
    · exact (dr_ok ht (hp k (by omega)) hpe).2
    · exact ih (by omega)
theorem fadd_0 {x y : UInt32} (hx : fF x) (hy : fF y) (h : fz x + fz y = 0) (h1 : y.toNat < 2 ^ 31) : FP.fadd x y = FP.fconst0 := by
  have hsy := FP.Core.sgn_bits32 hy.ne_nan
  obtain ⟨s, c, q, h1'⟩ := hx
  obtain ⟨t, d, r, h2⟩ := hy
  rw [h2] at hsy
  have ht : t = false := hsy.trans (decide_eq_false (by omega))
  obtain ⟨sg, n, e', h3, h4, h5⟩ := FP.Core.sum_units (f := FP.Core.b32) (s := s) (c := c) (q := q) (t := t) (d := d) (r := r) (by rw [← h1']; exact FP.Core.val32_fits x) (by rw [← h2]; exact FP.Core.val32_fits y)
  have h0 : FP.Core.signed sg (FP.Core.inUnits n e' FP.Core.b32.qmin) = 0 := by
    rw [h5, ← h1', ← h2]
    exact h
  rw [FP.Core.signed_eq_zero] at h0
  have hn : n = 0 := by
    unfold FP.Core.inUnits at h0
    rcases Nat.mul_eq_zero.mp h0 with h9 | h9
    · exact h9
    · exact absurd h9 (Nat.ne_of_gt (Nat.two_pow_pos _))
  have h6 : FP.Core.Datum.fin (FP.Core.sumSign s t (FP.Core.sumUnits s c q t d r (min q r))) (FP.Core.sumUnits s c q t d r (min q r)).natAbs (min q r) = .fin sg n e' := h3
  injection h6 with e1 e2 e3
  have hv : FP.Core.sumUnits s c q t d r (min q r) = 0 := by omega
  rw [hv, ht] at e1
  have hsg : sg = false := by
    rw [← e1]
    show (s && false) = false
    cases s <;> rfl
  have hval := FP.Core.val32_fadd x y
  rw [h1', h2, h3, hn, hsg] at hval
  have : FP.Core.round FP.Core.b32 (.fin false 0 e') = FP.Core.val32 FP.fconst0 := FP.Core.val32_fconst0.symm
  rw [this] at hval
  exact FP.Core.val32_inj (by rw [hval]; exact fF_0.ne_nan) hval
/-- 5 more -/
theorem li_ok {x : UInt32} (h : x.toNat % 2 ^ 31 < 164 * 2 ^ 23) : vf_n32 (FP.fadd x 1084227584) ∧ okX (FP.fadd x 1084227584) := by
  obtain ⟨hF, hb⟩ := fF_lt h (by decide) (by decide)
  have m1 := FP.Core.fadd_mag (a := x) (b := 1084227584) (K := 164) h (by have := c_5.2.1; omega) (by decide)
  have f1 : fF (FP.fadd x 1084227584) := fF_mg (K := 166) m1 (by decide)
  refine ⟨fF_nn f1, ?_⟩
  have hp : (2 : Nat) ^ 23 ≤ 2 ^ 128 := Nat.pow_le_pow_right (by decide) (by decide)
  have hge : ∀ {M : Int}, M ≠ 0 → fz x + fz 1084227584 = M * ((2 ^ 128 : Nat) : Int) → okX (FP.fadd x 1084227584) := by
    intro M hM hs
    have hU : (0 : Int) < ((2 ^ 128 : Nat) : Int) := Int.natCast_pos.mpr (Nat.two_pow_pos _)
    rcases Int.lt_or_gt_of_ne hM with h9 | h9
    · obtain ⟨V, hV, ⟨c, q, hc⟩, hz⟩ := g_repr good32 true (k := 1) (e := 128) (by decide) (two_p 128 (by decide))
      have hz : FP.Core.zval FP.Core.b32 V = -((1 * 2 ^ 128 : Nat) : Int) := hz
      have hle := fadd_le hF c_5.1 hV (g_fin_ne hc) (by
        rw [hs, hz]
        have : M * ((2 ^ 128 : Nat) : Int) ≤ (-1) * ((2 ^ 128 : Nat) : Int) := Int.mul_le_mul_of_nonneg_right (by omega) (Int.le_of_lt hU)
        omega)
      rw [hz] at hle
      exact okX_of f1 (by omega)
    · obtain ⟨V, hV, ⟨c, q, hc⟩, hz⟩ := g_repr good32 false (k := 1) (e := 128) (by decide) (two_p 128 (by decide))
      have hz : FP.Core.zval FP.Core.b32 V = ((1 * 2 ^ 128 : Nat) : Int) := hz
      have hle := fadd_ge hF c_5.1 hV (g_fin_ne hc) (by
        rw [hs, hz]
        have : 1 * ((2 ^ 128 : Nat) : Int) ≤ M * ((2 ^ 128 : Nat) : Int) := Int.mul_le_mul_of_nonneg_right (by omega) (Int.le_of_lt hU)
        omega)
      rw [hz] at hle
      exact okX_of f1 (by omega)
  obtain ⟨s, c, q, hv⟩ := hF
  have hz := fz_fin hv
  obtain ⟨b1, b2, b3, _⟩ := bits32 hv
  by_cases hq : -21 ≤ q
  · -- a multiple of 2^128
    have e1 : fz x = FP.Core.signed s (c * 2 ^ (q + 21).toNat) * ((2 ^ 128 : Nat) : Int) := by
      rw [hz.2, ← FP.Core.signed_mul, Nat.mul_assoc, ← Nat.pow_add, show (q + 21).toNat + 128 = (q + 149).toNat by omega]
    have e2 : fz 1084227584 = ((5 * 2 ^ 21 : Nat) : Int) * ((2 ^ 128 : Nat) : Int) := by
      rw [c_5.2.2, ← Int.natCast_mul, Nat.mul_assoc, ← Nat.pow_add]
    have e3 : fz x + fz 1084227584 = (FP.Core.signed s (c * 2 ^ (q + 21).toNat) + ((5 * 2 ^ 21 : Nat) : Int)) * ((2 ^ 128 : Nat) : Int) := by rw [e1, e2, Int.add_mul]
    by_cases hM : FP.Core.signed s (c * 2 ^ (q + 21).toNat) + ((5 * 2 ^ 21 : Nat) : Int) = 0
    · rw [hM, Int.zero_mul] at e3
      rw [fadd_0 ⟨s, c, q, hv⟩ c_5.1 e3 (by decide)]
      exact okX_0
    · exact hge hM e3
  · -- less than 4
    have hsm : (fz x).natAbs < 2 ^ 151 := by
      rw [hz.1]
      refine Nat.lt_of_lt_of_le (Nat.mul_lt_mul_of_pos_right b3 (Nat.two_pow_pos _)) ?_
      rw [← Nat.pow_add]
      exact Nat.pow_le_pow_right (by decide) (by omega)
    obtain ⟨V, hV, ⟨c9, q9, hc⟩, hz9⟩ := g_repr good32 false (k := 1) (e := 149) (by decide) (two_p 149 (by decide))
    have hz9 : FP.Core.zval FP.Core.b32 V = ((1 * 2 ^ 149 : Nat) : Int) := hz9
    have e5 : (5 * 2 ^ 149 : Nat) = 2 ^ 151 + 1 * 2 ^ 149 := by decide
    have hle := fadd_ge ⟨s, c, q, hv⟩ c_5.1 hV (g_fin_ne hc) (by
      rw [hz9, c_5.2.2, e5]
      omega)
    rw [hz9] at hle
    have hp2 : (2 : Nat) ^ 23 ≤ 1 * 2 ^ 149 := by rw [Nat.one_mul]; exact Nat.pow_le_pow_right (by decide) (by decide)
    exact okX_of f1 (by omega)
/-- half a step's difference, either way -/
theorem half_all : ∀ k, k < 65 → FP.fdiv (FP.i2f (nI k - 32)) 1073741824 = FP.fmul (FP.i2f (nI k - 32)) 1056964608 := by decide +kernel
theorem half_eq {c : Int32} (h1 : -32 ≤ c.toInt) (h2 : c.toInt ≤ 32) : FP.fdiv (FP.i2f c) 1073741824 = FP.fmul (FP.i2f c) 1056964608 := by
  have h := half_all (c.toInt + 32).toNat (by omega)
  have e : nI (c.toInt + 32).toNat - 32 = c := by
    apply Int32.toInt_inj.mp
    rw [Int32.toInt_sub, nI_toInt (by omega), show (32 : Int32).toInt = 32 by decide, Int.bmod_eq_of_le (by omega) (by omega)]
    omega
  rw [e] at h
  exact h
/-- the values of a beam over columns that may be -/
theorem beam_ok {g : Nat → Int32} {w : Int32} {x y N : Nat} (hg : okG g N) (hw : okWd w) (hN : N ≤ 32) (hxy : x < y) (hy : y < N) :
    okRi (g (5 * y + 2) - g (5 * x + 2)) (atV g w x (y - x + 1) (y - x)) ∧ okX (risV g w x y) ∧ okSl (risV g w x y) ∧ okX (sloV g w x y) ∧ okTi (upV g x (y - x + 1)) (sloV g w x y) ∧
    (∀ k, k < y - x + 1 → okDr (upV g x (y - x + 1)) (tilC (upV g x (y - x + 1)) (sloV g w x y)) (g (5 * (x + k) + 2)) (atV g w x (y - x + 1) k) (atV g w x (y - x + 1) (y - x))) ∧ vf_n32 (lifV g w x y) ∧ okX (lifV g w x y) ∧
    risV g w x y = FP.fdiv (FP.fdiv (FP.i2f (g (5 * y + 2) - g (5 * x + 2))) 1073741824) (atV g w x (y - x + 1) (y - x)) := by
  have hat : ∀ k, k ≤ y - x + 1 → (atV g w x (y - x + 1) k).toNat % 2 ^ 31 < 154 * 2 ^ 23 := by
    intro k hk
    obtain ⟨a1, a2, a3, a4⟩ := atV_ok (a := x) (n := y - x + 1) hg hw (by omega) (by omega) k hk
    refine (mg_lt a1.ne_nan (by decide)).mpr ?_
    have : k * 2 ^ 170 < 2 ^ (22 + 154) := pow_lt3 (n := 6) (by omega) 170 (by decide)
    omega
  obtain ⟨p1, p2, p3, p4⟩ := atV_ok (a := x) (n := y - x + 1) hg hw (by omega) (by omega) (y - x) (by omega)
  have hp5 : (y - x) * 2 ^ 170 ≤ 2 ^ 175 := by
    have : (y - x) * 2 ^ 170 ≤ 2 ^ 5 * 2 ^ 170 := Nat.mul_le_mul_right _ (by omega)
    rw [← Nat.pow_add] at this
    exact this
  obtain ⟨r1, r2, r3, r4⟩ := ri_ok (c := g (5 * y + 2) - g (5 * x + 2)) p1 (p4 (by omega)) (by omega)
  obtain ⟨s1, s2, s3⟩ := sl_ok r3
  obtain ⟨t1, t2⟩ := ti_ok (up := upV g x (y - x + 1)) s3 (by decide)
  have hl := li_ok (grt_ok (up := upV g x (y - x + 1)) (s := fun k => g (5 * (x + k) + 2)) (p := fun k => atV g w x (y - x + 1) k) (n := y - x + 1) t2 (fun k hk => hat k (by omega)) (hat (y - x) (by omega)) (y - x + 1) (Nat.le_refl _))
  refine ⟨r1, r2, s1, s2, t1, fun k hk => (dr_ok t2 (hat k (by omega)) (hat (y - x) (by omega))).1, hl.1, hl.2, ?_⟩
  have gx := (hg x (by omega)).2.2.1
  have gy := (hg y (by omega)).2.2.1
  have hd : (g (5 * y + 2) - g (5 * x + 2)).toInt = (g (5 * y + 2)).toInt - (g (5 * x + 2)).toInt := by
    rw [Int32.toInt_sub, Int.bmod_eq_of_le (by omega) (by omega)]
  rw [half_eq (by omega) (by omega)]
  exact r4
