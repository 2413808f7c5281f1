/-! floats by their values in units of the least number -/
section FMT
variable {f : FP.Core.Fmt}
theorem g_signed_nat (s : Bool) (c : Nat) : (FP.Core.signed s c).natAbs = c := FP.Core.natAbs_signed s c
/-- k times a power of 2 is a number of the format -/
theorem g_repr (hf : FP.Core.Good f) (s : Bool) {k e : Nat} (hk : k < 2 ^ f.p) (he : f.qmin + (e : Int) ≤ f.qmax) :
    ∃ V, FP.Core.fits f V ∧ (∃ c q, V = .fin s c q) ∧ FP.Core.zval f V = FP.Core.signed s (k * 2 ^ e) := by
  obtain ⟨c', q', h1, h2⟩ := FP.Core.round_exact hf s hk (q := f.qmin + (e : Int)) (by omega) he
  refine ⟨FP.Core.round f (.fin s k (f.qmin + (e : Int))), FP.Core.round_fits hf _, ⟨c', q', h1⟩, ?_⟩
  rw [h1]
  show FP.Core.signed s (FP.Core.inUnits c' q' f.qmin) = _
  rw [h2]
  unfold FP.Core.inUnits
  rw [show (f.qmin + (e : Int) - f.qmin).toNat = e by omega]
theorem g_fin_ne {s : Bool} {c : Nat} {q : Int} {V : FP.Core.Datum} (h : V = .fin s c q) : V ≠ .nan := by rw [h]; exact FP.Core.Datum.noConfusion
/-- what is a number of the format is rounded to itself -/
theorem g_exact (hf : FP.Core.Good f) {s t : Bool} {n k e : Nat} {q : Int} (hq : f.qmin ≤ q) (hk : k < 2 ^ f.p) (he : f.qmin + (e : Int) ≤ f.qmax)
    (h : FP.Core.signed s (FP.Core.inUnits n q f.qmin) = FP.Core.signed t (k * 2 ^ e)) :
    FP.Core.zval f (FP.Core.round f (.fin s n q)) = FP.Core.signed t (k * 2 ^ e) ∧ ∃ c' q', FP.Core.round f (.fin s n q) = .fin s c' q' := by
  obtain ⟨V, hV, ⟨c, r, hc⟩, hz⟩ := g_repr hf t hk he
  have h0 : ((2 ^ (f.qmin - f.qmin).toNat : Nat) : Int) = 1 := by rw [Int.sub_self]; rfl
  have h1 := FP.Core.zval_round_le hf (s := s) (c := n) (q := q) (e0 := f.qmin) hV (g_fin_ne hc) (Int.le_refl _) hq (by rw [h0, hz, h, Int.mul_one]; exact Int.le_refl _)
  have h2 := FP.Core.zval_round_ge hf (s := s) (c := n) (q := q) (e0 := f.qmin) hV (g_fin_ne hc) (Int.le_refl _) hq (by rw [h0, hz, h, Int.mul_one]; exact Int.le_refl _)
  have h3 : FP.Core.zval f (FP.Core.round f (.fin s n q)) = FP.Core.signed t (k * 2 ^ e) := by rw [← hz]; exact Int.le_antisymm h1 h2
  refine ⟨h3, ?_⟩
  rcases FP.Core.roundRatio_cases f s n 1 q with ⟨c', q', hR⟩ | hR
  · exact ⟨c', q', hR⟩
  · exfalso
    have h4 : FP.Core.zval f (FP.Core.round f (.fin s n q)) = FP.Core.signed s (f.tails * 2 ^ (f.exps - 2)) := by
      show FP.Core.zval f (FP.Core.roundRatio f s n 1 q) = _
      rw [hR]; rfl
    have h5 := FP.Core.zmag_lt_top hf (by rw [hc] at hV; exact hV)
    have h6 : FP.Core.zval f V = FP.Core.signed t (FP.Core.inUnits c r f.qmin) := by rw [hc]; rfl
    have h7 := congrArg Int.natAbs (h4.symm.trans (h3.trans (hz.symm.trans h6)))
    rw [g_signed_nat, g_signed_nat] at h7
    omega
end FMT
/-! 32 bits -/
def fz (x : UInt32) : Int := FP.Core.zval FP.Core.b32 (FP.Core.val32 x)
abbrev fF (x : UInt32) : Prop := FP.Core.FFin x
theorem nn_iff (x : UInt32) : vf_n32 x ↔ x.toNat % 2 ^ 31 ≤ 2139095040 := by
  unfold vf_n32
  rw [UInt32.le_iff_toNat_le, FP.Core.mask_toNat32]
  rfl
theorem nn_ne {x : UInt32} (h : vf_n32 x) : FP.Core.val32 x ≠ .nan := (FP.Core.ne_nan32 x).mpr ((nn_iff x).mp h)
theorem nn_of {x : UInt32} (h : FP.Core.val32 x ≠ .nan) : vf_n32 x := (nn_iff x).mpr ((FP.Core.ne_nan32 x).mp h)
theorem fF_nn {x : UInt32} (h : fF x) : vf_n32 x := nn_of h.ne_nan
theorem fF_bits (x : UInt32) : fF x ↔ x.toNat % 2 ^ 31 < 2139095040 := FP.Core.fin_bits32 x
theorem good32 : FP.Core.Good FP.Core.b32 := FP.Core.good_b32
theorem two_p (e : Nat) (h : e ≤ 250) : FP.Core.b32.qmin + (e : Int) ≤ FP.Core.b32.qmax := by
  have h1 : FP.Core.b32.qmin = -149 := FP.Core.qmin_b32
  have h2 : FP.Core.b32.qmax = 104 := by decide
  omega
theorem signed_of (m : Int) (U : Nat) : m * (U : Int) = FP.Core.signed (decide (m < 0)) (m.natAbs * U) := by
  unfold FP.Core.signed
  by_cases h : m < 0
  · rw [decide_eq_true h, if_pos rfl]
    have : m = -(m.natAbs : Int) := by omega
    rw [Int.natCast_mul, ← Int.neg_mul, ← this]
  · rw [decide_eq_false h, if_neg (by decide)]
    have : m = (m.natAbs : Int) := by omega
    rw [Int.natCast_mul, ← this]
theorem fadd_ex {x y : UInt32} {m : Int} {e : Nat} (hx : fF x) (hy : fF y) (hm : m.natAbs < 2 ^ 24) (he : e ≤ 250) (h : fz x + fz y = m * ((2 ^ e : Nat) : Int)) : fF (FP.fadd x y) ∧ fz (FP.fadd x y) = fz x + fz y := by
  obtain ⟨s, c, q, h1⟩ := hx
  obtain ⟨t, d, r, h2⟩ := hy
  obtain ⟨sg, n, e', h3, h4, h5⟩ := FP.Core.sum_units (f := FP.Core.b32) (by rw [← h1]; exact FP.Core.val32_fits x) (by rw [← h2]; exact FP.Core.val32_fits y)
  have hv := FP.Core.val32_fadd x y
  rw [h1, h2, h3] at hv
  have hs : FP.Core.signed sg (FP.Core.inUnits n e' FP.Core.b32.qmin) = FP.Core.signed (decide (m < 0)) (m.natAbs * 2 ^ e) := by
    rw [h5, ← h1, ← h2, ← signed_of]; exact h
  obtain ⟨a1, c', q', a2⟩ := g_exact good32 h4 hm (two_p e he) hs
  rw [← hv] at a1 a2
  refine ⟨⟨sg, c', q', a2⟩, ?_⟩
  show FP.Core.zval FP.Core.b32 (FP.Core.val32 (FP.Core.fadd x y)) = _
  rw [a1, ← signed_of, h]
theorem fsub_ex {x y : UInt32} {m : Int} {e : Nat} (hx : fF x) (hy : fF y) (hm : m.natAbs < 2 ^ 24) (he : e ≤ 250) (h : fz x - fz y = m * ((2 ^ e : Nat) : Int)) : fF (FP.fsub x y) ∧ fz (FP.fsub x y) = fz x - fz y := by
  obtain ⟨s, c, q, h1⟩ := hx
  obtain ⟨t, d, r, h2⟩ := hy
  have hneg : FP.Core.negate (FP.Core.val32 y) = .fin (!t) d r := by rw [h2]; rfl
  obtain ⟨sg, n, e', h3, h4, h5⟩ := FP.Core.sum_units (f := FP.Core.b32) (s := s) (c := c) (q := q) (by rw [← h1]; exact FP.Core.val32_fits x) (by rw [← hneg]; exact FP.Core.negate_fits (FP.Core.val32_fits y))
  have hv := FP.Core.val32_fsub x y
  rw [hneg, h1, h3] at hv
  have hs : FP.Core.signed sg (FP.Core.inUnits n e' FP.Core.b32.qmin) = FP.Core.signed (decide (m < 0)) (m.natAbs * 2 ^ e) := by
    rw [h5, ← h1, ← hneg, FP.Core.zval_negate, ← signed_of, ← h]; rfl
  obtain ⟨a1, c', q', a2⟩ := g_exact good32 h4 hm (two_p e he) hs
  rw [← hv] at a1 a2
  refine ⟨⟨sg, c', q', a2⟩, ?_⟩
  show FP.Core.zval FP.Core.b32 (FP.Core.val32 (FP.Core.fsub x y)) = _
  rw [a1, ← signed_of, h]
theorem fadd_nn {x y : UInt32} (hx : fF x) (hy : fF y) : FP.Core.val32 (FP.fadd x y) ≠ .nan := by
  rw [← FP.Core.notNaN_iff32]; exact FP.Core.fadd_out hx.notNaN hy
theorem pow0 : ((2 ^ (FP.Core.b32.qmin - FP.Core.b32.qmin).toNat : Nat) : Int) = 1 := by rw [Int.sub_self]; rfl
/-- sums are monotone -/
theorem fadd_ge {x y : UInt32} {V : FP.Core.Datum} (hx : fF x) (hy : fF y) (hV : FP.Core.fits FP.Core.b32 V) (hn : V ≠ .nan) (h : FP.Core.zval FP.Core.b32 V ≤ fz x + fz y) : FP.Core.zval FP.Core.b32 V ≤ fz (FP.fadd x y) := by
  obtain ⟨s, c, q, h1⟩ := hx
  obtain ⟨t, d, r, h2⟩ := hy
  obtain ⟨sg, n, e', h3, h4, h5⟩ := FP.Core.sum_units (f := FP.Core.b32) (by rw [← h1]; exact FP.Core.val32_fits x) (by rw [← h2]; exact FP.Core.val32_fits y)
  have hv := FP.Core.val32_fadd x y
  rw [h1, h2, h3] at hv
  show _ ≤ FP.Core.zval FP.Core.b32 (FP.Core.val32 (FP.Core.fadd x y))
  rw [hv]
  exact FP.Core.zval_round_ge good32 hV hn (Int.le_refl _) h4 (by rw [pow0, Int.mul_one, h5, ← h1, ← h2]; exact h)
theorem fadd_le {x y : UInt32} {V : FP.Core.Datum} (hx : fF x) (hy : fF y) (hV : FP.Core.fits FP.Core.b32 V) (hn : V ≠ .nan) (h : fz x + fz y ≤ FP.Core.zval FP.Core.b32 V) : fz (FP.fadd x y) ≤ FP.Core.zval FP.Core.b32 V := by
  obtain ⟨s, c, q, h1⟩ := hx
  obtain ⟨t, d, r, h2⟩ := hy
  obtain ⟨sg, n, e', h3, h4, h5⟩ := FP.Core.sum_units (f := FP.Core.b32) (by rw [← h1]; exact FP.Core.val32_fits x) (by rw [← h2]; exact FP.Core.val32_fits y)
  have hv := FP.Core.val32_fadd x y
  rw [h1, h2, h3] at hv
  show FP.Core.zval FP.Core.b32 (FP.Core.val32 (FP.Core.fadd x y)) ≤ _
  rw [hv]
  exact FP.Core.zval_round_le good32 hV hn (Int.le_refl _) h4 (by rw [pow0, Int.mul_one, h5, ← h1, ← h2]; exact h)
/-! bits and values -/
theorem fz_bits {x : UInt32} (h : FP.Core.val32 x ≠ .nan) : fz x = FP.Core.signed (decide (2 ^ 31 ≤ x.toNat)) (FP.Core.unitsOf FP.Core.b32 (x.toNat % 2 ^ 31)) := by
  unfold fz FP.Core.zval
  rw [FP.Core.sgn_bits32 h, FP.Core.zmag_toNat32 h]
theorem fz_abs {x : UInt32} (h : FP.Core.val32 x ≠ .nan) : (fz x).natAbs = FP.Core.unitsOf FP.Core.b32 (x.toNat % 2 ^ 31) := by
  rw [fz_bits h, g_signed_nat]
theorem un_start {K : Nat} (h : 1 ≤ K) : FP.Core.unitsOf FP.Core.b32 (K * 2 ^ 23) = 2 ^ (22 + K) := by
  have := FP.Core.unitsOf_start (f := FP.Core.b32) h
  rw [FP.Core.tails_b32] at this
  rw [this, ← Nat.pow_add]
  congr 1
  omega
/-- a bound of the bits is one of the value -/
theorem mg_lt {x : UInt32} {K : Nat} (h : FP.Core.val32 x ≠ .nan) (hK : 1 ≤ K) : x.toNat % 2 ^ 31 < K * 2 ^ 23 ↔ (fz x).natAbs < 2 ^ (22 + K) := by
  rw [fz_abs h, ← un_start hK, FP.Core.unitsOf_lt_iff]
theorem mg_ge {x : UInt32} {K : Nat} (h : FP.Core.val32 x ≠ .nan) (hK : 1 ≤ K) : K * 2 ^ 23 ≤ x.toNat % 2 ^ 31 ↔ 2 ^ (22 + K) ≤ (fz x).natAbs := by
  rw [fz_abs h, ← un_start hK, FP.Core.unitsOf_le_iff]
theorem fF_of {x : UInt32} (h : FP.Core.val32 x ≠ .nan) (hb : (fz x).natAbs < 2 ^ 277) : fF x := by
  rw [fF_bits]
  have := (mg_lt (K := 255) h (by decide)).mpr hb
  omega
/-- comparisons -/
theorem cmp_some {x y : UInt32} (hx : fF x) (hy : fF y) : FP.fcmp x y = some (compare (fz x) (fz y)) := FP.Core.fcmp_zval hx.ne_nan hy.ne_nan
theorem flt_iff {x y : UInt32} (hx : fF x) (hy : fF y) : flt x y = true ↔ fz x < fz y := by
  unfold flt
  rw [decide_eq_true_iff, cmp_some hx hy]
  rcases Int.lt_trichotomy (fz x) (fz y) with h | h | h
  · rw [FP.Core.compare_lt_iff _ _ |>.mpr h]; exact ⟨fun _ => h, fun _ => by decide⟩
  · rw [FP.Core.compare_eq_iff _ _ |>.mpr h]; exact ⟨fun q => absurd q (by decide), fun q => by omega⟩
  · rw [FP.Core.compare_gt_iff _ _ |>.mpr h]; exact ⟨fun q => absurd q (by decide), fun q => by omega⟩
theorem fgt_iff {x y : UInt32} (hx : fF x) (hy : fF y) : fgt x y = true ↔ fz y < fz x := by
  unfold fgt
  rw [decide_eq_true_iff, cmp_some hx hy]
  rcases Int.lt_trichotomy (fz x) (fz y) with h | h | h
  · rw [FP.Core.compare_lt_iff _ _ |>.mpr h]; exact ⟨fun q => absurd q (by decide), fun q => by omega⟩
  · rw [FP.Core.compare_eq_iff _ _ |>.mpr h]; exact ⟨fun q => absurd q (by decide), fun q => by omega⟩
  · rw [FP.Core.compare_gt_iff _ _ |>.mpr h]; exact ⟨fun _ => h, fun _ => by decide⟩
theorem fF_0 : fF FP.fconst0 := (fF_bits _).mpr (by decide)
theorem fz_0 : fz FP.fconst0 = 0 := by decide +kernel
