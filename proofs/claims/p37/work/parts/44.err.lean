/-! how far a sum, a product, a quotient of floats lies from what it stands for; sums are monotone -/
theorem pw_cast (a b : Nat) : (((2 : Nat) ^ (a + b) : Nat) : Int) = ((2 ^ a : Nat) : Int) * ((2 ^ b : Nat) : Int) := by rw [Nat.pow_add, Int.natCast_mul]
/-- a number between two neighbours on a grid of 2^e -/
theorem grid (s : Int) (P : Nat) (hP : 0 < P) : s / (P : Int) * (P : Int) ≤ s ∧ s ≤ (s / (P : Int) + 1) * (P : Int) ∧ (s / (P : Int) + 1) * (P : Int) = s / (P : Int) * (P : Int) + (P : Int) := by
  have hP' : (0 : Int) < (P : Int) := Int.natCast_pos.mpr hP
  have h1 := Int.emod_add_mul_ediv s (P : Int)
  have h2 := Int.emod_nonneg s (show (P : Int) ≠ 0 by omega)
  have h3 := Int.emod_lt_of_pos s hP'
  have h4 : (s / (P : Int) + 1) * (P : Int) = s / (P : Int) * (P : Int) + (P : Int) := by rw [Int.add_mul, Int.one_mul]
  have h5 : (P : Int) * (s / (P : Int)) = s / (P : Int) * (P : Int) := Int.mul_comm _ _
  refine ⟨by omega, by omega, h4⟩
theorem grid_b {s : Int} {P B : Nat} (hP : 0 < P) (h : s.natAbs ≤ B * P) : (s / (P : Int)).natAbs ≤ B ∧ (s / (P : Int) + 1).natAbs ≤ B + 1 := by
  have hP' : (0 : Int) < (P : Int) := Int.natCast_pos.mpr hP
  have h1 : s / (P : Int) ≤ (B : Int) := by
    apply Int.ediv_le_of_le_mul hP'
    have : ((B * P : Nat) : Int) = (B : Int) * (P : Int) := Int.natCast_mul _ _
    omega
  have h2 : -(B : Int) ≤ s / (P : Int) := by
    apply Int.le_ediv_of_mul_le hP'
    have : ((B * P : Nat) : Int) = (B : Int) * (P : Int) := Int.natCast_mul _ _
    rw [Int.neg_mul]
    omega
  omega
/-- k times 2^e as a float's value -/
theorem rp {m : Int} {e : Nat} (hm : m.natAbs < 2 ^ 24) (he : e ≤ 250) : ∃ V, FP.Core.fits FP.Core.b32 V ∧ V ≠ .nan ∧ FP.Core.zval FP.Core.b32 V = m * ((2 ^ e : Nat) : Int) := by
  obtain ⟨V, hV, ⟨c, q, hc⟩, hz⟩ := g_repr good32 (decide (m < 0)) hm (two_p e he)
  exact ⟨V, hV, g_fin_ne hc, by rw [hz, signed_of]⟩
theorem fF_abs {x : UInt32} (h : FP.Core.val32 x ≠ .nan) {K : Nat} (hb : (fz x).natAbs ≤ 2 ^ K) (hK : K ≤ 276) : fF x :=
  fF_of h (Nat.lt_of_le_of_lt hb (Nat.pow_lt_pow_right (by decide) (by omega)))
theorem fadd_err {x y : UInt32} {e : Nat} (hx : fF x) (hy : fF y) (he : e ≤ 250) (h : (fz x + fz y).natAbs ≤ 2 ^ 23 * 2 ^ e) :
    fF (FP.fadd x y) ∧ (fz (FP.fadd x y) - (fz x + fz y)).natAbs ≤ 2 ^ e := by
  have hp : 0 < 2 ^ e := Nat.two_pow_pos _
  obtain ⟨g1, g2, g3⟩ := grid (fz x + fz y) (2 ^ e) hp
  obtain ⟨b1, b2⟩ := grid_b hp h
  obtain ⟨V, v1, v2, v3⟩ := rp (m := (fz x + fz y) / ((2 ^ e : Nat) : Int)) (e := e) (Nat.lt_of_le_of_lt b1 (by decide)) he
  obtain ⟨W, w1, w2, w3⟩ := rp (m := (fz x + fz y) / ((2 ^ e : Nat) : Int) + 1) (e := e) (Nat.lt_of_le_of_lt b2 (by decide)) he
  have l1 := fadd_ge hx hy v1 v2 (by rw [v3]; exact g1)
  have l2 := fadd_le hx hy w1 w2 (by rw [w3]; exact g2)
  rw [v3] at l1
  rw [w3, g3] at l2
  have key : (fz (FP.fadd x y) - (fz x + fz y)).natAbs ≤ 2 ^ e := by omega
  refine ⟨fF_of (fadd_nn hx hy) ?_, key⟩
  have h5 : 2 ^ 23 * 2 ^ e + 2 ^ e < 2 ^ 277 := by
    have h6 : 2 ^ e ≤ 2 ^ 250 := Nat.pow_le_pow_right (by decide) he
    have h7 : 2 ^ 23 * 2 ^ e + 2 ^ e = (2 ^ 23 + 1) * 2 ^ e := by rw [Nat.add_mul, Nat.one_mul]
    rw [h7]
    exact Nat.lt_of_le_of_lt (Nat.mul_le_mul_left _ h6) (by decide)
  omega
theorem fsub_val {x y : UInt32} (hy : fF y) : ∃ z, fF z ∧ fz z = - fz y ∧ FP.fsub x y = FP.fadd x z := by
  refine ⟨FP.Core.fneg y, ?_, ?_, FP.Core.fsub_eq x y⟩
  · obtain ⟨t, d, r, h⟩ := hy
    exact ⟨!t, d, r, by rw [FP.Core.val32_fneg, h]; rfl⟩
  · show FP.Core.zval FP.Core.b32 (FP.Core.val32 (FP.Core.fneg y)) = _
    rw [FP.Core.val32_fneg, FP.Core.zval_negate]
    rfl
theorem fsub_err {x y : UInt32} {e : Nat} (hx : fF x) (hy : fF y) (he : e ≤ 250) (h : (fz x - fz y).natAbs ≤ 2 ^ 23 * 2 ^ e) :
    fF (FP.fsub x y) ∧ (fz (FP.fsub x y) - (fz x - fz y)).natAbs ≤ 2 ^ e := by
  obtain ⟨z, z1, z2, z3⟩ := fsub_val (x := x) hy
  rw [z3]
  have := fadd_err hx z1 he (by rw [z2]; exact h)
  rw [z2] at this
  exact this
/-- products: in units of 2^-298 -/
theorem fmul_units {x y : UInt32} (hx : fF x) (hy : fF y) : ∃ sg n e, FP.Core.val32 (FP.fmul x y) = FP.Core.round FP.Core.b32 (.fin sg n e) ∧ 2 * FP.Core.b32.qmin ≤ e ∧ FP.Core.signed sg (FP.Core.inUnits n e (2 * FP.Core.b32.qmin)) = fz x * fz y := by
  obtain ⟨s, c, q, h1⟩ := hx
  obtain ⟨t, d, r, h2⟩ := hy
  obtain ⟨h3, h4, h5⟩ := FP.Core.product_units (f := FP.Core.b32) (s := s) (t := t) (c := c) (d := d) (q := q) (r := r) (by rw [← h1]; exact FP.Core.val32_fits x) (by rw [← h2]; exact FP.Core.val32_fits y)
  refine ⟨s != t, c * d, q + r, ?_, h4, ?_⟩
  · rw [← h3, ← h1, ← h2]
    exact FP.Core.val32_fmul x y
  · rw [h5, FP.Core.signed_xor]
    unfold fz
    rw [h1, h2]
    rfl
theorem p149 : ((2 ^ (FP.Core.b32.qmin - 2 * FP.Core.b32.qmin).toNat : Nat) : Int) = ((2 ^ 149 : Nat) : Int) := by rw [FP.Core.qmin_b32]; rfl
theorem fmul_ge {x y : UInt32} {V : FP.Core.Datum} (hx : fF x) (hy : fF y) (hV : FP.Core.fits FP.Core.b32 V) (hn : V ≠ .nan) (h : FP.Core.zval FP.Core.b32 V * ((2 ^ 149 : Nat) : Int) ≤ fz x * fz y) : FP.Core.zval FP.Core.b32 V ≤ fz (FP.fmul x y) := by
  obtain ⟨sg, n, e, h1, h2, h3⟩ := fmul_units hx hy
  unfold fz
  rw [h1]
  exact FP.Core.zval_round_ge good32 hV hn (e0 := 2 * FP.Core.b32.qmin) (by rw [FP.Core.qmin_b32]; decide) h2 (by rw [p149, h3]; exact h)
theorem fmul_le {x y : UInt32} {V : FP.Core.Datum} (hx : fF x) (hy : fF y) (hV : FP.Core.fits FP.Core.b32 V) (hn : V ≠ .nan) (h : fz x * fz y ≤ FP.Core.zval FP.Core.b32 V * ((2 ^ 149 : Nat) : Int)) : fz (FP.fmul x y) ≤ FP.Core.zval FP.Core.b32 V := by
  obtain ⟨sg, n, e, h1, h2, h3⟩ := fmul_units hx hy
  unfold fz
  rw [h1]
  exact FP.Core.zval_round_le good32 hV hn (e0 := 2 * FP.Core.b32.qmin) (by rw [FP.Core.qmin_b32]; decide) h2 (by rw [p149, h3]; exact h)
theorem fmul_nn {x y : UInt32} (hx : fF x) (hy : fF y) : FP.Core.val32 (FP.fmul x y) ≠ .nan := by
  rw [← FP.Core.notNaN_iff32]; exact FP.Core.fmul_out hx hy
theorem fmul_err {x y : UInt32} {e : Nat} (hx : fF x) (hy : fF y) (he : e ≤ 100) (h : (fz x * fz y).natAbs ≤ 2 ^ 23 * 2 ^ (e + 149)) :
    fF (FP.fmul x y) ∧ (fz (FP.fmul x y) * ((2 ^ 149 : Nat) : Int) - fz x * fz y).natAbs ≤ 2 ^ (e + 149) := by
  sorry
