/-! how far a sum, a product, a quotient of floats lies from what it stands for; sums are monotone -/
theorem pw_cast (a b : Nat) : (((2 : Nat) ^ (a + b) : Nat) : Int) = ((2 ^ a : Nat) : Int) * ((2 ^ b : Nat) : Int) := by rw [Nat.pow_add, Int.natCast_mul]
/-- a number between two neighbours on a grid of 2^e -/
theorem grid (s : Int) (P : Nat) (hP : 0 < P) : s / (P : Int) * (P : Int) ≤ s ∧ s ≤ (s / (P : Int) + 1) * (P : Int) ∧ (s / (P : Int) + 1) * (P : Int) = s / (P : Int) * (P : Int) + (P : Int) := by
  have hP' : (0 : Int) < (P : Int) := Int.natCast_pos.mpr hP
  have h1 := Int.emod_add_mul_ediv s (P : Int)
  have h2 := Int.emod_nonneg s (show (P : Int) ≠ 0 by omega)
  have h3 := Int.emod_lt_of_pos s hP'
  have h4 : (s / (P : Int) + 1) * (P : Int) = s / (P : Int) * (P : Int) + (P : Int) := by rw [Int.add_mul, Int.one_mul]
  have h5 : (P : Int) * (s / (P : Int)) = s / (P : Int) * (P : Int) := Int.mul_comm _ _
  refine ⟨by omega, by omega, h4⟩
theorem grid_b {s : Int} {P B : Nat} (hP : 0 < P) (h : s.natAbs ≤ B * P) : (s / (P : Int)).natAbs ≤ B ∧ (s / (P : Int) + 1).natAbs ≤ B + 1 := by
  have hP' : (0 : Int) < (P : Int) := Int.natCast_pos.mpr hP
  have h1 : s / (P : Int) ≤ (B : Int) := by
    apply Int.ediv_le_of_le_mul hP'
    have : ((B * P : Nat) : Int) = (B : Int) * (P : Int) := Int.natCast_mul _ _
    omega
  have h2 : -(B : Int) ≤ s / (P : Int) := by
    apply Int.le_ediv_of_mul_le hP'
    have : ((B * P : Nat) : Int) = (B : Int) * (P : Int) := Int.natCast_mul _ _
    rw [Int.neg_mul]
    omega
  omega
/-- k times 2^e as a float's value -/
theorem rp {m : Int} {e : Nat} (hm : m.natAbs < 2 ^ 24) (he : e ≤ 250) : ∃ V, FP.Core.fits FP.Core.b32 V ∧ V ≠ .nan ∧ FP.Core.zval FP.Core.b32 V = m * ((2 ^ e : Nat) : Int) := by
  obtain ⟨V, hV, ⟨c, q, hc⟩, hz⟩ := g_repr good32 (decide (m < 0)) hm (two_p e he)
  exact ⟨V, hV, g_fin_ne hc, by rw [hz, signed_of]⟩
theorem fF_abs {x : UInt32} (h : FP.Core.val32 x ≠ .nan) {K : Nat} (hb : (fz x).natAbs ≤ 2 ^ K) (hK : K ≤ 276) : fF x :=
  fF_of h (Nat.lt_of_le_of_lt hb (Nat.pow_lt_pow_right (by decide) (by omega)))
theorem fadd_err {x y : UInt32} {e : Nat} (hx : fF x) (hy : fF y) (he : e ≤ 250) (h : (fz x + fz y).natAbs ≤ 2 ^ 23 * 2 ^ e) :
    fF (FP.fadd x y) ∧ (fz (FP.fadd x y) - (fz x + fz y)).natAbs ≤ 2 ^ e := by
  have hp : 0 < 2 ^ e := Nat.two_pow_pos _
  obtain ⟨g1, g2, g3⟩ := grid (fz x + fz y) (2 ^ e) hp
  obtain ⟨b1, b2⟩ := grid_b hp h
  obtain ⟨V, v1, v2, v3⟩ := rp (m := (fz x + fz y) / ((2 ^ e : Nat) : Int)) (e := e) (Nat.lt_of_le_of_lt b1 (by decide)) he
  obtain ⟨W, w1, w2, w3⟩ := rp (m := (fz x + fz y) / ((2 ^ e : Nat) : Int) + 1) (e := e) (Nat.lt_of_le_of_lt b2 (by decide)) he
  have l1 := fadd_ge hx hy v1 v2 (by rw [v3]; exact g1)
  have l2 := fadd_le hx hy w1 w2 (by rw [w3]; exact g2)
  rw [v3] at l1
  rw [w3, g3] at l2
  have key : (fz (FP.fadd x y) - (fz x + fz y)).natAbs ≤ 2 ^ e := by omega
  refine ⟨fF_of (fadd_nn hx hy) ?_, key⟩
  have h5 : 2 ^ 23 * 2 ^ e + 2 ^ e < 2 ^ 277 := by
    have h6 : 2 ^ e ≤ 2 ^ 250 := Nat.pow_le_pow_right (by decide) he
    have h7 : 2 ^ 23 * 2 ^ e + 2 ^ e = (2 ^ 23 + 1) * 2 ^ e := by rw [Nat.add_mul, Nat.one_mul]
    rw [h7]
    exact Nat.lt_of_le_of_lt (Nat.mul_le_mul_left _ h6) (by decide)
  omega
theorem fsub_val {x y : UInt32} (hy : fF y) : ∃ z, fF z ∧ fz z = - fz y ∧ FP.fsub x y = FP.fadd x z := by
  refine ⟨FP.Core.fneg y, ?_, ?_, FP.Core.fsub_eq x y⟩
  · obtain ⟨t, d, r, h⟩ := hy
    exact ⟨!t, d, r, by rw [FP.Core.val32_fneg, h]; rfl⟩
  · show FP.Core.zval FP.Core.b32 (FP.Core.val32 (FP.Core.fneg y)) = _
    rw [FP.Core.val32_fneg, FP.Core.zval_negate]
    rfl
theorem fsub_err {x y : UInt32} {e : Nat} (hx : fF x) (hy : fF y) (he : e ≤ 250) (h : (fz x - fz y).natAbs ≤ 2 ^ 23 * 2 ^ e) :
    fF (FP.fsub x y) ∧ (fz (FP.fsub x y) - (fz x - fz y)).natAbs ≤ 2 ^ e := by
  obtain ⟨z, z1, z2, z3⟩ := fsub_val (x := x) hy
  rw [z3]
  have := fadd_err hx z1 he (by rw [z2]; exact h)
  rw [z2] at this
  exact this
/-- products: in units of 2^-298 -/
theorem fmul_units {x y : UInt32} (hx : fF x) (hy : fF y) : ∃ sg n e, FP.Core.val32 (FP.fmul x y) = FP.Core.round FP.Core.b32 (.fin sg n e) ∧ 2 * FP.Core.b32.qmin ≤ e ∧ FP.Core.signed sg (FP.Core.inUnits n e (2 * FP.Core.b32.qmin)) = fz x * fz y := by
  obtain ⟨s, c, q, h1⟩ := hx
  obtain ⟨t, d, r, h2⟩ := hy
  obtain ⟨h3, h4, h5⟩ := FP.Core.product_units (f := FP.Core.b32) (s := s) (t := t) (c := c) (d := d) (q := q) (r := r) (by rw [← h1]; exact FP.Core.val32_fits x) (by rw [← h2]; exact FP.Core.val32_fits y)
  refine ⟨s != t, c * d, q + r, ?_, h4, ?_⟩
  · rw [← h3, ← h1, ← h2]
    exact FP.Core.val32_fmul x y
  · rw [h5, FP.Core.signed_xor]
    unfold fz
    rw [h1, h2]
    rfl
theorem p149 : ((2 ^ (FP.Core.b32.qmin - 2 * FP.Core.b32.qmin).toNat : Nat) : Int) = ((2 ^ 149 : Nat) : Int) := by rw [FP.Core.qmin_b32]; rfl
theorem fmul_ge {x y : UInt32} {V : FP.Core.Datum} (hx : fF x) (hy : fF y) (hV : FP.Core.fits FP.Core.b32 V) (hn : V ≠ .nan) (h : FP.Core.zval FP.Core.b32 V * ((2 ^ 149 : Nat) : Int) ≤ fz x * fz y) : FP.Core.zval FP.Core.b32 V ≤ fz (FP.fmul x y) := by
  obtain ⟨sg, n, e, h1, h2, h3⟩ := fmul_units hx hy
  unfold fz
  rw [h1]
  exact FP.Core.zval_round_ge good32 hV hn (e0 := 2 * FP.Core.b32.qmin) (by rw [FP.Core.qmin_b32]; decide) h2 (by rw [p149, h3]; exact h)
theorem fmul_le {x y : UInt32} {V : FP.Core.Datum} (hx : fF x) (hy : fF y) (hV : FP.Core.fits FP.Core.b32 V) (hn : V ≠ .nan) (h : fz x * fz y ≤ FP.Core.zval FP.Core.b32 V * ((2 ^ 149 : Nat) : Int)) : fz (FP.fmul x y) ≤ FP.Core.zval FP.Core.b32 V := by
  obtain ⟨sg, n, e, h1, h2, h3⟩ := fmul_units hx hy
  unfold fz
  rw [h1]
  exact FP.Core.zval_round_le good32 hV hn (e0 := 2 * FP.Core.b32.qmin) (by rw [FP.Core.qmin_b32]; decide) h2 (by rw [p149, h3]; exact h)
theorem fmul_nn {x y : UInt32} (hx : fF x) (hy : fF y) : FP.Core.val32 (FP.fmul x y) ≠ .nan := by
  rw [← FP.Core.notNaN_iff32]; exact FP.Core.fmul_out hx hy
theorem brk {F s a P : Int} (h1 : a ≤ F) (h2 : F ≤ a + P) (g1 : a ≤ s) (g2 : s ≤ a + P) : F - s ≤ P ∧ s - F ≤ P := by omega
theorem fmul_err {x y : UInt32} {e : Nat} (hx : fF x) (hy : fF y) (he : e ≤ 250) (h : (fz x * fz y).natAbs ≤ 2 ^ 23 * 2 ^ (e + 149)) :
    fF (FP.fmul x y) ∧ fz (FP.fmul x y) * ((2 ^ 149 : Nat) : Int) - fz x * fz y ≤ ((2 ^ (e + 149) : Nat) : Int) ∧ fz x * fz y - fz (FP.fmul x y) * ((2 ^ 149 : Nat) : Int) ≤ ((2 ^ (e + 149) : Nat) : Int) := by
  have hp : 0 < 2 ^ (e + 149) := Nat.two_pow_pos _
  have hc := pw_cast e 149
  have h149 : (0 : Int) ≤ ((2 ^ 149 : Nat) : Int) := Int.natCast_nonneg _
  obtain ⟨g1, g2, g3⟩ := grid (fz x * fz y) (2 ^ (e + 149)) hp
  obtain ⟨b1, b2⟩ := grid_b hp h
  generalize (fz x * fz y) / ((2 ^ (e + 149) : Nat) : Int) = m at g1 g2 g3 b1 b2
  obtain ⟨V, v1, v2, v3⟩ := rp (m := m) (e := e) (Nat.lt_of_le_of_lt b1 (by decide)) he
  obtain ⟨W, w1, w2, w3⟩ := rp (m := m + 1) (e := e) (Nat.lt_of_le_of_lt b2 (by decide)) he
  have l1 := fmul_ge hx hy v1 v2 (by rw [v3, Int.mul_assoc, ← hc]; exact g1)
  have l2 := fmul_le hx hy w1 w2 (by rw [w3, Int.mul_assoc, ← hc]; exact g2)
  rw [v3] at l1
  rw [w3] at l2
  have k1 := Int.mul_le_mul_of_nonneg_right l1 h149
  have k2 := Int.mul_le_mul_of_nonneg_right l2 h149
  rw [Int.mul_assoc, ← hc] at k1 k2
  rw [g3] at k2 g2
  refine ⟨fF_of (fmul_nn hx hy) ?_, brk k1 k2 g1 g2⟩
  have q1 : (m * ((2 ^ e : Nat) : Int)).natAbs ≤ 2 ^ 23 * 2 ^ e := by rw [Int.natAbs_mul]; exact Nat.mul_le_mul b1 (by rw [Int.natAbs_natCast]; exact Nat.le_refl _)
  have q2 : ((m + 1) * ((2 ^ e : Nat) : Int)).natAbs ≤ (2 ^ 23 + 1) * 2 ^ e := by rw [Int.natAbs_mul]; exact Nat.mul_le_mul b2 (by rw [Int.natAbs_natCast]; exact Nat.le_refl _)
  have q3 : 2 ^ 23 * 2 ^ e ≤ (2 ^ 23 + 1) * 2 ^ e := Nat.mul_le_mul_right _ (by decide)
  have q4 : (2 ^ 23 + 1) * 2 ^ e < 2 ^ 277 := Nat.lt_of_le_of_lt (Nat.mul_le_mul_left _ (Nat.pow_le_pow_right (by decide) he)) (by decide)
  generalize (2 ^ 23 + 1) * 2 ^ e = B at q2 q3 q4
  generalize 2 ^ 23 * 2 ^ e = B1 at q1 q3
  generalize m * ((2 ^ e : Nat) : Int) = u1 at l1 q1
  generalize (m + 1) * ((2 ^ e : Nat) : Int) = u2 at l2 q2
  generalize 2 ^ 277 = G at q4 ⊢
  omega
/-- quotients by what is positive, by magnitudes -/
theorem fdiv_mag {x y : UInt32} (hx : fF x) (hy : fF y) (h0 : 0 < fz y) :
    FP.Core.val32 (FP.fdiv x y) ≠ .nan ∧ (0 < fz x → 0 ≤ fz (FP.fdiv x y)) ∧ (fz x < 0 → fz (FP.fdiv x y) ≤ 0) ∧
    ∀ V, FP.Core.fits FP.Core.b32 V → V ≠ .nan → ((fz x).natAbs * 2 ^ 149 ≤ FP.Core.zmag FP.Core.b32 V * (fz y).natAbs → (fz (FP.fdiv x y)).natAbs ≤ FP.Core.zmag FP.Core.b32 V) ∧
      (FP.Core.zmag FP.Core.b32 V * (fz y).natAbs ≤ (fz x).natAbs * 2 ^ 149 → FP.Core.zmag FP.Core.b32 V ≤ (fz (FP.fdiv x y)).natAbs) := by
  obtain ⟨s, c, q, h1⟩ := hx
  obtain ⟨t, d, r, h2⟩ := hy
  have hqm : FP.Core.b32.qmin = -149 := FP.Core.qmin_b32
  have hfx : FP.Core.fits FP.Core.b32 (.fin s c q) := by rw [← h1]; exact FP.Core.val32_fits x
  have hfy : FP.Core.fits FP.Core.b32 (.fin t d r) := by rw [← h2]; exact FP.Core.val32_fits y
  have hq1 : (-149 : Int) ≤ q := by have := hfx.2.1; omega
  have hr1 : (-149 : Int) ≤ r := by have := hfy.2.1; omega
  have hr2 : r ≤ 104 := by have := hfy.2.2.1; rw [show FP.Core.b32.qmax = 104 by decide] at this; exact this
  have ex : fz x = FP.Core.signed s (c * 2 ^ (q + 149).toNat) := by
    unfold fz
    rw [h1]
    show FP.Core.signed s (FP.Core.inUnits c q FP.Core.b32.qmin) = _
    rw [hqm]
    unfold FP.Core.inUnits
    rw [show q - -149 = q + 149 by omega]
  have ey : fz y = FP.Core.signed t (d * 2 ^ (r + 149).toNat) := by
    unfold fz
    rw [h2]
    show FP.Core.signed t (FP.Core.inUnits d r FP.Core.b32.qmin) = _
    rw [hqm]
    unfold FP.Core.inUnits
    rw [show r - -149 = r + 149 by omega]
  have ht : t = false := by
    cases t with
    | false => rfl
    | true =>
      rw [ey] at h0
      have : FP.Core.signed true (d * 2 ^ (r + 149).toNat) = -((d * 2 ^ (r + 149).toNat : Nat) : Int) := rfl
      omega
  subst ht
  have hd : d ≠ 0 := by
    intro h9
    rw [ey, h9, Nat.zero_mul] at h0
    exact absurd h0 (by decide)
  have ax : (fz x).natAbs = c * 2 ^ (q + 149).toNat := by rw [ex, g_signed_nat]
  have ay : (fz y).natAbs = d * 2 ^ (r + 149).toNat := by rw [ey, g_signed_nat]
  have hv : FP.Core.val32 (FP.fdiv x y) = FP.Core.roundRatio FP.Core.b32 s c d (q - r) := by
    have hv := FP.Core.val32_fdiv x y
    rw [h1, h2] at hv
    have hv2 : FP.Core.quotient FP.Core.b32 (.fin s c q) (.fin false d r) = FP.Core.roundRatio FP.Core.b32 (s != false) c d (q - r) := by
      show (if d = 0 then (if c = 0 then FP.Core.Datum.nan else .inf (s != false)) else FP.Core.roundRatio FP.Core.b32 (s != false) c d (q - r)) = _
      rw [if_neg hd]
    rw [hv2, Bool.bne_false] at hv
    exact hv
  have hnn : FP.Core.val32 (FP.fdiv x y) ≠ .nan := by
    rw [hv]
    rcases FP.Core.roundRatio_cases FP.Core.b32 s c d (q - r) with ⟨c', q', hR⟩ | hR
    · rw [hR]; exact FP.Core.Datum.noConfusion
    · rw [hR]; exact FP.Core.Datum.noConfusion
  have hsg : FP.Core.sgn (FP.Core.val32 (FP.fdiv x y)) = s := by rw [hv, FP.Core.sgn_roundRatio]
  have hfz : fz (FP.fdiv x y) = FP.Core.signed s (FP.Core.zmag FP.Core.b32 (FP.Core.val32 (FP.fdiv x y))) := by
    unfold fz FP.Core.zval
    rw [hsg]
  have key : ∀ (Z : Nat), FP.Core.inUnits c (q - r) (-400) * 2 ^ (r + 149).toNat = c * 2 ^ (q + 149).toNat * 2 ^ 400 ∧ Z * 2 ^ (FP.Core.b32.qmin - -400).toNat * d * 2 ^ (r + 149).toNat = Z * (d * 2 ^ (r + 149).toNat) * 2 ^ 251 := by
    intro Z
    refine ⟨?_, ?_⟩
    · unfold FP.Core.inUnits
      rw [Nat.mul_assoc, Nat.mul_assoc, ← Nat.pow_add, ← Nat.pow_add, show (q - r - -400).toNat + (r + 149).toNat = (q + 149).toNat + 400 by omega]
    · rw [hqm, show ((-149 : Int) - -400).toNat = 251 by decide]
      rw [Nat.mul_assoc (Z * 2 ^ 251), Nat.mul_assoc Z, Nat.mul_comm (2 ^ 251), ← Nat.mul_assoc Z]
  have e551 : (2 : Nat) ^ 400 = 2 ^ 149 * 2 ^ 251 := by rw [← Nat.pow_add]
  refine ⟨hnn, fun hp => ?_, fun hn => ?_, fun V hV hVn => ⟨fun h => ?_, fun h => ?_⟩⟩
  · rw [hfz]
    cases s with
    | false => exact Int.natCast_nonneg _
    | true =>
      rw [ex] at hp
      have : FP.Core.signed true (c * 2 ^ (q + 149).toNat) = -((c * 2 ^ (q + 149).toNat : Nat) : Int) := rfl
      omega
  · rw [hfz]
    cases s with
    | true =>
      have : ∀ k : Nat, FP.Core.signed true k ≤ 0 := fun k => by show -(k : Int) ≤ 0; omega
      exact this _
    | false =>
      rw [ex] at hn
      have : FP.Core.signed false (c * 2 ^ (q + 149).toNat) = ((c * 2 ^ (q + 149).toNat : Nat) : Int) := rfl
      omega
  · rw [zmag_abs, hv]
    refine FP.Core.zmag_roundRatio_le good32 (Nat.pos_of_ne_zero hd) hV hVn (e0 := -400) (by rw [hqm]; decide) (by omega) ?_
    refine Nat.le_of_mul_le_mul_right (c := 2 ^ (r + 149).toNat) ?_ (Nat.two_pow_pos _)
    rw [(key 0).1, (key (FP.Core.zmag FP.Core.b32 V)).2, ← ax, ← ay, e551, ← Nat.mul_assoc]
    exact Nat.mul_le_mul_right _ h
  · rw [zmag_abs, hv]
    refine FP.Core.zmag_roundRatio_ge good32 (Nat.pos_of_ne_zero hd) hV (e0 := -400) (by rw [hqm]; decide) (by omega) ?_
    refine Nat.le_of_mul_le_mul_right (c := 2 ^ (r + 149).toNat) ?_ (Nat.two_pow_pos _)
    rw [(key 0).1, (key (FP.Core.zmag FP.Core.b32 V)).2, ← ax, ← ay, e551, ← Nat.mul_assoc]
    exact Nat.mul_le_mul_right _ h
theorem rpN {k e : Nat} (hk : k < 2 ^ 24) (he : e ≤ 250) : ∃ V, FP.Core.fits FP.Core.b32 V ∧ V ≠ .nan ∧ FP.Core.zmag FP.Core.b32 V = k * 2 ^ e := by
  obtain ⟨V, hV, ⟨c, q, hc⟩, hz⟩ := g_repr good32 false hk (two_p e he)
  refine ⟨V, hV, g_fin_ne hc, ?_⟩
  have := congrArg Int.natAbs hz
  unfold FP.Core.zval at this
  rw [g_signed_nat, g_signed_nat] at this
  exact this
theorem gridN (s P : Nat) (hP : 0 < P) : s / P * P ≤ s ∧ s ≤ (s / P + 1) * P ∧ (s / P + 1) * P = s / P * P + P := by
  have h1 := Nat.div_add_mod s P
  have h2 := Nat.mod_lt s hP
  have h4 : (s / P + 1) * P = s / P * P + P := by rw [Nat.add_mul, Nat.one_mul]
  have h5 : P * (s / P) = s / P * P := Nat.mul_comm _ _
  omega
theorem fdiv_err {x y : UInt32} {e : Nat} (hx : fF x) (hy : fF y) (h0 : 0 < fz y) (he : e ≤ 250) (h : (fz x).natAbs * 2 ^ 149 ≤ 2 ^ 23 * (2 ^ e * (fz y).natAbs)) :
    fF (FP.fdiv x y) ∧ (fz (FP.fdiv x y) * fz y - fz x * ((2 ^ 149 : Nat) : Int)).natAbs ≤ 2 ^ e * (fz y).natAbs := by
  obtain ⟨a1, a2, a3, a4⟩ := fdiv_mag hx hy h0
  have hP : 0 < 2 ^ e * (fz y).natAbs := Nat.mul_pos (Nat.two_pow_pos _) (by omega)
  obtain ⟨g1, g2, g3⟩ := gridN ((fz x).natAbs * 2 ^ 149) (2 ^ e * (fz y).natAbs) hP
  have b1 : (fz x).natAbs * 2 ^ 149 / (2 ^ e * (fz y).natAbs) ≤ 2 ^ 23 := Nat.div_le_of_le_mul (Nat.le_trans h (Nat.le_of_eq (Nat.mul_comm _ _)))
  generalize (fz x).natAbs * 2 ^ 149 / (2 ^ e * (fz y).natAbs) = m at g1 g2 g3 b1
  obtain ⟨V, v1, v2, v3⟩ := rpN (k := m) (e := e) (Nat.lt_of_le_of_lt b1 (by decide)) he
  obtain ⟨W, w1, w2, w3⟩ := rpN (k := m + 1) (e := e) (Nat.lt_of_le_of_lt (Nat.succ_le_succ b1) (by decide)) he
  have l1 := (a4 V v1 v2).2 (by rw [v3, Nat.mul_assoc]; exact g1)
  have l2 := (a4 W w1 w2).1 (by rw [w3, Nat.mul_assoc]; exact g2)
  rw [v3] at l1
  rw [w3] at l2
  have k1 := Nat.mul_le_mul_right (fz y).natAbs l1
  have k2 := Nat.mul_le_mul_right (fz y).natAbs l2
  rw [Nat.mul_assoc] at k1 k2
  rw [g3] at g2 k2
  refine ⟨fF_of a1 ?_, ?_⟩
  · have q1 : (m + 1) * 2 ^ e ≤ (2 ^ 23 + 1) * 2 ^ 250 := Nat.mul_le_mul (Nat.succ_le_succ b1) (Nat.pow_le_pow_right (by decide) he)
    have q2 : (2 ^ 23 + 1) * 2 ^ 250 < 2 ^ 277 := by decide
    omega
  · have ey : fz y = ((fz y).natAbs : Int) := by omega
    have ep : (fz (FP.fdiv x y) * fz y).natAbs = (fz (FP.fdiv x y)).natAbs * (fz y).natAbs := Int.natAbs_mul _ _
    have ex : (fz x * ((2 ^ 149 : Nat) : Int)).natAbs = (fz x).natAbs * 2 ^ 149 := by rw [Int.natAbs_mul, Int.natAbs_natCast]
    have hpos : (0 : Int) < ((2 ^ 149 : Nat) : Int) := Int.natCast_pos.mpr (Nat.two_pow_pos _)
    rw [← ep] at k1 k2
    rw [← ex] at g1 g2
    rcases Int.lt_trichotomy (fz x) 0 with hs | hs | hs
    · have s1 : fz (FP.fdiv x y) * fz y ≤ 0 := Int.mul_nonpos_of_nonpos_of_nonneg (a3 hs) (Int.le_of_lt h0)
      have s2 : fz x * ((2 ^ 149 : Nat) : Int) ≤ 0 := Int.mul_nonpos_of_nonpos_of_nonneg (Int.le_of_lt hs) (Int.le_of_lt hpos)
      generalize fz (FP.fdiv x y) * fz y = u1 at *
      generalize fz x * ((2 ^ 149 : Nat) : Int) = u2 at *
      generalize 2 ^ e * (fz y).natAbs = P at *
      generalize m * P = mP at *
      omega
    · rw [hs, Int.zero_mul] at g1 g2 ⊢
      generalize fz (FP.fdiv x y) * fz y = u1 at *
      generalize 2 ^ e * (fz y).natAbs = P at *
      generalize m * P = mP at *
      omega
    · have s1 : 0 ≤ fz (FP.fdiv x y) * fz y := Int.mul_nonneg (a2 hs) (Int.le_of_lt h0)
      have s2 : 0 ≤ fz x * ((2 ^ 149 : Nat) : Int) := Int.mul_nonneg (Int.le_of_lt hs) (Int.le_of_lt hpos)
      generalize fz (FP.fdiv x y) * fz y = u1 at *
      generalize fz x * ((2 ^ 149 : Nat) : Int) = u2 at *
      generalize 2 ^ e * (fz y).natAbs = P at *
      generalize m * P = mP at *
      omega
theorem signed_pos {s : Bool} {k : Nat} (h : 0 < FP.Core.signed s k) : s = false ∧ FP.Core.signed s k = (k : Int) := by
  cases s with
  | false => exact ⟨rfl, rfl⟩
  | true => exact absurd h (by show ¬ 0 < -(k : Int); omega)
/-- a sum above 0 is the rounding of the whole number of units that it is -/
theorem fadd_can {u w : UInt32} (hu : fF u) (hw : fF w) (hp : 0 < fz u + fz w) : FP.Core.val32 (FP.fadd u w) = FP.Core.round FP.Core.b32 (.fin false (fz u + fz w).toNat FP.Core.b32.qmin) := by
  obtain ⟨s, c, q, e1⟩ := hu
  obtain ⟨t, d, r, e2⟩ := hw
  obtain ⟨sg, n, e', h3, h4, h5⟩ := FP.Core.sum_units (f := FP.Core.b32) (by rw [← e1]; exact FP.Core.val32_fits u) (by rw [← e2]; exact FP.Core.val32_fits w)
  have hv := FP.Core.val32_fadd u w
  rw [e1, e2, h3] at hv
  have h6 : FP.Core.signed sg (FP.Core.inUnits n e' FP.Core.b32.qmin) = fz u + fz w := by rw [h5, ← e1, ← e2]; rfl
  rw [← h6] at hp
  obtain ⟨a1, a2⟩ := signed_pos hp
  have h7 : (fz u + fz w).toNat = FP.Core.inUnits n e' FP.Core.b32.qmin := by rw [← h6, a2]; rfl
  rw [h7, FP.Core.round_inUnits false n h4, ← a1]
  exact hv
/-- no float is nearer to a sum than the one that is told -/
theorem fadd_near {u w V : UInt32} (hu : fF u) (hw : fF w) (hp : 0 < fz u + fz w) (hf : fF (FP.fadd u w)) (hV : fF V) (hV0 : 0 ≤ fz V) : 0 ≤ fz (FP.fadd u w) ∧ (fz u + fz w - fz (FP.fadd u w)).natAbs ≤ (fz u + fz w - fz V).natAbs := by
  have hc := fadd_can hu hw hp
  obtain ⟨t, c, q, e1⟩ := hf
  obtain ⟨t', c', q', e2⟩ := hV
  have hfits : FP.Core.fits FP.Core.b32 (.fin t' c' q') := by rw [← e2]; exact FP.Core.val32_fits V
  have hr : FP.Core.roundRatio FP.Core.b32 false (fz u + fz w).toNat 1 FP.Core.b32.qmin = .fin t c q := by rw [← e1, hc]; rfl
  have ht : t = false := by
    have := FP.Core.sgn_roundRatio FP.Core.b32 false (fz u + fz w).toNat 1 FP.Core.b32.qmin
    rw [hr] at this
    exact this
  have hn := FP.Core.roundRatio_nearest good32 (by decide) hr (c' := c') (q' := q') (e0 := FP.Core.b32.qmin) hfits.1 hfits.2.1 (Int.le_refl _) (Int.le_refl _)
  unfold FP.Core.distance at hn
  have i0 : FP.Core.inUnits (fz u + fz w).toNat FP.Core.b32.qmin FP.Core.b32.qmin = (fz u + fz w).toNat := by unfold FP.Core.inUnits; rw [Int.sub_self]; exact Nat.mul_one _
  rw [i0] at hn
  have z1 : fz (FP.fadd u w) = (FP.Core.inUnits c q FP.Core.b32.qmin : Int) := by
    show FP.Core.zval FP.Core.b32 (FP.Core.val32 (FP.fadd u w)) = _
    rw [e1, ht]; rfl
  have z2 : fz V = (FP.Core.inUnits c' q' FP.Core.b32.qmin : Int) := by
    have h9 : fz V = FP.Core.signed t' (FP.Core.inUnits c' q' FP.Core.b32.qmin) := by unfold fz; rw [e2]; rfl
    rw [h9] at hV0 ⊢
    cases t' with
    | false => rfl
    | true =>
      have : FP.Core.signed true (FP.Core.inUnits c' q' FP.Core.b32.qmin) = -((FP.Core.inUnits c' q' FP.Core.b32.qmin : Nat) : Int) := rfl
      omega
  rw [z1, z2]
  have e9 : ((fz u + fz w).toNat : Int) = fz u + fz w := Int.toNat_of_nonneg (Int.le_of_lt hp)
  rw [e9] at hn
  refine ⟨Int.natCast_nonneg _, ?_⟩
  simpa using hn
/-- sums of what isn't negative are monotone -/
theorem fadd_mono {x y z : UInt32} (hx : fF x) (hy : fF y) (hz : fF z) (h1 : 0 ≤ fz x) (h2 : 0 ≤ fz y) (h3 : fz y ≤ fz z) (hf : fF (FP.fadd x y)) (hg : fF (FP.fadd x z)) : fz (FP.fadd x y) ≤ fz (FP.fadd x z) := by
  by_cases hc : fz (FP.fadd x y) ≤ fz (FP.fadd x z)
  · exact hc
  exfalso
  have c1 : fz (FP.fadd x z) < fz x + fz y := by
    refine Int.not_le.mp fun q => hc ?_
    exact fadd_le hx hy (FP.Core.val32_fits (FP.fadd x z)) hg.ne_nan q
  have c2 : fz x + fz z < fz (FP.fadd x y) := by
    refine Int.not_le.mp fun q => hc ?_
    exact fadd_ge hx hz (FP.Core.val32_fits (FP.fadd x y)) hf.ne_nan q
  have c0 : 0 ≤ fz (FP.fadd x z) := by
    obtain ⟨V, v1, v2, v3⟩ := rp (m := 0) (e := 0) (by decide) (by decide)
    have := fadd_ge hx hz v1 v2 (by rw [v3]; omega)
    rw [v3] at this
    omega
  have n1 := fadd_near hx hy (by omega) hf hg c0
  have n2 := fadd_near hx hz (by omega) hg hf n1.1
  have e : fz y = fz z := by omega
  have k1 := fadd_can hx hy (by omega)
  have k2 := fadd_can hx hz (by omega)
  rw [e, ← k2] at k1
  have : fz (FP.fadd x y) = fz (FP.fadd x z) := by
    show FP.Core.zval FP.Core.b32 (FP.Core.val32 (FP.fadd x y)) = FP.Core.zval FP.Core.b32 (FP.Core.val32 (FP.fadd x z))
    rw [k1]
  omega
