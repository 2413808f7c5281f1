/-! casts, numbers put on sheets, beams -/
theorem signed_tdiv (s : Bool) (m P : Nat) : FP.Core.signed s (m / P) = (FP.Core.signed s m).tdiv (P : Int) := by
  cases s with
  | false => exact (Int.ofNat_tdiv m P).symm ▸ rfl
  | true =>
    show -((m / P : Nat) : Int) = (-(m : Int)).tdiv (P : Int)
    rw [Int.neg_tdiv]
    rfl
theorem d2i_tdiv {x : UInt64} (hx : dF x) : (FP.d2i x).toInt = max (-2 ^ 31) (min (2 ^ 31 - 1) ((dz x).tdiv ((2 ^ 1074 : Nat) : Int))) := by
  have h := FP.Core.d2i_val (a := x) hx.ne_nan
  rw [signed_tdiv] at h
  exact h
theorem f2i_tdiv {x : UInt32} (hx : fF x) : (FP.f2i x).toInt = max (-2 ^ 31) (min (2 ^ 31 - 1) ((fz x).tdiv ((2 ^ 149 : Nat) : Int))) := by
  have h := FP.Core.f2i_val (a := x) hx.ne_nan
  rw [signed_tdiv] at h
  exact h
theorem d2i_f {x : UInt64} {y : UInt32} (hx : dF x) (hy : fF y) (h : dz x = fz y * ((2 ^ 925 : Nat) : Int)) : FP.d2i x = FP.f2i y := by
  apply Int32.toInt_inj.mp
  rw [d2i_tdiv hx, f2i_tdiv hy, h, show ((2 ^ 1074 : Nat) : Int) = ((2 ^ 149 : Nat) : Int) * ((2 ^ 925 : Nat) : Int) by rw [← Int.natCast_mul, ← Nat.pow_add], Int.mul_tdiv_mul_of_pos_left _ _ (Int.natCast_pos.mpr (Nat.two_pow_pos _))]
theorem d2i_d {x y : UInt64} (hx : dF x) (hy : dF y) (h : dz x = dz y) : FP.d2i x = FP.d2i y := by
  apply Int32.toInt_inj.mp
  rw [d2i_tdiv hx, d2i_tdiv hy, h]
theorem dneg0 {y : UInt64} {c e : Nat} (hy : dF y) (hc : c < 2 ^ 53) (he : e ≤ 2000) (h : dz y = ((c * 2 ^ e : Nat) : Int)) : dF (FP.dsub FP.dconst0 y) ∧ dz (FP.dsub FP.dconst0 y) = - dz y := by
  obtain ⟨t, d, r, h2⟩ := hy
  have hneg : FP.Core.negate (FP.Core.val64 y) = .fin (!t) d r := by rw [h2]; rfl
  have h0 : FP.Core.val64 FP.dconst0 = .fin false 0 FP.Core.b64.qmin := FP.Core.val64_dconst0
  obtain ⟨sg, n, e', h3, h4, h5⟩ := FP.Core.sum_units (f := FP.Core.b64) (s := false) (c := 0) (q := FP.Core.b64.qmin) (by rw [← h0]; exact FP.Core.val64_fits _) (by rw [← hneg]; exact FP.Core.negate_fits (FP.Core.val64_fits y))
  have hv := FP.Core.val64_dsub FP.dconst0 y
  rw [hneg, h0, h3] at hv
  have hs : FP.Core.signed sg (FP.Core.inUnits n e' FP.Core.b64.qmin) = FP.Core.signed true (c * 2 ^ e) := by
    rw [h5, ← h0, ← hneg, FP.Core.zval_negate]
    show dz FP.dconst0 + - dz y = -((c * 2 ^ e : Nat) : Int)
    rw [dz_0, h, Int.zero_add]
  obtain ⟨a1, c', q', a2⟩ := g_exact good64 h4 hc (by
    have q1 : FP.Core.b64.qmin = -1074 := FP.Core.qmin_b64
    have q2 : FP.Core.b64.qmax = 971 := by decide
    omega) hs
  rw [← hv] at a1 a2
  refine ⟨⟨sg, c', q', a2⟩, ?_⟩
  rw [h]
  exact a1
theorem ai32 {x : UInt32} (h : sF x) : okSz 0 x.toInt32.toInt64 ∧ vf_n64 (FP.dsub FP.dconst0 (szF 0 x.toInt32.toInt64)) ∧ aiF 0 x.toInt32.toInt64 = FP.f2i x := by
  obtain ⟨a1, a2, a3, _, a5⟩ := szX h
  have hex : ∃ c e, c < 2 ^ 53 ∧ e ≤ 2000 ∧ (fz x).natAbs * 2 ^ 925 = c * 2 ^ e := by
    by_cases h0 : (fz x).natAbs = 0
    · exact ⟨0, 0, by decide, by decide, by rw [h0, Nat.zero_mul, Nat.zero_mul]⟩
    · obtain ⟨c, q, b1, b2, b3, b4⟩ := a5 h0
      exact ⟨c, (q + 1074).toNat, b1.2.2.1, by omega, b4.symm⟩
  obtain ⟨c, e, c1, c2, c3⟩ := hex
  have hd := dneg0 a2 c1 c2 (by rw [a3, c3])
  refine ⟨a1, dF_nn hd.1, ?_⟩
  obtain ⟨s, cx, q, hv⟩ := h.1
  have hs := neg32 hv
  have hz := fz_fin hv
  unfold aiF
  cases s with
  | false =>
    rw [if_neg (of_decide_eq_false hs)]
    refine d2i_f a2 h.1 ?_
    rw [a3, hz.1, hz.2, Int.natCast_mul]
    rfl
  | true =>
    rw [if_pos (of_decide_eq_true hs)]
    refine d2i_f hd.1 h.1 ?_
    rw [hd.2, a3, hz.1, hz.2, Int.natCast_mul, ← Int.neg_mul]
    rfl
theorem ai64 {x : UInt64} (h : sD x) : okSz 1 x.toInt64 ∧ vf_n64 (FP.dsub FP.dconst0 (szF 1 x.toInt64)) ∧ aiF 1 x.toInt64 = FP.d2i x := by
  obtain ⟨a1, a2, a3, _, a5⟩ := szY h
  have hex : ∃ c e, c < 2 ^ 53 ∧ e ≤ 2000 ∧ (dz x).natAbs = c * 2 ^ e := by
    by_cases h0 : (dz x).natAbs = 0
    · exact ⟨0, 0, by decide, by decide, by rw [h0, Nat.zero_mul]⟩
    · obtain ⟨c, q, b1, b2, b3, b4⟩ := a5 h0
      exact ⟨c, (q + 1074).toNat, b1.2.2.1, by omega, b4.symm⟩
  obtain ⟨c, e, c1, c2, c3⟩ := hex
  have hd := dneg0 a2 c1 c2 (by rw [a3, c3])
  refine ⟨a1, dF_nn hd.1, ?_⟩
  obtain ⟨s, cx, q, hv⟩ := h.1
  have hs := neg64 hv
  have hz := dz_fin hv
  have hz2 : dz x = FP.Core.signed s (cx * 2 ^ (q + 1074).toNat) := by
    unfold dz
    rw [hv]
    show FP.Core.signed s (cx * 2 ^ (q - FP.Core.b64.qmin).toNat) = _
    rw [FP.Core.qmin_b64, show q - -1074 = q + 1074 by omega]
  unfold aiF
  cases s with
  | false =>
    rw [if_neg (of_decide_eq_false hs)]
    refine d2i_d a2 h.1 ?_
    rw [a3, hz, hz2]
    rfl
  | true =>
    rw [if_pos (of_decide_eq_true hs)]
    refine d2i_d hd.1 h.1 ?_
    rw [hd.2, a3, hz, hz2]
    rfl
theorem no32 {x : UInt32} (h : sF x) : decide (Op.cmpValue (FP.dcmp (szF 0 x.toInt32.toInt64) FP.dconst0) .l = 0) = decide ((fz x).natAbs = 0) := by
  obtain ⟨a1, a2, a3, _⟩ := szX h
  refine decide_eq_decide.mpr ?_
  rw [deq_iff a2 dF_0, dz_0, a3]
  constructor
  · intro h9
    have h9 : (fz x).natAbs * 2 ^ 925 = 0 := by omega
    rcases Nat.mul_eq_zero.mp h9 with h8 | h8
    · exact h8
    · exact absurd h8 (Nat.ne_of_gt (Nat.two_pow_pos _))
  · intro h9
    rw [h9, Nat.zero_mul]
    rfl
theorem no64 {x : UInt64} (h : sD x) : decide (Op.cmpValue (FP.dcmp (szF 1 x.toInt64) FP.dconst0) .l = 0) = decide ((dz x).natAbs = 0) := by
  obtain ⟨a1, a2, a3, _⟩ := szY h
  refine decide_eq_decide.mpr ?_
  rw [deq_iff a2 dF_0, dz_0, a3]
  omega
/-! put -/
theorem pw_all : ∀ k, k < 21 → (FP.d2f (FP.i2d (1 <<< (nI k &&& 31))) = FP.i2f (1 <<< (nI k &&& 31)) ∧ FP.Core.val32 (FP.i2f (1 <<< (nI k &&& 31))) = .fin false (2 ^ 23) ((k : Int) - 23) ∧ FP.Core.val64 (FP.i2d (1 <<< (nI k &&& 31))) = .fin false (2 ^ 52) ((k : Int) - 52)) := by decide +kernel
theorem l2f_fin {v : Int64} (h : v.toInt ≠ 0) : ∃ s c q, FP.Core.val32 (FP.l2f v) = .fin s c q ∧ 2 ^ 23 ≤ c ∧ c < 2 ^ 24 ∧ -23 ≤ q ∧ q ≤ 41 := by
  have h1 := (FP.Core.l2f_big h).1
  have h2 := FP.Core.l2f_mag v
  have h3 : fF (FP.l2f v) := FP.Core.l2f_fin v
  obtain ⟨s, c, q, hv, hc⟩ := nrm32 h3 (by have : (FP.l2f v).toNat = (FP.Core.l2f v).toNat := rfl; omega)
  obtain ⟨b1, b2, b3, _, b5⟩ := bits32 hv
  have hb := b5 hc
  have hs : s.toNat = 0 ∨ s.toNat = 1 := by cases s <;> simp
  have e : (FP.l2f v).toNat = (FP.Core.l2f v).toNat := rfl
  rw [e] at hb
  exact ⟨s, c, q, hv, hc, b3, by omega, by omega⟩
theorem sF_n {x : UInt32} {s : Bool} {c : Nat} {q : Int} (hv : FP.Core.val32 x = .fin s c q) (hc : c < 2 ^ 24) (h1 : -49 ≤ q) (h2 : q ≤ 57) : sF x := by
  have e := (fz_fin hv).1
  refine ⟨⟨s, c, q, hv⟩, ⟨c * 2 ^ (q + 49).toNat, ?_⟩, ?_⟩
  · rw [e, Nat.mul_assoc, ← Nat.pow_add, show (q + 49).toNat + 100 = (q + 149).toNat by omega]
  · rw [e]
    refine Nat.lt_of_lt_of_le (Nat.mul_lt_mul_of_pos_right hc (Nat.two_pow_pos _)) ?_
    rw [← Nat.pow_add]
    exact Nat.pow_le_pow_right (by decide) (by omega)
theorem okX_n {x : UInt32} {s : Bool} {c : Nat} {q : Int} (hv : FP.Core.val32 x = .fin s c q) (hc : 2 ^ 23 ≤ c) : okX x := by
  refine okX_of ⟨s, c, q, hv⟩ ?_
  rw [(fz_fin hv).1]
  exact Nat.le_trans hc (Nat.le_mul_of_pos_right _ (Nat.two_pow_pos _))
theorem sF_0 : sF FP.fconst0 := ⟨fF_0, ⟨0, by rw [fz_0]; rfl⟩, by rw [fz_0]; exact Nat.two_pow_pos _⟩
theorem put32 {v : Int64} {k : Nat} (hk : k < 21) : vf_n32 (FP.d2f (FP.i2d (1 <<< (nI k &&& 31)))) ∧ FP.d2f (FP.i2d (1 <<< (nI k &&& 31))) = FP.i2f (1 <<< (nI k &&& 31)) ∧ okX (FP.fdiv (FP.l2f v) (FP.i2f (1 <<< (nI k &&& 31)))) ∧ sF (FP.fdiv (FP.l2f v) (FP.i2f (1 <<< (nI k &&& 31)))) := by
  obtain ⟨p1, p2, _⟩ := pw_all k hk
  have hpF : fF (FP.i2f (1 <<< (nI k &&& 31))) := ⟨_, _, _, p2⟩
  refine ⟨by rw [p1]; exact fF_nn hpF, p1, ?_⟩
  by_cases h0 : v.toInt = 0
  · have hv : v = 0 := Int64.toInt_inj.mp h0
    have e : FP.l2f v = FP.fconst0 := by rw [hv]; decide +kernel
    have hpos : 0 < fz (FP.i2f (1 <<< (nI k &&& 31))) := by
      rw [(fz_fin p2).2]
      exact Int.natCast_pos.mpr (Nat.mul_pos (by decide) (Nat.two_pow_pos _))
    rw [e, fdiv_0 hpF hpos (pos_bits hpF hpos)]
    exact ⟨okX_0, sF_0⟩
  · obtain ⟨s, c, q, hv, hc, hc2, hq1, hq2⟩ := l2f_fin h0
    have hd := FP.Core.val32_fdiv (FP.l2f v) (FP.i2f (1 <<< (nI k &&& 31)))
    rw [hv, p2] at hd
    have e : FP.Core.quotient FP.Core.b32 (.fin s c q) (.fin false (2 ^ 23) ((k : Int) - 23)) = .fin s c (q - (k : Int)) := by
      show (if (2 : Nat) ^ 23 = 0 then (if c = 0 then FP.Core.Datum.nan else .inf (s != false)) else FP.Core.roundRatio FP.Core.b32 (s != false) c (2 ^ 23) (q - ((k : Int) - 23))) = _
      rw [if_neg (by decide), show (s != false) = s by cases s <;> rfl]
      refine FP.Core.roundRatio_exact good32 (by decide) ⟨hc2, ?_, ?_, Or.inr (by rw [FP.Core.tails_b32]; exact hc)⟩ ?_
      · rw [FP.Core.qmin_b32]; omega
      · rw [show FP.Core.b32.qmax = 104 by decide]; omega
      · rw [show (q - ((k : Int) - 23) - (q - (k : Int))).toNat = 23 by omega, show (q - (k : Int) - (q - ((k : Int) - 23))).toNat = 0 by omega]; simp
    rw [e] at hd
    exact ⟨okX_n hd hc, sF_n hd hc2 (by omega) (by omega)⟩
theorem l2d_fin {v : Int64} (h : v.toInt ≠ 0) : ∃ s c q, dD (FP.l2d v) s c q ∧ -52 ≤ q ∧ q ≤ 12 := by
  have h1 := (FP.Core.l2d_big h).1
  have h2 := FP.Core.l2d_mag v
  obtain ⟨s, c, q, hv⟩ : dF (FP.l2d v) := FP.Core.l2d_fin v
  have hf := FP.Core.val64_fits (FP.l2d v)
  rw [hv] at hf
  obtain ⟨f1, f2, f3, f4⟩ := hf
  have e1 : FP.Core.b64.qmin = -1074 := FP.Core.qmin_b64
  have hb : (FP.Core.l2d v).toNat = FP.Core.encode FP.Core.b64 (.fin s c q) := by
    have h1 := FP.Core.toNat_of64 (FP.Core.val64_fits (FP.l2d v))
    rw [FP.Core.of64_val64 (by rw [hv]; exact FP.Core.Datum.noConfusion), hv] at h1
    exact h1
  have hs : s.toNat = 0 ∨ s.toNat = 1 := by cases s <;> simp
  have f1 : c < 2 ^ 53 := f1
  by_cases hc : c < 2 ^ 52
  · exfalso
    have : FP.Core.encode FP.Core.b64 (.fin s c q) = s.toNat * 2 ^ 63 + c := by
      show (if c < FP.Core.b64.tails then FP.Core.assemble FP.Core.b64 s 0 c else _) = _
      rw [if_pos (by rw [FP.Core.tails_b64]; exact hc)]
      show (s.toNat * FP.Core.b64.exps + 0) * FP.Core.b64.tails + c = _
      rw [FP.Core.tails_b64, show FP.Core.b64.exps = 2048 by decide]
      omega
    omega
  · have : FP.Core.encode FP.Core.b64 (.fin s c q) = (s.toNat * 2048 + ((q + 1074).toNat + 1)) * 2 ^ 52 + (c - 2 ^ 52) := by
      show (if c < FP.Core.b64.tails then _ else FP.Core.assemble FP.Core.b64 s ((q - FP.Core.b64.qmin).toNat + 1) (c - FP.Core.b64.tails)) = _
      rw [if_neg (by rw [FP.Core.tails_b64]; omega)]
      show (s.toNat * FP.Core.b64.exps + ((q - FP.Core.b64.qmin).toNat + 1)) * FP.Core.b64.tails + (c - FP.Core.b64.tails) = _
      rw [FP.Core.tails_b64, show FP.Core.b64.exps = 2048 by decide, e1, show q - -1074 = q + 1074 by omega]
    have e2 : FP.Core.b64.qmax = 971 := by decide
    have q1 : -52 ≤ q := by omega
    have q2 : q ≤ 12 := by omega
    exact ⟨s, c, q, ⟨hv, by omega, f1, by omega, by omega⟩, q1, q2⟩
theorem sD_n {x : UInt64} {s : Bool} {c : Nat} {q : Int} (h : dD x s c q) (h1 : -174 ≤ q) (h2 : q ≤ 60) : sD x := by
  have e := dz_fin h.1
  refine ⟨dD_F h, ⟨c * 2 ^ (q + 174).toNat, ?_⟩, ?_⟩
  · rw [e, Nat.mul_assoc, ← Nat.pow_add, show (q + 174).toNat + 900 = (q + 1074).toNat by omega]
  · rw [e]
    refine Nat.lt_of_lt_of_le (Nat.mul_lt_mul_of_pos_right h.2.2.1 (Nat.two_pow_pos _)) ?_
    rw [← Nat.pow_add]
    exact Nat.pow_le_pow_right (by decide) (by omega)
theorem sD_0 : sD FP.dconst0 := by
  have h : (dz FP.dconst0).natAbs = 0 := by rw [dz_0]; rfl
  refine ⟨dF_0, ⟨0, by rw [h, Nat.zero_mul]⟩, ?_⟩
  rw [h]
  exact Nat.two_pow_pos 1190
theorem put64 {v : Int64} {k : Nat} (hk : k < 21) : vf_n64 (FP.ddiv (FP.l2d v) (FP.i2d (1 <<< (nI k &&& 31)))) ∧ okEn 1 (FP.ddiv (FP.l2d v) (FP.i2d (1 <<< (nI k &&& 31)))) ∧ enF 1 (FP.ddiv (FP.l2d v) (FP.i2d (1 <<< (nI k &&& 31)))) = (FP.ddiv (FP.l2d v) (FP.i2d (1 <<< (nI k &&& 31)))).toInt64 ∧ sD (FP.ddiv (FP.l2d v) (FP.i2d (1 <<< (nI k &&& 31)))) := by
  obtain ⟨_, _, p2⟩ := pw_all k hk
  by_cases h0 : v.toInt = 0
  · have hv : v = 0 := Int64.toInt_inj.mp h0
    have e : FP.ddiv (FP.l2d v) (FP.i2d (1 <<< (nI k &&& 31))) = FP.dconst0 := by
      have e0 : FP.l2d v = FP.dconst0 := by rw [hv]; decide +kernel
      have hd := FP.Core.val64_ddiv FP.dconst0 (FP.i2d (1 <<< (nI k &&& 31)))
      have h00 : FP.Core.val64 FP.dconst0 = .fin false 0 FP.Core.b64.qmin := FP.Core.val64_dconst0
      rw [p2, h00] at hd
      have e9 : FP.Core.quotient FP.Core.b64 (.fin false 0 FP.Core.b64.qmin) (.fin false (2 ^ 52) ((k : Int) - 52)) = FP.Core.val64 FP.dconst0 := by
        rw [h00]
        show (if (2 : Nat) ^ 52 = 0 then (if (0 : Nat) = 0 then FP.Core.Datum.nan else .inf (false != false)) else FP.Core.roundRatio FP.Core.b64 (false != false) 0 (2 ^ 52) (FP.Core.b64.qmin - ((k : Int) - 52))) = _
        rw [if_neg (by decide)]
        rfl
      rw [e9] at hd
      rw [e0]
      exact FP.Core.val64_inj (by rw [hd]; exact dF_0.ne_nan) hd
    rw [e]
    exact ⟨dF_nn dF_0, (enF_0 1).1, by rw [(enF_0 1).2]; decide, sD_0⟩
  · obtain ⟨s, c, q, hD, hq1, hq2⟩ := l2d_fin h0
    have hd := FP.Core.val64_ddiv (FP.l2d v) (FP.i2d (1 <<< (nI k &&& 31)))
    rw [hD.1, p2] at hd
    have e : FP.Core.quotient FP.Core.b64 (.fin s c q) (.fin false (2 ^ 52) ((k : Int) - 52)) = .fin s c (q - (k : Int)) := by
      show (if (2 : Nat) ^ 52 = 0 then (if c = 0 then FP.Core.Datum.nan else .inf (s != false)) else FP.Core.roundRatio FP.Core.b64 (s != false) c (2 ^ 52) (q - ((k : Int) - 52))) = _
      rw [if_neg (by decide), show (s != false) = s by cases s <;> rfl]
      exact FP.Core.roundRatio_exact good64 (by decide) (fits64 hD.2.1 hD.2.2.1 (by omega) (by omega)) (by
        rw [show (q - ((k : Int) - 52) - (q - (k : Int))).toNat = 52 by omega, show (q - (k : Int) - (q - ((k : Int) - 52))).toNat = 0 by omega]; simp)
    rw [e] at hd
    have hD2 : dD (FP.ddiv (FP.l2d v) (FP.i2d (1 <<< (nI k &&& 31)))) s c (q - (k : Int)) := ⟨hd, hD.2.1, hD.2.2.1, by omega, by omega⟩
    obtain ⟨u1, u2⟩ := enF_d hD2 (by omega) (by omega)
    exact ⟨dF_nn (dD_F hD2), u1, u2, sD_n hD2 (by omega) (by omega)⟩
/-- a place comes to a sheet -/
theorem lay_ok {x : UInt32} (h : fF x) (h1 : x = 0 ∨ ((2 ^ 150 : Nat) : Int) ≤ fz x) (h2 : fz x < ((2 ^ 200 : Nat) : Int)) : okX x ∧ sF x ∧ vf_n64 (FP.f2d x) ∧ okEn 1 (FP.f2d x) ∧ enF 1 (FP.f2d x) = (FP.f2d x).toInt64 ∧ sD (FP.f2d x) := by
  rcases h1 with h1 | h1
  · subst h1
    rw [f2d_0]
    exact ⟨okX_0, sF_0, dF_nn dF_0, (enF_0 1).1, by rw [(enF_0 1).2]; decide, sD_0⟩
  · have hX := okX_pos h h1
    have hp150 : (0 : Int) < ((2 ^ 150 : Nat) : Int) := Int.natCast_pos.mpr (Nat.two_pow_pos _)
    have hm : 2 ^ 23 ≤ x.toNat % 2 ^ 31 := by
      refine hX.2.resolve_left fun h9 => ?_
      subst h9
      have : fz 0 = 0 := fz_0
      omega
    obtain ⟨s, c, q, hv, hc⟩ := nrm32 h hm
    obtain ⟨b1, b2, b3, _⟩ := bits32 hv
    have e := (fz_fin hv).1
    have q1 : -22 ≤ q := by
      refine Int.not_lt.mp fun hlt => ?_
      have g1 : c * 2 ^ (q + 149).toNat < 2 ^ 24 * 2 ^ (q + 149).toNat := Nat.mul_lt_mul_of_pos_right b3 (Nat.two_pow_pos _)
      rw [← Nat.pow_add] at g1
      have g2 : (2 : Nat) ^ (24 + (q + 149).toNat) ≤ 2 ^ 150 := Nat.pow_le_pow_right (by decide) (by omega)
      omega
    have q2 : q ≤ 40 := by
      refine Int.not_lt.mp fun hlt => ?_
      have g1 : 2 ^ 23 * 2 ^ (q + 149).toNat ≤ c * 2 ^ (q + 149).toNat := Nat.mul_le_mul_right _ hc
      rw [← Nat.pow_add] at g1
      have g2 : (2 : Nat) ^ 200 ≤ 2 ^ (23 + (q + 149).toNat) := Nat.pow_le_pow_right (by decide) (by omega)
      omega
    have hD := f2d_D hv hc
    obtain ⟨u1, u2⟩ := enF_d hD (by omega) (by omega)
    exact ⟨hX, sF_n hv b3 (by omega) (by omega), dF_nn (dD_F hD), u1, u2, sD_n hD (by omega) (by omega)⟩
theorem at_lay {g : Nat → Int32} {w : Int32} {a n N k : Nat} (hg : okG g N) (hw : okWd w) (hn : n ≤ 32) (han : a + n ≤ N) (hk : k ≤ n) : okX (atV g w a n k) ∧ sF (atV g w a n k) ∧ vf_n64 (FP.f2d (atV g w a n k)) ∧ okEn 1 (FP.f2d (atV g w a n k)) ∧ enF 1 (FP.f2d (atV g w a n k)) = (FP.f2d (atV g w a n k)).toInt64 ∧ sD (FP.f2d (atV g w a n k)) := by
  obtain ⟨a1, a2, a3, a4⟩ := atV_ok hg hw hn han k hk
  refine lay_ok a1 ?_ ?_
  · by_cases h0 : k = 0
    · subst h0; exact Or.inl rfl
    · exact Or.inr (a4 (by omega))
  · have : k * 2 ^ 170 < 2 ^ 200 := pow_lt3 (n := 30) (by omega) 170 (by decide)
    omega
