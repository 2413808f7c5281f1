/-! numbers on sheets -/
/-- a FLOAT that may lie on a sheet -/
def sF (x : UInt32) : Prop := fF x ∧ (∃ k, (fz x).natAbs = k * 2 ^ 100) ∧ (fz x).natAbs < 2 ^ 230
def sD (x : UInt64) : Prop := dF x ∧ (∃ k, (dz x).natAbs = k * 2 ^ 900) ∧ (dz x).natAbs < 2 ^ 1190
theorem mul_ge {k a e : Nat} (h : a = k * 2 ^ e) (h0 : a ≠ 0) : 2 ^ e ≤ a := by
  have : 0 < k := Nat.pos_of_ne_zero fun h9 => h0 (by rw [h, h9, Nat.zero_mul])
  rw [h]
  exact Nat.le_mul_of_pos_left _ this
theorem fz_fin {x : UInt32} {s : Bool} {c : Nat} {q : Int} (h : FP.Core.val32 x = .fin s c q) : (fz x).natAbs = c * 2 ^ (q + 149).toNat ∧ fz x = FP.Core.signed s (c * 2 ^ (q + 149).toNat) := by
  have e : fz x = FP.Core.signed s (c * 2 ^ (q + 149).toNat) := by
    unfold fz
    rw [h]
    show FP.Core.signed s (c * 2 ^ (q - FP.Core.b32.qmin).toNat) = _
    rw [FP.Core.qmin_b32, show q - -149 = q + 149 by omega]
  exact ⟨by rw [e, g_signed_nat], e⟩
theorem fz_zero {x : UInt32} (hF : fF x) : (fz x).natAbs = 0 ↔ x.toNat % 2 ^ 31 = 0 := by
  rw [fz_abs hF.ne_nan]
  exact FP.Core.unitsOf_eq_zero
theorem sF_nz {x : UInt32} (h : sF x) (h0 : (fz x).natAbs ≠ 0) : 2 ^ 23 ≤ x.toNat % 2 ^ 31 := by
  obtain ⟨k, hk⟩ := h.2.1
  have h1 := mul_ge hk h0
  have h2 : (2 : Nat) ^ (22 + 1) ≤ 2 ^ 100 := Nat.pow_le_pow_right (by decide) (by decide)
  have := (mg_ge (K := 1) h.1.ne_nan (Nat.le_refl _)).mpr (Nat.le_trans h2 h1)
  omega
theorem neg32 {x : UInt32} {s : Bool} {c : Nat} {q : Int} (h : FP.Core.val32 x = .fin s c q) : decide (x.toInt32.toInt64 < 0) = s := by
  have h1 := FP.Core.sgn_bits32 (a := x) (by rw [h]; exact FP.Core.Datum.noConfusion)
  rw [h] at h1
  have h1 : s = decide (2 ^ 31 ≤ x.toNat) := h1
  rw [h1]
  refine decide_eq_decide.mpr ?_
  rw [Int64.lt_iff_toInt_lt, Int32.toInt_toInt64, u32_nI]
  have h0 : (0 : Int64).toInt = 0 := rfl
  have hx := x.toNat_lt
  by_cases h2 : x.toNat < 2 ^ 31
  · rw [nI_toInt h2]; omega
  · have hb : (nI x.toNat).toBitVec.toNat = x.toNat := by
      show (BitVec.ofNat 32 x.toNat).toNat = _
      rw [BitVec.toNat_ofNat, Nat.mod_eq_of_lt x.toNat_lt]
    have h3 := BitVec.toInt_eq_toNat_cond (nI x.toNat).toBitVec
    rw [hb, if_neg (by omega)] at h3
    have h4 : (nI x.toNat).toInt = (x.toNat : Int) - 2 ^ 32 := h3
    rw [h4]
    omega
theorem zero32 {x : UInt32} {s : Bool} {c : Nat} {q : Int} (h : FP.Core.val32 x = .fin s c q) (h0 : x.toNat % 2 ^ 31 = 0) : x.toNat = s.toNat * 2 ^ 31 := by
  have h1 := FP.Core.sgn_bits32 (a := x) (by rw [h]; exact FP.Core.Datum.noConfusion)
  rw [h] at h1
  have h1 : s = decide (2 ^ 31 ≤ x.toNat) := h1
  have hx := x.toNat_lt
  cases s with
  | false => have := of_decide_eq_false h1.symm; simp only [Bool.toNat_false]; omega
  | true => have := of_decide_eq_true h1.symm; simp only [Bool.toNat_true]; omega
/-- its size as a double -/
theorem szX {x : UInt32} (h : sF x) : okSz 0 x.toInt32.toInt64 ∧ dF (szF 0 x.toInt32.toInt64) ∧ dz (szF 0 x.toInt32.toInt64) = (((fz x).natAbs * 2 ^ 925 : Nat) : Int) ∧
    (∃ eX, 2 ^ eX ∣ (fz x).natAbs * 2 ^ 925 ∧ (fz x).natAbs * 2 ^ 925 < 2 ^ 53 * 2 ^ eX ∧ eX ≤ 1800) ∧ ((fz x).natAbs ≠ 0 → ∃ c q, dD (szF 0 x.toInt32.toInt64) false c q ∧ -400 ≤ q ∧ q ≤ 200 ∧ c * 2 ^ (q + 1074).toNat = (fz x).natAbs * 2 ^ 925) := by
  by_cases h0 : (fz x).natAbs = 0
  · obtain ⟨a1, a2⟩ := szF_f0 ((fz_zero h.1).mp h0)
    rw [a2, h0, Nat.zero_mul]
    exact ⟨a1, dF_0, dz_0, ⟨0, Nat.dvd_zero _, by decide, by decide⟩, fun h9 => absurd rfl h9⟩
  · obtain ⟨s, c, q, hv, hc⟩ := nrm32 h.1 (sF_nz h h0)
    obtain ⟨a1, a2⟩ := szF_f hv hc
    obtain ⟨b1, b2, b3, _⟩ := bits32 hv
    have e := (fz_fin hv).1
    have e2 : c * 2 ^ 29 * 2 ^ (q - 29 + 1074).toNat = (fz x).natAbs * 2 ^ 925 := by
      rw [e, Nat.mul_assoc, Nat.mul_assoc, ← Nat.pow_add, ← Nat.pow_add, show 29 + (q - 29 + 1074).toNat = (q + 149).toNat + 925 by omega]
    refine ⟨a1, dD_F a2, by rw [dz_D a2, e2], ⟨(q - 29 + 1074).toNat, ?_, ?_, by omega⟩, fun _ => ⟨_, _, a2, by omega, by omega, e2⟩⟩
    · rw [← e2]; exact Nat.dvd_mul_left _ _
    · rw [← e2]; exact Nat.mul_lt_mul_of_pos_right a2.2.2.1 (Nat.two_pow_pos _)
theorem pow_lt3 {a n m : Nat} (h : a < 2 ^ n) (k : Nat) (h2 : n + k ≤ m) : a * 2 ^ k < 2 ^ m := by
  refine Nat.lt_of_lt_of_le (Nat.mul_lt_mul_of_pos_right h (Nat.two_pow_pos k)) ?_
  rw [← Nat.pow_add]
  exact Nat.pow_le_pow_right (by decide) h2
theorem enF_zero {s : Nat} {l : UInt64} (hl : dF l) (hz : dz l = 0) : okEn s l ∧ enF s l = 0 := by
  have h : Op.cmpValue (FP.dcmp l FP.dconst0) .l = 0 := (deq_iff hl dF_0).mpr (by rw [hz, dz_0])
  exact ⟨fun h9 => absurd h h9, by unfold enF; rw [if_pos h]⟩
/-- the rest that FLOATS leave -/
theorem rd32 {x y : UInt32} (hx : sF x) (hy : sF y) (h0 : (fz y).natAbs ≠ 0) : okRd 0 x.toInt32.toInt64 y.toInt32.toInt64 ∧ rdW 0 x.toInt32.toInt64 y.toInt32.toInt64 = (FP.frem x y).toInt32.toInt64 ∧ sF (FP.frem x y) ∧ vf_n32 (FP.frem x y) := by
  obtain ⟨a1, a2, a3, ⟨eX, a4, a5, a6⟩, _⟩ := szX hx
  obtain ⟨b1, b2, b3, _, b5⟩ := szX hy
  obtain ⟨cy, qy, b6, b7, b8, b9⟩ := b5 h0
  have hB : 0 < (fz y).natAbs := Nat.pos_of_ne_zero h0
  obtain ⟨r1, r2, r3⟩ := rm_run a2 a3 a4 a5 a6 b6 b7 b8 (pow_lt3 hx.2.2 925 (by decide))
  rw [b9, Nat.mul_mod_mul_right] at r3
  obtain ⟨s, c, q, hv⟩ := hx.1
  obtain ⟨t, d, r, hw⟩ := hy.1
  have hd : d ≠ 0 := by
    intro h9
    have := (fz_fin hw).1
    rw [h9, Nat.zero_mul] at this
    exact h0 this
  obtain ⟨c', q', hr, hu⟩ := FP.Core.frem_exact hv hw hd
  have hrF : fF (FP.frem x y) := ⟨s, c', q', hr⟩
  have hrz : (fz (FP.frem x y)).natAbs = (fz x).natAbs % (fz y).natAbs := by
    have e1 : (fz (FP.frem x y)).natAbs = FP.Core.inUnits c' q' FP.Core.b32.qmin := by unfold fz; rw [show FP.Core.val32 (FP.frem x y) = .fin s c' q' from hr]; exact g_signed_nat _ _
    have e2 : (fz x).natAbs = FP.Core.inUnits c q FP.Core.b32.qmin := by unfold fz; rw [hv]; exact g_signed_nat _ _
    have e3 : (fz y).natAbs = FP.Core.inUnits d r FP.Core.b32.qmin := by unfold fz; rw [hw]; exact g_signed_nat _ _
    rw [e1, e2, e3, hu]
  have hrS : sF (FP.frem x y) := by
    refine ⟨hrF, ?_, ?_⟩
    · obtain ⟨k, hk⟩ := hx.2.1
      obtain ⟨m, hm⟩ := hy.2.1
      exact ⟨k % m, by rw [hrz, hk, hm, Nat.mul_mod_mul_right]⟩
    · rw [hrz]; exact Nat.lt_of_le_of_lt (Nat.mod_le _ _) hx.2.2
  rw [← hrz] at r3
  have hsg := neg32 hv
  by_cases hz : (fz (FP.frem x y)).natAbs = 0
  · rw [hz, Nat.zero_mul] at r3
    obtain ⟨e1, e2⟩ := enF_zero (s := 0) r2 r3
    refine ⟨⟨a1, b1, r1, e1⟩, ?_, hrS, fF_nn hrF⟩
    unfold rdW
    rw [e2, hsg]
    have hm := (fz_zero hrF).mp hz
    have hn := zero32 hr hm
    rw [u32_nI, hn]
    cases s <;> decide
  · obtain ⟨k, hk⟩ := hrS.2.1
    have hge := mul_ge hk hz
    have hV1 : 2 ^ 700 ≤ (fz (FP.frem x y)).natAbs * 2 ^ 925 := Nat.le_trans (Nat.pow_le_pow_right (by decide) (by decide : 700 ≤ 925)) (Nat.le_mul_of_pos_left _ (Nat.pos_of_ne_zero hz))
    obtain ⟨cl, ql, l1, l2, l3, l4⟩ := dD_of r2 r3 hV1 (pow_lt3 hrS.2.2 925 (by decide))
    obtain ⟨s', c2, q2, hr2, hc2⟩ := nrm32 hrF (sF_nz hrS hz)
    have hr2' := hr2
    rw [show FP.Core.val32 (FP.frem x y) = .fin s c' q' from hr] at hr2
    injection hr2 with i1 i2 i3
    subst i1 i2 i3
    have hD := f2d_D hr2' hc2
    obtain ⟨p1, p2, p3, _⟩ := bits32 hr2'
    have hone := norm_one l1.2.1 l1.2.2.1 hD.2.1 hD.2.2.1 (a := (ql + 1074).toNat) (b := (q' - 29 + 1074).toNat) (by
      rw [l2, (fz_fin hr2').1, Nat.mul_assoc, Nat.mul_assoc, ← Nat.pow_add, ← Nat.pow_add, show (q' + 149).toNat + 925 = 29 + (q' - 29 + 1074).toNat by omega])
    have hql : ql = q' - 29 := by omega
    rw [hone.1, hql] at l1
    obtain ⟨u1, u2⟩ := enF_D 0 l1 (by omega) (by omega) 29 (by decide) (by rw [show (pBi 0).toInt = 127 by decide]; omega)
    obtain ⟨v1, v2⟩ := enF_D 0 hD (by omega) (by omega) 29 (by decide) (by rw [show (pBi 0).toInt = 127 by decide]; omega)
    refine ⟨⟨a1, b1, r1, u1⟩, ?_, hrS, fF_nn hrF⟩
    unfold rdW
    rw [hsg, u2, ← (enF_f hrF (sF_nz hrS hz)).2, v2]
    rfl
/-! 64 bits -/
theorem dD_S {l : UInt64} {V : Nat} (hl : dF l) (hz : (dz l).natAbs = V) (h1 : 2 ^ 700 ≤ V) (h2 : V < 2 ^ 1300) : ∃ s c q, dD l s c q ∧ c * 2 ^ (q + 1074).toNat = V ∧ -500 ≤ q ∧ q ≤ 300 := by
  obtain ⟨s, c0, q0, hv⟩ := hl
  have h0 : 0 ≤ dz l ∨ dz l < 0 := by omega
  rcases h0 with h0 | h0
  · obtain ⟨c, q, a1, a2, a3, a4⟩ := dD_of (l := l) (V := V) ⟨s, c0, q0, hv⟩ (by omega) h1 h2
    exact ⟨false, c, q, a1, a2, a3, a4⟩
  · have hn : FP.Core.val64 (FP.dneg l) = FP.Core.negate (FP.Core.val64 l) := dneg_val l
    have hz2 : dz (FP.dneg l) = (V : Int) := by
      unfold dz
      rw [hn, FP.Core.zval_negate]
      show - dz l = _
      omega
    obtain ⟨c, q, a1, a2, a3, a4⟩ := dD_of (l := FP.dneg l) (V := V) ⟨!s, c0, q0, by rw [hn, hv]; rfl⟩ hz2 h1 h2
    refine ⟨true, c, q, ⟨?_, a1.2⟩, a2, a3, a4⟩
    have h9 := a1.1
    rw [hn] at h9
    have := congrArg FP.Core.negate h9
    rw [FP.Core.negate_negate] at this
    exact this
theorem dz_fin {x : UInt64} {s : Bool} {c : Nat} {q : Int} (h : FP.Core.val64 x = .fin s c q) : (dz x).natAbs = c * 2 ^ (q + 1074).toNat := by
  unfold dz
  rw [h]
  show (FP.Core.signed s (c * 2 ^ (q - FP.Core.b64.qmin).toNat)).natAbs = _
  rw [g_signed_nat, FP.Core.qmin_b64, show q - -1074 = q + 1074 by omega]
theorem dz_zero {x : UInt64} (hF : dF x) : (dz x).natAbs = 0 ↔ x.toNat % 2 ^ 63 = 0 := by
  have h1 := FP.Core.zmag_bits hF.ne_nan
  have h2 : (dz x).natAbs = FP.Core.zmag FP.Core.b64 (FP.Core.val64 x) := by unfold dz FP.Core.zval; rw [g_signed_nat]
  rw [h2, h1]
  exact FP.Core.unitsOf_eq_zero
theorem sD_nz {x : UInt64} (h : sD x) (h0 : (dz x).natAbs ≠ 0) : ∃ s c q, dD x s c q ∧ c * 2 ^ (q + 1074).toNat = (dz x).natAbs ∧ -500 ≤ q ∧ q ≤ 300 := by
  obtain ⟨k, hk⟩ := h.2.1
  have h1 := mul_ge hk h0
  exact dD_S h.1 rfl (Nat.le_trans (Nat.pow_le_pow_right (by decide) (by decide)) h1) (Nat.lt_of_lt_of_le h.2.2 (Nat.pow_le_pow_right (by decide) (by decide)))
theorem neg64 {x : UInt64} {s : Bool} {c : Nat} {q : Int} (h : FP.Core.val64 x = .fin s c q) : decide (x.toInt64 < 0) = s := by
  have h1 := FP.Core.sgn_bits (a := x) (by rw [h]; exact FP.Core.Datum.noConfusion)
  rw [h] at h1
  have h1 : s = decide (2 ^ 63 ≤ x.toNat) := h1
  rw [h1]
  refine decide_eq_decide.mpr ?_
  rw [Int64.lt_iff_toInt_lt]
  have h0 : (0 : Int64).toInt = 0 := rfl
  have h2 := bv_toNat x.toInt64
  have hx := x.toNat_lt
  have h3 : x.toInt64.toBitVec.toNat = x.toNat := rfl
  have h4 := Int64.toInt_lt x.toInt64
  have h5 := Int64.le_toInt x.toInt64
  omega
theorem szY {x : UInt64} (h : sD x) : okSz 1 x.toInt64 ∧ dF (szF 1 x.toInt64) ∧ dz (szF 1 x.toInt64) = ((dz x).natAbs : Int) ∧
    (∃ eX, 2 ^ eX ∣ (dz x).natAbs ∧ (dz x).natAbs < 2 ^ 53 * 2 ^ eX ∧ eX ≤ 1800) ∧ ((dz x).natAbs ≠ 0 → ∃ c q, dD (szF 1 x.toInt64) false c q ∧ -400 ≤ q ∧ q ≤ 200 ∧ c * 2 ^ (q + 1074).toNat = (dz x).natAbs) := by
  by_cases h0 : (dz x).natAbs = 0
  · obtain ⟨a1, a2⟩ := szF_d0 ((dz_zero h.1).mp h0)
    rw [a2, h0]
    exact ⟨a1, dF_0, dz_0, ⟨0, Nat.dvd_zero _, by decide, by decide⟩, fun h9 => absurd rfl h9⟩
  · obtain ⟨s, c, q, hD, e, q1, q2⟩ := sD_nz h h0
    have q3 : -227 ≤ q := by
      obtain ⟨k, hk⟩ := h.2.1
      have h1 := mul_ge hk h0
      rw [← e] at h1
      refine Int.not_lt.mp fun hlt => ?_
      have g1 : c * 2 ^ (q + 1074).toNat < 2 ^ 53 * 2 ^ (q + 1074).toNat := Nat.mul_lt_mul_of_pos_right hD.2.2.1 (Nat.two_pow_pos _)
      rw [← Nat.pow_add] at g1
      exact Nat.lt_irrefl _ (Nat.lt_of_lt_of_le (Nat.lt_of_le_of_lt h1 g1) (Nat.pow_le_pow_right (by decide) (by omega)))
    have q4 : q ≤ 64 := by
      have h1 := h.2.2
      rw [← e] at h1
      refine Int.not_lt.mp fun hlt => ?_
      have g1 : 2 ^ 52 * 2 ^ (q + 1074).toNat ≤ c * 2 ^ (q + 1074).toNat := Nat.mul_le_mul_right _ hD.2.1
      rw [← Nat.pow_add] at g1
      exact Nat.lt_irrefl _ (Nat.lt_of_lt_of_le (Nat.lt_of_le_of_lt g1 h1) (Nat.pow_le_pow_right (by decide) (by omega)))
    obtain ⟨a1, a2⟩ := szF_d hD (by omega) (by omega)
    refine ⟨a1, dD_F a2, by rw [dz_D a2, e], ⟨(q + 1074).toNat, ?_, ?_, by omega⟩, fun _ => ⟨c, q, a2, by omega, by omega, e⟩⟩
    · rw [← e]; exact Nat.dvd_mul_left _ _
    · rw [← e]; exact Nat.mul_lt_mul_of_pos_right a2.2.2.1 (Nat.two_pow_pos _)
theorem rd64 {x y : UInt64} (hx : sD x) (hy : sD y) (h0 : (dz y).natAbs ≠ 0) : okRd 1 x.toInt64 y.toInt64 ∧ rdW 1 x.toInt64 y.toInt64 = (FP.drem x y).toInt64 ∧ sD (FP.drem x y) ∧ vf_n64 (FP.drem x y) := by
  obtain ⟨a1, a2, a3, ⟨eX, a4, a5, a6⟩, _⟩ := szY hx
  obtain ⟨b1, b2, b3, _, b5⟩ := szY hy
  obtain ⟨cy, qy, b6, b7, b8, b9⟩ := b5 h0
  obtain ⟨r1, r2, r3⟩ := rm_run a2 a3 a4 a5 a6 b6 b7 b8 (Nat.lt_of_lt_of_le hx.2.2 (Nat.pow_le_pow_right (by decide) (by decide)))
  rw [b9] at r3
  obtain ⟨s, c, q, hv⟩ := hx.1
  obtain ⟨t, d, r, hw⟩ := hy.1
  have hd : d ≠ 0 := by
    intro h9
    have := dz_fin hw
    rw [h9, Nat.zero_mul] at this
    exact h0 this
  obtain ⟨c', q', hr, hu⟩ := FP.Core.drem_exact hv hw hd
  have hrF : dF (FP.drem x y) := ⟨s, c', q', hr⟩
  have hrz : (dz (FP.drem x y)).natAbs = (dz x).natAbs % (dz y).natAbs := by
    have e1 : (dz (FP.drem x y)).natAbs = FP.Core.inUnits c' q' FP.Core.b64.qmin := by unfold dz; rw [show FP.Core.val64 (FP.drem x y) = .fin s c' q' from hr]; exact g_signed_nat _ _
    have e2 : (dz x).natAbs = FP.Core.inUnits c q FP.Core.b64.qmin := by unfold dz; rw [hv]; exact g_signed_nat _ _
    have e3 : (dz y).natAbs = FP.Core.inUnits d r FP.Core.b64.qmin := by unfold dz; rw [hw]; exact g_signed_nat _ _
    rw [e1, e2, e3, hu]
  have hrS : sD (FP.drem x y) := by
    refine ⟨hrF, ?_, ?_⟩
    · obtain ⟨k, hk⟩ := hx.2.1
      obtain ⟨m, hm⟩ := hy.2.1
      exact ⟨k % m, by rw [hrz, hk, hm, Nat.mul_mod_mul_right]⟩
    · rw [hrz]; exact Nat.lt_of_le_of_lt (Nat.mod_le _ _) hx.2.2
  rw [← hrz] at r3
  have hsg := neg64 hv
  by_cases hz : (dz (FP.drem x y)).natAbs = 0
  · rw [hz] at r3
    obtain ⟨e1, e2⟩ := enF_zero (s := 1) r2 r3
    refine ⟨⟨a1, b1, r1, e1⟩, ?_, hrS, dF_nn hrF⟩
    unfold rdW
    rw [e2, hsg]
    have hm := (dz_zero hrF).mp hz
    have hs := FP.Core.sgn_bits (a := FP.drem x y) hrF.ne_nan
    rw [show FP.Core.val64 (FP.drem x y) = .fin s c' q' from hr] at hs
    have hs : s = decide (2 ^ 63 ≤ (FP.drem x y).toNat) := hs
    have hlt := (FP.drem x y).toNat_lt
    rw [u64_lN]
    cases s with
    | false =>
      have := of_decide_eq_false hs.symm
      rw [show (FP.drem x y).toNat = 0 by omega]
      decide
    | true =>
      have := of_decide_eq_true hs.symm
      rw [show (FP.drem x y).toNat = 2 ^ 63 by omega]
      decide
  · obtain ⟨s2, c2, q2, hD, e, q1, q3⟩ := sD_nz hrS hz
    have hV1 : 2 ^ 700 ≤ (dz (FP.drem x y)).natAbs := by
      obtain ⟨k, hk⟩ := hrS.2.1
      exact Nat.le_trans (Nat.pow_le_pow_right (by decide) (by decide)) (mul_ge hk hz)
    obtain ⟨cl, ql, l1, l2, l3, l4⟩ := dD_of r2 r3 hV1 (Nat.lt_of_lt_of_le hrS.2.2 (Nat.pow_le_pow_right (by decide) (by decide)))
    have hs2 : s2 = s := by
      have h9 := hD.1
      rw [show FP.Core.val64 (FP.drem x y) = .fin s c' q' from hr] at h9
      injection h9 with i1 i2 i3
      exact i1.symm
    subst hs2
    have hone := norm_one l1.2.1 l1.2.2.1 hD.2.1 hD.2.2.1 (a := (ql + 1074).toNat) (b := (q2 + 1074).toNat) (by rw [l2, e])
    have hql : ql = q2 := by omega
    rw [hone.1, hql] at l1
    obtain ⟨u1, u2⟩ := enF_D 1 l1 (by omega) (by omega) 0 (by decide) (by rw [show (pBi 1).toInt = 1023 by decide]; omega)
    obtain ⟨v1, v2⟩ := enF_D 1 hD (by omega) (by omega) 0 (by decide) (by rw [show (pBi 1).toInt = 1023 by decide]; omega)
    refine ⟨⟨a1, b1, r1, u1⟩, ?_, hrS, dF_nn hrF⟩
    unfold rdW
    rw [hsg, u2, ← (enF_d hD (by omega) (by omega)).2, v2]
    rfl
