/-! encode answers the bits -/
theorem lN_bv (n : Nat) : (lN n).toBitVec.toNat = n % 2 ^ 64 := by
  show (BitVec.ofNat 64 n).toNat = _
  rw [BitVec.toNat_ofNat]
theorem l_ext {x y : Int64} (h : x.toBitVec.toNat = y.toBitVec.toNat) : x = y := Int64.toBitVec_inj.mp (BitVec.eq_of_toNat_eq h)
theorem lN_shl (n k : Nat) (b : Int64) (hb : (b.toBitVec.smod 64).toNat = k) : lN n <<< b = lN (n * 2 ^ k) := by
  apply l_ext
  rw [Int64.toBitVec_shiftLeft, BitVec.shiftLeft_eq', BitVec.toNat_shiftLeft, hb, lN_bv, lN_bv, Nat.shiftLeft_eq]
  rw [Nat.mod_mul_mod]
theorem lN_or63 {m : Nat} (h : m < 2 ^ 63) : lN m ||| (-9223372036854775808 : Int64) = lN (m + 2 ^ 63) := by
  apply l_ext
  rw [Int64.toBitVec_or, BitVec.toNat_or, lN_bv, lN_bv, show (-9223372036854775808 : Int64).toBitVec.toNat = 2 ^ 63 by decide]
  rw [Nat.mod_eq_of_lt (by omega), Nat.mod_eq_of_lt (by omega), Nat.or_comm, Nat.add_comm]
  have := Nat.two_pow_add_eq_or_of_lt h 1
  rw [Nat.mul_one] at this
  exact this.symm
theorem lN_or31 {m : Nat} (h : m < 2 ^ 31) : lN m ||| (2147483648 : Int64) = lN (m + 2 ^ 31) := by
  apply l_ext
  rw [Int64.toBitVec_or, BitVec.toNat_or, lN_bv, lN_bv, show (2147483648 : Int64).toBitVec.toNat = 2 ^ 31 by decide]
  rw [Nat.mod_eq_of_lt (by omega), Nat.mod_eq_of_lt (by omega), Nat.or_comm, Nat.add_comm]
  have := Nat.two_pow_add_eq_or_of_lt h 1
  rw [Nat.mul_one] at this
  exact this.symm
theorem u64_lN (x : UInt64) : x.toInt64 = lN x.toNat := by
  apply l_ext
  rw [lN_bv, Nat.mod_eq_of_lt x.toNat_lt]
  rfl
theorem u32_nI (x : UInt32) : x.toInt32 = nI x.toNat := by
  apply Int32.toBitVec_inj.mp
  apply BitVec.eq_of_toNat_eq
  show x.toBitVec.toNat = (BitVec.ofNat 32 x.toNat).toNat
  rw [BitVec.toNat_ofNat, Nat.mod_eq_of_lt x.toNat_lt]
  rfl
/-- the sign -/
theorem dneg_val (x : UInt64) : FP.Core.val64 (FP.dneg x) = FP.Core.negate (FP.Core.val64 x) := FP.val64_dneg x
theorem absD_D {x : UInt64} {s : Bool} {c : Nat} {q : Int} (h : dD x s c q) : dD (absD x) false c q ∧ dlt x FP.dconst0 = s ∧ dz x ≠ 0 := by
  have hF := dD_F h
  have hpos : 0 < c * 2 ^ (q - FP.Core.b64.qmin).toNat := Nat.mul_pos (by have := h.2.1; omega) (Nat.two_pow_pos _)
  have hz : dz x = FP.Core.signed s (c * 2 ^ (q - FP.Core.b64.qmin).toNat) := by unfold dz; rw [h.1]; rfl
  cases s with
  | false =>
    have hz : dz x = ((c * 2 ^ (q - FP.Core.b64.qmin).toNat : Nat) : Int) := hz
    have hn : dlt x FP.dconst0 = false := by
      refine Bool.eq_false_iff.mpr fun h9 => ?_
      have := (dlt_iff hF dF_0).mp h9
      rw [dz_0] at this
      omega
    refine ⟨?_, hn, by omega⟩
    unfold absD
    rw [hn, if_neg (by decide)]
    exact h
  | true =>
    have hz : dz x = -((c * 2 ^ (q - FP.Core.b64.qmin).toNat : Nat) : Int) := hz
    have hn : dlt x FP.dconst0 = true := (dlt_iff hF dF_0).mpr (by rw [dz_0]; omega)
    refine ⟨?_, hn, by omega⟩
    unfold absD
    rw [hn, if_pos rfl]
    refine ⟨?_, h.2⟩
    rw [dneg_val, h.1]
    rfl
theorem d2l_D {z : UInt64} {c : Nat} {k : Nat} (h : dD z false c (-(k : Int))) (hk : k ≤ 52) : FP.d2l z = lN (c / 2 ^ k) := by
  have h1 := FP.Core.d2l_val (a := z) (dD_F h).ne_nan
  rw [h.1] at h1
  have e : FP.Core.zmag FP.Core.b64 (.fin false c (-(k : Int))) = c * 2 ^ (1074 - k) := by
    show c * 2 ^ (-(k : Int) - FP.Core.b64.qmin).toNat = _
    rw [FP.Core.qmin_b64, show (-(k : Int) - -1074).toNat = 1074 - k by omega]
  rw [e] at h1
  have e2 : c * 2 ^ (1074 - k) / FP.Core.one64 = c / 2 ^ k := by
    unfold FP.Core.one64
    rw [show (2 : Nat) ^ 1074 = 2 ^ k * 2 ^ (1074 - k) by rw [← Nat.pow_add, show k + (1074 - k) = 1074 by omega]]
    exact Nat.mul_div_mul_right _ _ (Nat.two_pow_pos _)
  rw [e2] at h1
  have hc : c / 2 ^ k ≤ c := Nat.div_le_self _ _
  have hc2 := h.2.2.1
  have h2 : (FP.d2l z).toInt = ((c / 2 ^ k : Nat) : Int) := by
    refine h1.trans ?_
    show max (-2 ^ 63) (min (2 ^ 63 - 1) (((c / 2 ^ k : Nat) : Int))) = _
    rw [Int.min_eq_right (by omega), Int.max_eq_right (show (-2 ^ 63 : Int) ≤ ((c / 2 ^ k : Nat) : Int) from Int.le_trans (by decide) (Int.natCast_nonneg _))]
  apply Int64.toInt_inj.mp
  rw [h2, pk_lT (by omega)]
/-- what encode answers -/
theorem enF_D (s : Nat) {x : UInt64} {sg : Bool} {c : Nat} {q : Int} (hx : dD x sg c q) (hq1 : -900 ≤ q) (hq2 : q ≤ 800) (k : Nat) (hk : (pFb s).toInt - 52 = -(k : Int)) (hq3 : 0 ≤ q + 52 + (pBi s).toInt) :
    okEn s x ∧ enF s x = wsF s (lN ((q + 52 + (pBi s).toInt).toNat * 2 ^ (52 - k)) + (lN (c / 2 ^ k) - pHid s)) sg := by
  obtain ⟨a1, a2, a3⟩ := absD_D hx
  obtain ⟨b1, b2, b3, b4⟩ := en_run s a1 hq1 hq2
  have hne : ¬ Op.cmpValue (FP.dcmp x FP.dconst0) .l = 0 := fun h => by
    have := (deq_iff (dD_F hx) dF_0).mp h
    rw [dz_0] at this
    exact a3 this
  have hh := hid_D s
  have hbi : 0 ≤ (pBi s).toInt ∧ (pBi s).toInt ≤ 1023 := by
    unfold pBi
    by_cases h0 : s = 0
    · rw [if_pos h0]; decide
    · rw [if_neg h0]; decide
  refine ⟨fun _ => ⟨dF_nn (dD_F hh.2), b1, b2⟩, ?_⟩
  unfold enF
  rw [if_neg hne, a2]
  have e1 : ((enU s x).2 + pBi s).toInt64 = lN (q + 52 + (pBi s).toInt).toNat := by
    have h9 : ((enU s x).2 + pBi s).toInt = q + 52 + (pBi s).toInt := by
      rw [Int32.toInt_add, b4, Int.bmod_eq_of_le (by omega) (by omega)]
    have : (enU s x).2 + pBi s = nI (q + 52 + (pBi s).toInt).toNat := by
      apply Int32.toInt_inj.mp
      rw [h9, nI_toInt (by omega)]
      omega
    rw [this, nI_l (by omega)]
  rw [hk] at b3
  have hk52 : k ≤ 52 := by
    unfold pFb at hk
    by_cases h0 : s = 0
    · rw [if_pos h0, show (23 : Int32).toInt = 23 by decide] at hk; omega
    · rw [if_neg h0, show (52 : Int32).toInt = 52 by decide] at hk; omega
  rw [e1, d2l_D b3 hk52, lN_shl _ (52 - k) _ (by
    unfold pFb at hk ⊢
    by_cases h0 : s = 0
    · rw [if_pos h0] at hk ⊢
      rw [show (23 : Int32).toInt = 23 by decide] at hk
      rw [show k = 29 by omega]
      decide
    · rw [if_neg h0] at hk ⊢
      rw [show (52 : Int32).toInt = 52 by decide] at hk
      rw [show k = 0 by omega]
      decide)]
/-! the bits of a number -/
theorem bits32 {x : UInt32} {s : Bool} {c : Nat} {q : Int} (h : FP.Core.val32 x = .fin s c q) : -149 ≤ q ∧ q ≤ 104 ∧ c < 2 ^ 24 ∧ (c < 2 ^ 23 → x.toNat = s.toNat * 2 ^ 31 + c) ∧ (2 ^ 23 ≤ c → x.toNat = (s.toNat * 256 + ((q + 149).toNat + 1)) * 2 ^ 23 + (c - 2 ^ 23)) := by
  have hf := FP.Core.val32_fits x
  rw [h] at hf
  obtain ⟨f1, f2, f3, f4⟩ := hf
  have e1 : FP.Core.b32.qmin = -149 := FP.Core.qmin_b32
  have e2 : FP.Core.b32.qmax = 104 := by decide
  have hb : x.toNat = FP.Core.encode FP.Core.b32 (.fin s c q) := by
    have h1 := FP.Core.toNat_of32 (FP.Core.val32_fits x)
    rw [FP.Core.of32_val32 (by rw [h]; exact FP.Core.Datum.noConfusion), h] at h1
    exact h1
  refine ⟨by omega, by omega, f1, fun h2 => ?_, fun h2 => ?_⟩
  · rw [hb]
    show (if c < FP.Core.b32.tails then FP.Core.assemble FP.Core.b32 s 0 c else _) = _
    rw [if_pos (by rw [FP.Core.tails_b32]; exact h2)]
    show (s.toNat * FP.Core.b32.exps + 0) * FP.Core.b32.tails + c = _
    rw [FP.Core.tails_b32, show FP.Core.b32.exps = 256 by decide]
    omega
  · rw [hb]
    show (if c < FP.Core.b32.tails then _ else FP.Core.assemble FP.Core.b32 s ((q - FP.Core.b32.qmin).toNat + 1) (c - FP.Core.b32.tails)) = _
    rw [if_neg (by rw [FP.Core.tails_b32]; omega)]
    show (s.toNat * FP.Core.b32.exps + ((q - FP.Core.b32.qmin).toNat + 1)) * FP.Core.b32.tails + (c - FP.Core.b32.tails) = _
    rw [FP.Core.tails_b32, show FP.Core.b32.exps = 256 by decide, e1, show q - -149 = q + 149 by omega]
theorem bits64 {x : UInt64} {s : Bool} {c : Nat} {q : Int} (h : dD x s c q) : x.toNat = (s.toNat * 2048 + ((q + 1074).toNat + 1)) * 2 ^ 52 + (c - 2 ^ 52) := by
  have e1 : FP.Core.b64.qmin = -1074 := FP.Core.qmin_b64
  have hb : x.toNat = FP.Core.encode FP.Core.b64 (.fin s c q) := by
    have h1 := FP.Core.toNat_of64 (FP.Core.val64_fits x)
    rw [FP.Core.of64_val64 (by rw [h.1]; exact FP.Core.Datum.noConfusion), h.1] at h1
    exact h1
  rw [hb]
  show (if c < FP.Core.b64.tails then _ else FP.Core.assemble FP.Core.b64 s ((q - FP.Core.b64.qmin).toNat + 1) (c - FP.Core.b64.tails)) = _
  rw [if_neg (by rw [FP.Core.tails_b64]; have := h.2.1; omega)]
  show (s.toNat * FP.Core.b64.exps + ((q - FP.Core.b64.qmin).toNat + 1)) * FP.Core.b64.tails + (c - FP.Core.b64.tails) = _
  rw [FP.Core.tails_b64, show FP.Core.b64.exps = 2048 by decide, e1, show q - -1074 = q + 1074 by omega]
/-- a float with all its digits, as a double -/
theorem f2d_D {x : UInt32} {s : Bool} {c : Nat} {q : Int} (h : FP.Core.val32 x = .fin s c q) (hc : 2 ^ 23 ≤ c) : dD (FP.f2d x) s (c * 2 ^ 29) (q - 29) := by
  obtain ⟨b1, b2, b3, _⟩ := bits32 h
  have hnn : FP.fIsNaN x = false := FP.Core.FFin.notNaN ⟨s, c, q, h⟩
  refine ⟨?_, by omega, by omega, by omega, by omega⟩
  rw [FP.f2d_core hnn]
  rw [FP.Core.val64_f2d, h]
  exact FP.Core.roundRatio_exact good64 (by decide) (fits64 (by omega) (by omega) (by omega) (by omega)) (by
    rw [show (q - (q - 29)).toNat = 29 by omega, show (q - 29 - q).toNat = 0 by omega]; simp)
theorem nrm32 {x : UInt32} (hF : fF x) (h : 2 ^ 23 ≤ x.toNat % 2 ^ 31) : ∃ s c q, FP.Core.val32 x = .fin s c q ∧ 2 ^ 23 ≤ c := by
  obtain ⟨s, c, q, hv⟩ := hF
  obtain ⟨b1, b2, b3, b4, b5⟩ := bits32 hv
  refine ⟨s, c, q, hv, Nat.le_of_not_lt fun hlt => ?_⟩
  have := b4 hlt
  have hs : s.toNat = 0 ∨ s.toNat = 1 := by cases s <;> simp
  omega
/-- BITS of a FLOAT -/
theorem enF_f {x : UInt32} (hF : fF x) (hn : 2 ^ 23 ≤ x.toNat % 2 ^ 31) : okEn 0 (FP.f2d x) ∧ enF 0 (FP.f2d x) = x.toInt32.toInt64 := by
  obtain ⟨s, c, q, hv, hc⟩ := nrm32 hF hn
  obtain ⟨b1, b2, b3, _, b5⟩ := bits32 hv
  have hb := b5 hc
  have hD := f2d_D hv hc
  obtain ⟨o1, o2⟩ := enF_D 0 hD (by omega) (by omega) 29 (by decide) (by rw [show (pBi 0).toInt = 127 by decide]; omega)
  refine ⟨o1, ?_⟩
  rw [o2, show (pBi 0).toInt = 127 by decide, Nat.mul_div_cancel _ (by decide : 0 < 2 ^ 29), show pHid 0 = lN (2 ^ 23) by decide, lN_sub hc, lN_add, show (q - 29 + 52 + 127).toNat = (q + 149).toNat + 1 by omega, show 52 - 29 = 23 by decide]
  have hm : ((q + 149).toNat + 1) * 2 ^ 23 + (c - 2 ^ 23) < 2 ^ 31 := by omega
  unfold wsF
  cases s with
  | false =>
    rw [if_neg (by decide), u32_nI, hb, nI_l (by simp; omega)]
    simp
  | true =>
    rw [if_pos rfl, if_pos rfl, show pSb 0 = 2147483648 from rfl, lN_or31 hm, lN_i, u32_nI, hb]
    have e9 : ((q + 149).toNat + 1) * 2 ^ 23 + (c - 2 ^ 23) + 2 ^ 31 = (true.toNat * 256 + ((q + 149).toNat + 1)) * 2 ^ 23 + (c - 2 ^ 23) := by simp only [Bool.toNat_true]; omega
    rw [e9]
theorem f2d_0 : FP.f2d 0 = FP.dconst0 := by decide +kernel
theorem enF_0 (s : Nat) : okEn s FP.dconst0 ∧ enF s FP.dconst0 = 0 := by
  have h : Op.cmpValue (FP.dcmp FP.dconst0 FP.dconst0) .l = 0 := (deq_iff dF_0 dF_0).mpr rfl
  exact ⟨fun h9 => absurd h h9, by unfold enF; rw [if_pos h]⟩
theorem fb_ok {x : UInt32} (h : okX x) : okFb x ∧ fbI x = x.toInt32 := by
  unfold fbI okFb
  by_cases h0 : x = 0
  · subst h0
    rw [f2d_0]
    exact ⟨⟨dF_nn dF_0, (enF_0 0).1⟩, by rw [(enF_0 0).2]; decide⟩
  · have hn := h.2.resolve_left h0
    obtain ⟨a1, a2⟩ := enF_f h.1 hn
    refine ⟨⟨?_, a1⟩, by rw [a2, lg_l2i_i2l]⟩
    obtain ⟨s, c, q, hv, hc⟩ := nrm32 h.1 hn
    exact dF_nn (dD_F (f2d_D hv hc))
theorem sp_floatBitsX {sh : List PSh} {S : PSt} {x : UInt32} (hok : okX x) : pF mX8_floatBits 3 [.float x] sh S S (some (.int x.toInt32)) := by
  have := sp_X8_floatBits (sh := sh) (S := S) (fb_ok hok).1
  rw [(fb_ok hok).2] at this
  exact this
/-- BITS of a number of 64 bits -/
theorem enF_d {x : UInt64} {s : Bool} {c : Nat} {q : Int} (hx : dD x s c q) (hq1 : -900 ≤ q) (hq2 : q ≤ 800) : okEn 1 x ∧ enF 1 x = x.toInt64 := by
  have hb := bits64 hx
  obtain ⟨o1, o2⟩ := enF_D 1 hx hq1 hq2 0 (by decide) (by rw [show (pBi 1).toInt = 1023 by decide]; omega)
  refine ⟨o1, ?_⟩
  have hc := hx.2.1
  have hc2 := hx.2.2.1
  rw [o2, show (pBi 1).toInt = 1023 by decide, Nat.pow_zero, Nat.div_one, show pHid 1 = lN (2 ^ 52) by decide, lN_sub hc, lN_add, show (q + 52 + 1023).toNat = (q + 1074).toNat + 1 by omega, show 52 - 0 = 52 by decide]
  have hm : ((q + 1074).toNat + 1) * 2 ^ 52 + (c - 2 ^ 52) < 2 ^ 63 := by omega
  unfold wsF
  rw [u64_lN, hb]
  cases s with
  | false =>
    rw [if_neg (by decide)]
    simp
  | true =>
    rw [if_pos rfl, if_neg (by decide), show pSb 1 = -9223372036854775808 from rfl, lN_or63 hm]
    have e9 : ((q + 1074).toNat + 1) * 2 ^ 52 + (c - 2 ^ 52) + 2 ^ 63 = (true.toNat * 2048 + ((q + 1074).toNat + 1)) * 2 ^ 52 + (c - 2 ^ 52) := by simp only [Bool.toNat_true]; omega
    rw [e9]
