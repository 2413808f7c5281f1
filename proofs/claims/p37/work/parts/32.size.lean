/-! what BITS tell without their sign -/
theorem bv_toNat (b : Int64) : (b.toBitVec.toNat : Int) = b.toInt % 2 ^ 64 := by
  have h := BitVec.toInt_eq_toNat_cond b.toBitVec
  have h2 : b.toBitVec.toInt = b.toInt := rfl
  have h3 := b.toBitVec.isLt
  rw [h2] at h
  split at h <;> omega
theorem and_low (b : Int64) (k : Nat) (hk : k ≤ 63) (m : Int64) (hm : m.toBitVec.toNat = 2 ^ k - 1) : b &&& m = lN (b.toBitVec.toNat % 2 ^ k) := by
  apply l_ext
  have h1 : b.toBitVec.toNat % 2 ^ k < 2 ^ k := Nat.mod_lt _ (Nat.two_pow_pos _)
  have h2 : (2 : Nat) ^ k ≤ 2 ^ 63 := Nat.pow_le_pow_right (by decide) hk
  rw [Int64.toBitVec_and, BitVec.toNat_and, hm, Nat.and_two_pow_sub_one_eq_mod, lN_bv, Nat.mod_eq_of_lt (b := 2 ^ 64) (by omega)]
theorem lN_shr {n : Nat} (hn : n < 2 ^ 63) (k : Nat) (b : Int64) (hb : (b.toBitVec.smod 64).toNat = k) : lN n >>> b = lN (n / 2 ^ k) := by
  apply Int64.toInt_inj.mp
  have h1 : (lN n >>> b).toInt = (lN n).toInt >>> k := by
    show (lN n >>> b).toBitVec.toInt = (lN n).toBitVec.toInt >>> k
    rw [Int64.toBitVec_shiftRight, BitVec.sshiftRight', BitVec.toInt_sshiftRight, hb]
  have h2 : n / 2 ^ k ≤ n := Nat.div_le_self _ _
  rw [h1, pk_lT hn, pk_lT (by omega), Int.shiftRight_eq_div_pow]
  rfl
theorem dbF_D {z : UInt64} {s : Bool} {c : Nat} {q : Int} (h : dD z s c q) : ∀ (k : Nat), q + (k : Int) ≤ 899 → dD (dbF k z) s c (q + (k : Int)) := by
  intro k
  induction k with
  | zero => intro _; rw [show q + ((0 : Nat) : Int) = q by omega]; exact h
  | succ k ih =>
    intro hk
    have := dD_mul2 (ih (by omega)) (by omega)
    rw [show q + ((k + 1 : Nat) : Int) = q + (k : Int) + 1 by omega]
    exact this
theorem hvF_D {z : UInt64} {s : Bool} {c : Nat} {q : Int} (h : dD z s c q) : ∀ (k : Nat), -999 ≤ q - (k : Int) → dD (hvF k z) s c (q - (k : Int)) := by
  intro k
  induction k with
  | zero => intro _; rw [show q - ((0 : Nat) : Int) = q by omega]; exact h
  | succ k ih =>
    intro hk
    have := dD_div2 (ih (by omega)) (by omega)
    rw [show q - ((k + 1 : Nat) : Int) = q - (k : Int) - 1 by omega]
    exact this
/-- shifted by e places, up or down -/
theorem sz_run {z : UInt64} {c : Nat} {q : Int} (h : dD z false c q) (e : Int32) (h1 : -800 ≤ e.toInt) (h2 : e.toInt ≤ 800) (h3 : -900 ≤ q + e.toInt) (h4 : q + e.toInt ≤ 800) (h5 : -900 ≤ q) (h6 : q ≤ 800) :
    (e.toInt < 1100 ∧ (-e).toInt < 1100) ∧ (∀ k, k < e.toInt.toNat → vf_n64 (FP.dmul (dbF k z) d2c)) ∧ (∀ k, k < (-e).toInt.toNat → vf_n64 (FP.ddiv (hvF k (dbF e.toInt.toNat z)) d2c)) ∧ dD (hvF (-e).toInt.toNat (dbF e.toInt.toNat z)) false c (q + e.toInt) := by
  have hn : (-e).toInt = -e.toInt := by
    rw [Int32.toInt_neg, Int.bmod_eq_of_le (by omega) (by omega)]
  have hd := dbF_D h e.toInt.toNat (by omega)
  refine ⟨⟨by omega, by omega⟩, fun k hk => ?_, fun k hk => ?_, ?_⟩
  · exact dF_nn (dD_F (dD_mul2 (dbF_D h k (by omega)) (by omega)))
  · exact dF_nn (dD_F (dD_div2 (hvF_D hd k (by omega)) (by omega)))
  · have := hvF_D hd (-e).toInt.toNat (by omega)
    rw [show q + e.toInt = q + (e.toInt.toNat : Int) - ((-e).toInt.toNat : Int) by omega]
    exact this
theorem l2d_D {c k : Nat} (h1 : 2 ^ 52 ≤ c * 2 ^ k) (h2 : c * 2 ^ k < 2 ^ 53) (hk : k ≤ 60) : dD (FP.l2d (lN c)) false (c * 2 ^ k) (-(k : Int)) := by
  have hc : c ≤ c * 2 ^ k := Nat.le_mul_of_pos_right _ (Nat.two_pow_pos _)
  refine ⟨?_, h1, h2, by omega, by omega⟩
  show FP.Core.val64 (FP.Core.l2d (lN c)) = _
  rw [FP.Core.val64_l2d, pk_lT (by omega)]
  show FP.Core.roundRatio FP.Core.b64 (decide ((c : Int) < 0)) ((c : Int).natAbs) 1 0 = _
  rw [decide_eq_false (by omega), Int.natAbs_natCast]
  exact FP.Core.roundRatio_exact good64 (by decide) (fits64 h1 h2 (by omega) (by omega)) (by
    rw [show (0 - -(k : Int)).toNat = k by omega, show (-(k : Int) - 0).toNat = 0 by omega]; simp)
theorem szF_zero {s : Nat} {b : Int64} (h : b &&& (pSb s - 1) = 0) : okSz s b ∧ szF s b = FP.dconst0 := ⟨fun h9 => absurd h h9, by unfold szF; rw [if_pos h]⟩
/-- of 32 bits -/
theorem b32_low (x : UInt32) : x.toInt32.toInt64 &&& (pSb 0 - 1) = lN (x.toNat % 2 ^ 31) := by
  rw [and_low _ 31 (by decide) (pSb 0 - 1) (by decide)]
  congr 1
  have h1 := bv_toNat x.toInt32.toInt64
  rw [Int32.toInt_toInt64, u32_nI] at h1
  have h2 : (nI x.toNat).toInt = if x.toNat < 2 ^ 31 then (x.toNat : Int) else (x.toNat : Int) - 2 ^ 32 := by
    by_cases h : x.toNat < 2 ^ 31
    · rw [if_pos h, nI_toInt h]
    · rw [if_neg h]
      have hb : (nI x.toNat).toBitVec.toNat = x.toNat := by
        show (BitVec.ofNat 32 x.toNat).toNat = _
        rw [BitVec.toNat_ofNat, Nat.mod_eq_of_lt x.toNat_lt]
      have h3 := BitVec.toInt_eq_toNat_cond (nI x.toNat).toBitVec
      rw [hb, if_neg (by omega)] at h3
      exact h3
  have h4 := x.toNat_lt
  rw [u32_nI]
  split at h2 <;> omega
theorem szF_f0 {x : UInt32} (h : x.toNat % 2 ^ 31 = 0) : okSz 0 x.toInt32.toInt64 ∧ szF 0 x.toInt32.toInt64 = FP.dconst0 := szF_zero (by rw [b32_low, h]; rfl)
theorem c29 {c : Nat} (h : 2 ^ 23 ≤ c) (h2 : c < 2 ^ 24) : 2 ^ 52 ≤ c * 2 ^ 29 ∧ c * 2 ^ 29 < 2 ^ 53 := by omega
theorem szF_f {x : UInt32} {s : Bool} {c : Nat} {q : Int} (hv : FP.Core.val32 x = .fin s c q) (hc : 2 ^ 23 ≤ c) : okSz 0 x.toInt32.toInt64 ∧ dD (szF 0 x.toInt32.toInt64) false (c * 2 ^ 29) (q - 29) := by
  obtain ⟨b1, b2, b3, _, b5⟩ := bits32 hv
  have hb := b5 hc
  have hm : x.toNat % 2 ^ 31 = ((q + 149).toNat + 1) * 2 ^ 23 + (c - 2 ^ 23) := by
    have hs : s.toNat = 0 ∨ s.toNat = 1 := by cases s <;> simp
    omega
  have hlow := b32_low x
  rw [hm] at hlow
  have hml : ((q + 149).toNat + 1) * 2 ^ 23 + (c - 2 ^ 23) < 2 ^ 31 := by omega
  have hne : ¬ x.toInt32.toInt64 &&& (pSb 0 - 1) = 0 := by
    rw [hlow]
    intro h
    have := congrArg Int64.toInt h
    rw [pk_lT (by omega)] at this
    have h0 : (0 : Int64).toInt = 0 := rfl
    omega
  have hE : (szE 0 (lN (((q + 149).toNat + 1) * 2 ^ 23 + (c - 2 ^ 23)))).toInt = q := by
    unfold szE
    rw [show pFb 0 = 23 from rfl, show pBi 0 = 127 from rfl, lN_shr (by omega) 23 _ (by decide), lN_i, show (((q + 149).toNat + 1) * 2 ^ 23 + (c - 2 ^ 23)) / 2 ^ 23 = (q + 149).toNat + 1 by omega]
    rw [Int32.toInt_sub, Int32.toInt_sub, nI_toInt (by omega), show (127 : Int32).toInt = 127 by decide, show (23 : Int32).toInt = 23 by decide, Int.bmod_eq_of_le (n := (((q + 149).toNat + 1 : Nat) : Int) - 127) (by omega) (by omega), Int.bmod_eq_of_le (by omega) (by omega)]
    omega
  have hM : szM 0 (lN (((q + 149).toNat + 1) * 2 ^ 23 + (c - 2 ^ 23))) = FP.l2d (lN c) := by
    unfold szM
    rw [and_low _ 23 (by decide) (pHid 0 - 1) (by decide), lN_bv, show pHid 0 = lN (2 ^ 23) by decide, lN_add, show 2 ^ 23 + (((q + 149).toNat + 1) * 2 ^ 23 + (c - 2 ^ 23)) % 2 ^ 64 % 2 ^ 23 = c by omega]
  have hD : dD (FP.l2d (lN c)) false (c * 2 ^ 29) (-((29 : Nat) : Int)) := l2d_D (c := c) (k := 29) (c29 hc b3).1 (c29 hc b3).2 (by decide)
  obtain ⟨r1, r2, r3, r4⟩ := sz_run hD (szE 0 (lN (((q + 149).toNat + 1) * 2 ^ 23 + (c - 2 ^ 23)))) (by omega) (by omega) (by omega) (by omega) (by omega) (by omega)
  refine ⟨fun _ => ?_, ?_⟩
  · rw [hlow, hM]
    exact ⟨r1, r2, r3⟩
  · unfold szF
    rw [if_neg hne, hlow, hM]
    have e9 : q - 29 = -((29 : Nat) : Int) + (szE 0 (lN (((q + 149).toNat + 1) * 2 ^ 23 + (c - 2 ^ 23)))).toInt := by rw [hE]; omega
    rw [e9]
    exact r4
/-- of 64 bits -/
theorem b64_low (x : UInt64) : x.toInt64 &&& (pSb 1 - 1) = lN (x.toNat % 2 ^ 63) := by
  rw [and_low _ 63 (by decide) (pSb 1 - 1) (by decide), u64_lN, lN_bv, Nat.mod_eq_of_lt x.toNat_lt]
theorem szF_d0 {x : UInt64} (h : x.toNat % 2 ^ 63 = 0) : okSz 1 x.toInt64 ∧ szF 1 x.toInt64 = FP.dconst0 := szF_zero (by rw [b64_low, h]; rfl)
theorem szF_d {x : UInt64} {s : Bool} {c : Nat} {q : Int} (hx : dD x s c q) (hq1 : -700 ≤ q) (hq2 : q ≤ 700) : okSz 1 x.toInt64 ∧ dD (szF 1 x.toInt64) false c q := by
  have hb := bits64 hx
  have hc := hx.2.1
  have hc2 := hx.2.2.1
  have hm : x.toNat % 2 ^ 63 = ((q + 1074).toNat + 1) * 2 ^ 52 + (c - 2 ^ 52) := by
    have hs : s.toNat = 0 ∨ s.toNat = 1 := by cases s <;> simp
    omega
  have hlow := b64_low x
  rw [hm] at hlow
  have hml : ((q + 1074).toNat + 1) * 2 ^ 52 + (c - 2 ^ 52) < 2 ^ 63 := by omega
  have hne : ¬ x.toInt64 &&& (pSb 1 - 1) = 0 := by
    rw [hlow]
    intro h
    have := congrArg Int64.toInt h
    rw [pk_lT (by omega)] at this
    have h0 : (0 : Int64).toInt = 0 := rfl
    omega
  have hE : (szE 1 (lN (((q + 1074).toNat + 1) * 2 ^ 52 + (c - 2 ^ 52)))).toInt = q := by
    unfold szE
    rw [show pFb 1 = 52 from rfl, show pBi 1 = 1023 from rfl, lN_shr (by omega) 52 _ (by decide), lN_i, show (((q + 1074).toNat + 1) * 2 ^ 52 + (c - 2 ^ 52)) / 2 ^ 52 = (q + 1074).toNat + 1 by omega]
    rw [Int32.toInt_sub, Int32.toInt_sub, nI_toInt (by omega), show (1023 : Int32).toInt = 1023 by decide, show (52 : Int32).toInt = 52 by decide, Int.bmod_eq_of_le (n := (((q + 1074).toNat + 1 : Nat) : Int) - 1023) (by omega) (by omega), Int.bmod_eq_of_le (by omega) (by omega)]
    omega
  have hM : szM 1 (lN (((q + 1074).toNat + 1) * 2 ^ 52 + (c - 2 ^ 52))) = FP.l2d (lN c) := by
    unfold szM
    rw [and_low _ 52 (by decide) (pHid 1 - 1) (by decide), lN_bv, show pHid 1 = lN (2 ^ 52) by decide, lN_add, show 2 ^ 52 + (((q + 1074).toNat + 1) * 2 ^ 52 + (c - 2 ^ 52)) % 2 ^ 64 % 2 ^ 52 = c by omega]
  have hD : dD (FP.l2d (lN c)) false (c * 2 ^ 0) (-((0 : Nat) : Int)) := l2d_D (c := c) (k := 0) (by omega) (by omega) (by decide)
  rw [Nat.pow_zero, Nat.mul_one] at hD
  obtain ⟨r1, r2, r3, r4⟩ := sz_run hD (szE 1 (lN (((q + 1074).toNat + 1) * 2 ^ 52 + (c - 2 ^ 52)))) (by omega) (by omega) (by omega) (by omega) (by omega) (by omega)
  refine ⟨fun _ => ?_, ?_⟩
  · rw [hlow, hM]
    exact ⟨r1, r2, r3⟩
  · unfold szF
    rw [if_neg hne, hlow, hM]
    have e9 : q = -((0 : Nat) : Int) + (szE 1 (lN (((q + 1074).toNat + 1) * 2 ^ 52 + (c - 2 ^ 52)))).toInt := by rw [hE]; omega
    rw [← e9] at r4
    exact r4
