/-! doubles: halves, doubles, what encode answers -/
def dz (x : UInt64) : Int := FP.Core.zval FP.Core.b64 (FP.Core.val64 x)
abbrev dF (x : UInt64) : Prop := FP.Core.DFin x
theorem dnn_iff (x : UInt64) : vf_n64 x ↔ x.toNat % 2 ^ 63 ≤ 9218868437227405312 := by
  unfold vf_n64
  rw [UInt64.le_iff_toNat_le, FP.Core.mask_toNat]
  rfl
theorem dnn_of {x : UInt64} (h : FP.Core.val64 x ≠ .nan) : vf_n64 x := (dnn_iff x).mpr ((FP.Core.ne_nan x).mp h)
theorem dF_nn {x : UInt64} (h : dF x) : vf_n64 x := dnn_of h.ne_nan
theorem good64 : FP.Core.Good FP.Core.b64 := FP.Core.good_b64
/-- a number of 64 bits with all its digits, far from the ends -/
def dD (x : UInt64) (s : Bool) (c : Nat) (q : Int) : Prop := FP.Core.val64 x = .fin s c q ∧ 2 ^ 52 ≤ c ∧ c < 2 ^ 53 ∧ -1000 ≤ q ∧ q ≤ 900
theorem dD_F {x : UInt64} {s : Bool} {c : Nat} {q : Int} (h : dD x s c q) : dF x := ⟨s, c, q, h.1⟩
theorem fits64 {s : Bool} {c : Nat} {q : Int} (h1 : 2 ^ 52 ≤ c) (h2 : c < 2 ^ 53) (h3 : -1001 ≤ q) (h4 : q ≤ 901) : FP.Core.fits FP.Core.b64 (.fin s c q) := by
  have e1 : FP.Core.b64.qmin = -1074 := FP.Core.qmin_b64
  have e2 : FP.Core.b64.qmax = 971 := by decide
  exact ⟨h2, by omega, by omega, Or.inr (by rw [FP.Core.tails_b64]; exact h1)⟩
theorem d2c_val : FP.Core.val64 d2c = .fin false (2 ^ 52) (-51) := by decide +kernel
theorem dD_mul2 {x : UInt64} {s : Bool} {c : Nat} {q : Int} (h : dD x s c q) (hq : q ≤ 899) : dD (FP.dmul x d2c) s c (q + 1) := by
  obtain ⟨h1, h2, h3, h4, h5⟩ := h
  have hv := FP.Core.val64_dmul x d2c
  rw [h1, d2c_val] at hv
  refine ⟨?_, h2, h3, by omega, by omega⟩
  show FP.Core.val64 (FP.Core.dmul x d2c) = _
  rw [hv]
  show FP.Core.roundRatio FP.Core.b64 (s != false) (c * 2 ^ 52) 1 (q + -51) = _
  rw [show (s != false) = s by cases s <;> rfl]
  exact FP.Core.roundRatio_exact good64 (by decide) (fits64 h2 h3 (by omega) (by omega)) (by
    rw [show (q + -51 - (q + 1)).toNat = 0 by omega, show (q + 1 - (q + -51)).toNat = 52 by omega]; simp)
theorem dD_div2 {x : UInt64} {s : Bool} {c : Nat} {q : Int} (h : dD x s c q) (hq : -999 ≤ q) : dD (FP.ddiv x d2c) s c (q - 1) := by
  obtain ⟨h1, h2, h3, h4, h5⟩ := h
  have hv := FP.Core.val64_ddiv x d2c
  rw [h1, d2c_val] at hv
  refine ⟨?_, h2, h3, by omega, by omega⟩
  show FP.Core.val64 (FP.Core.ddiv x d2c) = _
  rw [hv]
  show (if (2 : Nat) ^ 52 = 0 then (if c = 0 then FP.Core.Datum.nan else .inf (s != false)) else FP.Core.roundRatio FP.Core.b64 (s != false) c (2 ^ 52) (q - -51)) = _
  rw [if_neg (by decide), show (s != false) = s by cases s <;> rfl]
  exact FP.Core.roundRatio_exact good64 (by decide) (fits64 h2 h3 (by omega) (by omega)) (by
    rw [show (q - -51 - (q - 1)).toNat = 52 by omega, show (q - 1 - (q - -51)).toNat = 0 by omega]; simp)
theorem dz_D {x : UInt64} {c : Nat} {q : Int} (h : dD x false c q) : dz x = ((c * 2 ^ (q + 1074).toNat : Nat) : Int) := by
  unfold dz
  rw [h.1]
  show FP.Core.signed false (c * 2 ^ (q - FP.Core.b64.qmin).toNat) = _
  rw [FP.Core.qmin_b64, show q - -1074 = q + 1074 by omega]
  rfl
theorem dcmp_z {x y : UInt64} (hx : dF x) (hy : dF y) : FP.dcmp x y = some (compare (dz x) (dz y)) := FP.Core.dcmp_zval hx.ne_nan hy.ne_nan
theorem dge_iff {x y : UInt64} (hx : dF x) (hy : dF y) : dge x y = true ↔ dz y ≤ dz x := by
  unfold dge
  rw [decide_eq_true_iff, dcmp_z hx hy]
  rcases Int.lt_trichotomy (dz x) (dz y) with h | h | h
  · rw [FP.Core.compare_lt_iff _ _ |>.mpr h]; exact ⟨fun q => absurd q (by decide), fun q => by omega⟩
  · rw [FP.Core.compare_eq_iff _ _ |>.mpr h]; exact ⟨fun _ => by omega, fun _ => by decide⟩
  · rw [FP.Core.compare_gt_iff _ _ |>.mpr h]; exact ⟨fun _ => by omega, fun _ => by decide⟩
theorem dlt_iff {x y : UInt64} (hx : dF x) (hy : dF y) : dlt x y = true ↔ dz x < dz y := by
  unfold dlt
  rw [decide_eq_true_iff, dcmp_z hx hy]
  rcases Int.lt_trichotomy (dz x) (dz y) with h | h | h
  · rw [FP.Core.compare_lt_iff _ _ |>.mpr h]; exact ⟨fun _ => h, fun _ => by decide⟩
  · rw [FP.Core.compare_eq_iff _ _ |>.mpr h]; exact ⟨fun q => absurd q (by decide), fun q => by omega⟩
  · rw [FP.Core.compare_gt_iff _ _ |>.mpr h]; exact ⟨fun q => absurd q (by decide), fun q => by omega⟩
theorem dgt_iff {x y : UInt64} (hx : dF x) (hy : dF y) : dgt x y = true ↔ dz y < dz x := by
  unfold dgt
  rw [decide_eq_true_iff, dcmp_z hx hy]
  rcases Int.lt_trichotomy (dz x) (dz y) with h | h | h
  · rw [FP.Core.compare_lt_iff _ _ |>.mpr h]; exact ⟨fun q => absurd q (by decide), fun q => by omega⟩
  · rw [FP.Core.compare_eq_iff _ _ |>.mpr h]; exact ⟨fun q => absurd q (by decide), fun q => by omega⟩
  · rw [FP.Core.compare_gt_iff _ _ |>.mpr h]; exact ⟨fun _ => h, fun _ => by decide⟩
theorem dle_iff {x y : UInt64} (hx : dF x) (hy : dF y) : dle x y = true ↔ dz x ≤ dz y := by
  unfold dle
  rw [decide_eq_true_iff, dcmp_z hx hy]
  rcases Int.lt_trichotomy (dz x) (dz y) with h | h | h
  · rw [FP.Core.compare_lt_iff _ _ |>.mpr h]; exact ⟨fun _ => by omega, fun _ => by decide⟩
  · rw [FP.Core.compare_eq_iff _ _ |>.mpr h]; exact ⟨fun _ => by omega, fun _ => by decide⟩
  · rw [FP.Core.compare_gt_iff _ _ |>.mpr h]; exact ⟨fun q => absurd q (by decide), fun q => by omega⟩
theorem deq_iff {x y : UInt64} (hx : dF x) (hy : dF y) : Op.cmpValue (FP.dcmp x y) .l = 0 ↔ dz x = dz y := by
  rw [dcmp_z hx hy]
  rcases Int.lt_trichotomy (dz x) (dz y) with h | h | h
  · rw [FP.Core.compare_lt_iff _ _ |>.mpr h]; exact ⟨fun q => absurd q (by decide), fun q => by omega⟩
  · rw [FP.Core.compare_eq_iff _ _ |>.mpr h]; exact ⟨fun _ => h, fun _ => by decide⟩
  · rw [FP.Core.compare_gt_iff _ _ |>.mpr h]; exact ⟨fun q => absurd q (by decide), fun q => by omega⟩
theorem dF_0 : dF FP.dconst0 := ⟨_, _, _, FP.Core.val64_dconst0⟩
theorem dz_0 : dz FP.dconst0 = 0 := by
  unfold dz
  rw [show FP.Core.val64 FP.dconst0 = .fin false 0 FP.Core.b64.qmin from FP.Core.val64_dconst0]
  rfl
theorem pow_cmp {c : Nat} {a b : Nat} (h1 : 2 ^ 52 ≤ c) (h2 : c < 2 ^ 53) : 2 ^ 52 * 2 ^ b ≤ c * 2 ^ a ↔ b ≤ a := by
  constructor
  · intro h
    refine Nat.le_of_not_lt fun hlt => ?_
    have h3 : c * 2 ^ a < 2 ^ 53 * 2 ^ a := Nat.mul_lt_mul_of_pos_right h2 (Nat.two_pow_pos _)
    have h4 : 2 ^ 53 * 2 ^ a ≤ 2 ^ 52 * 2 ^ b := by
      rw [← Nat.pow_add, ← Nat.pow_add]
      exact Nat.pow_le_pow_right (by decide) (by omega)
    omega
  · intro h
    exact Nat.le_trans (Nat.mul_le_mul_left _ (Nat.pow_le_pow_right (by decide) h)) (Nat.mul_le_mul_right _ h1)
theorem dge_D {x y : UInt64} {c : Nat} {q r : Int} (hx : dD x false c q) (hy : dD y false (2 ^ 52) r) : dge x y = true ↔ r ≤ q := by
  rw [dge_iff (dD_F hx) (dD_F hy), dz_D hx, dz_D hy, Int.ofNat_le, pow_cmp hx.2.1 hx.2.2.1]
  have := hx.2.2.2.1
  have := hy.2.2.2.1
  omega
theorem dlt_D {x y : UInt64} {c : Nat} {q r : Int} (hx : dD x false c q) (hy : dD y false (2 ^ 52) r) : dlt x y = true ↔ q < r := by
  have h := dge_D hx hy
  rw [dlt_iff (dD_F hx) (dD_F hy)]
  rw [dge_iff (dD_F hx) (dD_F hy)] at h
  omega
/-- halved t times -/
theorem dn_run {lo2 : UInt64} {c : Nat} {r : Int} (hlo : dD lo2 false (2 ^ 52) r) (hr : -990 ≤ r) : ∀ (t m : Nat) (z : UInt64) (e : Int32) (q : Int), dD z false c q → q = r - 1 + (t : Int) → t ≤ m →
    dD (dnF lo2 m z e).1 false c (r - 1) ∧ (dnF lo2 m z e).2 = e + nI t ∧ okDn lo2 m z := by
  intro t
  induction t with
  | zero =>
    intro m z e q hz hq _
    have hn : ¬ dge z lo2 = true := fun h => by have := (dge_D hz hlo).mp h; omega
    cases m with
    | zero => exact ⟨by rw [show r - 1 = q by omega]; exact hz, by show e = e + nI 0; rw [nI_0, Int32.add_zero], trivial⟩
    | succ m =>
      unfold dnF okDn
      rw [if_neg hn]
      exact ⟨by rw [show r - 1 = q by omega]; exact hz, by show e = e + nI 0; rw [nI_0, Int32.add_zero], fun h => absurd h hn⟩
  | succ t ih =>
    intro m z e q hz hq hm
    cases m with
    | zero => omega
    | succ m =>
      have hg : dge z lo2 = true := (dge_D hz hlo).mpr (by omega)
      have hz2 := dD_div2 hz (by omega)
      obtain ⟨a1, a2, a3⟩ := ih m (FP.ddiv z d2c) (e + 1) (q - 1) hz2 (by omega) (by omega)
      unfold dnF okDn
      rw [if_pos hg]
      refine ⟨a1, ?_, fun _ => ⟨dF_nn (dD_F hz2), a3⟩⟩
      rw [a2, Int32.add_assoc, show (1 : Int32) = nI 1 from rfl, nI_add, Nat.add_comm]
theorem dn_no {lo2 : UInt64} {c : Nat} {r q : Int} (hlo : dD lo2 false (2 ^ 52) r) {z : UInt64} (hz : dD z false c q) (hq : q < r) (m : Nat) (e : Int32) : dnF lo2 m z e = (z, e) ∧ okDn lo2 m z := by
  have hn : ¬ dge z lo2 = true := fun h => by have := (dge_D hz hlo).mp h; omega
  cases m with
  | zero => exact ⟨rfl, trivial⟩
  | succ m =>
    unfold dnF okDn
    rw [if_neg hn]
    exact ⟨rfl, fun h => absurd h hn⟩
/-- doubled t times -/
theorem up_run {lo : UInt64} {c : Nat} {r : Int} (hlo : dD lo false (2 ^ 52) r) (hr : r ≤ 890) : ∀ (t m : Nat) (z : UInt64) (e : Int32) (q : Int), dD z false c q → q = r - (t : Int) → t ≤ m →
    dD (upF lo m z e).1 false c r ∧ (upF lo m z e).2 + nI t = e ∧ okUp lo m z := by
  intro t
  induction t with
  | zero =>
    intro m z e q hz hq _
    have hn : ¬ dlt z lo = true := fun h => by have := (dlt_D hz hlo).mp h; omega
    cases m with
    | zero => exact ⟨by rw [show r = q by omega]; exact hz, by show e + nI 0 = e; rw [nI_0, Int32.add_zero], trivial⟩
    | succ m =>
      unfold upF okUp
      rw [if_neg hn]
      exact ⟨by rw [show r = q by omega]; exact hz, by show e + nI 0 = e; rw [nI_0, Int32.add_zero], fun h => absurd h hn⟩
  | succ t ih =>
    intro m z e q hz hq hm
    cases m with
    | zero => omega
    | succ m =>
      have hg : dlt z lo = true := (dlt_D hz hlo).mpr (by omega)
      have hz2 := dD_mul2 hz (by omega)
      obtain ⟨a1, a2, a3⟩ := ih m (FP.dmul z d2c) (e + (-1)) (q + 1) hz2 (by omega) (by omega)
      unfold upF okUp
      rw [if_pos hg]
      refine ⟨a1, ?_, fun _ => ⟨dF_nn (dD_F hz2), a3⟩⟩
      rw [← nI_add t 1, ← Int32.add_assoc, a2, Int32.add_assoc, show (-1 : Int32) + nI 1 = 0 by decide, Int32.add_zero]
theorem hid_D (s : Nat) : dD (FP.l2d (pHid s)) false (2 ^ 52) ((pFb s).toInt - 52) ∧ dD (FP.dmul (FP.l2d (pHid s)) d2c) false (2 ^ 52) ((pFb s).toInt - 51) := by
  have h : dD (FP.l2d (pHid s)) false (2 ^ 52) ((pFb s).toInt - 52) := by
    unfold pHid pFb
    by_cases h0 : s = 0
    · rw [if_pos h0, if_pos h0]
      exact ⟨by decide +kernel, by decide, by decide, by decide, by decide⟩
    · rw [if_neg h0, if_neg h0]
      exact ⟨by decide +kernel, by decide, by decide, by decide, by decide⟩
  refine ⟨h, ?_⟩
  have hfb : (pFb s).toInt = 23 ∨ (pFb s).toInt = 52 := by
    unfold pFb
    by_cases h0 : s = 0
    · rw [if_pos h0]; exact Or.inl (by decide)
    · rw [if_neg h0]; exact Or.inr (by decide)
  have := dD_mul2 h (by omega)
  rw [show (pFb s).toInt - 51 = (pFb s).toInt - 52 + 1 by omega]
  exact this
/-- the numbers that encode comes to -/
theorem en_run (s : Nat) {x : UInt64} {c : Nat} {q : Int} (hx : dD (absD x) false c q) (hq1 : -900 ≤ q) (hq2 : q ≤ 800) :
    okDn (FP.dmul (FP.l2d (pHid s)) d2c) 1100 (absD x) ∧ okUp (FP.l2d (pHid s)) 1100 (dnF (FP.dmul (FP.l2d (pHid s)) d2c) 1100 (absD x) (pFb s)).1 ∧ dD (enU s x).1 false c ((pFb s).toInt - 52) ∧ (enU s x).2.toInt = q + 52 := by
  obtain ⟨h1, h2⟩ := hid_D s
  have hfb : (pFb s).toInt = 23 ∨ (pFb s).toInt = 52 := by
    unfold pFb
    by_cases h0 : s = 0
    · rw [if_pos h0]; exact Or.inl (by decide)
    · rw [if_neg h0]; exact Or.inr (by decide)
  by_cases hc : (pFb s).toInt - 52 ≤ q
  · have he : ∃ t : Nat, q = (pFb s).toInt - 51 - 1 + (t : Int) := ⟨(q - ((pFb s).toInt - 52)).toNat, by omega⟩
    obtain ⟨t, ht⟩ := he
    obtain ⟨a1, a2, a3⟩ := dn_run h2 (by omega) t 1100 (absD x) (pFb s) q hx ht (by omega)
    have a1' : dD (dnF (FP.dmul (FP.l2d (pHid s)) d2c) 1100 (absD x) (pFb s)).1 false c ((pFb s).toInt - 52) := by
      rw [show (pFb s).toInt - 52 = (pFb s).toInt - 51 - 1 by omega]; exact a1
    obtain ⟨b1, b2, b3⟩ := up_run h1 (by omega) 0 1100 _ (dnF (FP.dmul (FP.l2d (pHid s)) d2c) 1100 (absD x) (pFb s)).2 _ a1' (by omega) (by omega)
    refine ⟨a3, b3, b1, ?_⟩
    have e : (enU s x).2 = pFb s + nI t := by
      have : (enU s x).2 + nI 0 = (dnF (FP.dmul (FP.l2d (pHid s)) d2c) 1100 (absD x) (pFb s)).2 := b2
      rw [nI_0, Int32.add_zero, a2] at this
      exact this
    have hp : pFb s = nI (pFb s).toInt.toNat := nI_of0 (by omega)
    rw [e, hp, nI_add, nI_toInt (by omega)]
    omega
  · obtain ⟨a1, a3⟩ := dn_no h2 hx (by omega) 1100 (pFb s)
    have he : ∃ t : Nat, q = (pFb s).toInt - 52 - (t : Int) := ⟨(((pFb s).toInt - 52) - q).toNat, by omega⟩
    obtain ⟨t, ht⟩ := he
    obtain ⟨b1, b2, b3⟩ := up_run h1 (by omega) t 1100 (absD x) (pFb s) q hx ht (by omega)
    have e0 : enU s x = upF (FP.l2d (pHid s)) 1100 (absD x) (pFb s) := by
      unfold enU
      rw [a1]
    refine ⟨a3, by rw [a1]; exact b3, by rw [e0]; exact b1, ?_⟩
    have e : (enU s x).2 + nI t = pFb s := by rw [e0]; exact b2
    have e2 : (enU s x).2 = pFb s - nI t := by rw [← e, Int32.add_sub_cancel]
    rw [e2, Int32.toInt_sub, nI_toInt (by omega)]
    rw [Int.bmod_eq_of_le (by omega) (by omega)]
    omega
