/-! what the columns' floats are: whole numbers of 2^-6, exact sums, bounds -/
def U6 : Nat := 2 ^ 143
theorem U6_pos : (0 : Int) < (U6 : Int) := by unfold U6; exact Int.natCast_pos.mpr (Nat.two_pow_pos _)
def fU (x : UInt32) (m : Int) : Prop := fF x ∧ fz x = m * (U6 : Int)
theorem fU_add {x y : UInt32} {m n : Int} (hx : fU x m) (hy : fU y n) (h : (m + n).natAbs < 2 ^ 24) : fU (FP.fadd x y) (m + n) := by
  have e : fz x + fz y = (m + n) * (U6 : Int) := by rw [hx.2, hy.2, Int.add_mul]
  have := fadd_ex hx.1 hy.1 h (e := 143) (by decide) e
  exact ⟨this.1, this.2.trans e⟩
theorem fU_sub {x y : UInt32} {m n : Int} (hx : fU x m) (hy : fU y n) (h : (m - n).natAbs < 2 ^ 24) : fU (FP.fsub x y) (m - n) := by
  have e : fz x - fz y = (m - n) * (U6 : Int) := by rw [hx.2, hy.2, Int.sub_mul]
  have := fsub_ex hx.1 hy.1 h (e := 143) (by decide) e
  exact ⟨this.1, this.2.trans e⟩
theorem fU_0 : fU FP.fconst0 0 := ⟨fF_0, by rw [fz_0, Int.zero_mul]⟩
def fuB (x : UInt32) (lo hi : Nat) : Bool := decide (x.toNat % 2 ^ 31 < 2139095040) && (decide (fz x % (U6 : Int) = 0) && (decide ((lo : Int) * (U6 : Int) ≤ fz x) && decide (fz x ≤ (hi : Int) * (U6 : Int))))
theorem fuB_ok {x : UInt32} {lo hi : Nat} (h : fuB x lo hi = true) : ∃ m : Int, fU x m ∧ (lo : Int) ≤ m ∧ m ≤ (hi : Int) := by
  unfold fuB at h
  simp only [Bool.and_eq_true, decide_eq_true_eq] at h
  obtain ⟨h1, h2, h3, h4⟩ := h
  have e : fz x = fz x / (U6 : Int) * (U6 : Int) := (Int.ediv_mul_cancel (Int.dvd_of_emod_eq_zero h2)).symm
  rw [e] at h3 h4
  exact ⟨fz x / (U6 : Int), ⟨(fF_bits x).mpr h1, e⟩, Int.le_of_mul_le_mul_right h3 U6_pos, Int.le_of_mul_le_mul_right h4 U6_pos⟩
/-- a column that may be -/
def okC (g : Nat → Int32) (i : Nat) : Prop := (g (5 * i + 0) = 0 ∨ g (5 * i + 0) = 1 ∨ g (5 * i + 0) = 2) ∧ isDur (g (5 * i + 1)) ∧ (-12 ≤ (g (5 * i + 2)).toInt ∧ (g (5 * i + 2)).toInt ≤ 20) ∧ (1 ≤ (g (5 * i + 3)).toInt ∧ (g (5 * i + 3)).toInt ≤ 12) ∧ (0 ≤ (g (5 * i + 4)).toInt ∧ (g (5 * i + 4)).toInt ≤ 9)
def okG (g : Nat → Int32) (n : Nat) : Prop := ∀ i, i < n → okC g i
def okWd (w : Int32) : Prop := 20 ≤ w.toInt ∧ w.toInt ≤ 380
theorem i_of_nat {x : Int32} {lo n : Nat} (h1 : (lo : Int) ≤ x.toInt) (h2 : x.toInt < lo + n) (h3 : lo + n < 2 ^ 31) : ∃ k, k < n ∧ x = nI (lo + k) := by
  refine ⟨(x.toInt - lo).toNat, by omega, ?_⟩
  apply Int32.toInt_inj.mp
  rw [nI_toInt (by omega)]
  omega
theorem id_fuA : ∀ k, k < 64 → (fuB (idF 0 (nI (k + 1))) 192 1536 && fuB (flF 0 (idF 0 (nI (k + 1)))) 16 768) = true := by decide +kernel
theorem id_fuB : (fuB 1077936128 192 1536 && fuB 1048576000 16 768) = true := by decide +kernel
theorem ro_fuA : ∀ k, k < 12 → fuB (roF (nI (1 + k))) 128 832 = true := by decide +kernel
theorem wd_fuA : ∀ k, k < 361 → fuB (FP.i2f (nI (20 + k))) 1280 24320 = true := by decide +kernel
theorem idF_0 {k d : Int32} (h : ¬ k = 2) : idF k d = idF 0 d := by rw [idF, if_neg h, idF, if_neg (by decide)]
theorem id_fu {g : Nat → Int32} {i : Nat} (h : okC g i) : (∃ m : Int, fU (idG g i) m ∧ 192 ≤ m ∧ m ≤ 1536) ∧ (∃ m : Int, fU (flG g i) m ∧ 16 ≤ m ∧ m ≤ 768) := by
  obtain ⟨_, ⟨k, hk, hd⟩, _⟩ := h
  unfold flG idG
  rw [hd]
  by_cases h2 : g (5 * i + 0) = 2
  · have := id_fuB
    rw [Bool.and_eq_true] at this
    rw [flF, if_pos h2, idF, if_pos h2]
    exact ⟨fuB_ok this.1, fuB_ok this.2⟩
  · have := id_fuA k hk
    rw [Bool.and_eq_true] at this
    rw [flF, if_neg h2, idF_0 h2]
    have e : flF 0 (idF 0 (nI (k + 1))) = FP.fmul 1056964608 (idF 0 (nI (k + 1))) := by rw [flF, if_neg (by decide)]
    rw [e] at this
    exact ⟨fuB_ok this.1, fuB_ok this.2⟩
theorem ro_fu {g : Nat → Int32} {i : Nat} (h : okC g i) : ∃ m : Int, fU (roG g i) m ∧ 128 ≤ m ∧ m ≤ 832 := by
  obtain ⟨k, hk, e⟩ := i_of_nat (lo := 1) (n := 12) h.2.2.2.1.1 (by have := h.2.2.2.1.2; omega) (by decide)
  unfold roG
  rw [e]
  exact fuB_ok (ro_fuA k hk)
theorem wd_fu {w : Int32} (h : okWd w) : ∃ m : Int, fU (FP.i2f w) m ∧ 1280 ≤ m ∧ m ≤ 24320 := by
  obtain ⟨k, hk, e⟩ := i_of_nat (x := w) (lo := 20) (n := 361) h.1 (by have := h.2; omega) (by decide)
  rw [e]
  exact fuB_ok (wd_fuA k hk)
/-- sums of some -/
theorem bsum_fu {h : Nat → Bool} {b : Bool} {f : Nat → UInt32} {lo hi : Int} (hlo : 0 ≤ lo) (hhi : lo ≤ hi) (hB : hi ≤ 2000) : ∀ {k : Nat}, k ≤ 64 → (∀ j, j < k → ∃ m : Int, fU (f j) m ∧ lo ≤ m ∧ m ≤ hi) →
    (∃ m : Int, fU (bsum h b f k) m ∧ 0 ≤ m ∧ m ≤ hi * (k : Int) ∧ ((∃ j, j < k ∧ h j = b) → lo ≤ m) ∧ ((∀ j, j < k → ¬ h j = b) → m = 0)) := by
  intro k
  induction k with
  | zero =>
    intro _ _
    exact ⟨0, fU_0, Int.le_refl _, by simp, fun ⟨j, hj, _⟩ => by omega, fun _ => rfl⟩
  | succ k ih =>
    intro hk hf
    obtain ⟨m, a1, a2, a3, a4, a5⟩ := ih (by omega) (fun j hj => hf j (by omega))
    obtain ⟨q, b1, b2, b3⟩ := hf k (by omega)
    have hm : hi * ((k + 1 : Nat) : Int) = hi * (k : Int) + hi := by rw [Int.natCast_succ, Int.mul_add, Int.mul_one]
    have hb : hi * (k : Int) ≤ 2000 * 64 := by
      have h1 : hi * (k : Int) ≤ 2000 * (k : Int) := Int.mul_le_mul_of_nonneg_right hB (by omega)
      omega
    unfold bsum
    by_cases e : h k = b
    · rw [if_pos e]
      refine ⟨m + q, fU_add a1 b1 (by omega), by omega, by rw [hm]; omega, fun _ => by omega, fun hn => absurd e (hn k (by omega))⟩
    · rw [if_neg e]
      refine ⟨m, a1, a2, by rw [hm]; omega, fun ⟨j, hj, he⟩ => a4 ⟨j, ?_, he⟩, fun hn => a5 (fun j hj => hn j (by omega))⟩
      by_cases e2 : j = k
      · subst e2; exact absurd he e
      · omega
theorem sumF_b {f : Nat → UInt32} : ∀ k, sumF f k = bsum (fun _ => true) true f k := by
  intro k
  induction k with
  | zero => rfl
  | succ k ih => unfold sumF bsum; rw [ih, if_pos rfl]
/-- springs and rods as the columns have them -/
def spK (W : UInt32) (ids fls rods : Nat → UInt32) (n : Nat) : Prop := n ≤ 32 ∧ (∃ m : Int, fU W m ∧ 1280 ≤ m ∧ m ≤ 24320) ∧ (∀ j, j < n → ∃ m : Int, fU (ids j) m ∧ 192 ≤ m ∧ m ≤ 1536) ∧ (∀ j, j < n → ∃ m : Int, fU (fls j) m ∧ 16 ≤ m ∧ m ≤ 768) ∧ (∀ j, j < n → ∃ m : Int, fU (rods j) m ∧ 128 ≤ m ∧ m ≤ 832)
theorem spK_of {g : Nat → Int32} {w : Int32} {a n N : Nat} (hg : okG g N) (hw : okWd w) (hn : n ≤ 32) (han : a + n ≤ N) : spK (FP.i2f w) (fun j => idG g (a + j)) (fun j => flG g (a + j)) (fun j => roG g (a + j)) n :=
  ⟨hn, wd_fu hw, fun j hj => (id_fu (hg _ (by omega))).1, fun j hj => (id_fu (hg _ (by omega))).2, fun j hj => ro_fu (hg _ (by omega))⟩
theorem fz_U {x : UInt32} {m : Int} {e : Nat} (h : fU x m) (hm : m.natAbs < 2 ^ e) : (fz x).natAbs < 2 ^ (e + 143) := by
  rw [h.2, Int.natAbs_mul, Nat.pow_add]
  exact Nat.mul_lt_mul_of_pos_right hm (Nat.two_pow_pos _)
theorem fz_Ul {x : UInt32} {m : Int} {e : Nat} (h : fU x m) (hm : 2 ^ e ≤ m.natAbs) : 2 ^ (e + 143) ≤ (fz x).natAbs := by
  rw [h.2, Int.natAbs_mul, Nat.pow_add]
  exact Nat.mul_le_mul_right _ hm
theorem mg_U {x : UInt32} {m : Int} {e : Nat} (h : fU x m) (hm : m.natAbs < 2 ^ e) : x.toNat % 2 ^ 31 < (e + 121) * 2 ^ 23 := (mg_lt h.1.ne_nan (by omega)).mpr (by rw [show 22 + (e + 121) = e + 143 by omega]; exact fz_U h hm)
theorem mg_Ul {x : UInt32} {m : Int} {e : Nat} (h : fU x m) (hm : 2 ^ e ≤ m.natAbs) : (e + 121) * 2 ^ 23 ≤ x.toNat % 2 ^ 31 := (mg_ge h.1.ne_nan (by omega)).mpr (by rw [show 22 + (e + 121) = e + 143 by omega]; exact fz_Ul h hm)
theorem fU_le {x y : UInt32} {m n : Int} (hx : fU x m) (hy : fU y n) : fz x < fz y ↔ m < n := by
  rw [hx.2, hy.2]
  exact ⟨fun h => Int.lt_of_mul_lt_mul_right h (Int.le_of_lt U6_pos), fun h => Int.mul_lt_mul_of_pos_right h U6_pos⟩
/-- +0, or a number that is not too small to have all its digits -/
def okX (x : UInt32) : Prop := fF x ∧ (x = 0 ∨ 2 ^ 23 ≤ x.toNat % 2 ^ 31)
theorem okX_0 : okX FP.fconst0 := ⟨fF_0, Or.inl rfl⟩
theorem okX_of {x : UInt32} (h : fF x) (h2 : 2 ^ 23 ≤ (fz x).natAbs) : okX x := ⟨h, Or.inr (by have := (mg_ge (K := 1) h.ne_nan (Nat.le_refl _)).mpr h2; omega)⟩
theorem okX_U {x : UInt32} {m : Int} (h : fU x m) (hm : m ≠ 0) : okX x := okX_of h.1 (by
  have := fz_Ul (e := 0) h (by omega)
  exact Nat.le_trans (Nat.pow_le_pow_right (by decide) (by decide)) this)
theorem fF_mg {x : UInt32} {K : Nat} (h : x.toNat % 2 ^ 31 < K * 2 ^ 23) (hK : K ≤ 255) : fF x := FP.Core.fin_of_lt32 h hK
/-- a difference of what is alike, the first not negative, is +0 -/
theorem fsub_0 {x y : UInt32} (hx : fF x) (hy : fF y) (h : fz x = fz y) (h1 : x.toNat < 2 ^ 31) : FP.fsub x y = FP.fconst0 := by
  have hsx := FP.Core.sgn_bits32 hx.ne_nan
  obtain ⟨s, c, q, h1'⟩ := hx
  obtain ⟨t, d, r, h2⟩ := hy
  rw [h1'] at hsx
  have hs : s = false := hsx.trans (decide_eq_false (by omega))
  have hneg : FP.Core.negate (FP.Core.val32 y) = .fin (!t) d r := by rw [h2]; rfl
  obtain ⟨sg, n, e', h3, h4, h5⟩ := FP.Core.sum_units (f := FP.Core.b32) (s := s) (c := c) (q := q) (by rw [← h1']; exact FP.Core.val32_fits x) (by rw [← hneg]; exact FP.Core.negate_fits (FP.Core.val32_fits y))
  have h0 : FP.Core.signed sg (FP.Core.inUnits n e' FP.Core.b32.qmin) = 0 := by
    rw [h5, ← h1', ← hneg, FP.Core.zval_negate]
    show fz x + - fz y = 0
    omega
  rw [FP.Core.signed_eq_zero] at h0
  have hn : n = 0 := by
    unfold FP.Core.inUnits at h0
    rcases Nat.mul_eq_zero.mp h0 with h9 | h9
    · exact h9
    · exact absurd h9 (Nat.ne_of_gt (Nat.two_pow_pos _))
  have h6 : FP.Core.Datum.fin (FP.Core.sumSign s (!t) (FP.Core.sumUnits s c q (!t) d r (min q r))) (FP.Core.sumUnits s c q (!t) d r (min q r)).natAbs (min q r) = .fin sg n e' := h3
  injection h6 with e1 e2 e3
  have hv : FP.Core.sumUnits s c q (!t) d r (min q r) = 0 := by omega
  rw [hv, hs] at e1
  have hsg : sg = false := e1.symm
  have hval := FP.Core.val32_fsub x y
  rw [hneg, h1', h3, hn, hsg] at hval
  have : FP.Core.round FP.Core.b32 (.fin false 0 e') = FP.Core.val32 FP.fconst0 := FP.Core.val32_fconst0.symm
  rw [this] at hval
  exact FP.Core.val32_inj (by rw [hval]; exact fF_0.ne_nan) hval
/-- 0 by what is positive is 0 -/
theorem fdiv_0 {y : UInt32} (hy : fF y) (h : 0 < fz y) (h1 : y.toNat < 2 ^ 31) : FP.fdiv FP.fconst0 y = FP.fconst0 := by
  have hsy := FP.Core.sgn_bits32 hy.ne_nan
  obtain ⟨t, d, r, h2⟩ := hy
  rw [h2] at hsy
  have ht : t = false := hsy.trans (decide_eq_false (by omega))
  have hd : d ≠ 0 := by
    intro h0
    have e : fz y = FP.Core.signed t (FP.Core.inUnits d r FP.Core.b32.qmin) := by unfold fz; rw [h2]; rfl
    rw [h0] at e
    unfold FP.Core.inUnits at e
    rw [Nat.zero_mul] at e
    have : FP.Core.signed t 0 = 0 := by cases t <;> rfl
    omega
  have hval := FP.Core.val32_fdiv FP.fconst0 y
  have e0 : FP.Core.val32 FP.fconst0 = .fin false 0 FP.Core.b32.qmin := FP.Core.val32_fconst0
  rw [h2, e0, ht] at hval
  have e : FP.Core.quotient FP.Core.b32 (.fin false 0 FP.Core.b32.qmin) (.fin false d r) = FP.Core.val32 FP.fconst0 := by
    rw [e0]
    show (if d = 0 then (if (0 : Nat) = 0 then FP.Core.Datum.nan else .inf (false != false)) else FP.Core.roundRatio FP.Core.b32 (false != false) 0 d (FP.Core.b32.qmin - r)) = _
    rw [if_neg hd]
    rfl
  rw [e] at hval
  exact FP.Core.val32_inj (by rw [hval]; exact fF_0.ne_nan) hval
theorem pos_bits {x : UInt32} (h : fF x) (h0 : 0 < fz x) : x.toNat < 2 ^ 31 := by
  rw [fz_bits h.ne_nan] at h0
  by_cases hc : 2 ^ 31 ≤ x.toNat
  · rw [decide_eq_true hc] at h0
    unfold FP.Core.signed at h0
    rw [if_pos rfl] at h0
    omega
  · omega
theorem zmag_abs {x : UInt32} : (fz x).natAbs = FP.Core.zmag FP.Core.b32 (FP.Core.val32 x) := by unfold fz FP.Core.zval; rw [g_signed_nat]
/-- quotients, products: not less than a power of 2 -/
theorem fmul_lo {x y : UInt32} {a b e : Nat} (hx : fF x) (hy : fF y) (ha : 2 ^ a ≤ (fz x).natAbs) (hb : 2 ^ b ≤ (fz y).natAbs) (he : e + 149 = a + b) (he2 : e ≤ 250) : 2 ^ e ≤ (fz (FP.fmul x y)).natAbs := by
  rw [zmag_abs] at *
  obtain ⟨s, c, q, h1⟩ := hx
  obtain ⟨t, d, r, h2⟩ := hy
  obtain ⟨h3, h4, h5⟩ := FP.Core.product_units (f := FP.Core.b32) (s := s) (t := t) (c := c) (d := d) (q := q) (r := r) (by rw [← h1]; exact FP.Core.val32_fits x) (by rw [← h2]; exact FP.Core.val32_fits y)
  have hv := FP.Core.val32_fmul x y
  rw [h1, h2, h3] at hv
  show _ ≤ FP.Core.zmag FP.Core.b32 (FP.Core.val32 (FP.Core.fmul x y))
  rw [hv]
  obtain ⟨V, hV, ⟨c9, q9, hc⟩, hz⟩ := g_repr good32 false (k := 1) (by decide) (two_p e he2)
  have hzm : FP.Core.zmag FP.Core.b32 V = 2 ^ e := by
    have := congrArg Int.natAbs hz
    unfold FP.Core.zval at this
    rw [g_signed_nat, g_signed_nat, Nat.one_mul] at this
    exact this
  rw [← hzm]
  refine FP.Core.zmag_roundRatio_ge good32 (by decide) hV (e0 := 2 * FP.Core.b32.qmin) (by rw [FP.Core.qmin_b32]; decide) h4 ?_
  rw [h5, hzm, Nat.mul_one, show (FP.Core.b32.qmin - 2 * FP.Core.b32.qmin).toNat = 149 by rw [FP.Core.qmin_b32]; rfl, ← Nat.pow_add, he, Nat.pow_add, ← h1, ← h2]
  exact Nat.mul_le_mul ha hb
theorem fdiv_lo {x y : UInt32} {a b e : Nat} (hx : fF x) (hy : fF y) (h0 : fz y ≠ 0) (ha : 2 ^ a ≤ (fz x).natAbs) (hb : (fz y).natAbs ≤ 2 ^ b) (he : e + b = a + 149) (he2 : e ≤ 250) : 2 ^ e ≤ (fz (FP.fdiv x y)).natAbs := by
  have hy0 : (fz y).natAbs ≠ 0 := by omega
  rw [zmag_abs] at *
  obtain ⟨s, c, q, h1⟩ := hx
  obtain ⟨t, d, r, h2⟩ := hy
  have hfx : FP.Core.fits FP.Core.b32 (.fin s c q) := by rw [← h1]; exact FP.Core.val32_fits x
  have hfy : FP.Core.fits FP.Core.b32 (.fin t d r) := by rw [← h2]; exact FP.Core.val32_fits y
  have hqm : FP.Core.b32.qmin = -149 := FP.Core.qmin_b32
  have hq1 : (-149 : Int) ≤ q := by have := hfx.2.1; omega
  have hr1 : (-149 : Int) ≤ r := by have := hfy.2.1; omega
  rw [h1] at ha
  rw [h2] at hb hy0
  have ha : 2 ^ a ≤ c * 2 ^ (q + 149).toNat := by
    have : FP.Core.zmag FP.Core.b32 (.fin s c q) = c * 2 ^ (q - FP.Core.b32.qmin).toNat := rfl
    rw [this, hqm] at ha
    rwa [show q - -149 = q + 149 by omega] at ha
  have hb : d * 2 ^ (r + 149).toNat ≤ 2 ^ b := by
    have : FP.Core.zmag FP.Core.b32 (.fin t d r) = d * 2 ^ (r - FP.Core.b32.qmin).toNat := rfl
    rw [this, hqm] at hb
    rwa [show r - -149 = r + 149 by omega] at hb
  have hd : d ≠ 0 := by
    intro h9
    rw [h9] at hy0
    exact hy0 (Nat.zero_mul _)
  have hv := FP.Core.val32_fdiv x y
  rw [h1, h2] at hv
  have hv2 : FP.Core.quotient FP.Core.b32 (.fin s c q) (.fin t d r) = FP.Core.roundRatio FP.Core.b32 (s != t) c d (q - r) := by
    show (if d = 0 then (if c = 0 then FP.Core.Datum.nan else .inf (s != t)) else FP.Core.roundRatio FP.Core.b32 (s != t) c d (q - r)) = _
    rw [if_neg hd]
  rw [hv2] at hv
  show _ ≤ FP.Core.zmag FP.Core.b32 (FP.Core.val32 (FP.Core.fdiv x y))
  rw [hv]
  obtain ⟨V, hV, ⟨c9, q9, hc⟩, hz⟩ := g_repr good32 false (k := 1) (by decide) (two_p e he2)
  have hzm : FP.Core.zmag FP.Core.b32 V = 2 ^ e := by
    have := congrArg Int.natAbs hz
    unfold FP.Core.zval at this
    rw [g_signed_nat, g_signed_nat, Nat.one_mul] at this
    exact this
  rw [← hzm]
  have hr2 : r ≤ 104 := by have := hfy.2.2.1; rw [show FP.Core.b32.qmax = 104 by decide] at this; exact this
  refine FP.Core.zmag_roundRatio_ge good32 (Nat.pos_of_ne_zero hd) hV (e0 := -400) (by rw [hqm]; decide) (by omega) ?_
  rw [hzm, hqm]
  unfold FP.Core.inUnits
  refine Nat.le_of_mul_le_mul_right (c := 2 ^ (r + 149).toNat) ?_ (Nat.two_pow_pos _)
  have e1 : c * 2 ^ (q - r - -400).toNat * 2 ^ (r + 149).toNat = c * 2 ^ (q + 149).toNat * 2 ^ 400 := by
    rw [Nat.mul_assoc, Nat.mul_assoc, ← Nat.pow_add, ← Nat.pow_add, show (q - r - -400).toNat + (r + 149).toNat = (q + 149).toNat + 400 by omega]
  rw [e1]
  have e2 : 2 ^ e * 2 ^ ((-149 : Int) - -400).toNat * d * 2 ^ (r + 149).toNat = 2 ^ e * 2 ^ 251 * (d * 2 ^ (r + 149).toNat) := by
    rw [show ((-149 : Int) - -400).toNat = 251 by decide, Nat.mul_assoc (2 ^ e * 2 ^ 251)]
  rw [e2]
  refine Nat.le_trans (Nat.mul_le_mul_left _ hb) (Nat.le_trans ?_ (Nat.mul_le_mul_right _ ha))
  rw [← Nat.pow_add, ← Nat.pow_add, ← Nat.pow_add, show e + 251 + b = a + 400 by omega]
  exact Nat.le_refl _
