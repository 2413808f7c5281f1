/-! a stretch: lengths are no less than rods, places follow, the last comes to the width where none is held -/
def isum (m : Nat → Int) : Nat → Int
  | 0 => 0
  | k + 1 => isum m k + m k
theorem isum_b {m : Nat → Int} {lo hi : Int} : ∀ k : Nat, (∀ j, j < k → lo ≤ m j ∧ m j ≤ hi) → lo * (k : Int) ≤ isum m k ∧ isum m k ≤ hi * (k : Int) := by
  intro k
  induction k with
  | zero => intro _; unfold isum; simp
  | succ k ih =>
    intro h
    have h1 := ih (fun j hj => h j (by omega))
    have h2 := h k (by omega)
    unfold isum
    rw [Int.natCast_succ, Int.mul_add, Int.mul_add, Int.mul_one, Int.mul_one]
    omega
theorem bsum_ex {f : Nat → UInt32} {m : Nat → Int} {hi : Int} (hB : hi ≤ 2000) (h0 : 0 ≤ hi) : ∀ {k : Nat}, k ≤ 64 → (∀ j, j < k → fU (f j) (m j) ∧ 0 ≤ m j ∧ m j ≤ hi) → fU (bsum (fun _ => false) false f k) (isum m k) := by
  intro k
  induction k with
  | zero => intro _ _; exact fU_0
  | succ k ih =>
    intro hk h
    have a1 := ih (by omega) (fun j hj => h j (by omega))
    obtain ⟨b1, b2, b3⟩ := h k (by omega)
    have c := isum_b (m := m) (lo := 0) (hi := hi) k (fun j hj => (h j (by omega)).2)
    unfold bsum isum
    rw [if_pos rfl]
    refine fU_add a1 b1 ?_
    have d : hi * (k : Int) ≤ 2000 * 64 := Int.mul_le_mul hB (by omega) (Int.natCast_nonneg _) (by decide)
    rw [Int.zero_mul] at c
    omega
theorem bsum_no {f : Nat → UInt32} : ∀ k : Nat, bsum (fun _ => false) true f k = FP.fconst0 := by
  intro k
  induction k with
  | zero => rfl
  | succ k ih =>
    unfold bsum
    rw [if_neg (by decide)]
    exact ih
theorem cntH_zero {h : Nat → Bool} : ∀ {k : Nat}, cntH h k = 0 → ∀ j, j < k → h j = false := by
  intro k
  induction k with
  | zero => intro _ j hj; omega
  | succ k ih =>
    intro hc j hj
    unfold cntH at hc
    by_cases e : h k = true
    · rw [if_pos e] at hc; omega
    · rw [if_neg e] at hc
      by_cases e2 : j = k
      · subst e2; exact Bool.eq_false_iff.mpr e
      · exact ih hc j (by omega)
section STR
variable {g : Nat → Int32} {w : Int32} {a n N : Nat}
/-- what is laid out changes no more -/
theorem set_fix (hn : n ≤ 32) : (∀ j, j < n → nwV (fun j => idG g (a + j)) (fun j => flG g (a + j)) (fun j => roG g (a + j)) (setV g w a n).2 (setV g w a n).1 j = false) ∧
    (setV g w a n).2 = balF (FP.i2f w) (fun j => idG g (a + j)) (fun j => flG g (a + j)) (fun j => roG g (a + j)) (setV g w a n).1 n := by
  have h := rnV_fix (W := FP.i2f w) (ids := fun j => idG g (a + j)) (fls := fun j => flG g (a + j)) (rods := fun j => roG g (a + j)) (n := n) 32 (fun _ => false) (by rw [cntH_none]; omega)
  exact ⟨anyB_false h.1, h.2⟩
theorem len_ge (hg : okG g N) (hw : okWd w) (hn : n ≤ 32) (han : a + n ≤ N) {j : Nat} (hj : j < n) : fz (roG g (a + j)) ≤ fz (lenV g w a n j) := by
  have hL := (lenV_ok hg hw hn han hj).1
  have hx := (set_fix (g := g) (w := w) (a := a) hn).1 j hj
  unfold nwV at hx
  unfold lenV at hL ⊢
  by_cases h : (setV g w a n).1 j = true
  · rw [if_pos h]; exact Int.le_refl _
  · rw [if_neg h] at hL ⊢
    rw [Bool.eq_false_iff.mpr h] at hx
    obtain ⟨m, hm, _⟩ := ro_fu (hg (a + j) (by omega))
    refine Int.not_lt.mp fun q => ?_
    have := (flt_iff hL hm.1).mpr q
    rw [this] at hx
    exact absurd hx (by decide)
theorem c99 : fF 1065185444 ∧ 0 ≤ fz 1065185444 ∧ fz 1065185444 ≤ ((2 ^ 149 : Nat) : Int) := ⟨(fF_bits _).mpr (by decide), by decide +kernel, by decide +kernel⟩
theorem rod_99 (hg : okG g N) {c : Nat} (hc : c < N) : fF (FP.fmul (roG g c) 1065185444) ∧ 0 ≤ fz (FP.fmul (roG g c) 1065185444) ∧ fz (FP.fmul (roG g c) 1065185444) ≤ fz (roG g c) := by
  obtain ⟨m, hm, h1, h2⟩ := ro_fu (hg c hc)
  have hp : 0 ≤ fz (roG g c) := by rw [hm.2]; exact Int.mul_nonneg (by omega) (Int.le_of_lt U6_pos)
  have u1 : fz (FP.fmul (roG g c) 1065185444) ≤ fz (roG g c) := fmul_le hm.1 c99.1 (FP.Core.val32_fits (roG g c)) hm.1.ne_nan (Int.mul_le_mul_of_nonneg_left c99.2.2 hp)
  have u2 : 0 ≤ fz (FP.fmul (roG g c) 1065185444) := by
    obtain ⟨V, v1, v2, v3⟩ := rp (m := 0) (e := 0) (by decide) (by decide)
    have := fmul_ge hm.1 c99.1 v1 v2 (by rw [v3, Int.zero_mul, Int.zero_mul]; exact Int.mul_nonneg hp c99.2.1)
    rw [v3, Int.zero_mul] at this
    exact this
  refine ⟨fF_of (fmul_nn hm.1 c99.1) ?_, u2, u1⟩
  have := fz_U (e := 10) hm (by omega)
  have : 2 ^ (10 + 143) < 2 ^ 277 := by decide
  omega
theorem at_nx (k : Nat) : atV g w a n (k + 1) = FP.fadd (atV g w a n k) (lenV g w a n k) := rfl
theorem at_far (hg : okG g N) (hw : okWd w) (hn : n ≤ 32) (han : a + n ≤ N) {j : Nat} (hj : j < n) : fF (FP.fadd (atV g w a n j) (FP.fmul (roG g (a + j)) 1065185444)) ∧ fz (FP.fadd (atV g w a n j) (FP.fmul (roG g (a + j)) 1065185444)) ≤ fz (atV g w a n (j + 1)) := by
  obtain ⟨a1, a2, a3, _⟩ := atV_ok hg hw hn han j (by omega)
  obtain ⟨b1, _⟩ := atV_ok hg hw hn han (j + 1) (by omega)
  obtain ⟨c1, c2, _⟩ := lenV_ok hg hw hn han hj
  obtain ⟨d1, d2, d3⟩ := rod_99 hg (c := a + j) (by omega)
  obtain ⟨m, hm, m1, m2⟩ := ro_fu (hg (a + j) (by omega))
  have hl := len_ge hg hw hn han hj
  have hf : fF (FP.fadd (atV g w a n j) (FP.fmul (roG g (a + j)) 1065185444)) := by
    refine (fadd_err (e := 170) a1 d1 (by decide) ?_).1
    have u := fz_U (e := 10) hm (by omega)
    have u2 : (2 : Nat) ^ (10 + 143) ≤ 2 ^ 170 := by decide
    have u3 : j * 2 ^ 170 ≤ 32 * 2 ^ 170 := Nat.mul_le_mul_right _ (by omega)
    have u4 : 32 * 2 ^ 170 + 2 ^ 170 ≤ 2 ^ 23 * 2 ^ 170 := by decide
    generalize (2 : Nat) ^ 170 = Q at *
    generalize j * Q = jQ at *
    omega
  refine ⟨hf, ?_⟩
  rw [at_nx] at b1 ⊢
  exact fadd_mono a1 d1 c1 a2 d2 (Int.le_trans d3 hl) hf b1
end STR
