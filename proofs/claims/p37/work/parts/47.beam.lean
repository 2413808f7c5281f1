/-! the beam: its slope in quarters, the nearest note 5 from it -/
theorem bd_of {r : UInt32} {K : Nat} (hn : FP.Core.val32 r ≠ .nan) (hK : K ≤ 250) (h : (fz r).natAbs ≤ 2 ^ K) : fF r := by
  refine fF_of hn ?_
  have : 2 ^ K ≤ 2 ^ 250 := Nat.pow_le_pow_right (by decide) hK
  have : 2 ^ 250 < 2 ^ 277 := by decide
  omega
theorem bd_add {x y : UInt32} {K : Nat} (hx : fF x) (hy : fF y) (hK : K ≤ 250) (h : (fz x + fz y).natAbs ≤ 2 ^ K) : fF (FP.fadd x y) ∧ (fz (FP.fadd x y)).natAbs ≤ 2 ^ K := by
  obtain ⟨V, v1, v2, v3⟩ := rp (m := 1) (e := K) (by decide) hK
  obtain ⟨W, w1, w2, w3⟩ := rp (m := -1) (e := K) (by decide) hK
  have l1 := fadd_le hx hy v1 v2 (by rw [v3]; omega)
  have l2 := fadd_ge hx hy w1 w2 (by rw [w3]; omega)
  rw [v3] at l1
  rw [w3] at l2
  have key : (fz (FP.fadd x y)).natAbs ≤ 2 ^ K := by omega
  exact ⟨bd_of (fadd_nn hx hy) hK key, key⟩
theorem bd_sub {x y : UInt32} {K : Nat} (hx : fF x) (hy : fF y) (hK : K ≤ 250) (h : (fz x - fz y).natAbs ≤ 2 ^ K) : fF (FP.fsub x y) ∧ (fz (FP.fsub x y)).natAbs ≤ 2 ^ K := by
  obtain ⟨z, z1, z2, z3⟩ := fsub_val (x := x) hy
  rw [z3]
  exact bd_add hx z1 hK (by rw [z2]; exact h)
theorem bd_mul {x y : UInt32} {K : Nat} (hx : fF x) (hy : fF y) (hK : K ≤ 250) (h : (fz x * fz y).natAbs ≤ 2 ^ (K + 149)) : fF (FP.fmul x y) ∧ (fz (FP.fmul x y)).natAbs ≤ 2 ^ K := by
  obtain ⟨V, v1, v2, v3⟩ := rp (m := 1) (e := K) (by decide) hK
  obtain ⟨W, w1, w2, w3⟩ := rp (m := -1) (e := K) (by decide) hK
  have hc := pw_cast K 149
  have e1 : (1 : Int) * ((2 ^ K : Nat) : Int) * ((2 ^ 149 : Nat) : Int) = ((2 ^ (K + 149) : Nat) : Int) := by rw [Int.one_mul, ← hc]
  have e2 : (-1 : Int) * ((2 ^ K : Nat) : Int) * ((2 ^ 149 : Nat) : Int) = -((2 ^ (K + 149) : Nat) : Int) := by rw [Int.neg_one_mul, Int.neg_mul, ← hc]
  have l1 := fmul_le hx hy v1 v2 (by rw [v3, e1]; omega)
  have l2 := fmul_ge hx hy w1 w2 (by rw [w3, e2]; omega)
  rw [v3] at l1
  rw [w3] at l2
  have key : (fz (FP.fmul x y)).natAbs ≤ 2 ^ K := by omega
  exact ⟨bd_of (fmul_nn hx hy) hK key, key⟩
theorem mul_0 {x y : UInt32} (hx : fF x) (hy : fF y) (h : fz x * fz y = 0) : fF (FP.fmul x y) ∧ fz (FP.fmul x y) = 0 := by
  obtain ⟨V, v1, v2, v3⟩ := rp (m := 0) (e := 0) (by decide) (by decide)
  have l1 := fmul_le hx hy v1 v2 (by rw [v3, Int.zero_mul, Int.zero_mul, h]; exact Int.le_refl _)
  have l2 := fmul_ge hx hy v1 v2 (by rw [v3, Int.zero_mul, Int.zero_mul, h]; exact Int.le_refl _)
  rw [v3, Int.zero_mul] at l1 l2
  have key : fz (FP.fmul x y) = 0 := by omega
  exact ⟨bd_of (K := 0) (fmul_nn hx hy) (by decide) (by rw [key]; decide), key⟩
/-! a length is less than 405 -/
theorem bsum_exh {h : Nat → Bool} {b : Bool} {f : Nat → UInt32} {m : Nat → Int} {hi : Int} (hB : hi ≤ 2000) (h0 : 0 ≤ hi) : ∀ {k : Nat}, k ≤ 64 → (∀ j, j < k → fU (f j) (m j) ∧ 0 ≤ m j ∧ m j ≤ hi) → fU (bsum h b f k) (isum (fun j => if h j = b then m j else 0) k) := by
  intro k
  induction k with
  | zero => intro _ _; exact fU_0
  | succ k ih =>
    intro hk hj
    have a1 := ih (by omega) (fun j q => hj j (by omega))
    obtain ⟨b1, b2, b3⟩ := hj k (by omega)
    have c := isum_b (m := fun j => if h j = b then m j else 0) (lo := 0) (hi := hi) k (fun j q => by
      have := (hj j (by omega)).2
      split <;> omega)
    have e : isum (fun j => if h j = b then m j else 0) (k + 1) = isum (fun j => if h j = b then m j else 0) k + (if h k = b then m k else 0) := rfl
    rw [e]
    unfold bsum
    by_cases hh : h k = b
    · rw [if_pos hh, if_pos hh]
      refine fU_add a1 b1 ?_
      have d : hi * (k : Int) ≤ 2000 * 64 := Int.mul_le_mul hB (by omega) (Int.natCast_nonneg _) (by decide)
      rw [Int.zero_mul] at c
      omega
    · rw [if_neg hh, if_neg hh, Int.add_zero]
      exact a1
theorem lu {u : Nat} (hu : u = 2 ^ 137) : (2 : Nat) ^ 139 = 4 * u ∧ ((2 ^ 143 : Nat) : Int) = 64 * (u : Int) ∧ ((2 ^ 149 : Nat) : Int) = 4096 * (u : Int) ∧ (2 : Nat) ^ 166 = 536870912 * u ∧ (U6 : Int) = 64 * (u : Int) := by
  subst hu
  unfold U6
  decide +kernel
theorem len_arith {P F m D u M J : Int} (hu : 0 < u) (hm : 0 ≤ m) (hmF : m ≤ F) (hD : D ≤ 24320) (hF : F ≤ 24320) (h1 : P * F - D * (4096 * u) ≤ 4 * u * F) (h2 : 64 * M - P * m ≤ 64 * u) (hJ : J ≤ 1536) : J * (64 * u) + M ≤ 405 * (4096 * u) := by
  have hb : P * m ≤ 24320 * (4096 * u) + 4 * u * 24320 := by
    have g1 : 4 * u * F ≤ 4 * u * 24320 := Int.mul_le_mul_of_nonneg_left hF (by omega)
    have g2 : D * (4096 * u) ≤ 24320 * (4096 * u) := Int.mul_le_mul_of_nonneg_right hD (by omega)
    rcases Int.le_total P 0 with hp | hp
    · have : P * m ≤ 0 := Int.mul_nonpos_of_nonpos_of_nonneg hp hm
      omega
    · have : P * m ≤ P * F := Int.mul_le_mul_of_nonneg_left hmF hp
      omega
  have g3 : J * (64 * u) ≤ 1536 * (64 * u) := Int.mul_le_mul_of_nonneg_right hJ (by omega)
  generalize P * m = Pm at *
  generalize J * (64 * u) = Ju at *
  omega
section LEN
variable {g : Nat → Int32} {w : Int32} {a n N : Nat}
theorem len_405 (hg : okG g N) (hw : okWd w) (hn : n ≤ 20) (han : a + n ≤ N) {j : Nat} (hj : j < n) : fz (lenV g w a n j) ≤ ((405 * 2 ^ 149 : Nat) : Int) := by
  obtain ⟨u, hu⟩ : ∃ u : Nat, u = 2 ^ 137 := ⟨_, rfl⟩
  obtain ⟨u1, u2, u3, u4, u5⟩ := lu hu
  have hup : 0 < u := by rw [hu]; exact Nat.two_pow_pos _
  have e405 : ((405 * 2 ^ 149 : Nat) : Int) = 405 * (4096 * (u : Int)) := by rw [Int.natCast_mul, u3]; rfl
  rw [e405]
  by_cases hh : (setV g w a n).1 j = true
  · unfold lenV
    rw [if_pos hh]
    obtain ⟨m, m1, m2, m3⟩ := ro_fu (hg (a + j) (by omega))
    rw [m1.2, u5]
    have : m * (64 * (u : Int)) ≤ 832 * (64 * (u : Int)) := Int.mul_le_mul_of_nonneg_right m3 (by omega)
    omega
  have hhf := Bool.eq_false_iff.mpr hh
  obtain ⟨mw, w1, w2, w3⟩ := wd_fu hw
  have hid : ∀ i, ∃ m : Int, i < n → fU (idG g (a + i)) m ∧ 0 ≤ m ∧ m ≤ 1536 := fun i => by
    by_cases hi : i < n
    · obtain ⟨⟨m, m1, m2, m3⟩, _⟩ := id_fu (hg (a + i) (by omega))
      exact ⟨m, fun _ => ⟨m1, by omega, m3⟩⟩
    · exact ⟨0, fun q => absurd q hi⟩
  have hfl : ∀ i, ∃ m : Int, i < n → fU (flG g (a + i)) m ∧ 16 ≤ m ∧ m ≤ 768 := fun i => by
    by_cases hi : i < n
    · obtain ⟨_, ⟨m, m1, m2, m3⟩⟩ := id_fu (hg (a + i) (by omega))
      exact ⟨m, fun _ => ⟨m1, m2, m3⟩⟩
    · exact ⟨0, fun q => absurd q hi⟩
  have hro : ∀ i, ∃ m : Int, i < n → fU (roG g (a + i)) m ∧ 0 ≤ m ∧ m ≤ 832 := fun i => by
    by_cases hi : i < n
    · obtain ⟨m, m1, m2, m3⟩ := ro_fu (hg (a + i) (by omega))
      exact ⟨m, fun _ => ⟨m1, by omega, m3⟩⟩
    · exact ⟨0, fun q => absurd q hi⟩
  obtain ⟨mi, hmi⟩ := Classical.axiomOfChoice hid
  obtain ⟨mf, hmf⟩ := Classical.axiomOfChoice hfl
  obtain ⟨mr, hmr⟩ := Classical.axiomOfChoice hro
  have hfix := (set_fix (g := g) (w := w) (a := a) (n := n) (by omega)).2
  generalize hH : (setV g w a n).1 = h at hfix hhf
  have SR := bsum_exh (h := h) (b := true) (f := fun i => roG g (a + i)) (m := mr) (hi := 832) (by decide) (by decide) (k := n) (by omega) (fun i hi => hmr i hi)
  have SI := bsum_exh (h := h) (b := false) (f := fun i => idG g (a + i)) (m := mi) (hi := 1536) (by decide) (by decide) (k := n) (by omega) (fun i hi => hmi i hi)
  have SF := bsum_exh (h := h) (b := false) (f := fun i => flG g (a + i)) (m := mf) (hi := 768) (by decide) (by decide) (k := n) (by omega) (fun i hi => ⟨(hmf i hi).1, by have := (hmf i hi).2.1; omega, (hmf i hi).2.2⟩)
  have bR := isum_b (m := fun i => if h i = true then mr i else 0) (lo := 0) (hi := 832) n (fun i hi => by have := (hmr i hi).2; split <;> omega)
  have bI := isum_b (m := fun i => if h i = false then mi i else 0) (lo := 0) (hi := 1536) n (fun i hi => by have := (hmi i hi).2; split <;> omega)
  have bF := isum_b (m := fun i => if h i = false then mf i else 0) (lo := 0) (hi := 768) n (fun i hi => by have := (hmf i hi).2; split <;> omega)
  have oF := isum_one (f := fun i => if h i = false then mf i else 0) (k := n) (fun i hi => by have := (hmf i hi).2; split <;> omega) hj
  have oF : mf j ≤ isum (fun i => if h i = false then mf i else 0) n := by
    rw [if_pos hhf] at oF
    exact oF
  generalize isum (fun i => if h i = true then mr i else 0) n = RR at SR bR
  generalize isum (fun i => if h i = false then mi i else 0) n = I at SI bI
  generalize isum (fun i => if h i = false then mf i else 0) n = F at SF bF oF
  obtain ⟨j1, j2, j3⟩ := hmf j hj
  obtain ⟨i1, i2, i3⟩ := hmi j hj
  unfold balF at hfix
  have hFp : 0 < fz (bsum h false (fun i => flG g (a + i)) n) := by rw [SF.2]; exact Int.mul_pos (by omega) U6_pos
  rw [if_pos ((fgt_iff SF.1 fF_0).mpr (by rw [fz_0]; exact hFp))] at hfix
  have hN1 := fU_sub w1 SR (by omega)
  have hN2 := fU_sub hN1 SI (by omega)
  obtain ⟨x1, x2⟩ := pull_err (B := 13) hN2 SF (by omega) (by decide) (by omega)
  rw [← hfix] at x1 x2
  have hL : lenV g w a n j = FP.fadd (idG g (a + j)) (FP.fmul (setV g w a n).2 (flG g (a + j))) := by unfold lenV; rw [if_neg hh]
  rw [hL]
  generalize (setV g w a n).2 = x at x1 x2
  rw [show (2 : Nat) ^ (13 + 126) = 4 * u from u1, u3] at x2
  have hPF : (fz x * F).natAbs ≤ 536870912 * u := by
    have hF3 : 4 * u * F.natAbs ≤ 4 * u * 15360 := Nat.mul_le_mul_left _ (by omega)
    have hD3 : ((mw - RR - I) * (4096 * (u : Int))).natAbs ≤ 71680 * (4096 * u) := by
      rw [Int.natAbs_mul]
      exact Nat.mul_le_mul (by omega) (by omega)
    generalize fz x * F = PF at x2
    generalize (mw - RR - I) * (4096 * (u : Int)) = DU at x2 hD3
    generalize 4 * u * F.natAbs = E at x2 hF3
    omega
  have hPm : (fz x * mf j).natAbs ≤ 2 ^ (137 + 29) := by
    have h3 : (fz x * mf j).natAbs ≤ (fz x * F).natAbs := by
      rw [Int.natAbs_mul, Int.natAbs_mul]
      exact Nat.mul_le_mul_left _ (by omega)
    have h4 : (2 : Nat) ^ (137 + 29) = 536870912 * u := u4
    omega
  obtain ⟨k1, k2, k3⟩ := fmul_U (k := 137) x1 j1 (by decide) hPm
  rw [show ((2 ^ (137 + 6) : Nat) : Int) = 64 * (u : Int) from u2] at k2
  have hx3 : fz x * F - (mw - RR - I) * (4096 * (u : Int)) ≤ 4 * (u : Int) * F := by
    have e9 : ((4 * u * F.natAbs : Nat) : Int) = 4 * (u : Int) * F := by
      rw [Int.natCast_mul, Int.natCast_mul]
      rw [show ((F.natAbs : Nat) : Int) = F by omega]
      rfl
    rw [← e9]
    generalize fz x * F - (mw - RR - I) * (4096 * (u : Int)) = Z at x2
    omega
  have key := len_arith (J := mi j) (by omega) (by omega) oF (by omega) (by omega) hx3 k2 i3
  obtain ⟨V, v1, v2, v3⟩ := rp (m := 405) (e := 149) (by decide) (by decide)
  have := fadd_le i1.1 k1 v1 v2 (by rw [v3, u3, i1.2, u5]; exact key)
  rw [v3, u3] at this
  exact this
theorem at_405 (hg : okG g N) (hw : okWd w) (hn : n ≤ 20) (han : a + n ≤ N) : ∀ k, k ≤ n → fz (atV g w a n k) ≤ ((405 * k * 2 ^ 149 : Nat) : Int) := by
  intro k
  induction k with
  | zero =>
    intro _
    have e : fz (atV g w a n 0) = 0 := fz_0
    rw [e]
    exact Int.natCast_nonneg _
  | succ k ih =>
    intro hk
    have i1 := ih (by omega)
    have c1 := (atV_ok hg hw (show n ≤ 32 by omega) han k (by omega)).1
    have d1 := (lenV_ok hg hw (show n ≤ 32 by omega) han (show k < n by omega)).1
    have l := len_405 hg hw hn han (show k < n by omega)
    obtain ⟨V, v1, v2, v3⟩ := rp (m := ((405 * (k + 1) : Nat) : Int)) (e := 149) (by omega) (by decide)
    have e5 : 405 * (k + 1) * 2 ^ 149 = 405 * k * 2 ^ 149 + 405 * 2 ^ 149 := by rw [Nat.mul_add, Nat.mul_one, Nat.add_mul]
    have := fadd_le c1 d1 v1 v2 (by
      rw [v3, ← Int.natCast_mul, e5, Int.natCast_add]
      exact Int.add_le_add i1 l)
    rw [v3, ← Int.natCast_mul] at this
    exact this
end LEN
/-! slopes -/
theorem slo5_all : ∀ k, k < 200 → (clpV (FP.fdiv (FP.i2f (nI k - 100)) 1082130432) = 0 ∨ clpV (FP.fdiv (FP.i2f (nI k - 100)) 1082130432) = 1048576000 ∨ clpV (FP.fdiv (FP.i2f (nI k - 100)) 1082130432) = 1056964608 ∨ clpV (FP.fdiv (FP.i2f (nI k - 100)) 1082130432) = 3196059648 ∨ clpV (FP.fdiv (FP.i2f (nI k - 100)) 1082130432) = 3204448256) := by decide +kernel
def isSlo (s : UInt32) : Prop := s = 0 ∨ s = 1048576000 ∨ s = 1056964608 ∨ s = 3196059648 ∨ s = 3204448256
theorem slo_of {v : Int32} (h1 : -100 ≤ v.toInt) (h2 : v.toInt < 100) : isSlo (clpV (FP.fdiv (FP.i2f v) 1082130432)) := by
  have h := slo5_all (v.toInt + 100).toNat (by omega)
  have e : nI (v.toInt + 100).toNat - 100 = v := by
    apply Int32.toInt_inj.mp
    rw [Int32.toInt_sub, nI_toInt (by omega), show (100 : Int32).toInt = 100 by decide, Int.bmod_eq_of_le (by omega) (by omega)]
    omega
  rw [e] at h
  exact h
theorem who_b {q : UInt32} (hq : fF q) (h : (fz q).natAbs ≤ 2 ^ 155) : -100 ≤ (whoV q).toInt ∧ (whoV q).toInt < 100 := by
  have h1 := f2i_tdiv hq
  have e : (fz q).tdiv ((2 ^ 149 : Nat) : Int) ≤ 64 ∧ -64 ≤ (fz q).tdiv ((2 ^ 149 : Nat) : Int) := by
    have ha : ((fz q).tdiv ((2 ^ 149 : Nat) : Int)).natAbs ≤ 64 := by
      rw [Int.natAbs_tdiv]
      show (fz q).natAbs / 2 ^ 149 ≤ 64
      exact Nat.le_trans (Nat.div_le_div_right h) (by decide)
    omega
  have h2 : -64 ≤ (FP.f2i q).toInt ∧ (FP.f2i q).toInt ≤ 64 := by
    rw [h1]
    generalize (fz q).tdiv ((2 ^ 149 : Nat) : Int) = z at e
    omega
  unfold whoV
  split
  · rw [Int32.toInt_add, show (-1 : Int32).toInt = -1 by decide, Int.bmod_eq_of_le (by omega) (by omega)]
    omega
  · omega
theorem half_v : ∀ k, k < 65 → fF (FP.fmul (FP.i2f (nI k - 32)) 1056964608) ∧ (fz (FP.fmul (FP.i2f (nI k - 32)) 1056964608)).natAbs ≤ 2 ^ 153 := fun k hk => by
  have h : ∀ k, k < 65 → ((FP.fmul (FP.i2f (nI k - 32)) 1056964608).toNat % 2 ^ 31 < 2139095040 ∧ (fz (FP.fmul (FP.i2f (nI k - 32)) 1056964608)).natAbs ≤ 2 ^ 153) := by decide +kernel
  exact ⟨(fF_bits _).mpr (h k hk).1, (h k hk).2⟩
theorem rise_b {c : Int32} {p : UInt32} (h1 : -32 ≤ c.toInt) (h2 : c.toInt ≤ 32) (hp : fF p) (hp2 : ((2 ^ 150 : Nat) : Int) ≤ fz p) : fF (riseC c p) ∧ (fz (riseC c p)).natAbs ≤ 2 ^ 152 := by
  have h := half_v (c.toInt + 32).toNat (by omega)
  have e : nI (c.toInt + 32).toNat - 32 = c := by
    apply Int32.toInt_inj.mp
    rw [Int32.toInt_sub, nI_toInt (by omega), show (32 : Int32).toInt = 32 by decide, Int.bmod_eq_of_le (by omega) (by omega)]
    omega
  rw [e] at h
  have hpos : (0 : Int) < ((2 ^ 150 : Nat) : Int) := by decide
  have h0 : 0 < fz p := by omega
  unfold riseC
  rw [if_pos ((fgt_iff hp fF_0).mpr (by rw [fz_0]; exact h0))]
  obtain ⟨a1, -, -, a4⟩ := fdiv_mag h.1 hp h0
  obtain ⟨V, v1, v2, v3⟩ := rpN (k := 1) (e := 152) (by decide) (by decide)
  have k1 := (a4 V v1 v2).1 (by
    rw [v3, Nat.one_mul]
    have g1 : (fz (FP.fmul (FP.i2f c) 1056964608)).natAbs * 2 ^ 149 ≤ 2 ^ 153 * 2 ^ 149 := Nat.mul_le_mul_right _ h.2
    have g2 : 2 ^ 152 * 2 ^ 150 ≤ 2 ^ 152 * (fz p).natAbs := Nat.mul_le_mul_left _ (by omega)
    have g3 : (2 : Nat) ^ 153 * 2 ^ 149 = 2 ^ 152 * 2 ^ 150 := by decide +kernel
    exact Nat.le_trans g1 (Nat.le_trans (Nat.le_of_eq g3) g2))
  rw [v3, Nat.one_mul] at k1
  exact ⟨bd_of a1 (by decide) k1, k1⟩
theorem c4z : fF 1082130432 ∧ (fz 1082130432).natAbs = 2 ^ 151 := ⟨c_4.1, c_4.2.2.2⟩
theorem slo_is {r : UInt32} (hr : fF r) (h : (fz r).natAbs ≤ 2 ^ 152) : isSlo (sloC r) := by
  have m := bd_mul (K := 154) hr c4z.1 (by decide) (by
    rw [Int.natAbs_mul, c4z.2]
    exact Nat.le_trans (Nat.mul_le_mul_right _ h) (by decide +kernel))
  have q := bd_add (K := 155) m.1 c_half.1 (by decide) (by
    have e1 := c_half.2.2.2
    have e2 : (2 : Nat) ^ 155 = 2 * 2 ^ 154 := by decide +kernel
    have e3 : (2 : Nat) ^ 148 ≤ 2 ^ 154 := by decide +kernel
    have m2 := m.2
    rw [e1, e2]
    generalize (2 : Nat) ^ 154 = A at *
    generalize (2 : Nat) ^ 148 = B at *
    omega)
  have w := who_b q.1 q.2
  exact slo_of w.1 w.2
theorem slo_c : ∀ s : UInt32, isSlo s → fF s ∧ (fz s).natAbs ≤ 2 ^ 148 ∧ ¬ Op.cmpValue (FP.fcmp s 3204448256) .g < 0 ∧ ¬ 0 < Op.cmpValue (FP.fcmp s 1056964608) .l ∧ vf_n32 (FP.fmul s 1082130432) ∧ Op.cmpValue (FP.fcmp (FP.fmul s 1082130432) (FP.i2f (FP.f2i (FP.fmul s 1082130432)))) .l = 0 := by
  intro s h
  rcases h with rfl | rfl | rfl | rfl | rfl
  · exact ⟨(fF_bits _).mpr (by decide), by decide +kernel, by decide +kernel, by decide +kernel, fF_nn ((fF_bits _).mpr (by decide +kernel)), by decide +kernel⟩
  · exact ⟨(fF_bits _).mpr (by decide), by decide +kernel, by decide +kernel, by decide +kernel, fF_nn ((fF_bits _).mpr (by decide +kernel)), by decide +kernel⟩
  · exact ⟨(fF_bits _).mpr (by decide), by decide +kernel, by decide +kernel, by decide +kernel, fF_nn ((fF_bits _).mpr (by decide +kernel)), by decide +kernel⟩
  · exact ⟨(fF_bits _).mpr (by decide), by decide +kernel, by decide +kernel, by decide +kernel, fF_nn ((fF_bits _).mpr (by decide +kernel)), by decide +kernel⟩
  · exact ⟨(fF_bits _).mpr (by decide), by decide +kernel, by decide +kernel, by decide +kernel, fF_nn ((fF_bits _).mpr (by decide +kernel)), by decide +kernel⟩
/-! the notes' distances from the beam -/
def sgU (up : Bool) : UInt32 := if up = true then FP.fconst1 else 3212836864
def byA (up : Bool) (slo pk pe : UInt32) : UInt32 := FP.fmul (FP.fmul (FP.fmul (sgU up) slo) (FP.fsub pk pe)) FP.fconst2
def byC (up : Bool) (slo lif pk pe : UInt32) (s : Int32) : UInt32 := FP.fsub (FP.fadd lif (byA up slo pk pe)) (FP.fmul (sgU up) (FP.i2f s))
def sgI (up : Bool) (z : Int) : Int := if up = true then z else -z
theorem sgU_F (up : Bool) : fF (sgU up) ∧ (fz (sgU up)).natAbs = 2 ^ 149 := by
  cases up
  · exact ⟨(fF_bits _).mpr (by decide), by decide +kernel⟩
  · exact ⟨(fF_bits _).mpr (by decide), by decide +kernel⟩
/-- a step as a float, on either side -/
theorem stp_all : ∀ k, k < 33 → (((FP.i2f (nI k - 12)).toNat % 2 ^ 31 < 2139095040 ∧ (FP.fsub FP.fconst0 (FP.i2f (nI k - 12))).toNat % 2 ^ 31 < 2139095040 ∧ (FP.fmul FP.fconst1 (FP.i2f (nI k - 12))).toNat % 2 ^ 31 < 2139095040 ∧ (FP.fmul 3212836864 (FP.i2f (nI k - 12))).toNat % 2 ^ 31 < 2139095040) ∧
    fz (FP.i2f (nI k - 12)) = ((k : Int) - 12) * ((2 ^ 149 : Nat) : Int) ∧ fz (FP.fsub FP.fconst0 (FP.i2f (nI k - 12))) = -(((k : Int) - 12) * ((2 ^ 149 : Nat) : Int)) ∧ fz (FP.fmul FP.fconst1 (FP.i2f (nI k - 12))) = ((k : Int) - 12) * ((2 ^ 149 : Nat) : Int) ∧ fz (FP.fmul 3212836864 (FP.i2f (nI k - 12))) = -(((k : Int) - 12) * ((2 ^ 149 : Nat) : Int))) := by decide +kernel
theorem stp_v {s : Int32} (h1 : -12 ≤ s.toInt) (h2 : s.toInt ≤ 20) (up : Bool) : fF (tilC up (FP.i2f s)) ∧ fF (FP.fmul (sgU up) (FP.i2f s)) ∧ fz (tilC up (FP.i2f s)) = sgI up (s.toInt * ((2 ^ 149 : Nat) : Int)) ∧ fz (FP.fmul (sgU up) (FP.i2f s)) = sgI up (s.toInt * ((2 ^ 149 : Nat) : Int)) := by
  obtain ⟨⟨a1, a2, a3, a4⟩, b1, b2, b3, b4⟩ := stp_all (s.toInt + 12).toNat (by omega)
  have e : nI (s.toInt + 12).toNat - 12 = s := by
    apply Int32.toInt_inj.mp
    rw [Int32.toInt_sub, nI_toInt (by omega), show (12 : Int32).toInt = 12 by decide, Int.bmod_eq_of_le (by omega) (by omega)]
    omega
  have e2 : (((s.toInt + 12).toNat : Nat) : Int) - 12 = s.toInt := by omega
  rw [e] at a1 a2 a3 a4 b1 b2 b3 b4
  rw [e2] at b1 b2 b3 b4
  cases up
  · exact ⟨(fF_bits _).mpr a2, (fF_bits _).mpr a4, b2, b4⟩
  · exact ⟨(fF_bits _).mpr a1, (fF_bits _).mpr a3, b1, b3⟩
theorem tmul {up : Bool} {s : UInt32} (h : isSlo s) : fF (tilC up s) ∧ fF (FP.fmul (sgU up) s) ∧ (fz (tilC up s)).natAbs ≤ 2 ^ 148 ∧ fz (FP.fmul (sgU up) s) = fz (tilC up s) ∧ (s ≠ 0 → FP.fmul (sgU up) s = tilC up s) ∧ (s = 0 → fz (tilC up s) = 0) := by
  rcases h with rfl | rfl | rfl | rfl | rfl <;> cases up <;>
    exact ⟨(fF_bits _).mpr (by decide +kernel), (fF_bits _).mpr (by decide +kernel), by decide +kernel, by decide +kernel, by decide +kernel, by decide +kernel⟩
section BYS
variable {up : Bool} {slo : UInt32} {pk pe : UInt32}
/-- how far the beam is from its end there: the same on both sides -/
theorem byA_v (hs : isSlo slo) (h1 : fF pk) (h2 : fF pe) (b1 : 0 ≤ fz pk ∧ fz pk ≤ ((2 ^ 162 : Nat) : Int)) (b2 : 0 ≤ fz pe ∧ fz pe ≤ ((2 ^ 162 : Nat) : Int)) :
    fF (FP.fsub pk pe) ∧ fF (FP.fmul (FP.fmul (sgU up) slo) (FP.fsub pk pe)) ∧ fF (byA up slo pk pe) ∧ fF (FP.fmul (FP.fmul (tilC up slo) (FP.fsub pk pe)) FP.fconst2) ∧ fz (byA up slo pk pe) = fz (FP.fmul (FP.fmul (tilC up slo) (FP.fsub pk pe)) FP.fconst2) ∧ (fz (byA up slo pk pe)).natAbs ≤ 2 ^ 162 := by
  obtain ⟨t1, t2, t3, t4, t5, t6⟩ := tmul (up := up) hs
  have x := bd_sub (K := 162) h1 h2 (by decide) (by omega)
  have hc2 : fF FP.fconst2 := c2.1
  have hz2 : (fz FP.fconst2).natAbs = 2 ^ 150 := by decide +kernel
  have e1 : (2 : Nat) ^ 148 * 2 ^ 162 = 2 ^ (161 + 149) := by decide +kernel
  have e2 : (2 : Nat) ^ 161 * 2 ^ 150 = 2 ^ (162 + 149) := by decide +kernel
  have m1 : ∀ t, fF t → (fz t).natAbs ≤ 2 ^ 148 → fF (FP.fmul t (FP.fsub pk pe)) ∧ (fz (FP.fmul t (FP.fsub pk pe))).natAbs ≤ 2 ^ 161 := fun t ht hb => bd_mul ht x.1 (by decide) (by rw [Int.natAbs_mul, ← e1]; exact Nat.mul_le_mul hb x.2)
  have m2 : ∀ y, fF y → (fz y).natAbs ≤ 2 ^ 161 → fF (FP.fmul y FP.fconst2) ∧ (fz (FP.fmul y FP.fconst2)).natAbs ≤ 2 ^ 162 := fun y hy hb => bd_mul hy hc2 (by decide) (by rw [Int.natAbs_mul, hz2, ← e2]; exact Nat.mul_le_mul_right _ hb)
  have a := m1 _ t1 t3
  have b := m1 _ t2 (by rw [t4]; exact t3)
  have c := m2 _ a.1 a.2
  have d := m2 _ b.1 b.2
  refine ⟨x.1, b.1, d.1, c.1, ?_, d.2⟩
  by_cases h0 : slo = 0
  · have z := t6 h0
    have z1 := mul_0 t1 x.1 (by rw [z, Int.zero_mul])
    have z2 := mul_0 t2 x.1 (by rw [t4, z, Int.zero_mul])
    have z3 := mul_0 z1.1 hc2 (by rw [z1.2, Int.zero_mul])
    have z4 := mul_0 z2.1 hc2 (by rw [z2.2, Int.zero_mul])
    exact z4.2.trans z3.2.symm
  · unfold byA
    rw [t5 h0]
end BYS
theorem ub {u : Nat} (hu : u = 2 ^ 140) : ((2 ^ 149 : Nat) : Int) = 512 * (u : Int) ∧ (2 : Nat) ^ 162 = 4194304 * u ∧ (2 : Nat) ^ 23 * 2 ^ 140 = 8388608 * u ∧ (2 : Nat) ^ 23 * 2 ^ 141 = 16777216 * u ∧ (2 : Nat) ^ 141 = 2 * u := by
  subst hu
  decide +kernel
theorem sgI_b {up : Bool} {z b : Int} (h : -b ≤ z ∧ z ≤ b) : -b ≤ sgI up z ∧ sgI up z ≤ b := by
  cases up
  · show -b ≤ -z ∧ -z ≤ b
    omega
  · exact h
section DRO
variable {up : Bool} {slo : UInt32} {s : Nat → Int32} {p : Nat → UInt32} {pe : UInt32} {n : Nat}
/-- a note's drop -/
theorem dro_v {u : Nat} (hu : u = 2 ^ 140) (hs : isSlo slo) {sk : Int32} {pk : UInt32} (s1 : -12 ≤ sk.toInt) (s2 : sk.toInt ≤ 20) (h1 : fF pk) (h2 : fF pe) (b1 : 0 ≤ fz pk ∧ fz pk ≤ ((2 ^ 162 : Nat) : Int)) (b2 : 0 ≤ fz pe ∧ fz pe ≤ ((2 ^ 162 : Nat) : Int)) :
    fF (droC up (tilC up slo) sk pk pe) ∧ (fz (droC up (tilC up slo) sk pk pe) - (sgI up (sk.toInt * (512 * (u : Int))) - fz (byA up slo pk pe))).natAbs ≤ u ∧ (fz (droC up (tilC up slo) sk pk pe)).natAbs ≤ 4194304 * u + 10241 * u := by
  obtain ⟨u1, u2, u3, u4, u5⟩ := ub hu
  obtain ⟨a1, a2, a3, a4, a5, a6⟩ := byA_v (up := up) hs h1 h2 b1 b2
  obtain ⟨c1, c2, c3, c4⟩ := stp_v s1 s2 up
  rw [u1] at c3
  rw [u2] at a6
  have hS := sgI_b (up := up) (z := sk.toInt * (512 * (u : Int))) (b := 20 * (512 * (u : Int))) ⟨by
    have : -20 * (512 * (u : Int)) ≤ sk.toInt * (512 * (u : Int)) := Int.mul_le_mul_of_nonneg_right (by omega) (by omega)
    omega, Int.mul_le_mul_of_nonneg_right s2 (by omega)⟩
  have r := fsub_err (e := 140) c1 a4 (by decide) (by
    rw [c3, ← a5, u3]
    omega)
  rw [c3, ← a5, ← hu] at r
  refine ⟨r.1, r.2, ?_⟩
  have r2 := r.2
  show (fz (FP.fsub (tilC up (FP.i2f sk)) (FP.fmul (FP.fmul (tilC up slo) (FP.fsub pk pe)) FP.fconst2))).natAbs ≤ _
  omega
/-- the greatest drop -/
theorem grt_v (t : UInt32) (hD : ∀ k, k < n → fF (droC up t (s k) (p k) pe)) : ∀ k, 0 < k → k ≤ n → fF (grtC up t s p pe k) ∧ (∀ j, j < k → fz (droC up t (s j) (p j) pe) ≤ fz (grtC up t s p pe k)) ∧ ∃ j, j < k ∧ grtC up t s p pe k = droC up t (s j) (p j) pe := by
  intro k
  induction k with
  | zero => intro h; omega
  | succ k ih =>
    intro _ hk
    have dk := hD k (by omega)
    show fF (if k = 0 ∨ fgt (droC up t (s k) (p k) pe) (grtC up t s p pe k) = true then droC up t (s k) (p k) pe else grtC up t s p pe k) ∧ _
    by_cases h0 : k = 0
    · subst h0
      have e : grtC up t s p pe (0 + 1) = droC up t (s 0) (p 0) pe := if_pos (Or.inl rfl)
      rw [if_pos (Or.inl rfl), e]
      exact ⟨dk, fun j hj => by rw [show j = 0 by omega]; exact Int.le_refl _, 0, by omega, rfl⟩
    · obtain ⟨i1, i2, i3⟩ := ih (by omega) (by omega)
      by_cases hg : fgt (droC up t (s k) (p k) pe) (grtC up t s p pe k) = true
      · have e : grtC up t s p pe (k + 1) = droC up t (s k) (p k) pe := if_pos (Or.inr hg)
        rw [if_pos (Or.inr hg), e]
        refine ⟨dk, fun j hj => ?_, k, by omega, rfl⟩
        have hlt := (fgt_iff dk i1).mp hg
        by_cases ej : j = k
        · subst ej; exact Int.le_refl _
        · exact Int.le_trans (i2 j (by omega)) (Int.le_of_lt hlt)
      · have e : grtC up t s p pe (k + 1) = grtC up t s p pe k := if_neg (fun q => q.elim h0 hg)
        rw [if_neg (fun q => q.elim h0 hg), e]
        refine ⟨i1, fun j hj => ?_, ?_⟩
        · by_cases ej : j = k
          · subst ej
            exact Int.not_lt.mp fun q => hg ((fgt_iff dk i1).mpr q)
          · exact i2 j (by omega)
        · obtain ⟨j, j1, j2⟩ := i3
          exact ⟨j, by omega, j2⟩
/-- all notes are 5 off or more, nearly; one of them is just 5 off, nearly -/
theorem by_all (hs : isSlo slo) (hn : 0 < n) (hS : ∀ k, k < n → -12 ≤ (s k).toInt ∧ (s k).toInt ≤ 20) (hP : ∀ k, k < n → fF (p k) ∧ 0 ≤ fz (p k) ∧ fz (p k) ≤ ((2 ^ 162 : Nat) : Int)) (hE : fF pe ∧ 0 ≤ fz pe ∧ fz pe ≤ ((2 ^ 162 : Nat) : Int)) :
    fF (lifC up (tilC up slo) s p pe n) ∧ (∀ k, k < n → fF (FP.fadd (lifC up (tilC up slo) s p pe n) (byA up slo (p k) pe)) ∧ fF (byC up slo (lifC up (tilC up slo) s p pe n) (p k) pe (s k)) ∧ fz 1084185641 < fz (byC up slo (lifC up (tilC up slo) s p pe n) (p k) pe (s k))) ∧
    ∃ k, k < n ∧ fz (byC up slo (lifC up (tilC up slo) s p pe n) (p k) pe (s k)) < fz 1084269527 := by
  obtain ⟨u, hu⟩ : ∃ u : Nat, u = 2 ^ 140 := ⟨_, rfl⟩
  obtain ⟨u1, u2, u3, u4, u5⟩ := ub hu
  have hup : 0 < u := by rw [hu]; exact Nat.two_pow_pos _
  have hD : ∀ k, k < n → _ := fun k hk => dro_v (up := up) (slo := slo) (sk := s k) (pk := p k) (pe := pe) hu hs (hS k hk).1 (hS k hk).2 (hP k hk).1 hE.1 (hP k hk).2 hE.2
  obtain ⟨g1, g2, jx, j1, j2⟩ := grt_v (up := up) (s := s) (p := p) (pe := pe) (n := n) (tilC up slo) (fun k hk => (hD k hk).1) n hn (Nat.le_refl n)
  have gb : (fz (grtC up (tilC up slo) s p pe n)).natAbs ≤ 4194304 * u + 10241 * u := by rw [j2]; exact (hD jx j1).2.2
  have e5 : fz 1084227584 = 5 * (512 * (u : Int)) := by rw [c_5.2.2, Int.natCast_mul, u1]; rfl
  have l := fadd_err (e := 140) g1 c_5.1 (by decide) (by rw [e5, u3]; omega)
  rw [e5, ← hu] at l
  have hl1 : fF (lifC up (tilC up slo) s p pe n) := l.1
  have hl2 : (fz (lifC up (tilC up slo) s p pe n) - (fz (grtC up (tilC up slo) s p pe n) + 5 * (512 * (u : Int)))).natAbs ≤ u := l.2
  have hgz : fz (grtC up (tilC up slo) s p pe n) = fz (droC up (tilC up slo) (s jx) (p jx) pe) := by rw [j2]
  clear l
  generalize lifC up (tilC up slo) s p pe n = lif at hl1 hl2 ⊢
  generalize fz (grtC up (tilC up slo) s p pe n) = gz at gb hl2 g2 hgz
  have key : ∀ k, k < n → fF (FP.fadd lif (byA up slo (p k) pe)) ∧ fF (byC up slo lif (p k) pe (s k)) ∧ (fz (byC up slo lif (p k) pe (s k)) - (5 * (512 * (u : Int)) + (gz - fz (droC up (tilC up slo) (s k) (p k) pe)))).natAbs ≤ 6 * u := by
    intro k hk
    obtain ⟨d1, d2, d3⟩ := hD k hk
    obtain ⟨a1, a2, a3, a4, a5, a6⟩ := byA_v (up := up) hs (hP k hk).1 hE.1 (hP k hk).2 hE.2
    obtain ⟨c1, c2, c3, c4⟩ := stp_v (hS k hk).1 (hS k hk).2 up
    rw [u1] at c4
    rw [u2] at a6
    have hSb := sgI_b (up := up) (z := (s k).toInt * (512 * (u : Int))) (b := 20 * (512 * (u : Int))) ⟨by
      have : -20 * (512 * (u : Int)) ≤ (s k).toInt * (512 * (u : Int)) := Int.mul_le_mul_of_nonneg_right (by have := (hS k hk).1; omega) (by omega)
      omega, Int.mul_le_mul_of_nonneg_right (hS k hk).2 (by omega)⟩
    generalize sgI up ((s k).toInt * (512 * (u : Int))) = Sk at c4 hSb d2
    generalize fz (droC up (tilC up slo) (s k) (p k) pe) = dz at d2 d3 ⊢
    have r := fadd_err (e := 141) hl1 a3 (by decide) (by rw [u4]; omega)
    rw [u5] at r
    have r2 := r.2
    have q := fsub_err (e := 141) r.1 c2 (by decide) (by rw [u4, c4]; omega)
    rw [u5, c4] at q
    refine ⟨r.1, q.1, ?_⟩
    have q2 := q.2
    show (fz (FP.fsub (FP.fadd lif (byA up slo (p k) pe)) (FP.fmul (sgU up) (FP.i2f (s k)))) - _).natAbs ≤ _
    omega
  have k498 : fz 1084185641 < 5 * ((2 ^ 149 : Nat) : Int) - 6 * ((2 ^ 140 : Nat) : Int) := by decide +kernel
  have k502 : 5 * ((2 ^ 149 : Nat) : Int) + 6 * ((2 ^ 140 : Nat) : Int) < fz 1084269527 := by decide +kernel
  rw [u1, ← hu] at k498 k502
  refine ⟨hl1, fun k hk => ?_, jx, j1, ?_⟩
  · obtain ⟨a, b, c⟩ := key k hk
    have g := g2 k hk
    exact ⟨a, b, by omega⟩
  · obtain ⟨a, b, c⟩ := key jx j1
    omega
end DRO
