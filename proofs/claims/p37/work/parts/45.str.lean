/-! a stretch: lengths are no less than rods, places follow, the last comes to the width where none is held -/
def isum (m : Nat → Int) : Nat → Int
  | 0 => 0
  | k + 1 => isum m k + m k
theorem isum_b {m : Nat → Int} {lo hi : Int} : ∀ k : Nat, (∀ j, j < k → lo ≤ m j ∧ m j ≤ hi) → lo * (k : Int) ≤ isum m k ∧ isum m k ≤ hi * (k : Int) := by
  intro k
  induction k with
  | zero => intro _; unfold isum; simp
  | succ k ih =>
    intro h
    have h1 := ih (fun j hj => h j (by omega))
    have h2 := h k (by omega)
    unfold isum
    rw [Int.natCast_succ, Int.mul_add, Int.mul_add, Int.mul_one, Int.mul_one]
    omega
theorem bsum_ex {f : Nat → UInt32} {m : Nat → Int} {hi : Int} (hB : hi ≤ 2000) (h0 : 0 ≤ hi) : ∀ {k : Nat}, k ≤ 64 → (∀ j, j < k → fU (f j) (m j) ∧ 0 ≤ m j ∧ m j ≤ hi) → fU (bsum (fun _ => false) false f k) (isum m k) := by
  intro k
  induction k with
  | zero => intro _ _; exact fU_0
  | succ k ih =>
    intro hk h
    have a1 := ih (by omega) (fun j hj => h j (by omega))
    obtain ⟨b1, b2, b3⟩ := h k (by omega)
    have c := isum_b (m := m) (lo := 0) (hi := hi) k (fun j hj => (h j (by omega)).2)
    unfold bsum isum
    rw [if_pos rfl]
    refine fU_add a1 b1 ?_
    have d : hi * (k : Int) ≤ 2000 * 64 := Int.mul_le_mul hB (by omega) (Int.natCast_nonneg _) (by decide)
    rw [Int.zero_mul] at c
    omega
theorem bsum_no {f : Nat → UInt32} : ∀ k : Nat, bsum (fun _ => false) true f k = FP.fconst0 := by
  intro k
  induction k with
  | zero => rfl
  | succ k ih =>
    unfold bsum
    rw [if_neg (by decide)]
    exact ih
theorem cntH_zero {h : Nat → Bool} : ∀ {k : Nat}, cntH h k = 0 → ∀ j, j < k → h j = false := by
  intro k
  induction k with
  | zero => intro _ j hj; omega
  | succ k ih =>
    intro hc j hj
    unfold cntH at hc
    by_cases e : h k = true
    · rw [if_pos e] at hc; omega
    · rw [if_neg e] at hc
      by_cases e2 : j = k
      · subst e2; exact Bool.eq_false_iff.mpr e
      · exact ih hc j (by omega)
section STR
variable {g : Nat → Int32} {w : Int32} {a n N : Nat}
/-- what is laid out changes no more -/
theorem set_fix (hn : n ≤ 32) : (∀ j, j < n → nwV (fun j => idG g (a + j)) (fun j => flG g (a + j)) (fun j => roG g (a + j)) (setV g w a n).2 (setV g w a n).1 j = false) ∧
    (setV g w a n).2 = balF (FP.i2f w) (fun j => idG g (a + j)) (fun j => flG g (a + j)) (fun j => roG g (a + j)) (setV g w a n).1 n := by
  have h := rnV_fix (W := FP.i2f w) (ids := fun j => idG g (a + j)) (fls := fun j => flG g (a + j)) (rods := fun j => roG g (a + j)) (n := n) 32 (fun _ => false) (by rw [cntH_none]; omega)
  exact ⟨anyB_false h.1, h.2⟩
theorem len_ge (hg : okG g N) (hw : okWd w) (hn : n ≤ 32) (han : a + n ≤ N) {j : Nat} (hj : j < n) : fz (roG g (a + j)) ≤ fz (lenV g w a n j) := by
  have hL := (lenV_ok hg hw hn han hj).1
  have hx := (set_fix (g := g) (w := w) (a := a) hn).1 j hj
  unfold nwV at hx
  unfold lenV at hL ⊢
  by_cases h : (setV g w a n).1 j = true
  · rw [if_pos h]; exact Int.le_refl _
  · rw [if_neg h] at hL ⊢
    rw [Bool.eq_false_iff.mpr h] at hx
    obtain ⟨m, hm, _⟩ := ro_fu (hg (a + j) (by omega))
    refine Int.not_lt.mp fun q => ?_
    have := (flt_iff hL hm.1).mpr q
    rw [this] at hx
    exact absurd hx (by decide)
theorem c99 : fF 1065185444 ∧ 0 ≤ fz 1065185444 ∧ fz 1065185444 ≤ ((2 ^ 149 : Nat) : Int) := ⟨(fF_bits _).mpr (by decide), by decide +kernel, by decide +kernel⟩
theorem rod_99 (hg : okG g N) {c : Nat} (hc : c < N) : fF (FP.fmul (roG g c) 1065185444) ∧ 0 ≤ fz (FP.fmul (roG g c) 1065185444) ∧ fz (FP.fmul (roG g c) 1065185444) ≤ fz (roG g c) := by
  obtain ⟨m, hm, h1, h2⟩ := ro_fu (hg c hc)
  have hp : 0 ≤ fz (roG g c) := by rw [hm.2]; exact Int.mul_nonneg (by omega) (Int.le_of_lt U6_pos)
  have u1 : fz (FP.fmul (roG g c) 1065185444) ≤ fz (roG g c) := fmul_le hm.1 c99.1 (FP.Core.val32_fits (roG g c)) hm.1.ne_nan (Int.mul_le_mul_of_nonneg_left c99.2.2 hp)
  have u2 : 0 ≤ fz (FP.fmul (roG g c) 1065185444) := by
    obtain ⟨V, v1, v2, v3⟩ := rp (m := 0) (e := 0) (by decide) (by decide)
    have := fmul_ge hm.1 c99.1 v1 v2 (by rw [v3, Int.zero_mul, Int.zero_mul]; exact Int.mul_nonneg hp c99.2.1)
    rw [v3, Int.zero_mul] at this
    exact this
  refine ⟨fF_of (fmul_nn hm.1 c99.1) ?_, u2, u1⟩
  have := fz_U (e := 10) hm (by omega)
  have : 2 ^ (10 + 143) < 2 ^ 277 := by decide
  omega
theorem at_nx (k : Nat) : atV g w a n (k + 1) = FP.fadd (atV g w a n k) (lenV g w a n k) := rfl
theorem at_far (hg : okG g N) (hw : okWd w) (hn : n ≤ 32) (han : a + n ≤ N) {j : Nat} (hj : j < n) : fF (FP.fadd (atV g w a n j) (FP.fmul (roG g (a + j)) 1065185444)) ∧ fz (FP.fadd (atV g w a n j) (FP.fmul (roG g (a + j)) 1065185444)) ≤ fz (atV g w a n (j + 1)) := by
  obtain ⟨a1, a2, a3, _⟩ := atV_ok hg hw hn han j (by omega)
  obtain ⟨b1, _⟩ := atV_ok hg hw hn han (j + 1) (by omega)
  obtain ⟨c1, c2, _⟩ := lenV_ok hg hw hn han hj
  obtain ⟨d1, d2, d3⟩ := rod_99 hg (c := a + j) (by omega)
  obtain ⟨m, hm, m1, m2⟩ := ro_fu (hg (a + j) (by omega))
  have hl := len_ge hg hw hn han hj
  have hf : fF (FP.fadd (atV g w a n j) (FP.fmul (roG g (a + j)) 1065185444)) := by
    refine (fadd_err (e := 170) a1 d1 (by decide) ?_).1
    have u := fz_U (e := 10) hm (by omega)
    have u2 : (2 : Nat) ^ (10 + 143) ≤ 2 ^ 170 := by decide
    have u3 : j * 2 ^ 170 ≤ 32 * 2 ^ 170 := Nat.mul_le_mul_right _ (by omega)
    have u4 : 32 * 2 ^ 170 + 2 ^ 170 ≤ 2 ^ 23 * 2 ^ 170 := by decide
    generalize (2 : Nat) ^ 170 = Q at *
    generalize j * Q = jQ at *
    omega
  refine ⟨hf, ?_⟩
  rw [at_nx] at b1 ⊢
  exact fadd_mono a1 d1 c1 a2 d2 (Int.le_trans d3 hl) hf b1
end STR
/-! where none is held the last one comes to the width -/
theorem pull_err {num den : UInt32} {D F : Int} {B : Nat} (hn : fU num D) (hd : fU den F) (hF : 0 < F) (hB : B ≤ 100) (h : D.natAbs ≤ 2 ^ B * F.natAbs) :
    fF (FP.fdiv num den) ∧ (fz (FP.fdiv num den) * F - D * ((2 ^ 149 : Nat) : Int)).natAbs ≤ 2 ^ (B + 126) * F.natAbs := by
  have e : 2 ^ 23 * 2 ^ (B + 126) = 2 ^ B * 2 ^ 149 := by rw [← Nat.pow_add, ← Nat.pow_add]; congr 1; omega
  have h0 : 0 < fz den := by rw [hd.2]; exact Int.mul_pos hF U6_pos
  have en : (fz num).natAbs = D.natAbs * U6 := by rw [hn.2, Int.natAbs_mul, Int.natAbs_natCast]
  have ed : (fz den).natAbs = F.natAbs * U6 := by rw [hd.2, Int.natAbs_mul, Int.natAbs_natCast]
  have hU : 0 < U6 := Nat.two_pow_pos _
  have k := fdiv_err (e := B + 126) hn.1 hd.1 h0 (by omega) (by
    rw [en, ed]
    have k1 : D.natAbs * U6 * 2 ^ 149 ≤ 2 ^ B * F.natAbs * U6 * 2 ^ 149 := Nat.mul_le_mul_right _ (Nat.mul_le_mul_right _ h)
    have k2 : 2 ^ B * F.natAbs * U6 * 2 ^ 149 = 2 ^ 23 * (2 ^ (B + 126) * (F.natAbs * U6)) := by
      rw [← Nat.mul_assoc (2 ^ 23), e]
      generalize 2 ^ 149 = c
      generalize 2 ^ B = b
      ac_rfl
    omega)
  refine ⟨k.1, ?_⟩
  have k3 := k.2
  rw [ed, hd.2, hn.2] at k3
  have e1 : fz (FP.fdiv num den) * (F * (U6 : Int)) = fz (FP.fdiv num den) * F * (U6 : Int) := (Int.mul_assoc _ _ _).symm
  have e2 : D * (U6 : Int) * ((2 ^ 149 : Nat) : Int) = D * ((2 ^ 149 : Nat) : Int) * (U6 : Int) := Int.mul_right_comm _ _ _
  have e3 : fz (FP.fdiv num den) * (F * (U6 : Int)) - D * (U6 : Int) * ((2 ^ 149 : Nat) : Int) = (fz (FP.fdiv num den) * F - D * ((2 ^ 149 : Nat) : Int)) * (U6 : Int) := by rw [e1, e2, ← Int.sub_mul]
  rw [e3, Int.natAbs_mul, Int.natAbs_natCast, ← Nat.mul_assoc] at k3
  exact Nat.le_of_mul_le_mul_right k3 hU
theorem two149 : ((2 ^ 149 : Nat) : Int) = 64 * (U6 : Int) := by unfold U6; decide +kernel
theorem fmul_U {x y : UInt32} {m : Int} {k : Nat} (hx : fF x) (hy : fU y m) (hK : k ≤ 250) (h : (fz x * m).natAbs ≤ 2 ^ (k + 29)) :
    fF (FP.fmul x y) ∧ 64 * fz (FP.fmul x y) - fz x * m ≤ ((2 ^ (k + 6) : Nat) : Int) ∧ fz x * m - 64 * fz (FP.fmul x y) ≤ ((2 ^ (k + 6) : Nat) : Int) := by
  have e1 : fz x * fz y = fz x * m * (U6 : Int) := by rw [hy.2, Int.mul_assoc]
  have e2 : 2 ^ (k + 29) * U6 = 2 ^ 23 * 2 ^ (k + 149) := by unfold U6; rw [← Nat.pow_add, ← Nat.pow_add]; congr 1; omega
  have e3 : ((2 ^ (k + 149) : Nat) : Int) = ((2 ^ (k + 6) : Nat) : Int) * (U6 : Int) := by
    unfold U6
    rw [← pw_cast]
  obtain ⟨r1, r2, r3⟩ := fmul_err (e := k) hx hy.1 hK (by
    rw [e1, Int.natAbs_mul, Int.natAbs_natCast, ← e2]
    exact Nat.mul_le_mul_right _ h)
  rw [e1, e3, two149] at r2 r3
  have e4 : fz (FP.fmul x y) * (64 * (U6 : Int)) = 64 * fz (FP.fmul x y) * (U6 : Int) := by
    generalize (U6 : Int) = c
    ac_rfl
  rw [e4, ← Int.sub_mul] at r2 r3
  exact ⟨r1, Int.le_of_mul_le_mul_right r2 U6_pos, Int.le_of_mul_le_mul_right r3 U6_pos⟩
theorem isum_err {p q : Nat → Int} {c : Int} : ∀ k : Nat, (∀ j, j < k → p j - q j ≤ c ∧ q j - p j ≤ c) → isum p k - isum q k ≤ c * (k : Int) ∧ isum q k - isum p k ≤ c * (k : Int) := by
  intro k
  induction k with
  | zero => intro _; unfold isum; simp
  | succ k ih =>
    intro h
    have h1 := ih (fun j hj => h j (by omega))
    have h2 := h k (by omega)
    unfold isum
    rw [Int.natCast_succ, Int.mul_add, Int.mul_one]
    omega
theorem isum_mul {f : Nat → Int} {P : Int} : ∀ k : Nat, isum (fun j => P * f j) k = P * isum f k := by
  intro k
  induction k with
  | zero => exact (Int.mul_zero P).symm
  | succ k ih => unfold isum; rw [ih, Int.mul_add]
theorem isum_add {f h : Nat → Int} : ∀ k : Nat, isum (fun j => f j + h j) k = isum f k + isum h k := by
  intro k
  induction k with
  | zero => rfl
  | succ k ih => unfold isum; rw [ih]; omega
theorem isum_c {f h : Nat → Int} : ∀ {k : Nat}, (∀ j, j < k → f j = h j) → isum f k = isum h k := by
  intro k
  induction k with
  | zero => intro _; rfl
  | succ k ih => intro q; unfold isum; rw [ih (fun j hj => q j (by omega)), q k (by omega)]
theorem isum_one {f : Nat → Int} {k j : Nat} (h : ∀ i, i < k → 0 ≤ f i) (hj : j < k) : f j ≤ isum f k := by
  induction k with
  | zero => omega
  | succ k ih =>
    unfold isum
    have h2 := (isum_b (m := f) (lo := 0) (hi := isum f k + 0) 0 (fun i hi => by omega)).1
    have h3 : 0 ≤ isum f k := by
      clear ih hj h2
      induction k with
      | zero => exact Int.le_refl _
      | succ k ih2 =>
        unfold isum
        have := ih2 (fun i hi => h i (by omega))
        have := h k (by omega)
        omega
    by_cases e : j = k
    · subst e; omega
    · have := ih (fun i hi => h i (by omega)) (by omega)
      have := h k (by omega)
      omega
theorem sum_u {u : Nat} (hu : u = 2 ^ 136) : ((2 ^ 141 : Nat) : Int) = 32 * (u : Int) ∧ ((2 ^ 136 : Nat) : Int) = (u : Int) ∧ ((2 ^ 147 : Nat) : Int) = 2048 * (u : Int) ∧ (2 : Nat) ^ 137 = 2 * u ∧ (2 : Nat) ^ 159 = 8388608 * u ∧ (2 : Nat) ^ 164 = 268435456 * u ∧ (U6 : Int) = 128 * (u : Int) ∧ ((2 ^ 149 : Nat) : Int) = 8192 * (u : Int) := by
  subst hu
  unfold U6
  decide +kernel
theorem fin_sum {A SL SI SM PF DU W u : Int} (h1 : A - SL ≤ 640 * u ∧ SL - A ≤ 640 * u) (h2 : SL - (SI + SM) ≤ 20 * u ∧ SI + SM - SL ≤ 20 * u) (h3 : 64 * SM - PF ≤ 640 * u ∧ PF - 64 * SM ≤ 640 * u) (h4 : PF - DU ≤ 32768 * u ∧ DU - PF ≤ 32768 * u) (h5 : 64 * SI + DU = 64 * W) (hu : 0 < u) : A - W ≤ 2048 * u ∧ W - A ≤ 2048 * u := by omega
section NON
variable {g : Nat → Int32} {w : Int32} {a n N : Nat}
theorem non_x (hn : n ≤ 32) (hh : heldV g w a n = 0) : (setV g w a n).2 = balF (FP.i2f w) (fun j => idG g (a + j)) (fun j => flG g (a + j)) (fun j => roG g (a + j)) (fun _ => false) n := by
  rw [(set_fix (g := g) (w := w) (a := a) hn).2]
  exact balF_congr fun j hj => ⟨rfl, rfl, rfl, cntH_zero hh j hj⟩
theorem non_len (hh : heldV g w a n = 0) {j : Nat} (hj : j < n) : lenV g w a n j = FP.fadd (idG g (a + j)) (FP.fmul (setV g w a n).2 (flG g (a + j))) := by
  unfold lenV
  rw [if_neg (by rw [cntH_zero hh j hj]; decide)]
theorem non_all (hg : okG g N) (hw : okWd w) (h0 : 0 < n) (hn : n ≤ 20) (han : a + n ≤ N) (hh : heldV g w a n = 0) :
    fz (atV g w a n n) - fz (FP.i2f w) ≤ ((2 ^ 147 : Nat) : Int) ∧ fz (FP.i2f w) - fz (atV g w a n n) ≤ ((2 ^ 147 : Nat) : Int) := by
  obtain ⟨u, hu⟩ : ∃ u : Nat, u = 2 ^ 136 := ⟨_, rfl⟩
  obtain ⟨u1, u2, u3, u4, u5, u6, u7, u8⟩ := sum_u hu
  have hup : 0 < u := by rw [hu]; exact Nat.two_pow_pos _
  obtain ⟨mw, w1, w2, w3⟩ := wd_fu hw
  have hid : ∀ j, ∃ m : Int, j < n → fU (idG g (a + j)) m ∧ 0 ≤ m ∧ m ≤ 1536 := fun j => by
    by_cases hj : j < n
    · obtain ⟨⟨m, m1, m2, m3⟩, _⟩ := id_fu (hg (a + j) (by omega))
      exact ⟨m, fun _ => ⟨m1, by omega, m3⟩⟩
    · exact ⟨0, fun q => absurd q hj⟩
  have hfl : ∀ j, ∃ m : Int, j < n → fU (flG g (a + j)) m ∧ 16 ≤ m ∧ m ≤ 768 := fun j => by
    by_cases hj : j < n
    · obtain ⟨_, ⟨m, m1, m2, m3⟩⟩ := id_fu (hg (a + j) (by omega))
      exact ⟨m, fun _ => ⟨m1, m2, m3⟩⟩
    · exact ⟨0, fun q => absurd q hj⟩
  obtain ⟨mi, hmi⟩ := Classical.axiomOfChoice hid
  obtain ⟨mf, hmf⟩ := Classical.axiomOfChoice hfl
  have SI := bsum_ex (f := fun j => idG g (a + j)) (m := mi) (hi := 1536) (by decide) (by decide) (k := n) (by omega) (fun j hj => hmi j hj)
  have SF := bsum_ex (f := fun j => flG g (a + j)) (m := mf) (hi := 768) (by decide) (by decide) (k := n) (by omega) (fun j hj => ⟨(hmf j hj).1, by have := (hmf j hj).2.1; omega, (hmf j hj).2.2⟩)
  have bI := isum_b (m := mi) (lo := 0) (hi := 1536) n (fun j hj => (hmi j hj).2)
  have bF := isum_b (m := mf) (lo := 16) (hi := 768) n (fun j hj => (hmf j hj).2)
  generalize hI : isum mi n = I at SI bI
  generalize hF : isum mf n = F at SF bF
  have hx := non_x (g := g) (w := w) (a := a) (n := n) (by omega) hh
  unfold balF at hx
  rw [bsum_no] at hx
  have hFp : 0 < fz (bsum (fun _ => false) false (fun j => flG g (a + j)) n) := by rw [SF.2]; exact Int.mul_pos (by omega) U6_pos
  rw [if_pos ((fgt_iff SF.1 fF_0).mpr (by rw [fz_0]; exact hFp))] at hx
  have hN1 := fU_sub w1 fU_0 (by omega)
  rw [Int.sub_zero] at hN1
  have hN2 := fU_sub hN1 SI (by omega)
  obtain ⟨x1, x2⟩ := pull_err (B := 11) hN2 SF (by omega) (by decide) (by omega)
  rw [← hx] at x1 x2
  generalize hX : (setV g w a n).2 = x at x1 x2
  have hPF : (fz x * F).natAbs ≤ 2 ^ 164 := by
    have : (2 : Nat) ^ 164 = 268435456 * u := u6
    rw [u4] at x2
    rw [u8] at x2
    rw [this]
    have hF3 : 2 * u * F.natAbs ≤ 2 * u * 15360 := Nat.mul_le_mul_left _ (by omega)
    have hD3 : ((mw - I) * (8192 * (u : Int))).natAbs ≤ 30720 * (8192 * u) := by
      rw [Int.natAbs_mul]
      exact Nat.mul_le_mul (by omega) (by omega)
    generalize fz x * F = PF at x2
    generalize (mw - I) * (8192 * (u : Int)) = DU at x2 hD3
    generalize 2 * u * F.natAbs = E at x2 hF3
    omega
  have hm1 : ∀ j, j < n → (fz x * mf j).natAbs ≤ 2 ^ (135 + 29) := fun j hj => by
    have h1 := isum_one (f := mf) (k := n) (fun i hi => by have := (hmf i hi).2.1; omega) hj
    have h2 := (hmf j hj).2.1
    have h3 : (fz x * mf j).natAbs ≤ (fz x * F).natAbs := by
      rw [Int.natAbs_mul, Int.natAbs_mul]
      exact Nat.mul_le_mul_left _ (by omega)
    have h4 : (2 : Nat) ^ 164 = 2 ^ (135 + 29) := rfl
    omega
  have hM : ∀ j, j < n → fF (FP.fmul x (flG g (a + j))) ∧ 64 * fz (FP.fmul x (flG g (a + j))) - fz x * mf j ≤ ((2 ^ 141 : Nat) : Int) ∧ fz x * mf j - 64 * fz (FP.fmul x (flG g (a + j))) ≤ ((2 ^ 141 : Nat) : Int) := fun j hj => fmul_U (k := 135) x1 (hmf j hj).1 (by decide) (hm1 j hj)
  have hMb : ∀ j, j < n → (fz (idG g (a + j)) + fz (FP.fmul x (flG g (a + j)))).natAbs ≤ 2 ^ 23 * 2 ^ 136 := fun j hj => by
    have h1 := hM j hj
    have h2 := hm1 j hj
    have h3 := (hmi j hj).1.2
    have h4 := (hmi j hj).2
    have h5 : (2 : Nat) ^ (135 + 29) = 268435456 * u := u6
    rw [h5] at h2
    rw [u1] at h1
    rw [h3, u7, ← hu]
    generalize fz x * mf j = Pm at h1 h2
    generalize fz (FP.fmul x (flG g (a + j))) = Mj at h1
    have h6 : 0 ≤ mi j * (128 * (u : Int)) ∧ mi j * (128 * (u : Int)) ≤ 1536 * (128 * (u : Int)) := ⟨Int.mul_nonneg h4.1 (by omega), Int.mul_le_mul_of_nonneg_right h4.2 (by omega)⟩
    generalize mi j * (128 * (u : Int)) = V at h6
    omega
  have hL : ∀ j, j < n → fz (lenV g w a n j) - (fz (idG g (a + j)) + fz (FP.fmul x (flG g (a + j)))) ≤ ((2 ^ 136 : Nat) : Int) ∧ (fz (idG g (a + j)) + fz (FP.fmul x (flG g (a + j)))) - fz (lenV g w a n j) ≤ ((2 ^ 136 : Nat) : Int) ∧ fz (lenV g w a n j) ≤ ((2 ^ 160 : Nat) : Int) := fun j hj => by
    have h1 := (fadd_err (e := 136) (hmi j hj).1.1 (hM j hj).1 (by decide) (hMb j hj)).2
    have h2 := hMb j hj
    rw [non_len hh hj, hX]
    have h3 : (2 : Nat) ^ 160 = 16777216 * u := by rw [hu]
    rw [h3]
    rw [← hu] at h1 h2 ⊢
    omega
  have u5' : ((2 ^ 159 : Nat) : Int) = 8388608 * (u : Int) := by rw [u5]; rfl
  have hA : ∀ k, k ≤ n → fz (atV g w a n k) ≤ 16777216 * (u : Int) * (k : Int) ∧ fz (atV g w a n k) - isum (fun j => fz (lenV g w a n j)) k ≤ 64 * (u : Int) * (k : Int) ∧ isum (fun j => fz (lenV g w a n j)) k - fz (atV g w a n k) ≤ 64 * (u : Int) * (k : Int) := by
    intro k
    induction k with
    | zero =>
      intro _
      have e : fz (atV g w a n 0) = 0 := fz_0
      rw [e]
      unfold isum
      simp
    | succ k ih =>
      intro hk
      obtain ⟨i1, i2, i3⟩ := ih (by omega)
      obtain ⟨c1, c2, -, -⟩ := atV_ok hg hw (show n ≤ 32 by omega) han k (by omega)
      obtain ⟨d1, d2, -⟩ := lenV_ok hg hw (show n ≤ 32 by omega) han (show k < n by omega)
      have d0 : 0 ≤ fz (lenV g w a n k) := Int.le_trans (Int.natCast_nonneg _) d2
      clear d2
      have hl := (hL k (by omega)).2.2
      have k2 : (2 : Nat) ^ 160 = 16777216 * u := by rw [hu]
      have k3 : (2 : Nat) ^ 23 * 2 ^ 142 = 536870912 * u := by rw [hu]
      have k4 : (2 : Nat) ^ 142 = 64 * u := by rw [hu]
      rw [k2] at hl
      have hk19 : 16777216 * (u : Int) * (k : Int) ≤ 16777216 * (u : Int) * 19 := Int.mul_le_mul_of_nonneg_left (by omega) (by omega)
      have r := (fadd_err (e := 142) c1 d1 (by decide) (by
        rw [k3]
        generalize 16777216 * (u : Int) * (k : Int) = Q at *
        omega)).2
      rw [← at_nx, k4] at r
      obtain ⟨V, v1, v2, v3⟩ := rp (m := ((2 * (k + 1) : Nat) : Int)) (e := 159) (by omega) (by decide)
      have e5 : ((2 * (k + 1) : Nat) : Int) * (8388608 * (u : Int)) = 16777216 * (u : Int) * (k : Int) + 16777216 * (u : Int) := by
        rw [show ((2 * (k + 1) : Nat) : Int) = 2 * ((k : Int) + 1) by omega, Int.mul_comm, show 8388608 * (u : Int) * (2 * ((k : Int) + 1)) = 8388608 * (u : Int) * 2 * ((k : Int) + 1) from (Int.mul_assoc _ _ _).symm, show 8388608 * (u : Int) * 2 = 16777216 * (u : Int) by omega, Int.mul_add, Int.mul_one]
      have s := fadd_le c1 d1 v1 v2 (by
        rw [v3, u5', e5]
        generalize 16777216 * (u : Int) * (k : Int) = Q at *
        omega)
      rw [← at_nx, v3, u5', e5] at s
      refine ⟨by rw [Int.natCast_succ, Int.mul_add, Int.mul_one]; exact s, ?_⟩
      show fz (atV g w a n (k + 1)) - (isum (fun j => fz (lenV g w a n j)) k + fz (lenV g w a n k)) ≤ _ ∧ (isum (fun j => fz (lenV g w a n j)) k + fz (lenV g w a n k)) - fz (atV g w a n (k + 1)) ≤ _
      rw [Int.natCast_succ, Int.mul_add, Int.mul_one]
      clear s v3 e5 i1
      generalize 64 * (u : Int) * (k : Int) = G at *
      generalize isum (fun j => fz (lenV g w a n j)) k = SK at *
      generalize fz (atV g w a n (k + 1)) = A1 at *
      generalize fz (atV g w a n k) = A0 at *
      generalize fz (lenV g w a n k) = L0 at *
      omega
  have hA2 := (hA n (Nat.le_refl n)).2
  have e1 := isum_err (p := fun j => fz (lenV g w a n j)) (q := fun j => fz (idG g (a + j)) + fz (FP.fmul x (flG g (a + j)))) (c := (u : Int)) n (fun j hj => by have := hL j hj; rw [u2] at this; exact ⟨this.1, this.2.1⟩)
  rw [isum_add] at e1
  have e2 := isum_err (p := fun j => 64 * fz (FP.fmul x (flG g (a + j)))) (q := fun j => fz x * mf j) (c := 32 * (u : Int)) n (fun j hj => by have := hM j hj; rw [u1] at this; exact this.2)
  rw [isum_mul, isum_mul, hF] at e2
  have e3 : isum (fun j => fz (idG g (a + j))) n = (U6 : Int) * I := by
    rw [← hI, ← isum_mul]
    exact isum_c fun j hj => by rw [(hmi j hj).1.2, Int.mul_comm]
  rw [e3] at e1
  rw [u4] at x2
  have hw1 : fz (FP.i2f w) = (U6 : Int) * mw := by rw [w1.2, Int.mul_comm]
  have h5 : 64 * ((U6 : Int) * I) + (mw - I) * ((2 ^ 149 : Nat) : Int) = 64 * fz (FP.i2f w) := by
    rw [hw1, two149]
    generalize (U6 : Int) = c
    rw [Int.sub_mul, show mw * (64 * c) = 64 * (c * mw) by ac_rfl, show I * (64 * c) = 64 * (c * I) by ac_rfl]
    omega
  have hun : (u : Int) * (n : Int) ≤ (u : Int) * 20 := Int.mul_le_mul_of_nonneg_left (by omega) (by omega)
  have hf4 : 2 * u * F.natAbs ≤ 2 * u * 15360 := Nat.mul_le_mul_left _ (by omega)
  have h64 : 64 * (u : Int) * (n : Int) = 64 * ((u : Int) * (n : Int)) := Int.mul_assoc _ _ _
  have h32 : 32 * (u : Int) * (n : Int) = 32 * ((u : Int) * (n : Int)) := Int.mul_assoc _ _ _
  rw [h64] at hA2
  rw [h32] at e2
  rw [u3]
  generalize fz (atV g w a n n) = A at *
  generalize isum (fun j => fz (lenV g w a n j)) n = SL at *
  generalize isum (fun j => fz (FP.fmul x (flG g (a + j)))) n = SM at *
  generalize (U6 : Int) * I = SI2 at *
  generalize fz x * F = PF at *
  generalize (mw - I) * ((2 ^ 149 : Nat) : Int) = DU at *
  generalize fz (FP.i2f w) = W at *
  generalize (u : Int) * (n : Int) = un at *
  generalize 2 * u * F.natAbs = E at *
  clear hmi hmf hM hMb hL hA hm1 hPF hid hfl SI SF hx hX hI hF
  omega
end NON
