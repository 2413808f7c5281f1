/-! no operation on the columns' floats answers NaN -/
theorem bs_fF {h : Nat → Bool} {b : Bool} {f : Nat → UInt32} {lo hi : Int} (hlo : 0 ≤ lo) (hhi : lo ≤ hi) (hB : hi ≤ 2000) {n k : Nat} (hn : n ≤ 32) (hk : k < n) (hf : ∀ j, j < n → ∃ m : Int, fU (f j) m ∧ lo ≤ m ∧ m ≤ hi) : vf_n32 (FP.fadd (bsum h b f k) (f k)) := by
  obtain ⟨m, a1, _⟩ := bsum_fu (h := h) (b := b) hlo hhi hB (k := k) (by omega) (fun j hj => hf j (by omega))
  obtain ⟨q, b1, _⟩ := hf k hk
  exact nn_of (fadd_nn a1.1 b1.1)
/-- what a pull may be -/
def okQ (x : UInt32) : Prop := okX x ∧ x.toNat % 2 ^ 31 < 141 * 2 ^ 23 ∧ (x ≠ 0 → 2 ^ 134 ≤ (fz x).natAbs)
theorem okQ_0 : okQ FP.fconst0 := ⟨okX_0, by decide, fun h => absurd rfl h⟩
theorem fU_pos {x : UInt32} {m : Int} (h : fU x m) : 0 < fz x ↔ 0 < m := by
  rw [h.2]
  exact ⟨fun q => Int.lt_of_mul_lt_mul_right (by rw [Int.zero_mul]; exact q) (Int.le_of_lt U6_pos), fun q => Int.mul_pos q U6_pos⟩
theorem quo_ok {x y : UInt32} {m q : Int} (hx : fU x m) (hm : m.natAbs < 2 ^ 17) (h0 : m = 0 → x = FP.fconst0) (hy : fU y q) (hq1 : 16 ≤ q) (hq2 : q ≤ 30000) : okQ (FP.fdiv x y) := by
  have hyp : 0 < fz y := by rw [hy.2]; exact Int.mul_pos (by omega) U6_pos
  by_cases hz : m = 0
  · rw [h0 hz, fdiv_0 hy.1 hyp (pos_bits hy.1 hyp)]
    exact okQ_0
  · have h1 := mg_U (e := 17) hx hm
    have h2 := mg_Ul (e := 4) hy (by omega)
    have h3 := mg_U (e := 15) hy (by omega)
    have h4 := FP.Core.fdiv_mag (a := x) (b := y) (K := 138) (L := 125) h1 h2 (by omega) (by decide) (by decide)
    have h5 : fF (FP.fdiv x y) := fF_mg (K := 141) h4 (by decide)
    have h6 := fdiv_lo (a := 143) (b := 158) (e := 134) hx.1 hy.1 (by omega) (fz_Ul (e := 0) hx (by omega)) (Nat.le_of_lt (fz_U (e := 15) hy (by omega))) rfl (by decide)
    exact ⟨okX_of h5 (Nat.le_trans (Nat.pow_le_pow_right (by decide) (by decide)) h6), h4, fun _ => h6⟩
/-- the width less two sums -/
theorem num_ok {w r s : UInt32} {mw mr ms : Int} (hw : fU w mw) (hr : fU r mr) (hs : fU s ms) (h1 : 1280 ≤ mw) (h2 : mw ≤ 24320) (h3 : 0 ≤ mr) (h4 : mr ≤ 26624) (h5 : 0 ≤ ms) (h6 : ms ≤ 49152) :
    fU (FP.fsub w r) (mw - mr) ∧ fU (FP.fsub (FP.fsub w r) s) (mw - mr - ms) ∧ (mw - mr - ms = 0 → FP.fsub (FP.fsub w r) s = FP.fconst0) := by
  have a1 := fU_sub hw hr (by omega)
  have a2 := fU_sub a1 hs (by omega)
  refine ⟨a1, a2, fun h0 => ?_⟩
  have hb : (FP.fsub w r).toNat < 2 ^ 31 := by
    by_cases h9 : mw - mr = 0
    · rw [fsub_0 hw.1 hr.1 (by rw [hw.2, hr.2, show mw = mr by omega]) (pos_bits hw.1 (by rw [hw.2]; exact Int.mul_pos (by omega) U6_pos))]
      decide
    · exact pos_bits a1.1 (by rw [a1.2]; exact Int.mul_pos (by omega) U6_pos)
  exact fsub_0 a1.1 hs.1 (by rw [a1.2, hs.2, show mw - mr = ms by omega]) hb
theorem bal_ok {W : UInt32} {ids fls rods : Nat → UInt32} {n : Nat} (H : spK W ids fls rods n) (h : Nat → Bool) : okBal W ids fls rods h n ∧ okQ (balF W ids fls rods h n) := by
  obtain ⟨hn, ⟨mw, hw, hw1, hw2⟩, hi, hf, hr⟩ := H
  obtain ⟨mr, r1, r2, r3, _⟩ := bsum_fu (h := h) (b := true) (by decide) (by decide) (by decide) (k := n) (by omega) hr
  obtain ⟨mi, i1, i2, i3, _⟩ := bsum_fu (h := h) (b := false) (by decide) (by decide) (by decide) (k := n) (by omega) hi
  obtain ⟨mf, f1, f2, f3, f4, f5⟩ := bsum_fu (h := h) (b := false) (by decide) (by decide) (by decide) (k := n) (by omega) hf
  obtain ⟨n1, n2, n3⟩ := num_ok hw r1 i1 hw1 hw2 r2 (by omega) i2 (by omega)
  have hq : fgt (bsum h false fls n) FP.fconst0 = true → okQ (FP.fdiv (FP.fsub (FP.fsub W (bsum h true rods n)) (bsum h false ids n)) (bsum h false fls n)) := by
    intro hg
    have hp := (fgt_iff f1.1 fF_0).mp hg
    rw [fz_0] at hp
    have hp := (fU_pos f1).mp hp
    have : 16 ≤ mf := by
      by_cases he : ∃ j, j < n ∧ h j = false
      · exact f4 he
      · have := f5 (fun j hj h9 => he ⟨j, hj, h9⟩); omega
    exact quo_ok n2 (by omega) n3 f1 this (by omega)
  refine ⟨⟨fun k hk _ => bs_fF (by decide) (by decide) (by decide) hn hk hr, fun k hk _ => ⟨bs_fF (by decide) (by decide) (by decide) hn hk hi, bs_fF (by decide) (by decide) (by decide) hn hk hf⟩, fun hg => ⟨fF_nn n1.1, fF_nn n2.1, fF_nn (hq hg).1.1⟩⟩, ?_⟩
  unfold balF
  by_cases hg : fgt (bsum h false fls n) FP.fconst0 = true
  · rw [if_pos hg]; exact hq hg
  · rw [if_neg hg]; exact okQ_0
/-- the sum of the springs of those not held is above 0 if there is one -/
theorem bal_pos {W : UInt32} {ids fls rods : Nat → UInt32} {n : Nat} (H : spK W ids fls rods n) (h : Nat → Bool) : fgt (bsum h false fls n) FP.fconst0 = true ↔ ∃ j, j < n ∧ h j = false := by
  obtain ⟨hn, _, _, hf, _⟩ := H
  obtain ⟨mf, f1, f2, f3, f4, f5⟩ := bsum_fu (h := h) (b := false) (by decide) (by decide) (by decide) (k := n) (by omega) hf
  rw [fgt_iff f1.1 fF_0, fz_0, fU_pos f1]
  constructor
  · intro hp
    by_cases he : ∃ j, j < n ∧ h j = false
    · exact he
    · have := f5 (fun j hj h9 => he ⟨j, hj, h9⟩); omega
  · intro he
    have := f4 he
    omega
theorem wan_ok {x i f : UInt32} {mi mf : Int} (hx : okQ x) (hi : fU i mi) (hi2 : 192 ≤ mi ∧ mi ≤ 1536) (hf : fU f mf) (hf2 : 16 ≤ mf ∧ mf ≤ 768) : vf_n32 (FP.fmul x f) ∧ vf_n32 (FP.fadd i (FP.fmul x f)) ∧ (FP.fadd i (FP.fmul x f)).toNat % 2 ^ 31 < 148 * 2 ^ 23 := by
  have h1 := FP.Core.fmul_mag (a := x) (b := f) (Ka := 141) (Kb := 131) hx.2.1 (mg_U (e := 10) hf (by omega)) (by decide) (by decide)
  have h2 := mg_U (e := 11) hi (by omega)
  have h3 := FP.Core.fadd_mag (a := i) (b := FP.fmul x f) (K := 146) (by omega) h1 (by decide)
  exact ⟨fF_nn (fF_mg (K := 146) h1 (by decide)), fF_nn (fF_mg (K := 148) h3 (by decide)), h3⟩
/-- the values of a stretch of columns that may be -/
theorem setV_okQ {g : Nat → Int32} {w : Int32} {a n N : Nat} (hg : okG g N) (hw : okWd w) (hn : n ≤ 32) (han : a + n ≤ N) : okQ (setV g w a n).2 := by
  have h := (rnV_fix (W := FP.i2f w) (ids := fun j => idG g (a + j)) (fls := fun j => flG g (a + j)) (rods := fun j => roG g (a + j)) (n := n) 32 (fun _ => false) (by rw [cntH_none]; omega)).2
  show okQ (rnV (FP.i2f w) (fun j => idG g (a + j)) (fun j => flG g (a + j)) (fun j => roG g (a + j)) n (32 + 1) (fun _ => false)).2
  rw [h]
  exact (bal_ok (spK_of hg hw hn han) _).2
theorem fF_lt {x : UInt32} {K : Nat} (h : x.toNat % 2 ^ 31 < K * 2 ^ 23) (hK : K ≤ 255) (h1 : 1 ≤ K) : fF x ∧ (fz x).natAbs < 2 ^ (22 + K) :=
  ⟨fF_mg h hK, (mg_lt (fF_mg h hK).ne_nan h1).mp h⟩
theorem two150 : (128 : Int) * (U6 : Int) = ((2 ^ 150 : Nat) : Int) := by unfold U6; rw [show (128 : Int) = ((128 : Nat) : Int) from rfl, ← Int.natCast_mul]
theorem lenV_ok {g : Nat → Int32} {w : Int32} {a n N j : Nat} (hg : okG g N) (hw : okWd w) (hn : n ≤ 32) (han : a + n ≤ N) (hj : j < n) : fF (lenV g w a n j) ∧ ((2 ^ 150 : Nat) : Int) ≤ fz (lenV g w a n j) ∧ fz (lenV g w a n j) < ((2 ^ 170 : Nat) : Int) := by
  obtain ⟨mr, r1, r2, r3⟩ := ro_fu (hg (a + j) (by omega))
  have hrod : ((2 ^ 150 : Nat) : Int) ≤ fz (roG g (a + j)) := by
    rw [r1.2, ← two150]
    exact Int.mul_le_mul_of_nonneg_right r2 (Int.le_of_lt U6_pos)
  unfold lenV
  by_cases h : (setV g w a n).1 j = true
  · rw [if_pos h]
    refine ⟨r1.1, hrod, ?_⟩
    have := fz_U (e := 10) r1 (by omega)
    have h2 : (2 : Nat) ^ (10 + 143) ≤ 2 ^ 170 := Nat.pow_le_pow_right (by decide) (by decide)
    omega
  · rw [if_neg h]
    obtain ⟨⟨mi, i1, i2⟩, ⟨mf, f1, f2⟩⟩ := id_fu (hg (a + j) (by omega))
    have hq := setV_okQ (a := a) hg hw hn han
    obtain ⟨w1, w2, w3⟩ := wan_ok hq i1 i2 f1 f2
    obtain ⟨w4, w5⟩ := fF_lt w3 (by decide) (by decide)
    have hfix := (rnV_fix (W := FP.i2f w) (ids := fun j => idG g (a + j)) (fls := fun j => flG g (a + j)) (rods := fun j => roG g (a + j)) (n := n) 32 (fun _ => false) (by rw [cntH_none]; omega)).1
    have hno := anyB_false hfix j hj
    unfold nwV at hno
    have hno : (!((setV g w a n).1 j) && flt (FP.fadd (idG g (a + j)) (FP.fmul (setV g w a n).2 (flG g (a + j)))) (roG g (a + j))) = false := hno
    rw [Bool.eq_false_iff.mpr h] at hno
    have hno : flt (FP.fadd (idG g (a + j)) (FP.fmul (setV g w a n).2 (flG g (a + j)))) (roG g (a + j)) = false := by simpa using hno
    have hge : fz (roG g (a + j)) ≤ fz (FP.fadd (idG g (a + j)) (FP.fmul (setV g w a n).2 (flG g (a + j)))) := by
      refine Int.not_lt.mp fun hlt => ?_
      rw [(flt_iff w4 r1.1).mpr hlt] at hno
      exact absurd hno (by decide)
    exact ⟨w4, Int.le_trans hrod hge, by omega⟩
theorem g_zv {V : FP.Core.Datum} {k e : Nat} (h : FP.Core.zval FP.Core.b32 V = FP.Core.signed false (k * 2 ^ e)) : FP.Core.zval FP.Core.b32 V = ((k * 2 ^ e : Nat) : Int) := h
/-- sums of what is not negative: bounds -/
theorem fadd_nonneg {x y : UInt32} {k e : Nat} (hx : fF x) (hy : fF y) (h1 : 0 ≤ fz x) (h2 : 0 ≤ fz y) (h3 : fz x ≤ ((k * 2 ^ e : Nat) : Int)) (h4 : fz y ≤ ((2 ^ e : Nat) : Int)) (hk : k + 1 < 2 ^ 24) (he : e ≤ 250) :
    fF (FP.fadd x y) ∧ fz x ≤ fz (FP.fadd x y) ∧ fz y ≤ fz (FP.fadd x y) ∧ fz (FP.fadd x y) ≤ (((k + 1) * 2 ^ e : Nat) : Int) := by
  have a1 : fz x ≤ fz (FP.fadd x y) := fadd_ge hx hy (FP.Core.val32_fits x) hx.ne_nan (show fz x ≤ _ by omega)
  have a2 : fz y ≤ fz (FP.fadd x y) := fadd_ge hx hy (FP.Core.val32_fits y) hy.ne_nan (show fz y ≤ _ by omega)
  obtain ⟨V, hV, ⟨c, q, hc⟩, hz⟩ := g_repr good32 false hk (two_p e he)
  have a3 : fz (FP.fadd x y) ≤ (((k + 1) * 2 ^ e : Nat) : Int) := by
    rw [← g_zv hz]
    refine fadd_le hx hy hV (g_fin_ne hc) ?_
    rw [g_zv hz, Nat.add_mul, Nat.one_mul]
    omega
  refine ⟨fF_of (fadd_nn hx hy) ?_, a1, a2, a3⟩
  have b1 : (k + 1) * 2 ^ e ≤ 2 ^ 24 * 2 ^ 250 := Nat.mul_le_mul (by omega) (Nat.pow_le_pow_right (by decide) he)
  rw [← Nat.pow_add] at b1
  have b2 : (2 : Nat) ^ (24 + 250) < 2 ^ 277 := Nat.pow_lt_pow_right (by decide) (by decide)
  omega
theorem atV_ok {g : Nat → Int32} {w : Int32} {a n N : Nat} (hg : okG g N) (hw : okWd w) (hn : n ≤ 32) (han : a + n ≤ N) : ∀ k, k ≤ n → fF (atV g w a n k) ∧ 0 ≤ fz (atV g w a n k) ∧ fz (atV g w a n k) ≤ ((k * 2 ^ 170 : Nat) : Int) ∧ (0 < k → ((2 ^ 150 : Nat) : Int) ≤ fz (atV g w a n k)) := by
  intro k
  induction k with
  | zero =>
    intro _
    have e : atV g w a n 0 = FP.fconst0 := rfl
    rw [e, fz_0]
    exact ⟨fF_0, Int.le_refl _, by simp, fun h => by omega⟩
  | succ k ih =>
    intro hk
    obtain ⟨a1, a2, a3, a4⟩ := ih (by omega)
    obtain ⟨b1, b2, b3⟩ := lenV_ok hg hw hn han (show k < n by omega)
    have e : atV g w a n (k + 1) = FP.fadd (atV g w a n k) (lenV g w a n k) := rfl
    have hp : (0 : Int) < ((2 ^ 150 : Nat) : Int) := Int.natCast_pos.mpr (Nat.two_pow_pos _)
    obtain ⟨c1, c2, c3, c4⟩ := fadd_nonneg (k := k) (e := 170) a1 b1 a2 (by omega) a3 (by omega) (by omega) (by decide)
    rw [e]
    exact ⟨c1, by omega, c4, fun _ => by omega⟩
theorem okX_pos {x : UInt32} (h : fF x) (h2 : ((2 ^ 150 : Nat) : Int) ≤ fz x) : okX x := okX_of h (by
  have : (2 : Nat) ^ 23 ≤ 2 ^ 150 := Nat.pow_le_pow_right (by decide) (by decide)
  omega)
theorem lenV_okX {g : Nat → Int32} {w : Int32} {a n N j : Nat} (hg : okG g N) (hw : okWd w) (hn : n ≤ 32) (han : a + n ≤ N) (hj : j < n) : okX (lenV g w a n j) := okX_pos (lenV_ok hg hw hn han hj).1 (lenV_ok hg hw hn han hj).2.1
theorem atV_okX {g : Nat → Int32} {w : Int32} {a n N k : Nat} (hg : okG g N) (hw : okWd w) (hn : n ≤ 32) (han : a + n ≤ N) (hk : k ≤ n) : okX (atV g w a n k) := by
  have h := atV_ok hg hw hn han k hk
  by_cases h0 : k = 0
  · subst h0; exact okX_0
  · exact okX_pos h.1 (h.2.2.2 (by omega))
/-! settle, for columns that may be -/
theorem tk_spK {S S2 : PSt} {r q a n N : Nat} {w : Int32} (hg : okG (S.1 (q + 1)) N) (hw : okWd w) (hn : n ≤ 32) (han : a + n ≤ N) (h : sameSp (tk S r q a w n) S2 r) : spK (S2.2.1 r 8) (S2.2.1 (r + 1)) (S2.2.1 (r + 2)) (S2.2.1 (r + 3)) n := by
  have H := spK_of (a := a) (n := n) hg hw hn han
  refine ⟨hn, ?_, fun j hj => ?_, fun j hj => ?_, fun j hj => ?_⟩
  · rw [h.2.2.2.1, show (tk S r q a w n).2.1 r 8 = FP.i2f w by simp [tk]]
    exact H.2.1
  · rw [h.1, show (tk S r q a w n).2.1 (r + 1) j = idG (S.1 (q + 1)) (a + j) by simp [tk, hj]; rfl]
    exact H.2.2.1 j hj
  · rw [h.2.1, show (tk S r q a w n).2.1 (r + 2) j = flG (S.1 (q + 1)) (a + j) by simp [tk, hj]; rfl]
    exact H.2.2.2.1 j hj
  · rw [h.2.2.1, show (tk S r q a w n).2.1 (r + 3) j = roG (S.1 (q + 1)) (a + j) by simp [tk, hj]; rfl]
    exact H.2.2.2.2 j hj
theorem tk_okSp {S : PSt} {r q a n N : Nat} {w : Int32} (hg : okG (S.1 (q + 1)) N) (hw : okWd w) (hn : n ≤ 32) (han : a + n ≤ N) : okSp (tk S r q a w n) r n := by
  intro S2 h2
  have H := tk_spK hg hw hn han h2
  have hb := bal_ok H (hd S2 r)
  refine ⟨hb.1, fun k hk => ?_⟩
  obtain ⟨mi, i1, i2⟩ := H.2.2.1 k hk
  obtain ⟨mf, f1, f2⟩ := H.2.2.2.1 k hk
  have hq : okQ ((pSF S2 r 9 (balS S2 r n)).2.1 r 9) := by rw [pSF_p]; exact hb.2
  have hi : fU ((pSF S2 r 9 (balS S2 r n)).2.1 (r + 1) k) mi := by rw [pSF_o (by omega)]; exact i1
  have hf : fU ((pSF S2 r 9 (balS S2 r n)).2.1 (r + 2) k) mf := by rw [pSF_o (by omega)]; exact f1
  obtain ⟨w1, w2, _⟩ := wan_ok hq hi i2 hf f2
  exact ⟨w1, w2⟩
theorem tk_hlen {S : PSt} {r q a n N : Nat} {w : Int32} (hg : okG (S.1 (q + 1)) N) (hw : okWd w) (hn : n ≤ 32) (han : a + n ≤ N) (k : Nat) (hk : k < n) : vf_n32 (FP.fadd (sumF (lenS (rndS r n 33 (cfS (tk S r q a w n) r n)) r) k) (lenS (rndS r n 33 (cfS (tk S r q a w n) r n)) r k)) := by
  rw [stl_len hn hk, show sumF (lenS (rndS r n 33 (cfS (tk S r q a w n) r n)) r) k = atV (S.1 (q + 1)) w a n k from sumF_congr fun i hi => stl_len hn (by omega)]
  exact nn_of (fadd_nn (atV_ok hg hw hn han k (by omega)).1 (lenV_ok hg hw hn han hk).1)
theorem sp_settleG {sh : List PSh} {S : PSt} {r q N x y : Nat} {w : Int32} (hs : isSt sh r) (hq : isSg sh q) (hqr : q + 1 ≠ r) (hg : okG (S.1 (q + 1)) N) (hw : okWd w) (hN : N ≤ 32) (hxy : x ≤ y) (hy : y < N) : pF mX6_settle 5 [.ref r, .ref q, .int (nI x), .int (nI y), .int w] sh S (stl S r q x w (y - x + 1)) none :=
  sp_X6_settle (a := x) (n := y - x + 1) hs hq hqr (by omega) (by omega) (by omega) (fun i _ hi _ => (hg i (by omega)).2.1) (tk_okSp hg hw (by omega) (by omega)) (tk_hlen hg hw (by omega) (by omega))
/-! the best, for columns that may be -/
theorem fmul_sgn {x y : UInt32} (hx : fF x) (hy : fF y) : FP.Core.sgn (FP.Core.val32 (FP.fmul x y)) = (FP.Core.sgn (FP.Core.val32 x) != FP.Core.sgn (FP.Core.val32 y)) := by
  obtain ⟨s, c, q, h1⟩ := hx
  obtain ⟨t, d, r, h2⟩ := hy
  have hv := FP.Core.val32_fmul x y
  rw [h1, h2] at hv
  rw [h1, h2]
  show FP.Core.sgn (FP.Core.val32 (FP.Core.fmul x y)) = _
  rw [hv]
  exact FP.Core.sgn_roundRatio _ _ _ _ _
theorem fz_sgn {x : UInt32} (h : FP.Core.sgn (FP.Core.val32 x) = false) : 0 ≤ fz x := by
  unfold fz FP.Core.zval
  rw [h]
  exact Int.natCast_nonneg _
theorem c100 : fF 1120403456 ∧ (1120403456 : UInt32).toNat % 2 ^ 31 < 134 * 2 ^ 23 ∧ 2 ^ 155 ≤ (fz 1120403456).natAbs ∧ FP.Core.sgn (FP.Core.val32 1120403456) = false :=
  ⟨(fF_bits _).mpr (by decide), by decide, by decide +kernel, by decide +kernel⟩
theorem c2 : fF FP.fconst2 ∧ FP.fconst2.toNat % 2 ^ 31 < 129 * 2 ^ 23 ∧ 2 ^ 150 ≤ (fz FP.fconst2).natAbs ∧ FP.Core.sgn (FP.Core.val32 FP.fconst2) = false :=
  ⟨(fF_bits _).mpr (by decide), by decide, by decide +kernel, by decide +kernel⟩
/-- what a badness may be -/
def okT (k : Nat) (x : UInt32) : Prop := okX x ∧ 0 ≤ fz x ∧ fz x ≤ ((k * 2 ^ 189 : Nat) : Int)
theorem bad_ok {q : UInt32} (hq : okQ q) : okT 1 (badF q) ∧ vf_n32 (FP.fmul 1120403456 q) ∧ vf_n32 (FP.fmul (FP.fmul 1120403456 q) q) ∧ vf_n32 (FP.fmul (FP.fmul (FP.fmul 1120403456 q) q) FP.fconst2) := by
  obtain ⟨⟨hF, hX⟩, hm, hlo⟩ := hq
  have m1 := FP.Core.fmul_mag (a := 1120403456) (b := q) (Ka := 134) (Kb := 141) c100.2.1 hm (by decide) (by decide)
  obtain ⟨a1, a2⟩ := fF_lt (K := 149) m1 (by decide) (by decide)
  have m2 := FP.Core.fmul_mag (a := FP.Core.fmul 1120403456 q) (b := q) (Ka := 149) (Kb := 141) m1 hm (by decide) (by decide)
  obtain ⟨b1, b2⟩ := fF_lt (K := 164) m2 (by decide) (by decide)
  have m3 := FP.Core.fmul_mag (a := FP.Core.fmul (FP.Core.fmul 1120403456 q) q) (b := FP.fconst2) (Ka := 164) (Kb := 129) m2 c2.2.1 (by decide) (by decide)
  obtain ⟨d1, d2⟩ := fF_lt (K := 167) m3 (by decide) (by decide)
  refine ⟨?_, fF_nn a1, fF_nn b1, fF_nn d1⟩
  have s1 := fmul_sgn c100.1 hF
  have s2 := fmul_sgn a1 hF
  have s3 := fmul_sgn b1 c2.1
  have e2 : FP.Core.sgn (FP.Core.val32 (FP.fmul (FP.fmul 1120403456 q) q)) = false := by
    show FP.Core.sgn (FP.Core.val32 (FP.fmul (FP.Core.fmul 1120403456 q) q)) = false
    rw [s2]
    show ((FP.Core.sgn (FP.Core.val32 (FP.fmul 1120403456 q))) != _) = false
    rw [s1, c100.2.2.2]
    cases FP.Core.sgn (FP.Core.val32 q) <;> rfl
  have e3 : FP.Core.sgn (FP.Core.val32 (FP.fmul (FP.fmul (FP.fmul 1120403456 q) q) FP.fconst2)) = false := by
    show FP.Core.sgn (FP.Core.val32 (FP.fmul (FP.Core.fmul (FP.Core.fmul 1120403456 q) q) FP.fconst2)) = false
    rw [s3]
    show ((FP.Core.sgn (FP.Core.val32 (FP.fmul (FP.fmul 1120403456 q) q))) != _) = false
    rw [e2, c2.2.2.2]
    rfl
  by_cases h0 : q = 0
  · rw [h0]
    have e : badF 0 = FP.fconst0 := by decide +kernel
    rw [e]
    exact ⟨okX_0, by rw [fz_0]; exact Int.le_refl _, by rw [fz_0]; exact Int.natCast_nonneg _⟩
  · have l0 := hlo h0
    have l1 := fmul_lo (e := 140) c100.1 hF c100.2.2.1 l0 rfl (by decide)
    have l2 := fmul_lo (e := 125) a1 hF l1 l0 rfl (by decide)
    have l3 := fmul_lo (e := 126) b1 c2.1 l2 c2.2.2.1 rfl (by decide)
    have p1 : (2 : Nat) ^ 23 ≤ 2 ^ 125 := Nat.pow_le_pow_right (by decide) (by decide)
    have p2 : (2 : Nat) ^ 23 ≤ 2 ^ 126 := Nat.pow_le_pow_right (by decide) (by decide)
    have p3 : (2 : Nat) ^ (22 + 164) ≤ 1 * 2 ^ 189 := by rw [Nat.one_mul]; exact Nat.pow_le_pow_right (by decide) (by decide)
    have p4 : (2 : Nat) ^ (22 + 167) ≤ 1 * 2 ^ 189 := by rw [Nat.one_mul]; exact Nat.pow_le_pow_right (by decide) (by decide)
    unfold badF
    split
    · exact ⟨okX_of d1 (Nat.le_trans p2 l3), fz_sgn e3, by have := d2; show fz (FP.Core.fmul (FP.Core.fmul (FP.Core.fmul 1120403456 q) q) FP.fconst2) ≤ _; omega⟩
    · exact ⟨okX_of b1 (Nat.le_trans p1 l2), fz_sgn e2, by have := b2; show fz (FP.Core.fmul (FP.Core.fmul 1120403456 q) q) ≤ _; omega⟩
/-- the quotient of a badness -/
theorem qF_ok {W : UInt32} {ids fls rods : Nat → UInt32} {n : Nat} (H : spK W ids fls rods n) : okBad W ids fls n ∧ okT 1 (badF (qF W ids fls n)) ∧ okSum rods n ∧ okQ (qF W ids fls n) := by
  obtain ⟨hn, ⟨mw, hw, hw1, hw2⟩, hi, hf, hr⟩ := H
  obtain ⟨mi, i1, i2, i3, _⟩ := bsum_fu (h := fun _ => true) (b := true) (by decide) (by decide) (by decide) (k := n) (by omega) hi
  obtain ⟨mf, f1, f2, f3, f4, f5⟩ := bsum_fu (h := fun _ => true) (b := true) (by decide) (by decide) (by decide) (k := n) (by omega) hf
  rw [← sumF_b] at i1 f1
  have n1 := fU_sub hw i1 (by omega)
  have n2 : mw - mi = 0 → FP.fsub W (sumF ids n) = FP.fconst0 := fun h0 => fsub_0 hw.1 i1.1 (by rw [hw.2, i1.2, show mw = mi by omega]) (pos_bits hw.1 (by rw [hw.2]; exact Int.mul_pos (by omega) U6_pos))
  have hq : fgt (sumF fls n) FP.fconst0 = true → okQ (FP.fdiv (FP.fsub W (sumF ids n)) (sumF fls n)) := by
    intro hg
    have hp := (fgt_iff f1.1 fF_0).mp hg
    rw [fz_0] at hp
    have hp := (fU_pos f1).mp hp
    have : 16 ≤ mf := by
      by_cases he : ∃ j, j < n ∧ (fun _ : Nat => true) j = true
      · exact f4 he
      · have := f5 (fun j hj h9 => he ⟨j, hj, h9⟩); omega
    exact quo_ok n1 (by omega) n2 f1 this (by omega)
  have hqF : okQ (qF W ids fls n) := by
    unfold qF
    by_cases hg : fgt (sumF fls n) FP.fconst0 = true
    · rw [if_pos hg]; exact hq hg
    · rw [if_neg hg]; exact okQ_0
  have hb := bad_ok hqF
  have hsum : ∀ {f : Nat → UInt32} {lo hi : Int}, 0 ≤ lo → lo ≤ hi → hi ≤ 2000 → (∀ j, j < n → ∃ m : Int, fU (f j) m ∧ lo ≤ m ∧ m ≤ hi) → okSum f n := by
    intro f lo hi h1 h2 h3 h4 k hk
    rw [sumF_b]
    exact bs_fF h1 h2 h3 hn hk h4
  exact ⟨⟨hsum (by decide) (by decide) (by decide) hi, hsum (by decide) (by decide) (by decide) hf, fF_nn n1.1, fun hg => fF_nn (hq hg).1.1, hb.2.1, hb.2.2.1, hb.2.2.2⟩, hb.1, hsum (by decide) (by decide) (by decide) hr, hqF⟩
