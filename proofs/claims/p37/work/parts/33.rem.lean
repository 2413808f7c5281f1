/-! remainders -/
theorem dsub_ex {x y : UInt64} {m e : Nat} (hx : dF x) (hy : dF y) (hm : m < 2 ^ 53) (he : e ≤ 2000) (h : dz x - dz y = ((m * 2 ^ e : Nat) : Int)) : dF (FP.dsub x y) ∧ dz (FP.dsub x y) = ((m * 2 ^ e : Nat) : Int) := by
  obtain ⟨s, c, q, h1⟩ := hx
  obtain ⟨t, d, r, h2⟩ := hy
  have hneg : FP.Core.negate (FP.Core.val64 y) = .fin (!t) d r := by rw [h2]; rfl
  obtain ⟨sg, n, e', h3, h4, h5⟩ := FP.Core.sum_units (f := FP.Core.b64) (s := s) (c := c) (q := q) (by rw [← h1]; exact FP.Core.val64_fits x) (by rw [← hneg]; exact FP.Core.negate_fits (FP.Core.val64_fits y))
  have hv := FP.Core.val64_dsub x y
  rw [hneg, h1, h3] at hv
  have hs : FP.Core.signed sg (FP.Core.inUnits n e' FP.Core.b64.qmin) = FP.Core.signed false (m * 2 ^ e) := by
    rw [h5, ← h1, ← hneg, FP.Core.zval_negate]
    exact h
  obtain ⟨a1, c', q', a2⟩ := g_exact good64 h4 hm (by
    have q1 : FP.Core.b64.qmin = -1074 := FP.Core.qmin_b64
    have q2 : FP.Core.b64.qmax = 971 := by decide
    omega) hs
  rw [← hv] at a1 a2
  exact ⟨⟨sg, c', q', a2⟩, a1⟩
theorem dmul2_z {p : UInt64} {c : Nat} {q : Int} (hp : dD p false c q) (hq : q ≤ 899) : dz (FP.dmul p d2c) = 2 * dz p := by
  rw [dz_D (dD_mul2 hp hq), dz_D hp, show (q + 1 + 1074).toNat = (q + 1074).toNat + 1 by have := hp.2.2.2.1; omega, Nat.pow_succ, ← Nat.mul_assoc, Nat.mul_comm, Int.natCast_mul]
  rfl
/-- the greatest double of p that is not above x -/
theorem rmA_run {x : UInt64} (hx : dF x) {c : Nat} : ∀ (T k : Nat) (p : UInt64) (i : Nat) (q : Int), dD p false c q → q + (T : Int) ≤ 800 → T < k → dz x < (2 ^ (T + 1) : Nat) * dz p →
    okA x k p ∧ ∃ t, t ≤ T ∧ (rmA x k p i).2 = i + t ∧ dD (rmA x k p i).1 false c (q + (t : Int)) ∧ dz x < 2 * dz (rmA x k p i).1 := by
  intro T
  induction T with
  | zero =>
    intro k p i q hp hq hk hlt
    cases k with
    | zero => omega
    | succ k =>
      have h2 := dmul2_z hp (by omega)
      have hlt : dz x < 2 * dz p := hlt
      have hn : ¬ dle (FP.dmul p d2c) x = true := fun h => by
        have := (dle_iff (dD_F (dD_mul2 hp (by omega))) hx).mp h
        omega
      unfold rmA okA
      rw [if_neg hn]
      exact ⟨⟨dF_nn (dD_F (dD_mul2 hp (by omega))), fun h => absurd h hn⟩, 0, Nat.le_refl 0, rfl, by rw [show q + ((0 : Nat) : Int) = q by omega]; exact hp, hlt⟩
  | succ T ih =>
    intro k p i q hp hq hk hlt
    cases k with
    | zero => omega
    | succ k =>
      have h2 := dmul2_z hp (by omega)
      have hD := dD_mul2 hp (by omega)
      unfold rmA okA
      by_cases hd : dle (FP.dmul p d2c) x = true
      · rw [if_pos hd]
        obtain ⟨a1, t, a2, a3, a4, a5⟩ := ih k (FP.dmul p d2c) (i + 1) (q + 1) hD (by omega) (by omega) (by
          rw [h2, ← Int.mul_assoc]
          have e : ((2 ^ (T + 1) : Nat) : Int) * 2 = ((2 ^ (T + 1 + 1) : Nat) : Int) := by rw [Nat.pow_succ 2 (T + 1), Int.natCast_mul]; rfl
          rw [e]
          exact hlt)
        exact ⟨⟨dF_nn (dD_F hD), fun _ => a1⟩, t + 1, by omega, by rw [a3]; omega, by rw [show q + ((t + 1 : Nat) : Int) = q + 1 + (t : Int) by omega]; exact a4, a5⟩
      · rw [if_neg hd]
        refine ⟨⟨dF_nn (dD_F hD), fun h => absurd h hd⟩, 0, Nat.zero_le _, rfl, by rw [show q + ((0 : Nat) : Int) = q by omega]; exact hp, ?_⟩
        refine Int.not_le.mp fun h => hd ((dle_iff (dD_F hD) hx).mpr ?_)
        rw [h2]; exact h
theorem mod_drop {L P k : Nat} (h : P * k ≤ L) : (L - P * k) % P = L % P := by
  conv => rhs; rw [show L = L - P * k + P * k by omega]
  rw [Nat.add_mul_mod_self_left]
/-- taken off part by part -/
theorem rmB_run {c eX eY : Nat} {r : Int} (hr : r + 1074 = (eY : Int)) (hc : 2 ^ 52 ≤ c) (hc2 : c < 2 ^ 53) (heX : eX ≤ 1800) : ∀ (n : Nat) (l p : UInt64) (L : Nat), dF l → dz l = (L : Int) → dD p false c (r + (n : Int)) → -990 ≤ r → r + (n : Int) ≤ 800 →
    L < 2 * (c * 2 ^ (eY + n)) → 2 ^ (min eX (eY + n)) ∣ L → L < 2 ^ 53 * 2 ^ eX →
    okB (n + 1) l p ∧ dF (rmB (n + 1) l p) ∧ dz (rmB (n + 1) l p) = ((L % (c * 2 ^ eY) : Nat) : Int) := by
  intro n
  induction n with
  | zero =>
    intro l p L hl hL hp hr2 hr3 h1 h2 h3
    have hP : dz p = ((c * 2 ^ (eY + 0) : Nat) : Int) := by rw [dz_D hp, show (r + ((0 : Nat) : Int) + 1074).toNat = eY + 0 by omega]
    have hhalf := dF_nn (dD_F (dD_div2 hp (by omega)))
    rw [Nat.add_zero] at hP h1 h2
    unfold rmB okB
    by_cases hg : dge l p = true
    · have hle := (dge_iff hl (dD_F hp)).mp hg
      rw [hP, hL] at hle
      have hle : c * 2 ^ eY ≤ L := by omega
      have hdv : 2 ^ (min eX eY) ∣ L - c * 2 ^ eY := (Nat.dvd_sub h2 (Nat.dvd_trans (Nat.pow_dvd_pow 2 (Nat.min_le_right eX eY)) (Nat.dvd_mul_left _ _)))
      obtain ⟨m, hm⟩ := hdv
      have hm2 : m < 2 ^ 53 := by
        refine Nat.lt_of_mul_lt_mul_left (a := 2 ^ (min eX eY)) ?_
        rw [← hm, Nat.mul_comm (2 ^ (min eX eY)) (2 ^ 53)]
        rcases Nat.le_total eX eY with h | h
        · rw [Nat.min_eq_left h]; omega
        · rw [Nat.min_eq_right h]
          have : c * 2 ^ eY < 2 ^ 53 * 2 ^ eY := Nat.mul_lt_mul_of_pos_right hc2 (Nat.two_pow_pos _)
          omega
      have he := dsub_ex (m := m) (e := min eX eY) hl (dD_F hp) hm2 (by omega) (by
        rw [hL, hP, Nat.mul_comm m, ← hm]
        omega)
      have hm3 : m * 2 ^ (min eX eY) = L - c * 2 ^ eY := by rw [Nat.mul_comm, ← hm]
      rw [hm3] at he
      rw [if_pos hg]
      refine ⟨⟨fun _ => dF_nn he.1, hhalf, trivial⟩, he.1, ?_⟩
      show dz (FP.dsub l p) = _
      rw [he.2, show L % (c * 2 ^ eY) = L - c * 2 ^ eY from by
        rw [Nat.mod_eq_sub_mod hle, Nat.mod_eq_of_lt (by omega)]]
    · rw [if_neg hg]
      have hlt : L < c * 2 ^ eY := by
        refine Nat.lt_of_not_le fun h => hg ((dge_iff hl (dD_F hp)).mpr ?_)
        rw [hP, hL]; omega
      exact ⟨⟨fun h => absurd h hg, hhalf, trivial⟩, hl, by show dz l = _; rw [hL, Nat.mod_eq_of_lt hlt]⟩
  | succ n ih =>
    intro l p L hl hL hp hr2 hr3 h1 h2 h3
    have hP : dz p = ((c * 2 ^ (eY + (n + 1)) : Nat) : Int) := by rw [dz_D hp, show (r + ((n + 1 : Nat) : Int) + 1074).toNat = eY + (n + 1) by omega]
    have hD := dD_div2 hp (by omega)
    rw [show r + ((n + 1 : Nat) : Int) - 1 = r + (n : Int) by omega] at hD
    have hhalf := dF_nn (dD_F hD)
    have hPk : c * 2 ^ (eY + (n + 1)) = c * 2 ^ eY * 2 ^ (n + 1) := by rw [Nat.pow_add, Nat.mul_assoc]
    have hP2 : c * 2 ^ (eY + (n + 1)) = 2 * (c * 2 ^ (eY + n)) := by rw [show eY + (n + 1) = eY + n + 1 by omega, Nat.pow_succ]; ac_rfl
    have hdn : 2 ^ (min eX (eY + n)) ∣ 2 ^ (min eX (eY + (n + 1))) := Nat.pow_dvd_pow 2 (by omega)
    show okB (n + 1 + 1) l p ∧ dF (rmB (n + 1) (if dge l p = true then FP.dsub l p else l) (FP.ddiv p d2c)) ∧ dz (rmB (n + 1) (if dge l p = true then FP.dsub l p else l) (FP.ddiv p d2c)) = _
    by_cases hg : dge l p = true
    · have hle := (dge_iff hl (dD_F hp)).mp hg
      rw [hP, hL] at hle
      have hle : c * 2 ^ (eY + (n + 1)) ≤ L := by omega
      have hdv : 2 ^ (min eX (eY + (n + 1))) ∣ L - c * 2 ^ (eY + (n + 1)) := (Nat.dvd_sub h2 (Nat.dvd_trans (Nat.pow_dvd_pow 2 (Nat.min_le_right eX (eY + (n + 1)))) (Nat.dvd_mul_left _ _)))
      have hdv2 := hdv
      obtain ⟨m, hm⟩ := hdv
      have hm2 : m < 2 ^ 53 := by
        refine Nat.lt_of_mul_lt_mul_left (a := 2 ^ (min eX (eY + (n + 1)))) ?_
        rw [← hm, Nat.mul_comm (2 ^ (min eX (eY + (n + 1)))) (2 ^ 53)]
        rcases Nat.le_total eX (eY + (n + 1)) with h | h
        · rw [Nat.min_eq_left h]; omega
        · rw [Nat.min_eq_right h]
          have : c * 2 ^ (eY + (n + 1)) < 2 ^ 53 * 2 ^ (eY + (n + 1)) := Nat.mul_lt_mul_of_pos_right hc2 (Nat.two_pow_pos _)
          omega
      have he := dsub_ex (m := m) (e := min eX (eY + (n + 1))) hl (dD_F hp) hm2 (by omega) (by
        rw [hL, hP, Nat.mul_comm m, ← hm]
        omega)
      have hm3 : m * 2 ^ (min eX (eY + (n + 1))) = L - c * 2 ^ (eY + (n + 1)) := by rw [Nat.mul_comm, ← hm]
      rw [hm3] at he
      obtain ⟨i1, i2, i3⟩ := ih (FP.dsub l p) (FP.ddiv p d2c) (L - c * 2 ^ (eY + (n + 1))) he.1 he.2 hD hr2 (by omega) (by omega) (Nat.dvd_trans hdn hdv2) (by omega)
      rw [if_pos hg]
      refine ⟨?_, i2, ?_⟩
      · show (dge l p = true → vf_n64 (FP.dsub l p)) ∧ vf_n64 (FP.ddiv p d2c) ∧ okB (n + 1) (if dge l p = true then FP.dsub l p else l) (FP.ddiv p d2c)
        rw [if_pos hg]
        exact ⟨fun _ => dF_nn he.1, hhalf, i1⟩
      · rw [i3, hPk, mod_drop (by rw [← hPk]; exact hle)]
    · have hlt : L < c * 2 ^ (eY + (n + 1)) := by
        refine Nat.lt_of_not_le fun h => hg ((dge_iff hl (dD_F hp)).mpr ?_)
        rw [hP, hL]; omega
      obtain ⟨i1, i2, i3⟩ := ih l (FP.ddiv p d2c) L hl hL hD hr2 (by omega) (by omega) (Nat.dvd_trans hdn h2) h3
      rw [if_neg hg]
      refine ⟨?_, i2, i3⟩
      show (dge l p = true → vf_n64 (FP.dsub l p)) ∧ vf_n64 (FP.ddiv p d2c) ∧ okB (n + 1) (if dge l p = true then FP.dsub l p else l) (FP.ddiv p d2c)
      rw [if_neg hg]
      exact ⟨fun h => absurd h hg, hhalf, i1⟩
/-- what remainder answers -/
theorem rm_run {x y : UInt64} {X eX c : Nat} {q : Int} (hx : dF x) (hX : dz x = (X : Int)) (hd : 2 ^ eX ∣ X) (hX2 : X < 2 ^ 53 * 2 ^ eX) (heX : eX ≤ 1800) (hy : dD y false c q) (hq1 : -400 ≤ q) (hq2 : q ≤ 200) (hX3 : X < 2 ^ 1200) :
    okRm x y ∧ dF (rmF x y) ∧ dz (rmF x y) = ((X % (c * 2 ^ (q + 1074).toNat) : Nat) : Int) := by
  have hc := hy.2.1
  have hc2 := hy.2.2.1
  have hpos : 0 < c * 2 ^ (q + 1074).toNat := Nat.mul_pos (by omega) (Nat.two_pow_pos _)
  have hg : dgt y FP.dconst0 = true := (dgt_iff (dD_F hy) dF_0).mpr (by rw [dz_0, dz_D hy]; omega)
  obtain ⟨a1, t, a2, a3, a4, a5⟩ := rmA_run hx 600 1100 y 0 q hy (by omega) (by omega) (by
    rw [hX, dz_D hy, ← Int.natCast_mul, Int.ofNat_lt]
    refine Nat.lt_of_lt_of_le hX3 ?_
    refine Nat.le_trans ?_ (Nat.mul_le_mul_left _ (Nat.mul_le_mul_right _ hc))
    rw [← Nat.pow_add, ← Nat.pow_add]
    exact Nat.pow_le_pow_right (by decide) (by omega))
  rw [Nat.zero_add] at a3
  have hz := dz_D a4
  have hexp : (q + (t : Int) + 1074).toNat = (q + 1074).toNat + t := by omega
  rw [hexp] at hz
  obtain ⟨b1, b2, b3⟩ := rmB_run (eX := eX) (eY := (q + 1074).toNat) (r := q) (by omega) hc hc2 heX t x (rmA x 1100 y 0).1 X hx hX a4 (by omega) (by omega) (by
    rw [hX, hz] at a5
    omega) (Nat.dvd_trans (Nat.pow_dvd_pow 2 (Nat.min_le_left _ _)) hd) hX2
  refine ⟨fun _ => ⟨a1, by rw [a3]; exact b1⟩, ?_⟩
  unfold rmF
  rw [if_pos hg, a3]
  exact ⟨b2, b3⟩
/-- written with all digits in one way only -/
theorem norm_one {c1 c2 a b : Nat} (h1 : 2 ^ 52 ≤ c1) (h2 : c1 < 2 ^ 53) (h3 : 2 ^ 52 ≤ c2) (h4 : c2 < 2 ^ 53) (h : c1 * 2 ^ a = c2 * 2 ^ b) : c1 = c2 ∧ a = b := by
  have hle : ∀ {c d x y : Nat}, 2 ^ 52 ≤ c → d < 2 ^ 53 → c * 2 ^ x = d * 2 ^ y → x ≤ y := by
    intro c d x y p1 p2 p3
    refine Nat.le_of_not_lt fun hlt => ?_
    have e1 : 2 ^ 52 * 2 ^ (y + 1) ≤ c * 2 ^ x := Nat.le_trans (Nat.mul_le_mul_left _ (Nat.pow_le_pow_right (by decide) hlt)) (Nat.mul_le_mul_right _ p1)
    have e2 : d * 2 ^ y < 2 ^ 53 * 2 ^ y := Nat.mul_lt_mul_of_pos_right p2 (Nat.two_pow_pos _)
    have e3 : 2 ^ 52 * 2 ^ (y + 1) = 2 ^ 53 * 2 ^ y := by rw [← Nat.pow_add, ← Nat.pow_add, show 52 + (y + 1) = 53 + y by omega]
    omega
  have hab : a = b := Nat.le_antisymm (hle h1 h4 h) (hle h3 h2 h.symm)
  subst hab
  exact ⟨Nat.eq_of_mul_eq_mul_right (Nat.two_pow_pos _) h, rfl⟩
/-- a number above 0, not too small, has all its digits -/
theorem dD_of {l : UInt64} {V : Nat} (hl : dF l) (hz : dz l = (V : Int)) (h1 : 2 ^ 700 ≤ V) (h2 : V < 2 ^ 1300) : ∃ c q, dD l false c q ∧ c * 2 ^ (q + 1074).toNat = V ∧ -500 ≤ q ∧ q ≤ 300 := by
  obtain ⟨s, c, q, hv⟩ := hl
  have hf := FP.Core.val64_fits l
  rw [hv] at hf
  obtain ⟨f1, f2, f3, f4⟩ := hf
  have e1 : FP.Core.b64.qmin = -1074 := FP.Core.qmin_b64
  have hzz : dz l = FP.Core.signed s (c * 2 ^ (q + 1074).toNat) := by
    unfold dz
    rw [hv]
    show FP.Core.signed s (c * 2 ^ (q - FP.Core.b64.qmin).toNat) = _
    rw [e1, show q - -1074 = q + 1074 by omega]
  have hp : 0 < (2 : Nat) ^ 700 := Nat.two_pow_pos _
  have habs : c * 2 ^ (q + 1074).toNat = V := by
    have := congrArg Int.natAbs (hzz.symm.trans hz)
    rw [g_signed_nat, Int.natAbs_natCast] at this
    exact this
  have hs : s = false := by
    cases s with
    | false => rfl
    | true =>
      exfalso
      rw [habs] at hzz
      have h9 : dz l = -(V : Int) := hzz
      omega
  subst hs
  have f1 : c < 2 ^ 53 := f1
  have q1 : 700 < 53 + (q + 1074).toNat := by
    refine Nat.lt_of_not_le fun hle => ?_
    have g1 : c * 2 ^ (q + 1074).toNat < 2 ^ 53 * 2 ^ (q + 1074).toNat := Nat.mul_lt_mul_of_pos_right f1 (Nat.two_pow_pos _)
    rw [← Nat.pow_add] at g1
    have g2 : (2 : Nat) ^ (53 + (q + 1074).toNat) ≤ 2 ^ 700 := Nat.pow_le_pow_right (by decide) hle
    rw [habs] at g1
    exact Nat.lt_irrefl _ (Nat.lt_of_lt_of_le (Nat.lt_of_lt_of_le g1 g2) h1)
  have hc : 2 ^ 52 ≤ c := by
    rcases f4 with h | h
    · exfalso; omega
    · rw [FP.Core.tails_b64] at h; exact h
  have q2 : 52 + (q + 1074).toNat < 1300 := by
    refine Nat.lt_of_not_le fun hle => ?_
    have g1 : 2 ^ 52 * 2 ^ (q + 1074).toNat ≤ c * 2 ^ (q + 1074).toNat := Nat.mul_le_mul_right _ hc
    rw [← Nat.pow_add] at g1
    have g2 : (2 : Nat) ^ 1300 ≤ 2 ^ (52 + (q + 1074).toNat) := Nat.pow_le_pow_right (by decide) hle
    rw [habs] at g1
    exact Nat.lt_irrefl _ (Nat.lt_of_lt_of_le h2 (Nat.le_trans g2 g1))
  exact ⟨c, q, ⟨hv, hc, f1, by omega, by omega⟩, habs, by omega, by omega⟩
