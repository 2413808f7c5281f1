/-! frames; the skyline's and the best's values -/
/-- cells below lo and from hi on hold what they held -/
def fr (lo hi : Nat) (S T : PSt) : Prop := ∀ x, x < lo ∨ hi ≤ x → T.1 x = S.1 x ∧ T.2.1 x = S.2.1 x ∧ T.2.2.1 x = S.2.2.1 x ∧ T.2.2.2 x = S.2.2.2 x
theorem fr_rf {lo hi : Nat} {S : PSt} : fr lo hi S S := fun _ _ => ⟨rfl, rfl, rfl, rfl⟩
theorem fr_tr {lo hi : Nat} {S T U : PSt} (h1 : fr lo hi S T) (h2 : fr lo hi T U) : fr lo hi S U := fun x hx => ⟨(h2 x hx).1.trans (h1 x hx).1, (h2 x hx).2.1.trans (h1 x hx).2.1, (h2 x hx).2.2.1.trans (h1 x hx).2.2.1, (h2 x hx).2.2.2.trans (h1 x hx).2.2.2⟩
theorem fr_wd {lo hi lo' hi' : Nat} {S T : PSt} (h : fr lo hi S T) (h1 : lo' ≤ lo) (h2 : hi ≤ hi') : fr lo' hi' S T := fun x hx => h x (by omega)
theorem fr_I {lo hi k j : Nat} {v : Int32} {S : PSt} (h1 : lo ≤ k) (h2 : k < hi) : fr lo hi S (pSI S k j v) := fun x hx => ⟨pU_ne (by omega), rfl, rfl, rfl⟩
theorem fr_F {lo hi k j : Nat} {v : UInt32} {S : PSt} (h1 : lo ≤ k) (h2 : k < hi) : fr lo hi S (pSF S k j v) := fun x hx => ⟨rfl, pU_ne (by omega), rfl, rfl⟩
theorem fr_J {lo hi k j : Nat} {v : Int64} {S : PSt} (h1 : lo ≤ k) (h2 : k < hi) : fr lo hi S (pSJ S k j v) := fun x hx => ⟨rfl, rfl, pU_ne (by omega), rfl⟩
theorem fr_D {lo hi k j : Nat} {v : UInt64} {S : PSt} (h1 : lo ≤ k) (h2 : k < hi) : fr lo hi S (pSD S k j v) := fun x hx => ⟨rfl, rfl, rfl, pU_ne (by omega)⟩
theorem fr_ly5 {lo hi a c : Nat} {x0 x1 x2 x3 x4 : Int32} {S : PSt} (h1 : lo ≤ a) (h2 : a < hi) : fr lo hi S (ly5 S a c x0 x1 x2 x3 x4) := fr_tr (fr_tr (fr_tr (fr_tr (fr_I h1 h2) (fr_I h1 h2)) (fr_I h1 h2)) (fr_I h1 h2)) (fr_I h1 h2)
theorem fr_cpI {lo hi a b k : Nat} {S : PSt} (h1 : lo ≤ b) (h2 : b < hi) : fr lo hi S (cpI S a b k) := fun x hx => ⟨by funext j; unfold cpI; dsimp only; rw [if_neg (by omega)], rfl, rfl, rfl⟩
theorem fr_cpS {lo hi a c b q k : Nat} {S : PSt} (h1 : lo ≤ a) (h2 : a < hi) : fr lo hi S (cpS S a c b q k) := fun x hx => ⟨by funext j; unfold cpS; dsimp only; rw [if_neg (by omega)], rfl, rfl, rfl⟩
theorem fr_clr {r s : Nat} {v n : Int32} {k : Nat} {S : PSt} : fr r (r + 7) S (clr S r s v n k) := fun x hx => ⟨by funext j; unfold clr; dsimp only; rw [if_neg (by omega), if_neg (by omega), if_neg (by omega)], rfl, rfl, rfl⟩
theorem fr_ssC {r q : Nat} {v n : Int32} {k : Nat} {S : PSt} : fr r (r + 4) S (ssC S r q v n k) := fun x hx => ⟨by funext j; unfold ssC; dsimp only; rw [if_neg (by omega), if_neg (by omega)], rfl, by funext j; unfold ssC; dsimp only; rw [if_neg (by omega)], rfl⟩
theorem fr_tk {S : PSt} {r q a : Nat} {w : Int32} {k : Nat} : fr r (r + 7) S (tk S r q a w k) := fun x hx => ⟨by funext j; unfold tk; dsimp only; rw [if_neg (by omega), if_neg (by omega)], by funext j; unfold tk; dsimp only; rw [if_neg (by omega), if_neg (by omega), if_neg (by omega), if_neg (by omega)], rfl, rfl⟩
theorem fr_hm {S : PSt} {r k : Nat} : fr r (r + 7) S (hm S r k) := fun x hx => ⟨by funext j; unfold hm; dsimp only; rw [if_neg (by omega)], rfl, rfl, rfl⟩
theorem fr_rd1 {S : PSt} {r n : Nat} : fr r (r + 7) S (rd1 S r n) := fr_tr (fr_F (by omega) (by omega)) fr_hm
theorem fr_rnd {r n : Nat} : ∀ (k : Nat) (S : PSt), fr r (r + 7) S (rndS r n k S) := by
  intro k
  induction k with
  | zero => intro S; exact fr_rf
  | succ k ih =>
    intro S
    unfold rndS
    split
    · exact fr_tr fr_rd1 (ih _)
    · exact fr_rd1
theorem fr_cf {S : PSt} {r k : Nat} : fr r (r + 7) S (cfS S r k) := fun x hx => ⟨by funext j; unfold cfS; dsimp only; rw [if_neg (by omega)], rfl, rfl, rfl⟩
theorem fr_ln {S : PSt} {r k : Nat} : fr r (r + 7) S (lnS S r k) := fun x hx => ⟨rfl, by funext j; unfold lnS; dsimp only; rw [if_neg (by omega), if_neg (by omega)], rfl, rfl⟩
theorem fr_stl {S : PSt} {r q a n : Nat} {w : Int32} : fr r (r + 7) S (stl S r q a w n) := fr_tr (fr_tr (fr_tr fr_tk fr_cf) (fr_rnd _ _)) fr_ln
theorem rd1_6 {S : PSt} {r n : Nat} : (rd1 S r n).1 r 6 = S.1 r 6 := by simp [rd1, hm, pSF]
theorem rnd_6 {r n : Nat} : ∀ (k : Nat) (S : PSt), (rndS r n k S).1 r 6 = S.1 r 6 := by
  intro k
  induction k with
  | zero => intro S; rfl
  | succ k ih =>
    intro S
    unfold rndS
    split
    · exact (ih _).trans rd1_6
    · exact rd1_6
theorem stl_6 {S : PSt} {r q a n : Nat} {w : Int32} : (stl S r q a w n).1 r 6 = nI a := by
  show (rndS r n 33 (cfS (tk S r q a w n) r n)).1 r 6 = _
  rw [rnd_6]
  simp [cfS, tk]
/-! the skyline -/
def cellV (g : Nat → Int32) (w : Int32) (a n k : Nat) : Int32 := FP.f2i (atV g w a n k)
def topG (g : Nat → Int32) (i : Nat) : Int32 := topV (g (5 * i + 0)) (g (5 * i + 2)) (g (5 * i + 4))
def botG (g : Nat → Int32) (i : Nat) : Int32 := botV (g (5 * i + 0)) (g (5 * i + 2))
/-- a cell behind k columns: is there ink, its upper, its lower end -/
def skV (g : Nat → Int32) (w : Int32) (a n : Nat) : Nat → Nat → Bool × Int32 × Int32
  | 0, _ => (false, 0, 0)
  | k + 1, x => if (cellV g w a n k).toInt.toNat ≤ x ∧ x < (inkE (cellV g w a n k) (g (5 * (a + k) + 3))).toInt.toNat then
      (true, if (skV g w a n k x).1 = true then mxI (topG g (a + k)) (skV g w a n k x).2.1 else topG g (a + k), if (skV g w a n k x).1 = true then mnI (botG g (a + k)) (skV g w a n k x).2.2 else botG g (a + k))
    else skV g w a n k x
def skR (T : PSt) (r : Nat) (f : Nat → Bool × Int32 × Int32) : Prop := ∀ x, x < 400 → (T.1 (r + 1) x = 0 ↔ (f x).1 = false) ∧ ((f x).1 = true → T.1 (r + 2) x = (f x).2.1 ∧ T.1 (r + 3) x = (f x).2.2)
theorem ink_r1 {S : PSt} {r c e x : Nat} {t b : Int32} (h : c ≤ x ∧ x < e) : (inkS S r c e t b).1 (r + 1) x = 1 := by simp [inkS, h]
theorem ink_r2 {S : PSt} {r c e x : Nat} {t b : Int32} (h : c ≤ x ∧ x < e) : (inkS S r c e t b).1 (r + 2) x = if S.1 (r + 1) x = 0 then t else mxI t (S.1 (r + 2) x) := by simp [inkS, h]
theorem ink_r3 {S : PSt} {r c e x : Nat} {t b : Int32} (h : c ≤ x ∧ x < e) : (inkS S r c e t b).1 (r + 3) x = if S.1 (r + 1) x = 0 then b else mnI b (S.1 (r + 3) x) := by simp [inkS, h]
theorem ink_out {S : PSt} {r c e x y : Nat} {t b : Int32} (h : ¬ (c ≤ x ∧ x < e)) : (inkS S r c e t b).1 y x = S.1 y x := by
  unfold inkS
  dsimp only
  rw [if_neg (fun q9 => h ⟨q9.1, q9.2.1⟩), if_neg (fun q9 => h ⟨q9.1, q9.2.1⟩), if_neg (fun q9 => h ⟨q9.1, q9.2.1⟩)]
theorem trS_rel {S : PSt} {r q t a n : Nat} {w : Int32} (hat : ∀ k, k < n → S.2.1 (t + 6) k = atV (S.1 (q + 1)) w a n k) : ∀ k, k ≤ n → skR (trS S r q t a k) r (skV (S.1 (q + 1)) w a n k) := by
  intro k
  induction k with
  | zero =>
    intro _ x hx
    refine ⟨⟨fun _ => rfl, fun _ => ?_⟩, fun h => absurd (show false = true from h) (by decide)⟩
    show (skc S r 400).1 (r + 1) x = 0
    simp [skc, hx]
  | succ k ih =>
    intro hk x hx
    have h := ih (by omega) x hx
    have e : FP.f2i (S.2.1 (t + 6) k) = cellV (S.1 (q + 1)) w a n k := by rw [hat k (by omega)]; rfl
    unfold trS skV
    rw [e]
    by_cases hc : (cellV (S.1 (q + 1)) w a n k).toInt.toNat ≤ x ∧ x < (inkE (cellV (S.1 (q + 1)) w a n k) (S.1 (q + 1) (5 * (a + k) + 3))).toInt.toNat
    · rw [if_pos hc, ink_r1 hc, ink_r2 hc, ink_r3 hc]
      refine ⟨⟨fun h9 => absurd h9 (by decide), fun h9 => absurd (show true = false from h9) (by decide)⟩, fun _ => ?_⟩
      by_cases hf : (skV (S.1 (q + 1)) w a n k x).1 = true
      · have h0 : ¬ (trS S r q t a k).1 (r + 1) x = 0 := fun q9 => by rw [h.1.mp q9] at hf; exact absurd hf (by decide)
        rw [if_neg h0, if_neg h0, if_pos hf, if_pos hf, (h.2 hf).1, (h.2 hf).2]
        exact ⟨rfl, rfl⟩
      · have h0 := h.1.mpr (Bool.eq_false_iff.mpr hf)
        rw [if_pos h0, if_pos h0, if_neg hf, if_neg hf]
        exact ⟨rfl, rfl⟩
    · rw [if_neg hc, ink_out hc, ink_out hc, ink_out hc]
      exact h
theorem fr_ink {S : PSt} {r c e : Nat} {t b : Int32} : fr r (r + 4) S (inkS S r c e t b) := fun x hx => ⟨by funext j; unfold inkS; dsimp only; rw [if_neg (by omega), if_neg (by omega), if_neg (by omega)], rfl, rfl, rfl⟩
theorem fr_skc {S : PSt} {r k : Nat} : fr r (r + 4) S (skc S r k) := fun x hx => ⟨by funext j; unfold skc; dsimp only; rw [if_neg (by omega)], rfl, rfl, rfl⟩
theorem fr_trS {S : PSt} {r q t a : Nat} : ∀ k, fr r (r + 4) S (trS S r q t a k) := by
  intro k
  induction k with
  | zero => exact fr_skc
  | succ k ih => exact fr_tr ih fr_ink
/-- how far two lines must lie apart, by the first k cells -/
def dsV (s1 s2 : Nat → Bool × Int32 × Int32) : Nat → Int32
  | 0 => 8
  | k + 1 => if (s1 k).1 = true ∧ (s2 k).1 = true then mxI (dsV s1 s2 k) ((s2 k).2.1 - (s1 k).2.2 + 2) else dsV s1 s2 k
def apV (g : Nat → Int32) (w : Int32) (a n c m : Nat) : Int32 := dsV (skV g w a n n) (skV g w c m m) 400
/-! the best -/
def fitV (g : Nat → Int32) (w : Int32) (a n : Nat) : Bool := fitB (FP.i2f w) (fun j => roG g (a + j)) n
def badV (g : Nat → Int32) (w : Int32) (a n : Nat) : UInt32 := badF (qF (FP.i2f w) (fun j => idG g (a + j)) (fun j => flG g (a + j)) n)
abbrev PBt : Type := (Nat → Int32) × (Nat → UInt32)
def rsV (g : Nat → Int32) (w : Int32) (p : Nat) (B : PBt) (k : Nat) : PBt :=
  if B.1 k = -1 then B
  else if fitV g w k (p - k) = true then
    (if B.1 p = -1 ∨ flt (FP.fadd (B.2 k) (badV g w k (p - k))) (B.2 p) = true then (fun j => if j = p then nI k else B.1 j, fun j => if j = p then FP.fadd (B.2 k) (badV g w k (p - k)) else B.2 j) else B)
  else B
def rcV (g : Nat → Int32) (w : Int32) (p : Nat) (B : PBt) : Nat → PBt
  | 0 => B
  | k + 1 => rsV g w p (rcV g w p B k) k
def isEnV (g : Nat → Int32) (n k : Nat) : Bool := decide (k = n) || decide (g (5 * (k - 1) + 0) = 2)
def wbV (B : PBt) (k : Nat) : PBt := (fun j => if j = k then -1 else B.1 j, B.2)
def fdV (g : Nat → Int32) (w : Int32) (n : Nat) : Nat → PBt
  | 0 => (fun _ => 0, fun _ => FP.fconst0)
  | k + 1 => if isEnV g n (k + 1) = true then rcV g w (k + 1) (wbV (fdV g w n k) (k + 1)) (k + 1) else wbV (fdV g w n k) (k + 1)
def beR (S : PSt) (r p : Nat) (B : PBt) : Prop := ∀ j, j ≤ p → S.1 (r + 1) j = B.1 j ∧ (B.1 j ≠ -1 → S.2.1 (r + 2) j = B.2 j)
theorem fitT_rel {S1 : PSt} {r q p k : Nat} {w : Int32} : fitT (tk S1 (r + 4) q k w (p - k)) r (p - k) = fitV (S1.1 (q + 1)) w k (p - k) := by
  unfold fitT fitV fitB
  rw [show (tk S1 (r + 4) q k w (p - k)).2.1 (r + 4) 8 = FP.i2f w by simp [tk]]
  rw [sumF_congr (f' := fun j => roG (S1.1 (q + 1)) (k + j)) (fun j hj => by simp [tk, hj]; rfl)]
theorem badT_rel {S1 : PSt} {r q p k : Nat} {w : Int32} : badT (tk S1 (r + 4) q k w (p - k)) r (p - k) = badV (S1.1 (q + 1)) w k (p - k) := by
  unfold badT badV qF
  rw [show (tk S1 (r + 4) q k w (p - k)).2.1 (r + 4) 8 = FP.i2f w by simp [tk]]
  rw [sumF_congr (f := (tk S1 (r + 4) q k w (p - k)).2.1 (r + 4 + 2)) (f' := fun j => flG (S1.1 (q + 1)) (k + j)) (fun j hj => by simp [tk, hj]; rfl)]
  rw [sumF_congr (f := (tk S1 (r + 4) q k w (p - k)).2.1 (r + 4 + 1)) (f' := fun j => idG (S1.1 (q + 1)) (k + j)) (fun j hj => by simp [tk, hj]; rfl)]
theorem tk_o1 {S1 : PSt} {r q p k j : Nat} {w : Int32} : (tk S1 (r + 4) q k w p).1 (r + 1) j = S1.1 (r + 1) j := by simp [tk]
theorem tk_o2 {S1 : PSt} {r q p k j : Nat} {w : Int32} : (tk S1 (r + 4) q k w p).2.1 (r + 2) j = S1.2.1 (r + 2) j := by simp [tk]
theorem rst_rel {S1 : PSt} {r q p k : Nat} {w : Int32} {B : PBt} (H : beR S1 r p B) (hk : k < p) : beR (rst S1 r q w p k) r p (rsV (S1.1 (q + 1)) w p B k) := by
  unfold rst rsV
  have Hk := H k (by omega)
  have Hp := H p (Nat.le_refl p)
  rw [Hk.1]
  by_cases h1 : B.1 k = -1
  · rw [if_pos h1, if_pos h1]; exact H
  rw [if_neg h1, if_neg h1, fitT_rel]
  have HT : beR (tk S1 (r + 4) q k w (p - k)) r p B := fun j hj => ⟨tk_o1.trans (H j hj).1, fun h => tk_o2.trans ((H j hj).2 h)⟩
  by_cases h2 : fitV (S1.1 (q + 1)) w k (p - k) = true
  · rw [if_pos h2, if_pos h2]
    have e : totT (tk S1 (r + 4) q k w (p - k)) r k (p - k) = FP.fadd (B.2 k) (badV (S1.1 (q + 1)) w k (p - k)) := by
      unfold totT; rw [badT_rel, tk_o2, Hk.2 h1]
    rw [e]
    have hiff : ((tk S1 (r + 4) q k w (p - k)).1 (r + 1) p = -1 ∨ flt (FP.fadd (B.2 k) (badV (S1.1 (q + 1)) w k (p - k))) ((tk S1 (r + 4) q k w (p - k)).2.1 (r + 2) p) = true) ↔ (B.1 p = -1 ∨ flt (FP.fadd (B.2 k) (badV (S1.1 (q + 1)) w k (p - k))) (B.2 p) = true) := by
      rw [tk_o1, tk_o2, Hp.1]
      by_cases h3 : B.1 p = -1
      · exact ⟨fun _ => Or.inl h3, fun _ => Or.inl h3⟩
      · rw [Hp.2 h3]
    by_cases h3 : B.1 p = -1 ∨ flt (FP.fadd (B.2 k) (badV (S1.1 (q + 1)) w k (p - k))) (B.2 p) = true
    · rw [if_pos (hiff.mpr h3), if_pos h3]
      intro j hj
      by_cases hjp : j = p
      · subst hjp
        refine ⟨?_, fun _ => ?_⟩
        · simp [pSF, pSI, pU]
        · simp [pSF, pSI, pU]
      · refine ⟨?_, fun h => ?_⟩
        · have := (HT j hj).1
          simp [pSF, pSI, pU, hjp, this]
        · have h : B.1 j ≠ -1 := by simpa [hjp] using h
          have := (HT j hj).2 h
          simp [pSF, pSI, pU, hjp, this]
    · rw [if_neg (fun q9 => h3 (hiff.mp q9)), if_neg h3]; exact HT
  · rw [if_neg h2, if_neg h2]; exact HT
theorem rch_rel {S : PSt} {r q p : Nat} {w : Int32} {B : PBt} (H : beR S r p B) (hq : q + 1 ≠ r + 1 ∧ q + 1 ≠ r + 4) : ∀ k, k ≤ p → beR (rchS S r q w p k) r p (rcV (S.1 (q + 1)) w p B k) := by
  intro k
  induction k with
  | zero => intro _; exact H
  | succ k ih =>
    intro hk
    have := rst_rel (q := q) (w := w) (ih (by omega)) (show k < p by omega)
    rw [rch_I hq.1 hq.2] at this
    exact this
theorem wb_rel {S : PSt} {r k : Nat} {B : PBt} (H : beR S r k B) : beR (pSI S (r + 1) (k + 1) (-1)) r (k + 1) (wbV B (k + 1)) := by
  intro j hj
  by_cases h : j = k + 1
  · subst h
    exact ⟨by simp [pSI, pU, wbV], fun h9 => absurd (by simp [wbV]) h9⟩
  · have := H j (by omega)
    exact ⟨by simp [pSI, pU, wbV, h, this.1], fun h9 => this.2 (by simpa [wbV, h] using h9)⟩
theorem fd_rel {S : PSt} {r q n : Nat} {w : Int32} (hq : q + 1 ≠ r ∧ q + 1 ≠ r + 1 ∧ q + 1 ≠ r + 4) : ∀ k, k ≤ n → beR (fdS S r q n w k) r k (fdV (S.1 (q + 1)) w n k) := by
  intro k
  induction k with
  | zero =>
    intro _ j hj
    have : j = 0 := by omega
    subst this
    exact ⟨by simp [fdS, fdV, pSF, pSI, pU], fun _ => by simp [fdS, fdV, pSF, pSI, pU]⟩
  | succ k ih =>
    intro hk
    have h1 := wb_rel (ih (by omega))
    have eI : (pSI (fdS S r q n w k) (r + 1) (k + 1) (-1)).1 (q + 1) = S.1 (q + 1) := by
      rw [show (pSI (fdS S r q n w k) (r + 1) (k + 1) (-1)).1 (q + 1) = (fdS S r q n w k).1 (q + 1) from pU_ne hq.2.1]
      exact fd_I hq.1 hq.2.1 hq.2.2 k
    have h2 := rch_rel (w := w) h1 hq.2 (k + 1) (Nat.le_refl _)
    rw [eI] at h2
    unfold fdS fdV
    rw [show isEndB S q n (k + 1) = isEnV (S.1 (q + 1)) n (k + 1) from rfl]
    by_cases h : isEnV (S.1 (q + 1)) n (k + 1) = true
    · rw [if_pos h, if_pos h]; exact h2
    · rw [if_neg h, if_neg h]; exact h1
/-! chains of places -/
def chB (b : Nat → Int32) : Nat → Nat → Prop
  | 0, p => p = 0
  | L + 1, p => 0 < p ∧ ∃ f, f < p ∧ b p = nI f ∧ chB b L f
def poB (b : Nat → Int32) : Nat → Nat → Nat → Nat
  | 0, p, _ => p
  | L + 1, p, k => if k = L + 1 then p else poB b L (b p).toNatClampNeg k
def cnB (b : Nat → Int32) : Nat → Nat → Nat
  | 0, _ => 0
  | F + 1, p => if p = 0 then 0 else cnB b F (b p).toNatClampNeg + 1
/-- each place up to n has none ahead of it, or one that has one -/
def bkOk (b : Nat → Int32) (n : Nat) : Prop := b 0 = 0 ∧ ∀ j, 0 < j → j ≤ n → b j = -1 ∨ ∃ f, f < j ∧ b j = nI f ∧ b f ≠ -1
theorem nI_nm1 {f : Nat} (h : f < 2 ^ 31) : ¬ nI f = -1 := fun q => by
  have := congrArg Int32.toInt q
  rw [nI_toInt h] at this
  have h2 : (-1 : Int32).toInt = -1 := by decide
  omega
theorem bk_chain {b : Nat → Int32} {n : Nat} (hb : bkOk b n) : ∀ (F p : Nat), p < F → p ≤ n → p < 2 ^ 31 → b p ≠ -1 → chB b (cnB b F p) p ∧ cnB b F p ≤ p := by
  intro F
  induction F with
  | zero => intro p h; omega
  | succ F ih =>
    intro p hF hn h31 hp
    unfold cnB
    by_cases h0 : p = 0
    · rw [if_pos h0]; exact ⟨h0, Nat.zero_le _⟩
    · rw [if_neg h0]
      obtain ⟨f, h1, h2, h3⟩ := (hb.2 p (by omega) hn).resolve_left hp
      have e : (b p).toNatClampNeg = f := by rw [h2]; exact nI_clamp (by omega)
      rw [e]
      have := ih f (by omega) (by omega) (by omega) h3
      exact ⟨⟨by omega, f, h1, h2, this.1⟩, by omega⟩
theorem chB_S {S : PSt} {r : Nat} {b : Nat → Int32} : ∀ (L p : Nat), (∀ j, j ≤ p → S.1 (r + 1) j = b j) → chB b L p → chN S r L p := by
  intro L
  induction L with
  | zero => intro p _ h; exact h
  | succ L ih =>
    intro p he h
    obtain ⟨h1, f, h2, h3, h4⟩ := h
    exact ⟨h1, f, h2, by rw [he p (Nat.le_refl p)]; exact h3, ih f (fun j hj => he j (by omega)) h4⟩
theorem poB_S {S : PSt} {r : Nat} {b : Nat → Int32} : ∀ (L p k : Nat), p < 2 ^ 31 → (∀ j, j ≤ p → S.1 (r + 1) j = b j) → chB b L p → pos S r L p k = poB b L p k := by
  intro L
  induction L with
  | zero => intro p k _ _ _; rfl
  | succ L ih =>
    intro p k hp he h
    obtain ⟨h1, f, h2, h3, h4⟩ := h
    show (if k = L + 1 then p else pos S r L (S.1 (r + 1) p).toNatClampNeg k) = (if k = L + 1 then p else poB b L (b p).toNatClampNeg k)
    rw [he p (Nat.le_refl p), h3, nI_clamp (by omega), ih f k (by omega) (fun j hj => he j (by omega)) h4]
theorem chB_le {b : Nat → Int32} : ∀ (L p : Nat), chB b L p → L ≤ p := by
  intro L
  induction L with
  | zero => intro p _; exact Nat.zero_le _
  | succ L ih => intro p h; obtain ⟨h1, f, h2, _, h3⟩ := h; have := ih f h3; omega
theorem poB_top {b : Nat → Int32} {L p : Nat} : poB b L p L = p := by cases L <;> simp [poB]
theorem poB_dn {b : Nat → Int32} {L p k f : Nat} (hk : ¬ k = L + 1) (hf : b p = nI f) (hb : f < 2 ^ 31) : poB b (L + 1) p k = poB b L f k := by
  show (if k = L + 1 then p else poB b L (b p).toNatClampNeg k) = _
  rw [if_neg hk, hf, nI_clamp hb]
theorem poB_lt {b : Nat → Int32} : ∀ (L p k : Nat), p < 2 ^ 31 → chB b L p → k < L → poB b L p k < poB b L p (k + 1) ∧ poB b L p (k + 1) ≤ p ∧ b (poB b L p (k + 1)) = nI (poB b L p k) := by
  intro L
  induction L with
  | zero => intro p k _ _ h; omega
  | succ L ih =>
    intro p k hp h hk
    obtain ⟨h1, f, h2, h3, h4⟩ := h
    by_cases e : k = L
    · subst e
      rw [poB_top, poB_dn (by omega) h3 (by omega), poB_top]
      exact ⟨h2, Nat.le_refl _, h3⟩
    · rw [poB_dn (by omega) h3 (by omega), poB_dn (by omega) h3 (by omega)]
      have := ih f k (by omega) h4 (by omega)
      exact ⟨this.1, by omega, this.2.2⟩
theorem poB_0 {b : Nat → Int32} : ∀ (L p : Nat), p < 2 ^ 31 → chB b L p → poB b L p 0 = 0 := by
  intro L
  induction L with
  | zero => intro p _ h; exact h
  | succ L ih =>
    intro p hp h
    obtain ⟨h1, f, h2, h3, h4⟩ := h
    rw [poB_dn (by omega) h3 (by omega)]
    exact ih f (by omega) h4
theorem rsV_ok {g : Nat → Int32} {w : Int32} {p k n : Nat} {B : PBt} (hk : k < p) (h31 : p < 2 ^ 31) (H : bkOk B.1 p) : bkOk (rsV g w p B k).1 p := by
  unfold rsV
  by_cases h1 : B.1 k = -1
  · rw [if_pos h1]; exact H
  rw [if_neg h1]
  split
  · split
    · refine ⟨?_, fun j h0 hj => ?_⟩
      · show (if 0 = p then nI k else B.1 0) = 0
        rw [if_neg (by omega)]; exact H.1
      · by_cases hjp : j = p
        · subst hjp
          refine Or.inr ⟨k, hk, ?_, ?_⟩
          · show (if j = j then nI k else B.1 j) = nI k
            rw [if_pos rfl]
          · show (if k = j then nI k else B.1 k) ≠ -1
            rw [if_neg (by omega)]; exact h1
        · show (if j = p then nI k else B.1 j) = -1 ∨ ∃ f, f < j ∧ (if j = p then nI k else B.1 j) = nI f ∧ (if f = p then nI k else B.1 f) ≠ -1
          rw [if_neg hjp]
          rcases H.2 j h0 hj with h | ⟨f, a1, a2, a3⟩
          · exact Or.inl h
          · refine Or.inr ⟨f, a1, a2, ?_⟩
            rw [if_neg (by omega)]; exact a3
    · exact H
  · exact H
theorem rcV_ok {g : Nat → Int32} {w : Int32} {p : Nat} {B : PBt} (h31 : p < 2 ^ 31) (H : bkOk B.1 p) : ∀ k, k ≤ p → bkOk (rcV g w p B k).1 p := by
  intro k
  induction k with
  | zero => intro _; exact H
  | succ k ih => intro hk; exact rsV_ok (n := p) (by omega) h31 (ih (by omega))
theorem fdV_ok {g : Nat → Int32} {w : Int32} {n : Nat} (hn : n < 2 ^ 31) : ∀ k, k ≤ n → bkOk (fdV g w n k).1 k := by
  intro k
  induction k with
  | zero => intro _; exact ⟨rfl, fun j h1 h2 => by omega⟩
  | succ k ih =>
    intro hk
    have h := ih (by omega)
    have h2 : bkOk (wbV (fdV g w n k) (k + 1)).1 (k + 1) := by
      refine ⟨?_, fun j h0 hj => ?_⟩
      · show (if 0 = k + 1 then (-1 : Int32) else (fdV g w n k).1 0) = 0
        rw [if_neg (by omega)]; exact h.1
      · show (if j = k + 1 then (-1 : Int32) else (fdV g w n k).1 j) = -1 ∨ ∃ f, f < j ∧ (if j = k + 1 then (-1 : Int32) else (fdV g w n k).1 j) = nI f ∧ (if f = k + 1 then (-1 : Int32) else (fdV g w n k).1 f) ≠ -1
        by_cases e : j = k + 1
        · rw [if_pos e]; exact Or.inl rfl
        · rw [if_neg e]
          rcases h.2 j h0 (by omega) with h | ⟨f, a1, a2, a3⟩
          · exact Or.inl h
          · refine Or.inr ⟨f, a1, a2, ?_⟩
            rw [if_neg (by omega)]; exact a3
    unfold fdV
    split
    · exact rcV_ok (by omega) h2 (k + 1) (Nat.le_refl _)
    · exact h2
/-- the best of n columns: is there one, how many lines, its total, the place ahead of line k -/
def beV (g : Nat → Int32) (w : Int32) (n : Nat) : Nat → Int32 := (fdV g w n n).1
def fouV (g : Nat → Int32) (w : Int32) (n : Nat) : Bool := decide (beV g w n n ≠ -1)
def linV (g : Nat → Int32) (w : Int32) (n : Nat) : Nat := cnB (beV g w n) 33 n
def totV (g : Nat → Int32) (w : Int32) (n : Nat) : UInt32 := (fdV g w n n).2 n
def staV (g : Nat → Int32) (w : Int32) (n k : Nat) : Nat := poB (beV g w n) (linV g w n) n k
theorem lin_ch {g : Nat → Int32} {w : Int32} {n : Nat} (hn : n ≤ 32) (hf : fouV g w n = true) : chB (beV g w n) (linV g w n) n :=
  (bk_chain (fdV_ok (by omega) n (Nat.le_refl n)) 33 n (by omega) (Nat.le_refl n) (by omega) (of_decide_eq_true hf)).1
theorem lin_le {g : Nat → Int32} {w : Int32} {n : Nat} (hn : n ≤ 32) (hf : fouV g w n = true) : linV g w n ≤ n := chB_le _ _ (lin_ch hn hf)
theorem sta_lt {g : Nat → Int32} {w : Int32} {n k : Nat} (hn : n ≤ 32) (hf : fouV g w n = true) (hk : k < linV g w n) : staV g w n k < staV g w n (k + 1) ∧ staV g w n (k + 1) ≤ n :=
  ⟨(poB_lt _ _ k (by omega) (lin_ch hn hf) hk).1, (poB_lt _ _ k (by omega) (lin_ch hn hf) hk).2.1⟩
