/-! find, for columns that may be -/
def totOk (B : PBt) (p : Nat) : Prop := ∀ j, j ≤ p → B.1 j ≠ -1 → okT j (B.2 j)
theorem okT_mono {k m : Nat} {x : UInt32} (h : okT k x) (hkm : k ≤ m) : okT m x := by
  have h1 : k * 2 ^ 189 ≤ m * 2 ^ 189 := Nat.mul_le_mul_right _ hkm
  exact ⟨h.1, h.2.1, Int.le_trans h.2.2 (Int.ofNat_le.mpr h1)⟩
theorem okX_nz {x : UInt32} (h : okX x) (h0 : x ≠ 0) (hp : 0 ≤ fz x) : ((2 ^ 23 : Nat) : Int) ≤ fz x := by
  have h1 := h.2.resolve_left h0
  have := (mg_ge (K := 1) h.1.ne_nan (Nat.le_refl _)).mp (by omega)
  have h2 : (2 : Nat) ^ (22 + 1) = 2 ^ 23 := rfl
  omega
theorem add_okT {k : Nat} {x y : UInt32} (hx : okT k x) (hy : okT 1 y) (hk : k ≤ 40) : okT (k + 1) (FP.fadd x y) := by
  obtain ⟨c1, c2, c3, c4⟩ := fadd_nonneg (k := k) (e := 189) hx.1.1 hy.1.1 hx.2.1 hy.2.1 hx.2.2 (by have := hy.2.2; rw [Nat.one_mul] at this; exact this) (by omega) (by decide)
  refine ⟨?_, by have := hx.2.1; omega, c4⟩
  by_cases h1 : x = 0
  · by_cases h2 : y = 0
    · rw [h1, h2]
      have e : FP.fadd 0 0 = FP.fconst0 := by decide +kernel
      rw [e]; exact okX_0
    · have := okX_nz hy.1 h2 hy.2.1
      exact okX_of c1 (by omega)
  · have := okX_nz hx.1 h1 hx.2.1
    exact okX_of c1 (by omega)
theorem badV_ok {g : Nat → Int32} {w : Int32} {a n N : Nat} (hg : okG g N) (hw : okWd w) (hn : n ≤ 32) (han : a + n ≤ N) : okT 1 (badV g w a n) := (qF_ok (spK_of hg hw hn han)).2.1
theorem rsV_tot {g : Nat → Int32} {w : Int32} {N p k : Nat} {B : PBt} (hg : okG g N) (hw : okWd w) (hp : p ≤ N) (hN : N ≤ 32) (hk : k < p) (H : totOk B p) : totOk (rsV g w p B k) p := by
  unfold rsV
  by_cases h1 : B.1 k = -1
  · rw [if_pos h1]; exact H
  rw [if_neg h1]
  split
  · split
    · intro j hj h
      show okT j (if j = p then FP.fadd (B.2 k) (badV g w k (p - k)) else B.2 j)
      by_cases e : j = p
      · rw [if_pos e]
        exact okT_mono (add_okT (H k (by omega) h1) (badV_ok hg hw (by omega) (by omega)) (by omega)) (by omega)
      · rw [if_neg e]
        have h : (if j = p then nI k else B.1 j) ≠ -1 := h
        rw [if_neg e] at h
        exact H j hj h
    · exact H
  · exact H
theorem rcV_tot {g : Nat → Int32} {w : Int32} {N p : Nat} {B : PBt} (hg : okG g N) (hw : okWd w) (hp : p ≤ N) (hN : N ≤ 32) (H : totOk B p) : ∀ k, k ≤ p → totOk (rcV g w p B k) p := by
  intro k
  induction k with
  | zero => intro _; exact H
  | succ k ih => intro hk; exact rsV_tot hg hw hp hN (by omega) (ih (by omega))
theorem wbV_tot {B : PBt} {k : Nat} (H : totOk B k) : totOk (wbV B (k + 1)) (k + 1) := by
  intro j hj h
  have h : (if j = k + 1 then (-1 : Int32) else B.1 j) ≠ -1 := h
  by_cases e : j = k + 1
  · rw [if_pos e] at h; exact absurd rfl h
  · rw [if_neg e] at h
    exact H j (by omega) h
theorem fdV_tot {g : Nat → Int32} {w : Int32} {N : Nat} (hg : okG g N) (hw : okWd w) (hN : N ≤ 32) : ∀ k, k ≤ N → totOk (fdV g w N k) k := by
  intro k
  induction k with
  | zero =>
    intro _ j hj _
    have e : j = 0 := by omega
    subst e
    exact ⟨okX_0, by show 0 ≤ fz FP.fconst0; rw [fz_0]; exact Int.le_refl _, by show fz FP.fconst0 ≤ _; rw [fz_0]; exact Int.natCast_nonneg _⟩
  | succ k ih =>
    intro hk
    have h := wbV_tot (ih (by omega))
    unfold fdV
    split
    · exact rcV_tot hg hw hk hN h (k + 1) (Nat.le_refl _)
    · exact h
theorem totV_okX {g : Nat → Int32} {w : Int32} {N : Nat} (hg : okG g N) (hw : okWd w) (hN : N ≤ 32) (hf : fouV g w N = true) : okX (totV g w N) := (fdV_tot hg hw hN N (Nat.le_refl N) N (Nat.le_refl N) (of_decide_eq_true hf)).1
/-- no NaN on the way -/
theorem okR_of {S1 : PSt} {r q N p k : Nat} {w : Int32} {B : PBt} (hg : okG (S1.1 (q + 1)) N) (hw : okWd w) (hp : p ≤ N) (hN : N ≤ 32) (hk : k < p) (H : beR S1 r p B) (HT : totOk B p) : okR S1 r q w p k := by
  intro h1
  have Hs := tk_spK (S := S1) (r := r + 4) (a := k) (n := p - k) hg hw (by omega) (by omega) sameSp_rf
  have hq := qF_ok Hs
  refine ⟨hq.2.2.1, fun _ => ⟨hq.1, ?_⟩⟩
  unfold totT
  have e1 : (tk S1 (r + 4) q k w (p - k)).2.1 (r + 2) k = B.2 k := tk_o2.trans ((H k (by omega)).2 (by rw [← (H k (by omega)).1]; exact h1))
  rw [e1]
  have hB := HT k (by omega) (by rw [← (H k (by omega)).1]; exact h1)
  exact nn_of (fadd_nn hB.1.1 hq.2.1.1.1)
theorem fd_okR {S : PSt} {r q N : Nat} {w : Int32} (hq : q + 1 ≠ r ∧ q + 1 ≠ r + 1 ∧ q + 1 ≠ r + 4) (hg : okG (S.1 (q + 1)) N) (hw : okWd w) (hN : N ≤ 32) (p k : Nat) (hp : p < N) (hk : k < p + 1) : okR (rchS (pSI (fdS S r q N w p) (r + 1) (p + 1) (-1)) r q w (p + 1) k) r q w (p + 1) k := by
  have eI : (pSI (fdS S r q N w p) (r + 1) (p + 1) (-1)).1 (q + 1) = S.1 (q + 1) := by
    rw [show (pSI (fdS S r q N w p) (r + 1) (p + 1) (-1)).1 (q + 1) = (fdS S r q N w p).1 (q + 1) from pU_ne hq.2.1]
    exact fd_I hq.1 hq.2.1 hq.2.2 p
  have h1 := wb_rel (fd_rel (S := S) (r := r) (w := w) hq p (show p ≤ N by omega))
  have h2 := rch_rel (w := w) h1 hq.2 k (by omega)
  rw [eI] at h2
  have h3 := rcV_tot hg hw (show p + 1 ≤ N by omega) hN (wbV_tot (fdV_tot hg hw hN p (by omega))) k (by omega)
  refine okR_of (N := N) ?_ hw (by omega) hN hk h2 h3
  rw [rch_I hq.2.1 hq.2.2, eI]
  exact hg
theorem fd2_5 {S : PSt} {r q n : Nat} {w : Int32} (hq : q + 1 ≠ r ∧ q + 1 ≠ r + 1 ∧ q + 1 ≠ r + 4) : (fd2 S r q n w).1 r 5 = pB (fouV (S.1 (q + 1)) w n) := by
  have h := (fd_rel (S := S) (r := r) (w := w) hq n (Nat.le_refl n) n (Nat.le_refl n)).1
  unfold fd2
  rw [h]
  show (if r = r ∧ 5 = 5 then pB (decide ((fdV (S.1 (q + 1)) w n n).1 n ≠ -1)) else (fdS S r q n w n).1 r 5) = _
  rw [if_pos ⟨rfl, rfl⟩]
  rfl
theorem fd2_b {S : PSt} {r q n j : Nat} {w : Int32} (hq : q + 1 ≠ r ∧ q + 1 ≠ r + 1 ∧ q + 1 ≠ r + 4) (hj : j ≤ n) : (fd2 S r q n w).1 (r + 1) j = beV (S.1 (q + 1)) w n j := by
  have h := (fd_rel (S := S) (r := r) (w := w) hq n (Nat.le_refl n) j hj).1
  have e : (fd2 S r q n w).1 (r + 1) = (fdS S r q n w n).1 (r + 1) := by
    unfold fd2
    show pU _ _ _ _ (r + 1) = _
    exact pU_ne (by omega)
  rw [e, h]
  rfl
theorem fd2_ch {S : PSt} {r q n : Nat} {w : Int32} (hq : q + 1 ≠ r ∧ q + 1 ≠ r + 1 ∧ q + 1 ≠ r + 4) (hn : n ≤ 32) (h : ¬ (fd2 S r q n w).1 r 5 = 0) : chN (fd2 S r q n w) r (linV (S.1 (q + 1)) w n) n := by
  rw [fd2_5 hq] at h
  exact chB_S _ _ (fun j hj => fd2_b hq hj) (lin_ch hn (pB_t h))
/-- behind find -/
def fnG (S : PSt) (r q n : Nat) (w : Int32) : PSt := fnS S r q n w (linV (S.1 (q + 1)) w n)
theorem sp_findG {sh : List PSh} {S : PSt} {r q n : Nat} {w : Int32} (hs : isBe sh r) (hq : isSg sh q) (hqr : q + 2 ≤ r ∨ r + 11 ≤ q) (hn : n ≤ 32) (hg : okG (S.1 (q + 1)) n) (hw : okWd w) : pF mX0_find 4 [.ref r, .ref q, .int (nI n), .int w] sh S (fnG S r q n w) none :=
  sp_X0_find (L := linV (S.1 (q + 1)) w n) hs hq hqr hn (fun i hi _ => (hg i hi).2.1) (fun p k hp hk _ => fd_okR (by omega) hg hw hn p k hp hk) (fd2_ch (by omega) hn)
theorem fn_5 {S : PSt} {r q n : Nat} {w : Int32} (hq : q + 2 ≤ r ∨ r + 11 ≤ q) : (fnG S r q n w).1 r 5 = pB (fouV (S.1 (q + 1)) w n) := by
  rw [← fd2_5 (S := S) (r := r) (q := q) (n := n) (w := w) (by omega)]
  unfold fnG fnS tbS
  split
  · simp [pSI, pU]
  · simp [tb2]
theorem fn_go {S : PSt} {r q n : Nat} {w : Int32} (hq : q + 2 ≤ r ∨ r + 11 ≤ q) (hf : fouV (S.1 (q + 1)) w n = true) : fnG S r q n w = tb2 (fd2 S r q n w) r (linV (S.1 (q + 1)) w n) n 0 := by
  unfold fnG fnS tbS
  rw [if_neg (by rw [fd2_5 (by omega), hf]; decide)]
theorem fn_4 {S : PSt} {r q n : Nat} {w : Int32} (hq : q + 2 ≤ r ∨ r + 11 ≤ q) (hf : fouV (S.1 (q + 1)) w n = true) : (fnG S r q n w).1 r 4 = nI (linV (S.1 (q + 1)) w n) := by
  rw [fn_go hq hf]
  simp [tb2]
theorem fn_6 {S : PSt} {r q n : Nat} {w : Int32} (hq : q + 2 ≤ r ∨ r + 11 ≤ q) (hf : fouV (S.1 (q + 1)) w n = true) : (fnG S r q n w).2.1 r 6 = totV (S.1 (q + 1)) w n := by
  rw [fn_go hq hf]
  have h := (fd_rel (S := S) (r := r) (w := w) (n := n) (q := q) (by omega) n (Nat.le_refl n) n (Nat.le_refl n)).2 (of_decide_eq_true hf)
  show (fd2 S r q n w).2.1 r 6 = _
  unfold fd2
  rw [h]
  simp [pSF, pU, totV]
theorem fn_sta {S : PSt} {r q n k : Nat} {w : Int32} (hq : q + 2 ≤ r ∨ r + 11 ≤ q) (hn : n ≤ 32) (hf : fouV (S.1 (q + 1)) w n = true) (hk : k ≤ linV (S.1 (q + 1)) w n) : (fnG S r q n w).1 (r + 3) k = nI (staV (S.1 (q + 1)) w n k) := by
  rw [fn_go hq hf]
  show (if r + 3 = r ∧ k = 4 then nI (linV (S.1 (q + 1)) w n) else if r + 3 = r + 3 ∧ 0 ≤ k ∧ k ≤ linV (S.1 (q + 1)) w n then nI (pos (fd2 S r q n w) r (linV (S.1 (q + 1)) w n) n k) else (fd2 S r q n w).1 (r + 3) k) = _
  rw [if_neg (by omega), if_pos ⟨rfl, Nat.zero_le _, hk⟩, poB_S _ _ k (by omega) (fun j hj => fd2_b (by omega) hj) (lin_ch hn hf)]
  rfl
theorem fr_rst {S1 : PSt} {r q : Nat} {w : Int32} {p k : Nat} : fr r (r + 11) S1 (rst S1 r q w p k) := by
  have h1 : fr r (r + 11) S1 (tk S1 (r + 4) q k w (p - k)) := fr_wd fr_tk (by omega) (by omega)
  unfold rst
  split
  · exact fr_rf
  · split
    · split
      · exact fr_tr h1 (fr_tr (fr_I (by omega) (by omega)) (fr_F (by omega) (by omega)))
      · exact h1
    · exact h1
theorem fr_rch {S : PSt} {r q : Nat} {w : Int32} {p : Nat} : ∀ k, fr r (r + 11) S (rchS S r q w p k) := by
  intro k
  induction k with
  | zero => exact fr_rf
  | succ k ih => exact fr_tr ih fr_rst
theorem fr_fdS {S : PSt} {r q n : Nat} {w : Int32} : ∀ k, fr r (r + 11) S (fdS S r q n w k) := by
  intro k
  induction k with
  | zero => exact fr_tr (fr_tr (fr_I (by omega) (by omega)) (fr_I (by omega) (by omega))) (fr_F (by omega) (by omega))
  | succ k ih =>
    have h := fr_tr ih (fr_I (lo := r) (hi := r + 11) (k := r + 1) (j := k + 1) (v := -1) (by omega) (by omega))
    unfold fdS
    split
    · exact fr_tr h (fr_rch _)
    · exact h
theorem fr_fnG {S : PSt} {r q n : Nat} {w : Int32} : fr r (r + 11) S (fnG S r q n w) := by
  have h : fr r (r + 11) S (fd2 S r q n w) := fr_tr (fr_tr (fr_fdS n) (fr_I (by omega) (by omega))) (fr_F (by omega) (by omega))
  unfold fnG fnS tbS
  split
  · exact fr_tr h (fr_I (by omega) (by omega))
  · exact fr_tr h (fun x hx => ⟨by funext j; unfold tb2; dsimp only; rw [if_neg (by omega), if_neg (by omega)], rfl, rfl, rfl⟩)
