/-! the values that both sides have: columns g (five ints each), a width w; a stretch of n columns from a on -/
def idG (g : Nat → Int32) (i : Nat) : UInt32 := idF (g (5 * i + 0)) (g (5 * i + 1))
def flG (g : Nat → Int32) (i : Nat) : UInt32 := flF (g (5 * i + 0)) (idG g i)
def roG (g : Nat → Int32) (i : Nat) : UInt32 := roF (g (5 * i + 3))
/-- not held, and it would be shorter than its rod -/
def nwV (ids fls rods : Nat → UInt32) (x : UInt32) (h : Nat → Bool) (j : Nat) : Bool := !(h j) && flt (FP.fadd (ids j) (FP.fmul x (fls j))) (rods j)
def hnV (ids fls rods : Nat → UInt32) (n : Nat) (x : UInt32) (h : Nat → Bool) (j : Nat) : Bool := h j || (decide (j < n) && nwV ids fls rods x h j)
def rnV (W : UInt32) (ids fls rods : Nat → UInt32) (n : Nat) : Nat → (Nat → Bool) → (Nat → Bool) × UInt32
  | 0, h => (h, FP.fconst0)
  | k + 1, h => if anyB (nwV ids fls rods (balF W ids fls rods h n) h) n = true then rnV W ids fls rods n k (hnV ids fls rods n (balF W ids fls rods h n) h) else (h, balF W ids fls rods h n)
def setV (g : Nat → Int32) (w : Int32) (a n : Nat) : (Nat → Bool) × UInt32 := rnV (FP.i2f w) (fun j => idG g (a + j)) (fun j => flG g (a + j)) (fun j => roG g (a + j)) n 33 (fun _ => false)
def lenV (g : Nat → Int32) (w : Int32) (a n j : Nat) : UInt32 := if (setV g w a n).1 j = true then roG g (a + j) else FP.fadd (idG g (a + j)) (FP.fmul (setV g w a n).2 (flG g (a + j)))
def atV (g : Nat → Int32) (w : Int32) (a n k : Nat) : UInt32 := sumF (lenV g w a n) k
def heldV (g : Nat → Int32) (w : Int32) (a n : Nat) : Nat := cntH (setV g w a n).1 n
/-! what agrees below n gives the same -/
theorem bsum_congr {h h' : Nat → Bool} {b : Bool} {f f' : Nat → UInt32} : ∀ {k : Nat}, (∀ j, j < k → h j = h' j) → (∀ j, j < k → f j = f' j) → bsum h b f k = bsum h' b f' k := by
  intro k
  induction k with
  | zero => intro _ _; rfl
  | succ k ih =>
    intro h1 h2
    unfold bsum
    rw [ih (fun j hj => h1 j (by omega)) (fun j hj => h2 j (by omega)), h1 k (by omega), h2 k (by omega)]
theorem sumF_congr {f f' : Nat → UInt32} : ∀ {k : Nat}, (∀ j, j < k → f j = f' j) → sumF f k = sumF f' k := by
  intro k
  induction k with
  | zero => intro _; rfl
  | succ k ih =>
    intro h2
    unfold sumF
    rw [ih (fun j hj => h2 j (by omega)), h2 k (by omega)]
theorem anyB_congr {f f' : Nat → Bool} : ∀ {k : Nat}, (∀ j, j < k → f j = f' j) → anyB f k = anyB f' k := by
  intro k
  induction k with
  | zero => intro _; rfl
  | succ k ih =>
    intro h2
    unfold anyB
    rw [ih (fun j hj => h2 j (by omega)), h2 k (by omega)]
theorem cntH_congr {f f' : Nat → Bool} : ∀ {k : Nat}, (∀ j, j < k → f j = f' j) → cntH f k = cntH f' k := by
  intro k
  induction k with
  | zero => intro _; rfl
  | succ k ih =>
    intro h2
    unfold cntH
    rw [ih (fun j hj => h2 j (by omega)), h2 k (by omega)]
theorem balF_congr {W : UInt32} {ids fls rods ids' fls' rods' : Nat → UInt32} {h h' : Nat → Bool} {n : Nat} (h1 : ∀ j, j < n → ids j = ids' j ∧ fls j = fls' j ∧ rods j = rods' j ∧ h j = h' j) : balF W ids fls rods h n = balF W ids' fls' rods' h' n := by
  unfold balF
  rw [bsum_congr (fun j hj => (h1 j hj).2.2.2) (fun j hj => (h1 j hj).2.1), bsum_congr (fun j hj => (h1 j hj).2.2.2) (fun j hj => (h1 j hj).1), bsum_congr (b := true) (fun j hj => (h1 j hj).2.2.2) (fun j hj => (h1 j hj).2.2.1)]
theorem anyB_false {f : Nat → Bool} : ∀ {k : Nat}, anyB f k = false → ∀ j, j < k → f j = false := by
  intro k
  induction k with
  | zero => intro _ j hj; omega
  | succ k ih =>
    intro h j hj
    unfold anyB at h
    rw [Bool.or_eq_false_iff] at h
    by_cases e : j = k
    · subst e; exact h.2
    · exact ih h.1 j (by omega)
theorem anyB_none {f : Nat → Bool} : ∀ {k : Nat}, (∀ j, j < k → f j = false) → anyB f k = false := by
  intro k
  induction k with
  | zero => intro _; rfl
  | succ k ih =>
    intro h
    unfold anyB
    rw [ih (fun j hj => h j (by omega)), h k (by omega)]
    rfl
theorem anyB_true {f : Nat → Bool} : ∀ {k : Nat}, anyB f k = true → ∃ j, j < k ∧ f j = true := by
  intro k
  induction k with
  | zero => intro h; exact absurd (show false = true from h) (by decide)
  | succ k ih =>
    intro h
    unfold anyB at h
    rw [Bool.or_eq_true] at h
    rcases h with h | h
    · obtain ⟨j, h1, h2⟩ := ih h; exact ⟨j, by omega, h2⟩
    · exact ⟨k, by omega, h⟩
theorem cntH_mono {h h' : Nat → Bool} : ∀ {k : Nat}, (∀ j, j < k → h j = true → h' j = true) → cntH h k ≤ cntH h' k := by
  intro k
  induction k with
  | zero => intro _; exact Nat.le_refl _
  | succ k ih =>
    intro hl
    have := ih (fun j hj => hl j (by omega))
    unfold cntH
    by_cases e : h k = true
    · rw [if_pos e, if_pos (hl k (by omega) e)]; omega
    · rw [if_neg e]; split <;> omega
theorem cntH_lt {h h' : Nat → Bool} {i : Nat} : ∀ {k : Nat}, (∀ j, j < k → h j = true → h' j = true) → i < k → h i = false → h' i = true → cntH h k < cntH h' k := by
  intro k
  induction k with
  | zero => intro _ hi; omega
  | succ k ih =>
    intro hl hi h1 h2
    by_cases e : i = k
    · subst e
      have := cntH_mono (k := i) (fun j hj => hl j (by omega))
      unfold cntH
      rw [if_neg (by rw [h1]; decide), if_pos h2]
      omega
    · have := ih (fun j hj => hl j (by omega)) (by omega) h1 h2
      unfold cntH
      by_cases e2 : h k = true
      · rw [if_pos e2, if_pos (hl k (by omega) e2)]; omega
      · rw [if_neg e2]; split <;> omega
theorem cntH_all {h : Nat → Bool} : ∀ {k : Nat}, k ≤ cntH h k → ∀ j, j < k → h j = true := by
  intro k
  induction k with
  | zero => intro _ j hj; omega
  | succ k ih =>
    intro hl j hj
    unfold cntH at hl
    have := cntH_le h k
    split at hl
    · rename_i e
      by_cases e2 : j = k
      · subst e2; exact e
      · exact ih (by omega) j (by omega)
    · omega
theorem cntH_none (k : Nat) : cntH (fun _ => false) k = 0 := by
  induction k with
  | zero => rfl
  | succ k ih => unfold cntH; rw [if_neg (by decide)]; exact ih
theorem hnV_mono {ids fls rods : Nat → UInt32} {n : Nat} {x : UInt32} {h : Nat → Bool} (j : Nat) (hj : h j = true) : hnV ids fls rods n x h j = true := by unfold hnV; rw [hj]; rfl
theorem cnt_step {ids fls rods : Nat → UInt32} {n : Nat} {x : UInt32} {h : Nat → Bool} (ha : anyB (nwV ids fls rods x h) n = true) : cntH h n < cntH (hnV ids fls rods n x h) n := by
  obtain ⟨j, hj, h1⟩ := anyB_true ha
  refine cntH_lt (fun j _ => hnV_mono j) hj ?_ (i := j) ?_
  · unfold nwV at h1
    rw [Bool.and_eq_true] at h1
    have := h1.1
    cases hh : h j with
    | false => rfl
    | true => rw [hh] at this; exact absurd this (by decide)
  · unfold hnV
    rw [decide_eq_true hj, h1]
    simp
theorem all_none {ids fls rods : Nat → UInt32} {n : Nat} {x : UInt32} {h : Nat → Bool} (hc : n ≤ cntH h n) : anyB (nwV ids fls rods x h) n = false := by
  refine anyB_none fun j hj => ?_
  unfold nwV
  rw [cntH_all hc j hj]
  rfl
/-- enough rounds end at what no round changes -/
theorem rnV_fix {W : UInt32} {ids fls rods : Nat → UInt32} {n : Nat} : ∀ (k : Nat) (h : Nat → Bool), n < cntH h n + (k + 1) →
    anyB (nwV ids fls rods (rnV W ids fls rods n (k + 1) h).2 (rnV W ids fls rods n (k + 1) h).1) n = false ∧ (rnV W ids fls rods n (k + 1) h).2 = balF W ids fls rods (rnV W ids fls rods n (k + 1) h).1 n := by
  intro k
  induction k with
  | zero =>
    intro h hc
    unfold rnV
    rw [if_neg (by rw [all_none (by omega)]; decide)]
    exact ⟨all_none (show n ≤ cntH h n by omega), rfl⟩
  | succ k ih =>
    intro h hc
    unfold rnV
    split
    · rename_i ha
      have := cnt_step ha
      exact ih _ (by omega)
    · rename_i ha
      exact ⟨Bool.eq_false_iff.mpr ha, rfl⟩
/-- the stretch at the cell r holds these values -/
def rlS (S : PSt) (r n : Nat) (W : UInt32) (ids fls rods : Nat → UInt32) (h : Nat → Bool) : Prop := S.2.1 r 8 = W ∧ ∀ j, j < n → S.2.1 (r + 1) j = ids j ∧ S.2.1 (r + 2) j = fls j ∧ S.2.1 (r + 3) j = rods j ∧ hd S r j = h j
theorem bal_rel {S : PSt} {r n : Nat} {W : UInt32} {ids fls rods : Nat → UInt32} {h : Nat → Bool} (H : rlS S r n W ids fls rods h) : balS S r n = balF W ids fls rods h n := by
  unfold balS
  rw [H.1]
  exact balF_congr H.2
theorem pSF_p {S : PSt} {r : Nat} {x : UInt32} : (pSF S r 9 x).2.1 r 9 = x := by simp [pSF, pU]
theorem pSF_o {S : PSt} {r c j : Nat} {x : UInt32} (hc : c ≠ r) : (pSF S r 9 x).2.1 c j = S.2.1 c j := by simp [pSF, pU, hc]
theorem wan_rel {S : PSt} {r n j : Nat} {W x : UInt32} {ids fls rods : Nat → UInt32} {h : Nat → Bool} (H : rlS S r n W ids fls rods h) (hj : j < n) : wan (pSF S r 9 x) r j = FP.fadd (ids j) (FP.fmul x (fls j)) := by
  unfold wan
  rw [pSF_p, pSF_o (by omega), pSF_o (by omega), (H.2 j hj).1, (H.2 j hj).2.1]
theorem newly_rel {S : PSt} {r n j : Nat} {W x : UInt32} {ids fls rods : Nat → UInt32} {h : Nat → Bool} (H : rlS S r n W ids fls rods h) (hj : j < n) : newly (pSF S r 9 x) r j = nwV ids fls rods x h j := by
  unfold newly nwV
  rw [wan_rel H hj, pSF_o (by omega), (H.2 j hj).2.2.1, show hd (pSF S r 9 x) r j = hd S r j from rfl, (H.2 j hj).2.2.2]
theorem chg_rel {S : PSt} {r n : Nat} {W : UInt32} {ids fls rods : Nat → UInt32} {h : Nat → Bool} (H : rlS S r n W ids fls rods h) : chg S r n = anyB (nwV ids fls rods (balF W ids fls rods h n) h) n := by
  unfold chg
  rw [bal_rel H]
  exact anyB_congr fun j hj => newly_rel H hj
theorem rd1_pull {S : PSt} {r n : Nat} : (rd1 S r n).2.1 r 9 = balS S r n := by
  show (pSF S r 9 (balS S r n)).2.1 r 9 = _
  exact pSF_p
theorem hm_hd2 {T : PSt} {r k j : Nat} : hd (hm T r k) r j = (hd T r j || (decide (j < k) && newly T r j)) := by
  unfold hd hm
  dsimp only
  by_cases h1 : j < k
  · by_cases h2 : newly T r j = true
    · simp [h1, h2]
    · simp [h1, h2]
  · simp [h1]
theorem rd1_rel {S : PSt} {r n : Nat} {W : UInt32} {ids fls rods : Nat → UInt32} {h : Nat → Bool} (H : rlS S r n W ids fls rods h) : rlS (rd1 S r n) r n W ids fls rods (hnV ids fls rods n (balF W ids fls rods h n) h) := by
  have hs := sameSp_rd1 (S := S) (r := r) (n := n)
  refine ⟨by rw [hs.2.2.2.1]; exact H.1, fun j hj => ⟨?_, ?_, ?_, ?_⟩⟩
  · rw [hs.1]; exact (H.2 j hj).1
  · rw [hs.2.1]; exact (H.2 j hj).2.1
  · rw [hs.2.2.1]; exact (H.2 j hj).2.2.1
  · unfold rd1
    rw [hm_hd2, newly_rel H hj, bal_rel H, show hd (pSF S r 9 (balF W ids fls rods h n)) r j = hd S r j from rfl, (H.2 j hj).2.2.2]
    rfl
theorem rnd_rel {r n : Nat} {W : UInt32} {ids fls rods : Nat → UInt32} : ∀ (k : Nat) (S : PSt) (h : Nat → Bool), rlS S r n W ids fls rods h → n < cntH h n + (k + 1) →
    rlS (rndS r n (k + 1) S) r n W ids fls rods (rnV W ids fls rods n (k + 1) h).1 ∧ (rndS r n (k + 1) S).2.1 r 9 = (rnV W ids fls rods n (k + 1) h).2 := by
  intro k
  induction k with
  | zero =>
    intro S h H hc
    have ha : anyB (nwV ids fls rods (balF W ids fls rods h n) h) n = false := all_none (by omega)
    have e : rndS r n 1 S = rd1 S r n := by unfold rndS; split <;> rfl
    unfold rnV
    rw [e, if_neg (by rw [ha]; decide), rd1_pull, bal_rel H]
    refine ⟨?_, rfl⟩
    have := rd1_rel H
    refine ⟨this.1, fun j hj => ⟨(this.2 j hj).1, (this.2 j hj).2.1, (this.2 j hj).2.2.1, ?_⟩⟩
    rw [(this.2 j hj).2.2.2]
    unfold hnV
    rw [anyB_false ha j hj]
    simp
  | succ k ih =>
    intro S h H hc
    have e : rndS r n (k + 1 + 1) S = if chg S r n then rndS r n (k + 1) (rd1 S r n) else rd1 S r n := rfl
    have e2 : rnV W ids fls rods n (k + 1 + 1) h = if anyB (nwV ids fls rods (balF W ids fls rods h n) h) n = true then rnV W ids fls rods n (k + 1) (hnV ids fls rods n (balF W ids fls rods h n) h) else (h, balF W ids fls rods h n) := rfl
    rw [e, e2, chg_rel H]
    by_cases ha : anyB (nwV ids fls rods (balF W ids fls rods h n) h) n = true
    · rw [if_pos ha, if_pos ha]
      have := cnt_step ha
      exact ih _ _ (rd1_rel H) (by omega)
    · rw [if_neg ha, if_neg ha, rd1_pull, bal_rel H]
      refine ⟨?_, rfl⟩
      have := rd1_rel H
      refine ⟨this.1, fun j hj => ⟨(this.2 j hj).1, (this.2 j hj).2.1, (this.2 j hj).2.2.1, ?_⟩⟩
      rw [(this.2 j hj).2.2.2]
      unfold hnV
      rw [anyB_false (Bool.eq_false_iff.mpr ha) j hj]
      simp
theorem cf_hd {T : PSt} {r n j : Nat} (hj : j < n) : hd (cfS T r n) r j = false := by
  unfold hd cfS
  simp [hj]
/-- what is laid out -/
theorem stl_rel {S : PSt} {r q a n : Nat} {w : Int32} (hn : n ≤ 32) :
    rlS (rndS r n 33 (cfS (tk S r q a w n) r n)) r n (FP.i2f w) (fun j => idG (S.1 (q + 1)) (a + j)) (fun j => flG (S.1 (q + 1)) (a + j)) (fun j => roG (S.1 (q + 1)) (a + j)) (setV (S.1 (q + 1)) w a n).1 ∧
    (rndS r n 33 (cfS (tk S r q a w n) r n)).2.1 r 9 = (setV (S.1 (q + 1)) w a n).2 := by
  refine rnd_rel 32 _ _ ⟨?_, fun j hj => ⟨?_, ?_, ?_, cf_hd hj⟩⟩ (by rw [cntH_none]; omega)
  · show (tk S r q a w n).2.1 r 8 = _
    simp [tk]
  · show (tk S r q a w n).2.1 (r + 1) j = _
    simp [tk, hj]; rfl
  · show (tk S r q a w n).2.1 (r + 2) j = _
    simp [tk, hj]; rfl
  · show (tk S r q a w n).2.1 (r + 3) j = _
    simp [tk, hj]; rfl
theorem stl_len {S : PSt} {r q a n j : Nat} {w : Int32} (hn : n ≤ 32) (hj : j < n) : lenS (rndS r n 33 (cfS (tk S r q a w n) r n)) r j = lenV (S.1 (q + 1)) w a n j := by
  obtain ⟨H, hp⟩ := stl_rel (S := S) (r := r) (q := q) (a := a) (w := w) hn
  unfold lenS lenV wan
  rw [hp, (H.2 j hj).1, (H.2 j hj).2.1, (H.2 j hj).2.2.1, ← (H.2 j hj).2.2.2]
  unfold hd
  by_cases h : (rndS r n 33 (cfS (tk S r q a w n) r n)).1 (r + 4) j ≠ 0
  · rw [if_pos h, if_pos (decide_eq_true h)]
  · rw [if_neg h, if_neg (fun q => h (of_decide_eq_true q))]
theorem stl_pull {S : PSt} {r q a n : Nat} {w : Int32} (hn : n ≤ 32) : (stl S r q a w n).2.1 r 9 = (setV (S.1 (q + 1)) w a n).2 := by
  have := (stl_rel (S := S) (r := r) (q := q) (a := a) (w := w) hn).2
  rw [← this]
  unfold stl lnS
  simp
theorem stl_held {S : PSt} {r q a n : Nat} {w : Int32} (hn : n ≤ 32) : cntH (hd (stl S r q a w n) r) n = heldV (S.1 (q + 1)) w a n :=
  cntH_congr fun j hj => ((stl_rel (S := S) (r := r) (q := q) (a := a) (w := w) hn).1.2 j hj).2.2.2
theorem stl_length {S : PSt} {r q a n j : Nat} {w : Int32} (hn : n ≤ 32) (hj : j < n) : (stl S r q a w n).2.1 (r + 5) j = lenV (S.1 (q + 1)) w a n j := by
  rw [← stl_len (S := S) (r := r) hn hj]
  unfold stl lnS
  simp [hj]
theorem stl_at {S : PSt} {r q a n j : Nat} {w : Int32} (hn : n ≤ 32) (hj : j < n) : (stl S r q a w n).2.1 (r + 6) j = atV (S.1 (q + 1)) w a n j := by
  have e : sumF (lenS (rndS r n 33 (cfS (tk S r q a w n) r n)) r) j = atV (S.1 (q + 1)) w a n j := sumF_congr fun i hi => stl_len hn (by omega)
  rw [← e]
  unfold stl lnS
  simp [hj]
theorem stl_sz {S : PSt} {r q a n : Nat} {w : Int32} : (stl S r q a w n).1 r 7 = nI n := (rnd_same 33 _).2.2.2.2.trans (cf_sz.trans tk_sz)
