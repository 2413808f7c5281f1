/-! the calls on lines come to the same where the columns agree -/
theorem poB_le {b : Nat → Int32} : ∀ (L p k : Nat), p < 2 ^ 31 → chB b L p → poB b L p k ≤ p := by
  intro L
  induction L with
  | zero => intro p k _ _; exact Nat.le_refl _
  | succ L ih =>
    intro p k hp h
    obtain ⟨h1, f, h2, h3, h4⟩ := h
    by_cases e : k = L + 1
    · subst e; rw [poB_top]; exact Nat.le_refl _
    · rw [poB_dn e h3 (by omega)]
      have := ih f k (by omega) h4
      omega
theorem sta_N {g : Nat → Int32} {w : Int32} {N k : Nat} (hN : N ≤ 32) (hf : fouV g w N = true) : staV g w N k ≤ N := poB_le _ _ _ (by omega) (lin_ch hN hf)
theorem linA_c {g g' : Nat → Int32} {w : Int32} {N k : Nat} {what : Int32} (h : agC g g' N) (hN : N ≤ 32) (hf : fouV g w N = true) : linA g w N k what = linA g' w N k what := by
  have s0 := sta_N (k := k) hN hf
  have s1 := sta_N (k := k + 1) hN hf
  have s2 := sta_N (k := k + 2) hN hf
  have e0 := staV_c (w := w) (k := k) h
  have e1 := staV_c (w := w) (k := k + 1) h
  have e2 := staV_c (w := w) (k := k + 2) h
  have c := cellV_c (w := w) (a := staV g w N k) (n := staV g w N (k + 1) - staV g w N k) (k := staV g w N (k + 1) - staV g w N k - 1) h (by omega) (by omega)
  have ap := apV_c (w := w) (a := staV g w N k) (n := staV g w N (k + 1) - staV g w N k) (c := staV g w N (k + 1)) (m := staV g w N (k + 2) - staV g w N (k + 1)) h (by omega) (by omega)
  unfold linA
  rw [c, ap, e0, e1, e2]
theorem oLine_c {g g' : Nat → Int32} {w : Int32} {N : Nat} {k what : Int32} (h : agC g g' N) (hN : N ≤ 32) : oLine g w N k what = oLine g' w N k what := by
  have ef := fouV_c (w := w) h
  have el := linV_c (w := w) h
  by_cases hf : fouV g w N = true
  · have ea := linA_c (w := w) (k := tN k) (what := what) h hN hf
    unfold oLine
    rw [ea, ef, el]
  · have hf2 : ¬ fouV g' w N = true := by rw [← ef]; exact hf
    unfold oLine
    rw [if_neg hf, if_neg hf2]
theorem othV_c {g g' f f' : Nat → Int32} {w : Int32} {N k : Nat} (h : agC g g' N) (h2 : agC f f' N) (hN : N ≤ 32) (hf : fouV g w N = true) : othV g f w N k = othV g' f' w N k := by
  have s0 := sta_N (k := k) hN hf
  have s1 := sta_N (k := k + 1) hN hf
  have e0 := staV_c (w := w) (k := k) h
  have e1 := staV_c (w := w) (k := k + 1) h
  have f0 := staV_c (w := w) (k := k) h2
  have f1 := staV_c (w := w) (k := k + 1) h2
  have el := linV_c (w := w) h2
  have d := difV_c (w := w) (x := staV g w N k) (n := staV g w N (k + 1) - staV g w N k) h h2 (by omega) (staV g w N (k + 1) - staV g w N k) (Nat.le_refl _)
  unfold othV
  rw [d, e0, e1, f0, f1, el]
theorem movN_c {g g' f f' : Nat → Int32} {w : Int32} {N : Nat} (h : agC g g' N) (h2 : agC f f' N) (hN : N ≤ 32) (hf : fouV g w N = true) : ∀ k, movN g f w N k = movN g' f' w N k := by
  intro k
  induction k with
  | zero => rfl
  | succ k ih => unfold movN; rw [ih, othV_c h h2 hN hf]
theorem oMoved_c {g g' f f' : Nat → Int32} {w : Int32} {N : Nat} {c step dur : Int32} (h : agC g g' N) (h2 : agC f f' N) (hN : N ≤ 32) : oMoved g f w N c step dur = oMoved g' f' w N c step dur := by
  have e1 := fouV_c (w := w) h
  have e2 := fouV_c (w := w) h2
  by_cases hf : fouV g w N = true
  · have e3 := movN_c (w := w) h h2 hN hf (linV g w N)
    have e4 := linV_c (w := w) h
    unfold oMoved
    rw [e3, e1, e2, e4]
  · have hf2 : ¬ fouV g' w N = true := by rw [← e1]; exact hf
    unfold oMoved
    rw [if_neg (show ¬ (fouV g w N = true ∧ fouV f w N = true) from fun q => hf q.1), if_neg (show ¬ (fouV g' w N = true ∧ fouV f' w N = true) from fun q => hf2 q.1)]
theorem movG_c {g g' : Nat → Int32} {N c : Nat} {step dur : Int32} (h : agC g g' N) : agC (movG g c step dur) (movG g' c step dur) N := by
  intro j hj
  unfold movG
  rw [h j hj]
