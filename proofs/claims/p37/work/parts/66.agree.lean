/-! texts and shelves that agree -/
theorem dgF_c {b b' : Nat → Int32} {z p : Nat} (h : ∀ j, j < z → b j = b' j) : dgF b z p = dgF b' z p := by
  unfold dgF
  by_cases hp : p < z
  · rw [h p hp]
  · rw [if_neg hp, if_neg hp]
theorem nxB_c {b b' : Nat → Int32} {z p : Nat} {c : Int32} (h : ∀ j, j < z → b j = b' j) : nxB b z p c = nxB b' z p c := by
  unfold nxB
  by_cases hp : p < z
  · rw [h p hp]
  · rw [decide_eq_false hp, Bool.false_and, Bool.false_and]
theorem nmF_c {b b' : Nat → Int32} {z : Nat} {most : Int32} (h : ∀ j, j < z → b j = b' j) : ∀ (k : Nat) (v : Int32) (p : Nat), nmF b z most k v p = nmF b' z most k v p := by
  intro k
  induction k with
  | zero => intro v p; rfl
  | succ k ih => intro v p; unfold nmF; rw [dgF_c h, ih]
theorem numF_c {b b' : Nat → Int32} {z p : Nat} {least most : Int32} (h : ∀ j, j < z → b j = b' j) : numF b z least most p = numF b' z least most p := by
  unfold numF
  rw [dgF_c h, nmF_c h]
theorem adF_c {b b' : Nat → Int32} {z : Nat} (h : ∀ j, j < z → b j = b' j) : ∀ (k p : Nat), adF b z k p = adF b' z k p := by
  intro k
  induction k with
  | zero => intro p; rfl
  | succ k ih => intro p; unfold adF; rw [nxB_c h, ih]
theorem sgF_c {b b' : Nat → Int32} {z p : Nat} (h : ∀ j, j < z → b j = b' j) : sgF b z p = sgF b' z p := by
  have n := fun (l m : Int32) (q : Nat) => numF_c (b := b) (b' := b') (z := z) (p := q) (least := l) (most := m) h
  have x := fun (c : Int32) (q : Nat) => nxB_c (b := b) (b' := b') (z := z) (p := q) (c := c) h
  unfold sgF
  simp only [n, x]
theorem muP_c {b b' : Nat → Int32} {z : Nat} (h : ∀ j, j < z → b j = b' j) : ∀ (k p : Nat), muP b z k p = muP b' z k p := by
  intro k
  induction k with
  | zero => intro p; rfl
  | succ k ih =>
    intro p
    have x := fun (c : Int32) (q : Nat) => nxB_c (b := b) (b' := b') (z := z) (p := q) (c := c) h
    unfold muP
    rw [sgF_c h]
    simp only [adF_c h, x, ih]
/-- shelves that agree -/
def shR (K Z Q K' Z' Q' : Nat → Int32) : Prop := ∀ s, s < 3 → K s = K' s ∧ (¬ K s = -1 → Z s = Z' s ∧ ∀ i, i < 12 → Q (5 * (12 * s + i)) = Q' (5 * (12 * s + i)) ∧ (¬ Q (5 * (12 * s + i)) = -1 → ∀ j, j < 5 → Q (5 * (12 * s + i) + j) = Q' (5 * (12 * s + i) + j)))
theorem hnB_c {K Z Q K' Z' Q' : Nat → Int32} {s : Nat} {i : Int32} (h : shR K Z Q K' Z' Q') (hs : s < 3) : hnB (K s) (Z s) i = hnB (K' s) (Z' s) i := by
  obtain ⟨h1, h2⟩ := h s hs
  by_cases e : K s = -1
  · unfold hnB
    rw [← h1, e, decide_eq_false (fun q => q.1 rfl), decide_eq_false (fun q => q.1 rfl)]
  · rw [← h1, (h2 e).1]
theorem cnK_c {K Z Q K' Z' Q' : Nat → Int32} {s : Nat} (h : shR K Z Q K' Z' Q') (hs : s < 3) : ∀ k, k ≤ 12 → cnK K Z Q s k = cnK K' Z' Q' s k := by
  intro k
  induction k with
  | zero => intro _; rfl
  | succ k ih =>
    intro hk
    have e1 := hnB_c (i := nI k) h hs
    unfold cnK
    rw [ih (by omega)]
    by_cases hb : hnB (K s) (Z s) (nI k) = true
    · have hk1 : ¬ K s = -1 := (of_decide_eq_true hb).1
      have e2 := (((h s hs).2 hk1).2 k (by omega)).1
      rw [← e1, e2]
    · rw [if_neg (fun q => hb q.1), if_neg (fun q => hb (by rw [e1]; exact q.1))]
theorem cnA_c {K Z Q K' Z' Q' : Nat → Int32} (h : shR K Z Q K' Z' Q') : ∀ s, s ≤ 3 → cnA K Z Q s = cnA K' Z' Q' s := by
  intro s
  induction s with
  | zero => intro _; rfl
  | succ s ih => intro hs; unfold cnA; rw [ih (by omega), cnK_c h (by omega) 12 (Nat.le_refl _)]
