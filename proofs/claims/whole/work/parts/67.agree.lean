/-! the calls on shelves and sheets come to the same -/
theorem oStore_c {K Z Q K' Z' Q' g g' : Nat → Int32} {N : Nat} {s i c : Int32} (h : shR K Z Q K' Z' Q') (hg : agC g g' N) (hN : N ≤ 32) : oStore K Z g N s i c = oStore K' Z' g' N s i c := by
  unfold oStore
  by_cases h1 : pWi s 0 2 = true
  · have hs := wh_ln (m := 2) (by decide) rfl h1
    by_cases h2 : isCoB N c = true
    · have hc := co_ln hN h2
      rw [hnB_c (i := i) h (show tN s < 3 by omega), (h (tN s) (by omega)).1, hg (5 * tN c + 0) (by omega)]
    · rw [if_neg h2, if_neg h2]
  · rw [if_neg h1, if_neg h1]
theorem oComes_c {K Z Q K' Z' Q' : Nat → Int32} {N : Nat} {s i : Int32} (h : shR K Z Q K' Z' Q') (hz : ∀ u, u < 3 → (Z u).toInt ≤ 12) : oComes K Z Q N s i = oComes K' Z' Q' N s i := by
  unfold oComes
  by_cases h1 : pWi s 0 2 = true
  · have hs := wh_ln (m := 2) (by decide) rfl h1
    have e1 := hnB_c (i := i) h (show tN s < 3 by omega)
    by_cases hb : hnB (K (tN s)) (Z (tN s)) i = true
    · obtain ⟨y, rfl, hy, hk⟩ := hn_of (m := 12) (hz (tN s) (by omega)) hb
      have e2 := (((h (tN s) (by omega)).2 hk).2 y hy).1
      unfold plN
      rw [tN_nI (show y < 2 ^ 31 by omega), ← e1, e2]
    · rw [← e1, if_pos h1, if_pos h1, if_neg hb, if_neg hb]
  · rw [if_neg h1, if_neg h1]
theorem oCount_c {K Z Q K' Z' Q' g g' : Nat → Int32} {w : Int32} {N z : Nat} {what : Int32} (h : shR K Z Q K' Z' Q') (hg : agC g g' N) : oCount g w N z K Z Q what = oCount g' w N z K' Z' Q' what := by
  have e1 := cntN_c hg N (Nat.le_refl N)
  have e2 := sumD_c hg N (Nat.le_refl N)
  have e3 := cnA_c h 3 (Nat.le_refl 3)
  unfold oCount
  rw [e1, e2, e3]
/-- sheets that agree -/
def ssR (Q R : Nat → Int32) (M : Nat → Int64) (Q' R' : Nat → Int32) (M' : Nat → Int64) : Prop := ∀ s, s < 4 → Q s = Q' s ∧ R s = R' s ∧ ∀ i, i < 40 → M (40 * s + i) = M' (40 * s + i)
theorem oPut_c {Q R Q' R' : Nat → Int32} {M M' : Nat → Int64} {s i k : Int32} (h : ssR Q R M Q' R' M') : oPut Q R s i k = oPut Q' R' s i k := by
  unfold oPut
  by_cases h1 : pWi s 0 3 = true
  · have hs := wh_ln (m := 3) (by decide) rfl h1
    have e := h (tN s) (by omega)
    rw [e.1, e.2.1]
  · rw [if_neg h1, if_neg h1]
theorem oLays_c {Q R Q' R' : Nat → Int32} {M M' : Nat → Int64} {N : Nat} {s a b : Int32} (h : ssR Q R M Q' R' M') : oLays Q R N s a b = oLays Q' R' N s a b := by
  unfold oLays
  by_cases h1 : pWi s 0 3 = true
  · have hs := wh_ln (m := 3) (by decide) rfl h1
    have e := h (tN s) (by omega)
    rw [e.1, e.2.1]
  · rw [if_neg h1, if_neg h1]
