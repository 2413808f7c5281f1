/-! the start: both are as new -/
def i0 : PSt := (fun _ _ => 0, fun _ _ => 0, fun _ _ => 0, fun _ _ => 0)
def inE (S : PSt) : PSt := stS9 (pgS (pgS S (0 + 1)) (0 + 8)) (0 + 65)
def inM (S : PSt) (b : Nat) : PSt := pSI (pSI (pSI (pSI (pSI (pSI (pSI (pSI S (b + 19) 0 (-1)) (b + 19) 1 (-1)) (b + 19) 2 (-1)) (b + 19) 3 (-1)) (b + 1) 1 120) (b + 1) 162 (-1)) (b + 1) 224 (-1)) (b + 1) 286 (-1)
def inS : PSt := inM (inE i0) 70
theorem in_o {x j : Nat} (h : x ≠ 1 ∧ x ≠ 6 ∧ x ≠ 8 ∧ x ≠ 13 ∧ x ≠ 66 ∧ x ≠ 71 ∧ x ≠ 89) : inS.1 x j = 0 := by
  unfold inS inM
  rw [pSI_ne (by omega), pSI_ne (by omega), pSI_ne (by omega), pSI_ne (by omega), pSI_ne (by omega), pSI_ne (by omega), pSI_ne (by omega), pSI_ne (by omega)]
  unfold inE
  rw [stS9_ne (by omega), pgS_ne (by omega) (by omega), pgS_ne (by omega) (by omega)]
  rfl
theorem in_71 {j : Nat} (h1 : j ≠ 1) (h2 : j ≠ 162) (h3 : j ≠ 224) (h4 : j ≠ 286) : inS.1 71 j = 0 := by
  have e : ∀ S : PSt, (inM S 70).1 71 j = S.1 71 j := fun S => by
    unfold inM
    rw [pSI_j h4, pSI_j h3, pSI_j h2, pSI_j h1, pSI_ne (by omega), pSI_ne (by omega), pSI_ne (by omega), pSI_ne (by omega)]
  unfold inS
  rw [e]
  unfold inE
  rw [stS9_ne (by omega), pgS_ne (by omega) (by omega), pgS_ne (by omega) (by omega)]
  rfl
theorem in_6 : inS.1 6 0 = -1 ∧ inS.1 6 1 = -1 ∧ inS.1 6 2 = -1 := ⟨by decide, by decide, by decide⟩
theorem in_66 : inS.1 66 0 = -1 ∧ inS.1 66 1 = -1 ∧ inS.1 66 2 = -1 ∧ inS.1 66 3 = -1 := ⟨by decide, by decide, by decide, by decide⟩
theorem in_89 : inS.1 89 0 = -1 ∧ inS.1 89 1 = -1 ∧ inS.1 89 2 = -1 ∧ inS.1 89 3 = -1 := ⟨by decide, by decide, by decide, by decide⟩
theorem in_fK : inS.1 71 162 = -1 ∧ inS.1 71 224 = -1 ∧ inS.1 71 286 = -1 := ⟨by decide, by decide, by decide⟩
theorem in_1 : inS.1 1 1 = 0 ∧ inS.1 1 2 = 120 ∧ inS.1 71 1 = 120 := ⟨by decide, by decide, by decide⟩
theorem in_rel : rel inS inS := by
  have k6 : ∀ s, s < 3 → inS.1 6 s = -1 := fun s hs => by
    rcases (show s = 0 ∨ s = 1 ∨ s = 2 by omega) with rfl | rfl | rfl
    · exact in_6.1
    · exact in_6.2.1
    · exact in_6.2.2
  have k71 : ∀ s, s < 3 → fK (inS.1 71) s = -1 := fun s hs => by
    rcases (show s = 0 ∨ s = 1 ∨ s = 2 by omega) with rfl | rfl | rfl
    · exact in_fK.1
    · exact in_fK.2.1
    · exact in_fK.2.2
  refine ⟨0, 0, ⟨in_1.1, by decide, fun i hi => absurd hi (by omega), ?_, in_71 (by decide) (by decide) (by decide) (by decide), in_1.2.2.trans in_1.2.1.symm, fun j hj => absurd hj (by omega)⟩, ⟨fun s hs => ?_, fun s hs => ?_, fun s hs hk => absurd (k6 s hs) hk, fun s hs => ?_⟩, ⟨?_, fun h => ?_⟩, ⟨?_, ?_, by decide, fun j hj => absurd hj (by omega)⟩, fun s hs => ?_, fun e _ _ => ?_⟩
  · rw [in_1.2.1]; exact ⟨by decide, by decide⟩
  · rw [in_o (by omega)]; decide
  · rw [k6 s hs, k71 s hs]
    exact ⟨rfl, fun h => absurd rfl h⟩
  · refine ⟨Or.inl (k71 s hs), ?_, fun i hi => Or.inr (Or.inl ?_)⟩
    · have : fZ (inS.1 71) s = 0 := in_71 (by omega) (by omega) (by omega) (by omega)
      rw [this]
      decide
    · exact in_71 (by omega) (by omega) (by omega) (by omega)
  · rw [in_o (by omega), in_o (by omega)]
  · exact absurd (in_o (by omega)) h
  · rw [in_o (by omega)]; rfl
  · rw [in_o (by omega)]; rfl
  · have e1 : inS.1 66 s = -1 ∧ inS.1 89 s = -1 := by
      rcases (show s = 0 ∨ s = 1 ∨ s = 2 ∨ s = 3 by omega) with rfl | rfl | rfl | rfl
      · exact ⟨in_66.1, in_89.1⟩
      · exact ⟨in_66.2.1, in_89.2.1⟩
      · exact ⟨in_66.2.2.1, in_89.2.2.1⟩
      · exact ⟨in_66.2.2.2, in_89.2.2.2⟩
    rw [e1.1, e1.2, in_o (by omega), in_o (by omega)]
    refine ⟨rfl, rfl, by decide, Or.inl rfl, fun i hi => ⟨?_, sF_0, sD_0⟩⟩
    rw [mM_at hi, e1.2, mN_2 (by decide) (by decide), in_o (by omega)]
    rfl
  · rw [in_o (by omega), in_o (by omega)]
/-- the cells of both -/
def inA : List PSh := [.inr (7, [0 + 1 + 3, 0 + 8 + 3, 0, 0 + 15 + 3, 0 + 22 + 3, 0 + 29 + 3, 0 + 33 + 3, 0 + 37 + 3, 0 + 48 + 3, 0 + 59 + 3, 0 + 61 + 3, 0 + 65 + 3, 0 + 69 + 3]), .inr (1, [0 + 1 + 1 + 3, 0, 0, 0 + 1 + 3 + 3, 0 + 1 + 5 + 3, 0 + 1 + 6 + 3]), .inr (3, [0 + 1 + 1 + 1 + 3]), .inl (0, 180), .inr (3, [0 + 1 + 3 + 1 + 3]), .inl (0, 180), .inl (0, 3), .inl (0, 3), .inr (1, [0 + 8 + 1 + 3, 0, 0, 0 + 8 + 3 + 3, 0 + 8 + 5 + 3, 0 + 8 + 6 + 3]), .inr (3, [0 + 8 + 1 + 1 + 3]), .inl (0, 180), .inr (3, [0 + 8 + 3 + 1 + 3]), .inl (0, 180), .inl (0, 3), .inl (0, 3), .inr (5, [0 + 15 + 1 + 3, 0 + 15 + 2 + 3, 0 + 15 + 3 + 3, 0 + 15 + 4 + 3, 0 + 15 + 5 + 3, 0 + 15 + 6 + 3, 0, 0, 1, 1]), .inl (1, 32), .inl (1, 32), .inl (1, 32), .inl (2, 32), .inl (1, 32), .inl (1, 32), .inr (5, [0 + 22 + 1 + 3, 0 + 22 + 2 + 3, 0 + 22 + 3 + 3, 0 + 22 + 4 + 3, 0 + 22 + 5 + 3, 0 + 22 + 6 + 3, 0, 0, 1, 1]), .inl (1, 32), .inl (1, 32), .inl (1, 32), .inl (2, 32), .inl (1, 32), .inl (1, 32), .inr (4, [0 + 29 + 1 + 3, 0 + 29 + 2 + 3, 0 + 29 + 3 + 3]), .inl (2, 400), .inl (0, 400), .inl (0, 400), .inr (4, [0 + 33 + 1 + 3, 0 + 33 + 2 + 3, 0 + 33 + 3 + 3]), .inl (2, 400), .inl (0, 400), .inl (0, 400), .inr (0, [0 + 37 + 1 + 3, 0 + 37 + 2 + 3, 0 + 37 + 3 + 3, 0 + 37 + 4 + 3, 0, 0, 1]), .inl (0, 33), .inl (1, 33), .inl (0, 33), .inr (5, [0 + 37 + 4 + 1 + 3, 0 + 37 + 4 + 2 + 3, 0 + 37 + 4 + 3 + 3, 0 + 37 + 4 + 4 + 3, 0 + 37 + 4 + 5 + 3, 0 + 37 + 4 + 6 + 3, 0, 0, 1, 1]), .inl (1, 32), .inl (1, 32), .inl (1, 32), .inl (2, 32), .inl (1, 32), .inl (1, 32), .inr (0, [0 + 48 + 1 + 3, 0 + 48 + 2 + 3, 0 + 48 + 3 + 3, 0 + 48 + 4 + 3, 0, 0, 1]), .inl (0, 33), .inl (1, 33), .inl (0, 33), .inr (5, [0 + 48 + 4 + 1 + 3, 0 + 48 + 4 + 2 + 3, 0 + 48 + 4 + 3 + 3, 0 + 48 + 4 + 4 + 3, 0 + 48 + 4 + 5 + 3, 0 + 48 + 4 + 6 + 3, 0, 0, 1, 1]), .inl (1, 32), .inl (1, 32), .inl (1, 32), .inl (2, 32), .inl (1, 32), .inl (1, 32), .inr (3, [0 + 59 + 1 + 3]), .inl (0, 180), .inr (6, [0 + 61 + 1 + 3, 0, 0 + 61 + 2 + 3, 0, 0]), .inl (0, 160), .inr (3, [0 + 61 + 2 + 1 + 3]), .inl (0, 180), .inr (2, [0 + 65 + 1 + 3, 0 + 65 + 2 + 3, 0 + 65 + 3 + 3]), .inl (0, 4), .inl (0, 4), .inl (3, 160), .inl (0, 8)]
def inB : List PSh := [.inr (8, [70 + 1 + 3, 70 + 2 + 3, 0, 70 + 3 + 3, 1, 0, 70 + 4 + 3, 70 + 5 + 3, 70 + 6 + 3, 1, 70 + 7 + 3, 70 + 8 + 3, 70 + 9 + 3, 70 + 10 + 3, 70 + 11 + 3, 0, 70 + 12 + 3, 70 + 13 + 3, 0, 70 + 14 + 3, 70 + 15 + 3, 70 + 16 + 3, 70 + 17 + 3, 0, 0, 0, 70 + 18 + 3, 0, 70 + 19 + 3, 70 + 20 + 3, 70 + 21 + 3, 70 + 22 + 3, 70 + 23 + 3]), .inl (0, 348), .inl (0, 348), .inl (0, 8), .inl (2, 32), .inl (1, 32), .inl (1, 32), .inl (0, 400), .inl (0, 400), .inl (0, 400), .inl (1, 33), .inl (0, 33), .inl (0, 33), .inl (0, 33), .inl (0, 33), .inl (0, 33), .inl (1, 32), .inl (0, 160), .inl (0, 800), .inl (0, 4), .inl (0, 4), .inl (1, 160), .inl (4, 160), .inl (0, 160)]
theorem in_el : isEl (inA ++ inB) := by
  unfold isEl isPg isSt isSk isBe isSg isTp isSs isSt isSg
  repeat' constructor
theorem in_mo : isMo (inA ++ inB) := by
  unfold isMo
  repeat' constructor
