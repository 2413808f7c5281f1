/-! the calls come to the same where the columns agree -/
theorem st_ln {N : Nat} {a b : Int32} (hN : N ≤ 32) (h : isStB N a b = true) : tN a ≤ tN b ∧ tN b < N ∧ tN a + lnN a b ≤ N ∧ lnN a b = tN b - tN a + 1 := by
  obtain ⟨x, y, rfl, rfl, h1, h2⟩ := isSt_of hN h
  have e1 : tN (nI x) = x := tN_nI (by omega)
  have e2 : tN (nI y) = y := tN_nI (by omega)
  unfold lnN
  rw [e1, e2]
  omega
theorem co_ln {N : Nat} {c : Int32} (hN : N ≤ 32) (h : isCoB N c = true) : tN c < N := by
  obtain ⟨x, rfl, h1⟩ := isCo_of hN h
  rw [tN_nI (by omega)]
  exact h1
theorem wh_ln {u : Int32} {m : Nat} {M : Int32} (hm : m < 2 ^ 31) (hM : M = nI m) (h : pWi u 0 M = true) : tN u ≤ m := by
  obtain ⟨k, hk, rfl⟩ := pWi_of hm hM h
  rw [tN_nI (by omega)]
  exact hk
theorem oSet_c {g g' : Nat → Int32} {N : Nat} {c what v : Int32} (h : agC g g' N) (hN : N ≤ 32) : oSet g N c what v = oSet g' N c what v := by
  unfold oSet
  by_cases h1 : isCoB N c = true
  · have := co_ln hN h1
    by_cases h2 : pWi what 0 4 = true
    · have := wh_ln (m := 4) (by decide) rfl h2
      rw [h (5 * tN c + tN what) (by omega)]
    · rw [if_neg h2, if_neg h2]
  · rw [if_neg h1, if_neg h1]
theorem oOf_c {g g' : Nat → Int32} {N : Nat} {c what : Int32} (h : agC g g' N) (hN : N ≤ 32) : oOf g N c what = oOf g' N c what := by
  unfold oOf
  by_cases h1 : isCoB N c = true
  · have hc := co_ln hN h1
    rw [topG_c h hc, botG_c h hc]
    by_cases h2 : pWi what 0 6 = true
    · by_cases h3 : what < 5
      · obtain ⟨k, hk, rfl⟩ := pWi_of (m := 6) (by decide) rfl h2
        have hk5 : k < 5 := (nI_ltI (a := k) (b := 5) (by omega) (by decide)).mp h3
        rw [tN_nI (show k < 2 ^ 31 by omega), h (5 * tN c + k) (by omega)]
      · rw [if_neg h3, if_neg h3]
    · rw [if_neg h2, if_neg h2]
  · rw [if_neg h1, if_neg h1]
theorem oSpring_c {g g' : Nat → Int32} {N : Nat} {c what : Int32} (h : agC g g' N) (hN : N ≤ 32) : oSpring g N c what = oSpring g' N c what := by
  unfold oSpring
  by_cases h1 : isCoB N c = true
  · have hc := co_ln hN h1
    rw [idG_c h hc, flG_c h hc, roG_c h hc]
  · rw [if_neg h1, if_neg h1]
theorem oForce_c {g g' : Nat → Int32} {w : Int32} {N : Nat} {a b : Int32} (h : agC g g' N) (hN : N ≤ 32) : oForce g w N a b = oForce g' w N a b := by
  unfold oForce
  by_cases h1 : isStB N a b = true
  · rw [setV_c h (st_ln hN h1).2.2.1]
  · rw [if_neg h1, if_neg h1]
theorem oHeld_c {g g' : Nat → Int32} {w : Int32} {N : Nat} {a b : Int32} (h : agC g g' N) (hN : N ≤ 32) : oHeld g w N a b = oHeld g' w N a b := by
  unfold oHeld
  by_cases h1 : isStB N a b = true
  · rw [heldV_c h (st_ln hN h1).2.2.1]
  · rw [if_neg h1, if_neg h1]
theorem oBad_c {g g' : Nat → Int32} {w : Int32} {N : Nat} {a b : Int32} (h : agC g g' N) (hN : N ≤ 32) : oBad g w N a b = oBad g' w N a b := by
  unfold oBad
  by_cases h1 : isStB N a b = true
  · rw [fitV_c h (st_ln hN h1).2.2.1, badV_c h (st_ln hN h1).2.2.1]
  · rw [if_neg h1, if_neg h1]
theorem oSky_c {g g' : Nat → Int32} {w : Int32} {N : Nat} {a b side cell : Int32} (h : agC g g' N) (hN : N ≤ 32) : oSky g w N a b side cell = oSky g' w N a b side cell := by
  unfold oSky
  by_cases h1 : isStB N a b = true
  · rw [skyV_c h (st_ln hN h1).2.2.1]
  · rw [if_neg h1, if_neg h1]
theorem oApart_c {g g' : Nat → Int32} {w : Int32} {N : Nat} {a b c d : Int32} (h : agC g g' N) (hN : N ≤ 32) : oApart g w N a b c d = oApart g' w N a b c d := by
  unfold oApart
  by_cases h1 : isStB N a b = true
  · by_cases h2 : isStB N c d = true
    · rw [apV_c h (st_ln hN h1).2.2.1 (st_ln hN h2).2.2.1]
    · rw [if_neg h2, if_neg h2]
  · rw [if_neg h1, if_neg h1]
theorem oLines_c {g g' : Nat → Int32} {w : Int32} {N : Nat} (h : agC g g' N) : oLines g w N = oLines g' w N := by unfold oLines; rw [fouV_c h, linV_c h]
theorem oTotal_c {g g' : Nat → Int32} {w : Int32} {N : Nat} (h : agC g g' N) : oTotal g w N = oTotal g' w N := by unfold oTotal; rw [fouV_c h, totV_c h]
theorem oAt_c {g g' : Nat → Int32} {w : Int32} {N : Nat} {a b i what : Int32} (h : agC g g' N) (hN : N ≤ 32) : oAt g w N a b i what = oAt g' w N a b i what := by
  unfold oAt
  by_cases h1 : isStB N a b = true
  · by_cases h2 : pWi i a b = true
    · obtain ⟨x, y, rfl, rfl, hxy, hy⟩ := isSt_of hN h1
      obtain ⟨k, hk1, hk2, rfl⟩ := pWi_ab (x := x) (y := y) (by omega) (by omega) h2
      have e1 : tN (nI x) = x := tN_nI (by omega)
      have e2 : tN (nI y) = y := tN_nI (by omega)
      have e3 : tN (nI k) = k := tN_nI (by omega)
      unfold lnN
      rw [e1, e2, e3, lenV_c h (by omega) (by omega), atV_c h (by omega) (by omega), cellV_c h (by omega) (by omega)]
    · rw [if_neg h2, if_neg h2]
  · rw [if_neg h1, if_neg h1]
theorem oSlur_c {g g' : Nat → Int32} {N : Nat} {a b what : Int32} (h : agC g g' N) (hN : N ≤ 32) : oSlur g N a b what = oSlur g' N a b what := by
  unfold oSlur
  by_cases h1 : isStB N a b = true
  · have hs := st_ln hN h1
    rw [sluV_c (up := true) h hs.1 hs.2.1, sluV_c (up := false) h hs.1 hs.2.1]
  · rw [if_neg h1, if_neg h1]
theorem oBeam_c {g g' : Nat → Int32} {w : Int32} {N : Nat} {a b what : Int32} (h : agC g g' N) (hN : N ≤ 32) : oBeam g w N a b what = oBeam g' w N a b what := by
  unfold oBeam
  by_cases h1 : isStB N a b = true
  · have hs := st_ln hN h1
    rw [ntsV_c h _ hs.2.2.1, show beaA g w (tN a) (tN b) what = beaA g' w (tN a) (tN b) what by unfold beaA; rw [risV_c h hs.1 hs.2.1, sloV_c h hs.1 hs.2.1, lifV_c h hs.1 hs.2.1, upV_c (x := tN a) (k := tN b - tN a + 1) h (by omega)]]
  · rw [if_neg h1, if_neg h1]
