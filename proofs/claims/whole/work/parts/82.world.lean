/-! the world at the law's entry -/
theorem world_of {s : State} {args : Array Value} (hg : ∀ w ∈ pGood, w.before args s = true) (hn : ∀ w ∈ pNest, w.before args s = true) : ∃ (D : va_G) (tc : Nat → ClassId), pKK D tc s := by
  have g : ∀ (k : Nat) (q : vw_C), vwCl[k]? = some q → (Cond.instantiable q.1 q.2.2).before args s = true → ∃ p : ClassId × (Nat → Nat), u_Kn s q.1 q.2.1 q.2.2 p.1 p.2 := fun k q hq hi => by
    obtain ⟨cC, iS, h⟩ := u_known (ws := pGood) (N := q.2.2) (n := q.2.2) hg (pCl hq).1 hi
    exact ⟨(cC, iS), h⟩
  have cls : ∀ k : Nat, ∃ p : ClassId × (Nat → Nat), ∀ q : vw_C, vwCl[k]? = some q → u_Kn s q.1 q.2.1 q.2.2 p.1 p.2 := by
    intro k
    match k with
    | 0 => obtain ⟨p, h⟩ := g 0 _ rfl (hg _ ib_X0); exact ⟨p, fun q hq => by cases hq; exact h⟩
    | 1 => obtain ⟨p, h⟩ := g 1 _ rfl (hg _ ib_X1); exact ⟨p, fun q hq => by cases hq; exact h⟩
    | 2 => obtain ⟨p, h⟩ := g 2 _ rfl (hg _ ib_X3); exact ⟨p, fun q hq => by cases hq; exact h⟩
    | 3 => obtain ⟨p, h⟩ := g 3 _ rfl (hg _ ib_X4); exact ⟨p, fun q hq => by cases hq; exact h⟩
    | 4 => obtain ⟨p, h⟩ := g 4 _ rfl (hg _ ib_X5); exact ⟨p, fun q hq => by cases hq; exact h⟩
    | 5 => obtain ⟨p, h⟩ := g 5 _ rfl (hg _ ib_X6); exact ⟨p, fun q hq => by cases hq; exact h⟩
    | 6 => obtain ⟨p, h⟩ := g 6 _ rfl (hg _ ib_X7); exact ⟨p, fun q hq => by cases hq; exact h⟩
    | 7 => obtain ⟨p, h⟩ := g 7 _ rfl (hg _ ib_X8); exact ⟨p, fun q hq => by cases hq; exact h⟩
    | 8 => obtain ⟨p, h⟩ := g 8 _ rfl (hg _ ib_X9); exact ⟨p, fun q hq => by cases hq; exact h⟩
    | k + 9 => obtain ⟨p, h⟩ := g 0 _ rfl (hg _ ib_X0); exact ⟨p, fun q hq => by cases hq⟩
  obtain ⟨f, hf⟩ := Classical.axiomOfChoice cls
  obtain ⟨t0, a0, b0⟩ := ty_of (hg _ ac_int)
  obtain ⟨t1, a1, b1⟩ := ty_of (hg _ ac_float)
  obtain ⟨t2, a2, b2⟩ := ty_of (hg _ ac_boolean)
  obtain ⟨t3, a3, b3⟩ := ty_of (hg _ ac_long)
  obtain ⟨t4, a4, b4⟩ := ty_of (hg _ ac_double)
  refine ⟨(fun k => (f k).1, fun k => (f k).2), fun j => match j with | 0 => t0 | 1 => t1 | 2 => t2 | 3 => t3 | _ => t4, ⟨fun c q hq => hf c q hq, fun k q hq => ?_⟩, fun w hw => va_tabs (pNest_tab hw) rfl (hn w hw)⟩
  match k, hq with
  | 0, hq => cases hq; exact ⟨a0, b0⟩
  | 1, hq => cases hq; exact ⟨a1, b1⟩
  | 2, hq => cases hq; exact ⟨a2, b2⟩
  | 3, hq => cases hq; exact ⟨a3, b3⟩
  | 4, hq => cases hq; exact ⟨a4, b4⟩
  | k + 5, hq => cases hq
theorem fin_5 {j : Nat} (h : j < 5) : j = 0 ∨ j = 1 ∨ j = 2 ∨ j = 3 ∨ j = 4 := by omega
theorem ro_all {s : State} {b L : Nat} {xs : Nat → Int32} (hX : va_X b L xs s s.heap) (hbl : b < s.heap.size) (hts : ∀ w ∈ lw_tbl, w.before #[Value.ref b] s = true) (hgv : (Jvm.Cond.and given_1 narrow_1).before #[Value.ref b] s = true) : ∃ ad : Nat → Nat, ad 1000 = b ∧ pRO ad (L, xs) (fun q => s.heap.size ≤ q) s s.heap := by
  have hs := flat_of_before _ hgv
  obtain ⟨t1, e1, l1, x1⟩ := ro_of (args := #[Value.ref b]) (s := s) (tm := .static "EngravedLines" "LEAST" "[I") (N := 5) (f := (pRoC (L, xs) 1).2) (by decide) (hs _ (by decide +kernel)) (va_eqt (hs (.eq (.length (.static "EngravedLines" "LEAST" "[I")) (.int 5)) (by decide +kernel))) (fun j hj => by
    rcases fin_5 hj with rfl | rfl | rfl | rfl | rfl
    · exact va_eqt (hs (.eq (.elem (.static "EngravedLines" "LEAST" "[I") (.int 0)) (.int 0)) (by decide +kernel))
    · exact va_eqt (hs (.eq (.elem (.static "EngravedLines" "LEAST" "[I") (.int 1)) (.int 1)) (by decide +kernel))
    · exact va_eqt (hs (.eq (.elem (.static "EngravedLines" "LEAST" "[I") (.int 2)) (.int (-12))) (by decide +kernel))
    · exact va_eqt (hs (.eq (.elem (.static "EngravedLines" "LEAST" "[I") (.int 3)) (.int 1)) (by decide +kernel))
    · exact va_eqt (hs (.eq (.elem (.static "EngravedLines" "LEAST" "[I") (.int 4)) (.int 0)) (by decide +kernel)))
  obtain ⟨t2, e2, l2, x2⟩ := ro_of (args := #[Value.ref b]) (s := s) (tm := .static "EngravedLines" "MOST" "[I") (N := 5) (f := (pRoC (L, xs) 2).2) (by decide) (hs _ (by decide +kernel)) (va_eqt (hs (.eq (.length (.static "EngravedLines" "MOST" "[I")) (.int 5)) (by decide +kernel))) (fun j hj => by
    rcases fin_5 hj with rfl | rfl | rfl | rfl | rfl
    · exact va_eqt (hs (.eq (.elem (.static "EngravedLines" "MOST" "[I") (.int 0)) (.int 2)) (by decide +kernel))
    · exact va_eqt (hs (.eq (.elem (.static "EngravedLines" "MOST" "[I") (.int 1)) (.int 64)) (by decide +kernel))
    · exact va_eqt (hs (.eq (.elem (.static "EngravedLines" "MOST" "[I") (.int 2)) (.int 20)) (by decide +kernel))
    · exact va_eqt (hs (.eq (.elem (.static "EngravedLines" "MOST" "[I") (.int 3)) (.int 12)) (by decide +kernel))
    · exact va_eqt (hs (.eq (.elem (.static "EngravedLines" "MOST" "[I") (.int 4)) (.int 9)) (by decide +kernel)))
  have hini : (Cond.initialized RX8).before #[Value.ref b] s = true := hts _ (List.mem_filter.mp in_X8).1
  refine ⟨fun k => if k = 1000 then b else if k = 1001 then t1 else t2, rfl, fun j hj => ?_, ?_, ?_⟩
  · match j, hj with
    | 0, _ => exact ⟨hbl, Nat.not_le.mpr hbl, hX⟩
    | 1, _ => exact ⟨l1, Nat.not_le.mpr l1, x1⟩
    | 2, _ => exact ⟨l2, Nat.not_le.mpr l2, x2⟩
    | j + 3, hj => exact absurd hj (by omega)
  · exact va_Zof (hts _ (List.mem_of_getElem? (i := 318) (by decide +kernel))) hini e1 (fun a ha => Nat.not_le.mpr ha)
  · exact va_Zof (hts _ (List.mem_of_getElem? (i := 323) (by decide +kernel))) hini e2 (fun a ha => Nat.not_le.mpr ha)
