/-! the world at the law's entry -/
theorem world_of {s : State} {args : Array Value} (hg : ∀ w ∈ pGood, w.before args s = true) (hn : ∀ w ∈ pNest, w.before args s = true) : ∃ (D : va_G) (tc : Nat → ClassId), pKK D tc s := by
  have g : ∀ (k : Nat) (q : vw_C), vwCl[k]? = some q → (Cond.instantiable q.1 q.2.2).before args s = true → ∃ p : ClassId × (Nat → Nat), u_Kn s q.1 q.2.1 q.2.2 p.1 p.2 := fun k q hq hi => by
    obtain ⟨cC, iS, h⟩ := u_known (ws := pGood) (N := q.2.2) (n := q.2.2) hg (pCl hq).1 hi
    exact ⟨(cC, iS), h⟩
  have cls : ∀ k : Nat, ∃ p : ClassId × (Nat → Nat), ∀ q : vw_C, vwCl[k]? = some q → u_Kn s q.1 q.2.1 q.2.2 p.1 p.2 := by
    intro k
    match k with
    | 0 => obtain ⟨p, h⟩ := g 0 _ rfl (hg _ ib_X0); exact ⟨p, fun q hq => by cases hq; exact h⟩
    | 1 => obtain ⟨p, h⟩ := g 1 _ rfl (hg _ ib_X1); exact ⟨p, fun q hq => by cases hq; exact h⟩
    | 2 => obtain ⟨p, h⟩ := g 2 _ rfl (hg _ ib_X3); exact ⟨p, fun q hq => by cases hq; exact h⟩
    | 3 => obtain ⟨p, h⟩ := g 3 _ rfl (hg _ ib_X4); exact ⟨p, fun q hq => by cases hq; exact h⟩
    | 4 => obtain ⟨p, h⟩ := g 4 _ rfl (hg _ ib_X5); exact ⟨p, fun q hq => by cases hq; exact h⟩
    | 5 => obtain ⟨p, h⟩ := g 5 _ rfl (hg _ ib_X6); exact ⟨p, fun q hq => by cases hq; exact h⟩
    | 6 => obtain ⟨p, h⟩ := g 6 _ rfl (hg _ ib_X7); exact ⟨p, fun q hq => by cases hq; exact h⟩
    | 7 => obtain ⟨p, h⟩ := g 7 _ rfl (hg _ ib_X8); exact ⟨p, fun q hq => by cases hq; exact h⟩
    | k + 8 => obtain ⟨p, h⟩ := g 0 _ rfl (hg _ ib_X0); exact ⟨p, fun q hq => by cases hq⟩
  obtain ⟨f, hf⟩ := Classical.axiomOfChoice cls
  obtain ⟨t0, a0, b0⟩ := ty_of (hg _ ac_int)
  obtain ⟨t1, a1, b1⟩ := ty_of (hg _ ac_float)
  obtain ⟨t2, a2, b2⟩ := ty_of (hg _ ac_boolean)
  obtain ⟨t3, a3, b3⟩ := ty_of (hg _ ac_long)
  obtain ⟨t4, a4, b4⟩ := ty_of (hg _ ac_byte)
  refine ⟨(fun k => (f k).1, fun k => (f k).2), fun j => match j with | 0 => t0 | 1 => t1 | 2 => t2 | 3 => t3 | _ => t4, ⟨fun c q hq => hf c q hq, fun k q hq => ?_⟩, fun w hw => va_tabs (pNest_tab hw) rfl (hn w hw)⟩
  match k, hq with
  | 0, hq => cases hq; exact ⟨a0, b0⟩
  | 1, hq => cases hq; exact ⟨a1, b1⟩
  | 2, hq => cases hq; exact ⟨a2, b2⟩
  | 3, hq => cases hq; exact ⟨a3, b3⟩
  | 4, hq => cases hq; exact ⟨a4, b4⟩
  | k + 5, hq => cases hq
theorem fin_5 {j : Nat} (h : j < 5) : j = 0 ∨ j = 1 ∨ j = 2 ∨ j = 3 ∨ j = 4 := by omega
theorem fin_11 {j : Nat} (h : j < 11) : j = 0 ∨ j = 1 ∨ j = 2 ∨ j = 3 ∨ j = 4 ∨ j = 5 ∨ j = 6 ∨ j = 7 ∨ j = 8 ∨ j = 9 ∨ j = 10 := by omega
/-- the text of music, as the start has it -/
theorem str_all {s : State} {args : Array Value} (hts : ∀ w ∈ lw_tbl, w.before args s = true) (hgv : (Jvm.Cond.and given_1 narrow_1).before args s = true) : ∃ a3 a4 a5 : Nat, ∀ ad : Nat → Nat, ad 1003 = a3 → ad 1004 = a4 → ad 1005 = a5 → pStr ad (fun q => s.heap.size ≤ q) s s.heap := by
  have hs := flat_of_before _ hgv
  have hA : ∀ a : Nat, a < s.heap.size → ¬ (s.heap.size ≤ a) := fun a ha => Nat.not_le.mpr ha
  obtain ⟨adK, adV, hS, hK⟩ := vk_Sof (args := args) (s := s) (N := 1) (tm := fun _ => .string "EngravedLinesLaw" 156) (len := [11]) (byt := [pTx]) (A := fun q => s.heap.size ≤ q)
    (fun i hi => by rcases (show i = 0 by omega) with rfl; decide)
    (fun i _ => hs (.exactly (.string "EngravedLinesLaw" 156) "java/lang/String") (by decide +kernel))
    (fun i _ => hs (.eq (.field (.string "EngravedLinesLaw" 156) "java/lang/String" "coder" "B") (.int 0)) (by decide +kernel))
    (fun i _ => hs (.arrayOf (.field (.string "EngravedLinesLaw" 156) "java/lang/String" "value" "[B") .byte) (by decide +kernel))
    (fun i hi => by rcases (show i = 0 by omega) with rfl; exact hs (.eq (.length (.field (.string "EngravedLinesLaw" 156) "java/lang/String" "value" "[B")) (.int 11)) (by decide +kernel))
    (fun i hi j hj => by
      rcases (show i = 0 by omega) with rfl
      rcases fin_11 (show j < 11 from hj) with rfl | rfl | rfl | rfl | rfl | rfl | rfl | rfl | rfl | rfl | rfl
      · exact hs (.eq (.elem (.field (.string "EngravedLinesLaw" 156) "java/lang/String" "value" "[B") (.int 0)) (.int 110)) (by decide +kernel)
      · exact hs (.eq (.elem (.field (.string "EngravedLinesLaw" 156) "java/lang/String" "value" "[B") (.int 1)) (.int 49)) (by decide +kernel)
      · exact hs (.eq (.elem (.field (.string "EngravedLinesLaw" 156) "java/lang/String" "value" "[B") (.int 2)) (.int 54)) (by decide +kernel)
      · exact hs (.eq (.elem (.field (.string "EngravedLinesLaw" 156) "java/lang/String" "value" "[B") (.int 3)) (.int 45)) (by decide +kernel)
      · exact hs (.eq (.elem (.field (.string "EngravedLinesLaw" 156) "java/lang/String" "value" "[B") (.int 4)) (.int 52)) (by decide +kernel)
      · exact hs (.eq (.elem (.field (.string "EngravedLinesLaw" 156) "java/lang/String" "value" "[B") (.int 5)) (.int 39)) (by decide +kernel)
      · exact hs (.eq (.elem (.field (.string "EngravedLinesLaw" 156) "java/lang/String" "value" "[B") (.int 6)) (.int 32)) (by decide +kernel)
      · exact hs (.eq (.elem (.field (.string "EngravedLinesLaw" 156) "java/lang/String" "value" "[B") (.int 7)) (.int 98)) (by decide +kernel)
      · exact hs (.eq (.elem (.field (.string "EngravedLinesLaw" 156) "java/lang/String" "value" "[B") (.int 8)) (.int 32)) (by decide +kernel)
      · exact hs (.eq (.elem (.field (.string "EngravedLinesLaw" 156) "java/lang/String" "value" "[B") (.int 9)) (.int 114)) (by decide +kernel)
      · exact hs (.eq (.elem (.field (.string "EngravedLinesLaw" 156) "java/lang/String" "value" "[B") (.int 10)) (.int 51)) (by decide +kernel))
    (fun i j hi hj hne => absurd (show i = j by omega) hne) hA
  have hiS : (Cond.initialized "java/lang/String").before args s = true := hts _ (List.mem_of_getElem? (i := 41) (by decide +kernel))
  have hiP : (Cond.initialized "jdk/internal/util/Preconditions").before args s = true := hts _ (List.mem_of_getElem? (i := 43) (by decide +kernel))
  have hC : va_Z "java/lang/String" "COMPACT_STRINGS" "Z" (.int 1) (fun q => s.heap.size ≤ q) s s.heap := va_Zof (hts _ (List.mem_of_getElem? (i := 816) (by decide +kernel))) hiS (va_eqi (hs (.eq (.static "java/lang/String" "COMPACT_STRINGS" "Z") (.int 1)) (by decide +kernel))) hA
  have hF := va_Zqof (C := "jdk/internal/util/Preconditions") (n := "SIOOBE_FORMATTER") (d := "Ljava/util/function/BiFunction;") (A := fun q => s.heap.size ≤ q) (hts _ (List.mem_of_getElem? (i := 832) (by decide +kernel))) hiP (hs (.isRef (.static "jdk/internal/util/Preconditions" "SIOOBE_FORMATTER" "Ljava/util/function/BiFunction;")) (by decide +kernel)) hA
  have hR : vk_R "EngravedLinesLaw" 156 "n16-4' b r3" (adK 0) s := vk_R.of (A := args) (hts _ (List.mem_of_getElem? (i := 855) (by decide +kernel))) (hK 0 (by decide))
  obtain ⟨a5, h5⟩ : ∃ a5, ∀ ad : Nat → Nat, ad 1005 = a5 → pFm ad (fun q => s.heap.size ≤ q) s s.heap := by
    rcases hF with h | ⟨x, h⟩
    · exact ⟨0, fun ad _ => Or.inl h⟩
    · exact ⟨x, fun ad e => Or.inr (by rw [e]; exact h)⟩
  refine ⟨adK 0, adV 0, a5, fun ad e3 e4 e5 => ⟨⟨fun i hi => ?_, fun i j hi hj _ => by omega⟩, ?_, hC, h5 ad e5⟩⟩
  · rcases (show i = 0 by omega) with rfl
    rw [e3, e4]
    exact hS.1 0 hi
  · rw [e3]
    exact hR
theorem ro_all {s : State} {b L : Nat} {xs : Nat → Int32} (hX : va_X b L xs s s.heap) (hbl : b < s.heap.size) (hts : ∀ w ∈ lw_tbl, w.before #[Value.ref b] s = true) (hgv : (Jvm.Cond.and given_1 narrow_1).before #[Value.ref b] s = true) : ∃ ad : Nat → Nat, ad 1000 = b ∧ pRO ad (L, xs) (fun q => s.heap.size ≤ q) s s.heap := by
  have hs := flat_of_before _ hgv
  obtain ⟨t1, e1, l1, x1⟩ := ro_of (args := #[Value.ref b]) (s := s) (tm := .static "EngravedLines" "LEAST" "[I") (N := 5) (f := (pRoC (L, xs) 1).2) (by decide) (hs _ (by decide +kernel)) (va_eqt (hs (.eq (.length (.static "EngravedLines" "LEAST" "[I")) (.int 5)) (by decide +kernel))) (fun j hj => by
    rcases fin_5 hj with rfl | rfl | rfl | rfl | rfl
    · exact va_eqt (hs (.eq (.elem (.static "EngravedLines" "LEAST" "[I") (.int 0)) (.int 0)) (by decide +kernel))
    · exact va_eqt (hs (.eq (.elem (.static "EngravedLines" "LEAST" "[I") (.int 1)) (.int 1)) (by decide +kernel))
    · exact va_eqt (hs (.eq (.elem (.static "EngravedLines" "LEAST" "[I") (.int 2)) (.int (-12))) (by decide +kernel))
    · exact va_eqt (hs (.eq (.elem (.static "EngravedLines" "LEAST" "[I") (.int 3)) (.int 1)) (by decide +kernel))
    · exact va_eqt (hs (.eq (.elem (.static "EngravedLines" "LEAST" "[I") (.int 4)) (.int 0)) (by decide +kernel)))
  obtain ⟨t2, e2, l2, x2⟩ := ro_of (args := #[Value.ref b]) (s := s) (tm := .static "EngravedLines" "MOST" "[I") (N := 5) (f := (pRoC (L, xs) 2).2) (by decide) (hs _ (by decide +kernel)) (va_eqt (hs (.eq (.length (.static "EngravedLines" "MOST" "[I")) (.int 5)) (by decide +kernel))) (fun j hj => by
    rcases fin_5 hj with rfl | rfl | rfl | rfl | rfl
    · exact va_eqt (hs (.eq (.elem (.static "EngravedLines" "MOST" "[I") (.int 0)) (.int 2)) (by decide +kernel))
    · exact va_eqt (hs (.eq (.elem (.static "EngravedLines" "MOST" "[I") (.int 1)) (.int 64)) (by decide +kernel))
    · exact va_eqt (hs (.eq (.elem (.static "EngravedLines" "MOST" "[I") (.int 2)) (.int 20)) (by decide +kernel))
    · exact va_eqt (hs (.eq (.elem (.static "EngravedLines" "MOST" "[I") (.int 3)) (.int 12)) (by decide +kernel))
    · exact va_eqt (hs (.eq (.elem (.static "EngravedLines" "MOST" "[I") (.int 4)) (.int 9)) (by decide +kernel)))
  obtain ⟨a3, a4, a5, hstr⟩ := str_all hts hgv
  have hini : (Cond.initialized RX8).before #[Value.ref b] s = true := hts _ (List.mem_filter.mp in_X8).1
  refine ⟨fun k => if k = 1000 then b else if k = 1001 then t1 else if k = 1002 then t2 else if k = 1003 then a3 else if k = 1004 then a4 else a5, rfl, fun j hj => ?_, ?_, ?_, hstr _ rfl rfl rfl⟩
  · match j, hj with
    | 0, _ => exact ⟨hbl, Nat.not_le.mpr hbl, hX⟩
    | 1, _ => exact ⟨l1, Nat.not_le.mpr l1, x1⟩
    | 2, _ => exact ⟨l2, Nat.not_le.mpr l2, x2⟩
    | j + 3, hj => exact absurd hj (by omega)
  · exact va_Zof (hts _ (List.mem_of_getElem? (i := 285) (by decide +kernel))) hini e1 (fun a ha => Nat.not_le.mpr ha)
  · exact va_Zof (hts _ (List.mem_of_getElem? (i := 290) (by decide +kernel))) hini e2 (fun a ha => Nat.not_le.mpr ha)
