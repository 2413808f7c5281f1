/-! from the law's entry -/
theorem zS_i0 (n : Nat) : zS i0 n := fun _ _ _ => ⟨rfl, rfl, rfl, rfl⟩
set_option maxRecDepth 100000 in
theorem law_start {X : Nat × (Nat → Int32)} (hx : X.1 ≤ 3072) : pWP (mLt tbLs) 10 94 8604 0 X lQ 0 [some (.ref 1000), none, none, none] [] 0 0 [] i0 := by
  refine pr_new (pc := 0) (cI := 7) (qc := (RX8, TX8, 13)) (fs := [2, 2, 0, 2, 2, 2, 2, 2, 2, 2, 2, 2, 2]) rfl rfl cl_L_7 ib_X8 in_X8 df_X8 (by decide) (by decide) rfl (by decide) ⟨Nat.le_of_ble_eq_true rfl, Nat.le_of_ble_eq_true rfl⟩ ?_
  rw [show pSZ i0 ([] : List PSh).length = i0 from sz_eq (zS_i0 _)]
  refine pr_dup (pc := 3) rfl rfl ?_
  refine pr_callI (pc := 4) (M1 := mX8_init) (b := 0) (as := []) (rest := [.ref 0]) rfl ce_X8_init ml_L_9 im_X8_init rfl rfl rfl (Nat.le_of_ble_eq_true rfl) (Nat.le_of_ble_eq_true rfl) ⟨Nat.le_of_ble_eq_true rfl, Nat.le_of_ble_eq_true rfl⟩ (sp_X8_init X (sh0 := []) (b := 0) (shF := inA) rfl (by decide) (zS_i0 _) rfl rfl) (fun r9 sh9 S9 h9 => ?_) (fun r9 sh9 S9 h9 => ?_)
  · obtain ⟨-, rfl, -⟩ := h9
    exact pSameN (Nat.le_of_ble_eq_true rfl) (by decide) (by decide)
  obtain ⟨rfl, rfl, rfl⟩ := h9
  refine c_astore_n (pc := 7) (x := 0) (j := 1) (st := []) [some (.ref 1000), some (.ref 0), none, none] rfl (by decide) rfl ?_
  have hz : zS (inE i0) 70 := zS_st (zS_pg (zS_pg (zS_i0 _) (by decide)) (by decide)) (by decide)
  refine pr_new (pc := 8) (cI := 8) (qc := (RX9, TX9, 33)) (fs := [2, 2, 0, 2, 1, 0, 2, 2, 2, 1, 2, 2, 2, 2, 2, 0, 2, 2, 0, 2, 2, 2, 2, 0, 0, 0, 2, 0, 2, 2, 2, 2, 2]) rfl rfl cl_L_10 ib_X9 in_X9 df_X9 (by decide) (Nat.le_of_ble_eq_true rfl) rfl (by decide) ⟨Nat.le_of_ble_eq_true rfl, Nat.le_of_ble_eq_true rfl⟩ ?_
  rw [show inA.length = 70 from rfl, show pSZ (stS9 (pgS (pgS i0 (0 + 1)) (0 + 8)) (0 + 65)) 70 = inE i0 from sz_eq hz]
  refine pr_dup (pc := 11) rfl rfl ?_
  refine pr_callI (pc := 12) (M1 := mX9_init) (b := 70) (as := []) (rest := [.ref 70]) rfl ce_X9_init ml_L_12 im_X9_init rfl rfl rfl (Nat.le_of_ble_eq_true rfl) (Nat.le_of_ble_eq_true rfl) ⟨Nat.le_of_ble_eq_true rfl, Nat.le_of_ble_eq_true rfl⟩ (sp_X9_init X (sh0 := inA) (b := 70) (shF := inA ++ inB) rfl (by decide) hz rfl rfl) (fun r9 sh9 S9 h9 => ?_) (fun r9 sh9 S9 h9 => ?_)
  · obtain ⟨-, rfl, -⟩ := h9
    exact pSameN (Nat.le_of_ble_eq_true rfl) (by decide) (by decide)
  obtain ⟨rfl, rfl, rfl⟩ := h9
  refine c_astore_n (pc := 15) (x := 70) (j := 2) (st := []) [some (.ref 1000), some (.ref 0), some (.ref 70), none] rfl (by decide) rfl ?_
  refine c_iconst (pc := 16) 0 rfl (by decide) ?_
  refine c_istore_n (pc := 17) (x := 0) (j := 3) (lL 0) rfl (by decide) rfl ?_
  exact pr_tab tbLh_ok (law_loop in_el in_mo hx (X.1 + 1) 0 inS (by omega) (by omega) in_rel)
/-- a static array that nobody writes -/
theorem ro_of {args : Array Value} {s : State} {tm : Term} {N : Nat} {f : Nat → Int32} (hN : N < 2 ^ 31) (harr : (Cond.arrayOf tm .int).before args s = true) (hlen : (Term.length tm).eval args s none [] s = some (.int (Int32.ofNat N))) (hel : ∀ j : Nat, j < N → (Term.elem tm (.int (Int32.ofNat j))).eval args s none [] s = some (.int (f j))) : ∃ t : Nat, tm.eval args s none [] s = some (.ref t) ∧ t < s.heap.size ∧ va_X t N f s s.heap := by
  obtain ⟨t, ht, cell, hcell, hof, hkn, -, hsz, hval, -⟩ := va_Tof (A := fun _ => False) hN harr hlen hel (fun _ _ h => h)
  obtain ⟨t2, cell2, ht2, hat, -⟩ := Term.length_spec hlen
  cases ht.symm.trans ht2
  obtain ⟨hcell2, -, -, -⟩ := State.arrayAt?_spec hat
  cases hcell.symm.trans hcell2
  have hlt : cell.slots.size < 2 ^ 31 := by
    simp only [Term.eval, ht, hat, Option.bind_eq_bind, Option.bind_some] at hlen
    by_cases hlt : cell.slots.size < 2147483648
    · exact hlt
    · simp [hlt] at hlen
  have e : cell.slots.size = N := by
    have h1 := congrArg Int32.toInt hsz
    have h2 : (cell.slots.size.toInt32).toInt = cell.slots.size := nI_toInt (n := cell.slots.size) hlt
    have h3 : (Int32.ofNat N).toInt = N := nI_toInt (n := N) hN
    rw [h2, h3] at h1
    omega
  exact ⟨t, ht, (Array.getElem?_eq_some_iff.mp hcell).1, cell, hcell, hof, hkn, e, hval⟩
theorem ty_of {args : Array Value} {s : State} {ty : FieldType} (h : (Cond.arrayClass ty).before args s = true) : ∃ cA : ClassId, ArrOfT s cA ty ∧ s.vm.findClass ("[" ++ ty.toString) = some cA := by
  obtain ⟨cA, kA, comp, h1, h2, h3⟩ := Cond.arrayClass_spec h
  exact ⟨cA, fun n z => ⟨fun k h => (by cases h), kA, h2, comp, h3⟩, h1⟩
