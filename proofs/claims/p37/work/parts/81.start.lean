/-! from the law's entry -/
def i0 : PSt := (fun _ _ => 0, fun _ _ => 0, fun _ _ => 0, fun _ _ => 0)
theorem zS_i0 (n : Nat) : zS i0 n := fun _ _ _ => ⟨rfl, rfl, rfl, rfl⟩
def inE (S : PSt) : PSt := stS9 (pgS (pgS S (0 + 1)) (0 + 8)) (0 + 65)
def inS : PSt := pSI (inE i0) 70 1 120
theorem in_o {x j : Nat} (h : x ≠ 1 ∧ x ≠ 6 ∧ x ≠ 8 ∧ x ≠ 13 ∧ x ≠ 66 ∧ x ≠ 70) : inS.1 x j = 0 := by
  unfold inS
  rw [pSI_ne (by omega)]
  unfold inE
  rw [stS9_ne (by omega), pgS_ne (by omega) (by omega), pgS_ne (by omega) (by omega)]
  rfl
theorem in_1 : inS.1 1 1 = 0 ∧ inS.1 1 2 = 120 ∧ inS.1 70 1 = 120 ∧ inS.1 6 0 = -1 := ⟨by decide, by decide, by decide, by decide⟩
theorem in_tI : tI 0 inS := by
  refine ⟨⟨0, in_1.1, by decide, fun i hi => absurd hi (Nat.not_lt_zero i), ?_⟩, ⟨in_o (by decide), by decide⟩, fun s _ => ?_, in_1.2.2.1.trans in_1.2.1.symm, fun _ => in_1.2.2.2⟩
  · rw [in_1.2.1]; exact ⟨by decide, by decide⟩
  · rw [in_o (by decide)]; decide
/-- the cells of the class's object -/
def inA : List PSh := [.inr (7, [0 + 1 + 3, 0 + 8 + 3, 0, 0 + 15 + 3, 0 + 22 + 3, 0 + 29 + 3, 0 + 33 + 3, 0 + 37 + 3, 0 + 48 + 3, 0 + 59 + 3, 0 + 61 + 3, 0 + 65 + 3, 0 + 69 + 3]), .inr (1, [0 + 1 + 1 + 3, 0, 0, 0 + 1 + 3 + 3, 0 + 1 + 5 + 3, 0 + 1 + 6 + 3]), .inr (3, [0 + 1 + 1 + 1 + 3]), .inl (0, 180), .inr (3, [0 + 1 + 3 + 1 + 3]), .inl (0, 180), .inl (0, 3), .inl (0, 3), .inr (1, [0 + 8 + 1 + 3, 0, 0, 0 + 8 + 3 + 3, 0 + 8 + 5 + 3, 0 + 8 + 6 + 3]), .inr (3, [0 + 8 + 1 + 1 + 3]), .inl (0, 180), .inr (3, [0 + 8 + 3 + 1 + 3]), .inl (0, 180), .inl (0, 3), .inl (0, 3), .inr (5, [0 + 15 + 1 + 3, 0 + 15 + 2 + 3, 0 + 15 + 3 + 3, 0 + 15 + 4 + 3, 0 + 15 + 5 + 3, 0 + 15 + 6 + 3, 0, 0, 1, 1]), .inl (1, 32), .inl (1, 32), .inl (1, 32), .inl (2, 32), .inl (1, 32), .inl (1, 32), .inr (5, [0 + 22 + 1 + 3, 0 + 22 + 2 + 3, 0 + 22 + 3 + 3, 0 + 22 + 4 + 3, 0 + 22 + 5 + 3, 0 + 22 + 6 + 3, 0, 0, 1, 1]), .inl (1, 32), .inl (1, 32), .inl (1, 32), .inl (2, 32), .inl (1, 32), .inl (1, 32), .inr (4, [0 + 29 + 1 + 3, 0 + 29 + 2 + 3, 0 + 29 + 3 + 3]), .inl (2, 400), .inl (0, 400), .inl (0, 400), .inr (4, [0 + 33 + 1 + 3, 0 + 33 + 2 + 3, 0 + 33 + 3 + 3]), .inl (2, 400), .inl (0, 400), .inl (0, 400), .inr (0, [0 + 37 + 1 + 3, 0 + 37 + 2 + 3, 0 + 37 + 3 + 3, 0 + 37 + 4 + 3, 0, 0, 1]), .inl (0, 33), .inl (1, 33), .inl (0, 33), .inr (5, [0 + 37 + 4 + 1 + 3, 0 + 37 + 4 + 2 + 3, 0 + 37 + 4 + 3 + 3, 0 + 37 + 4 + 4 + 3, 0 + 37 + 4 + 5 + 3, 0 + 37 + 4 + 6 + 3, 0, 0, 1, 1]), .inl (1, 32), .inl (1, 32), .inl (1, 32), .inl (2, 32), .inl (1, 32), .inl (1, 32), .inr (0, [0 + 48 + 1 + 3, 0 + 48 + 2 + 3, 0 + 48 + 3 + 3, 0 + 48 + 4 + 3, 0, 0, 1]), .inl (0, 33), .inl (1, 33), .inl (0, 33), .inr (5, [0 + 48 + 4 + 1 + 3, 0 + 48 + 4 + 2 + 3, 0 + 48 + 4 + 3 + 3, 0 + 48 + 4 + 4 + 3, 0 + 48 + 4 + 5 + 3, 0 + 48 + 4 + 6 + 3, 0, 0, 1, 1]), .inl (1, 32), .inl (1, 32), .inl (1, 32), .inl (2, 32), .inl (1, 32), .inl (1, 32), .inr (3, [0 + 59 + 1 + 3]), .inl (0, 180), .inr (6, [0 + 61 + 1 + 3, 0, 0 + 61 + 2 + 3, 0, 0]), .inl (0, 160), .inr (3, [0 + 61 + 2 + 1 + 3]), .inl (0, 180), .inr (2, [0 + 65 + 1 + 3, 0 + 65 + 2 + 3, 0 + 65 + 3 + 3]), .inl (0, 4), .inl (0, 4), .inl (3, 160), .inl (0, 8)]
theorem in_lw : isLw (inA ++ [.inl (0, 170)]) := by
  unfold isLw isEl isPg isSt isSk isBe isSg isTp isSs isSt isSg
  repeat' constructor
def lQ : PQ := fun r _ _ => r = some (.int 1)
set_option maxRecDepth 100000 in
theorem law_start {X : Nat × (Nat → Int32)} (hx : X.1 ≤ 260) : pWP mL_law 10 600000 7302249 0 X lQ 0 [some (.ref 1000), none, none, none, none, none, none, none, none, none, none, none] [] 0 0 [] i0 := by
  refine pr_new (pc := 0) (cI := 7) (qc := (RX8, TX8, 13)) (fs := [2, 2, 0, 2, 2, 2, 2, 2, 2, 2, 2, 2, 2]) rfl rfl cl_L_10 ib_X8 in_X8 df_X8 (by decide) (by decide) rfl (by decide) ⟨Nat.le_of_ble_eq_true rfl, Nat.le_of_ble_eq_true rfl⟩ ?_
  rw [show pSZ i0 ([] : List PSh).length = i0 from sz_eq (zS_i0 _)]
  refine pr_dup (pc := 3) rfl rfl ?_
  refine pr_callI (pc := 4) (M1 := mX8_init) (b := 0) (as := []) (rest := [.ref 0]) rfl ce_X8_init ml_L_126 im_X8_init rfl rfl rfl (Nat.le_of_ble_eq_true rfl) (Nat.le_of_ble_eq_true rfl) ⟨Nat.le_of_ble_eq_true rfl, Nat.le_of_ble_eq_true rfl⟩ (sp_X8_init X (sh0 := []) (b := 0) (shF := inA) rfl (by decide) (zS_i0 _) rfl rfl) (fun r9 sh9 S9 h9 => ?_) (fun r9 sh9 S9 h9 => ?_)
  · obtain ⟨-, rfl, -⟩ := h9
    exact pSameN (Nat.le_of_ble_eq_true rfl) (by decide) (by decide)
  obtain ⟨rfl, rfl, rfl⟩ := h9
  refine c_astore_n (pc := 7) (x := 0) (j := 1) (st := []) [some (.ref 1000), some (.ref 0), none, none, none, none, none, none, none, none, none, none] rfl (by decide) rfl ?_
  have hz : zS (inE i0) 70 := zS_st (zS_pg (zS_pg (zS_i0 _) (by decide)) (by decide)) (by decide)
  refine m_sipush (pc := 8) 170 rfl (by decide) ?_
  refine pr_newa0 (pc := 11) (n := 170) rfl ac_int (by decide) (by decide) (by decide) (Nat.le_of_ble_eq_true rfl) rfl (by decide) ⟨Nat.le_of_ble_eq_true rfl, Nat.le_of_ble_eq_true rfl⟩ ?_
  rw [show inA.length = 70 from rfl, show pSZ (stS9 (pgS (pgS i0 (0 + 1)) (0 + 8)) (0 + 65)) 70 = inE i0 from sz_eq hz]
  refine m_astore_n (pc := 13) (x := 70) (j := 2) [some (.ref 1000), some (.ref 0), some (.ref 70), none, none, none, none, none, none, none, none, none] rfl (by decide) rfl ?_
  refine m_aload_n (pc := 14) (x := 70) (j := 2) rfl rfl ?_
  refine m_iconst (pc := 15) 1 rfl (by decide) ?_
  refine m_bipush (pc := 16) 120 rfl (by decide) ?_
  refine m_iast (pc := 18) (a := 70) 1 rfl in_lw.2 (vp_in_nI (n := 1) (by decide) (by decide)) rfl ?_
  refine m_iconst (pc := 19) 0 rfl (by decide) ?_
  refine m_istore_n (pc := 20) (j := 3) [some (.ref 1000), some (.ref 0), some (.ref 70), some (.int 0), none, none, none, none, none, none, none, none] rfl (by decide) rfl ?_
  refine m_L (L2 := [some (.ref 1000), some (.ref 0), some (.ref 70), some (.int (nI 0)), none, none, none, none, none, none, none, none]) rfl ?_
  exact lp_T (sL := 83) (kL := 600000) (jL := 7302249) (fun _ _ => rfl) (by decide) (Nat.le_refl _) hx 3 0 _ _ _ inS inS rfl in_lw ⟨Nat.le_of_ble_eq_true rfl, Nat.le_of_ble_eq_true rfl, Nat.le_of_ble_eq_true rfl⟩ in_tI fl_rf
/-- a static array that nobody writes -/
theorem ro_of {args : Array Value} {s : State} {tm : Term} {N : Nat} {f : Nat → Int32} (hN : N < 2 ^ 31) (harr : (Cond.arrayOf tm .int).before args s = true) (hlen : (Term.length tm).eval args s none [] s = some (.int (Int32.ofNat N))) (hel : ∀ j : Nat, j < N → (Term.elem tm (.int (Int32.ofNat j))).eval args s none [] s = some (.int (f j))) : ∃ t : Nat, tm.eval args s none [] s = some (.ref t) ∧ t < s.heap.size ∧ va_X t N f s s.heap := by
  obtain ⟨t, ht, cell, hcell, hof, hkn, -, hsz, hval, -⟩ := va_Tof (A := fun _ => False) hN harr hlen hel (fun _ _ h => h)
  obtain ⟨t2, cell2, ht2, hat, -⟩ := Term.length_spec hlen
  cases ht.symm.trans ht2
  obtain ⟨hcell2, -, -, -⟩ := State.arrayAt?_spec hat
  cases hcell.symm.trans hcell2
  have hlt : cell.slots.size < 2 ^ 31 := by
    simp only [Term.eval, ht, hat, Option.bind_eq_bind, Option.bind_some] at hlen
    by_cases hlt : cell.slots.size < 2147483648
    · exact hlt
    · simp [hlt] at hlen
  have e : cell.slots.size = N := by
    have h1 := congrArg Int32.toInt hsz
    have h2 : (cell.slots.size.toInt32).toInt = cell.slots.size := nI_toInt (n := cell.slots.size) hlt
    have h3 : (Int32.ofNat N).toInt = N := nI_toInt (n := N) hN
    rw [h2, h3] at h1
    omega
  exact ⟨t, ht, (Array.getElem?_eq_some_iff.mp hcell).1, cell, hcell, hof, hkn, e, hval⟩
theorem ty_of {args : Array Value} {s : State} {ty : FieldType} (h : (Cond.arrayClass ty).before args s = true) : ∃ cA : ClassId, ArrOfT s cA ty ∧ s.vm.findClass ("[" ++ ty.toString) = some cA := by
  obtain ⟨cA, kA, comp, h1, h2, h3⟩ := Cond.arrayClass_spec h
  exact ⟨cA, fun n z => ⟨fun k h => (by cases h), kA, h2, comp, h3⟩, h1⟩
