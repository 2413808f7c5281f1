/-! the constructors: written by wip/whole/gen/c75.py -/
theorem cL1 {b r : Nat} (h : b ≠ r) : ([some (.ref b)] : PL).all (pNoL r) = true := by simp [pNoL, pNoR, h]
theorem cL2 {b r : Nat} (h : b ≠ r) : ([some (.ref b), none] : PL).all (pNoL r) = true := by simp [pNoL, pNoR, h]
theorem oL1 {b n : Nat} (h : b < n) : ([some (.ref b)] : PL).all (pOldL n) = true := by simp [pOldL, pOld, h]
theorem vp_lit {i : Int32} {n : Nat} (h : decide (¬ (i < 0 ∨ n ≤ i.toNatClampNeg)) = true) : vp_in i n := (of_decide_eq_true h : ¬ (i < 0 ∨ n ≤ i.toNatClampNeg))
theorem app_as {sh0 a c l : List PSh} (h : a ++ c = l) : sh0 ++ l = (sh0 ++ a) ++ c := by subst h; exact (List.append_assoc _ _ _).symm
section CSH
variable {M : PM} {d mc ms n0 : Nat} {X : Nat × (Nat → Int32)} {Q : PQ} {pc : Nat} {L : PL} {st : List Value} {kc ks : Nat} {sh : List PSh} {S : PSt}
theorem c_iconst {n : Int} (v : Int32) (hi : pLook M.2.2.2.2 pc = some (.iconst n, 1)) (hv : Int32.ofInt n = v) (k : pWP M d mc ms n0 X Q (pc + 1) L (.int v :: st) kc ks sh S) : pWP M d mc ms n0 X Q pc L st kc ks sh S := by subst hv; exact pr_iconst hi k
theorem c_bipush {n : Int} (v : Int32) (hi : pLook M.2.2.2.2 pc = some (.bipush n, 2)) (hv : (Int8.ofInt n).toInt32 = v) (k : pWP M d mc ms n0 X Q (pc + 2) L (.int v :: st) kc ks sh S) : pWP M d mc ms n0 X Q pc L st kc ks sh S := by subst hv; exact pr_bipush hi k
theorem c_sipush {n : Int} (v : Int32) (hi : pLook M.2.2.2.2 pc = some (.sipush n, 3)) (hv : (Int16.ofInt n).toInt32 = v) (k : pWP M d mc ms n0 X Q (pc + 3) L (.int v :: st) kc ks sh S) : pWP M d mc ms n0 X Q pc L st kc ks sh S := by subst hv; exact pr_sipush hi k
theorem c_istore_n {j : Fin 4} {x : Int32} (L2 : PL) (hi : pLook M.2.2.2.2 pc = some (.istore_n j, 1)) (hj : (j : Nat) < M.2.2.1) (hL : pS1 L (j : Nat) (.int x) = L2) (k : pWP M d mc ms n0 X Q (pc + 1) L2 st kc ks sh S) : pWP M d mc ms n0 X Q pc L (.int x :: st) kc ks sh S := by subst hL; exact pr_istore_n hi hj k
theorem c_astore_n {j : Fin 4} {x : Nat} (L2 : PL) (hi : pLook M.2.2.2.2 pc = some (.astore_n j, 1)) (hj : (j : Nat) < M.2.2.1) (hL : pS1 L (j : Nat) (.ref x) = L2) (k : pWP M d mc ms n0 X Q (pc + 1) L2 st kc ks sh S) : pWP M d mc ms n0 X Q pc L (.ref x :: st) kc ks sh S := by subst hL; exact pr_astore_n hi hj k
theorem c_iinc {j : Nat} {n : Int} {x : Int32} (L2 : PL) (hi : pLook M.2.2.2.2 pc = some (.iinc j n, 3)) (hj : j < M.2.2.1) (hl : pLd L j = some (.int x)) (hL : pS1 L j (.int (x + Int32.ofInt n)) = L2) (k : pWP M d mc ms n0 X Q (pc + 3) L2 st kc ks sh S) : pWP M d mc ms n0 X Q pc L st kc ks sh S := by subst hL; exact pr_iinc hi hj hl k
theorem c_top {v w : Value} (h : v = w) (k : pWP M d mc ms n0 X Q pc L (w :: st) kc ks sh S) : pWP M d mc ms n0 X Q pc L (v :: st) kc ks sh S := by subst h; exact k
end CSH
theorem fm_X4_9 : Cond.fieldLink RX4 9 (TX4 0).1 (TX4 0).2.1 (TX4 0).2.2.1 ∈ pGood := pGood_in 65 (by decide +kernel) (by decide +kernel)
theorem df_X4 : ∀ j, j < 1 → defaultValue (pTyp 3 j) = vp_V (([2] : List Nat).map pDef) j := fun j hj => by
  have e : j = 0 := by omega
  subst e
  rfl
set_option maxRecDepth 100000 in
theorem sp_X4_init {sh0 sh shF : List PSh} {S : PSt} {b : Nat} (X : Nat × (Nat → Int32)) (hb : sh0.length = b) (h1 : b < 100) (hz : zS S b) (hs : sh = sh0 ++ [.inr (3, [2])]) (hF : shF = sh0 ++ [.inr (3, [b + 1 + 3]), .inl (0, 180)]) : pSpec mX4_init 1 1 180 [.ref b] X sh S (pR shF (S) none) := by
  subst hs
  subst hF
  refine pSpec.of (by decide) tk_X4_init (Nat.le_of_ble_eq_true rfl) ?_
  show pWP mX4_init 1 1 180 _ X _ 0 [some (.ref b)] [] 0 0 (sh0 ++ [.inr (3, [2])]) S
  refine pr_aload_n (pc := 0) (j := 0) rfl rfl ?_
  refine pr_objInit (pc := 1) rfl ml_X4_3 im_Obj_init co_Obj_init (Nat.le_of_ble_eq_true rfl) (Nat.le_of_ble_eq_true rfl) ?_
  refine pr_aload_n (pc := 4) (j := 0) rfl rfl ?_
  refine c_sipush (pc := 5) 180 rfl (by decide) ?_
  refine c_newa0 (pc := 8) (b + 1) [.inr (3, [2]), .inl (0, 180)] rfl (by decide) rfl (Nat.le_of_ble_eq_true rfl) ⟨Nat.le_of_ble_eq_true rfl, Nat.le_of_ble_eq_true rfl⟩ hb rfl rfl (by omega) (by omega) (by omega) (cL1 (by omega)) (zS_m hz (by omega)) ?_
  refine c_putR (pc := 10) (b + 1) [.inr (3, [b + 1 + 3]), .inl (0, 180)] rfl fl_X4_9 hb rfl (Nat.le_of_ble_eq_true rfl) (fun _ h9 => by cases h9; exact Or.inr ⟨rfl, rfl, rfl, fm_X4_9⟩) (fun _ => rfl) (fun _ => rfl) (Nat.add_lt_add_left (Nat.le_of_ble_eq_true rfl) b) rfl ?_
  exact pr_vret (pc := 13) rfl rfl ⟨Nat.le_of_ble_eq_true rfl, Nat.le_of_ble_eq_true rfl⟩ ⟨rfl, rfl, rfl⟩
theorem fm_X6_9 : Cond.fieldLink RX6 9 (TX6 0).1 (TX6 0).2.1 (TX6 0).2.2.1 ∈ pGood := pGood_in 99 (by decide +kernel) (by decide +kernel)
theorem fm_X6_15 : Cond.fieldLink RX6 15 (TX6 1).1 (TX6 1).2.1 (TX6 1).2.2.1 ∈ pGood := pGood_in 100 (by decide +kernel) (by decide +kernel)
theorem fm_X6_18 : Cond.fieldLink RX6 18 (TX6 2).1 (TX6 2).2.1 (TX6 2).2.2.1 ∈ pGood := pGood_in 101 (by decide +kernel) (by decide +kernel)
theorem fm_X6_21 : Cond.fieldLink RX6 21 (TX6 3).1 (TX6 3).2.1 (TX6 3).2.2.1 ∈ pGood := pGood_in 102 (by decide +kernel) (by decide +kernel)
theorem fm_X6_25 : Cond.fieldLink RX6 25 (TX6 4).1 (TX6 4).2.1 (TX6 4).2.2.1 ∈ pGood := pGood_in 103 (by decide +kernel) (by decide +kernel)
theorem fm_X6_28 : Cond.fieldLink RX6 28 (TX6 5).1 (TX6 5).2.1 (TX6 5).2.2.1 ∈ pGood := pGood_in 104 (by decide +kernel) (by decide +kernel)
theorem df_X6 : ∀ j, j < 10 → defaultValue (pTyp 5 j) = vp_V (([2, 2, 2, 2, 2, 2, 0, 0, 1, 1] : List Nat).map pDef) j := fun j hj => by
  rcases (show j = 0 ∨ j = 1 ∨ j = 2 ∨ j = 3 ∨ j = 4 ∨ j = 5 ∨ j = 6 ∨ j = 7 ∨ j = 8 ∨ j = 9 by omega) with rfl | rfl | rfl | rfl | rfl | rfl | rfl | rfl | rfl | rfl
  all_goals rfl
set_option maxRecDepth 100000 in
theorem sp_X6_init {sh0 sh shF : List PSh} {S : PSt} {b : Nat} (X : Nat × (Nat → Int32)) (hb : sh0.length = b) (h1 : b < 100) (hz : zS S b) (hs : sh = sh0 ++ [.inr (5, [2, 2, 2, 2, 2, 2, 0, 0, 1, 1])]) (hF : shF = sh0 ++ [.inr (5, [b + 1 + 3, b + 2 + 3, b + 3 + 3, b + 4 + 3, b + 5 + 3, b + 6 + 3, 0, 0, 1, 1]), .inl (1, 32), .inl (1, 32), .inl (1, 32), .inl (2, 32), .inl (1, 32), .inl (1, 32)]) : pSpec mX6_init 1 6 192 [.ref b] X sh S (pR shF (S) none) := by
  subst hs
  subst hF
  refine pSpec.of (by decide) tk_X6_init (Nat.le_of_ble_eq_true rfl) ?_
  show pWP mX6_init 1 6 192 _ X _ 0 [some (.ref b)] [] 0 0 (sh0 ++ [.inr (5, [2, 2, 2, 2, 2, 2, 0, 0, 1, 1])]) S
  refine pr_aload_n (pc := 0) (j := 0) rfl rfl ?_
  refine pr_objInit (pc := 1) rfl ml_X6_3 im_Obj_init co_Obj_init (Nat.le_of_ble_eq_true rfl) (Nat.le_of_ble_eq_true rfl) ?_
  refine pr_aload_n (pc := 4) (j := 0) rfl rfl ?_
  refine c_bipush (pc := 5) 32 rfl (by decide) ?_
  refine c_newa1 (pc := 7) (b + 1) [.inr (5, [2, 2, 2, 2, 2, 2, 0, 0, 1, 1]), .inl (1, 32)] rfl (by decide) rfl (Nat.le_of_ble_eq_true rfl) ⟨Nat.le_of_ble_eq_true rfl, Nat.le_of_ble_eq_true rfl⟩ hb rfl rfl (by omega) (by omega) (by omega) (cL1 (by omega)) (zS_m hz (by omega)) ?_
  refine c_putR (pc := 9) (b + 1) [.inr (5, [b + 1 + 3, 2, 2, 2, 2, 2, 0, 0, 1, 1]), .inl (1, 32)] rfl fl_X6_9 hb rfl (Nat.le_of_ble_eq_true rfl) (fun _ h9 => by cases h9; exact Or.inr ⟨rfl, rfl, rfl, fm_X6_9⟩) (fun _ => rfl) (fun _ => rfl) (Nat.add_lt_add_left (Nat.le_of_ble_eq_true rfl) b) rfl ?_
  refine pr_aload_n (pc := 12) (j := 0) rfl rfl ?_
  refine c_bipush (pc := 13) 32 rfl (by decide) ?_
  refine c_newa1 (pc := 15) (b + 2) [.inr (5, [b + 1 + 3, 2, 2, 2, 2, 2, 0, 0, 1, 1]), .inl (1, 32), .inl (1, 32)] rfl (by decide) rfl (Nat.le_of_ble_eq_true rfl) ⟨Nat.le_of_ble_eq_true rfl, Nat.le_of_ble_eq_true rfl⟩ hb rfl rfl (by omega) (by omega) (by omega) (cL1 (by omega)) (zS_m hz (by omega)) ?_
  refine c_putR (pc := 17) (b + 2) [.inr (5, [b + 1 + 3, b + 2 + 3, 2, 2, 2, 2, 0, 0, 1, 1]), .inl (1, 32), .inl (1, 32)] rfl fl_X6_15 hb rfl (Nat.le_of_ble_eq_true rfl) (fun _ h9 => by cases h9; exact Or.inr ⟨rfl, rfl, rfl, fm_X6_15⟩) (fun _ => rfl) (fun _ => rfl) (Nat.add_lt_add_left (Nat.le_of_ble_eq_true rfl) b) rfl ?_
  refine pr_aload_n (pc := 20) (j := 0) rfl rfl ?_
  refine c_bipush (pc := 21) 32 rfl (by decide) ?_
  refine c_newa1 (pc := 23) (b + 3) [.inr (5, [b + 1 + 3, b + 2 + 3, 2, 2, 2, 2, 0, 0, 1, 1]), .inl (1, 32), .inl (1, 32), .inl (1, 32)] rfl (by decide) rfl (Nat.le_of_ble_eq_true rfl) ⟨Nat.le_of_ble_eq_true rfl, Nat.le_of_ble_eq_true rfl⟩ hb rfl rfl (by omega) (by omega) (by omega) (cL1 (by omega)) (zS_m hz (by omega)) ?_
  refine c_putR (pc := 25) (b + 3) [.inr (5, [b + 1 + 3, b + 2 + 3, b + 3 + 3, 2, 2, 2, 0, 0, 1, 1]), .inl (1, 32), .inl (1, 32), .inl (1, 32)] rfl fl_X6_18 hb rfl (Nat.le_of_ble_eq_true rfl) (fun _ h9 => by cases h9; exact Or.inr ⟨rfl, rfl, rfl, fm_X6_18⟩) (fun _ => rfl) (fun _ => rfl) (Nat.add_lt_add_left (Nat.le_of_ble_eq_true rfl) b) rfl ?_
  refine pr_aload_n (pc := 28) (j := 0) rfl rfl ?_
  refine c_bipush (pc := 29) 32 rfl (by decide) ?_
  refine c_newa2 (pc := 31) (b + 4) [.inr (5, [b + 1 + 3, b + 2 + 3, b + 3 + 3, 2, 2, 2, 0, 0, 1, 1]), .inl (1, 32), .inl (1, 32), .inl (1, 32), .inl (2, 32)] rfl (by decide) rfl (Nat.le_of_ble_eq_true rfl) ⟨Nat.le_of_ble_eq_true rfl, Nat.le_of_ble_eq_true rfl⟩ hb rfl rfl (by omega) (by omega) (by omega) (cL1 (by omega)) (zS_m hz (by omega)) ?_
  refine c_putR (pc := 33) (b + 4) [.inr (5, [b + 1 + 3, b + 2 + 3, b + 3 + 3, b + 4 + 3, 2, 2, 0, 0, 1, 1]), .inl (1, 32), .inl (1, 32), .inl (1, 32), .inl (2, 32)] rfl fl_X6_21 hb rfl (Nat.le_of_ble_eq_true rfl) (fun _ h9 => by cases h9; exact Or.inr ⟨rfl, rfl, rfl, fm_X6_21⟩) (fun _ => rfl) (fun _ => rfl) (Nat.add_lt_add_left (Nat.le_of_ble_eq_true rfl) b) rfl ?_
  refine pr_aload_n (pc := 36) (j := 0) rfl rfl ?_
  refine c_bipush (pc := 37) 32 rfl (by decide) ?_
  refine c_newa1 (pc := 39) (b + 5) [.inr (5, [b + 1 + 3, b + 2 + 3, b + 3 + 3, b + 4 + 3, 2, 2, 0, 0, 1, 1]), .inl (1, 32), .inl (1, 32), .inl (1, 32), .inl (2, 32), .inl (1, 32)] rfl (by decide) rfl (Nat.le_of_ble_eq_true rfl) ⟨Nat.le_of_ble_eq_true rfl, Nat.le_of_ble_eq_true rfl⟩ hb rfl rfl (by omega) (by omega) (by omega) (cL1 (by omega)) (zS_m hz (by omega)) ?_
  refine c_putR (pc := 41) (b + 5) [.inr (5, [b + 1 + 3, b + 2 + 3, b + 3 + 3, b + 4 + 3, b + 5 + 3, 2, 0, 0, 1, 1]), .inl (1, 32), .inl (1, 32), .inl (1, 32), .inl (2, 32), .inl (1, 32)] rfl fl_X6_25 hb rfl (Nat.le_of_ble_eq_true rfl) (fun _ h9 => by cases h9; exact Or.inr ⟨rfl, rfl, rfl, fm_X6_25⟩) (fun _ => rfl) (fun _ => rfl) (Nat.add_lt_add_left (Nat.le_of_ble_eq_true rfl) b) rfl ?_
  refine pr_aload_n (pc := 44) (j := 0) rfl rfl ?_
  refine c_bipush (pc := 45) 32 rfl (by decide) ?_
  refine c_newa1 (pc := 47) (b + 6) [.inr (5, [b + 1 + 3, b + 2 + 3, b + 3 + 3, b + 4 + 3, b + 5 + 3, 2, 0, 0, 1, 1]), .inl (1, 32), .inl (1, 32), .inl (1, 32), .inl (2, 32), .inl (1, 32), .inl (1, 32)] rfl (by decide) rfl (Nat.le_of_ble_eq_true rfl) ⟨Nat.le_of_ble_eq_true rfl, Nat.le_of_ble_eq_true rfl⟩ hb rfl rfl (by omega) (by omega) (by omega) (cL1 (by omega)) (zS_m hz (by omega)) ?_
  refine c_putR (pc := 49) (b + 6) [.inr (5, [b + 1 + 3, b + 2 + 3, b + 3 + 3, b + 4 + 3, b + 5 + 3, b + 6 + 3, 0, 0, 1, 1]), .inl (1, 32), .inl (1, 32), .inl (1, 32), .inl (2, 32), .inl (1, 32), .inl (1, 32)] rfl fl_X6_28 hb rfl (Nat.le_of_ble_eq_true rfl) (fun _ h9 => by cases h9; exact Or.inr ⟨rfl, rfl, rfl, fm_X6_28⟩) (fun _ => rfl) (fun _ => rfl) (Nat.add_lt_add_left (Nat.le_of_ble_eq_true rfl) b) rfl ?_
  refine pr_aload_n (pc := 52) (j := 0) rfl rfl ?_
  refine c_iconst (pc := 53) 0 rfl (by decide) ?_
  refine c_putI0 (pc := 54) rfl fl_X6_31 hb rfl rfl (fun _ h9 => by cases h9; exact Or.inl rfl) rfl rfl ((hz b (by omega) 6).1) ?_
  refine pr_aload_n (pc := 57) (j := 0) rfl rfl ?_
  refine c_iconst (pc := 58) 0 rfl (by decide) ?_
  refine c_putI0 (pc := 59) rfl fl_X6_35 hb rfl rfl (fun _ h9 => by cases h9; exact Or.inl rfl) rfl rfl ((hz b (by omega) 7).1) ?_
  refine pr_aload_n (pc := 62) (j := 0) rfl rfl ?_
  refine pr_fconst0 (pc := 63) rfl ?_
  refine c_putF0 (pc := 64) rfl fl_X6_38 hb rfl rfl (fun _ h9 => by cases h9; exact Or.inl rfl) rfl rfl ((hz b (by omega) 8).2.1.trans rfl) ?_
  refine pr_aload_n (pc := 67) (j := 0) rfl rfl ?_
  refine pr_fconst0 (pc := 68) rfl ?_
  refine c_putF0 (pc := 69) rfl fl_X6_42 hb rfl rfl (fun _ h9 => by cases h9; exact Or.inl rfl) rfl rfl ((hz b (by omega) 9).2.1.trans rfl) ?_
  exact pr_vret (pc := 72) rfl rfl ⟨Nat.le_of_ble_eq_true rfl, Nat.le_of_ble_eq_true rfl⟩ ⟨rfl, rfl, rfl⟩
theorem fm_X5_9 : Cond.fieldLink RX5 9 (TX5 0).1 (TX5 0).2.1 (TX5 0).2.2.1 ∈ pGood := pGood_in 141 (by decide +kernel) (by decide +kernel)
theorem fm_X5_15 : Cond.fieldLink RX5 15 (TX5 1).1 (TX5 1).2.1 (TX5 1).2.2.1 ∈ pGood := pGood_in 142 (by decide +kernel) (by decide +kernel)
theorem fm_X5_19 : Cond.fieldLink RX5 19 (TX5 2).1 (TX5 2).2.1 (TX5 2).2.2.1 ∈ pGood := pGood_in 143 (by decide +kernel) (by decide +kernel)
theorem df_X5 : ∀ j, j < 3 → defaultValue (pTyp 4 j) = vp_V (([2, 2, 2] : List Nat).map pDef) j := fun j hj => by
  rcases (show j = 0 ∨ j = 1 ∨ j = 2 by omega) with rfl | rfl | rfl
  all_goals rfl
set_option maxRecDepth 100000 in
theorem sp_X5_init {sh0 sh shF : List PSh} {S : PSt} {b : Nat} (X : Nat × (Nat → Int32)) (hb : sh0.length = b) (h1 : b < 100) (hz : zS S b) (hs : sh = sh0 ++ [.inr (4, [2, 2, 2])]) (hF : shF = sh0 ++ [.inr (4, [b + 1 + 3, b + 2 + 3, b + 3 + 3]), .inl (2, 400), .inl (0, 400), .inl (0, 400)]) : pSpec mX5_init 1 3 1200 [.ref b] X sh S (pR shF (S) none) := by
  subst hs
  subst hF
  refine pSpec.of (by decide) tk_X5_init (Nat.le_of_ble_eq_true rfl) ?_
  show pWP mX5_init 1 3 1200 _ X _ 0 [some (.ref b)] [] 0 0 (sh0 ++ [.inr (4, [2, 2, 2])]) S
  refine pr_aload_n (pc := 0) (j := 0) rfl rfl ?_
  refine pr_objInit (pc := 1) rfl ml_X5_3 im_Obj_init co_Obj_init (Nat.le_of_ble_eq_true rfl) (Nat.le_of_ble_eq_true rfl) ?_
  refine pr_aload_n (pc := 4) (j := 0) rfl rfl ?_
  refine c_sipush (pc := 5) 400 rfl (by decide) ?_
  refine c_newa2 (pc := 8) (b + 1) [.inr (4, [2, 2, 2]), .inl (2, 400)] rfl (by decide) rfl (Nat.le_of_ble_eq_true rfl) ⟨Nat.le_of_ble_eq_true rfl, Nat.le_of_ble_eq_true rfl⟩ hb rfl rfl (by omega) (by omega) (by omega) (cL1 (by omega)) (zS_m hz (by omega)) ?_
  refine c_putR (pc := 10) (b + 1) [.inr (4, [b + 1 + 3, 2, 2]), .inl (2, 400)] rfl fl_X5_9 hb rfl (Nat.le_of_ble_eq_true rfl) (fun _ h9 => by cases h9; exact Or.inr ⟨rfl, rfl, rfl, fm_X5_9⟩) (fun _ => rfl) (fun _ => rfl) (Nat.add_lt_add_left (Nat.le_of_ble_eq_true rfl) b) rfl ?_
  refine pr_aload_n (pc := 13) (j := 0) rfl rfl ?_
  refine c_sipush (pc := 14) 400 rfl (by decide) ?_
  refine c_newa0 (pc := 17) (b + 2) [.inr (4, [b + 1 + 3, 2, 2]), .inl (2, 400), .inl (0, 400)] rfl (by decide) rfl (Nat.le_of_ble_eq_true rfl) ⟨Nat.le_of_ble_eq_true rfl, Nat.le_of_ble_eq_true rfl⟩ hb rfl rfl (by omega) (by omega) (by omega) (cL1 (by omega)) (zS_m hz (by omega)) ?_
  refine c_putR (pc := 19) (b + 2) [.inr (4, [b + 1 + 3, b + 2 + 3, 2]), .inl (2, 400), .inl (0, 400)] rfl fl_X5_15 hb rfl (Nat.le_of_ble_eq_true rfl) (fun _ h9 => by cases h9; exact Or.inr ⟨rfl, rfl, rfl, fm_X5_15⟩) (fun _ => rfl) (fun _ => rfl) (Nat.add_lt_add_left (Nat.le_of_ble_eq_true rfl) b) rfl ?_
  refine pr_aload_n (pc := 22) (j := 0) rfl rfl ?_
  refine c_sipush (pc := 23) 400 rfl (by decide) ?_
  refine c_newa0 (pc := 26) (b + 3) [.inr (4, [b + 1 + 3, b + 2 + 3, 2]), .inl (2, 400), .inl (0, 400), .inl (0, 400)] rfl (by decide) rfl (Nat.le_of_ble_eq_true rfl) ⟨Nat.le_of_ble_eq_true rfl, Nat.le_of_ble_eq_true rfl⟩ hb rfl rfl (by omega) (by omega) (by omega) (cL1 (by omega)) (zS_m hz (by omega)) ?_
  refine c_putR (pc := 28) (b + 3) [.inr (4, [b + 1 + 3, b + 2 + 3, b + 3 + 3]), .inl (2, 400), .inl (0, 400), .inl (0, 400)] rfl fl_X5_19 hb rfl (Nat.le_of_ble_eq_true rfl) (fun _ h9 => by cases h9; exact Or.inr ⟨rfl, rfl, rfl, fm_X5_19⟩) (fun _ => rfl) (fun _ => rfl) (Nat.add_lt_add_left (Nat.le_of_ble_eq_true rfl) b) rfl ?_
  exact pr_vret (pc := 31) rfl rfl ⟨Nat.le_of_ble_eq_true rfl, Nat.le_of_ble_eq_true rfl⟩ ⟨rfl, rfl, rfl⟩
theorem fm_X0_9 : Cond.fieldLink RX0 9 (TX0 0).1 (TX0 0).2.1 (TX0 0).2.2.1 ∈ pGood := pGood_in 159 (by decide +kernel) (by decide +kernel)
theorem fm_X0_15 : Cond.fieldLink RX0 15 (TX0 1).1 (TX0 1).2.1 (TX0 1).2.2.1 ∈ pGood := pGood_in 160 (by decide +kernel) (by decide +kernel)
theorem fm_X0_19 : Cond.fieldLink RX0 19 (TX0 2).1 (TX0 2).2.1 (TX0 2).2.2.1 ∈ pGood := pGood_in 161 (by decide +kernel) (by decide +kernel)
theorem fm_X0_25 : Cond.fieldLink RX0 25 (TX0 3).1 (TX0 3).2.1 (TX0 3).2.2.1 ∈ pGood := pGood_in 162 (by decide +kernel) (by decide +kernel)
theorem df_X0 : ∀ j, j < 7 → defaultValue (pTyp 0 j) = vp_V (([2, 2, 2, 2, 0, 0, 1] : List Nat).map pDef) j := fun j hj => by
  rcases (show j = 0 ∨ j = 1 ∨ j = 2 ∨ j = 3 ∨ j = 4 ∨ j = 5 ∨ j = 6 by omega) with rfl | rfl | rfl | rfl | rfl | rfl | rfl
  all_goals rfl
set_option maxRecDepth 100000 in
theorem sp_X0_init {sh0 sh shF : List PSh} {S : PSt} {b : Nat} (X : Nat × (Nat → Int32)) (hb : sh0.length = b) (h1 : b < 90) (hz : zS S b) (hs : sh = sh0 ++ [.inr (0, [2, 2, 2, 2, 0, 0, 1])]) (hF : shF = sh0 ++ [.inr (0, [b + 1 + 3, b + 2 + 3, b + 3 + 3, b + 4 + 3, 0, 0, 1]), .inl (0, 33), .inl (1, 33), .inl (0, 33), .inr (5, [b + 4 + 1 + 3, b + 4 + 2 + 3, b + 4 + 3 + 3, b + 4 + 4 + 3, b + 4 + 5 + 3, b + 4 + 6 + 3, 0, 0, 1, 1]), .inl (1, 32), .inl (1, 32), .inl (1, 32), .inl (2, 32), .inl (1, 32), .inl (1, 32)]) : pSpec mX0_init 2 10 301 [.ref b] X sh S (pR shF (S) none) := by
  subst hs
  subst hF
  refine pSpec.of (by decide) tk_X0_init (Nat.le_of_ble_eq_true rfl) ?_
  show pWP mX0_init 2 10 301 _ X _ 0 [some (.ref b)] [] 0 0 (sh0 ++ [.inr (0, [2, 2, 2, 2, 0, 0, 1])]) S
  refine pr_aload_n (pc := 0) (j := 0) rfl rfl ?_
  refine pr_objInit (pc := 1) rfl ml_X0_3 im_Obj_init co_Obj_init (Nat.le_of_ble_eq_true rfl) (Nat.le_of_ble_eq_true rfl) ?_
  refine pr_aload_n (pc := 4) (j := 0) rfl rfl ?_
  refine c_bipush (pc := 5) 33 rfl (by decide) ?_
  refine c_newa0 (pc := 7) (b + 1) [.inr (0, [2, 2, 2, 2, 0, 0, 1]), .inl (0, 33)] rfl (by decide) rfl (Nat.le_of_ble_eq_true rfl) ⟨Nat.le_of_ble_eq_true rfl, Nat.le_of_ble_eq_true rfl⟩ hb rfl rfl (by omega) (by omega) (by omega) (cL1 (by omega)) (zS_m hz (by omega)) ?_
  refine c_putR (pc := 9) (b + 1) [.inr (0, [b + 1 + 3, 2, 2, 2, 0, 0, 1]), .inl (0, 33)] rfl fl_X0_9 hb rfl (Nat.le_of_ble_eq_true rfl) (fun _ h9 => by cases h9; exact Or.inr ⟨rfl, rfl, rfl, fm_X0_9⟩) (fun _ => rfl) (fun _ => rfl) (Nat.add_lt_add_left (Nat.le_of_ble_eq_true rfl) b) rfl ?_
  refine pr_aload_n (pc := 12) (j := 0) rfl rfl ?_
  refine c_bipush (pc := 13) 33 rfl (by decide) ?_
  refine c_newa1 (pc := 15) (b + 2) [.inr (0, [b + 1 + 3, 2, 2, 2, 0, 0, 1]), .inl (0, 33), .inl (1, 33)] rfl (by decide) rfl (Nat.le_of_ble_eq_true rfl) ⟨Nat.le_of_ble_eq_true rfl, Nat.le_of_ble_eq_true rfl⟩ hb rfl rfl (by omega) (by omega) (by omega) (cL1 (by omega)) (zS_m hz (by omega)) ?_
  refine c_putR (pc := 17) (b + 2) [.inr (0, [b + 1 + 3, b + 2 + 3, 2, 2, 0, 0, 1]), .inl (0, 33), .inl (1, 33)] rfl fl_X0_15 hb rfl (Nat.le_of_ble_eq_true rfl) (fun _ h9 => by cases h9; exact Or.inr ⟨rfl, rfl, rfl, fm_X0_15⟩) (fun _ => rfl) (fun _ => rfl) (Nat.add_lt_add_left (Nat.le_of_ble_eq_true rfl) b) rfl ?_
  refine pr_aload_n (pc := 20) (j := 0) rfl rfl ?_
  refine c_bipush (pc := 21) 33 rfl (by decide) ?_
  refine c_newa0 (pc := 23) (b + 3) [.inr (0, [b + 1 + 3, b + 2 + 3, 2, 2, 0, 0, 1]), .inl (0, 33), .inl (1, 33), .inl (0, 33)] rfl (by decide) rfl (Nat.le_of_ble_eq_true rfl) ⟨Nat.le_of_ble_eq_true rfl, Nat.le_of_ble_eq_true rfl⟩ hb rfl rfl (by omega) (by omega) (by omega) (cL1 (by omega)) (zS_m hz (by omega)) ?_
  refine c_putR (pc := 25) (b + 3) [.inr (0, [b + 1 + 3, b + 2 + 3, b + 3 + 3, 2, 0, 0, 1]), .inl (0, 33), .inl (1, 33), .inl (0, 33)] rfl fl_X0_19 hb rfl (Nat.le_of_ble_eq_true rfl) (fun _ h9 => by cases h9; exact Or.inr ⟨rfl, rfl, rfl, fm_X0_19⟩) (fun _ => rfl) (fun _ => rfl) (Nat.add_lt_add_left (Nat.le_of_ble_eq_true rfl) b) rfl ?_
  refine pr_aload_n (pc := 28) (j := 0) rfl rfl ?_
  refine c_new (pc := 29) (cI := 5) (qc := (RX6, TX6, 10)) (fs := [2, 2, 2, 2, 2, 2, 0, 0, 1, 1]) (b + 4) [.inr (0, [b + 1 + 3, b + 2 + 3, b + 3 + 3, 2, 0, 0, 1]), .inl (0, 33), .inl (1, 33), .inl (0, 33), .inr (5, [2, 2, 2, 2, 2, 2, 0, 0, 1, 1])] rfl rfl cl_X0_22 ib_X6 in_X6 df_X6 (by decide) ⟨Nat.le_of_ble_eq_true rfl, Nat.le_of_ble_eq_true rfl⟩ hb rfl rfl (by omega) (by omega) (by omega) (cL1 (by omega)) (zS_m hz (by omega)) ?_
  refine pr_dup (pc := 32) rfl rfl ?_
  refine c_call (pc := 33) (M1 := mX6_init) (S2 := S) (b + 4) [.inr (0, [b + 1 + 3, b + 2 + 3, b + 3 + 3, 2, 0, 0, 1]), .inl (0, 33), .inl (1, 33), .inl (0, 33), .inr (5, [b + 4 + 1 + 3, b + 4 + 2 + 3, b + 4 + 3 + 3, b + 4 + 4 + 3, b + 4 + 5 + 3, b + 4 + 6 + 3, 0, 0, 1, 1]), .inl (1, 32), .inl (1, 32), .inl (1, 32), .inl (2, 32), .inl (1, 32), .inl (1, 32)] rfl ce_X6_init ml_X0_24 im_X6_init rfl rfl (Nat.le_of_ble_eq_true rfl) ⟨Nat.le_of_ble_eq_true rfl, Nat.le_of_ble_eq_true rfl⟩ hb (by omega) (Nat.add_lt_add_left (Nat.le_of_ble_eq_true rfl) b) (Nat.lt_add_of_pos_right (Nat.le_of_ble_eq_true rfl)) (Nat.le_of_ble_eq_true rfl) (oL1 (Nat.lt_add_of_pos_right (Nat.le_of_ble_eq_true rfl)))
    (sp_X6_init X (sh0 := sh0 ++ ([.inr (0, [b + 1 + 3, b + 2 + 3, b + 3 + 3, 2, 0, 0, 1]), .inl (0, 33), .inl (1, 33), .inl (0, 33)] : List PSh)) (b := b + 4) (by rw [List.length_append, hb]; rfl) (by omega) (zS_m hz (by omega)) (app_as (a := ([.inr (0, [b + 1 + 3, b + 2 + 3, b + 3 + 3, 2, 0, 0, 1]), .inl (0, 33), .inl (1, 33), .inl (0, 33)] : List PSh)) (c := ([.inr (5, [2, 2, 2, 2, 2, 2, 0, 0, 1, 1])] : List PSh)) rfl) (app_as (a := ([.inr (0, [b + 1 + 3, b + 2 + 3, b + 3 + 3, 2, 0, 0, 1]), .inl (0, 33), .inl (1, 33), .inl (0, 33)] : List PSh)) (c := ([.inr (5, [b + 4 + 1 + 3, b + 4 + 2 + 3, b + 4 + 3 + 3, b + 4 + 4 + 3, b + 4 + 5 + 3, b + 4 + 6 + 3, 0, 0, 1, 1]), .inl (1, 32), .inl (1, 32), .inl (1, 32), .inl (2, 32), .inl (1, 32), .inl (1, 32)] : List PSh)) rfl)) ?_
  refine c_putR (pc := 36) (b + 4) [.inr (0, [b + 1 + 3, b + 2 + 3, b + 3 + 3, b + 4 + 3, 0, 0, 1]), .inl (0, 33), .inl (1, 33), .inl (0, 33), .inr (5, [b + 4 + 1 + 3, b + 4 + 2 + 3, b + 4 + 3 + 3, b + 4 + 4 + 3, b + 4 + 5 + 3, b + 4 + 6 + 3, 0, 0, 1, 1]), .inl (1, 32), .inl (1, 32), .inl (1, 32), .inl (2, 32), .inl (1, 32), .inl (1, 32)] rfl fl_X0_25 hb rfl (Nat.le_of_ble_eq_true rfl) (fun _ h9 => by cases h9; exact Or.inr ⟨rfl, rfl, rfl, fm_X0_25⟩) (fun _ => rfl) (fun _ => rfl) (Nat.add_lt_add_left (Nat.le_of_ble_eq_true rfl) b) rfl ?_
  refine pr_aload_n (pc := 39) (j := 0) rfl rfl ?_
  refine c_iconst (pc := 40) 0 rfl (by decide) ?_
  refine c_putI0 (pc := 41) rfl fl_X0_29 hb rfl rfl (fun _ h9 => by cases h9; exact Or.inl rfl) rfl rfl ((hz b (by omega) 4).1) ?_
  refine pr_aload_n (pc := 44) (j := 0) rfl rfl ?_
  refine c_iconst (pc := 45) 0 rfl (by decide) ?_
  refine c_putI0 (pc := 46) rfl fl_X0_33 hb rfl rfl (fun _ h9 => by cases h9; exact Or.inl rfl) rfl rfl ((hz b (by omega) 5).1) ?_
  refine pr_aload_n (pc := 49) (j := 0) rfl rfl ?_
  refine pr_fconst0 (pc := 50) rfl ?_
  refine c_putF0 (pc := 51) rfl fl_X0_37 hb rfl rfl (fun _ h9 => by cases h9; exact Or.inl rfl) rfl rfl ((hz b (by omega) 6).2.1.trans rfl) ?_
  exact pr_vret (pc := 54) rfl rfl ⟨Nat.le_of_ble_eq_true rfl, Nat.le_of_ble_eq_true rfl⟩ ⟨rfl, rfl, rfl⟩
def pgS (S : PSt) (b : Nat) : PSt := pSI (pSI (pSI (pSI (S) b 2 120) (b + 5) 0 (-1)) (b + 5) 1 (-1)) (b + 5) 2 (-1)
theorem pgS_ne {S : PSt} {b x : Nat} (h1 : x ≠ b) (h2 : x ≠ b + 5) : (pgS S b).1 x = S.1 x := (pSI_ne h2).trans ((pSI_ne h2).trans ((pSI_ne h2).trans (pSI_ne h1)))
theorem zS_pg {S : PSt} {n b : Nat} (h : zS S n) (hb : b + 5 < n) : zS (pgS S b) n := zS_I (zS_I (zS_I (zS_I h (by omega)) hb) hb) hb
theorem fm_X1_12 : Cond.fieldLink RX1 12 (TX1 0).1 (TX1 0).2.1 (TX1 0).2.2.1 ∈ pGood := pGood_in 70 (by decide +kernel) (by decide +kernel)
theorem fm_X1_25 : Cond.fieldLink RX1 25 (TX1 3).1 (TX1 3).2.1 (TX1 3).2.2.1 ∈ pGood := pGood_in 76 (by decide +kernel) (by decide +kernel)
theorem fm_X1_28 : Cond.fieldLink RX1 28 (TX1 4).1 (TX1 4).2.1 (TX1 4).2.2.1 ∈ pGood := pGood_in 78 (by decide +kernel) (by decide +kernel)
theorem fm_X1_32 : Cond.fieldLink RX1 32 (TX1 5).1 (TX1 5).2.1 (TX1 5).2.2.1 ∈ pGood := pGood_in 79 (by decide +kernel) (by decide +kernel)
theorem df_X1 : ∀ j, j < 6 → defaultValue (pTyp 1 j) = vp_V (([2, 0, 0, 2, 2, 2] : List Nat).map pDef) j := fun j hj => by
  rcases (show j = 0 ∨ j = 1 ∨ j = 2 ∨ j = 3 ∨ j = 4 ∨ j = 5 by omega) with rfl | rfl | rfl | rfl | rfl | rfl
  all_goals rfl
set_option maxRecDepth 100000 in
theorem sp_X1_init {sh0 sh shF : List PSh} {S : PSt} {b : Nat} (X : Nat × (Nat → Int32)) (hb : sh0.length = b) (h1 : b < 90) (hz : zS S b) (hs : sh = sh0 ++ [.inr (1, [2, 0, 0, 2, 2, 2])]) (hF : shF = sh0 ++ [.inr (1, [b + 1 + 3, 0, 0, b + 3 + 3, b + 5 + 3, b + 6 + 3]), .inr (3, [b + 1 + 1 + 3]), .inl (0, 180), .inr (3, [b + 3 + 1 + 3]), .inl (0, 180), .inl (0, 3), .inl (0, 3)]) : pSpec mX1_init 2 6 368 [.ref b] X sh S (pR shF (pSI (pSI (pSI (pSI (S) b 2 120) (b + 5) 0 (-1)) (b + 5) 1 (-1)) (b + 5) 2 (-1)) none) := by
  subst hs
  subst hF
  refine pSpec.of (by decide) tk_X1_init (Nat.le_of_ble_eq_true rfl) ?_
  show pWP mX1_init 2 6 368 _ X _ 0 [some (.ref b)] [] 0 0 (sh0 ++ [.inr (1, [2, 0, 0, 2, 2, 2])]) S
  refine pr_aload_n (pc := 0) (j := 0) rfl rfl ?_
  refine pr_objInit (pc := 1) rfl ml_X1_3 im_Obj_init co_Obj_init (Nat.le_of_ble_eq_true rfl) (Nat.le_of_ble_eq_true rfl) ?_
  refine pr_aload_n (pc := 4) (j := 0) rfl rfl ?_
  refine c_new (pc := 5) (cI := 3) (qc := (RX4, TX4, 1)) (fs := [2]) (b + 1) [.inr (1, [2, 0, 0, 2, 2, 2]), .inr (3, [2])] rfl rfl cl_X1_9 ib_X4 in_X4 df_X4 (by decide) ⟨Nat.le_of_ble_eq_true rfl, Nat.le_of_ble_eq_true rfl⟩ hb rfl rfl (by omega) (by omega) (by omega) (cL1 (by omega)) (zS_m hz (by omega)) ?_
  refine pr_dup (pc := 8) rfl rfl ?_
  refine c_call (pc := 9) (M1 := mX4_init) (S2 := S) (b + 1) [.inr (1, [2, 0, 0, 2, 2, 2]), .inr (3, [b + 1 + 1 + 3]), .inl (0, 180)] rfl ce_X4_init ml_X1_11 im_X4_init rfl rfl (Nat.le_of_ble_eq_true rfl) ⟨Nat.le_of_ble_eq_true rfl, Nat.le_of_ble_eq_true rfl⟩ hb (by omega) (Nat.add_lt_add_left (Nat.le_of_ble_eq_true rfl) b) (Nat.lt_add_of_pos_right (Nat.le_of_ble_eq_true rfl)) (Nat.le_of_ble_eq_true rfl) (oL1 (Nat.lt_add_of_pos_right (Nat.le_of_ble_eq_true rfl)))
    (sp_X4_init X (sh0 := sh0 ++ ([.inr (1, [2, 0, 0, 2, 2, 2])] : List PSh)) (b := b + 1) (by rw [List.length_append, hb]; rfl) (by omega) (zS_m hz (by omega)) (app_as (a := ([.inr (1, [2, 0, 0, 2, 2, 2])] : List PSh)) (c := ([.inr (3, [2])] : List PSh)) rfl) (app_as (a := ([.inr (1, [2, 0, 0, 2, 2, 2])] : List PSh)) (c := ([.inr (3, [b + 1 + 1 + 3]), .inl (0, 180)] : List PSh)) rfl)) ?_
  refine c_putR (pc := 12) (b + 1) [.inr (1, [b + 1 + 3, 0, 0, 2, 2, 2]), .inr (3, [b + 1 + 1 + 3]), .inl (0, 180)] rfl fl_X1_12 hb rfl (Nat.le_of_ble_eq_true rfl) (fun _ h9 => by cases h9; exact Or.inr ⟨rfl, rfl, rfl, fm_X1_12⟩) (fun _ => rfl) (fun _ => rfl) (Nat.add_lt_add_left (Nat.le_of_ble_eq_true rfl) b) rfl ?_
  refine pr_aload_n (pc := 15) (j := 0) rfl rfl ?_
  refine c_iconst (pc := 16) 0 rfl (by decide) ?_
  refine c_putI0 (pc := 17) rfl fl_X1_18 hb rfl rfl (fun _ h9 => by cases h9; exact Or.inl rfl) rfl rfl ((hz b (by omega) 1).1) ?_
  refine pr_aload_n (pc := 20) (j := 0) rfl rfl ?_
  refine c_bipush (pc := 21) 120 rfl (by decide) ?_
  refine c_putI (pc := 23) rfl fl_X1_22 hb rfl rfl (fun _ h9 => by cases h9; exact Or.inl rfl) rfl rfl ?_
  refine pr_aload_n (pc := 26) (j := 0) rfl rfl ?_
  refine c_new (pc := 27) (cI := 3) (qc := (RX4, TX4, 1)) (fs := [2]) (b + 3) [.inr (1, [b + 1 + 3, 0, 0, 2, 2, 2]), .inr (3, [b + 1 + 1 + 3]), .inl (0, 180), .inr (3, [2])] rfl rfl cl_X1_9 ib_X4 in_X4 df_X4 (by decide) ⟨Nat.le_of_ble_eq_true rfl, Nat.le_of_ble_eq_true rfl⟩ hb rfl rfl (by omega) (by omega) (by omega) (cL1 (by omega)) (zS_I (zS_m hz (by omega)) (by omega)) ?_
  refine pr_dup (pc := 30) rfl rfl ?_
  refine c_call (pc := 31) (M1 := mX4_init) (S2 := pSI (S) b 2 120) (b + 3) [.inr (1, [b + 1 + 3, 0, 0, 2, 2, 2]), .inr (3, [b + 1 + 1 + 3]), .inl (0, 180), .inr (3, [b + 3 + 1 + 3]), .inl (0, 180)] rfl ce_X4_init ml_X1_11 im_X4_init rfl rfl (Nat.le_of_ble_eq_true rfl) ⟨Nat.le_of_ble_eq_true rfl, Nat.le_of_ble_eq_true rfl⟩ hb (by omega) (Nat.add_lt_add_left (Nat.le_of_ble_eq_true rfl) b) (Nat.lt_add_of_pos_right (Nat.le_of_ble_eq_true rfl)) (Nat.le_of_ble_eq_true rfl) (oL1 (Nat.lt_add_of_pos_right (Nat.le_of_ble_eq_true rfl)))
    (sp_X4_init X (sh0 := sh0 ++ ([.inr (1, [b + 1 + 3, 0, 0, 2, 2, 2]), .inr (3, [b + 1 + 1 + 3]), .inl (0, 180)] : List PSh)) (b := b + 3) (by rw [List.length_append, hb]; rfl) (by omega) (zS_I (zS_m hz (by omega)) (by omega)) (app_as (a := ([.inr (1, [b + 1 + 3, 0, 0, 2, 2, 2]), .inr (3, [b + 1 + 1 + 3]), .inl (0, 180)] : List PSh)) (c := ([.inr (3, [2])] : List PSh)) rfl) (app_as (a := ([.inr (1, [b + 1 + 3, 0, 0, 2, 2, 2]), .inr (3, [b + 1 + 1 + 3]), .inl (0, 180)] : List PSh)) (c := ([.inr (3, [b + 3 + 1 + 3]), .inl (0, 180)] : List PSh)) rfl)) ?_
  refine c_putR (pc := 34) (b + 3) [.inr (1, [b + 1 + 3, 0, 0, b + 3 + 3, 2, 2]), .inr (3, [b + 1 + 1 + 3]), .inl (0, 180), .inr (3, [b + 3 + 1 + 3]), .inl (0, 180)] rfl fl_X1_25 hb rfl (Nat.le_of_ble_eq_true rfl) (fun _ h9 => by cases h9; exact Or.inr ⟨rfl, rfl, rfl, fm_X1_25⟩) (fun _ => rfl) (fun _ => rfl) (Nat.add_lt_add_left (Nat.le_of_ble_eq_true rfl) b) rfl ?_
  refine pr_aload_n (pc := 37) (j := 0) rfl rfl ?_
  refine c_iconst (pc := 38) 3 rfl (by decide) ?_
  refine c_newa0 (pc := 39) (b + 5) [.inr (1, [b + 1 + 3, 0, 0, b + 3 + 3, 2, 2]), .inr (3, [b + 1 + 1 + 3]), .inl (0, 180), .inr (3, [b + 3 + 1 + 3]), .inl (0, 180), .inl (0, 3)] rfl (by decide) rfl (Nat.le_of_ble_eq_true rfl) ⟨Nat.le_of_ble_eq_true rfl, Nat.le_of_ble_eq_true rfl⟩ hb rfl rfl (by omega) (by omega) (by omega) (cL1 (by omega)) (zS_I (zS_m hz (by omega)) (by omega)) ?_
  refine pr_dup (pc := 41) rfl rfl ?_
  refine c_iconst (pc := 42) 0 rfl (by decide) ?_
  refine c_iconst (pc := 43) (-1) rfl (by decide) ?_
  refine c_iast (pc := 44) (p := 5) (n := 3) 0 rfl hb rfl (vp_lit (by decide)) (by decide) ?_
  refine pr_dup (pc := 45) rfl rfl ?_
  refine c_iconst (pc := 46) 1 rfl (by decide) ?_
  refine c_iconst (pc := 47) (-1) rfl (by decide) ?_
  refine c_iast (pc := 48) (p := 5) (n := 3) 1 rfl hb rfl (vp_lit (by decide)) (by decide) ?_
  refine pr_dup (pc := 49) rfl rfl ?_
  refine c_iconst (pc := 50) 2 rfl (by decide) ?_
  refine c_iconst (pc := 51) (-1) rfl (by decide) ?_
  refine c_iast (pc := 52) (p := 5) (n := 3) 2 rfl hb rfl (vp_lit (by decide)) (by decide) ?_
  refine c_putR (pc := 53) (b + 5) [.inr (1, [b + 1 + 3, 0, 0, b + 3 + 3, b + 5 + 3, 2]), .inr (3, [b + 1 + 1 + 3]), .inl (0, 180), .inr (3, [b + 3 + 1 + 3]), .inl (0, 180), .inl (0, 3)] rfl fl_X1_28 hb rfl (Nat.le_of_ble_eq_true rfl) (fun _ h9 => by cases h9; exact Or.inr ⟨rfl, rfl, rfl, fm_X1_28⟩) (fun _ => rfl) (fun _ => rfl) (Nat.add_lt_add_left (Nat.le_of_ble_eq_true rfl) b) rfl ?_
  refine pr_aload_n (pc := 56) (j := 0) rfl rfl ?_
  refine c_iconst (pc := 57) 3 rfl (by decide) ?_
  refine c_newa0 (pc := 58) (b + 6) [.inr (1, [b + 1 + 3, 0, 0, b + 3 + 3, b + 5 + 3, 2]), .inr (3, [b + 1 + 1 + 3]), .inl (0, 180), .inr (3, [b + 3 + 1 + 3]), .inl (0, 180), .inl (0, 3), .inl (0, 3)] rfl (by decide) rfl (Nat.le_of_ble_eq_true rfl) ⟨Nat.le_of_ble_eq_true rfl, Nat.le_of_ble_eq_true rfl⟩ hb rfl rfl (by omega) (by omega) (by omega) (cL1 (by omega)) (zS_I (zS_I (zS_I (zS_I (zS_m hz (by omega)) (by omega)) (by omega)) (by omega)) (by omega)) ?_
  refine pr_dup (pc := 60) rfl rfl ?_
  refine c_iconst (pc := 61) 0 rfl (by decide) ?_
  refine c_iconst (pc := 62) 0 rfl (by decide) ?_
  refine c_iast0 (pc := 63) (p := 6) (n := 3) 0 rfl hb rfl (vp_lit (by decide)) rfl ((congrFun (pSI_ne (by omega)) 0).trans ((congrFun (pSI_ne (by omega)) 0).trans ((congrFun (pSI_ne (by omega)) 0).trans ((congrFun (pSI_ne (by omega)) 0).trans ((hz (b + 6) (by omega) 0).1))))) ?_
  refine pr_dup (pc := 64) rfl rfl ?_
  refine c_iconst (pc := 65) 1 rfl (by decide) ?_
  refine c_iconst (pc := 66) 0 rfl (by decide) ?_
  refine c_iast0 (pc := 67) (p := 6) (n := 3) 1 rfl hb rfl (vp_lit (by decide)) rfl ((congrFun (pSI_ne (by omega)) 1).trans ((congrFun (pSI_ne (by omega)) 1).trans ((congrFun (pSI_ne (by omega)) 1).trans ((congrFun (pSI_ne (by omega)) 1).trans ((hz (b + 6) (by omega) 1).1))))) ?_
  refine pr_dup (pc := 68) rfl rfl ?_
  refine c_iconst (pc := 69) 2 rfl (by decide) ?_
  refine c_iconst (pc := 70) 0 rfl (by decide) ?_
  refine c_iast0 (pc := 71) (p := 6) (n := 3) 2 rfl hb rfl (vp_lit (by decide)) rfl ((congrFun (pSI_ne (by omega)) 2).trans ((congrFun (pSI_ne (by omega)) 2).trans ((congrFun (pSI_ne (by omega)) 2).trans ((congrFun (pSI_ne (by omega)) 2).trans ((hz (b + 6) (by omega) 2).1))))) ?_
  refine c_putR (pc := 72) (b + 6) [.inr (1, [b + 1 + 3, 0, 0, b + 3 + 3, b + 5 + 3, b + 6 + 3]), .inr (3, [b + 1 + 1 + 3]), .inl (0, 180), .inr (3, [b + 3 + 1 + 3]), .inl (0, 180), .inl (0, 3), .inl (0, 3)] rfl fl_X1_32 hb rfl (Nat.le_of_ble_eq_true rfl) (fun _ h9 => by cases h9; exact Or.inr ⟨rfl, rfl, rfl, fm_X1_32⟩) (fun _ => rfl) (fun _ => rfl) (Nat.add_lt_add_left (Nat.le_of_ble_eq_true rfl) b) rfl ?_
  exact pr_vret (pc := 75) rfl rfl ⟨Nat.le_of_ble_eq_true rfl, Nat.le_of_ble_eq_true rfl⟩ ⟨rfl, rfl, rfl⟩
theorem fm_X7_9 : Cond.fieldLink RX7 9 (TX7 0).1 (TX7 0).2.1 (TX7 0).2.2.1 ∈ pGood := pGood_in 194 (by decide +kernel) (by decide +kernel)
theorem fm_X7_22 : Cond.fieldLink RX7 22 (TX7 2).1 (TX7 2).2.1 (TX7 2).2.2.1 ∈ pGood := pGood_in 197 (by decide +kernel) (by decide +kernel)
theorem df_X7 : ∀ j, j < 5 → defaultValue (pTyp 6 j) = vp_V (([2, 0, 2, 0, 0] : List Nat).map pDef) j := fun j hj => by
  rcases (show j = 0 ∨ j = 1 ∨ j = 2 ∨ j = 3 ∨ j = 4 by omega) with rfl | rfl | rfl | rfl | rfl
  all_goals rfl
set_option maxRecDepth 100000 in
theorem sp_X7_init {sh0 sh shF : List PSh} {S : PSt} {b : Nat} (X : Nat × (Nat → Int32)) (hb : sh0.length = b) (h1 : b < 90) (hz : zS S b) (hs : sh = sh0 ++ [.inr (6, [2, 0, 2, 0, 0])]) (hF : shF = sh0 ++ [.inr (6, [b + 1 + 3, 0, b + 2 + 3, 0, 0]), .inl (0, 160), .inr (3, [b + 2 + 1 + 3]), .inl (0, 180)]) : pSpec mX7_init 2 3 341 [.ref b] X sh S (pR shF (S) none) := by
  subst hs
  subst hF
  refine pSpec.of (by decide) tk_X7_init (Nat.le_of_ble_eq_true rfl) ?_
  show pWP mX7_init 2 3 341 _ X _ 0 [some (.ref b)] [] 0 0 (sh0 ++ [.inr (6, [2, 0, 2, 0, 0])]) S
  refine pr_aload_n (pc := 0) (j := 0) rfl rfl ?_
  refine pr_objInit (pc := 1) rfl ml_X7_3 im_Obj_init co_Obj_init (Nat.le_of_ble_eq_true rfl) (Nat.le_of_ble_eq_true rfl) ?_
  refine pr_aload_n (pc := 4) (j := 0) rfl rfl ?_
  refine c_sipush (pc := 5) 160 rfl (by decide) ?_
  refine c_newa0 (pc := 8) (b + 1) [.inr (6, [2, 0, 2, 0, 0]), .inl (0, 160)] rfl (by decide) rfl (Nat.le_of_ble_eq_true rfl) ⟨Nat.le_of_ble_eq_true rfl, Nat.le_of_ble_eq_true rfl⟩ hb rfl rfl (by omega) (by omega) (by omega) (cL1 (by omega)) (zS_m hz (by omega)) ?_
  refine c_putR (pc := 10) (b + 1) [.inr (6, [b + 1 + 3, 0, 2, 0, 0]), .inl (0, 160)] rfl fl_X7_9 hb rfl (Nat.le_of_ble_eq_true rfl) (fun _ h9 => by cases h9; exact Or.inr ⟨rfl, rfl, rfl, fm_X7_9⟩) (fun _ => rfl) (fun _ => rfl) (Nat.add_lt_add_left (Nat.le_of_ble_eq_true rfl) b) rfl ?_
  refine pr_aload_n (pc := 13) (j := 0) rfl rfl ?_
  refine c_iconst (pc := 14) 0 rfl (by decide) ?_
  refine c_putI0 (pc := 15) rfl fl_X7_15 hb rfl rfl (fun _ h9 => by cases h9; exact Or.inl rfl) rfl rfl ((hz b (by omega) 1).1) ?_
  refine pr_aload_n (pc := 18) (j := 0) rfl rfl ?_
  refine c_new (pc := 19) (cI := 3) (qc := (RX4, TX4, 1)) (fs := [2]) (b + 2) [.inr (6, [b + 1 + 3, 0, 2, 0, 0]), .inl (0, 160), .inr (3, [2])] rfl rfl cl_X7_19 ib_X4 in_X4 df_X4 (by decide) ⟨Nat.le_of_ble_eq_true rfl, Nat.le_of_ble_eq_true rfl⟩ hb rfl rfl (by omega) (by omega) (by omega) (cL1 (by omega)) (zS_m hz (by omega)) ?_
  refine pr_dup (pc := 22) rfl rfl ?_
  refine c_call (pc := 23) (M1 := mX4_init) (S2 := S) (b + 2) [.inr (6, [b + 1 + 3, 0, 2, 0, 0]), .inl (0, 160), .inr (3, [b + 2 + 1 + 3]), .inl (0, 180)] rfl ce_X4_init ml_X7_21 im_X4_init rfl rfl (Nat.le_of_ble_eq_true rfl) ⟨Nat.le_of_ble_eq_true rfl, Nat.le_of_ble_eq_true rfl⟩ hb (by omega) (Nat.add_lt_add_left (Nat.le_of_ble_eq_true rfl) b) (Nat.lt_add_of_pos_right (Nat.le_of_ble_eq_true rfl)) (Nat.le_of_ble_eq_true rfl) (oL1 (Nat.lt_add_of_pos_right (Nat.le_of_ble_eq_true rfl)))
    (sp_X4_init X (sh0 := sh0 ++ ([.inr (6, [b + 1 + 3, 0, 2, 0, 0]), .inl (0, 160)] : List PSh)) (b := b + 2) (by rw [List.length_append, hb]; rfl) (by omega) (zS_m hz (by omega)) (app_as (a := ([.inr (6, [b + 1 + 3, 0, 2, 0, 0]), .inl (0, 160)] : List PSh)) (c := ([.inr (3, [2])] : List PSh)) rfl) (app_as (a := ([.inr (6, [b + 1 + 3, 0, 2, 0, 0]), .inl (0, 160)] : List PSh)) (c := ([.inr (3, [b + 2 + 1 + 3]), .inl (0, 180)] : List PSh)) rfl)) ?_
  refine c_putR (pc := 26) (b + 2) [.inr (6, [b + 1 + 3, 0, b + 2 + 3, 0, 0]), .inl (0, 160), .inr (3, [b + 2 + 1 + 3]), .inl (0, 180)] rfl fl_X7_22 hb rfl (Nat.le_of_ble_eq_true rfl) (fun _ h9 => by cases h9; exact Or.inr ⟨rfl, rfl, rfl, fm_X7_22⟩) (fun _ => rfl) (fun _ => rfl) (Nat.add_lt_add_left (Nat.le_of_ble_eq_true rfl) b) rfl ?_
  refine pr_aload_n (pc := 29) (j := 0) rfl rfl ?_
  refine c_iconst (pc := 30) 0 rfl (by decide) ?_
  refine c_putI0 (pc := 31) rfl fl_X7_26 hb rfl rfl (fun _ h9 => by cases h9; exact Or.inl rfl) rfl rfl ((hz b (by omega) 3).1) ?_
  refine pr_aload_n (pc := 34) (j := 0) rfl rfl ?_
  refine c_iconst (pc := 35) 0 rfl (by decide) ?_
  refine c_putI0 (pc := 36) rfl fl_X7_29 hb rfl rfl (fun _ h9 => by cases h9; exact Or.inl rfl) rfl rfl ((hz b (by omega) 4).1) ?_
  exact pr_vret (pc := 39) rfl rfl ⟨Nat.le_of_ble_eq_true rfl, Nat.le_of_ble_eq_true rfl⟩ ⟨rfl, rfl, rfl⟩
def stS9 (S : PSt) (b : Nat) : PSt := pSI (pSI (pSI (pSI (S) (b + 1) 0 (-1)) (b + 1) 1 (-1)) (b + 1) 2 (-1)) (b + 1) 3 (-1)
theorem stS9_ne {S : PSt} {b x : Nat} (h : x ≠ b + 1) : (stS9 S b).1 x = S.1 x := (pSI_ne h).trans ((pSI_ne h).trans ((pSI_ne h).trans (pSI_ne h)))
theorem zS_st {S : PSt} {n b : Nat} (h : zS S n) (hb : b + 1 < n) : zS (stS9 S b) n := zS_I (zS_I (zS_I (zS_I h hb) hb) hb) hb
theorem fm_X3_9 : Cond.fieldLink RX3 9 (TX3 0).1 (TX3 0).2.1 (TX3 0).2.2.1 ∈ pGood := pGood_in 219 (by decide +kernel) (by decide +kernel)
theorem fm_X3_15 : Cond.fieldLink RX3 15 (TX3 1).1 (TX3 1).2.1 (TX3 1).2.2.1 ∈ pGood := pGood_in 220 (by decide +kernel) (by decide +kernel)
theorem fm_X3_18 : Cond.fieldLink RX3 18 (TX3 2).1 (TX3 2).2.1 (TX3 2).2.2.1 ∈ pGood := pGood_in 221 (by decide +kernel) (by decide +kernel)
theorem df_X3 : ∀ j, j < 3 → defaultValue (pTyp 2 j) = vp_V (([2, 2, 2] : List Nat).map pDef) j := fun j hj => by
  rcases (show j = 0 ∨ j = 1 ∨ j = 2 by omega) with rfl | rfl | rfl
  all_goals rfl
set_option maxRecDepth 100000 in
theorem sp_X3_init {sh0 sh shF : List PSh} {S : PSt} {b : Nat} (X : Nat × (Nat → Int32)) (hb : sh0.length = b) (h1 : b < 90) (hz : zS S b) (hs : sh = sh0 ++ [.inr (2, [2, 2, 2])]) (hF : shF = sh0 ++ [.inr (2, [b + 1 + 3, b + 2 + 3, b + 3 + 3]), .inl (0, 4), .inl (0, 4), .inl (3, 160)]) : pSpec mX3_init 1 3 168 [.ref b] X sh S (pR shF (pSI (pSI (pSI (pSI (S) (b + 1) 0 (-1)) (b + 1) 1 (-1)) (b + 1) 2 (-1)) (b + 1) 3 (-1)) none) := by
  subst hs
  subst hF
  refine pSpec.of (by decide) tk_X3_init (Nat.le_of_ble_eq_true rfl) ?_
  show pWP mX3_init 1 3 168 _ X _ 0 [some (.ref b)] [] 0 0 (sh0 ++ [.inr (2, [2, 2, 2])]) S
  refine pr_aload_n (pc := 0) (j := 0) rfl rfl ?_
  refine pr_objInit (pc := 1) rfl ml_X3_3 im_Obj_init co_Obj_init (Nat.le_of_ble_eq_true rfl) (Nat.le_of_ble_eq_true rfl) ?_
  refine pr_aload_n (pc := 4) (j := 0) rfl rfl ?_
  refine c_iconst (pc := 5) 4 rfl (by decide) ?_
  refine c_newa0 (pc := 6) (b + 1) [.inr (2, [2, 2, 2]), .inl (0, 4)] rfl (by decide) rfl (Nat.le_of_ble_eq_true rfl) ⟨Nat.le_of_ble_eq_true rfl, Nat.le_of_ble_eq_true rfl⟩ hb rfl rfl (by omega) (by omega) (by omega) (cL1 (by omega)) (zS_m hz (by omega)) ?_
  refine pr_dup (pc := 8) rfl rfl ?_
  refine c_iconst (pc := 9) 0 rfl (by decide) ?_
  refine c_iconst (pc := 10) (-1) rfl (by decide) ?_
  refine c_iast (pc := 11) (p := 1) (n := 4) 0 rfl hb rfl (vp_lit (by decide)) (by decide) ?_
  refine pr_dup (pc := 12) rfl rfl ?_
  refine c_iconst (pc := 13) 1 rfl (by decide) ?_
  refine c_iconst (pc := 14) (-1) rfl (by decide) ?_
  refine c_iast (pc := 15) (p := 1) (n := 4) 1 rfl hb rfl (vp_lit (by decide)) (by decide) ?_
  refine pr_dup (pc := 16) rfl rfl ?_
  refine c_iconst (pc := 17) 2 rfl (by decide) ?_
  refine c_iconst (pc := 18) (-1) rfl (by decide) ?_
  refine c_iast (pc := 19) (p := 1) (n := 4) 2 rfl hb rfl (vp_lit (by decide)) (by decide) ?_
  refine pr_dup (pc := 20) rfl rfl ?_
  refine c_iconst (pc := 21) 3 rfl (by decide) ?_
  refine c_iconst (pc := 22) (-1) rfl (by decide) ?_
  refine c_iast (pc := 23) (p := 1) (n := 4) 3 rfl hb rfl (vp_lit (by decide)) (by decide) ?_
  refine c_putR (pc := 24) (b + 1) [.inr (2, [b + 1 + 3, 2, 2]), .inl (0, 4)] rfl fl_X3_9 hb rfl (Nat.le_of_ble_eq_true rfl) (fun _ h9 => by cases h9; exact Or.inr ⟨rfl, rfl, rfl, fm_X3_9⟩) (fun _ => rfl) (fun _ => rfl) (Nat.add_lt_add_left (Nat.le_of_ble_eq_true rfl) b) rfl ?_
  refine pr_aload_n (pc := 27) (j := 0) rfl rfl ?_
  refine c_iconst (pc := 28) 4 rfl (by decide) ?_
  refine c_newa0 (pc := 29) (b + 2) [.inr (2, [b + 1 + 3, 2, 2]), .inl (0, 4), .inl (0, 4)] rfl (by decide) rfl (Nat.le_of_ble_eq_true rfl) ⟨Nat.le_of_ble_eq_true rfl, Nat.le_of_ble_eq_true rfl⟩ hb rfl rfl (by omega) (by omega) (by omega) (cL1 (by omega)) (zS_I (zS_I (zS_I (zS_I (zS_m hz (by omega)) (by omega)) (by omega)) (by omega)) (by omega)) ?_
  refine pr_dup (pc := 31) rfl rfl ?_
  refine c_iconst (pc := 32) 0 rfl (by decide) ?_
  refine c_iconst (pc := 33) 0 rfl (by decide) ?_
  refine c_iast0 (pc := 34) (p := 2) (n := 4) 0 rfl hb rfl (vp_lit (by decide)) rfl ((congrFun (pSI_ne (by omega)) 0).trans ((congrFun (pSI_ne (by omega)) 0).trans ((congrFun (pSI_ne (by omega)) 0).trans ((congrFun (pSI_ne (by omega)) 0).trans ((hz (b + 2) (by omega) 0).1))))) ?_
  refine pr_dup (pc := 35) rfl rfl ?_
  refine c_iconst (pc := 36) 1 rfl (by decide) ?_
  refine c_iconst (pc := 37) 0 rfl (by decide) ?_
  refine c_iast0 (pc := 38) (p := 2) (n := 4) 1 rfl hb rfl (vp_lit (by decide)) rfl ((congrFun (pSI_ne (by omega)) 1).trans ((congrFun (pSI_ne (by omega)) 1).trans ((congrFun (pSI_ne (by omega)) 1).trans ((congrFun (pSI_ne (by omega)) 1).trans ((hz (b + 2) (by omega) 1).1))))) ?_
  refine pr_dup (pc := 39) rfl rfl ?_
  refine c_iconst (pc := 40) 2 rfl (by decide) ?_
  refine c_iconst (pc := 41) 0 rfl (by decide) ?_
  refine c_iast0 (pc := 42) (p := 2) (n := 4) 2 rfl hb rfl (vp_lit (by decide)) rfl ((congrFun (pSI_ne (by omega)) 2).trans ((congrFun (pSI_ne (by omega)) 2).trans ((congrFun (pSI_ne (by omega)) 2).trans ((congrFun (pSI_ne (by omega)) 2).trans ((hz (b + 2) (by omega) 2).1))))) ?_
  refine pr_dup (pc := 43) rfl rfl ?_
  refine c_iconst (pc := 44) 3 rfl (by decide) ?_
  refine c_iconst (pc := 45) 0 rfl (by decide) ?_
  refine c_iast0 (pc := 46) (p := 2) (n := 4) 3 rfl hb rfl (vp_lit (by decide)) rfl ((congrFun (pSI_ne (by omega)) 3).trans ((congrFun (pSI_ne (by omega)) 3).trans ((congrFun (pSI_ne (by omega)) 3).trans ((congrFun (pSI_ne (by omega)) 3).trans ((hz (b + 2) (by omega) 3).1))))) ?_
  refine c_putR (pc := 47) (b + 2) [.inr (2, [b + 1 + 3, b + 2 + 3, 2]), .inl (0, 4), .inl (0, 4)] rfl fl_X3_15 hb rfl (Nat.le_of_ble_eq_true rfl) (fun _ h9 => by cases h9; exact Or.inr ⟨rfl, rfl, rfl, fm_X3_15⟩) (fun _ => rfl) (fun _ => rfl) (Nat.add_lt_add_left (Nat.le_of_ble_eq_true rfl) b) rfl ?_
  refine pr_aload_n (pc := 50) (j := 0) rfl rfl ?_
  refine c_sipush (pc := 51) 160 rfl (by decide) ?_
  refine c_newa3 (pc := 54) (b + 3) [.inr (2, [b + 1 + 3, b + 2 + 3, 2]), .inl (0, 4), .inl (0, 4), .inl (3, 160)] rfl (by decide) rfl (Nat.le_of_ble_eq_true rfl) ⟨Nat.le_of_ble_eq_true rfl, Nat.le_of_ble_eq_true rfl⟩ hb rfl rfl (by omega) (by omega) (by omega) (cL1 (by omega)) (zS_I (zS_I (zS_I (zS_I (zS_m hz (by omega)) (by omega)) (by omega)) (by omega)) (by omega)) ?_
  refine c_putR (pc := 56) (b + 3) [.inr (2, [b + 1 + 3, b + 2 + 3, b + 3 + 3]), .inl (0, 4), .inl (0, 4), .inl (3, 160)] rfl fl_X3_18 hb rfl (Nat.le_of_ble_eq_true rfl) (fun _ h9 => by cases h9; exact Or.inr ⟨rfl, rfl, rfl, fm_X3_18⟩) (fun _ => rfl) (fun _ => rfl) (Nat.add_lt_add_left (Nat.le_of_ble_eq_true rfl) b) rfl ?_
  exact pr_vret (pc := 59) rfl rfl ⟨Nat.le_of_ble_eq_true rfl, Nat.le_of_ble_eq_true rfl⟩ ⟨rfl, rfl, rfl⟩
