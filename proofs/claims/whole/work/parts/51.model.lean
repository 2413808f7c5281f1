/-! the model: slur, feed: written by wip/whole/gen/c51.py -/
theorem mx_ge {a b : Int32} (h : a ≤ b) : mxI a b = b := by
  unfold mxI
  split
  · rfl
  · rename_i h2; exact Int32.le_antisymm h (Int32.not_lt.mp h2)
theorem mx_lt {a b : Int32} (h : ¬ a ≤ b) : mxI a b = a := by
  unfold mxI
  rw [if_neg (fun q => h (Int32.le_of_lt q))]
theorem mn_ge {a b : Int32} (h : b ≤ a) : mnI a b = b := by
  unfold mnI
  split
  · rfl
  · rename_i h2; exact Int32.le_antisymm (Int32.not_lt.mp h2) h
theorem mn_lt {a b : Int32} (h : ¬ b ≤ a) : mnI a b = a := by
  unfold mnI
  rw [if_neg (fun q => h (Int32.le_of_lt q))]
theorem mn_6 {x : Int32} (h : ¬ x ≤ 6) : mnI x 6 = 6 := by unfold mnI; rw [if_pos (Int32.not_le.mp h)]
theorem mn_7 {x : Int32} (h : x ≤ 6) : mnI x 6 = x := by unfold mnI; rw [if_neg (Int32.not_lt.mpr h)]
theorem mx_0 {a b : Int32} (h : 0 ≤ a.toInt) : 0 ≤ (mxI a b).toInt := by
  unfold mxI
  split
  · rename_i h2; rw [Int32.lt_iff_toInt_lt] at h2; omega
  · exact h
theorem slu_0 {g : Nat → Int32} {up : Bool} {x y : Nat} : 0 ≤ (sluV g up x y).toInt := by
  unfold sluV
  have h : ∀ k, 0 ≤ (slhV g up x y k).toInt := by
    intro k
    induction k with
    | zero => exact (by decide : (0 : Int) ≤ (0 : Int32).toInt)
    | succ k ih => exact mx_0 ih
  exact h _
/-- a height, if a slur may have it -/
def hM (v : Int32) : Int32 := if v ≤ 40 then v else -1
def sdM (a b : Int32) : Int32 := if hM a < 0 ∨ (¬ hM b < 0 ∧ ¬ hM a ≤ hM b) then 1 else 0
def sluM (a b what : Int32) : POut := if (if what = 2 then hM a else if what = 3 then hM b else if sdM a b = 0 then hM a else hM b) < 0 then (2, 0) else (0, if what = 0 then sdM a b else if what = 2 then hM a else if what = 3 then hM b else if sdM a b = 0 then hM a else hM b)
theorem hM_lt {a : Int32} (h : 0 ≤ a.toInt) : hM a < 0 ↔ pWi a 0 40 = false := by
  have e40 : (40 : Int32).toInt = 40 := by decide
  have e0 : (0 : Int32).toInt = 0 := rfl
  unfold hM pWi
  rw [decide_eq_false_iff_not, e0, e40]
  split
  · rename_i h1
    rw [Int32.le_iff_toInt_le, e40] at h1
    rw [Int32.lt_iff_toInt_lt, e0]
    omega
  · rename_i h1
    rw [Int32.le_iff_toInt_le, e40] at h1
    constructor
    · intro _; omega
    · intro _; decide
theorem hM_y {a : Int32} (h : pWi a 0 40 = true) : hM a = a := by
  have h := of_decide_eq_true h
  unfold hM
  rw [if_pos (by rw [Int32.le_iff_toInt_le]; exact h.2)]
theorem hM_n {a : Int32} (h0 : 0 ≤ a.toInt) (h : pWi a 0 40 = false) : hM a < 0 := (hM_lt h0).mpr h
theorem hM_p {a : Int32} (h0 : 0 ≤ a.toInt) (h : pWi a 0 40 = true) : ¬ hM a < 0 := fun q => by rw [(hM_lt h0).mp q] at h; exact absurd h (by decide)
theorem sluM_eq {a b what : Int32} (ha : 0 ≤ a.toInt) (hb : 0 ≤ b.toInt) (hw : what = 0 ∨ what = 1 ∨ what = 2 ∨ what = 3) : sluM a b what = sluO a b what := by
  have hab : b < a ↔ ¬ a ≤ b := Int32.not_le.symm
  have i1 : ¬ (1 : Int32) = 0 := by decide
  have i2 : ¬ (2 : Int32) = 0 := by decide
  have i3 : ¬ (3 : Int32) = 0 := by decide
  have i4 : ¬ (0 : Int32) = 2 := by decide
  have i5 : ¬ (0 : Int32) = 3 := by decide
  have i6 : ¬ (1 : Int32) = 2 := by decide
  have i7 : ¬ (1 : Int32) = 3 := by decide
  have i8 : ¬ (3 : Int32) = 2 := by decide
  have i9 : ¬ (3 : Int32) = 1 := by decide
  have hlt : ∀ {p q : Int32}, pWi p 0 40 = true → pWi q 0 40 = false → 0 ≤ q.toInt → p < q := by
    intro p q h1 h2 h3
    have h1 := of_decide_eq_true h1
    have h2 := of_decide_eq_false h2
    rw [Int32.lt_iff_toInt_lt]
    have e0 : (0 : Int32).toInt = 0 := rfl
    omega
  unfold sluM sluO sdM
  rcases Bool.eq_false_or_eq_true (pWi a 0 40) with h1 | h1 <;> rcases Bool.eq_false_or_eq_true (pWi b 0 40) with h2 | h2
  · have a1 := hM_p ha h1
    have b1 := hM_p hb h2
    rw [hM_y h1] at a1 ⊢
    rw [hM_y h2] at b1 ⊢
    by_cases h3 : a ≤ b
    · rcases hw with e | e | e | e <;> subst e <;> simp [h1, h2, h3, a1, b1, hab]
    · rcases hw with e | e | e | e <;> subst e <;> simp [h1, h2, h3, a1, b1, hab]
  · have a1 := hM_p ha h1
    have b1 := hM_n hb h2
    rw [hM_y h1] at a1 ⊢
    have h3 : ¬ b < a := fun q => absurd (Int32.lt_trans q (hlt h1 h2 hb)) Int32.lt_irrefl
    rcases hw with e | e | e | e <;> subst e <;> simp [h1, h2, h3, a1, b1]
  · have a1 := hM_n ha h1
    have b1 := hM_p hb h2
    rw [hM_y h2] at b1 ⊢
    have h3 : b < a := hlt h2 h1 ha
    rcases hw with e | e | e | e <;> subst e <;> simp [h1, h2, h3, a1, b1]
  · have a1 := hM_n ha h1
    have b1 := hM_n hb h2
    by_cases h3 : b < a
    · rcases hw with e | e | e | e <;> subst e <;> simp [h1, h2, h3, a1, b1]
    · rcases hw with e | e | e | e <;> subst e <;> simp [h1, h2, h3, a1, b1]
theorem w_4 {u : Nat} (hu : u ≤ 3) : nI u = 0 ∨ nI u = 1 ∨ nI u = 2 ∨ nI u = 3 := by
  rcases (show u = 0 ∨ u = 1 ∨ u = 2 ∨ u = 3 by omega) with e | e | e | e <;> subst e
  · exact Or.inl rfl
  · exact Or.inr (Or.inl rfl)
  · exact Or.inr (Or.inr (Or.inl rfl))
  · exact Or.inr (Or.inr (Or.inr rfl))
set_option maxRecDepth 100000 in
theorem sp_X9_ink0 {sh : List PSh} {S : PSt} (hm : isMo sh) {c : Nat} (hc : c < 32) (hok : okC (mG S) c) : pF mX9_ink 2 [.ref 70, .int (nI c), .int 0] sh S S (some (.int (inkV (mG S) true c))) := by
  refine pF.of (pG.of [some (.ref 70), some (.int (nI c)), some (.int 0)] (by decide) tk_X9_ink (Nat.le_of_ble_eq_true rfl) rfl (fun X => ?_))
  refine q_iload_n (pc := 0) (j := 2) rfl rfl ?_
  refine q_if_ne (pc := 1) 12 rfl (by decide) (fun h9 => absurd h9 (by decide : ¬ ¬ (0 : Int32) = 0)) (fun _ => ?_)
  refine q_aload_n (pc := 4) (j := 0) rfl rfl ?_
  refine q_iload_n (pc := 5) (j := 1) rfl rfl ?_
  refine q_callV (pc := 6) (as := [.int (nI c)]) (rest := []) (b := 70) (st2 := [.int (topG (mG S) c)]) rfl ce_X9_top ml_X9_134 im_X9_top se_X9_top hm.1 rfl rfl rfl (by decide) (Nat.le_of_ble_eq_true rfl) (sp_X9_topE (c := c) rfl hm (by omega) hok) rfl ?_
  refine q_goto (pc := 9) 18 rfl (by decide) ?_
  exact q_iret (pc := 18) rfl rfl ⟨rfl, rfl⟩
set_option maxRecDepth 100000 in
theorem sp_X9_ink1 {sh : List PSh} {S : PSt} (hm : isMo sh) {c : Nat} (hc : c < 32) (hok : okC (mG S) c) : pF mX9_ink 2 [.ref 70, .int (nI c), .int 1] sh S S (some (.int (inkV (mG S) false c))) := by
  refine pF.of (pG.of [some (.ref 70), some (.int (nI c)), some (.int 1)] (by decide) tk_X9_ink (Nat.le_of_ble_eq_true rfl) rfl (fun X => ?_))
  refine q_iload_n (pc := 0) (j := 2) rfl rfl ?_
  refine q_if_ne (pc := 1) 12 rfl (by decide) (fun _ => ?_) (fun h9 => absurd h9 (by decide : (1 : Int32) = 0 → False))
  refine q_aload_n (pc := 12) (j := 0) rfl rfl ?_
  refine q_iload_n (pc := 13) (j := 1) rfl rfl ?_
  refine q_callV (pc := 14) (as := [.int (nI c)]) (rest := []) (b := 70) (st2 := [.int (botG (mG S) c)]) rfl ce_X9_bottom ml_X9_137 im_X9_bottom se_X9_bottom hm.1 rfl rfl rfl (by decide) (Nat.le_of_ble_eq_true rfl) (sp_X9_bottomE (c := c) rfl hm (by omega) hok) rfl ?_
  refine q_ineg (pc := 17) rfl ?_
  exact q_iret (pc := 18) rfl rfl ⟨congrArg (fun v => some (Value.int v)) (by rw [inkV, if_neg (by decide), Int32.zero_sub]), rfl⟩
set_option maxRecDepth 100000 in
theorem lp_X9_height0 {n0 : Nat} {X : Nat × (Nat → Int32)} {P : Option Value → PSt → Prop} {d : Nat} (hd9 : 3 ≤ d) {sh : List PSh} {S : PSt} (hm : isMo sh) {x y N : Nat} (hN2 : N ≤ 32) (hok : okG (mG S) N) (hyN : y < N) (hxy2 : x + 2 ≤ y)  (hex : ∀ i f8 f9 f10, pV mX9_height d n0 X sh P 139 [some (.ref 70), some (.int (nI x)), some (.int (nI y)), some (.int 0), some (.int (endV (mG S) true x y)), some (.int (slhV (mG S) true x y (y - x - 1))), some (.int (nI (y - x - 1))), some (.int i), f8, f9, f10] [] S) : ∀ (m k : Nat) (f8 f9 f10 : Option Value), k + m = (y - x - 1) → pV mX9_height d n0 X sh P 45 [some (.ref 70), some (.int (nI x)), some (.int (nI y)), some (.int 0), some (.int (endV (mG S) true x y)), some (.int (slhV (mG S) true x y k)), some (.int (nI (y - x - 1))), some (.int (nI (k + 1))), f8, f9, f10] [] S := by
  intro m
  induction m with
  | zero =>
    intro k f8 f9 f10 hk
    have hk9 : (y - x - 1) = k := by omega
    subst hk9
    refine q_iload (pc := 45) (j := 7) rfl rfl ?_
    refine q_iload (pc := 47) (j := 6) rfl rfl ?_
    refine q_icmp_gt (pc := 49) 139 rfl (by decide) (fun _ => ?_) (fun h9 => absurd (nI_lt (by omega) (by omega)) h9)
    exact hex _ _ _ _
  | succ m ih =>
    intro k f8 f9 f10 hk
    have hk1 : k < (y - x - 1) := by omega
    have hk2 : k < (y - x - 1) := hk1
    refine q_iload (pc := 45) (j := 7) rfl rfl ?_
    refine q_iload (pc := 47) (j := 6) rfl rfl ?_
    refine q_icmp_gt (pc := 49) 139 rfl (by decide) (fun h9 => absurd h9 (nI_nlt (by omega) (by omega))) (fun _ => ?_)
    refine q_iload (pc := 52) (j := 7) rfl rfl ?_
    refine q_iload (pc := 54) (j := 6) rfl rfl ?_
    refine q_iconst (pc := 56) 1 rfl (by decide) ?_
    refine q_iadd (pc := 57) rfl ?_
    refine q_iload (pc := 58) (j := 7) rfl rfl ?_
    refine q_isub (pc := 60) rfl ?_
    refine q_join 76 [some (.ref 70), some (.int (nI x)), some (.int (nI y)), some (.int 0), some (.int (endV (mG S) true x y)), some (.int (slhV (mG S) true x y k)), some (.int (nI (y - x - 1))), some (.int (nI (k + 1))), f8, f9, f10] [.int (mnI (nI (k + 1)) (nI (y - x - 1) + 1 - nI (k + 1)))] S ?_ (fun key61 => ?_)
    · refine q_istore (pc := 76) (j := 8) [some (.ref 70), some (.int (nI x)), some (.int (nI y)), some (.int 0), some (.int (endV (mG S) true x y)), some (.int (slhV (mG S) true x y k)), some (.int (nI (y - x - 1))), some (.int (nI (k + 1))), some (.int (mnI (nI (k + 1)) (nI (y - x - 1) + 1 - nI (k + 1)))), f9, f10] rfl (by decide) rfl ?_
      refine q_iconst (pc := 78) 2 rfl (by decide) ?_
      refine q_iload (pc := 79) (j := 8) rfl rfl ?_
      refine q_imul (pc := 81) rfl ?_
      refine q_bipush (pc := 82) 6 rfl (by decide) ?_
      refine q_join 96 [some (.ref 70), some (.int (nI x)), some (.int (nI y)), some (.int 0), some (.int (endV (mG S) true x y)), some (.int (slhV (mG S) true x y k)), some (.int (nI (y - x - 1))), some (.int (nI (k + 1))), some (.int (mnI (nI (k + 1)) (nI (y - x - 1) + 1 - nI (k + 1)))), f9, f10] [.int (bowV (y - x - 1) (k + 1))] S ?_ (fun key84 => ?_)
      · refine q_istore (pc := 96) (j := 9) [some (.ref 70), some (.int (nI x)), some (.int (nI y)), some (.int 0), some (.int (endV (mG S) true x y)), some (.int (slhV (mG S) true x y k)), some (.int (nI (y - x - 1))), some (.int (nI (k + 1))), some (.int (mnI (nI (k + 1)) (nI (y - x - 1) + 1 - nI (k + 1)))), some (.int (bowV (y - x - 1) (k + 1))), f10] rfl (by decide) rfl ?_
        refine q_aload_n (pc := 98) (j := 0) rfl rfl ?_
        refine q_iload_n (pc := 99) (j := 1) rfl rfl ?_
        refine q_iload (pc := 100) (j := 7) rfl rfl ?_
        refine q_iadd (pc := 102) rfl ?_
        refine q_st (st2 := [.int (nI (x + (k + 1))), .ref 70]) (by rw [nI_add x (k + 1)]) ?_
        refine q_iload_n (pc := 103) (j := 3) rfl rfl ?_
        refine q_callV (pc := 104) (as := [.int (nI (x + (k + 1))), .int 0]) (rest := []) (b := 70) (st2 := [.int (inkV (mG S) true (x + (k + 1)))]) rfl ce_X9_ink ml_X9_249 im_X9_ink se_X9_ink hm.1 rfl rfl rfl (by omega) (Nat.le_of_ble_eq_true rfl) (sp_X9_ink0 (c := (x + (k + 1))) hm (by omega) (hok (x + (k + 1)) (by omega))) rfl ?_
        refine q_iconst (pc := 107) 1 rfl (by decide) ?_
        refine q_iadd (pc := 108) rfl ?_
        refine q_iload (pc := 109) (j := 4) rfl rfl ?_
        refine q_isub (pc := 111) rfl ?_
        refine q_iload (pc := 112) (j := 9) rfl rfl ?_
        refine q_isub (pc := 114) rfl ?_
        refine q_istore (pc := 115) (j := 10) [some (.ref 70), some (.int (nI x)), some (.int (nI y)), some (.int 0), some (.int (endV (mG S) true x y)), some (.int (slhV (mG S) true x y k)), some (.int (nI (y - x - 1))), some (.int (nI (k + 1))), some (.int (mnI (nI (k + 1)) (nI (y - x - 1) + 1 - nI (k + 1)))), some (.int (bowV (y - x - 1) (k + 1))), some (.int ((((inkV (mG S) true (x + (k + 1))) + 1) - (endV (mG S) true x y)) - (bowV (y - x - 1) (k + 1))))] rfl (by decide) rfl ?_
        refine q_iload (pc := 117) (j := 10) rfl rfl ?_
        refine q_iload (pc := 119) (j := 5) rfl rfl ?_
        refine q_join 131 [some (.ref 70), some (.int (nI x)), some (.int (nI y)), some (.int 0), some (.int (endV (mG S) true x y)), some (.int (slhV (mG S) true x y k)), some (.int (nI (y - x - 1))), some (.int (nI (k + 1))), some (.int (mnI (nI (k + 1)) (nI (y - x - 1) + 1 - nI (k + 1)))), some (.int (bowV (y - x - 1) (k + 1))), some (.int ((((inkV (mG S) true (x + (k + 1))) + 1) - (endV (mG S) true x y)) - (bowV (y - x - 1) (k + 1))))] [.int (slhV (mG S) true x y (k + 1))] S ?_ (fun key121 => ?_)
        · refine q_istore (pc := 131) (j := 5) [some (.ref 70), some (.int (nI x)), some (.int (nI y)), some (.int 0), some (.int (endV (mG S) true x y)), some (.int (slhV (mG S) true x y (k + 1))), some (.int (nI (y - x - 1))), some (.int (nI (k + 1))), some (.int (mnI (nI (k + 1)) (nI (y - x - 1) + 1 - nI (k + 1)))), some (.int (bowV (y - x - 1) (k + 1))), some (.int ((((inkV (mG S) true (x + (k + 1))) + 1) - (endV (mG S) true x y)) - (bowV (y - x - 1) (k + 1))))] rfl (by decide) rfl ?_
          refine q_iinc (pc := 133) (j := 7) (n := 1) (nI (k + 1 + 1)) [some (.ref 70), some (.int (nI x)), some (.int (nI y)), some (.int 0), some (.int (endV (mG S) true x y)), some (.int (slhV (mG S) true x y (k + 1))), some (.int (nI (y - x - 1))), some (.int (nI (k + 1 + 1))), some (.int (mnI (nI (k + 1)) (nI (y - x - 1) + 1 - nI (k + 1)))), some (.int (bowV (y - x - 1) (k + 1))), some (.int ((((inkV (mG S) true (x + (k + 1))) + 1) - (endV (mG S) true x y)) - (bowV (y - x - 1) (k + 1))))] rfl (by decide) rfl (nI_1 (k + 1)) rfl ?_
          refine q_goto (pc := 136) 45 rfl (by decide) ?_
          exact ih (k + 1) _ _ _ (by omega)
        · refine q_icmp_le (pc := 121) 129 rfl (by decide) (fun h121 => ?_) (fun h121 => ?_)
          · refine q_iload (pc := 129) (j := 5) rfl rfl ?_
            exact q_st (by rw [slhV, mx_no h121]) key121
          · refine q_iload (pc := 124) (j := 10) rfl rfl ?_
            refine q_goto (pc := 126) 131 rfl (by decide) ?_
            exact q_st (by rw [slhV, mx_yes h121]) key121
      · refine q_icmp_le (pc := 84) 92 rfl (by decide) (fun h84 => ?_) (fun h84 => ?_)
        · refine q_iconst (pc := 92) 2 rfl (by decide) ?_
          refine q_iload (pc := 93) (j := 8) rfl rfl ?_
          refine q_imul (pc := 95) rfl ?_
          exact q_st (by rw [bowV, mn_7 h84]) key84
        · refine q_bipush (pc := 87) 6 rfl (by decide) ?_
          refine q_goto (pc := 89) 96 rfl (by decide) ?_
          exact q_st (by rw [bowV, mn_6 h84]) key84
    · refine q_icmp_ge (pc := 61) 69 rfl (by decide) (fun h61 => ?_) (fun h61 => ?_)
      · refine q_iload (pc := 69) (j := 6) rfl rfl ?_
        refine q_iconst (pc := 71) 1 rfl (by decide) ?_
        refine q_iadd (pc := 72) rfl ?_
        refine q_iload (pc := 73) (j := 7) rfl rfl ?_
        refine q_isub (pc := 75) rfl ?_
        exact q_st (by rw [mn_ge h61]) key61
      · refine q_iload (pc := 64) (j := 7) rfl rfl ?_
        refine q_goto (pc := 66) 76 rfl (by decide) ?_
        exact q_st (by rw [mn_lt h61]) key61
set_option maxRecDepth 100000 in
theorem sp_X9_height0 {sh : List PSh} {S : PSt} (hm : isMo sh) {x y N : Nat} (hN2 : N ≤ 32) (hok : okG (mG S) N) (hyN : y < N) (hxy2 : x + 2 ≤ y)  : pF mX9_height 3 [.ref 70, .int (nI x), .int (nI y), .int 0] sh S S (some (.int (hM (sluV (mG S) true x y)))) := by
  refine pF.of (pG.of [some (.ref 70), some (.int (nI x)), some (.int (nI y)), some (.int 0), none, none, none, none, none, none, none] (by decide) tk_X9_height (Nat.le_of_ble_eq_true rfl) rfl (fun X => ?_))
  refine q_aload_n (pc := 0) (j := 0) rfl rfl ?_
  refine q_iload_n (pc := 1) (j := 1) rfl rfl ?_
  refine q_iload_n (pc := 2) (j := 3) rfl rfl ?_
  refine q_callV (pc := 3) (as := [.int (nI x), .int 0]) (rest := []) (b := 70) (st2 := [.int (inkV (mG S) true x)]) rfl ce_X9_ink ml_X9_249 im_X9_ink se_X9_ink hm.1 rfl rfl rfl (by decide) (Nat.le_of_ble_eq_true rfl) (sp_X9_ink0 (c := x) hm (by omega) (hok x (by omega))) rfl ?_
  refine q_aload_n (pc := 6) (j := 0) rfl rfl ?_
  refine q_iload_n (pc := 7) (j := 2) rfl rfl ?_
  refine q_iload_n (pc := 8) (j := 3) rfl rfl ?_
  refine q_callV (pc := 9) (as := [.int (nI y), .int 0]) (rest := [.int (inkV (mG S) true x)]) (b := 70) (st2 := [.int (inkV (mG S) true y), .int (inkV (mG S) true x)]) rfl ce_X9_ink ml_X9_249 im_X9_ink se_X9_ink hm.1 rfl rfl rfl (by decide) (Nat.le_of_ble_eq_true rfl) (sp_X9_ink0 (c := y) hm (by omega) (hok y (by omega))) rfl ?_
  refine q_join 30 [some (.ref 70), some (.int (nI x)), some (.int (nI y)), some (.int 0), none, none, none, none, none, none, none] [.int (endV (mG S) true x y)] S ?_ (fun key12 => ?_)
  · refine q_istore (pc := 30) (j := 4) [some (.ref 70), some (.int (nI x)), some (.int (nI y)), some (.int 0), some (.int (endV (mG S) true x y)), none, none, none, none, none, none] rfl (by decide) rfl ?_
    refine q_iconst (pc := 32) 0 rfl (by decide) ?_
    refine q_istore (pc := 33) (j := 5) [some (.ref 70), some (.int (nI x)), some (.int (nI y)), some (.int 0), some (.int (endV (mG S) true x y)), some (.int 0), none, none, none, none, none] rfl (by decide) rfl ?_
    refine q_iload_n (pc := 35) (j := 2) rfl rfl ?_
    refine q_iload_n (pc := 36) (j := 1) rfl rfl ?_
    refine q_isub (pc := 37) rfl ?_
    refine q_st (st2 := [.int (nI (y - x))]) (by rw [pk_sub (by omega)]) ?_
    refine q_iconst (pc := 38) 1 rfl (by decide) ?_
    refine q_isub (pc := 39) rfl ?_
    refine q_st (st2 := [.int (nI (y - x - 1))]) (by rw [(show nI (y - x) - 1 = nI (y - x - 1) from pk_sub (b := 1) (by omega))]) ?_
    refine q_istore (pc := 40) (j := 6) [some (.ref 70), some (.int (nI x)), some (.int (nI y)), some (.int 0), some (.int (endV (mG S) true x y)), some (.int 0), some (.int (nI (y - x - 1))), none, none, none, none] rfl (by decide) rfl ?_
    refine q_iconst (pc := 42) 1 rfl (by decide) ?_
    refine q_istore (pc := 43) (j := 7) [some (.ref 70), some (.int (nI x)), some (.int (nI y)), some (.int 0), some (.int (endV (mG S) true x y)), some (.int 0), some (.int (nI (y - x - 1))), some (.int 1), none, none, none] rfl (by decide) rfl ?_
    refine lp_X9_height0 (by decide) hm hN2 hok hyN hxy2 (fun i f8 f9 f10 => ?_) (y - x - 1) 0 _ _ _ (Nat.zero_add _)
    refine q_iload (pc := 139) (j := 5) rfl rfl ?_
    refine q_bipush (pc := 141) 40 rfl (by decide) ?_
    refine q_icmp_le (pc := 143) 150 rfl (by decide) (fun h143 => ?_) (fun h143 => ?_)
    · refine q_iload (pc := 150) (j := 5) rfl rfl ?_
      exact q_iret (pc := 152) rfl rfl ⟨congrArg (fun v => some (Value.int v)) (by rw [hM, sluV]; first | rw [if_pos h143] | rw [if_neg h143]), rfl⟩
    · refine q_iconst (pc := 146) (-1) rfl (by decide) ?_
      refine q_goto (pc := 147) 152 rfl (by decide) ?_
      exact q_iret (pc := 152) rfl rfl ⟨congrArg (fun v => some (Value.int v)) (by rw [hM, sluV]; first | rw [if_pos h143] | rw [if_neg h143]), rfl⟩
  · refine q_icmp_le (pc := 12) 24 rfl (by decide) (fun h12 => ?_) (fun h12 => ?_)
    · refine q_aload_n (pc := 24) (j := 0) rfl rfl ?_
      refine q_iload_n (pc := 25) (j := 2) rfl rfl ?_
      refine q_iload_n (pc := 26) (j := 3) rfl rfl ?_
      refine q_callV (pc := 27) (as := [.int (nI y), .int 0]) (rest := []) (b := 70) (st2 := [.int (inkV (mG S) true y)]) rfl ce_X9_ink ml_X9_249 im_X9_ink se_X9_ink hm.1 rfl rfl rfl (by decide) (Nat.le_of_ble_eq_true rfl) (sp_X9_ink0 (c := y) hm (by omega) (hok y (by omega))) rfl ?_
      exact q_st (by rw [endV, mx_ge h12]) key12
    · refine q_aload_n (pc := 15) (j := 0) rfl rfl ?_
      refine q_iload_n (pc := 16) (j := 1) rfl rfl ?_
      refine q_iload_n (pc := 17) (j := 3) rfl rfl ?_
      refine q_callV (pc := 18) (as := [.int (nI x), .int 0]) (rest := []) (b := 70) (st2 := [.int (inkV (mG S) true x)]) rfl ce_X9_ink ml_X9_249 im_X9_ink se_X9_ink hm.1 rfl rfl rfl (by decide) (Nat.le_of_ble_eq_true rfl) (sp_X9_ink0 (c := x) hm (by omega) (hok x (by omega))) rfl ?_
      refine q_goto (pc := 21) 30 rfl (by decide) ?_
      exact q_st (by rw [endV, mx_lt h12]) key12
set_option maxRecDepth 100000 in
theorem lp_X9_height1 {n0 : Nat} {X : Nat × (Nat → Int32)} {P : Option Value → PSt → Prop} {d : Nat} (hd9 : 3 ≤ d) {sh : List PSh} {S : PSt} (hm : isMo sh) {x y N : Nat} (hN2 : N ≤ 32) (hok : okG (mG S) N) (hyN : y < N) (hxy2 : x + 2 ≤ y)  (hex : ∀ i f8 f9 f10, pV mX9_height d n0 X sh P 139 [some (.ref 70), some (.int (nI x)), some (.int (nI y)), some (.int 1), some (.int (endV (mG S) false x y)), some (.int (slhV (mG S) false x y (y - x - 1))), some (.int (nI (y - x - 1))), some (.int i), f8, f9, f10] [] S) : ∀ (m k : Nat) (f8 f9 f10 : Option Value), k + m = (y - x - 1) → pV mX9_height d n0 X sh P 45 [some (.ref 70), some (.int (nI x)), some (.int (nI y)), some (.int 1), some (.int (endV (mG S) false x y)), some (.int (slhV (mG S) false x y k)), some (.int (nI (y - x - 1))), some (.int (nI (k + 1))), f8, f9, f10] [] S := by
  intro m
  induction m with
  | zero =>
    intro k f8 f9 f10 hk
    have hk9 : (y - x - 1) = k := by omega
    subst hk9
    refine q_iload (pc := 45) (j := 7) rfl rfl ?_
    refine q_iload (pc := 47) (j := 6) rfl rfl ?_
    refine q_icmp_gt (pc := 49) 139 rfl (by decide) (fun _ => ?_) (fun h9 => absurd (nI_lt (by omega) (by omega)) h9)
    exact hex _ _ _ _
  | succ m ih =>
    intro k f8 f9 f10 hk
    have hk1 : k < (y - x - 1) := by omega
    have hk2 : k < (y - x - 1) := hk1
    refine q_iload (pc := 45) (j := 7) rfl rfl ?_
    refine q_iload (pc := 47) (j := 6) rfl rfl ?_
    refine q_icmp_gt (pc := 49) 139 rfl (by decide) (fun h9 => absurd h9 (nI_nlt (by omega) (by omega))) (fun _ => ?_)
    refine q_iload (pc := 52) (j := 7) rfl rfl ?_
    refine q_iload (pc := 54) (j := 6) rfl rfl ?_
    refine q_iconst (pc := 56) 1 rfl (by decide) ?_
    refine q_iadd (pc := 57) rfl ?_
    refine q_iload (pc := 58) (j := 7) rfl rfl ?_
    refine q_isub (pc := 60) rfl ?_
    refine q_join 76 [some (.ref 70), some (.int (nI x)), some (.int (nI y)), some (.int 1), some (.int (endV (mG S) false x y)), some (.int (slhV (mG S) false x y k)), some (.int (nI (y - x - 1))), some (.int (nI (k + 1))), f8, f9, f10] [.int (mnI (nI (k + 1)) (nI (y - x - 1) + 1 - nI (k + 1)))] S ?_ (fun key61 => ?_)
    · refine q_istore (pc := 76) (j := 8) [some (.ref 70), some (.int (nI x)), some (.int (nI y)), some (.int 1), some (.int (endV (mG S) false x y)), some (.int (slhV (mG S) false x y k)), some (.int (nI (y - x - 1))), some (.int (nI (k + 1))), some (.int (mnI (nI (k + 1)) (nI (y - x - 1) + 1 - nI (k + 1)))), f9, f10] rfl (by decide) rfl ?_
      refine q_iconst (pc := 78) 2 rfl (by decide) ?_
      refine q_iload (pc := 79) (j := 8) rfl rfl ?_
      refine q_imul (pc := 81) rfl ?_
      refine q_bipush (pc := 82) 6 rfl (by decide) ?_
      refine q_join 96 [some (.ref 70), some (.int (nI x)), some (.int (nI y)), some (.int 1), some (.int (endV (mG S) false x y)), some (.int (slhV (mG S) false x y k)), some (.int (nI (y - x - 1))), some (.int (nI (k + 1))), some (.int (mnI (nI (k + 1)) (nI (y - x - 1) + 1 - nI (k + 1)))), f9, f10] [.int (bowV (y - x - 1) (k + 1))] S ?_ (fun key84 => ?_)
      · refine q_istore (pc := 96) (j := 9) [some (.ref 70), some (.int (nI x)), some (.int (nI y)), some (.int 1), some (.int (endV (mG S) false x y)), some (.int (slhV (mG S) false x y k)), some (.int (nI (y - x - 1))), some (.int (nI (k + 1))), some (.int (mnI (nI (k + 1)) (nI (y - x - 1) + 1 - nI (k + 1)))), some (.int (bowV (y - x - 1) (k + 1))), f10] rfl (by decide) rfl ?_
        refine q_aload_n (pc := 98) (j := 0) rfl rfl ?_
        refine q_iload_n (pc := 99) (j := 1) rfl rfl ?_
        refine q_iload (pc := 100) (j := 7) rfl rfl ?_
        refine q_iadd (pc := 102) rfl ?_
        refine q_st (st2 := [.int (nI (x + (k + 1))), .ref 70]) (by rw [nI_add x (k + 1)]) ?_
        refine q_iload_n (pc := 103) (j := 3) rfl rfl ?_
        refine q_callV (pc := 104) (as := [.int (nI (x + (k + 1))), .int 1]) (rest := []) (b := 70) (st2 := [.int (inkV (mG S) false (x + (k + 1)))]) rfl ce_X9_ink ml_X9_249 im_X9_ink se_X9_ink hm.1 rfl rfl rfl (by omega) (Nat.le_of_ble_eq_true rfl) (sp_X9_ink1 (c := (x + (k + 1))) hm (by omega) (hok (x + (k + 1)) (by omega))) rfl ?_
        refine q_iconst (pc := 107) 1 rfl (by decide) ?_
        refine q_iadd (pc := 108) rfl ?_
        refine q_iload (pc := 109) (j := 4) rfl rfl ?_
        refine q_isub (pc := 111) rfl ?_
        refine q_iload (pc := 112) (j := 9) rfl rfl ?_
        refine q_isub (pc := 114) rfl ?_
        refine q_istore (pc := 115) (j := 10) [some (.ref 70), some (.int (nI x)), some (.int (nI y)), some (.int 1), some (.int (endV (mG S) false x y)), some (.int (slhV (mG S) false x y k)), some (.int (nI (y - x - 1))), some (.int (nI (k + 1))), some (.int (mnI (nI (k + 1)) (nI (y - x - 1) + 1 - nI (k + 1)))), some (.int (bowV (y - x - 1) (k + 1))), some (.int ((((inkV (mG S) false (x + (k + 1))) + 1) - (endV (mG S) false x y)) - (bowV (y - x - 1) (k + 1))))] rfl (by decide) rfl ?_
        refine q_iload (pc := 117) (j := 10) rfl rfl ?_
        refine q_iload (pc := 119) (j := 5) rfl rfl ?_
        refine q_join 131 [some (.ref 70), some (.int (nI x)), some (.int (nI y)), some (.int 1), some (.int (endV (mG S) false x y)), some (.int (slhV (mG S) false x y k)), some (.int (nI (y - x - 1))), some (.int (nI (k + 1))), some (.int (mnI (nI (k + 1)) (nI (y - x - 1) + 1 - nI (k + 1)))), some (.int (bowV (y - x - 1) (k + 1))), some (.int ((((inkV (mG S) false (x + (k + 1))) + 1) - (endV (mG S) false x y)) - (bowV (y - x - 1) (k + 1))))] [.int (slhV (mG S) false x y (k + 1))] S ?_ (fun key121 => ?_)
        · refine q_istore (pc := 131) (j := 5) [some (.ref 70), some (.int (nI x)), some (.int (nI y)), some (.int 1), some (.int (endV (mG S) false x y)), some (.int (slhV (mG S) false x y (k + 1))), some (.int (nI (y - x - 1))), some (.int (nI (k + 1))), some (.int (mnI (nI (k + 1)) (nI (y - x - 1) + 1 - nI (k + 1)))), some (.int (bowV (y - x - 1) (k + 1))), some (.int ((((inkV (mG S) false (x + (k + 1))) + 1) - (endV (mG S) false x y)) - (bowV (y - x - 1) (k + 1))))] rfl (by decide) rfl ?_
          refine q_iinc (pc := 133) (j := 7) (n := 1) (nI (k + 1 + 1)) [some (.ref 70), some (.int (nI x)), some (.int (nI y)), some (.int 1), some (.int (endV (mG S) false x y)), some (.int (slhV (mG S) false x y (k + 1))), some (.int (nI (y - x - 1))), some (.int (nI (k + 1 + 1))), some (.int (mnI (nI (k + 1)) (nI (y - x - 1) + 1 - nI (k + 1)))), some (.int (bowV (y - x - 1) (k + 1))), some (.int ((((inkV (mG S) false (x + (k + 1))) + 1) - (endV (mG S) false x y)) - (bowV (y - x - 1) (k + 1))))] rfl (by decide) rfl (nI_1 (k + 1)) rfl ?_
          refine q_goto (pc := 136) 45 rfl (by decide) ?_
          exact ih (k + 1) _ _ _ (by omega)
        · refine q_icmp_le (pc := 121) 129 rfl (by decide) (fun h121 => ?_) (fun h121 => ?_)
          · refine q_iload (pc := 129) (j := 5) rfl rfl ?_
            exact q_st (by rw [slhV, mx_no h121]) key121
          · refine q_iload (pc := 124) (j := 10) rfl rfl ?_
            refine q_goto (pc := 126) 131 rfl (by decide) ?_
            exact q_st (by rw [slhV, mx_yes h121]) key121
      · refine q_icmp_le (pc := 84) 92 rfl (by decide) (fun h84 => ?_) (fun h84 => ?_)
        · refine q_iconst (pc := 92) 2 rfl (by decide) ?_
          refine q_iload (pc := 93) (j := 8) rfl rfl ?_
          refine q_imul (pc := 95) rfl ?_
          exact q_st (by rw [bowV, mn_7 h84]) key84
        · refine q_bipush (pc := 87) 6 rfl (by decide) ?_
          refine q_goto (pc := 89) 96 rfl (by decide) ?_
          exact q_st (by rw [bowV, mn_6 h84]) key84
    · refine q_icmp_ge (pc := 61) 69 rfl (by decide) (fun h61 => ?_) (fun h61 => ?_)
      · refine q_iload (pc := 69) (j := 6) rfl rfl ?_
        refine q_iconst (pc := 71) 1 rfl (by decide) ?_
        refine q_iadd (pc := 72) rfl ?_
        refine q_iload (pc := 73) (j := 7) rfl rfl ?_
        refine q_isub (pc := 75) rfl ?_
        exact q_st (by rw [mn_ge h61]) key61
      · refine q_iload (pc := 64) (j := 7) rfl rfl ?_
        refine q_goto (pc := 66) 76 rfl (by decide) ?_
        exact q_st (by rw [mn_lt h61]) key61
set_option maxRecDepth 100000 in
theorem sp_X9_height1 {sh : List PSh} {S : PSt} (hm : isMo sh) {x y N : Nat} (hN2 : N ≤ 32) (hok : okG (mG S) N) (hyN : y < N) (hxy2 : x + 2 ≤ y)  : pF mX9_height 3 [.ref 70, .int (nI x), .int (nI y), .int 1] sh S S (some (.int (hM (sluV (mG S) false x y)))) := by
  refine pF.of (pG.of [some (.ref 70), some (.int (nI x)), some (.int (nI y)), some (.int 1), none, none, none, none, none, none, none] (by decide) tk_X9_height (Nat.le_of_ble_eq_true rfl) rfl (fun X => ?_))
  refine q_aload_n (pc := 0) (j := 0) rfl rfl ?_
  refine q_iload_n (pc := 1) (j := 1) rfl rfl ?_
  refine q_iload_n (pc := 2) (j := 3) rfl rfl ?_
  refine q_callV (pc := 3) (as := [.int (nI x), .int 1]) (rest := []) (b := 70) (st2 := [.int (inkV (mG S) false x)]) rfl ce_X9_ink ml_X9_249 im_X9_ink se_X9_ink hm.1 rfl rfl rfl (by decide) (Nat.le_of_ble_eq_true rfl) (sp_X9_ink1 (c := x) hm (by omega) (hok x (by omega))) rfl ?_
  refine q_aload_n (pc := 6) (j := 0) rfl rfl ?_
  refine q_iload_n (pc := 7) (j := 2) rfl rfl ?_
  refine q_iload_n (pc := 8) (j := 3) rfl rfl ?_
  refine q_callV (pc := 9) (as := [.int (nI y), .int 1]) (rest := [.int (inkV (mG S) false x)]) (b := 70) (st2 := [.int (inkV (mG S) false y), .int (inkV (mG S) false x)]) rfl ce_X9_ink ml_X9_249 im_X9_ink se_X9_ink hm.1 rfl rfl rfl (by decide) (Nat.le_of_ble_eq_true rfl) (sp_X9_ink1 (c := y) hm (by omega) (hok y (by omega))) rfl ?_
  refine q_join 30 [some (.ref 70), some (.int (nI x)), some (.int (nI y)), some (.int 1), none, none, none, none, none, none, none] [.int (endV (mG S) false x y)] S ?_ (fun key12 => ?_)
  · refine q_istore (pc := 30) (j := 4) [some (.ref 70), some (.int (nI x)), some (.int (nI y)), some (.int 1), some (.int (endV (mG S) false x y)), none, none, none, none, none, none] rfl (by decide) rfl ?_
    refine q_iconst (pc := 32) 0 rfl (by decide) ?_
    refine q_istore (pc := 33) (j := 5) [some (.ref 70), some (.int (nI x)), some (.int (nI y)), some (.int 1), some (.int (endV (mG S) false x y)), some (.int 0), none, none, none, none, none] rfl (by decide) rfl ?_
    refine q_iload_n (pc := 35) (j := 2) rfl rfl ?_
    refine q_iload_n (pc := 36) (j := 1) rfl rfl ?_
    refine q_isub (pc := 37) rfl ?_
    refine q_st (st2 := [.int (nI (y - x))]) (by rw [pk_sub (by omega)]) ?_
    refine q_iconst (pc := 38) 1 rfl (by decide) ?_
    refine q_isub (pc := 39) rfl ?_
    refine q_st (st2 := [.int (nI (y - x - 1))]) (by rw [(show nI (y - x) - 1 = nI (y - x - 1) from pk_sub (b := 1) (by omega))]) ?_
    refine q_istore (pc := 40) (j := 6) [some (.ref 70), some (.int (nI x)), some (.int (nI y)), some (.int 1), some (.int (endV (mG S) false x y)), some (.int 0), some (.int (nI (y - x - 1))), none, none, none, none] rfl (by decide) rfl ?_
    refine q_iconst (pc := 42) 1 rfl (by decide) ?_
    refine q_istore (pc := 43) (j := 7) [some (.ref 70), some (.int (nI x)), some (.int (nI y)), some (.int 1), some (.int (endV (mG S) false x y)), some (.int 0), some (.int (nI (y - x - 1))), some (.int 1), none, none, none] rfl (by decide) rfl ?_
    refine lp_X9_height1 (by decide) hm hN2 hok hyN hxy2 (fun i f8 f9 f10 => ?_) (y - x - 1) 0 _ _ _ (Nat.zero_add _)
    refine q_iload (pc := 139) (j := 5) rfl rfl ?_
    refine q_bipush (pc := 141) 40 rfl (by decide) ?_
    refine q_icmp_le (pc := 143) 150 rfl (by decide) (fun h143 => ?_) (fun h143 => ?_)
    · refine q_iload (pc := 150) (j := 5) rfl rfl ?_
      exact q_iret (pc := 152) rfl rfl ⟨congrArg (fun v => some (Value.int v)) (by rw [hM, sluV]; first | rw [if_pos h143] | rw [if_neg h143]), rfl⟩
    · refine q_iconst (pc := 146) (-1) rfl (by decide) ?_
      refine q_goto (pc := 147) 152 rfl (by decide) ?_
      exact q_iret (pc := 152) rfl rfl ⟨congrArg (fun v => some (Value.int v)) (by rw [hM, sluV]; first | rw [if_pos h143] | rw [if_neg h143]), rfl⟩
  · refine q_icmp_le (pc := 12) 24 rfl (by decide) (fun h12 => ?_) (fun h12 => ?_)
    · refine q_aload_n (pc := 24) (j := 0) rfl rfl ?_
      refine q_iload_n (pc := 25) (j := 2) rfl rfl ?_
      refine q_iload_n (pc := 26) (j := 3) rfl rfl ?_
      refine q_callV (pc := 27) (as := [.int (nI y), .int 1]) (rest := []) (b := 70) (st2 := [.int (inkV (mG S) false y)]) rfl ce_X9_ink ml_X9_249 im_X9_ink se_X9_ink hm.1 rfl rfl rfl (by decide) (Nat.le_of_ble_eq_true rfl) (sp_X9_ink1 (c := y) hm (by omega) (hok y (by omega))) rfl ?_
      exact q_st (by rw [endV, mx_ge h12]) key12
    · refine q_aload_n (pc := 15) (j := 0) rfl rfl ?_
      refine q_iload_n (pc := 16) (j := 1) rfl rfl ?_
      refine q_iload_n (pc := 17) (j := 3) rfl rfl ?_
      refine q_callV (pc := 18) (as := [.int (nI x), .int 1]) (rest := []) (b := 70) (st2 := [.int (inkV (mG S) false x)]) rfl ce_X9_ink ml_X9_249 im_X9_ink se_X9_ink hm.1 rfl rfl rfl (by decide) (Nat.le_of_ble_eq_true rfl) (sp_X9_ink1 (c := x) hm (by omega) (hok x (by omega))) rfl ?_
      refine q_goto (pc := 21) 30 rfl (by decide) ?_
      exact q_st (by rw [endV, mx_lt h12]) key12
set_option maxRecDepth 100000 in
theorem sp_X9_slur {sh : List PSh} {S : PSt} {N : Nat} (hm : isMo sh) (hi : mIv S N) {a b what : Int32}  : pG mX9_slur 4 [.ref 70, .int a, .int b, .int what] sh S (mA (oSlur (mG S) N a b what) S S) := by
  obtain ⟨hN, hN2, hok, hw⟩ := id hi
  refine pG.of [some (.ref 70), some (.int a), some (.int b), some (.int what), none, none, none, none] (by decide) tk_X9_slur (Nat.le_of_ble_eq_true rfl) rfl (fun X => ?_)
  refine q_aload_n (pc := 0) (j := 0) rfl rfl ?_
  refine q_iload_n (pc := 1) (j := 1) rfl rfl ?_
  refine q_iload_n (pc := 2) (j := 2) rfl rfl ?_
  refine q_callV (pc := 3) (as := [.int a, .int b]) (rest := []) (b := 70) (st2 := [.int (pB (isStB N a b))]) rfl ce_X9_isStretch ml_X9_176 im_X9_isStretch se_X9_isStretch hm.1 rfl rfl rfl (by decide) (Nat.le_of_ble_eq_true rfl) (sp_X9_isStretch hm hN hN2) rfl ?_
  refine q_if_eq (pc := 6) 21 rfl (by decide) (fun h6 => ?_) (fun h6 => ?_)
  · refine q_aload_n (pc := 21) (j := 0) rfl rfl ?_
    refine q_ldc (pc := 22) (v := (-2147483001)) rfl kc_X9_109 ?_
    refine q_callV (pc := 24) (as := [.int (-2147483001)]) (rest := []) (b := 70) (st2 := [.int (-2147483000 - nI 1)]) rfl ce_X9_errs ml_X9_110 im_X9_errs se_X9_errs hm.1 rfl rfl rfl (by decide) (Nat.le_of_ble_eq_true rfl) (sp_X9_errs (e := 1) hm (by decide) (by decide)) rfl ?_
    exact q_iret (pc := 27) rfl rfl (mA_no (k := 0) (by rw [oSlur, if_neg (show ¬ _ = true from by rw [pB_f h6]; decide)]) fm_rf)
  · refine q_iload_n (pc := 9) (j := 3) rfl rfl ?_
    refine q_i2l (pc := 10) rfl ?_
    refine q_lconst (pc := 11) 0 rfl (by decide) ?_
    refine q_ldc2 (pc := 12) (v := 3) rfl kc_X9_212 ?_
    refine q_callS (pc := 15) (as := [.long (what.toInt64), .long 0, .long 3]) (rest := []) (st2 := [.int (pB (pWi what 0 3))]) rfl ce_X9_in ml_X9_85 st_X9_in rfl (by decide) (Nat.le_of_ble_eq_true rfl) (sp_X9_inW (v := what) (l := 0) (m := 3) (Int32.toInt_toInt64 _) (by decide) (by decide)) rfl ?_
    refine q_if_ne (pc := 18) 28 rfl (by decide) (fun h18 => ?_) (fun h18 => ?_)
    · obtain ⟨x, y, rfl, rfl, hxy, hyN⟩ := isSt_of hN2 (pB_t h6); obtain ⟨u, hu, rfl⟩ := pWi_of (m := 3) (by decide) (by decide) (pB_t h18)
      refine q_iload_n (pc := 28) (j := 2) rfl rfl ?_
      refine q_iload_n (pc := 29) (j := 1) rfl rfl ?_
      refine q_isub (pc := 30) rfl ?_
      refine q_st (st2 := [.int (nI (y - x))]) (by rw [(pk_sub hxy)]) ?_
      refine q_iconst (pc := 31) 2 rfl (by decide) ?_
      refine q_icmp_ge (pc := 32) 42 rfl (by decide) (fun h32 => ?_) (fun h32 => ?_)
      · have hxy2 : x + 2 ≤ y := (by have h9 := (nI_leI (a := 2) (b := y - x) (by decide) (by omega)).mp h32; omega)
        refine q_aload_n (pc := 42) (j := 0) rfl rfl ?_
        refine q_iload_n (pc := 43) (j := 1) rfl rfl ?_
        refine q_iload_n (pc := 44) (j := 2) rfl rfl ?_
        refine q_iconst (pc := 45) 0 rfl (by decide) ?_
        refine q_callV (pc := 46) (as := [.int (nI x), .int (nI y), .int 0]) (rest := []) (b := 70) (st2 := [.int (hM (sluV (mG S) true x y))]) rfl ce_X9_height ml_X9_252 im_X9_height se_X9_height hm.1 rfl rfl rfl (by decide) (Nat.le_of_ble_eq_true rfl) (sp_X9_height0 (x := x) (y := y) hm hN2 hok hyN (by omega)) rfl ?_
        refine q_istore (pc := 49) (j := 4) [some (.ref 70), some (.int (nI x)), some (.int (nI y)), some (.int (nI u)), some (.int (hM (sluV (mG S) true x y))), none, none, none] rfl (by decide) rfl ?_
        refine q_aload_n (pc := 51) (j := 0) rfl rfl ?_
        refine q_iload_n (pc := 52) (j := 1) rfl rfl ?_
        refine q_iload_n (pc := 53) (j := 2) rfl rfl ?_
        refine q_iconst (pc := 54) 1 rfl (by decide) ?_
        refine q_callV (pc := 55) (as := [.int (nI x), .int (nI y), .int 1]) (rest := []) (b := 70) (st2 := [.int (hM (sluV (mG S) false x y))]) rfl ce_X9_height ml_X9_252 im_X9_height se_X9_height hm.1 rfl rfl rfl (by decide) (Nat.le_of_ble_eq_true rfl) (sp_X9_height1 (x := x) (y := y) hm hN2 hok hyN (by omega)) rfl ?_
        refine q_istore (pc := 58) (j := 5) [some (.ref 70), some (.int (nI x)), some (.int (nI y)), some (.int (nI u)), some (.int (hM (sluV (mG S) true x y))), some (.int (hM (sluV (mG S) false x y))), none, none] rfl (by decide) rfl ?_
        refine q_iload (pc := 60) (j := 4) rfl rfl ?_
        refine q_join 82 [some (.ref 70), some (.int (nI x)), some (.int (nI y)), some (.int (nI u)), some (.int (hM (sluV (mG S) true x y))), some (.int (hM (sluV (mG S) false x y))), none, none] [.int (sdM (sluV (mG S) true x y) (sluV (mG S) false x y))] S ?_ (fun key62 => ?_)
        · refine q_istore (pc := 82) (j := 6) [some (.ref 70), some (.int (nI x)), some (.int (nI y)), some (.int (nI u)), some (.int (hM (sluV (mG S) true x y))), some (.int (hM (sluV (mG S) false x y))), some (.int (sdM (sluV (mG S) true x y) (sluV (mG S) false x y))), none] rfl (by decide) rfl ?_
          refine q_iload_n (pc := 84) (j := 3) rfl rfl ?_
          refine q_iconst (pc := 85) 2 rfl (by decide) ?_
          refine q_icmp_ne (pc := 86) 94 rfl (by decide) (fun h86 => ?_) (fun h86 => ?_)
          · refine q_iload_n (pc := 94) (j := 3) rfl rfl ?_
            refine q_iconst (pc := 95) 3 rfl (by decide) ?_
            refine q_icmp_ne (pc := 96) 104 rfl (by decide) (fun h96 => ?_) (fun h96 => ?_)
            · refine q_iload (pc := 104) (j := 6) rfl rfl ?_
              refine q_if_ne (pc := 106) 114 rfl (by decide) (fun h106 => ?_) (fun h106 => ?_)
              · refine q_iload (pc := 114) (j := 5) rfl rfl ?_
                refine q_istore (pc := 116) (j := 7) [some (.ref 70), some (.int (nI x)), some (.int (nI y)), some (.int (nI u)), some (.int (hM (sluV (mG S) true x y))), some (.int (hM (sluV (mG S) false x y))), some (.int (sdM (sluV (mG S) true x y) (sluV (mG S) false x y))), some (.int (hM (sluV (mG S) false x y)))] rfl (by decide) rfl ?_
                refine q_iload (pc := 118) (j := 7) rfl rfl ?_
                refine q_if_ge (pc := 120) 130 rfl (by decide) (fun h120 => ?_) (fun h120 => ?_)
                · refine q_iload_n (pc := 130) (j := 3) rfl rfl ?_
                  refine q_if_ne (pc := 131) 139 rfl (by decide) (fun h131 => ?_) (fun h131 => ?_)
                  · refine q_iload (pc := 139) (j := 7) rfl rfl ?_
                    exact q_iret (pc := 141) rfl rfl (mA_ok (by rw [oSlur, if_pos (pB_t h6), if_pos (pB_t h18), tN_nI (show x < 2 ^ 31 by omega), tN_nI (show y < 2 ^ 31 by omega), if_neg (by omega), ← sluM_eq slu_0 slu_0 (w_4 hu), sluM, if_neg h86, if_neg h96, if_neg h106, if_neg (Int32.not_lt.mpr h120), if_neg h131]) fm_rf)
                  · refine q_iload (pc := 134) (j := 6) rfl rfl ?_
                    refine q_goto (pc := 136) 141 rfl (by decide) ?_
                    exact q_iret (pc := 141) rfl rfl (mA_ok (by rw [oSlur, if_pos (pB_t h6), if_pos (pB_t h18), tN_nI (show x < 2 ^ 31 by omega), tN_nI (show y < 2 ^ 31 by omega), if_neg (by omega), ← sluM_eq slu_0 slu_0 (w_4 hu), sluM, if_neg h86, if_neg h96, if_neg h106, if_neg (Int32.not_lt.mpr h120), if_pos (show nI u = 0 from h131)]) fm_rf)
                · refine q_aload_n (pc := 123) (j := 0) rfl rfl ?_
                  refine q_ldc (pc := 124) (v := (-2147483002)) rfl kc_X9_119 ?_
                  refine q_callV (pc := 126) (as := [.int (-2147483002)]) (rest := []) (b := 70) (st2 := [.int (-2147483000 - nI 2)]) rfl ce_X9_errs ml_X9_110 im_X9_errs se_X9_errs hm.1 rfl rfl rfl (by decide) (Nat.le_of_ble_eq_true rfl) (sp_X9_errs (e := 2) hm (by decide) (by decide)) rfl ?_
                  exact q_iret (pc := 129) rfl rfl (mA_no (k := 1) (by rw [oSlur, if_pos (pB_t h6), if_pos (pB_t h18), tN_nI (show x < 2 ^ 31 by omega), tN_nI (show y < 2 ^ 31 by omega), if_neg (by omega), ← sluM_eq slu_0 slu_0 (w_4 hu), sluM, if_neg h86, if_neg h96, if_neg h106, if_pos (Int32.not_le.mp h120)]) fm_rf)
              · refine q_iload (pc := 109) (j := 4) rfl rfl ?_
                refine q_goto (pc := 111) 116 rfl (by decide) ?_
                refine q_istore (pc := 116) (j := 7) [some (.ref 70), some (.int (nI x)), some (.int (nI y)), some (.int (nI u)), some (.int (hM (sluV (mG S) true x y))), some (.int (hM (sluV (mG S) false x y))), some (.int (sdM (sluV (mG S) true x y) (sluV (mG S) false x y))), some (.int (hM (sluV (mG S) true x y)))] rfl (by decide) rfl ?_
                refine q_iload (pc := 118) (j := 7) rfl rfl ?_
                refine q_if_ge (pc := 120) 130 rfl (by decide) (fun h120 => ?_) (fun h120 => ?_)
                · refine q_iload_n (pc := 130) (j := 3) rfl rfl ?_
                  refine q_if_ne (pc := 131) 139 rfl (by decide) (fun h131 => ?_) (fun h131 => ?_)
                  · refine q_iload (pc := 139) (j := 7) rfl rfl ?_
                    exact q_iret (pc := 141) rfl rfl (mA_ok (by rw [oSlur, if_pos (pB_t h6), if_pos (pB_t h18), tN_nI (show x < 2 ^ 31 by omega), tN_nI (show y < 2 ^ 31 by omega), if_neg (by omega), ← sluM_eq slu_0 slu_0 (w_4 hu), sluM, if_neg h86, if_neg h96, if_pos (show (sdM (sluV (mG S) true x y) (sluV (mG S) false x y)) = 0 from h106), if_neg (Int32.not_lt.mpr h120), if_neg h131]) fm_rf)
                  · refine q_iload (pc := 134) (j := 6) rfl rfl ?_
                    refine q_goto (pc := 136) 141 rfl (by decide) ?_
                    exact q_iret (pc := 141) rfl rfl (mA_ok (by rw [oSlur, if_pos (pB_t h6), if_pos (pB_t h18), tN_nI (show x < 2 ^ 31 by omega), tN_nI (show y < 2 ^ 31 by omega), if_neg (by omega), ← sluM_eq slu_0 slu_0 (w_4 hu), sluM, if_neg h86, if_neg h96, if_pos (show (sdM (sluV (mG S) true x y) (sluV (mG S) false x y)) = 0 from h106), if_neg (Int32.not_lt.mpr h120), if_pos (show nI u = 0 from h131)]) fm_rf)
                · refine q_aload_n (pc := 123) (j := 0) rfl rfl ?_
                  refine q_ldc (pc := 124) (v := (-2147483002)) rfl kc_X9_119 ?_
                  refine q_callV (pc := 126) (as := [.int (-2147483002)]) (rest := []) (b := 70) (st2 := [.int (-2147483000 - nI 2)]) rfl ce_X9_errs ml_X9_110 im_X9_errs se_X9_errs hm.1 rfl rfl rfl (by decide) (Nat.le_of_ble_eq_true rfl) (sp_X9_errs (e := 2) hm (by decide) (by decide)) rfl ?_
                  exact q_iret (pc := 129) rfl rfl (mA_no (k := 1) (by rw [oSlur, if_pos (pB_t h6), if_pos (pB_t h18), tN_nI (show x < 2 ^ 31 by omega), tN_nI (show y < 2 ^ 31 by omega), if_neg (by omega), ← sluM_eq slu_0 slu_0 (w_4 hu), sluM, if_neg h86, if_neg h96, if_pos (show (sdM (sluV (mG S) true x y) (sluV (mG S) false x y)) = 0 from h106), if_pos (Int32.not_le.mp h120)]) fm_rf)
            · refine q_iload (pc := 99) (j := 5) rfl rfl ?_
              refine q_goto (pc := 101) 116 rfl (by decide) ?_
              refine q_istore (pc := 116) (j := 7) [some (.ref 70), some (.int (nI x)), some (.int (nI y)), some (.int (nI u)), some (.int (hM (sluV (mG S) true x y))), some (.int (hM (sluV (mG S) false x y))), some (.int (sdM (sluV (mG S) true x y) (sluV (mG S) false x y))), some (.int (hM (sluV (mG S) false x y)))] rfl (by decide) rfl ?_
              refine q_iload (pc := 118) (j := 7) rfl rfl ?_
              refine q_if_ge (pc := 120) 130 rfl (by decide) (fun h120 => ?_) (fun h120 => ?_)
              · refine q_iload_n (pc := 130) (j := 3) rfl rfl ?_
                refine q_if_ne (pc := 131) 139 rfl (by decide) (fun h131 => ?_) (fun h131 => ?_)
                · refine q_iload (pc := 139) (j := 7) rfl rfl ?_
                  exact q_iret (pc := 141) rfl rfl (mA_ok (by rw [oSlur, if_pos (pB_t h6), if_pos (pB_t h18), tN_nI (show x < 2 ^ 31 by omega), tN_nI (show y < 2 ^ 31 by omega), if_neg (by omega), ← sluM_eq slu_0 slu_0 (w_4 hu), sluM, if_neg h86, if_pos (show nI u = 3 from h96), if_neg (Int32.not_lt.mpr h120), if_neg h131]) fm_rf)
                · refine q_iload (pc := 134) (j := 6) rfl rfl ?_
                  refine q_goto (pc := 136) 141 rfl (by decide) ?_
                  exact q_iret (pc := 141) rfl rfl (mA_ok (by rw [oSlur, if_pos (pB_t h6), if_pos (pB_t h18), tN_nI (show x < 2 ^ 31 by omega), tN_nI (show y < 2 ^ 31 by omega), if_neg (by omega), ← sluM_eq slu_0 slu_0 (w_4 hu), sluM, if_neg h86, if_pos (show nI u = 3 from h96), if_neg (Int32.not_lt.mpr h120), if_pos (show nI u = 0 from h131)]) fm_rf)
              · refine q_aload_n (pc := 123) (j := 0) rfl rfl ?_
                refine q_ldc (pc := 124) (v := (-2147483002)) rfl kc_X9_119 ?_
                refine q_callV (pc := 126) (as := [.int (-2147483002)]) (rest := []) (b := 70) (st2 := [.int (-2147483000 - nI 2)]) rfl ce_X9_errs ml_X9_110 im_X9_errs se_X9_errs hm.1 rfl rfl rfl (by decide) (Nat.le_of_ble_eq_true rfl) (sp_X9_errs (e := 2) hm (by decide) (by decide)) rfl ?_
                exact q_iret (pc := 129) rfl rfl (mA_no (k := 1) (by rw [oSlur, if_pos (pB_t h6), if_pos (pB_t h18), tN_nI (show x < 2 ^ 31 by omega), tN_nI (show y < 2 ^ 31 by omega), if_neg (by omega), ← sluM_eq slu_0 slu_0 (w_4 hu), sluM, if_neg h86, if_pos (show nI u = 3 from h96), if_pos (Int32.not_le.mp h120)]) fm_rf)
          · refine q_iload (pc := 89) (j := 4) rfl rfl ?_
            refine q_goto (pc := 91) 116 rfl (by decide) ?_
            refine q_istore (pc := 116) (j := 7) [some (.ref 70), some (.int (nI x)), some (.int (nI y)), some (.int (nI u)), some (.int (hM (sluV (mG S) true x y))), some (.int (hM (sluV (mG S) false x y))), some (.int (sdM (sluV (mG S) true x y) (sluV (mG S) false x y))), some (.int (hM (sluV (mG S) true x y)))] rfl (by decide) rfl ?_
            refine q_iload (pc := 118) (j := 7) rfl rfl ?_
            refine q_if_ge (pc := 120) 130 rfl (by decide) (fun h120 => ?_) (fun h120 => ?_)
            · refine q_iload_n (pc := 130) (j := 3) rfl rfl ?_
              refine q_if_ne (pc := 131) 139 rfl (by decide) (fun h131 => ?_) (fun h131 => ?_)
              · refine q_iload (pc := 139) (j := 7) rfl rfl ?_
                exact q_iret (pc := 141) rfl rfl (mA_ok (by rw [oSlur, if_pos (pB_t h6), if_pos (pB_t h18), tN_nI (show x < 2 ^ 31 by omega), tN_nI (show y < 2 ^ 31 by omega), if_neg (by omega), ← sluM_eq slu_0 slu_0 (w_4 hu), sluM, if_pos (show nI u = 2 from h86), if_neg (Int32.not_lt.mpr h120), if_neg h131]) fm_rf)
              · refine q_iload (pc := 134) (j := 6) rfl rfl ?_
                refine q_goto (pc := 136) 141 rfl (by decide) ?_
                exact q_iret (pc := 141) rfl rfl (mA_ok (by rw [oSlur, if_pos (pB_t h6), if_pos (pB_t h18), tN_nI (show x < 2 ^ 31 by omega), tN_nI (show y < 2 ^ 31 by omega), if_neg (by omega), ← sluM_eq slu_0 slu_0 (w_4 hu), sluM, if_pos (show nI u = 2 from h86), if_neg (Int32.not_lt.mpr h120), if_pos (show nI u = 0 from h131)]) fm_rf)
            · refine q_aload_n (pc := 123) (j := 0) rfl rfl ?_
              refine q_ldc (pc := 124) (v := (-2147483002)) rfl kc_X9_119 ?_
              refine q_callV (pc := 126) (as := [.int (-2147483002)]) (rest := []) (b := 70) (st2 := [.int (-2147483000 - nI 2)]) rfl ce_X9_errs ml_X9_110 im_X9_errs se_X9_errs hm.1 rfl rfl rfl (by decide) (Nat.le_of_ble_eq_true rfl) (sp_X9_errs (e := 2) hm (by decide) (by decide)) rfl ?_
              exact q_iret (pc := 129) rfl rfl (mA_no (k := 1) (by rw [oSlur, if_pos (pB_t h6), if_pos (pB_t h18), tN_nI (show x < 2 ^ 31 by omega), tN_nI (show y < 2 ^ 31 by omega), if_neg (by omega), ← sluM_eq slu_0 slu_0 (w_4 hu), sluM, if_pos (show nI u = 2 from h86), if_pos (Int32.not_le.mp h120)]) fm_rf)
        · refine q_if_lt (pc := 62) 81 rfl (by decide) (fun h62 => ?_) (fun h62 => ?_)
          · refine q_iconst (pc := 81) 1 rfl (by decide) ?_
            exact q_st (by rw [sdM, if_pos (Or.inl h62)]) key62
          · refine q_iload (pc := 65) (j := 5) rfl rfl ?_
            refine q_if_lt (pc := 67) 77 rfl (by decide) (fun h67 => ?_) (fun h67 => ?_)
            · refine q_iconst (pc := 77) 0 rfl (by decide) ?_
              refine q_goto (pc := 78) 82 rfl (by decide) ?_
              exact q_st (by rw [sdM, if_neg (fun q9 => q9.elim (fun q8 => h62 q8) (fun q8 => q8.1 h67))]) key62
            · refine q_iload (pc := 70) (j := 4) rfl rfl ?_
              refine q_iload (pc := 72) (j := 5) rfl rfl ?_
              refine q_icmp_gt (pc := 74) 81 rfl (by decide) (fun h74 => ?_) (fun h74 => ?_)
              · refine q_iconst (pc := 81) 1 rfl (by decide) ?_
                exact q_st (by rw [sdM, if_pos (Or.inr ⟨h67, Int32.not_le.mpr h74⟩)]) key62
              · refine q_iconst (pc := 77) 0 rfl (by decide) ?_
                refine q_goto (pc := 78) 82 rfl (by decide) ?_
                exact q_st (by rw [sdM, if_neg (fun q9 => q9.elim (fun q8 => h62 q8) (fun q8 => q8.2 (Int32.not_lt.mp h74)))]) key62
      · refine q_aload_n (pc := 35) (j := 0) rfl rfl ?_
        refine q_ldc (pc := 36) (v := (-2147483003)) rfl kc_X9_241 ?_
        refine q_callV (pc := 38) (as := [.int (-2147483003)]) (rest := []) (b := 70) (st2 := [.int (-2147483000 - nI 3)]) rfl ce_X9_errs ml_X9_110 im_X9_errs se_X9_errs hm.1 rfl rfl rfl (by decide) (Nat.le_of_ble_eq_true rfl) (sp_X9_errs (e := 3) hm (by decide) (by decide)) rfl ?_
        exact q_iret (pc := 41) rfl rfl (mA_no (k := 2) (by rw [oSlur, if_pos (pB_t h6), if_pos (pB_t h18), tN_nI (show x < 2 ^ 31 by omega), tN_nI (show y < 2 ^ 31 by omega), if_pos (by have h9 := mt (nI_leI (a := 2) (b := y - x) (by decide) (by omega)).mpr h32; omega)]) fm_rf)
    · refine q_aload_n (pc := 21) (j := 0) rfl rfl ?_
      refine q_ldc (pc := 22) (v := (-2147483001)) rfl kc_X9_109 ?_
      refine q_callV (pc := 24) (as := [.int (-2147483001)]) (rest := []) (b := 70) (st2 := [.int (-2147483000 - nI 1)]) rfl ce_X9_errs ml_X9_110 im_X9_errs se_X9_errs hm.1 rfl rfl rfl (by decide) (Nat.le_of_ble_eq_true rfl) (sp_X9_errs (e := 1) hm (by decide) (by decide)) rfl ?_
      exact q_iret (pc := 27) rfl rfl (mA_no (k := 0) (by rw [oSlur, if_pos (pB_t h6), if_neg (show ¬ _ = true from by rw [pB_f h18]; decide)]) fm_rf)
def mTp (S : PSt) (z : Nat) : Prop := S.1 70 23 = nI z ∧ z ≤ 160
set_option maxRecDepth 100000 in
theorem sp_X9_feed {sh : List PSh} {S : PSt} (hm : isMo sh) {z : Nat} {b : Int32} (htp : mTp S z) : pG mX9_feed 1 [.ref 70, .int b] sh S (mA (oFeed z b) S (pSI (pSI S 87 z b) 70 23 (nI (z + 1)))) := by
  refine pG.of [some (.ref 70), some (.int b)] (by decide) tk_X9_feed (Nat.le_of_ble_eq_true rfl) rfl (fun X => ?_)
  refine q_iload_n (pc := 0) (j := 1) rfl rfl ?_
  refine q_i2l (pc := 1) rfl ?_
  refine q_lconst (pc := 2) 0 rfl (by decide) ?_
  refine q_ldc2 (pc := 3) (v := 255) rfl kc_X9_255 ?_
  refine q_callS (pc := 6) (as := [.long (b.toInt64), .long 0, .long 255]) (rest := []) (st2 := [.int (pB (pWi b 0 255))]) rfl ce_X9_in ml_X9_85 st_X9_in rfl (by decide) (Nat.le_of_ble_eq_true rfl) (sp_X9_inW (v := b) (l := 0) (m := 255) (Int32.toInt_toInt64 _) (by decide) (by decide)) rfl ?_
  refine q_if_ne (pc := 9) 19 rfl (by decide) (fun h9 => ?_) (fun h9 => ?_)
  · have hz2 := htp.2
    refine q_aload_n (pc := 19) (j := 0) rfl rfl ?_
    refine q_get (pc := 20) (a := 70) (v := .int (S.1 70 23)) rfl fl_X9_257 hm.1 rfl rfl ?_
    refine q_st (st2 := [.int (nI z)]) (by rw [(show (S.1 70 23) = nI z from htp.1)]) ?_
    refine q_sipush (pc := 23) 160 rfl (by decide) ?_
    refine q_icmp_ne (pc := 26) 36 rfl (by decide) (fun h26 => ?_) (fun h26 => ?_)
    · have hz3 : z < 160 := (by have h9 := mt (nI_eq (a := z) (b := 160) (by omega) (by decide)).mpr h26; omega)
      refine q_aload_n (pc := 36) (j := 0) rfl rfl ?_
      refine q_get (pc := 37) (a := 70) (v := .ref 87) rfl fl_X9_60 hm.1 rfl rfl ?_
      refine q_aload_n (pc := 40) (j := 0) rfl rfl ?_
      refine q_get (pc := 41) (a := 70) (v := .int (S.1 70 23)) rfl fl_X9_257 hm.1 rfl rfl ?_
      refine q_st (st2 := [.int (nI z), .ref 87]) (by rw [(show (S.1 70 23) = nI z from htp.1)]) ?_
      refine q_iload_n (pc := 44) (j := 1) rfl rfl ?_
      refine q_iast (pc := 45) (a := 87) z rfl hm.2.2.2.2.2.2.2.2.2.2.2.2.2.2.2.2.2.1 (vp_in_nI (by omega) (by decide)) (nI_clamp (by omega)) ?_
      refine q_aload_n (pc := 46) (j := 0) rfl rfl ?_
      refine q_dup (pc := 47) rfl rfl ?_
      refine q_get (pc := 48) (a := 70) (v := .int ((pSI S 87 z b).1 70 23)) rfl fl_X9_257 hm.1 rfl rfl ?_
      refine q_st (st2 := [.int (nI z), .ref 70]) (by rw [(show ((pSI S 87 z b).1 70 23) = nI z from (congrFun (pSI_ne (by decide)) 23).trans htp.1)]) ?_
      refine q_iconst (pc := 51) 1 rfl (by decide) ?_
      refine q_iadd (pc := 52) rfl ?_
      refine q_st (st2 := [.int (nI (z + 1)), .ref 70]) (by rw [nI_1 z]) ?_
      refine q_putI (pc := 53) (a := 70) rfl fl_X9_257 hm.1 rfl (fun _ h9 => by cases h9; rfl) rfl rfl ?_
      refine q_aload_n (pc := 56) (j := 0) rfl rfl ?_
      refine q_get (pc := 57) (a := 70) (v := .int ((pSI (pSI S 87 z b) 70 23 (nI (z + 1))).1 70 23)) rfl fl_X9_257 hm.1 rfl rfl ?_
      refine q_st (st2 := [.int (nI (z + 1))]) (by rw [(show ((pSI (pSI S 87 z b) 70 23 (nI (z + 1))).1 70 23) = nI (z + 1) from pSI_at)]) ?_
      exact q_iret (pc := 60) rfl rfl (mA_ok (by rw [oFeed, if_pos (pB_t h9), if_neg (by omega)]) fm_rf)
    · refine q_aload_n (pc := 29) (j := 0) rfl rfl ?_
      refine q_ldc (pc := 30) (v := (-2147483004)) rfl kc_X9_114 ?_
      refine q_callV (pc := 32) (as := [.int (-2147483004)]) (rest := []) (b := 70) (st2 := [.int (-2147483000 - nI 4)]) rfl ce_X9_errs ml_X9_110 im_X9_errs se_X9_errs hm.1 rfl rfl rfl (by decide) (Nat.le_of_ble_eq_true rfl) (sp_X9_errs (e := 4) hm (by decide) (by decide)) rfl ?_
      exact q_iret (pc := 35) rfl rfl (mA_no (k := 3) (by rw [oFeed, if_pos (pB_t h9), if_pos ((nI_eq (a := z) (b := 160) (by omega) (by decide)).mp h26)]) fm_rf)
  · refine q_aload_n (pc := 12) (j := 0) rfl rfl ?_
    refine q_ldc (pc := 13) (v := (-2147483001)) rfl kc_X9_109 ?_
    refine q_callV (pc := 15) (as := [.int (-2147483001)]) (rest := []) (b := 70) (st2 := [.int (-2147483000 - nI 1)]) rfl ce_X9_errs ml_X9_110 im_X9_errs se_X9_errs hm.1 rfl rfl rfl (by decide) (Nat.le_of_ble_eq_true rfl) (sp_X9_errs (e := 1) hm (by decide) (by decide)) rfl ?_
    exact q_iret (pc := 18) rfl rfl (mA_no (k := 0) (by rw [oFeed, if_neg (show ¬ _ = true from by rw [pB_f h9]; decide)]) fm_rf)
