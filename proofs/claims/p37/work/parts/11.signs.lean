/-! Signs: written by wip/whole/gen/c11.py -/
theorem q_join {M : PM} {d n0 : Nat} {X : Nat × (Nat → Int32)} {sh : List PSh} {P : Option Value → PSt → Prop} {pc : Nat} {L : PL} {st : List Value} {S : PSt} (pc2 : Nat) (L2 : PL) (st2 : List Value) (S2 : PSt) (k : pV M d n0 X sh P pc2 L2 st2 S2) (f : pV M d n0 X sh P pc2 L2 st2 S2 → pV M d n0 X sh P pc L st S) : pV M d n0 X sh P pc L st S := f k
/-- the Signs at the cell r -/
def isSg (sh : List PSh) (r : Nat) : Prop := sh[r]? = some (.inr (3, [r + 1 + 3])) ∧ sh[r + 1]? = some (.inl (0, 180))
theorem sg_ix {c w : Nat} : nI c * 5 + nI w = nI (5 * c + w) := by
  rw [show (5 : Int32) = nI 5 from rfl, pk_mul, nI_add, Nat.mul_comm]
/-- the parts of a sign, the first k of five, are those of another -/
def cpS (S : PSt) (a c b q k : Nat) : PSt := (fun x j => if x = a ∧ 5 * c ≤ j ∧ j < 5 * c + k then S.1 b (5 * q + (j - 5 * c)) else S.1 x j, S.2)
theorem cpS_0 (S : PSt) (a c b q : Nat) : cpS S a c b q 0 = S := by
  unfold cpS
  have : (fun x j => if x = a ∧ 5 * c ≤ j ∧ j < 5 * c + 0 then S.1 b (5 * q + (j - 5 * c)) else S.1 x j) = S.1 := by
    funext x j
    rw [if_neg (by omega)]
  rw [this]
theorem cpS_s {S : PSt} {a c b q k : Nat} (h : b ≠ a) : pSI (cpS S a c b q k) a (5 * c + k) ((cpS S a c b q k).1 b (5 * q + k)) = cpS S a c b q (k + 1) := by
  unfold pSI cpS pU
  congr 1
  funext x j
  by_cases hx : x = a
  · subst hx
    by_cases hj : j = 5 * c + k
    · subst hj
      have e : 5 * c + k - 5 * c = k := by omega
      simp [h, e]
    · by_cases hj2 : 5 * c ≤ j ∧ j < 5 * c + k
      · have : 5 * c ≤ j ∧ j < 5 * c + (k + 1) := by omega
        simp [hj, hj2, this]
      · have : ¬ (5 * c ≤ j ∧ j < 5 * c + (k + 1)) := by omega
        simp [hj, hj2, this]
  · simp [hx]
def ly5 (S : PSt) (a c : Nat) (x0 x1 x2 x3 x4 : Int32) : PSt := pSI (pSI (pSI (pSI (pSI S a (5 * c) x0) a (5 * c + 1) x1) a (5 * c + 2) x2) a (5 * c + 3) x3) a (5 * c + 4) x4
def topV (k s a : Int32) : Int32 := if k = 0 then (if s < 0 then s + 7 else s + 1) + a else if k = 1 then 3 + a else 4 + a
def botV (k s : Int32) : Int32 := if k = 0 then (if s < 0 then s - 1 else s - 7) else if k = 1 then -3 else -4
theorem lk_out2 {x : Int32} {dflt : Int} {o1 o2 : Int} (h0 : ¬ x = 0) (h1 : ¬ x = 1) : Op.lookupswitch.offset [(0, o1), (1, o2)] dflt x.toInt = dflt := by
  have a0 : x.toInt ≠ 0 := fun q => h0 (Int32.toInt_inj.mp (by rw [q]; rfl))
  have a1 : x.toInt ≠ 1 := fun q => h1 (Int32.toInt_inj.mp (by rw [q]; rfl))
  simp [Op.lookupswitch.offset, a0.symm, a1.symm, a0, a1]

set_option maxRecDepth 100000 in
theorem sp_X4_part {sh : List PSh} {S : PSt} {r : Nat} (hs : isSg sh r) {c w : Nat} (hc : c < 36) (hw : w < 5) : pF mX4_part 0 [.ref r, .int (nI c), .int (nI w)] sh S S (some (.int (S.1 (r + 1) (5 * c + w)))) := by
  have hx1 : ¬ nI w < 0 := nI_pos (by omega)
  have hx2 : ¬ (5 : Int32) ≤ nI w := nI_ge hw (by decide)
  have hx3 : ¬ nI (5 * c + w) < 0 := nI_pos (by omega)
  have hx4 : ¬ (180 : Int32) ≤ nI (5 * c + w) := nI_ge (b := 180) (by omega) (by decide)
  have hx5 : vp_in (nI (5 * c + w)) 180 := vp_in_nI (by omega) (by decide)
  have hx6 : (nI (5 * c + w)).toNatClampNeg = 5 * c + w := nI_clamp (by omega)
  refine pF.of (pG.of [some (.ref r), some (.int (nI c)), some (.int (nI w)), none] (by decide) tk_X4_part (Nat.le_of_ble_eq_true rfl) rfl (fun X => ?_))
  refine q_iload_n (pc := 0) (j := 1) rfl rfl ?_
  refine q_iconst (pc := 1) 5 rfl (by decide) ?_
  refine q_imul (pc := 2) rfl ?_
  refine q_iload_n (pc := 3) (j := 2) rfl rfl ?_
  refine q_iadd (pc := 4) rfl ?_
  refine q_st (st2 := [.int (nI (5 * c + w))]) (by rw [sg_ix]) ?_
  refine q_istore_n (pc := 5) (j := 3) [some (.ref r), some (.int (nI c)), some (.int (nI w)), some (.int (nI (5 * c + w)))] rfl (by decide) rfl ?_
  refine q_iload_n (pc := 6) (j := 2) rfl rfl ?_
  refine q_if_lt (pc := 7) 37 rfl (by decide) (fun h9 => absurd h9 hx1) (fun _ => ?_)
  refine q_iload_n (pc := 10) (j := 2) rfl rfl ?_
  refine q_iconst (pc := 11) 5 rfl (by decide) ?_
  refine q_icmp_ge (pc := 12) 37 rfl (by decide) (fun h9 => absurd h9 hx2) (fun _ => ?_)
  refine q_iload_n (pc := 15) (j := 3) rfl rfl ?_
  refine q_if_lt (pc := 16) 37 rfl (by decide) (fun h9 => absurd h9 hx3) (fun _ => ?_)
  refine q_iload_n (pc := 19) (j := 3) rfl rfl ?_
  refine q_aload_n (pc := 20) (j := 0) rfl rfl ?_
  refine q_get (pc := 21) (a := r) (v := .ref (r + 1)) rfl fl_X4_9 hs.1 rfl rfl ?_
  refine q_alen (pc := 24) (a := (r + 1)) 180 rfl hs.2 (by decide) (by decide) ?_
  refine q_icmp_ge (pc := 25) 37 rfl (by decide) (fun h9 => absurd h9 hx4) (fun _ => ?_)
  refine q_aload_n (pc := 28) (j := 0) rfl rfl ?_
  refine q_get (pc := 29) (a := r) (v := .ref (r + 1)) rfl fl_X4_9 hs.1 rfl rfl ?_
  refine q_iload_n (pc := 32) (j := 3) rfl rfl ?_
  refine q_iald (pc := 33) (a := (r + 1)) (5 * c + w) rfl hs.2 hx5 hx6 ?_
  refine q_goto (pc := 34) 38 rfl (by decide) ?_
  exact q_iret (pc := 38) rfl rfl ⟨rfl, rfl⟩
set_option maxRecDepth 100000 in
theorem sp_X4_change {sh : List PSh} {S : PSt} {r : Nat} (hs : isSg sh r) {c w : Nat} {v : Int32} (hc : c < 36) (hw : w < 5) : pF mX4_change 0 [.ref r, .int (nI c), .int (nI w), .int v] sh S (pSI S (r + 1) (5 * c + w) v) (none) := by
  have hx1 : ¬ nI w < 0 := nI_pos (by omega)
  have hx2 : ¬ (5 : Int32) ≤ nI w := nI_ge hw (by decide)
  have hx3 : ¬ nI (5 * c + w) < 0 := nI_pos (by omega)
  have hx4 : ¬ (180 : Int32) ≤ nI (5 * c + w) := nI_ge (b := 180) (by omega) (by decide)
  have hx5 : vp_in (nI (5 * c + w)) 180 := vp_in_nI (by omega) (by decide)
  have hx6 : (nI (5 * c + w)).toNatClampNeg = 5 * c + w := nI_clamp (by omega)
  refine pF.of (pG.of [some (.ref r), some (.int (nI c)), some (.int (nI w)), some (.int v), none] (by decide) tk_X4_change (Nat.le_of_ble_eq_true rfl) rfl (fun X => ?_))
  refine q_iload_n (pc := 0) (j := 1) rfl rfl ?_
  refine q_iconst (pc := 1) 5 rfl (by decide) ?_
  refine q_imul (pc := 2) rfl ?_
  refine q_iload_n (pc := 3) (j := 2) rfl rfl ?_
  refine q_iadd (pc := 4) rfl ?_
  refine q_st (st2 := [.int (nI (5 * c + w))]) (by rw [sg_ix]) ?_
  refine q_istore (pc := 5) (j := 4) [some (.ref r), some (.int (nI c)), some (.int (nI w)), some (.int v), some (.int (nI (5 * c + w)))] rfl (by decide) rfl ?_
  refine q_iload_n (pc := 7) (j := 2) rfl rfl ?_
  refine q_if_lt (pc := 8) 39 rfl (by decide) (fun h9 => absurd h9 hx1) (fun _ => ?_)
  refine q_iload_n (pc := 11) (j := 2) rfl rfl ?_
  refine q_iconst (pc := 12) 5 rfl (by decide) ?_
  refine q_icmp_ge (pc := 13) 39 rfl (by decide) (fun h9 => absurd h9 hx2) (fun _ => ?_)
  refine q_iload (pc := 16) (j := 4) rfl rfl ?_
  refine q_if_lt (pc := 18) 39 rfl (by decide) (fun h9 => absurd h9 hx3) (fun _ => ?_)
  refine q_iload (pc := 21) (j := 4) rfl rfl ?_
  refine q_aload_n (pc := 23) (j := 0) rfl rfl ?_
  refine q_get (pc := 24) (a := r) (v := .ref (r + 1)) rfl fl_X4_9 hs.1 rfl rfl ?_
  refine q_alen (pc := 27) (a := (r + 1)) 180 rfl hs.2 (by decide) (by decide) ?_
  refine q_icmp_ge (pc := 28) 39 rfl (by decide) (fun h9 => absurd h9 hx4) (fun _ => ?_)
  refine q_aload_n (pc := 31) (j := 0) rfl rfl ?_
  refine q_get (pc := 32) (a := r) (v := .ref (r + 1)) rfl fl_X4_9 hs.1 rfl rfl ?_
  refine q_iload (pc := 35) (j := 4) rfl rfl ?_
  refine q_iload_n (pc := 37) (j := 3) rfl rfl ?_
  refine q_iast (pc := 38) (a := (r + 1)) (5 * c + w) rfl hs.2 hx5 hx6 ?_
  exact q_vret (pc := 39) rfl rfl ⟨rfl, rfl⟩
set_option maxRecDepth 100000 in
theorem sp_X4_lay {sh : List PSh} {S : PSt} {r : Nat} (hs : isSg sh r) {c : Nat} {x0 x1 x2 x3 x4 : Int32} (hc : c < 36) : pF mX4_lay 1 [.ref r, .int (nI c), .int x0, .int x1, .int x2, .int x3, .int x4] sh S (ly5 S (r + 1) c x0 x1 x2 x3 x4) (none) := by
  refine pF.of (pG.of [some (.ref r), some (.int (nI c)), some (.int x0), some (.int x1), some (.int x2), some (.int x3), some (.int x4)] (by decide) tk_X4_lay (Nat.le_of_ble_eq_true rfl) rfl (fun X => ?_))
  refine q_aload_n (pc := 0) (j := 0) rfl rfl ?_
  refine q_iload_n (pc := 1) (j := 1) rfl rfl ?_
  refine q_iconst (pc := 2) 0 rfl (by decide) ?_
  refine q_iload_n (pc := 3) (j := 2) rfl rfl ?_
  refine q_callV (pc := 4) (as := [.int (nI c), .int 0, .int x0]) (rest := []) (b := r) (st2 := []) rfl ce_X4_change ml_X4_15 im_X4_change se_X4_change hs.1 rfl rfl rfl (by decide) (Nat.le_of_ble_eq_true rfl) (sp_X4_change (c := c) (w := 0) hs (by omega) (by omega)) rfl ?_
  refine q_aload_n (pc := 7) (j := 0) rfl rfl ?_
  refine q_iload_n (pc := 8) (j := 1) rfl rfl ?_
  refine q_iconst (pc := 9) 1 rfl (by decide) ?_
  refine q_iload_n (pc := 10) (j := 3) rfl rfl ?_
  refine q_callV (pc := 11) (as := [.int (nI c), .int 1, .int x1]) (rest := []) (b := r) (st2 := []) rfl ce_X4_change ml_X4_15 im_X4_change se_X4_change hs.1 rfl rfl rfl (by decide) (Nat.le_of_ble_eq_true rfl) (sp_X4_change (c := c) (w := 1) hs (by omega) (by omega)) rfl ?_
  refine q_aload_n (pc := 14) (j := 0) rfl rfl ?_
  refine q_iload_n (pc := 15) (j := 1) rfl rfl ?_
  refine q_iconst (pc := 16) 2 rfl (by decide) ?_
  refine q_iload (pc := 17) (j := 4) rfl rfl ?_
  refine q_callV (pc := 19) (as := [.int (nI c), .int 2, .int x2]) (rest := []) (b := r) (st2 := []) rfl ce_X4_change ml_X4_15 im_X4_change se_X4_change hs.1 rfl rfl rfl (by decide) (Nat.le_of_ble_eq_true rfl) (sp_X4_change (c := c) (w := 2) hs (by omega) (by omega)) rfl ?_
  refine q_aload_n (pc := 22) (j := 0) rfl rfl ?_
  refine q_iload_n (pc := 23) (j := 1) rfl rfl ?_
  refine q_iconst (pc := 24) 3 rfl (by decide) ?_
  refine q_iload (pc := 25) (j := 5) rfl rfl ?_
  refine q_callV (pc := 27) (as := [.int (nI c), .int 3, .int x3]) (rest := []) (b := r) (st2 := []) rfl ce_X4_change ml_X4_15 im_X4_change se_X4_change hs.1 rfl rfl rfl (by decide) (Nat.le_of_ble_eq_true rfl) (sp_X4_change (c := c) (w := 3) hs (by omega) (by omega)) rfl ?_
  refine q_aload_n (pc := 30) (j := 0) rfl rfl ?_
  refine q_iload_n (pc := 31) (j := 1) rfl rfl ?_
  refine q_iconst (pc := 32) 4 rfl (by decide) ?_
  refine q_iload (pc := 33) (j := 6) rfl rfl ?_
  refine q_callV (pc := 35) (as := [.int (nI c), .int 4, .int x4]) (rest := []) (b := r) (st2 := []) rfl ce_X4_change ml_X4_15 im_X4_change se_X4_change hs.1 rfl rfl rfl (by decide) (Nat.le_of_ble_eq_true rfl) (sp_X4_change (c := c) (w := 4) hs (by omega) (by omega)) rfl ?_
  exact q_vret (pc := 38) rfl rfl ⟨rfl, rfl⟩
set_option maxRecDepth 100000 in
theorem sp_X4_clear {sh : List PSh} {S : PSt} {r : Nat} (hs : isSg sh r) {c : Nat} (hc : c < 36) : pF mX4_clear 2 [.ref r, .int (nI c)] sh S (ly5 S (r + 1) c (-1) 0 0 0 0) (none) := by
  refine pF.of (pG.of [some (.ref r), some (.int (nI c))] (by decide) tk_X4_clear (Nat.le_of_ble_eq_true rfl) rfl (fun X => ?_))
  refine q_aload_n (pc := 0) (j := 0) rfl rfl ?_
  refine q_iload_n (pc := 1) (j := 1) rfl rfl ?_
  refine q_iconst (pc := 2) (-1) rfl (by decide) ?_
  refine q_iconst (pc := 3) 0 rfl (by decide) ?_
  refine q_iconst (pc := 4) 0 rfl (by decide) ?_
  refine q_iconst (pc := 5) 0 rfl (by decide) ?_
  refine q_iconst (pc := 6) 0 rfl (by decide) ?_
  refine q_callV (pc := 7) (as := [.int (nI c), .int (-1), .int 0, .int 0, .int 0, .int 0]) (rest := []) (b := r) (st2 := []) rfl ce_X4_lay ml_X4_19 im_X4_lay se_X4_lay hs.1 rfl rfl rfl (by decide) (Nat.le_of_ble_eq_true rfl) (sp_X4_lay (c := c) hs (by omega)) rfl ?_
  exact q_vret (pc := 10) rfl rfl ⟨rfl, rfl⟩
set_option maxRecDepth 100000 in
theorem sp_X4_isMissing {sh : List PSh} {S : PSt} {r : Nat} (hs : isSg sh r) {c : Nat} (hc : c < 36) : pF mX4_isMissing 1 [.ref r, .int (nI c)] sh S S (some (.int (pB (decide (S.1 (r + 1) (5 * c) = -1))))) := by
  refine pF.of (pG.of [some (.ref r), some (.int (nI c))] (by decide) tk_X4_isMissing (Nat.le_of_ble_eq_true rfl) rfl (fun X => ?_))
  refine q_aload_n (pc := 0) (j := 0) rfl rfl ?_
  refine q_iload_n (pc := 1) (j := 1) rfl rfl ?_
  refine q_iconst (pc := 2) 0 rfl (by decide) ?_
  refine q_callV (pc := 3) (as := [.int (nI c), .int 0]) (rest := []) (b := r) (st2 := [.int (S.1 (r + 1) (5 * c + 0))]) rfl ce_X4_part ml_X4_23 im_X4_part se_X4_part hs.1 rfl rfl rfl (by decide) (Nat.le_of_ble_eq_true rfl) (sp_X4_part (c := c) (w := 0) hs (by omega) (by omega)) rfl ?_
  refine q_iconst (pc := 6) (-1) rfl (by decide) ?_
  refine q_icmp_ne (pc := 7) 14 rfl (by decide) (fun h7 => ?_) (fun h7 => ?_)
  · refine q_iconst (pc := 14) 0 rfl (by decide) ?_
    exact q_zret (pc := 15) rfl rfl rfl ⟨congrArg (fun v => some (Value.int v)) (by simp [pB] at *; simp [*]), rfl⟩
  · refine q_iconst (pc := 10) 1 rfl (by decide) ?_
    refine q_goto (pc := 11) 15 rfl (by decide) ?_
    exact q_zret (pc := 15) rfl rfl rfl ⟨congrArg (fun v => some (Value.int v)) (by simp [pB] at *; simp [*]), rfl⟩
set_option maxRecDepth 100000 in
theorem lp_X4_copySign {n0 : Nat} {X : Nat × (Nat → Int32)} {P : Option Value → PSt → Prop} {d : Nat} (hd9 : 1 ≤ d) {sh : List PSh} {S : PSt} {r : Nat} (hs : isSg sh r) {c b q : Nat} (hb : isSg sh b) (hc : c < 36) (hq : q < 36) (hbr : b ≠ r) (hex : pV mX4_copySign d n0 X sh P 34 [some (.ref r), some (.int (nI c)), some (.ref b), some (.int (nI q)), some (.int (nI 5))] [] (cpS S (r + 1) c (b + 1) q 5)) : ∀ (m k : Nat), k + m = 5 → pV mX4_copySign d n0 X sh P 8 [some (.ref r), some (.int (nI c)), some (.ref b), some (.int (nI q)), some (.int (nI k))] [] (cpS S (r + 1) c (b + 1) q k) := by
  intro m
  induction m with
  | zero =>
    intro k hk
    have hk : k = 5 := by omega
    subst hk
    refine q_iload (pc := 8) (j := 4) rfl rfl ?_
    refine q_iconst (pc := 10) 5 rfl (by decide) ?_
    exact q_icmp_ge (pc := 11) 34 rfl (by decide) (fun _ => hex) (fun h9 => absurd (Int32.le_refl _) h9)
  | succ m ih =>
    intro k hk
    have hk1 : k < 5 := by omega
    refine q_iload (pc := 8) (j := 4) rfl rfl ?_
    refine q_iconst (pc := 10) 5 rfl (by decide) ?_
    refine q_icmp_ge (pc := 11) 34 rfl (by decide) (fun h9 => absurd h9 (nI_ge (b := 5) hk1 (by decide))) (fun _ => ?_)
    refine q_aload_n (pc := 14) (j := 0) rfl rfl ?_
    refine q_iload_n (pc := 15) (j := 1) rfl rfl ?_
    refine q_iload (pc := 16) (j := 4) rfl rfl ?_
    refine q_aload_n (pc := 18) (j := 2) rfl rfl ?_
    refine q_iload_n (pc := 19) (j := 3) rfl rfl ?_
    refine q_iload (pc := 20) (j := 4) rfl rfl ?_
    refine q_callV (pc := 22) (as := [.int (nI q), .int (nI k)]) (rest := [.int (nI k), .int (nI c), .ref r]) (b := b) (st2 := [.int ((cpS S (r + 1) c (b + 1) q k).1 (b + 1) (5 * q + k)), .int (nI k), .int (nI c), .ref r]) rfl ce_X4_part ml_X4_23 im_X4_part se_X4_part hb.1 rfl rfl rfl (by omega) (Nat.le_of_ble_eq_true rfl) (sp_X4_part (c := q) (w := k) hb (by omega) (by omega)) rfl ?_
    refine q_callV (pc := 25) (as := [.int (nI c), .int (nI k), .int ((cpS S (r + 1) c (b + 1) q k).1 (b + 1) (5 * q + k))]) (rest := []) (b := r) (st2 := []) rfl ce_X4_change ml_X4_15 im_X4_change se_X4_change hs.1 rfl rfl rfl (by omega) (Nat.le_of_ble_eq_true rfl) (sp_X4_change (c := c) (w := k) hs (by omega) (by omega)) rfl ?_
    refine q_iinc (pc := 28) (j := 4) (n := 1) (nI (k + 1)) [some (.ref r), some (.int (nI c)), some (.ref b), some (.int (nI q)), some (.int (nI (k + 1)))] rfl (by decide) rfl (nI_1 k) rfl ?_
    refine q_goto (pc := 31) 8 rfl (by decide) ?_
    exact q_S (cpS_s (by omega)) (ih (k + 1) (by omega))
set_option maxRecDepth 100000 in
theorem sp_X4_copySign {sh : List PSh} {S : PSt} {r : Nat} (hs : isSg sh r) {c b q : Nat} (hb : isSg sh b) (hc : c < 36) (hq : q < 36) (hbr : b ≠ r) : pF mX4_copySign 1 [.ref r, .int (nI c), .ref b, .int (nI q)] sh S (cpS S (r + 1) c (b + 1) q 5) (none) := by
  refine pF.of (pG.of [some (.ref r), some (.int (nI c)), some (.ref b), some (.int (nI q)), none] (by decide) tk_X4_copySign (Nat.le_of_ble_eq_true rfl) rfl (fun X => ?_))
  refine q_aload_n (pc := 0) (j := 2) rfl rfl ?_
  refine q_ifnonnull (pc := 1) 5 rfl (by decide) ?_
  refine q_iconst (pc := 5) 0 rfl (by decide) ?_
  refine q_istore (pc := 6) (j := 4) [some (.ref r), some (.int (nI c)), some (.ref b), some (.int (nI q)), some (.int 0)] rfl (by decide) rfl ?_
  refine q_S (cpS_0 S (r + 1) c (b + 1) q).symm (lp_X4_copySign (Nat.le_refl _) hs hb hc hq hbr ?_ 5 0 rfl)
  exact q_vret (pc := 34) rfl rfl ⟨rfl, rfl⟩
set_option maxRecDepth 100000 in
theorem sp_X4_become {sh : List PSh} {S : PSt} {r : Nat} (hs : isSg sh r) {b : Nat} (hb : isSg sh b) (hbr : b ≠ r) : pF mX4_become 1 [.ref r, .ref b] sh S (cpI S (b + 1) (r + 1) 180) (none) := by
  refine pF.of (pG.of [some (.ref r), some (.ref b)] (by decide) tk_X4_become (Nat.le_of_ble_eq_true rfl) rfl (fun X => ?_))
  refine q_aload_n (pc := 0) (j := 1) rfl rfl ?_
  refine q_ifnull (pc := 1) rfl ?_
  refine q_aload_n (pc := 4) (j := 1) rfl rfl ?_
  refine q_get (pc := 5) (a := b) (v := .ref (b + 1)) rfl fl_X4_9 hb.1 rfl rfl ?_
  refine q_aload_n (pc := 8) (j := 0) rfl rfl ?_
  refine q_get (pc := 9) (a := r) (v := .ref (r + 1)) rfl fl_X4_9 hs.1 rfl rfl ?_
  refine q_callS (pc := 12) (as := [.ref (b + 1), .ref (r + 1)]) (rest := []) (st2 := []) rfl ce_X8_copy ml_X4_27 st_X8_copy rfl (by decide) (Nat.le_of_ble_eq_true rfl) (sp_X8_copy hb.2 hs.2 (by omega) (by decide)) rfl ?_
  exact q_vret (pc := 15) rfl rfl ⟨rfl, rfl⟩
set_option maxRecDepth 100000 in
theorem sp_X4_top {sh : List PSh} {S : PSt} {r : Nat} (hs : isSg sh r) {c : Nat} (hc : c < 36) : pF mX4_top 1 [.ref r, .int (nI c)] sh S S (some (.int (topV (S.1 (r + 1) (5 * c + 0)) (S.1 (r + 1) (5 * c + 2)) (S.1 (r + 1) (5 * c + 4))))) := by
  refine pF.of (pG.of [some (.ref r), some (.int (nI c)), none, none] (by decide) tk_X4_top (Nat.le_of_ble_eq_true rfl) rfl (fun X => ?_))
  refine q_aload_n (pc := 0) (j := 0) rfl rfl ?_
  refine q_iload_n (pc := 1) (j := 1) rfl rfl ?_
  refine q_iconst (pc := 2) 2 rfl (by decide) ?_
  refine q_callV (pc := 3) (as := [.int (nI c), .int 2]) (rest := []) (b := r) (st2 := [.int (S.1 (r + 1) (5 * c + 2))]) rfl ce_X4_part ml_X4_23 im_X4_part se_X4_part hs.1 rfl rfl rfl (by decide) (Nat.le_of_ble_eq_true rfl) (sp_X4_part (c := c) (w := 2) hs (by omega) (by omega)) rfl ?_
  refine q_istore_n (pc := 6) (j := 2) [some (.ref r), some (.int (nI c)), some (.int (S.1 (r + 1) (5 * c + 2))), none] rfl (by decide) rfl ?_
  refine q_aload_n (pc := 7) (j := 0) rfl rfl ?_
  refine q_iload_n (pc := 8) (j := 1) rfl rfl ?_
  refine q_iconst (pc := 9) 4 rfl (by decide) ?_
  refine q_callV (pc := 10) (as := [.int (nI c), .int 4]) (rest := []) (b := r) (st2 := [.int (S.1 (r + 1) (5 * c + 4))]) rfl ce_X4_part ml_X4_23 im_X4_part se_X4_part hs.1 rfl rfl rfl (by decide) (Nat.le_of_ble_eq_true rfl) (sp_X4_part (c := c) (w := 4) hs (by omega) (by omega)) rfl ?_
  refine q_istore_n (pc := 13) (j := 3) [some (.ref r), some (.int (nI c)), some (.int (S.1 (r + 1) (5 * c + 2))), some (.int (S.1 (r + 1) (5 * c + 4)))] rfl (by decide) rfl ?_
  refine q_aload_n (pc := 14) (j := 0) rfl rfl ?_
  refine q_iload_n (pc := 15) (j := 1) rfl rfl ?_
  refine q_iconst (pc := 16) 0 rfl (by decide) ?_
  refine q_callV (pc := 17) (as := [.int (nI c), .int 0]) (rest := []) (b := r) (st2 := [.int (S.1 (r + 1) (5 * c + 0))]) rfl ce_X4_part ml_X4_23 im_X4_part se_X4_part hs.1 rfl rfl rfl (by decide) (Nat.le_of_ble_eq_true rfl) (sp_X4_part (c := c) (w := 0) hs (by omega) (by omega)) rfl ?_
  rcases Classical.em ((S.1 (r + 1) (5 * c + 0)) = (0 : Int32)) with hc20_0 | hc20_0
  · refine q_lookup (pc := 20) (off := 28) 48 rfl (by decide) (by rw [hc20_0]; decide) (by decide) ?_
    refine q_iload_n (pc := 48) (j := 2) rfl rfl ?_
    refine q_if_ge (pc := 49) 59 rfl (by decide) (fun h49 => ?_) (fun h49 => ?_)
    · refine q_iload_n (pc := 59) (j := 2) rfl rfl ?_
      refine q_iconst (pc := 60) 1 rfl (by decide) ?_
      refine q_iadd (pc := 61) rfl ?_
      refine q_iload_n (pc := 62) (j := 3) rfl rfl ?_
      refine q_iadd (pc := 63) rfl ?_
      exact q_iret (pc := 64) rfl rfl ⟨congrArg (fun v => some (Value.int v)) (by first | (rw [topV, if_pos (by assumption), if_pos (by rw [Int32.not_le] at *; assumption)]) | (rw [topV, if_pos (by assumption), if_neg (Int32.not_lt.mpr (by assumption))]) | (rw [topV, if_neg (by assumption), if_pos (by assumption)]) | (rw [topV, if_neg (by assumption), if_neg (by assumption)])), rfl⟩
    · refine q_iload_n (pc := 52) (j := 2) rfl rfl ?_
      refine q_bipush (pc := 53) 7 rfl (by decide) ?_
      refine q_iadd (pc := 55) rfl ?_
      refine q_goto (pc := 56) 62 rfl (by decide) ?_
      refine q_iload_n (pc := 62) (j := 3) rfl rfl ?_
      refine q_iadd (pc := 63) rfl ?_
      exact q_iret (pc := 64) rfl rfl ⟨congrArg (fun v => some (Value.int v)) (by first | (rw [topV, if_pos (by assumption), if_pos (by rw [Int32.not_le] at *; assumption)]) | (rw [topV, if_pos (by assumption), if_neg (Int32.not_lt.mpr (by assumption))]) | (rw [topV, if_neg (by assumption), if_pos (by assumption)]) | (rw [topV, if_neg (by assumption), if_neg (by assumption)])), rfl⟩
  · skip
    rcases Classical.em ((S.1 (r + 1) (5 * c + 0)) = (1 : Int32)) with hc20_1 | hc20_1
    · refine q_lookup (pc := 20) (off := 45) 65 rfl (by decide) (by rw [hc20_1]; decide) (by decide) ?_
      refine q_iconst (pc := 65) 3 rfl (by decide) ?_
      refine q_iload_n (pc := 66) (j := 3) rfl rfl ?_
      refine q_iadd (pc := 67) rfl ?_
      exact q_iret (pc := 68) rfl rfl ⟨congrArg (fun v => some (Value.int v)) (by first | (rw [topV, if_pos (by assumption), if_pos (by rw [Int32.not_le] at *; assumption)]) | (rw [topV, if_pos (by assumption), if_neg (Int32.not_lt.mpr (by assumption))]) | (rw [topV, if_neg (by assumption), if_pos (by assumption)]) | (rw [topV, if_neg (by assumption), if_neg (by assumption)])), rfl⟩
    · skip
      refine q_lookup (pc := 20) (off := 49) 69 rfl (by decide) (lk_out2 hc20_0 hc20_1) (by decide) ?_
      refine q_iconst (pc := 69) 4 rfl (by decide) ?_
      refine q_iload_n (pc := 70) (j := 3) rfl rfl ?_
      refine q_iadd (pc := 71) rfl ?_
      exact q_iret (pc := 72) rfl rfl ⟨congrArg (fun v => some (Value.int v)) (by first | (rw [topV, if_pos (by assumption), if_pos (by rw [Int32.not_le] at *; assumption)]) | (rw [topV, if_pos (by assumption), if_neg (Int32.not_lt.mpr (by assumption))]) | (rw [topV, if_neg (by assumption), if_pos (by assumption)]) | (rw [topV, if_neg (by assumption), if_neg (by assumption)])), rfl⟩
set_option maxRecDepth 100000 in
theorem sp_X4_bottom {sh : List PSh} {S : PSt} {r : Nat} (hs : isSg sh r) {c : Nat} (hc : c < 36) : pF mX4_bottom 1 [.ref r, .int (nI c)] sh S S (some (.int (botV (S.1 (r + 1) (5 * c + 0)) (S.1 (r + 1) (5 * c + 2))))) := by
  refine pF.of (pG.of [some (.ref r), some (.int (nI c)), none] (by decide) tk_X4_bottom (Nat.le_of_ble_eq_true rfl) rfl (fun X => ?_))
  refine q_aload_n (pc := 0) (j := 0) rfl rfl ?_
  refine q_iload_n (pc := 1) (j := 1) rfl rfl ?_
  refine q_iconst (pc := 2) 2 rfl (by decide) ?_
  refine q_callV (pc := 3) (as := [.int (nI c), .int 2]) (rest := []) (b := r) (st2 := [.int (S.1 (r + 1) (5 * c + 2))]) rfl ce_X4_part ml_X4_23 im_X4_part se_X4_part hs.1 rfl rfl rfl (by decide) (Nat.le_of_ble_eq_true rfl) (sp_X4_part (c := c) (w := 2) hs (by omega) (by omega)) rfl ?_
  refine q_istore_n (pc := 6) (j := 2) [some (.ref r), some (.int (nI c)), some (.int (S.1 (r + 1) (5 * c + 2)))] rfl (by decide) rfl ?_
  refine q_aload_n (pc := 7) (j := 0) rfl rfl ?_
  refine q_iload_n (pc := 8) (j := 1) rfl rfl ?_
  refine q_iconst (pc := 9) 0 rfl (by decide) ?_
  refine q_callV (pc := 10) (as := [.int (nI c), .int 0]) (rest := []) (b := r) (st2 := [.int (S.1 (r + 1) (5 * c + 0))]) rfl ce_X4_part ml_X4_23 im_X4_part se_X4_part hs.1 rfl rfl rfl (by decide) (Nat.le_of_ble_eq_true rfl) (sp_X4_part (c := c) (w := 0) hs (by omega) (by omega)) rfl ?_
  rcases Classical.em ((S.1 (r + 1) (5 * c + 0)) = (0 : Int32)) with hc13_0 | hc13_0
  · refine q_lookup (pc := 13) (off := 27) 40 rfl (by decide) (by rw [hc13_0]; decide) (by decide) ?_
    refine q_iload_n (pc := 40) (j := 2) rfl rfl ?_
    refine q_if_ge (pc := 41) 50 rfl (by decide) (fun h41 => ?_) (fun h41 => ?_)
    · refine q_iload_n (pc := 50) (j := 2) rfl rfl ?_
      refine q_bipush (pc := 51) 7 rfl (by decide) ?_
      refine q_isub (pc := 53) rfl ?_
      exact q_iret (pc := 54) rfl rfl ⟨congrArg (fun v => some (Value.int v)) (by first | (rw [botV, if_pos (by assumption), if_pos (Int32.not_le.mp (by assumption))]) | (rw [botV, if_pos (by assumption), if_neg (Int32.not_lt.mpr (by assumption))]) | (rw [botV, if_neg (by assumption), if_pos (by assumption)]) | (rw [botV, if_neg (by assumption), if_neg (by assumption)])), rfl⟩
    · refine q_iload_n (pc := 44) (j := 2) rfl rfl ?_
      refine q_iconst (pc := 45) 1 rfl (by decide) ?_
      refine q_isub (pc := 46) rfl ?_
      refine q_goto (pc := 47) 54 rfl (by decide) ?_
      exact q_iret (pc := 54) rfl rfl ⟨congrArg (fun v => some (Value.int v)) (by first | (rw [botV, if_pos (by assumption), if_pos (Int32.not_le.mp (by assumption))]) | (rw [botV, if_pos (by assumption), if_neg (Int32.not_lt.mpr (by assumption))]) | (rw [botV, if_neg (by assumption), if_pos (by assumption)]) | (rw [botV, if_neg (by assumption), if_neg (by assumption)])), rfl⟩
  · skip
    rcases Classical.em ((S.1 (r + 1) (5 * c + 0)) = (1 : Int32)) with hc13_1 | hc13_1
    · refine q_lookup (pc := 13) (off := 42) 55 rfl (by decide) (by rw [hc13_1]; decide) (by decide) ?_
      refine q_bipush (pc := 55) (-3) rfl (by decide) ?_
      exact q_iret (pc := 57) rfl rfl ⟨congrArg (fun v => some (Value.int v)) (by first | (rw [botV, if_pos (by assumption), if_pos (Int32.not_le.mp (by assumption))]) | (rw [botV, if_pos (by assumption), if_neg (Int32.not_lt.mpr (by assumption))]) | (rw [botV, if_neg (by assumption), if_pos (by assumption)]) | (rw [botV, if_neg (by assumption), if_neg (by assumption)])), rfl⟩
    · skip
      refine q_lookup (pc := 13) (off := 45) 58 rfl (by decide) (lk_out2 hc13_0 hc13_1) (by decide) ?_
      refine q_bipush (pc := 58) (-4) rfl (by decide) ?_
      exact q_iret (pc := 60) rfl rfl ⟨congrArg (fun v => some (Value.int v)) (by first | (rw [botV, if_pos (by assumption), if_pos (Int32.not_le.mp (by assumption))]) | (rw [botV, if_pos (by assumption), if_neg (Int32.not_lt.mpr (by assumption))]) | (rw [botV, if_neg (by assumption), if_pos (by assumption)]) | (rw [botV, if_neg (by assumption), if_neg (by assumption)])), rfl⟩
