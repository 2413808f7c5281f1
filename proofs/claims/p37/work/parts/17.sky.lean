/-! Skyline: written by wip/whole/gen/c17.py -/
def isSk (sh : List PSh) (r : Nat) : Prop := sh[r]? = some (.inr (4, [r + 1 + 3, r + 2 + 3, r + 3 + 3])) ∧ sh[r + 1]? = some (.inl (2, 400)) ∧ sh[r + 2]? = some (.inl (0, 400)) ∧ sh[r + 3]? = some (.inl (0, 400))
def mxI (x y : Int32) : Int32 := if x < y then y else x
def mnI (x y : Int32) : Int32 := if y < x then y else x
/-- ink in the cells from c to e -/
def inkS (S : PSt) (r c e : Nat) (t b : Int32) : PSt :=
  (fun x j => if c ≤ j ∧ j < e ∧ x = r + 1 then 1 else if c ≤ j ∧ j < e ∧ x = r + 2 then (if S.1 (r + 1) j = 0 then t else mxI t (S.1 (r + 2) j)) else if c ≤ j ∧ j < e ∧ x = r + 3 then (if S.1 (r + 1) j = 0 then b else mnI b (S.1 (r + 3) j)) else S.1 x j, S.2)
theorem ink_0 {S : PSt} {r c e : Nat} {t b : Int32} (h : e ≤ c) : inkS S r c e t b = S := by
  unfold inkS
  refine Prod.ext (funext fun x => funext fun j => ?_) rfl
  dsimp only; rw [if_neg (by omega), if_neg (by omega), if_neg (by omega)]
theorem ink_s {S : PSt} {r c e : Nat} {t b : Int32} (h : c ≤ e) : pSI (pSI (pSI (inkS S r c e t b) (r + 2) e (if S.1 (r + 1) e = 0 then t else mxI t (S.1 (r + 2) e))) (r + 3) e (if S.1 (r + 1) e = 0 then b else mnI b (S.1 (r + 3) e))) (r + 1) e 1 = inkS S r c (e + 1) t b := by
  unfold inkS pSI pU
  refine Prod.ext (funext fun x => funext fun j => ?_) rfl
  dsimp only
  by_cases hj : j = e
  · subst hj
    by_cases h1 : x = r + 1
    · subst h1; simp; intro h9; omega
    · by_cases h2 : x = r + 2
      · subst h2; simp; intro h9; omega
      · by_cases h3 : x = r + 3
        · subst h3; simp; intro h9; omega
        · simp [h1, h2, h3]
  · have e1 : (c ≤ j ∧ j < e) ↔ (c ≤ j ∧ j < e + 1) := by omega
    by_cases h1 : c ≤ j ∧ j < e
    · have h2 := e1.mp h1
      simp [hj, h1.1, h1.2, h2.2]
    · have a1 : ¬ (c ≤ j ∧ j < e ∧ x = r + 1) := fun q => h1 ⟨q.1, q.2.1⟩
      have a2 : ¬ (c ≤ j ∧ j < e ∧ x = r + 2) := fun q => h1 ⟨q.1, q.2.1⟩
      have a3 : ¬ (c ≤ j ∧ j < e ∧ x = r + 3) := fun q => h1 ⟨q.1, q.2.1⟩
      have b1 : ¬ (c ≤ j ∧ j < e + 1 ∧ x = r + 1) := fun q => h1 (e1.mpr ⟨q.1, q.2.1⟩)
      have b2 : ¬ (c ≤ j ∧ j < e + 1 ∧ x = r + 2) := fun q => h1 (e1.mpr ⟨q.1, q.2.1⟩)
      have b3 : ¬ (c ≤ j ∧ j < e + 1 ∧ x = r + 3) := fun q => h1 (e1.mpr ⟨q.1, q.2.1⟩)
      simp only [hj, and_false, if_false, if_neg a1, if_neg a2, if_neg a3, if_neg b1, if_neg b2, if_neg b3]
theorem ink_at {S : PSt} {r c e x : Nat} {t b : Int32} : (inkS S r c e t b).1 x e = S.1 x e := by simp [inkS]
theorem i_le_n {e : Int32} {x : Nat} (hx : x < 2 ^ 31) : e ≤ nI x ↔ e.toInt ≤ x := by rw [Int32.le_iff_toInt_le, nI_toInt hx]

set_option maxRecDepth 100000 in
theorem sp_X5_hasInk {sh : List PSh} {S : PSt} {r : Nat} (hs : isSk sh r) {x : Nat} (hx : x < 400) : pF mX5_hasInk 1 [.ref r, .int (nI x)] sh S S (some (.int (pB (decide (S.1 (r + 1) x ≠ 0))))) := by
  refine pF.of (pG.of [some (.ref r), some (.int (nI x))] (by decide) tk_X5_hasInk (Nat.le_of_ble_eq_true rfl) rfl (fun X => ?_))
  refine q_aload_n (pc := 0) (j := 0) rfl rfl ?_
  refine q_get (pc := 1) (a := r) (v := .ref (r + 1)) rfl fl_X5_9 hs.1 rfl rfl ?_
  refine q_iload_n (pc := 4) (j := 1) rfl rfl ?_
  refine q_callS (pc := 5) (as := [.ref (r + 1), .int (nI x)]) (rest := []) (st2 := [.int (pB (decide (S.1 (r + 1) x ≠ 0)))]) rfl ce_X8_readFlag ml_X5_60 st_X8_readFlag rfl (by decide) (Nat.le_of_ble_eq_true rfl) (sp_readFlagN (k := x) hs.2.1 (by omega) (by decide)) rfl ?_
  exact q_zret (pc := 8) rfl rfl (pB_nar _) ⟨rfl, rfl⟩
set_option maxRecDepth 100000 in
theorem sp_X5_upper {sh : List PSh} {S : PSt} {r : Nat} (hs : isSk sh r) {x : Nat} (hx : x < 400) : pF mX5_upper 1 [.ref r, .int (nI x)] sh S S (some (.int (S.1 (r + 2) x))) := by
  refine pF.of (pG.of [some (.ref r), some (.int (nI x))] (by decide) tk_X5_upper (Nat.le_of_ble_eq_true rfl) rfl (fun X => ?_))
  refine q_aload_n (pc := 0) (j := 0) rfl rfl ?_
  refine q_get (pc := 1) (a := r) (v := .ref (r + 2)) rfl fl_X5_15 hs.1 rfl rfl ?_
  refine q_iload_n (pc := 4) (j := 1) rfl rfl ?_
  refine q_callS (pc := 5) (as := [.ref (r + 2), .int (nI x)]) (rest := []) (st2 := [.int (S.1 (r + 2) x)]) rfl ce_X8_readInt ml_X5_64 st_X8_readInt rfl (by decide) (Nat.le_of_ble_eq_true rfl) (sp_readIntN (k := x) hs.2.2.1 (by omega) (by decide)) rfl ?_
  exact q_iret (pc := 8) rfl rfl ⟨rfl, rfl⟩
set_option maxRecDepth 100000 in
theorem sp_X5_lower {sh : List PSh} {S : PSt} {r : Nat} (hs : isSk sh r) {x : Nat} (hx : x < 400) : pF mX5_lower 1 [.ref r, .int (nI x)] sh S S (some (.int (S.1 (r + 3) x))) := by
  refine pF.of (pG.of [some (.ref r), some (.int (nI x))] (by decide) tk_X5_lower (Nat.le_of_ble_eq_true rfl) rfl (fun X => ?_))
  refine q_aload_n (pc := 0) (j := 0) rfl rfl ?_
  refine q_get (pc := 1) (a := r) (v := .ref (r + 3)) rfl fl_X5_19 hs.1 rfl rfl ?_
  refine q_iload_n (pc := 4) (j := 1) rfl rfl ?_
  refine q_callS (pc := 5) (as := [.ref (r + 3), .int (nI x)]) (rest := []) (st2 := [.int (S.1 (r + 3) x)]) rfl ce_X8_readInt ml_X5_64 st_X8_readInt rfl (by decide) (Nat.le_of_ble_eq_true rfl) (sp_readIntN (k := x) hs.2.2.2 (by omega) (by decide)) rfl ?_
  exact q_iret (pc := 8) rfl rfl ⟨rfl, rfl⟩
set_option maxRecDepth 100000 in
theorem lp_X5_ink {n0 : Nat} {X : Nat × (Nat → Int32)} {P : Option Value → PSt → Prop} {d : Nat} (hd9 : 2 ≤ d) {sh : List PSh} {S : PSt} {r : Nat} (hs : isSk sh r) {c : Nat} {e t b : Int32} (he : e.toInt ≤ 400) (hex : ∀ i f, pV mX5_ink d n0 X sh P 99 [some (.ref r), some (.int (nI c)), some (.int e), some (.int t), some (.int b), some (.int i), f] [] (inkS S r c e.toInt.toNat t b)) : ∀ (m x : Nat) (f : Option Value), c ≤ x → x < 2 ^ 31 → e.toInt.toNat - x = m → (x ≤ e.toInt.toNat ∨ x = c) → pV mX5_ink d n0 X sh P 3 [some (.ref r), some (.int (nI c)), some (.int e), some (.int t), some (.int b), some (.int (nI x)), f] [] (inkS S r c x t b) := by
  intro m
  induction m with
  | zero =>
    intro x f hcx hx hm ho
    have hS : inkS S r c x t b = inkS S r c e.toInt.toNat t b := by
      rcases ho with h | h
      · have : x = e.toInt.toNat := by omega
        rw [this]
      · subst h; rw [ink_0 (Nat.le_refl _), ink_0 (by omega)]
    refine q_S hS ?_
    refine q_iload (pc := 3) (j := 5) rfl rfl ?_
    refine q_iload_n (pc := 5) (j := 2) rfl rfl ?_
    exact q_icmp_ge (pc := 6) 99 rfl (by decide) (fun _ => hex _ _) (fun h9 => absurd ((i_le_n hx).mpr (by omega)) h9)
  | succ m ih =>
    intro x f hcx hx hm ho
    have hk1 : x < 400 := by omega
    refine q_iload (pc := 3) (j := 5) rfl rfl ?_
    refine q_iload_n (pc := 5) (j := 2) rfl rfl ?_
    refine q_icmp_ge (pc := 6) 99 rfl (by decide) (fun h9 => absurd h9 (fun h9 => by have := (i_le_n hx).mp h9; omega)) (fun _ => ?_)
    refine q_aload_n (pc := 9) (j := 0) rfl rfl ?_
    refine q_iload (pc := 10) (j := 5) rfl rfl ?_
    refine q_callV (pc := 12) (as := [.int (nI x)]) (rest := []) (b := r) (st2 := [.int (pB (decide ((inkS S r c x t b).1 (r + 1) x ≠ 0)))]) rfl ce_X5_hasInk ml_X5_68 im_X5_hasInk se_X5_hasInk hs.1 rfl rfl rfl (by omega) (Nat.le_of_ble_eq_true rfl) (sp_X5_hasInk (x := x) hs (by omega)) rfl ?_
    refine q_join 23 [some (.ref r), some (.int (nI c)), some (.int e), some (.int t), some (.int b), some (.int (nI x)), f] [.int (pB (decide (S.1 (r + 1) x = 0)))] (inkS S r c x t b) ?_ (fun key15 => ?_)
    · refine q_istore (pc := 23) (j := 6) [some (.ref r), some (.int (nI c)), some (.int e), some (.int t), some (.int b), some (.int (nI x)), some (.int (pB (decide (S.1 (r + 1) x = 0))))] rfl (by decide) rfl ?_
      refine q_aload_n (pc := 25) (j := 0) rfl rfl ?_
      refine q_get (pc := 26) (a := r) (v := .ref (r + 2)) rfl fl_X5_15 hs.1 rfl rfl ?_
      refine q_iload (pc := 29) (j := 5) rfl rfl ?_
      refine q_iload (pc := 31) (j := 6) rfl rfl ?_
      refine q_join 50 [some (.ref r), some (.int (nI c)), some (.int e), some (.int t), some (.int b), some (.int (nI x)), some (.int (pB (decide (S.1 (r + 1) x = 0))))] [.int (if S.1 (r + 1) x = 0 then t else mxI t (S.1 (r + 2) x)), .int (nI x), .ref (r + 2)] (inkS S r c x t b) ?_ (fun key33 => ?_)
      · refine q_callS (pc := 50) (as := [.ref (r + 2), .int (nI x), .int (if S.1 (r + 1) x = 0 then t else mxI t (S.1 (r + 2) x))]) (rest := []) (st2 := []) rfl ce_X8_writeInt ml_X5_78 st_X8_writeInt rfl (by omega) (Nat.le_of_ble_eq_true rfl) (sp_writeIntN (k := x) hs.2.2.1 (by omega) (by decide)) rfl ?_
        refine q_aload_n (pc := 53) (j := 0) rfl rfl ?_
        refine q_get (pc := 54) (a := r) (v := .ref (r + 3)) rfl fl_X5_19 hs.1 rfl rfl ?_
        refine q_iload (pc := 57) (j := 5) rfl rfl ?_
        refine q_iload (pc := 59) (j := 6) rfl rfl ?_
        refine q_join 80 [some (.ref r), some (.int (nI c)), some (.int e), some (.int t), some (.int b), some (.int (nI x)), some (.int (pB (decide (S.1 (r + 1) x = 0))))] [.int (if S.1 (r + 1) x = 0 then b else mnI b (S.1 (r + 3) x)), .int (nI x), .ref (r + 3)] (pSI (inkS S r c x t b) (r + 2) x (if S.1 (r + 1) x = 0 then t else mxI t (S.1 (r + 2) x))) ?_ (fun key61 => ?_)
        · refine q_callS (pc := 80) (as := [.ref (r + 3), .int (nI x), .int (if S.1 (r + 1) x = 0 then b else mnI b (S.1 (r + 3) x))]) (rest := []) (st2 := []) rfl ce_X8_writeInt ml_X5_78 st_X8_writeInt rfl (by omega) (Nat.le_of_ble_eq_true rfl) (sp_writeIntN (k := x) hs.2.2.2 (by omega) (by decide)) rfl ?_
          refine q_aload_n (pc := 83) (j := 0) rfl rfl ?_
          refine q_get (pc := 84) (a := r) (v := .ref (r + 1)) rfl fl_X5_9 hs.1 rfl rfl ?_
          refine q_iload (pc := 87) (j := 5) rfl rfl ?_
          refine q_iconst (pc := 89) 1 rfl (by decide) ?_
          refine q_callS (pc := 90) (as := [.ref (r + 1), .int (nI x), .int 1]) (rest := []) (st2 := []) rfl ce_X8_writeFlag ml_X5_22 st_X8_writeFlag rfl (by omega) (Nat.le_of_ble_eq_true rfl) (sp_writeFlagN (k := x) hs.2.1 (by omega) (by decide) (by decide)) rfl ?_
          refine q_iinc (pc := 93) (j := 5) (n := 1) (nI (x + 1)) [some (.ref r), some (.int (nI c)), some (.int e), some (.int t), some (.int b), some (.int (nI (x + 1))), some (.int (pB (decide (S.1 (r + 1) x = 0))))] rfl (by decide) rfl (nI_1 x) rfl ?_
          refine q_goto (pc := 96) 3 rfl (by decide) ?_
          exact q_S (ink_s hcx) (ih (x + 1) _ (by omega) (by omega) (by omega) (Or.inl (by omega)))
        · refine q_if_eq (pc := 61) 69 rfl (by decide) (fun h61 => ?_) (fun h61 => ?_)
          · refine q_iload (pc := 69) (j := 4) rfl rfl ?_
            refine q_aload_n (pc := 71) (j := 0) rfl rfl ?_
            refine q_iload (pc := 72) (j := 5) rfl rfl ?_
            refine q_callV (pc := 74) (as := [.int (nI x)]) (rest := [.int b, .int (nI x), .ref (r + 3)]) (b := r) (st2 := [.int ((pSI (inkS S r c x t b) (r + 2) x (if S.1 (r + 1) x = 0 then t else mxI t (S.1 (r + 2) x))).1 (r + 3) x), .int b, .int (nI x), .ref (r + 3)]) rfl ce_X5_lower ml_X5_82 im_X5_lower se_X5_lower hs.1 rfl rfl rfl (by omega) (Nat.le_of_ble_eq_true rfl) (sp_X5_lower (x := x) hs (by omega)) rfl ?_
            refine q_min (pc := 77) rfl ml_X5_45 (by omega) (Nat.le_of_ble_eq_true rfl) ?_
            exact q_st (by rw [show ((pSI (inkS S r c x t b) (r + 2) x (if S.1 (r + 1) x = 0 then t else mxI t (S.1 (r + 2) x))).1 (r + 3) x) = S.1 (r + 3) x by simp [pSI, pU, inkS], if_neg (pB_ndec h61)]; rfl) key61
          · refine q_iload (pc := 64) (j := 4) rfl rfl ?_
            refine q_goto (pc := 66) 80 rfl (by decide) ?_
            exact q_st (by rw [if_pos (pB_dec h61)]) key61
      · refine q_if_eq (pc := 33) 40 rfl (by decide) (fun h33 => ?_) (fun h33 => ?_)
        · refine q_iload_n (pc := 40) (j := 3) rfl rfl ?_
          refine q_aload_n (pc := 41) (j := 0) rfl rfl ?_
          refine q_iload (pc := 42) (j := 5) rfl rfl ?_
          refine q_callV (pc := 44) (as := [.int (nI x)]) (rest := [.int t, .int (nI x), .ref (r + 2)]) (b := r) (st2 := [.int ((inkS S r c x t b).1 (r + 2) x), .int t, .int (nI x), .ref (r + 2)]) rfl ce_X5_upper ml_X5_72 im_X5_upper se_X5_upper hs.1 rfl rfl rfl (by omega) (Nat.le_of_ble_eq_true rfl) (sp_X5_upper (x := x) hs (by omega)) rfl ?_
          refine q_max (pc := 47) rfl ml_X5_75 (by omega) (Nat.le_of_ble_eq_true rfl) ?_
          exact q_st (by rw [if_neg (pB_ndec h33), ink_at]; rfl) key33
        · refine q_iload_n (pc := 36) (j := 3) rfl rfl ?_
          refine q_goto (pc := 37) 50 rfl (by decide) ?_
          exact q_st (by rw [if_pos (pB_dec h33)]) key33
    · refine q_if_ne (pc := 15) 22 rfl (by decide) (fun h15 => ?_) (fun h15 => ?_)
      · refine q_iconst (pc := 22) 0 rfl (by decide) ?_
        exact q_st (by rw [show decide (S.1 (r + 1) x = 0) = false from decide_eq_false (by have := pB_dec h15; rwa [ink_at] at this)]; rfl) key15
      · refine q_iconst (pc := 18) 1 rfl (by decide) ?_
        refine q_goto (pc := 19) 23 rfl (by decide) ?_
        exact q_st (by rw [show decide (S.1 (r + 1) x = 0) = true from decide_eq_true (Classical.not_not.mp (by have := pB_ndec h15; rwa [ink_at] at this))]; rfl) key15
set_option maxRecDepth 100000 in
theorem sp_X5_ink {sh : List PSh} {S : PSt} {r : Nat} (hs : isSk sh r) {c : Nat} {e t b : Int32} (hc : c < 2 ^ 31) (he : e.toInt ≤ 400) : pF mX5_ink 2 [.ref r, .int (nI c), .int e, .int t, .int b] sh S (inkS S r c e.toInt.toNat t b) (none) := by
  refine pF.of (pG.of [some (.ref r), some (.int (nI c)), some (.int e), some (.int t), some (.int b), none, none] (by decide) tk_X5_ink (Nat.le_of_ble_eq_true rfl) rfl (fun X => ?_))
  refine q_iload_n (pc := 0) (j := 1) rfl rfl ?_
  refine q_istore (pc := 1) (j := 5) [some (.ref r), some (.int (nI c)), some (.int e), some (.int t), some (.int b), some (.int (nI c)), none] rfl (by decide) rfl ?_
  refine q_S (ink_0 (Nat.le_refl _)).symm (lp_X5_ink (by decide) hs he (fun i f => ?_) _ c _ (Nat.le_refl _) hc rfl (Or.inr rfl))
  exact q_vret (pc := 99) rfl rfl ⟨rfl, rfl⟩
def skc (S : PSt) (r k : Nat) : PSt := (fun x j => if x = r + 1 ∧ j < k then 0 else S.1 x j, S.2)
theorem skc_0 {S : PSt} {r : Nat} : skc S r 0 = S := by
  unfold skc
  refine Prod.ext (funext fun x => funext fun j => ?_) rfl
  dsimp only; rw [if_neg (by omega)]
theorem skc_s {S : PSt} {r k : Nat} : pSI (skc S r k) (r + 1) k 0 = skc S r (k + 1) := by
  unfold skc pSI pU
  refine Prod.ext (funext fun x => funext fun j => ?_) rfl
  dsimp only; (repeat' split) <;> first | rfl | (exfalso; omega)
/-- the end of a column's ink -/
def inkE (c w : Int32) : Int32 := mnI (c + w) 400
theorem inkE_le (c w : Int32) : (inkE c w).toInt ≤ 400 := by
  unfold inkE mnI
  split
  · decide
  · rename_i h; rw [Int32.lt_iff_toInt_lt] at h; have : (400 : Int32).toInt = 400 := by decide
    omega
/-- the skyline r after k columns of the stretch t over the signs q, from a on -/
def trS (S : PSt) (r q t a : Nat) : Nat → PSt
  | 0 => skc S r 400
  | k + 1 => inkS (trS S r q t a k) r (FP.f2i (S.2.1 (t + 6) k)).toInt.toNat (inkE (FP.f2i (S.2.1 (t + 6) k)) (S.1 (q + 1) (5 * (a + k) + 3))).toInt.toNat
      (topV (S.1 (q + 1) (5 * (a + k) + 0)) (S.1 (q + 1) (5 * (a + k) + 2)) (S.1 (q + 1) (5 * (a + k) + 4))) (botV (S.1 (q + 1) (5 * (a + k) + 0)) (S.1 (q + 1) (5 * (a + k) + 2)))
theorem trS_2 {S : PSt} {r q t a : Nat} (k : Nat) : (trS S r q t a k).2 = S.2 := by
  induction k with
  | zero => rfl
  | succ k ih => exact ih
theorem trS_I {S : PSt} {r q t a x : Nat} (h1 : x ≠ r + 1) (h2 : x ≠ r + 2) (h3 : x ≠ r + 3) (k : Nat) : (trS S r q t a k).1 x = S.1 x := by
  induction k with
  | zero => funext j; simp [trS, skc, h1]
  | succ k ih => funext j; simp [trS, inkS, h1, h2, h3, ih]
theorem nI_of0 {x : Int32} (h : 0 ≤ x.toInt) : x = nI x.toInt.toNat := by
  apply Int32.toInt_inj.mp
  have h2 := x.toInt_lt
  rw [nI_toInt (by omega)]
  omega
theorem nN_lt {x : Int32} : x.toInt.toNat < 2 ^ 31 := by have := x.toInt_lt; omega
set_option maxRecDepth 100000 in
theorem lp_X5_traceA {n0 : Nat} {X : Nat × (Nat → Int32)} {P : Option Value → PSt → Prop} {d : Nat} (hd9 : 1 ≤ d) {sh : List PSh} {S : PSt} {r q t a n : Nat} (hs : isSk sh r) (hq : isSg sh q) (ht : isSt sh t) (hn : n ≤ 32) (han : a + n ≤ 36) (hz : S.1 t 7 = nI n) (hf : S.1 t 6 = nI a) (hrt : r + 4 ≤ t ∨ t + 7 ≤ r) (hrq : r + 4 ≤ q ∨ q + 2 ≤ r) (_hpos : ∀ k, k < n → 0 ≤ (FP.f2i (S.2.1 (t + 6) k)).toInt) (hex : pV mX5_trace d n0 X sh P 24 [some (.ref r), some (.ref q), some (.ref t), some (.int (nI 400)), none, none, none] [] (skc S r 400)) : ∀ (m k : Nat), k + m = 400 → pV mX5_trace d n0 X sh P 2 [some (.ref r), some (.ref q), some (.ref t), some (.int (nI k)), none, none, none] [] (skc S r k) := by
  intro m
  induction m with
  | zero =>
    intro k hk
    have hk : k = 400 := by omega
    subst hk
    refine q_iload_n (pc := 2) (j := 3) rfl rfl ?_
    refine q_sipush (pc := 3) 400 rfl (by decide) ?_
    exact q_icmp_ge (pc := 6) 24 rfl (by decide) (fun _ => hex) (fun h9 => absurd (Int32.le_refl _) h9)
  | succ m ih =>
    intro k hk
    have hk1 : k < 400 := by omega
    refine q_iload_n (pc := 2) (j := 3) rfl rfl ?_
    refine q_sipush (pc := 3) 400 rfl (by decide) ?_
    refine q_icmp_ge (pc := 6) 24 rfl (by decide) (fun h9 => absurd h9 (nI_ge (b := 400) hk1 (by decide))) (fun _ => ?_)
    refine q_aload_n (pc := 9) (j := 0) rfl rfl ?_
    refine q_get (pc := 10) (a := r) (v := .ref (r + 1)) rfl fl_X5_9 hs.1 rfl rfl ?_
    refine q_iload_n (pc := 13) (j := 3) rfl rfl ?_
    refine q_iconst (pc := 14) 0 rfl (by decide) ?_
    refine q_callS (pc := 15) (as := [.ref (r + 1), .int (nI k), .int 0]) (rest := []) (st2 := []) rfl ce_X8_writeFlag ml_X5_22 st_X8_writeFlag rfl (by omega) (Nat.le_of_ble_eq_true rfl) (sp_writeFlagN (k := k) hs.2.1 (by omega) (by decide) (by decide)) rfl ?_
    refine q_iinc (pc := 18) (j := 3) (n := 1) (nI (k + 1)) [some (.ref r), some (.ref q), some (.ref t), some (.int (nI (k + 1))), none, none, none] rfl (by decide) rfl (nI_1 k) rfl ?_
    refine q_goto (pc := 21) 2 rfl (by decide) ?_
    exact q_S skc_s (ih (k + 1) (by omega))
set_option maxRecDepth 100000 in
theorem lp_X5_traceB {n0 : Nat} {X : Nat × (Nat → Int32)} {P : Option Value → PSt → Prop} {d : Nat} (hd9 : 3 ≤ d) {sh : List PSh} {S : PSt} {r q t a n : Nat} (hs : isSk sh r) (hq : isSg sh q) (ht : isSt sh t) (hn : n ≤ 32) (han : a + n ≤ 36) (hz : S.1 t 7 = nI n) (hf : S.1 t 6 = nI a) (hrt : r + 4 ≤ t ∨ t + 7 ≤ r) (hrq : r + 4 ≤ q ∨ q + 2 ≤ r) (hpos : ∀ k, k < n → 0 ≤ (FP.f2i (S.2.1 (t + 6) k)).toInt) (hex : ∀ x4 x5 x6, pV mX5_trace d n0 X sh P 103 [some (.ref r), some (.ref q), some (.ref t), some (.int (nI n)), x4, x5, x6] [] (trS S r q t a n)) : ∀ (m k : Nat) (x4 x5 x6 : Option Value), k + m = n → pV mX5_trace d n0 X sh P 35 [some (.ref r), some (.ref q), some (.ref t), some (.int (nI k)), x4, x5, x6] [] (trS S r q t a k) := by
  intro m
  induction m with
  | zero =>
    intro k x4 x5 x6 hk
    have hk : k = n := by omega
    subst hk
    refine q_iload_n (pc := 35) (j := 3) rfl rfl ?_
    refine q_aload_n (pc := 36) (j := 2) rfl rfl ?_
    refine q_get (pc := 37) (a := t) (v := .int ((trS S r q t a k).1 t 7)) rfl fl_X5_26 ht.1 rfl rfl ?_
    exact q_icmp_ge (pc := 40) 103 rfl (by decide) (fun _ => hex _ _ _) (fun h9 => absurd (by rw [trS_I (by omega) (by omega) (by omega), hz]; exact Int32.le_refl _) h9)
  | succ m ih =>
    intro k x4 x5 x6 hk
    have hk1 : k < n := by omega
    refine q_iload_n (pc := 35) (j := 3) rfl rfl ?_
    refine q_aload_n (pc := 36) (j := 2) rfl rfl ?_
    refine q_get (pc := 37) (a := t) (v := .int ((trS S r q t a k).1 t 7)) rfl fl_X5_26 ht.1 rfl rfl ?_
    refine q_st (st2 := [.int (nI n), .int (nI k)]) (by rw [show ((trS S r q t a k).1 t 7) = nI n by rw [trS_I (by omega) (by omega) (by omega)]; exact hz]) ?_
    refine q_icmp_ge (pc := 40) 103 rfl (by decide) (fun h9 => absurd h9 (nI_ge hk1 (by omega))) (fun _ => ?_)
    refine q_aload_n (pc := 43) (j := 2) rfl rfl ?_
    refine q_get (pc := 44) (a := t) (v := .int ((trS S r q t a k).1 t 6)) rfl fl_X5_32 ht.1 rfl rfl ?_
    refine q_st (st2 := [.int (nI a)]) (by rw [show ((trS S r q t a k).1 t 6) = nI a by rw [trS_I (by omega) (by omega) (by omega)]; exact hf]) ?_
    refine q_iload_n (pc := 47) (j := 3) rfl rfl ?_
    refine q_iadd (pc := 48) rfl ?_
    refine q_st (st2 := [.int (nI (a + k))]) (by rw [nI_add a k]) ?_
    refine q_istore (pc := 49) (j := 4) [some (.ref r), some (.ref q), some (.ref t), some (.int (nI k)), some (.int (nI (a + k))), x5, x6] rfl (by decide) rfl ?_
    refine q_aload_n (pc := 51) (j := 2) rfl rfl ?_
    refine q_iload (pc := 52) (j := 4) rfl rfl ?_
    refine q_callV (pc := 54) (as := [.int (nI (a + k))]) (rest := []) (b := t) (st2 := [.int (FP.f2i ((trS S r q t a k).2.1 (t + 6) (a + k - a)))]) rfl ce_X6_cell ml_X5_35 im_X6_cell se_X6_cell ht.1 rfl rfl rfl (by omega) (Nat.le_of_ble_eq_true rfl) (sp_X6_cell (S := (trS S r q t a k)) (a := a) (c := a + k) ht (by rw [trS_I (by omega) (by omega) (by omega)]; exact hf) (by omega) (by omega)) rfl ?_
    refine q_st (st2 := [.int (FP.f2i (S.2.1 (t + 6) k))]) (by rw [show (FP.f2i ((trS S r q t a k).2.1 (t + 6) (a + k - a))) = (FP.f2i (S.2.1 (t + 6) k)) by rw [trS_2, Nat.add_sub_cancel_left]]) ?_
    refine q_istore (pc := 57) (j := 5) [some (.ref r), some (.ref q), some (.ref t), some (.int (nI k)), some (.int (nI (a + k))), some (.int (FP.f2i (S.2.1 (t + 6) k))), x6] rfl (by decide) rfl ?_
    refine q_iload (pc := 59) (j := 5) rfl rfl ?_
    refine q_aload_n (pc := 61) (j := 1) rfl rfl ?_
    refine q_iload (pc := 62) (j := 4) rfl rfl ?_
    refine q_iconst (pc := 64) 3 rfl (by decide) ?_
    refine q_callV (pc := 65) (as := [.int (nI (a + k)), .int 3]) (rest := [.int (FP.f2i (S.2.1 (t + 6) k))]) (b := q) (st2 := [.int ((trS S r q t a k).1 (q + 1) (5 * (a + k) + 3)), .int (FP.f2i (S.2.1 (t + 6) k))]) rfl ce_X4_part ml_X5_39 im_X4_part se_X4_part hq.1 rfl rfl rfl (by omega) (Nat.le_of_ble_eq_true rfl) (sp_X4_part (c := (a + k)) (w := 3) hq (by omega) (by omega)) rfl ?_
    refine q_iadd (pc := 68) rfl ?_
    refine q_sipush (pc := 69) 400 rfl (by decide) ?_
    refine q_min (pc := 72) rfl ml_X5_45 (by omega) (Nat.le_of_ble_eq_true rfl) ?_
    refine q_st (st2 := [.int (inkE (FP.f2i (S.2.1 (t + 6) k)) (S.1 (q + 1) (5 * (a + k) + 3)))]) (by rw [show (if 400 < ((FP.f2i (S.2.1 (t + 6) k)) + ((trS S r q t a k).1 (q + 1) (5 * (a + k) + 3))) then 400 else ((FP.f2i (S.2.1 (t + 6) k)) + ((trS S r q t a k).1 (q + 1) (5 * (a + k) + 3)))) = (inkE (FP.f2i (S.2.1 (t + 6) k)) (S.1 (q + 1) (5 * (a + k) + 3))) by rw [trS_I (x := q + 1) (by omega) (by omega) (by omega)]; rfl]) ?_
    refine q_istore (pc := 75) (j := 6) [some (.ref r), some (.ref q), some (.ref t), some (.int (nI k)), some (.int (nI (a + k))), some (.int (FP.f2i (S.2.1 (t + 6) k))), some (.int (inkE (FP.f2i (S.2.1 (t + 6) k)) (S.1 (q + 1) (5 * (a + k) + 3))))] rfl (by decide) rfl ?_
    refine q_aload_n (pc := 77) (j := 0) rfl rfl ?_
    refine q_iload (pc := 78) (j := 5) rfl rfl ?_
    refine q_iload (pc := 80) (j := 6) rfl rfl ?_
    refine q_aload_n (pc := 82) (j := 1) rfl rfl ?_
    refine q_iload (pc := 83) (j := 4) rfl rfl ?_
    refine q_callV (pc := 85) (as := [.int (nI (a + k))]) (rest := [.int (inkE (FP.f2i (S.2.1 (t + 6) k)) (S.1 (q + 1) (5 * (a + k) + 3))), .int (FP.f2i (S.2.1 (t + 6) k)), .ref r]) (b := q) (st2 := [.int (topV ((trS S r q t a k).1 (q + 1) (5 * (a + k) + 0)) ((trS S r q t a k).1 (q + 1) (5 * (a + k) + 2)) ((trS S r q t a k).1 (q + 1) (5 * (a + k) + 4))), .int (inkE (FP.f2i (S.2.1 (t + 6) k)) (S.1 (q + 1) (5 * (a + k) + 3))), .int (FP.f2i (S.2.1 (t + 6) k)), .ref r]) rfl ce_X4_top ml_X5_50 im_X4_top se_X4_top hq.1 rfl rfl rfl (by omega) (Nat.le_of_ble_eq_true rfl) (sp_X4_top (c := (a + k)) hq (by omega)) rfl ?_
    refine q_st (st2 := [.int (topV (S.1 (q + 1) (5 * (a + k) + 0)) (S.1 (q + 1) (5 * (a + k) + 2)) (S.1 (q + 1) (5 * (a + k) + 4))), .int (inkE (FP.f2i (S.2.1 (t + 6) k)) (S.1 (q + 1) (5 * (a + k) + 3))), .int (FP.f2i (S.2.1 (t + 6) k)), .ref r]) (by rw [show (topV ((trS S r q t a k).1 (q + 1) (5 * (a + k) + 0)) ((trS S r q t a k).1 (q + 1) (5 * (a + k) + 2)) ((trS S r q t a k).1 (q + 1) (5 * (a + k) + 4))) = (topV (S.1 (q + 1) (5 * (a + k) + 0)) (S.1 (q + 1) (5 * (a + k) + 2)) (S.1 (q + 1) (5 * (a + k) + 4))) by rw [trS_I (x := q + 1) (by omega) (by omega) (by omega)]]) ?_
    refine q_aload_n (pc := 88) (j := 1) rfl rfl ?_
    refine q_iload (pc := 89) (j := 4) rfl rfl ?_
    refine q_callV (pc := 91) (as := [.int (nI (a + k))]) (rest := [.int (topV (S.1 (q + 1) (5 * (a + k) + 0)) (S.1 (q + 1) (5 * (a + k) + 2)) (S.1 (q + 1) (5 * (a + k) + 4))), .int (inkE (FP.f2i (S.2.1 (t + 6) k)) (S.1 (q + 1) (5 * (a + k) + 3))), .int (FP.f2i (S.2.1 (t + 6) k)), .ref r]) (b := q) (st2 := [.int (botV ((trS S r q t a k).1 (q + 1) (5 * (a + k) + 0)) ((trS S r q t a k).1 (q + 1) (5 * (a + k) + 2))), .int (topV (S.1 (q + 1) (5 * (a + k) + 0)) (S.1 (q + 1) (5 * (a + k) + 2)) (S.1 (q + 1) (5 * (a + k) + 4))), .int (inkE (FP.f2i (S.2.1 (t + 6) k)) (S.1 (q + 1) (5 * (a + k) + 3))), .int (FP.f2i (S.2.1 (t + 6) k)), .ref r]) rfl ce_X4_bottom ml_X5_53 im_X4_bottom se_X4_bottom hq.1 rfl rfl rfl (by omega) (Nat.le_of_ble_eq_true rfl) (sp_X4_bottom (c := (a + k)) hq (by omega)) rfl ?_
    have ec : (FP.f2i (S.2.1 (t + 6) k)) = nI (FP.f2i (S.2.1 (t + 6) k)).toInt.toNat := nI_of0 (hpos k hk1)
    refine q_st (st2 := [.int (botV (S.1 (q + 1) (5 * (a + k) + 0)) (S.1 (q + 1) (5 * (a + k) + 2))), .int (topV (S.1 (q + 1) (5 * (a + k) + 0)) (S.1 (q + 1) (5 * (a + k) + 2)) (S.1 (q + 1) (5 * (a + k) + 4))), .int (inkE (FP.f2i (S.2.1 (t + 6) k)) (S.1 (q + 1) (5 * (a + k) + 3))), .int (nI (FP.f2i (S.2.1 (t + 6) k)).toInt.toNat), .ref r]) (by rw [← ec, trS_I (x := q + 1) (by omega) (by omega) (by omega)]) ?_
    refine q_callV (pc := 94) (as := [.int (nI (FP.f2i (S.2.1 (t + 6) k)).toInt.toNat), .int (inkE (FP.f2i (S.2.1 (t + 6) k)) (S.1 (q + 1) (5 * (a + k) + 3))), .int (topV (S.1 (q + 1) (5 * (a + k) + 0)) (S.1 (q + 1) (5 * (a + k) + 2)) (S.1 (q + 1) (5 * (a + k) + 4))), .int (botV (S.1 (q + 1) (5 * (a + k) + 0)) (S.1 (q + 1) (5 * (a + k) + 2)))]) (rest := []) (b := r) (st2 := []) rfl ce_X5_ink ml_X5_56 im_X5_ink se_X5_ink hs.1 rfl rfl rfl (by omega) (Nat.le_of_ble_eq_true rfl) (sp_X5_ink (c := (FP.f2i (S.2.1 (t + 6) k)).toInt.toNat) hs nN_lt (inkE_le _ _)) rfl ?_
    refine q_iinc (pc := 97) (j := 3) (n := 1) (nI (k + 1)) [some (.ref r), some (.ref q), some (.ref t), some (.int (nI (k + 1))), some (.int (nI (a + k))), some (.int (FP.f2i (S.2.1 (t + 6) k))), some (.int (inkE (FP.f2i (S.2.1 (t + 6) k)) (S.1 (q + 1) (5 * (a + k) + 3))))] rfl (by decide) rfl (nI_1 k) rfl ?_
    refine q_goto (pc := 100) 35 rfl (by decide) ?_
    exact ih (k + 1) _ _ _ (by omega)
set_option maxRecDepth 100000 in
theorem sp_X5_trace {sh : List PSh} {S : PSt} {r q t a n : Nat} (hs : isSk sh r) (hq : isSg sh q) (ht : isSt sh t) (hn : n ≤ 32) (han : a + n ≤ 36) (hz : S.1 t 7 = nI n) (hf : S.1 t 6 = nI a) (hrt : r + 4 ≤ t ∨ t + 7 ≤ r) (hrq : r + 4 ≤ q ∨ q + 2 ≤ r) (hpos : ∀ k, k < n → 0 ≤ (FP.f2i (S.2.1 (t + 6) k)).toInt)  : pF mX5_trace 3 [.ref r, .ref q, .ref t] sh S (trS S r q t a n) (none) := by
  refine pF.of (pG.of [some (.ref r), some (.ref q), some (.ref t), none, none, none, none] (by decide) tk_X5_trace (Nat.le_of_ble_eq_true rfl) rfl (fun X => ?_))
  refine q_iconst (pc := 0) 0 rfl (by decide) ?_
  refine q_istore_n (pc := 1) (j := 3) [some (.ref r), some (.ref q), some (.ref t), some (.int 0), none, none, none] rfl (by decide) rfl ?_
  refine q_S skc_0.symm (lp_X5_traceA (by decide) hs hq ht hn han hz hf hrt hrq hpos ?_ 400 0 (Nat.zero_add 400))
  refine q_aload_n (pc := 24) (j := 1) rfl rfl ?_
  refine q_ifnull (pc := 25) rfl ?_
  refine q_aload_n (pc := 28) (j := 2) rfl rfl ?_
  refine q_ifnonnull (pc := 29) 33 rfl (by decide) ?_
  refine q_iconst (pc := 33) 0 rfl (by decide) ?_
  refine q_istore_n (pc := 34) (j := 3) [some (.ref r), some (.ref q), some (.ref t), some (.int 0), none, none, none] rfl (by decide) rfl ?_
  refine lp_X5_traceB (by decide) hs hq ht hn han hz hf hrt hrq hpos (fun x4 x5 x6 => ?_) n 0 _ _ _ (Nat.zero_add n)
  exact q_vret (pc := 103) rfl rfl ⟨rfl, rfl⟩
