/-! Stretch: written by wip/whole/gen/c14.py -/
/-- the Stretch at the cell r -/
def isSt (sh : List PSh) (r : Nat) : Prop := sh[r]? = some (.inr (5, [r + 1 + 3, r + 2 + 3, r + 3 + 3, r + 4 + 3, r + 5 + 3, r + 6 + 3, 0, 0, 1, 1])) ∧ sh[r + 1]? = some (.inl (1, 32)) ∧ sh[r + 2]? = some (.inl (1, 32)) ∧ sh[r + 3]? = some (.inl (1, 32)) ∧ sh[r + 4]? = some (.inl (2, 32)) ∧ sh[r + 5]? = some (.inl (1, 32)) ∧ sh[r + 6]? = some (.inl (1, 32))
/-- IDEAL, FLEX, ROD of the sign i of the Signs q -/
def idC (S : PSt) (q i : Nat) : UInt32 := idF (S.1 (q + 1) (5 * i + 0)) (S.1 (q + 1) (5 * i + 1))
def flC (S : PSt) (q i : Nat) : UInt32 := flF (S.1 (q + 1) (5 * i + 0)) (idC S q i)
def roC (S : PSt) (q i : Nat) : UInt32 := roF (S.1 (q + 1) (5 * i + 3))
/-- k columns from a on are taken -/
def tk (S : PSt) (r q a : Nat) (w : Int32) (k : Nat) : PSt :=
  (fun c j => if c = r ∧ j = 6 then nI a else if c = r ∧ j = 7 then nI k else S.1 c j,
   fun c j => if c = r ∧ j = 8 then FP.i2f w else if c = r + 1 ∧ j < k then idC S q (a + j) else if c = r + 2 ∧ j < k then flC S q (a + j) else if c = r + 3 ∧ j < k then roC S q (a + j) else S.2.1 c j, S.2.2)
theorem tk_sz {S : PSt} {r q a : Nat} {w : Int32} {k : Nat} : (tk S r q a w k).1 r 7 = nI k := by simp [tk]
theorem tk_I {S : PSt} {r q a : Nat} {w : Int32} {k : Nat} (h : q + 1 ≠ r) : (tk S r q a w k).1 (q + 1) = S.1 (q + 1) := by funext j; simp [tk, h]
theorem tk_0 {S : PSt} {r q a : Nat} {w : Int32} : pSF (pSI (pSI S r 6 (nI a)) r 7 0) r 8 (FP.i2f w) = tk S r q a w 0 := by
  unfold pSF pSI pU tk
  refine Prod.ext (funext fun c => funext fun j => ?_) (Prod.ext (funext fun c => funext fun j => ?_) rfl)
  · dsimp only; (repeat' split) <;> first | rfl | (exfalso; omega)
  · dsimp only; (repeat' split) <;> first | rfl | (exfalso; omega)
theorem tk_s {S : PSt} {r q a : Nat} {w : Int32} {k : Nat} : pSI (pSF (pSF (pSF (tk S r q a w k) (r + 1) k (idC S q (a + k))) (r + 2) k (flC S q (a + k))) (r + 3) k (roC S q (a + k))) r 7 (nI (k + 1)) = tk S r q a w (k + 1) := by
  unfold pSF pSI pU tk
  refine Prod.ext (funext fun c => funext fun j => ?_) (Prod.ext (funext fun c => funext fun j => ?_) rfl)
  · dsimp only; (repeat' split) <;> first | rfl | (exfalso; omega)
  · dsimp only
    by_cases hj : j = k
    · subst hj; (repeat' split) <;> first | rfl | (exfalso; omega)
    · (repeat' split) <;> first | rfl | (exfalso; omega)
/-- sums from 0 on -/
def sumF (f : Nat → UInt32) : Nat → UInt32
  | 0 => FP.fconst0
  | k + 1 => FP.fadd (sumF f k) (f k)
/-- sums of those that are (not) held -/
def bsum (h : Nat → Bool) (b : Bool) (f : Nat → UInt32) : Nat → UInt32
  | 0 => FP.fconst0
  | k + 1 => if h k = b then FP.fadd (bsum h b f k) (f k) else bsum h b f k
def hd (S : PSt) (r : Nat) (j : Nat) : Bool := decide (S.1 (r + 4) j ≠ 0)
def fgt (x y : UInt32) : Bool := decide (0 < Op.cmpValue (FP.fcmp x y) .l)
def flt (x y : UInt32) : Bool := decide (Op.cmpValue (FP.fcmp x y) .g < 0)
def balF (W : UInt32) (ids fls rods : Nat → UInt32) (h : Nat → Bool) (n : Nat) : UInt32 :=
  if fgt (bsum h false fls n) FP.fconst0 then FP.fdiv (FP.fsub (FP.fsub W (bsum h true rods n)) (bsum h false ids n)) (bsum h false fls n) else FP.fconst0
def balS (S : PSt) (r n : Nat) : UInt32 := balF (S.2.1 r 8) (S.2.1 (r + 1)) (S.2.1 (r + 2)) (S.2.1 (r + 3)) (hd S r) n
def okBal (W : UInt32) (ids fls rods : Nat → UInt32) (h : Nat → Bool) (n : Nat) : Prop :=
  (∀ k, k < n → h k = true → vf_n32 (FP.fadd (bsum h true rods k) (rods k))) ∧ (∀ k, k < n → h k = false → vf_n32 (FP.fadd (bsum h false ids k) (ids k)) ∧ vf_n32 (FP.fadd (bsum h false fls k) (fls k))) ∧
  (fgt (bsum h false fls n) FP.fconst0 = true → vf_n32 (FP.fsub W (bsum h true rods n)) ∧ vf_n32 (FP.fsub (FP.fsub W (bsum h true rods n)) (bsum h false ids n)) ∧ vf_n32 (FP.fdiv (FP.fsub (FP.fsub W (bsum h true rods n)) (bsum h false ids n)) (bsum h false fls n)))
def okBalS (S : PSt) (r n : Nat) : Prop := okBal (S.2.1 r 8) (S.2.1 (r + 1)) (S.2.1 (r + 2)) (S.2.1 (r + 3)) (hd S r) n
def wan (S : PSt) (r j : Nat) : UInt32 := FP.fadd (S.2.1 (r + 1) j) (FP.fmul (S.2.1 r 9) (S.2.1 (r + 2) j))
def okW (S : PSt) (r n : Nat) : Prop := ∀ k, k < n → vf_n32 (FP.fmul (S.2.1 r 9) (S.2.1 (r + 2) k)) ∧ vf_n32 (wan S r k)
def newly (S : PSt) (r j : Nat) : Bool := !(hd S r j) && flt (wan S r j) (S.2.1 (r + 3) j)
def anyB (f : Nat → Bool) : Nat → Bool
  | 0 => false
  | k + 1 => anyB f k || f k
def hm (S : PSt) (r k : Nat) : PSt := (fun c j => if c = r + 4 ∧ j < k ∧ newly S r j = true then 1 else S.1 c j, S.2)
theorem hm_0 {S : PSt} {r : Nat} : hm S r 0 = S := by
  unfold hm
  refine Prod.ext (funext fun c => funext fun j => ?_) rfl
  dsimp only; rw [if_neg (by omega)]
theorem hm_y {S : PSt} {r k : Nat} (h : newly S r k = true) : pSI (hm S r k) (r + 4) k 1 = hm S r (k + 1) := by
  unfold hm pSI pU
  refine Prod.ext (funext fun c => funext fun j => ?_) rfl
  dsimp only
  by_cases hj : j = k
  · subst hj; simp [h]
  · by_cases hc : c = r + 4 ∧ j < k ∧ newly S r j = true
    · have : c = r + 4 ∧ j < k + 1 ∧ newly S r j = true := ⟨hc.1, by omega, hc.2.2⟩
      simp [hj, hc, this]
    · have : ¬ (c = r + 4 ∧ j < k + 1 ∧ newly S r j = true) := fun q => hc ⟨q.1, by omega, q.2.2⟩
      rw [if_neg (by omega), if_neg hc, if_neg this]
theorem hm_n {S : PSt} {r k : Nat} (h : newly S r k = false) : hm S r k = hm S r (k + 1) := by
  unfold hm
  refine Prod.ext (funext fun c => funext fun j => ?_) rfl
  dsimp only
  by_cases hj : j = k
  · subst hj; simp [h]
  · by_cases hc : c = r + 4 ∧ j < k ∧ newly S r j = true
    · have : c = r + 4 ∧ j < k + 1 ∧ newly S r j = true := ⟨hc.1, by omega, hc.2.2⟩
      simp [hc, this]
    · have : ¬ (c = r + 4 ∧ j < k + 1 ∧ newly S r j = true) := fun q => hc ⟨q.1, by omega, q.2.2⟩
      rw [if_neg hc, if_neg this]
theorem hm_f {S : PSt} {r k : Nat} : (hm S r k).2 = S.2 := rfl
theorem hm_at {S : PSt} {r k : Nat} : (hm S r k).1 (r + 4) k = S.1 (r + 4) k := by simp [hm]
theorem hm_sz {S : PSt} {r k : Nat} : (hm S r k).1 r 7 = S.1 r 7 := by simp [hm]
/-- one round: a new pull, more are held -/
def rd1 (S : PSt) (r n : Nat) : PSt := hm (pSF S r 9 (balS S r n)) r n
def chg (S : PSt) (r n : Nat) : Bool := anyB (newly (pSF S r 9 (balS S r n)) r) n
def rndS (r n : Nat) : Nat → PSt → PSt
  | 0, S => S
  | k + 1, S => if chg S r n then rndS r n k (rd1 S r n) else rd1 S r n
def lenS (S : PSt) (r j : Nat) : UInt32 := if S.1 (r + 4) j ≠ 0 then S.2.1 (r + 3) j else wan S r j
def lnS (S : PSt) (r k : Nat) : PSt := (S.1, fun c j => if c = r + 5 ∧ j < k then lenS S r j else if c = r + 6 ∧ j < k then sumF (lenS S r) j else S.2.1 c j, S.2.2)
/-- the springs, rods and the width are the same -/
def sameSp (S S2 : PSt) (r : Nat) : Prop := S2.2.1 (r + 1) = S.2.1 (r + 1) ∧ S2.2.1 (r + 2) = S.2.1 (r + 2) ∧ S2.2.1 (r + 3) = S.2.1 (r + 3) ∧ S2.2.1 r 8 = S.2.1 r 8 ∧ S2.1 r 7 = S.1 r 7
/-- no operation answers NaN, whatever is held -/
def okSp (S : PSt) (r n : Nat) : Prop := ∀ S2, sameSp S S2 r → okBalS S2 r n ∧ okW (pSF S2 r 9 (balS S2 r n)) r n
theorem okSp.mono {S S2 : PSt} {r n : Nat} (h : okSp S r n) (hs : sameSp S S2 r) : okSp S2 r n := fun S3 h3 => h S3 ⟨h3.1.trans hs.1, h3.2.1.trans hs.2.1, h3.2.2.1.trans hs.2.2.1, h3.2.2.2.1.trans hs.2.2.2.1, h3.2.2.2.2.trans hs.2.2.2.2⟩
theorem sameSp_pull {S : PSt} {r : Nat} {x : UInt32} : sameSp S (pSF S r 9 x) r := ⟨by funext j; simp [pSF, pU], by funext j; simp [pSF, pU], by funext j; simp [pSF, pU], by simp [pSF, pU], rfl⟩
theorem sameSp_rd1 {S : PSt} {r n : Nat} : sameSp S (rd1 S r n) r := ⟨by funext j; simp [rd1, hm, pSF, pU], by funext j; simp [rd1, hm, pSF, pU], by funext j; simp [rd1, hm, pSF, pU], by simp [rd1, hm, pSF, pU], by simp [rd1, hm, pSF]⟩
theorem pB_dec {p : Prop} {_ : Decidable p} (h : ¬ pB (decide p) = 0) : p := of_decide_eq_true (pB_t h)
theorem pB_ndec {p : Prop} {_ : Decidable p} (h : pB (decide p) = 0) : ¬ p := of_decide_eq_false (pB_f h)

set_option maxRecDepth 100000 in
theorem lp_X6_sum {n0 : Nat} {X : Nat × (Nat → Int32)} {P : Option Value → PSt → Prop} {d : Nat} (hd9 : 1 ≤ d) {sh : List PSh} {S : PSt} {r n : Nat} (hs : isSt sh r) (hn : n ≤ 32) (hz : S.1 r 7 = nI n) {a : Nat} (ha : sh[a]? = some (.inl (1, 32))) (hok : ∀ k, k < n → vf_n32 (FP.fadd (sumF (S.2.1 a) k) (S.2.1 a k))) (hex : pV mX6_sum d n0 X sh P 26 [some (.ref r), some (.ref a), some (.float (sumF (S.2.1 a) n)), some (.int (nI n))] [] S) : ∀ (m k : Nat), k + m = n → pV mX6_sum d n0 X sh P 4 [some (.ref r), some (.ref a), some (.float (sumF (S.2.1 a) k)), some (.int (nI k))] [] S := by
  intro m
  induction m with
  | zero =>
    intro k hk
    have hk : k = n := by omega
    subst hk
    refine q_iload_n (pc := 4) (j := 3) rfl rfl ?_
    refine q_aload_n (pc := 5) (j := 0) rfl rfl ?_
    refine q_get (pc := 6) (a := r) (v := .int (S.1 r 7)) rfl fl_X6_35 hs.1 rfl rfl ?_
    exact q_icmp_ge (pc := 9) 26 rfl (by decide) (fun _ => hex) (fun h9 => absurd (by rw [hz]; exact Int32.le_refl _) h9)
  | succ m ih =>
    intro k hk
    have hk1 : k < n := by omega
    refine q_iload_n (pc := 4) (j := 3) rfl rfl ?_
    refine q_aload_n (pc := 5) (j := 0) rfl rfl ?_
    refine q_get (pc := 6) (a := r) (v := .int (S.1 r 7)) rfl fl_X6_35 hs.1 rfl rfl ?_
    refine q_st (st2 := [.int (nI n), .int (nI k)]) (by rw [(show (S.1 r 7) = nI n from hz)]) ?_
    refine q_icmp_ge (pc := 9) 26 rfl (by decide) (fun h9 => absurd h9 (nI_ge hk1 (by omega))) (fun _ => ?_)
    refine q_fload_n (pc := 12) (j := 2) rfl rfl ?_
    refine q_aload_n (pc := 13) (j := 1) rfl rfl ?_
    refine q_iload_n (pc := 14) (j := 3) rfl rfl ?_
    refine q_callS (pc := 15) (as := [.ref a, .int (nI k)]) (rest := [.float (sumF (S.2.1 a) k)]) (st2 := [.float (S.2.1 a k), .float (sumF (S.2.1 a) k)]) rfl ce_X8_readFloat ml_X6_87 st_X8_readFloat rfl (by omega) (Nat.le_of_ble_eq_true rfl) (sp_readFloatN (k := k) ha (by omega) (by decide)) rfl ?_
    refine q_fadd (pc := 18) rfl (hok k hk1) ?_
    refine q_fstore_n (pc := 19) (j := 2) [some (.ref r), some (.ref a), some (.float (FP.fadd (sumF (S.2.1 a) k) (S.2.1 a k))), some (.int (nI k))] rfl (by decide) rfl ?_
    refine q_iinc (pc := 20) (j := 3) (n := 1) (nI (k + 1)) [some (.ref r), some (.ref a), some (.float (FP.fadd (sumF (S.2.1 a) k) (S.2.1 a k))), some (.int (nI (k + 1)))] rfl (by decide) rfl (nI_1 k) rfl ?_
    refine q_goto (pc := 23) 4 rfl (by decide) ?_
    exact ih (k + 1) (by omega)
set_option maxRecDepth 100000 in
theorem sp_X6_sum {sh : List PSh} {S : PSt} {r n : Nat} (hs : isSt sh r) (hn : n ≤ 32) (hz : S.1 r 7 = nI n) {a : Nat} (ha : sh[a]? = some (.inl (1, 32))) (hok : ∀ k, k < n → vf_n32 (FP.fadd (sumF (S.2.1 a) k) (S.2.1 a k))) : pF mX6_sum 1 [.ref r, .ref a] sh S S (some (.float (sumF (S.2.1 a) n))) := by
  refine pF.of (pG.of [some (.ref r), some (.ref a), none, none] (by decide) tk_X6_sum (Nat.le_of_ble_eq_true rfl) rfl (fun X => ?_))
  refine q_fconst0 (pc := 0) rfl ?_
  refine q_fstore_n (pc := 1) (j := 2) [some (.ref r), some (.ref a), some (.float FP.fconst0), none] rfl (by decide) rfl ?_
  refine q_iconst (pc := 2) 0 rfl (by decide) ?_
  refine q_istore_n (pc := 3) (j := 3) [some (.ref r), some (.ref a), some (.float FP.fconst0), some (.int 0)] rfl (by decide) rfl ?_
  refine lp_X6_sum (Nat.le_refl _) hs hn hz ha hok ?_ n 0 (Nat.zero_add n)
  refine q_fload_n (pc := 26) (j := 2) rfl rfl ?_
  exact q_fret (pc := 27) rfl rfl ⟨rfl, rfl⟩
set_option maxRecDepth 100000 in
theorem sp_X6_stretched {sh : List PSh} {S : PSt} {r k : Nat} (hs : isSt sh r) (hk : k < 32) (hok : vf_n32 (FP.fmul (S.2.1 r 9) (S.2.1 (r + 2) k)) ∧ vf_n32 (wan S r k)) : pF mX6_stretched 1 [.ref r, .int (nI k)] sh S S (some (.float (wan S r k))) := by
  refine pF.of (pG.of [some (.ref r), some (.int (nI k))] (by decide) tk_X6_stretched (Nat.le_of_ble_eq_true rfl) rfl (fun X => ?_))
  refine q_aload_n (pc := 0) (j := 0) rfl rfl ?_
  refine q_get (pc := 1) (a := r) (v := .ref (r + 1)) rfl fl_X6_9 hs.1 rfl rfl ?_
  refine q_iload_n (pc := 4) (j := 1) rfl rfl ?_
  refine q_callS (pc := 5) (as := [.ref (r + 1), .int (nI k)]) (rest := []) (st2 := [.float (S.2.1 (r + 1) k)]) rfl ce_X8_readFloat ml_X6_87 st_X8_readFloat rfl (by decide) (Nat.le_of_ble_eq_true rfl) (sp_readFloatN (k := k) hs.2.1 (by omega) (by decide)) rfl ?_
  refine q_aload_n (pc := 8) (j := 0) rfl rfl ?_
  refine q_get (pc := 9) (a := r) (v := .float (S.2.1 r 9)) rfl fl_X6_42 hs.1 rfl rfl ?_
  refine q_aload_n (pc := 12) (j := 0) rfl rfl ?_
  refine q_get (pc := 13) (a := r) (v := .ref (r + 2)) rfl fl_X6_15 hs.1 rfl rfl ?_
  refine q_iload_n (pc := 16) (j := 1) rfl rfl ?_
  refine q_callS (pc := 17) (as := [.ref (r + 2), .int (nI k)]) (rest := [.float (S.2.1 r 9), .float (S.2.1 (r + 1) k)]) (st2 := [.float (S.2.1 (r + 2) k), .float (S.2.1 r 9), .float (S.2.1 (r + 1) k)]) rfl ce_X8_readFloat ml_X6_87 st_X8_readFloat rfl (by decide) (Nat.le_of_ble_eq_true rfl) (sp_readFloatN (k := k) hs.2.2.1 (by omega) (by decide)) rfl ?_
  refine q_fmul (pc := 20) rfl hok.1 ?_
  refine q_fadd (pc := 21) rfl hok.2 ?_
  exact q_fret (pc := 22) rfl rfl ⟨rfl, rfl⟩
set_option maxRecDepth 100000 in
theorem lp_X6_balance {n0 : Nat} {X : Nat × (Nat → Int32)} {P : Option Value → PSt → Prop} {d : Nat} (hd9 : 1 ≤ d) {sh : List PSh} {S : PSt} {r n : Nat} (hs : isSt sh r) (hn : n ≤ 32) (hz : S.1 r 7 = nI n) (hok : okBalS S r n) (hex : pV mX6_balance d n0 X sh P 75 [some (.ref r), some (.float (bsum (hd S r) true (S.2.1 (r + 3)) n)), some (.float (bsum (hd S r) false (S.2.1 (r + 1)) n)), some (.float (bsum (hd S r) false (S.2.1 (r + 2)) n)), some (.int (nI n))] [] S) : ∀ (m k : Nat), k + m = n → pV mX6_balance d n0 X sh P 9 [some (.ref r), some (.float (bsum (hd S r) true (S.2.1 (r + 3)) k)), some (.float (bsum (hd S r) false (S.2.1 (r + 1)) k)), some (.float (bsum (hd S r) false (S.2.1 (r + 2)) k)), some (.int (nI k))] [] S := by
  intro m
  induction m with
  | zero =>
    intro k hk
    have hk : k = n := by omega
    subst hk
    refine q_iload (pc := 9) (j := 4) rfl rfl ?_
    refine q_aload_n (pc := 11) (j := 0) rfl rfl ?_
    refine q_get (pc := 12) (a := r) (v := .int (S.1 r 7)) rfl fl_X6_35 hs.1 rfl rfl ?_
    exact q_icmp_ge (pc := 15) 75 rfl (by decide) (fun _ => hex) (fun h9 => absurd (by rw [hz]; exact Int32.le_refl _) h9)
  | succ m ih =>
    intro k hk
    have hk1 : k < n := by omega
    refine q_iload (pc := 9) (j := 4) rfl rfl ?_
    refine q_aload_n (pc := 11) (j := 0) rfl rfl ?_
    refine q_get (pc := 12) (a := r) (v := .int (S.1 r 7)) rfl fl_X6_35 hs.1 rfl rfl ?_
    refine q_st (st2 := [.int (nI n), .int (nI k)]) (by rw [(show (S.1 r 7) = nI n from hz)]) ?_
    refine q_icmp_ge (pc := 15) 75 rfl (by decide) (fun h9 => absurd h9 (nI_ge hk1 (by omega))) (fun _ => ?_)
    refine q_aload_n (pc := 18) (j := 0) rfl rfl ?_
    refine q_get (pc := 19) (a := r) (v := .ref (r + 4)) rfl fl_X6_21 hs.1 rfl rfl ?_
    refine q_iload (pc := 22) (j := 4) rfl rfl ?_
    refine q_callS (pc := 24) (as := [.ref (r + 4), .int (nI k)]) (rest := []) (st2 := [.int (pB (decide (S.1 (r + 4) k ≠ 0)))]) rfl ce_X8_readFlag ml_X6_83 st_X8_readFlag rfl (by omega) (Nat.le_of_ble_eq_true rfl) (sp_readFlagN (k := k) hs.2.2.2.2.1 (by omega) (by decide)) rfl ?_
    refine q_join 69 [some (.ref r), some (.float (bsum (hd S r) true (S.2.1 (r + 3)) (k + 1))), some (.float (bsum (hd S r) false (S.2.1 (r + 1)) (k + 1))), some (.float (bsum (hd S r) false (S.2.1 (r + 2)) (k + 1))), some (.int (nI k))] [] S ?_ (fun key27 => ?_)
    · refine q_iinc (pc := 69) (j := 4) (n := 1) (nI (k + 1)) [some (.ref r), some (.float (bsum (hd S r) true (S.2.1 (r + 3)) (k + 1))), some (.float (bsum (hd S r) false (S.2.1 (r + 1)) (k + 1))), some (.float (bsum (hd S r) false (S.2.1 (r + 2)) (k + 1))), some (.int (nI (k + 1)))] rfl (by decide) rfl (nI_1 k) rfl ?_
      refine q_goto (pc := 72) 9 rfl (by decide) ?_
      exact ih (k + 1) (by omega)
    · refine q_if_eq (pc := 27) 45 rfl (by decide) (fun h27 => ?_) (fun h27 => ?_)
      · have hb27 : hd S r k = false := decide_eq_false (pB_ndec h27)
        refine q_fload_n (pc := 45) (j := 2) rfl rfl ?_
        refine q_aload_n (pc := 46) (j := 0) rfl rfl ?_
        refine q_get (pc := 47) (a := r) (v := .ref (r + 1)) rfl fl_X6_9 hs.1 rfl rfl ?_
        refine q_iload (pc := 50) (j := 4) rfl rfl ?_
        refine q_callS (pc := 52) (as := [.ref (r + 1), .int (nI k)]) (rest := [.float (bsum (hd S r) false (S.2.1 (r + 1)) k)]) (st2 := [.float (S.2.1 (r + 1) k), .float (bsum (hd S r) false (S.2.1 (r + 1)) k)]) rfl ce_X8_readFloat ml_X6_87 st_X8_readFloat rfl (by omega) (Nat.le_of_ble_eq_true rfl) (sp_readFloatN (k := k) hs.2.1 (by omega) (by decide)) rfl ?_
        refine q_fadd (pc := 55) rfl (hok.2.1 k hk1 hb27).1 ?_
        refine q_fstore_n (pc := 56) (j := 2) [some (.ref r), some (.float (bsum (hd S r) true (S.2.1 (r + 3)) k)), some (.float (FP.fadd (bsum (hd S r) false (S.2.1 (r + 1)) k) (S.2.1 (r + 1) k))), some (.float (bsum (hd S r) false (S.2.1 (r + 2)) k)), some (.int (nI k))] rfl (by decide) rfl ?_
        refine q_fload_n (pc := 57) (j := 3) rfl rfl ?_
        refine q_aload_n (pc := 58) (j := 0) rfl rfl ?_
        refine q_get (pc := 59) (a := r) (v := .ref (r + 2)) rfl fl_X6_15 hs.1 rfl rfl ?_
        refine q_iload (pc := 62) (j := 4) rfl rfl ?_
        refine q_callS (pc := 64) (as := [.ref (r + 2), .int (nI k)]) (rest := [.float (bsum (hd S r) false (S.2.1 (r + 2)) k)]) (st2 := [.float (S.2.1 (r + 2) k), .float (bsum (hd S r) false (S.2.1 (r + 2)) k)]) rfl ce_X8_readFloat ml_X6_87 st_X8_readFloat rfl (by omega) (Nat.le_of_ble_eq_true rfl) (sp_readFloatN (k := k) hs.2.2.1 (by omega) (by decide)) rfl ?_
        refine q_fadd (pc := 67) rfl (hok.2.1 k hk1 hb27).2 ?_
        refine q_fstore_n (pc := 68) (j := 3) [some (.ref r), some (.float (bsum (hd S r) true (S.2.1 (r + 3)) k)), some (.float (FP.fadd (bsum (hd S r) false (S.2.1 (r + 1)) k) (S.2.1 (r + 1) k))), some (.float (FP.fadd (bsum (hd S r) false (S.2.1 (r + 2)) k) (S.2.1 (r + 2) k))), some (.int (nI k))] rfl (by decide) rfl ?_
        exact q_L (by simp [bsum, hb27]) key27
      · have hb27 : hd S r k = true := decide_eq_true (pB_dec h27)
        refine q_fload_n (pc := 30) (j := 1) rfl rfl ?_
        refine q_aload_n (pc := 31) (j := 0) rfl rfl ?_
        refine q_get (pc := 32) (a := r) (v := .ref (r + 3)) rfl fl_X6_18 hs.1 rfl rfl ?_
        refine q_iload (pc := 35) (j := 4) rfl rfl ?_
        refine q_callS (pc := 37) (as := [.ref (r + 3), .int (nI k)]) (rest := [.float (bsum (hd S r) true (S.2.1 (r + 3)) k)]) (st2 := [.float (S.2.1 (r + 3) k), .float (bsum (hd S r) true (S.2.1 (r + 3)) k)]) rfl ce_X8_readFloat ml_X6_87 st_X8_readFloat rfl (by omega) (Nat.le_of_ble_eq_true rfl) (sp_readFloatN (k := k) hs.2.2.2.1 (by omega) (by decide)) rfl ?_
        refine q_fadd (pc := 40) rfl (hok.1 k hk1 hb27) ?_
        refine q_fstore_n (pc := 41) (j := 1) [some (.ref r), some (.float (FP.fadd (bsum (hd S r) true (S.2.1 (r + 3)) k) (S.2.1 (r + 3) k))), some (.float (bsum (hd S r) false (S.2.1 (r + 1)) k)), some (.float (bsum (hd S r) false (S.2.1 (r + 2)) k)), some (.int (nI k))] rfl (by decide) rfl ?_
        refine q_goto (pc := 42) 69 rfl (by decide) ?_
        exact q_L (by simp [bsum, hb27]) key27
set_option maxRecDepth 100000 in
theorem sp_X6_balance {sh : List PSh} {S : PSt} {r n : Nat} (hs : isSt sh r) (hn : n ≤ 32) (hz : S.1 r 7 = nI n) (hok : okBalS S r n) : pF mX6_balance 1 [.ref r] sh S S (some (.float (balS S r n))) := by
  refine pF.of (pG.of [some (.ref r), none, none, none, none] (by decide) tk_X6_balance (Nat.le_of_ble_eq_true rfl) rfl (fun X => ?_))
  refine q_fconst0 (pc := 0) rfl ?_
  refine q_fstore_n (pc := 1) (j := 1) [some (.ref r), some (.float FP.fconst0), none, none, none] rfl (by decide) rfl ?_
  refine q_fconst0 (pc := 2) rfl ?_
  refine q_fstore_n (pc := 3) (j := 2) [some (.ref r), some (.float FP.fconst0), some (.float FP.fconst0), none, none] rfl (by decide) rfl ?_
  refine q_fconst0 (pc := 4) rfl ?_
  refine q_fstore_n (pc := 5) (j := 3) [some (.ref r), some (.float FP.fconst0), some (.float FP.fconst0), some (.float FP.fconst0), none] rfl (by decide) rfl ?_
  refine q_iconst (pc := 6) 0 rfl (by decide) ?_
  refine q_istore (pc := 7) (j := 4) [some (.ref r), some (.float FP.fconst0), some (.float FP.fconst0), some (.float FP.fconst0), some (.int 0)] rfl (by decide) rfl ?_
  refine lp_X6_balance (Nat.le_refl _) hs hn hz hok ?_ n 0 (Nat.zero_add n)
  refine q_fload_n (pc := 75) (j := 3) rfl rfl ?_
  refine q_fconst0 (pc := 76) rfl ?_
  refine q_fcmp (pc := 77) (op := .l) rfl ?_
  refine q_join 95 [some (.ref r), some (.float (bsum (hd S r) true (S.2.1 (r + 3)) n)), some (.float (bsum (hd S r) false (S.2.1 (r + 1)) n)), some (.float (bsum (hd S r) false (S.2.1 (r + 2)) n)), some (.int (nI n))] [.float (balS S r n)] S ?_ (fun key78 => ?_)
  · exact q_fret (pc := 95) rfl rfl ⟨rfl, rfl⟩
  · refine q_if_le (pc := 78) 94 rfl (by decide) (fun h78 => ?_) (fun h78 => ?_)
    · refine q_fconst0 (pc := 94) rfl ?_
      first | exact q_st (by rw [balS, balF, if_pos (show fgt _ FP.fconst0 = true from decide_eq_true (Int32.not_le.mp h78))]) key78 | exact q_st (by rw [balS, balF, if_neg (show ¬ fgt _ FP.fconst0 = true from fun q => absurd (of_decide_eq_true q) (Int32.not_lt.mpr h78))]) key78
    · have hp78 := hok.2.2 (decide_eq_true (Int32.not_le.mp h78))
      refine q_aload_n (pc := 81) (j := 0) rfl rfl ?_
      refine q_get (pc := 82) (a := r) (v := .float (S.2.1 r 8)) rfl fl_X6_38 hs.1 rfl rfl ?_
      refine q_fload_n (pc := 85) (j := 1) rfl rfl ?_
      refine q_fsub (pc := 86) rfl hp78.1 ?_
      refine q_fload_n (pc := 87) (j := 2) rfl rfl ?_
      refine q_fsub (pc := 88) rfl hp78.2.1 ?_
      refine q_fload_n (pc := 89) (j := 3) rfl rfl ?_
      refine q_fdiv (pc := 90) rfl hp78.2.2 ?_
      refine q_goto (pc := 91) 95 rfl (by decide) ?_
      first | exact q_st (by rw [balS, balF, if_pos (show fgt _ FP.fconst0 = true from decide_eq_true (Int32.not_le.mp h78))]) key78 | exact q_st (by rw [balS, balF, if_neg (show ¬ fgt _ FP.fconst0 = true from fun q => absurd (of_decide_eq_true q) (Int32.not_lt.mpr h78))]) key78
