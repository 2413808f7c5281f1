/-! Sheets: written by wip/whole/gen/c21.py -/
def isSs (sh : List PSh) (r : Nat) : Prop := sh[r]? = some (.inr (2, [r + 1 + 3, r + 2 + 3, r + 3 + 3])) ∧ sh[r + 1]? = some (.inl (0, 4)) ∧ sh[r + 2]? = some (.inl (0, 4)) ∧ sh[r + 3]? = some (.inl (3, 160))
theorem ss_ix {q i : Nat} : nI q * 40 + nI i = nI (40 * q + i) := by
  rw [show (40 : Int32) = nI 40 from rfl, pk_mul, nI_add, Nat.mul_comm]
/-- a row of kind k and size z has a place i -/
def hnB (k z i : Int32) : Bool := decide (k ≠ -1 ∧ 0 ≤ i.toInt ∧ i.toInt < z.toInt)
theorem hn_a {k z i : Int32} (h : k = -1) : 0 = pB (hnB k z i) := by
  rw [hnB, decide_eq_false (fun q => q.1 h)]; rfl
theorem hn_b {k z i : Int32} (h : i < 0) : 0 = pB (hnB k z i) := by
  rw [hnB, decide_eq_false (fun q => by have := i_lt0 h; omega)]; rfl
theorem hn_c {k z i : Int32} (h : z ≤ i) : 0 = pB (hnB k z i) := by
  rw [Int32.le_iff_toInt_le] at h
  rw [hnB, decide_eq_false (fun q => by omega)]; rfl
theorem hn_d {k z i : Int32} (h1 : ¬ k = -1) (h2 : ¬ i < 0) (h3 : ¬ z ≤ i) : 1 = pB (hnB k z i) := by
  rw [Int32.le_iff_toInt_le] at h3
  rw [hnB, decide_eq_true ⟨h1, i_nlt0 h2, by omega⟩]; rfl
/-- a sheet's sort and size are told, its first k numbers are 0 -/
def ssC (S : PSt) (r q : Nat) (x n : Int32) (k : Nat) : PSt := (fun c j => if c = r + 1 ∧ j = q then x else if c = r + 2 ∧ j = q then n else S.1 c j, S.2.1, fun c j => if c = r + 3 ∧ 40 * q ≤ j ∧ j < 40 * q + k then 0 else S.2.2.1 c j, S.2.2.2)
theorem ssC_s {S : PSt} {r q : Nat} {x n : Int32} {k : Nat} : pSJ (ssC S r q x n k) (r + 3) (40 * q + k) 0 = ssC S r q x n (k + 1) := by
  unfold pSJ pU ssC
  refine Prod.ext rfl (Prod.ext rfl (Prod.ext (funext fun c => funext fun j => ?_) rfl))
  dsimp only
  (repeat' split) <;> first | rfl | (exfalso; omega)
theorem ssC_0 {S : PSt} {r q : Nat} {x n : Int32} : pSI (pSI S (r + 1) q x) (r + 2) q n = ssC S r q x n 0 := by
  unfold pSI pU ssC
  refine Prod.ext (funext fun c => funext fun j => ?_) (Prod.ext rfl (Prod.ext (funext fun c => funext fun j => ?_) rfl))
  · dsimp only
    (repeat' split) <;> first | rfl | (exfalso; omega)
  · dsimp only
    rw [if_neg (by omega)]

/-- BITS of a FLOAT as the class tells them -/
def fbI (x : UInt32) : Int32 := (enF 0 (FP.f2d x)).toInt32
def okFb (x : UInt32) : Prop := vf_n64 (FP.f2d x) ∧ okEn 0 (FP.f2d x)
set_option maxRecDepth 100000 in
theorem sp_X8_floatBits {sh : List PSh} {S : PSt} {x : UInt32} (hok : okFb x) : pF mX8_floatBits 3 [.float x] sh S S (some (.int (fbI x))) := by
  refine pF.of (pG.of [some (.float x)] (by decide) tk_X8_floatBits (Nat.le_of_ble_eq_true rfl) rfl (fun X => ?_))
  refine q_iconst (pc := 0) 0 rfl (by decide) ?_
  refine q_fload_n (pc := 1) (j := 0) rfl rfl ?_
  refine q_f2d (pc := 2) rfl hok.1 ?_
  refine q_callS (pc := 3) (as := [.int 0, .double (FP.f2d x)]) (rest := []) (st2 := [.long (enF 0 (FP.f2d x))]) rfl ce_X2_encode ml_X8_361 st_X2_encode rfl (by decide) (Nat.le_of_ble_eq_true rfl) (sp_X2_encode0 hok.2) rfl ?_
  refine q_l2i (pc := 6) rfl ?_
  exact q_iret (pc := 7) rfl rfl ⟨rfl, rfl⟩
def aiF (s : Nat) (b : Int64) : Int32 := FP.d2i (if b < 0 then FP.dsub FP.dconst0 (szF s b) else szF s b)
def rdW (s : Nat) (a b : Int64) : Int64 := wsF s (enF s (rmF (szF s a) (szF s b))) (decide (a < 0))
def okRd (s : Nat) (a b : Int64) : Prop := okSz s a ∧ okSz s b ∧ okRm (szF s a) (szF s b) ∧ okEn s (rmF (szF s a) (szF s b))
/-- the places of a shelf, the first k, that hold a sign -/
def cnS (S : PSt) (r s : Nat) : Nat → Nat
  | 0 => 0
  | k + 1 => cnS S r s k + (if hasPl S r s (nI k) = true ∧ ¬ S.1 (r + 3 + 1) (5 * (12 * s + k)) = -1 then 1 else 0)
def cnT (S : PSt) (r : Nat) : Nat → Nat
  | 0 => 0
  | s + 1 => cnT S r s + cnS S r s 12
theorem cnS_le {S : PSt} {r s : Nat} : ∀ k, cnS S r s k ≤ k := by
  intro k
  induction k with
  | zero => exact Nat.le_refl _
  | succ k ih => unfold cnS; split <;> omega
theorem cnT_le {S : PSt} {r : Nat} : ∀ s, cnT S r s ≤ 12 * s := by
  intro s
  induction s with
  | zero => exact Nat.le_refl _
  | succ s ih => unfold cnT; have := cnS_le (S := S) (r := r) (s := s) 12; omega
theorem hasPl_mono {S : PSt} {r s k j : Nat} (hk : k ≤ j) (hj : j < 2 ^ 31) (h : hasPl S r s (nI k) = false) : hasPl S r s (nI j) = false := by
  unfold hasPl at *
  rw [decide_eq_false_iff_not] at *
  rw [nI_toInt (by omega)] at *
  intro q
  exact h ⟨q.1, by omega, by omega⟩
theorem cnS_stop {S : PSt} {r s k : Nat} (h : hasPl S r s (nI k) = false) (hk : k ≤ 12) : ∀ m, k + m = 12 → cnS S r s 12 = cnS S r s k := by
  have key : ∀ m, k + m ≤ 12 → cnS S r s (k + m) = cnS S r s k := by
    intro m
    induction m with
    | zero => intro _; rfl
    | succ m ih =>
      intro hm
      show cnS S r s (k + m) + _ = _
      rw [if_neg (fun q => absurd ((show hasPl S r s (nI (k + m)) = true from q.1).symm.trans (hasPl_mono (j := k + m) (by omega) (by omega) h)) (by decide))]
      exact ih (by omega)
  intro m hm
  rw [← hm]
  exact key m (by omega)
set_option maxRecDepth 100000 in
theorem lp_X1_countI {n0 : Nat} {X : Nat × (Nat → Int32)} {P : Option Value → PSt → Prop} {d : Nat} (hd9 : 3 ≤ d) {sh : List PSh} {S : PSt} {r : Nat} (hs : isPg sh r) {s : Nat} (hq : s < 3) (hex : ∀ i : Int32, pV mX1_countOnShelves d n0 X sh P 50 [some (.ref r), some (.int (nI (cnT S r s + cnS S r s 12))), some (.int (nI s)), some (.int i)] [] S)  : ∀ (m k : Nat), k + m = 12 → pV mX1_countOnShelves d n0 X sh P 11 [some (.ref r), some (.int (nI (cnT S r s + cnS S r s k))), some (.int (nI s)), some (.int (nI k))] [] S := by
  intro m
  induction m with
  | zero =>
    intro k hk
    have hk : k = 12 := by omega
    subst hk
    refine q_aload_n (pc := 11) (j := 0) rfl rfl ?_
    refine q_iload_n (pc := 12) (j := 2) rfl rfl ?_
    refine q_iload_n (pc := 13) (j := 3) rfl rfl ?_
    refine q_callV (pc := 14) (as := [.int (nI s), .int (nI 12)]) (rest := []) (b := r) (st2 := [.int (pB (hasPl S r s (nI 12)))]) rfl ce_X1_hasPlace ml_X1_55 im_X1_hasPlace se_X1_hasPlace hs.1 rfl rfl rfl (by omega) (Nat.le_of_ble_eq_true rfl) (sp_X1_hasPlace (s := s) hs (by omega)) rfl ?_
    cases hb17 : (hasPl S r s (nI 12)) with
    | false =>
      refine q_if_eq (pc := 17) 50 rfl (by decide) (fun _ => ?_) (fun h9 => absurd (by decide : pB false = 0) h9)
      exact hex _
    | true =>
      refine q_if_eq (pc := 17) 50 rfl (by decide) (fun h9 => absurd h9 (by decide : ¬ pB true = 0)) (fun _ => ?_)
      refine q_iload_n (pc := 20) (j := 3) rfl rfl ?_
      refine q_bipush (pc := 21) 12 rfl (by decide) ?_
      refine q_icmp_ge (pc := 23) 50 rfl (by decide) (fun _ => ?_) (fun h9 => absurd (by decide : (12 : Int32) ≤ nI 12) h9)
      exact hex _
  | succ m ih =>
    intro k hk
    have hk1 : k < 12 := by omega
    refine q_aload_n (pc := 11) (j := 0) rfl rfl ?_
    refine q_iload_n (pc := 12) (j := 2) rfl rfl ?_
    refine q_iload_n (pc := 13) (j := 3) rfl rfl ?_
    refine q_callV (pc := 14) (as := [.int (nI s), .int (nI k)]) (rest := []) (b := r) (st2 := [.int (pB (hasPl S r s (nI k)))]) rfl ce_X1_hasPlace ml_X1_55 im_X1_hasPlace se_X1_hasPlace hs.1 rfl rfl rfl (by omega) (Nat.le_of_ble_eq_true rfl) (sp_X1_hasPlace (s := s) hs (by omega)) rfl ?_
    cases hb17 : (hasPl S r s (nI k)) with
    | false =>
      refine q_if_eq (pc := 17) 50 rfl (by decide) (fun _ => ?_) (fun h9 => absurd (by decide : pB false = 0) h9)
      exact q_L (by rw [cnS_stop hb17 (by omega) (m + 1) (by omega)]) (hex _)
    | true =>
      refine q_if_eq (pc := 17) 50 rfl (by decide) (fun h9 => absurd h9 (by decide : ¬ pB true = 0)) (fun _ => ?_)
      refine q_iload_n (pc := 20) (j := 3) rfl rfl ?_
      refine q_bipush (pc := 21) 12 rfl (by decide) ?_
      refine q_icmp_ge (pc := 23) 50 rfl (by decide) (fun h9 => absurd h9 (nI_ge (b := 12) hk1 (by decide))) (fun _ => ?_)
      refine q_aload_n (pc := 26) (j := 0) rfl rfl ?_
      refine q_get (pc := 27) (a := r) (v := .ref (r + 3)) rfl fl_X1_25 hs.1 rfl rfl ?_
      refine q_iload_n (pc := 30) (j := 2) rfl rfl ?_
      refine q_iload_n (pc := 31) (j := 3) rfl rfl ?_
      refine q_callS (pc := 32) (as := [.int (nI s), .int (nI k)]) (rest := [.ref (r + 3)]) (st2 := [.int (nI (12 * s + k)), .ref (r + 3)]) rfl ce_X1_place ml_X1_47 st_X1_place rfl (by omega) (Nat.le_of_ble_eq_true rfl) (sp_X1_place (s := s) (i := k)) rfl ?_
      refine q_callV (pc := 35) (as := [.int (nI (12 * s + k))]) (rest := []) (b := (r + 3)) (st2 := [.int (pB (decide (S.1 ((r + 3) + 1) (5 * (12 * s + k)) = -1)))]) rfl ce_X4_isMissing ml_X1_59 im_X4_isMissing se_X4_isMissing hs.2.2.1.1 rfl rfl rfl (by omega) (Nat.le_of_ble_eq_true rfl) (sp_X4_isMissing (c := (12 * s + k)) hs.2.2.1 (by omega)) rfl ?_
      cases hb38 : (decide (S.1 ((r + 3) + 1) (5 * (12 * s + k)) = -1)) with
      | false =>
        refine q_if_ne (pc := 38) 44 rfl (by decide) (fun h9 => absurd (by decide : pB false = 0) h9) (fun _ => ?_)
        refine q_iinc (pc := 41) (j := 1) (n := 1) (nI (cnT S r s + cnS S r s k + 1)) [some (.ref r), some (.int (nI (cnT S r s + cnS S r s k + 1))), some (.int (nI s)), some (.int (nI k))] rfl (by decide) rfl (nI_1 _) rfl ?_
        refine q_iinc (pc := 44) (j := 3) (n := 1) (nI (k + 1)) [some (.ref r), some (.int (nI (cnT S r s + cnS S r s k + 1))), some (.int (nI s)), some (.int (nI (k + 1)))] rfl (by decide) rfl (nI_1 k) rfl ?_
        refine q_goto (pc := 47) 11 rfl (by decide) ?_
        exact q_L (by rw [show cnS S r s (k + 1) = cnS S r s k + 1 from (by rw [cnS, if_pos ⟨hb17, of_decide_eq_false hb38⟩])]; rfl) (ih (k + 1) (by omega))
      | true =>
        refine q_if_ne (pc := 38) 44 rfl (by decide) (fun _ => ?_) (fun h9 => absurd h9 (by decide : ¬ pB true = 0))
        refine q_iinc (pc := 44) (j := 3) (n := 1) (nI (k + 1)) [some (.ref r), some (.int (nI (cnT S r s + cnS S r s k))), some (.int (nI s)), some (.int (nI (k + 1)))] rfl (by decide) rfl (nI_1 k) rfl ?_
        refine q_goto (pc := 47) 11 rfl (by decide) ?_
        exact q_L (by rw [show cnS S r s (k + 1) = cnS S r s k from (by rw [cnS, if_neg (fun q9 => q9.2 (of_decide_eq_true hb38))]; rfl)]) (ih (k + 1) (by omega))
set_option maxRecDepth 100000 in
theorem lp_X1_countO {n0 : Nat} {X : Nat × (Nat → Int32)} {P : Option Value → PSt → Prop} {d : Nat} (hd9 : 3 ≤ d) {sh : List PSh} {S : PSt} {r : Nat} (hs : isPg sh r) (hex : ∀ i : Option Value, pV mX1_countOnShelves d n0 X sh P 56 [some (.ref r), some (.int (nI (cnT S r 3))), some (.int (nI 3)), i] [] S)  : ∀ (m s : Nat) (i : Option Value), s + m = 3 → pV mX1_countOnShelves d n0 X sh P 4 [some (.ref r), some (.int (nI (cnT S r s))), some (.int (nI s)), i] [] S := by
  intro m
  induction m with
  | zero =>
    intro s i hk
    have hk : s = 3 := by omega
    subst hk
    refine q_iload_n (pc := 4) (j := 2) rfl rfl ?_
    refine q_iconst (pc := 5) 3 rfl (by decide) ?_
    exact q_icmp_ge (pc := 6) 56 rfl (by decide) (fun _ => hex _) (fun h9 => absurd (Int32.le_refl _) h9)
  | succ m ih =>
    intro s i hk
    have hk1 : s < 3 := by omega
    refine q_iload_n (pc := 4) (j := 2) rfl rfl ?_
    refine q_iconst (pc := 5) 3 rfl (by decide) ?_
    refine q_icmp_ge (pc := 6) 56 rfl (by decide) (fun h9 => absurd h9 (nI_ge (b := 3) hk1 (by decide))) (fun _ => ?_)
    refine q_iconst (pc := 9) 0 rfl (by decide) ?_
    refine q_istore_n (pc := 10) (j := 3) [some (.ref r), some (.int (nI (cnT S r s))), some (.int (nI s)), some (.int 0)] rfl (by decide) rfl ?_
    refine lp_X1_countI (s := s) (Nat.le_trans (by decide : 3 ≤ 3) hd9) hs (by omega) (fun i => ?_) 12 0 rfl
    refine q_iinc (pc := 50) (j := 2) (n := 1) (nI (s + 1)) [some (.ref r), some (.int (nI (cnT S r s + cnS S r s 12))), some (.int (nI (s + 1))), some (.int i)] rfl (by decide) rfl (nI_1 s) rfl ?_
    refine q_goto (pc := 53) 4 rfl (by decide) ?_
    exact ih (s + 1) _ (by omega)
set_option maxRecDepth 100000 in
theorem sp_X1_countOnShelves {sh : List PSh} {S : PSt} {r : Nat} (hs : isPg sh r)  : pF mX1_countOnShelves 3 [.ref r] sh S S (some (.int (nI (cnT S r 3)))) := by
  refine pF.of (pG.of [some (.ref r), none, none, none] (by decide) tk_X1_countOnShelves (Nat.le_of_ble_eq_true rfl) rfl (fun X => ?_))
  refine q_iconst (pc := 0) 0 rfl (by decide) ?_
  refine q_istore_n (pc := 1) (j := 1) [some (.ref r), some (.int 0), none, none] rfl (by decide) rfl ?_
  refine q_iconst (pc := 2) 0 rfl (by decide) ?_
  refine q_istore_n (pc := 3) (j := 2) [some (.ref r), some (.int 0), some (.int 0), none] rfl (by decide) rfl ?_
  refine lp_X1_countO (by decide) hs (fun i => ?_) 3 0 _ rfl
  refine q_iload_n (pc := 56) (j := 1) rfl rfl ?_
  exact q_iret (pc := 57) rfl rfl ⟨rfl, rfl⟩
