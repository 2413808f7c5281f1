/-! Sheets: written by wip/whole/gen/c21.py -/
def isSs (sh : List PSh) (r : Nat) : Prop := sh[r]? = some (.inr (2, [r + 1 + 3, r + 2 + 3, r + 3 + 3])) ∧ sh[r + 1]? = some (.inl (0, 4)) ∧ sh[r + 2]? = some (.inl (0, 4)) ∧ sh[r + 3]? = some (.inl (3, 160))
theorem ss_ix {q i : Nat} : nI q * 40 + nI i = nI (40 * q + i) := by
  rw [show (40 : Int32) = nI 40 from rfl, pk_mul, nI_add, Nat.mul_comm]
/-- a row of kind k and size z has a place i -/
def hnB (k z i : Int32) : Bool := decide (k ≠ -1 ∧ 0 ≤ i.toInt ∧ i.toInt < z.toInt)
theorem hn_a {k z i : Int32} (h : k = -1) : 0 = pB (hnB k z i) := by
  rw [hnB, decide_eq_false (fun q => q.1 h)]; rfl
theorem hn_b {k z i : Int32} (h : i < 0) : 0 = pB (hnB k z i) := by
  rw [hnB, decide_eq_false (fun q => by have := i_lt0 h; omega)]; rfl
theorem hn_c {k z i : Int32} (h : z ≤ i) : 0 = pB (hnB k z i) := by
  rw [Int32.le_iff_toInt_le] at h
  rw [hnB, decide_eq_false (fun q => by omega)]; rfl
theorem hn_d {k z i : Int32} (h1 : ¬ k = -1) (h2 : ¬ i < 0) (h3 : ¬ z ≤ i) : 1 = pB (hnB k z i) := by
  rw [Int32.le_iff_toInt_le] at h3
  rw [hnB, decide_eq_true ⟨h1, i_nlt0 h2, by omega⟩]; rfl
/-- a sheet's sort and size are told, its first k numbers are 0 -/
def ssC (S : PSt) (r q : Nat) (x n : Int32) (k : Nat) : PSt := (fun c j => if c = r + 1 ∧ j = q then x else if c = r + 2 ∧ j = q then n else S.1 c j, S.2.1, fun c j => if c = r + 3 ∧ 40 * q ≤ j ∧ j < 40 * q + k then 0 else S.2.2.1 c j, S.2.2.2)
theorem ssC_s {S : PSt} {r q : Nat} {x n : Int32} {k : Nat} : pSJ (ssC S r q x n k) (r + 3) (40 * q + k) 0 = ssC S r q x n (k + 1) := by
  unfold pSJ pU ssC
  refine Prod.ext rfl (Prod.ext rfl (Prod.ext (funext fun c => funext fun j => ?_) rfl))
  dsimp only
  (repeat' split) <;> first | rfl | (exfalso; omega)
theorem ssC_0 {S : PSt} {r q : Nat} {x n : Int32} : pSI (pSI S (r + 1) q x) (r + 2) q n = ssC S r q x n 0 := by
  unfold pSI pU ssC
  refine Prod.ext (funext fun c => funext fun j => ?_) (Prod.ext rfl (Prod.ext (funext fun c => funext fun j => ?_) rfl))
  · dsimp only
    (repeat' split) <;> first | rfl | (exfalso; omega)
  · dsimp only
    rw [if_neg (by omega)]

set_option maxRecDepth 100000 in
theorem sp_X3_sort {sh : List PSh} {S : PSt} {r q : Nat} (hs : isSs sh r) (hq : q < 4)  : pF mX3_sort 1 [.ref r, .int (nI q)] sh S S (some (.int (S.1 (r + 1) q))) := by
  refine pF.of (pG.of [some (.ref r), some (.int (nI q))] (by decide) tk_X3_sort (Nat.le_of_ble_eq_true rfl) rfl (fun X => ?_))
  refine q_aload_n (pc := 0) (j := 0) rfl rfl ?_
  refine q_get (pc := 1) (a := r) (v := .ref (r + 1)) rfl fl_X3_9 hs.1 rfl rfl ?_
  refine q_iload_n (pc := 4) (j := 1) rfl rfl ?_
  refine q_callS (pc := 5) (as := [.ref (r + 1), .int (nI q)]) (rest := []) (st2 := [.int (S.1 (r + 1) q)]) rfl ce_X8_readInt ml_X3_22 st_X8_readInt rfl (by decide) (Nat.le_of_ble_eq_true rfl) (sp_readIntN (k := q) hs.2.1 (by omega) (by decide)) rfl ?_
  exact q_iret (pc := 8) rfl rfl ⟨rfl, rfl⟩
set_option maxRecDepth 100000 in
theorem sp_X3_hasNumber {sh : List PSh} {S : PSt} {r q : Nat} (hs : isSs sh r) (hq : q < 4) {i : Int32} : pF mX3_hasNumber 2 [.ref r, .int (nI q), .int i] sh S S (some (.int (pB (hnB (S.1 (r + 1) q) (S.1 (r + 2) q) i)))) := by
  refine pF.of (pG.of [some (.ref r), some (.int (nI q)), some (.int i)] (by decide) tk_X3_hasNumber (Nat.le_of_ble_eq_true rfl) rfl (fun X => ?_))
  refine q_aload_n (pc := 0) (j := 0) rfl rfl ?_
  refine q_iload_n (pc := 1) (j := 1) rfl rfl ?_
  refine q_callV (pc := 2) (as := [.int (nI q)]) (rest := []) (b := r) (st2 := [.int (S.1 (r + 1) q)]) rfl ce_X3_sort ml_X3_26 im_X3_sort se_X3_sort hs.1 rfl rfl rfl (by decide) (Nat.le_of_ble_eq_true rfl) (sp_X3_sort (q := q) hs (by omega)) rfl ?_
  refine q_iconst (pc := 5) (-1) rfl (by decide) ?_
  refine q_icmp_eq (pc := 6) 29 rfl (by decide) (fun h6 => ?_) (fun h6 => ?_)
  · refine q_iconst (pc := 29) 0 rfl (by decide) ?_
    exact q_zret (pc := 30) rfl rfl rfl ⟨congrArg (fun v => some (Value.int v)) (by first | exact hn_a h6 | exact hn_b h10 | exact hn_c h22 | exact hn_d h6 h10 h22), rfl⟩
  · refine q_iload_n (pc := 9) (j := 2) rfl rfl ?_
    refine q_if_lt (pc := 10) 29 rfl (by decide) (fun h10 => ?_) (fun h10 => ?_)
    · refine q_iconst (pc := 29) 0 rfl (by decide) ?_
      exact q_zret (pc := 30) rfl rfl rfl ⟨congrArg (fun v => some (Value.int v)) (by first | exact hn_a h6 | exact hn_b h10 | exact hn_c h22 | exact hn_d h6 h10 h22), rfl⟩
    · refine q_iload_n (pc := 13) (j := 2) rfl rfl ?_
      refine q_aload_n (pc := 14) (j := 0) rfl rfl ?_
      refine q_get (pc := 15) (a := r) (v := .ref (r + 2)) rfl fl_X3_15 hs.1 rfl rfl ?_
      refine q_iload_n (pc := 18) (j := 1) rfl rfl ?_
      refine q_callS (pc := 19) (as := [.ref (r + 2), .int (nI q)]) (rest := [.int i]) (st2 := [.int (S.1 (r + 2) q), .int i]) rfl ce_X8_readInt ml_X3_22 st_X8_readInt rfl (by decide) (Nat.le_of_ble_eq_true rfl) (sp_readIntN (k := q) hs.2.2.1 (by omega) (by decide)) rfl ?_
      refine q_icmp_ge (pc := 22) 29 rfl (by decide) (fun h22 => ?_) (fun h22 => ?_)
      · refine q_iconst (pc := 29) 0 rfl (by decide) ?_
        exact q_zret (pc := 30) rfl rfl rfl ⟨congrArg (fun v => some (Value.int v)) (by first | exact hn_a h6 | exact hn_b h10 | exact hn_c h22 | exact hn_d h6 h10 h22), rfl⟩
      · refine q_iconst (pc := 25) 1 rfl (by decide) ?_
        refine q_goto (pc := 26) 30 rfl (by decide) ?_
        exact q_zret (pc := 30) rfl rfl rfl ⟨congrArg (fun v => some (Value.int v)) (by first | exact hn_a h6 | exact hn_b h10 | exact hn_c h22 | exact hn_d h6 h10 h22), rfl⟩
set_option maxRecDepth 100000 in
theorem sp_X3_change {sh : List PSh} {S : PSt} {r q : Nat} (hs : isSs sh r) (hq : q < 4) {i : Nat} {v : Int64} (hi : i < 40) : pF mX3_change 1 [.ref r, .int (nI q), .int (nI i), .long v] sh S (pSJ S (r + 3) (40 * q + i) v) (none) := by
  refine pF.of (pG.of [some (.ref r), some (.int (nI q)), some (.int (nI i)), some (.long v), none] (by decide) tk_X3_change (Nat.le_of_ble_eq_true rfl) rfl (fun X => ?_))
  refine q_aload_n (pc := 0) (j := 0) rfl rfl ?_
  refine q_get (pc := 1) (a := r) (v := .ref (r + 3)) rfl fl_X3_18 hs.1 rfl rfl ?_
  refine q_iload_n (pc := 4) (j := 1) rfl rfl ?_
  refine q_bipush (pc := 5) 40 rfl (by decide) ?_
  refine q_imul (pc := 7) rfl ?_
  refine q_iload_n (pc := 8) (j := 2) rfl rfl ?_
  refine q_iadd (pc := 9) rfl ?_
  refine q_st (st2 := [.int (nI (40 * q + i)), .ref (r + 3)]) (by rw [ss_ix]) ?_
  refine q_lload_n (pc := 10) (j := 3) rfl rfl ?_
  refine q_callS (pc := 11) (as := [.ref (r + 3), .int (nI (40 * q + i)), .long v]) (rest := []) (st2 := []) rfl ce_X8_writeLong ml_X3_68 st_X8_writeLong rfl (by decide) (Nat.le_of_ble_eq_true rfl) (sp_writeLongN (k := (40 * q + i)) hs.2.2.2 (by omega) (by decide)) rfl ?_
  exact q_vret (pc := 14) rfl rfl ⟨rfl, rfl⟩
set_option maxRecDepth 100000 in
theorem sp_X3_number {sh : List PSh} {S : PSt} {r q : Nat} (hs : isSs sh r) (hq : q < 4) {i : Nat} (hi : i < 40) : pF mX3_number 1 [.ref r, .int (nI q), .int (nI i)] sh S S (some (.long (S.2.2.1 (r + 3) (40 * q + i)))) := by
  refine pF.of (pG.of [some (.ref r), some (.int (nI q)), some (.int (nI i))] (by decide) tk_X3_number (Nat.le_of_ble_eq_true rfl) rfl (fun X => ?_))
  refine q_aload_n (pc := 0) (j := 0) rfl rfl ?_
  refine q_get (pc := 1) (a := r) (v := .ref (r + 3)) rfl fl_X3_18 hs.1 rfl rfl ?_
  refine q_iload_n (pc := 4) (j := 1) rfl rfl ?_
  refine q_bipush (pc := 5) 40 rfl (by decide) ?_
  refine q_imul (pc := 7) rfl ?_
  refine q_iload_n (pc := 8) (j := 2) rfl rfl ?_
  refine q_iadd (pc := 9) rfl ?_
  refine q_st (st2 := [.int (nI (40 * q + i)), .ref (r + 3)]) (by rw [ss_ix]) ?_
  refine q_callS (pc := 10) (as := [.ref (r + 3), .int (nI (40 * q + i))]) (rest := []) (st2 := [.long (S.2.2.1 (r + 3) (40 * q + i))]) rfl ce_X8_readLong ml_X3_38 st_X8_readLong rfl (by decide) (Nat.le_of_ble_eq_true rfl) (sp_readLongN (k := (40 * q + i)) hs.2.2.2 (by omega) (by decide)) rfl ?_
  exact q_lret (pc := 13) rfl rfl ⟨rfl, rfl⟩
set_option maxRecDepth 100000 in
theorem lp_X3_clear {n0 : Nat} {X : Nat × (Nat → Int32)} {P : Option Value → PSt → Prop} {d : Nat} (hd9 : 2 ≤ d) {sh : List PSh} {S : PSt} {r q : Nat} (hs : isSs sh r) (hq : q < 4) {x n : Int32} (hex : pV mX3_clear d n0 X sh P 42 [some (.ref r), some (.int (nI q)), some (.int x), some (.int n), some (.int (nI 40))] [] (ssC S r q x n 40)) : ∀ (m k : Nat), k + m = 40 → pV mX3_clear d n0 X sh P 21 [some (.ref r), some (.int (nI q)), some (.int x), some (.int n), some (.int (nI k))] [] (ssC S r q x n k) := by
  intro m
  induction m with
  | zero =>
    intro k hk
    have hk : k = 40 := by omega
    subst hk
    refine q_iload (pc := 21) (j := 4) rfl rfl ?_
    refine q_bipush (pc := 23) 40 rfl (by decide) ?_
    exact q_icmp_ge (pc := 25) 42 rfl (by decide) (fun _ => hex) (fun h9 => absurd (Int32.le_refl _) h9)
  | succ m ih =>
    intro k hk
    have hk1 : k < 40 := by omega
    refine q_iload (pc := 21) (j := 4) rfl rfl ?_
    refine q_bipush (pc := 23) 40 rfl (by decide) ?_
    refine q_icmp_ge (pc := 25) 42 rfl (by decide) (fun h9 => absurd h9 (nI_ge (b := 40) hk1 (by decide))) (fun _ => ?_)
    refine q_aload_n (pc := 28) (j := 0) rfl rfl ?_
    refine q_iload_n (pc := 29) (j := 1) rfl rfl ?_
    refine q_iload (pc := 30) (j := 4) rfl rfl ?_
    refine q_lconst (pc := 32) 0 rfl (by decide) ?_
    refine q_callV (pc := 33) (as := [.int (nI q), .int (nI k), .long 0]) (rest := []) (b := r) (st2 := []) rfl ce_X3_change ml_X3_34 im_X3_change se_X3_change hs.1 rfl rfl rfl (by omega) (Nat.le_of_ble_eq_true rfl) (sp_X3_change (q := q) (i := k) hs (by omega) (by omega)) rfl ?_
    refine q_iinc (pc := 36) (j := 4) (n := 1) (nI (k + 1)) [some (.ref r), some (.int (nI q)), some (.int x), some (.int n), some (.int (nI (k + 1)))] rfl (by decide) rfl (nI_1 k) rfl ?_
    refine q_goto (pc := 39) 21 rfl (by decide) ?_
    exact q_S ssC_s (ih (k + 1) (by omega))
set_option maxRecDepth 100000 in
theorem sp_X3_clear {sh : List PSh} {S : PSt} {r q : Nat} (hs : isSs sh r) (hq : q < 4) {x n : Int32} : pF mX3_clear 2 [.ref r, .int (nI q), .int x, .int n] sh S (ssC S r q x n 40) (none) := by
  refine pF.of (pG.of [some (.ref r), some (.int (nI q)), some (.int x), some (.int n), none] (by decide) tk_X3_clear (Nat.le_of_ble_eq_true rfl) rfl (fun X => ?_))
  refine q_aload_n (pc := 0) (j := 0) rfl rfl ?_
  refine q_get (pc := 1) (a := r) (v := .ref (r + 1)) rfl fl_X3_9 hs.1 rfl rfl ?_
  refine q_iload_n (pc := 4) (j := 1) rfl rfl ?_
  refine q_iload_n (pc := 5) (j := 2) rfl rfl ?_
  refine q_callS (pc := 6) (as := [.ref (r + 1), .int (nI q), .int x]) (rest := []) (st2 := []) rfl ce_X8_writeInt ml_X3_30 st_X8_writeInt rfl (by decide) (Nat.le_of_ble_eq_true rfl) (sp_writeIntN (k := q) hs.2.1 (by omega) (by decide)) rfl ?_
  refine q_aload_n (pc := 9) (j := 0) rfl rfl ?_
  refine q_get (pc := 10) (a := r) (v := .ref (r + 2)) rfl fl_X3_15 hs.1 rfl rfl ?_
  refine q_iload_n (pc := 13) (j := 1) rfl rfl ?_
  refine q_iload_n (pc := 14) (j := 3) rfl rfl ?_
  refine q_callS (pc := 15) (as := [.ref (r + 2), .int (nI q), .int n]) (rest := []) (st2 := []) rfl ce_X8_writeInt ml_X3_30 st_X8_writeInt rfl (by decide) (Nat.le_of_ble_eq_true rfl) (sp_writeIntN (k := q) hs.2.2.1 (by omega) (by decide)) rfl ?_
  refine q_iconst (pc := 18) 0 rfl (by decide) ?_
  refine q_istore (pc := 19) (j := 4) [some (.ref r), some (.int (nI q)), some (.int x), some (.int n), some (.int 0)] rfl (by decide) rfl ?_
  refine q_S ssC_0 (lp_X3_clear (by decide) hs hq ?_ 40 0 rfl)
  exact q_vret (pc := 42) rfl rfl ⟨rfl, rfl⟩
/-- BITS of a FLOAT as the class tells them -/
def fbI (x : UInt32) : Int32 := (enF 0 (FP.f2d x)).toInt32
def okFb (x : UInt32) : Prop := vf_n64 (FP.f2d x) ∧ okEn 0 (FP.f2d x)
set_option maxRecDepth 100000 in
theorem sp_X8_floatBits {sh : List PSh} {S : PSt} {x : UInt32} (hok : okFb x) : pF mX8_floatBits 3 [.float x] sh S S (some (.int (fbI x))) := by
  refine pF.of (pG.of [some (.float x)] (by decide) tk_X8_floatBits (Nat.le_of_ble_eq_true rfl) rfl (fun X => ?_))
  refine q_iconst (pc := 0) 0 rfl (by decide) ?_
  refine q_fload_n (pc := 1) (j := 0) rfl rfl ?_
  refine q_f2d (pc := 2) rfl hok.1 ?_
  refine q_callS (pc := 3) (as := [.int 0, .double (FP.f2d x)]) (rest := []) (st2 := [.long (enF 0 (FP.f2d x))]) rfl ce_X2_encode ml_X8_361 st_X2_encode rfl (by decide) (Nat.le_of_ble_eq_true rfl) (sp_X2_encode0 hok.2) rfl ?_
  refine q_l2i (pc := 6) rfl ?_
  exact q_iret (pc := 7) rfl rfl ⟨rfl, rfl⟩
set_option maxRecDepth 100000 in
theorem sp_X3_scale0 {sh : List PSh} {S : PSt} {r q : Nat} (hs : isSs sh r) (hq : q < 4) {i : Nat} {v : Int64} {k : Int32} (hi : i < 40) (hso : S.1 (r + 1) q = 0) (h1 : vf_n32 (FP.d2f (FP.i2d (1 <<< (k &&& 31))))) (h2 : vf_n32 (FP.fdiv (FP.l2f v) (FP.d2f (FP.i2d (1 <<< (k &&& 31)))))) (hok : okFb (FP.fdiv (FP.l2f v) (FP.d2f (FP.i2d (1 <<< (k &&& 31))))))  : pF mX3_scale 6 [.ref r, .int (nI q), .int (nI i), .long v, .int k] sh S (pSJ S (r + 3) (40 * q + i) ((fbI (FP.fdiv (FP.l2f v) (FP.d2f (FP.i2d (1 <<< (k &&& 31)))))).toInt64)) (none) := by
  refine pF.of (pG.of [some (.ref r), some (.int (nI q)), some (.int (nI i)), some (.long v), none, some (.int k), none, none] (by decide) tk_X3_scale (Nat.le_of_ble_eq_true rfl) rfl (fun X => ?_))
  refine q_iconst (pc := 0) 1 rfl (by decide) ?_
  refine q_iload (pc := 1) (j := 5) rfl rfl ?_
  refine q_ishl (pc := 3) rfl ?_
  refine q_i2d (pc := 4) rfl ?_
  refine q_dstore (pc := 5) (j := 6) [some (.ref r), some (.int (nI q)), some (.int (nI i)), some (.long v), none, some (.int k), some (.double (FP.i2d (1 <<< (k &&& 31)))), none] rfl (by decide) rfl ?_
  refine q_aload_n (pc := 7) (j := 0) rfl rfl ?_
  refine q_iload_n (pc := 8) (j := 1) rfl rfl ?_
  refine q_callV (pc := 9) (as := [.int (nI q)]) (rest := []) (b := r) (st2 := [.int (S.1 (r + 1) q)]) rfl ce_X3_sort ml_X3_26 im_X3_sort se_X3_sort hs.1 rfl rfl rfl (by decide) (Nat.le_of_ble_eq_true rfl) (sp_X3_sort (q := q) hs (by omega)) rfl ?_
  refine q_st (st2 := [.int 0]) (by rw [(show (S.1 (r + 1) q) = 0 from hso)]) ?_
  refine q_tableIn (pc := 12) (off := 28) 40 rfl (by decide) (by decide) (by decide) (by decide) ?_
  refine q_aload_n (pc := 40) (j := 0) rfl rfl ?_
  refine q_iload_n (pc := 41) (j := 1) rfl rfl ?_
  refine q_iload_n (pc := 42) (j := 2) rfl rfl ?_
  refine q_lload_n (pc := 43) (j := 3) rfl rfl ?_
  refine q_l2f (pc := 44) rfl ?_
  refine q_dload (pc := 45) (j := 6) rfl rfl ?_
  refine q_d2f (pc := 47) rfl h1 ?_
  refine q_fdiv (pc := 48) rfl h2 ?_
  refine q_callS (pc := 49) (as := [.float (FP.fdiv (FP.l2f v) (FP.d2f (FP.i2d (1 <<< (k &&& 31)))))]) (rest := [.int (nI i), .int (nI q), .ref r]) (st2 := [.int (fbI (FP.fdiv (FP.l2f v) (FP.d2f (FP.i2d (1 <<< (k &&& 31)))))), .int (nI i), .int (nI q), .ref r]) rfl ce_X8_floatBits ml_X3_42 st_X8_floatBits rfl (by decide) (Nat.le_of_ble_eq_true rfl) (sp_X8_floatBits hok) rfl ?_
  refine q_i2l (pc := 52) rfl ?_
  refine q_callV (pc := 53) (as := [.int (nI q), .int (nI i), .long ((fbI (FP.fdiv (FP.l2f v) (FP.d2f (FP.i2d (1 <<< (k &&& 31)))))).toInt64)]) (rest := []) (b := r) (st2 := []) rfl ce_X3_change ml_X3_34 im_X3_change se_X3_change hs.1 rfl rfl rfl (by decide) (Nat.le_of_ble_eq_true rfl) (sp_X3_change (q := q) (i := i) hs (by omega) (by omega)) rfl ?_
  refine q_goto (pc := 56) 99 rfl (by decide) ?_
  exact q_vret (pc := 99) rfl rfl ⟨rfl, rfl⟩
set_option maxRecDepth 100000 in
theorem sp_X3_scale1 {sh : List PSh} {S : PSt} {r q : Nat} (hs : isSs sh r) (hq : q < 4) {i : Nat} {v : Int64} {k : Int32} (hi : i < 40) (hso : S.1 (r + 1) q = 1) (h2 : vf_n64 (FP.ddiv (FP.l2d v) (FP.i2d (1 <<< (k &&& 31))))) (hok : okEn 1 (FP.ddiv (FP.l2d v) (FP.i2d (1 <<< (k &&& 31)))))  : pF mX3_scale 6 [.ref r, .int (nI q), .int (nI i), .long v, .int k] sh S (pSJ S (r + 3) (40 * q + i) (enF 1 (FP.ddiv (FP.l2d v) (FP.i2d (1 <<< (k &&& 31)))))) (none) := by
  refine pF.of (pG.of [some (.ref r), some (.int (nI q)), some (.int (nI i)), some (.long v), none, some (.int k), none, none] (by decide) tk_X3_scale (Nat.le_of_ble_eq_true rfl) rfl (fun X => ?_))
  refine q_iconst (pc := 0) 1 rfl (by decide) ?_
  refine q_iload (pc := 1) (j := 5) rfl rfl ?_
  refine q_ishl (pc := 3) rfl ?_
  refine q_i2d (pc := 4) rfl ?_
  refine q_dstore (pc := 5) (j := 6) [some (.ref r), some (.int (nI q)), some (.int (nI i)), some (.long v), none, some (.int k), some (.double (FP.i2d (1 <<< (k &&& 31)))), none] rfl (by decide) rfl ?_
  refine q_aload_n (pc := 7) (j := 0) rfl rfl ?_
  refine q_iload_n (pc := 8) (j := 1) rfl rfl ?_
  refine q_callV (pc := 9) (as := [.int (nI q)]) (rest := []) (b := r) (st2 := [.int (S.1 (r + 1) q)]) rfl ce_X3_sort ml_X3_26 im_X3_sort se_X3_sort hs.1 rfl rfl rfl (by decide) (Nat.le_of_ble_eq_true rfl) (sp_X3_sort (q := q) hs (by omega)) rfl ?_
  refine q_st (st2 := [.int 1]) (by rw [(show (S.1 (r + 1) q) = 1 from hso)]) ?_
  refine q_tableIn (pc := 12) (off := 47) 59 rfl (by decide) (by decide) (by decide) (by decide) ?_
  refine q_aload_n (pc := 59) (j := 0) rfl rfl ?_
  refine q_iload_n (pc := 60) (j := 1) rfl rfl ?_
  refine q_iload_n (pc := 61) (j := 2) rfl rfl ?_
  refine q_iconst (pc := 62) 1 rfl (by decide) ?_
  refine q_lload_n (pc := 63) (j := 3) rfl rfl ?_
  refine q_l2d (pc := 64) rfl ?_
  refine q_dload (pc := 65) (j := 6) rfl rfl ?_
  refine q_ddiv (pc := 67) rfl h2 ?_
  refine q_callS (pc := 68) (as := [.int 1, .double (FP.ddiv (FP.l2d v) (FP.i2d (1 <<< (k &&& 31))))]) (rest := [.int (nI i), .int (nI q), .ref r]) (st2 := [.long (enF 1 (FP.ddiv (FP.l2d v) (FP.i2d (1 <<< (k &&& 31))))), .int (nI i), .int (nI q), .ref r]) rfl ce_X2_encode ml_X3_46 st_X2_encode rfl (by decide) (Nat.le_of_ble_eq_true rfl) (sp_X2_encode1 hok) rfl ?_
  refine q_callV (pc := 71) (as := [.int (nI q), .int (nI i), .long (enF 1 (FP.ddiv (FP.l2d v) (FP.i2d (1 <<< (k &&& 31)))))]) (rest := []) (b := r) (st2 := []) rfl ce_X3_change ml_X3_34 im_X3_change se_X3_change hs.1 rfl rfl rfl (by decide) (Nat.le_of_ble_eq_true rfl) (sp_X3_change (q := q) (i := i) hs (by omega) (by omega)) rfl ?_
  refine q_goto (pc := 74) 99 rfl (by decide) ?_
  exact q_vret (pc := 99) rfl rfl ⟨rfl, rfl⟩
set_option maxRecDepth 100000 in
theorem sp_X3_scale2 {sh : List PSh} {S : PSt} {r q : Nat} (hs : isSs sh r) (hq : q < 4) {i : Nat} {v : Int64} {k : Int32} (hi : i < 40) (hso : S.1 (r + 1) q = 2)  : pF mX3_scale 6 [.ref r, .int (nI q), .int (nI i), .long v, .int k] sh S (pSJ S (r + 3) (40 * q + i) (v.toInt32.toInt16.toInt32.toInt64)) (none) := by
  refine pF.of (pG.of [some (.ref r), some (.int (nI q)), some (.int (nI i)), some (.long v), none, some (.int k), none, none] (by decide) tk_X3_scale (Nat.le_of_ble_eq_true rfl) rfl (fun X => ?_))
  refine q_iconst (pc := 0) 1 rfl (by decide) ?_
  refine q_iload (pc := 1) (j := 5) rfl rfl ?_
  refine q_ishl (pc := 3) rfl ?_
  refine q_i2d (pc := 4) rfl ?_
  refine q_dstore (pc := 5) (j := 6) [some (.ref r), some (.int (nI q)), some (.int (nI i)), some (.long v), none, some (.int k), some (.double (FP.i2d (1 <<< (k &&& 31)))), none] rfl (by decide) rfl ?_
  refine q_aload_n (pc := 7) (j := 0) rfl rfl ?_
  refine q_iload_n (pc := 8) (j := 1) rfl rfl ?_
  refine q_callV (pc := 9) (as := [.int (nI q)]) (rest := []) (b := r) (st2 := [.int (S.1 (r + 1) q)]) rfl ce_X3_sort ml_X3_26 im_X3_sort se_X3_sort hs.1 rfl rfl rfl (by decide) (Nat.le_of_ble_eq_true rfl) (sp_X3_sort (q := q) hs (by omega)) rfl ?_
  refine q_st (st2 := [.int 2]) (by rw [(show (S.1 (r + 1) q) = 2 from hso)]) ?_
  refine q_tableIn (pc := 12) (off := 65) 77 rfl (by decide) (by decide) (by decide) (by decide) ?_
  refine q_aload_n (pc := 77) (j := 0) rfl rfl ?_
  refine q_iload_n (pc := 78) (j := 1) rfl rfl ?_
  refine q_iload_n (pc := 79) (j := 2) rfl rfl ?_
  refine q_lload_n (pc := 80) (j := 3) rfl rfl ?_
  refine q_l2i (pc := 81) rfl ?_
  refine q_i2s (pc := 82) rfl ?_
  refine q_i2l (pc := 83) rfl ?_
  refine q_callV (pc := 84) (as := [.int (nI q), .int (nI i), .long (((v.toInt32).toInt16.toInt32).toInt64)]) (rest := []) (b := r) (st2 := []) rfl ce_X3_change ml_X3_34 im_X3_change se_X3_change hs.1 rfl rfl rfl (by decide) (Nat.le_of_ble_eq_true rfl) (sp_X3_change (q := q) (i := i) hs (by omega) (by omega)) rfl ?_
  refine q_goto (pc := 87) 99 rfl (by decide) ?_
  exact q_vret (pc := 99) rfl rfl ⟨rfl, rfl⟩
set_option maxRecDepth 100000 in
theorem sp_X3_scale3 {sh : List PSh} {S : PSt} {r q : Nat} (hs : isSs sh r) (hq : q < 4) {i : Nat} {v : Int64} {k : Int32} (hi : i < 40) (hso : S.1 (r + 1) q = 3)  : pF mX3_scale 6 [.ref r, .int (nI q), .int (nI i), .long v, .int k] sh S (pSJ S (r + 3) (40 * q + i) (v.toInt32.toInt64)) (none) := by
  refine pF.of (pG.of [some (.ref r), some (.int (nI q)), some (.int (nI i)), some (.long v), none, some (.int k), none, none] (by decide) tk_X3_scale (Nat.le_of_ble_eq_true rfl) rfl (fun X => ?_))
  refine q_iconst (pc := 0) 1 rfl (by decide) ?_
  refine q_iload (pc := 1) (j := 5) rfl rfl ?_
  refine q_ishl (pc := 3) rfl ?_
  refine q_i2d (pc := 4) rfl ?_
  refine q_dstore (pc := 5) (j := 6) [some (.ref r), some (.int (nI q)), some (.int (nI i)), some (.long v), none, some (.int k), some (.double (FP.i2d (1 <<< (k &&& 31)))), none] rfl (by decide) rfl ?_
  refine q_aload_n (pc := 7) (j := 0) rfl rfl ?_
  refine q_iload_n (pc := 8) (j := 1) rfl rfl ?_
  refine q_callV (pc := 9) (as := [.int (nI q)]) (rest := []) (b := r) (st2 := [.int (S.1 (r + 1) q)]) rfl ce_X3_sort ml_X3_26 im_X3_sort se_X3_sort hs.1 rfl rfl rfl (by decide) (Nat.le_of_ble_eq_true rfl) (sp_X3_sort (q := q) hs (by omega)) rfl ?_
  refine q_st (st2 := [.int 3]) (by rw [(show (S.1 (r + 1) q) = 3 from hso)]) ?_
  refine q_tableOut (pc := 12) 90 rfl (by decide) (by decide) ?_
  refine q_aload_n (pc := 90) (j := 0) rfl rfl ?_
  refine q_iload_n (pc := 91) (j := 1) rfl rfl ?_
  refine q_iload_n (pc := 92) (j := 2) rfl rfl ?_
  refine q_lload_n (pc := 93) (j := 3) rfl rfl ?_
  refine q_l2i (pc := 94) rfl ?_
  refine q_i2l (pc := 95) rfl ?_
  refine q_callV (pc := 96) (as := [.int (nI q), .int (nI i), .long ((v.toInt32).toInt64)]) (rest := []) (b := r) (st2 := []) rfl ce_X3_change ml_X3_34 im_X3_change se_X3_change hs.1 rfl rfl rfl (by decide) (Nat.le_of_ble_eq_true rfl) (sp_X3_change (q := q) (i := i) hs (by omega) (by omega)) rfl ?_
  exact q_vret (pc := 99) rfl rfl ⟨rfl, rfl⟩
set_option maxRecDepth 100000 in
theorem sp_X3_layFloat0 {sh : List PSh} {S : PSt} {r q : Nat} (hs : isSs sh r) (hq : q < 4) {i : Nat} {x : UInt32} (hi : i < 40) (hso : S.1 (r + 1) q = 0) (hok : okFb x)  : pF mX3_layFloat 6 [.ref r, .int (nI q), .int (nI i), .float x] sh S (pSJ S (r + 3) (40 * q + i) ((fbI x).toInt64)) (none) := by
  refine pF.of (pG.of [some (.ref r), some (.int (nI q)), some (.int (nI i)), some (.float x)] (by decide) tk_X3_layFloat (Nat.le_of_ble_eq_true rfl) rfl (fun X => ?_))
  refine q_aload_n (pc := 0) (j := 0) rfl rfl ?_
  refine q_iload_n (pc := 1) (j := 1) rfl rfl ?_
  refine q_callV (pc := 2) (as := [.int (nI q)]) (rest := []) (b := r) (st2 := [.int (S.1 (r + 1) q)]) rfl ce_X3_sort ml_X3_26 im_X3_sort se_X3_sort hs.1 rfl rfl rfl (by decide) (Nat.le_of_ble_eq_true rfl) (sp_X3_sort (q := q) hs (by omega)) rfl ?_
  refine q_st (st2 := [.int 0]) (by rw [(show (S.1 (r + 1) q) = 0 from hso)]) ?_
  refine q_tableIn (pc := 5) (off := 27) 32 rfl (by decide) (by decide) (by decide) (by decide) ?_
  refine q_aload_n (pc := 32) (j := 0) rfl rfl ?_
  refine q_iload_n (pc := 33) (j := 1) rfl rfl ?_
  refine q_iload_n (pc := 34) (j := 2) rfl rfl ?_
  refine q_fload_n (pc := 35) (j := 3) rfl rfl ?_
  refine q_callS (pc := 36) (as := [.float x]) (rest := [.int (nI i), .int (nI q), .ref r]) (st2 := [.int (fbI x), .int (nI i), .int (nI q), .ref r]) rfl ce_X8_floatBits ml_X3_42 st_X8_floatBits rfl (by decide) (Nat.le_of_ble_eq_true rfl) (sp_X8_floatBits hok) rfl ?_
  refine q_i2l (pc := 39) rfl ?_
  refine q_callV (pc := 40) (as := [.int (nI q), .int (nI i), .long ((fbI x).toInt64)]) (rest := []) (b := r) (st2 := []) rfl ce_X3_change ml_X3_34 im_X3_change se_X3_change hs.1 rfl rfl rfl (by decide) (Nat.le_of_ble_eq_true rfl) (sp_X3_change (q := q) (i := i) hs (by omega) (by omega)) rfl ?_
  refine q_goto (pc := 43) 83 rfl (by decide) ?_
  exact q_vret (pc := 83) rfl rfl ⟨rfl, rfl⟩
set_option maxRecDepth 100000 in
theorem sp_X3_layFloat1 {sh : List PSh} {S : PSt} {r q : Nat} (hs : isSs sh r) (hq : q < 4) {i : Nat} {x : UInt32} (hi : i < 40) (hso : S.1 (r + 1) q = 1) (h2 : vf_n64 (FP.f2d x)) (hok : okEn 1 (FP.f2d x))  : pF mX3_layFloat 6 [.ref r, .int (nI q), .int (nI i), .float x] sh S (pSJ S (r + 3) (40 * q + i) (enF 1 (FP.f2d x))) (none) := by
  refine pF.of (pG.of [some (.ref r), some (.int (nI q)), some (.int (nI i)), some (.float x)] (by decide) tk_X3_layFloat (Nat.le_of_ble_eq_true rfl) rfl (fun X => ?_))
  refine q_aload_n (pc := 0) (j := 0) rfl rfl ?_
  refine q_iload_n (pc := 1) (j := 1) rfl rfl ?_
  refine q_callV (pc := 2) (as := [.int (nI q)]) (rest := []) (b := r) (st2 := [.int (S.1 (r + 1) q)]) rfl ce_X3_sort ml_X3_26 im_X3_sort se_X3_sort hs.1 rfl rfl rfl (by decide) (Nat.le_of_ble_eq_true rfl) (sp_X3_sort (q := q) hs (by omega)) rfl ?_
  refine q_st (st2 := [.int 1]) (by rw [(show (S.1 (r + 1) q) = 1 from hso)]) ?_
  refine q_tableIn (pc := 5) (off := 41) 46 rfl (by decide) (by decide) (by decide) (by decide) ?_
  refine q_aload_n (pc := 46) (j := 0) rfl rfl ?_
  refine q_iload_n (pc := 47) (j := 1) rfl rfl ?_
  refine q_iload_n (pc := 48) (j := 2) rfl rfl ?_
  refine q_iconst (pc := 49) 1 rfl (by decide) ?_
  refine q_fload_n (pc := 50) (j := 3) rfl rfl ?_
  refine q_f2d (pc := 51) rfl h2 ?_
  refine q_callS (pc := 52) (as := [.int 1, .double (FP.f2d x)]) (rest := [.int (nI i), .int (nI q), .ref r]) (st2 := [.long (enF 1 (FP.f2d x)), .int (nI i), .int (nI q), .ref r]) rfl ce_X2_encode ml_X3_46 st_X2_encode rfl (by decide) (Nat.le_of_ble_eq_true rfl) (sp_X2_encode1 hok) rfl ?_
  refine q_callV (pc := 55) (as := [.int (nI q), .int (nI i), .long (enF 1 (FP.f2d x))]) (rest := []) (b := r) (st2 := []) rfl ce_X3_change ml_X3_34 im_X3_change se_X3_change hs.1 rfl rfl rfl (by decide) (Nat.le_of_ble_eq_true rfl) (sp_X3_change (q := q) (i := i) hs (by omega) (by omega)) rfl ?_
  refine q_goto (pc := 58) 83 rfl (by decide) ?_
  exact q_vret (pc := 83) rfl rfl ⟨rfl, rfl⟩
set_option maxRecDepth 100000 in
theorem sp_X3_layFloat2 {sh : List PSh} {S : PSt} {r q : Nat} (hs : isSs sh r) (hq : q < 4) {i : Nat} {x : UInt32} (hi : i < 40) (hso : S.1 (r + 1) q = 2)  : pF mX3_layFloat 6 [.ref r, .int (nI q), .int (nI i), .float x] sh S (pSJ S (r + 3) (40 * q + i) ((FP.f2i x).toInt16.toInt32.toInt64)) (none) := by
  refine pF.of (pG.of [some (.ref r), some (.int (nI q)), some (.int (nI i)), some (.float x)] (by decide) tk_X3_layFloat (Nat.le_of_ble_eq_true rfl) rfl (fun X => ?_))
  refine q_aload_n (pc := 0) (j := 0) rfl rfl ?_
  refine q_iload_n (pc := 1) (j := 1) rfl rfl ?_
  refine q_callV (pc := 2) (as := [.int (nI q)]) (rest := []) (b := r) (st2 := [.int (S.1 (r + 1) q)]) rfl ce_X3_sort ml_X3_26 im_X3_sort se_X3_sort hs.1 rfl rfl rfl (by decide) (Nat.le_of_ble_eq_true rfl) (sp_X3_sort (q := q) hs (by omega)) rfl ?_
  refine q_st (st2 := [.int 2]) (by rw [(show (S.1 (r + 1) q) = 2 from hso)]) ?_
  refine q_tableIn (pc := 5) (off := 56) 61 rfl (by decide) (by decide) (by decide) (by decide) ?_
  refine q_aload_n (pc := 61) (j := 0) rfl rfl ?_
  refine q_iload_n (pc := 62) (j := 1) rfl rfl ?_
  refine q_iload_n (pc := 63) (j := 2) rfl rfl ?_
  refine q_fload_n (pc := 64) (j := 3) rfl rfl ?_
  refine q_f2i (pc := 65) rfl ?_
  refine q_i2s (pc := 66) rfl ?_
  refine q_i2l (pc := 67) rfl ?_
  refine q_callV (pc := 68) (as := [.int (nI q), .int (nI i), .long (((FP.f2i x).toInt16.toInt32).toInt64)]) (rest := []) (b := r) (st2 := []) rfl ce_X3_change ml_X3_34 im_X3_change se_X3_change hs.1 rfl rfl rfl (by decide) (Nat.le_of_ble_eq_true rfl) (sp_X3_change (q := q) (i := i) hs (by omega) (by omega)) rfl ?_
  refine q_goto (pc := 71) 83 rfl (by decide) ?_
  exact q_vret (pc := 83) rfl rfl ⟨rfl, rfl⟩
set_option maxRecDepth 100000 in
theorem sp_X3_layFloat3 {sh : List PSh} {S : PSt} {r q : Nat} (hs : isSs sh r) (hq : q < 4) {i : Nat} {x : UInt32} (hi : i < 40) (hso : S.1 (r + 1) q = 3)  : pF mX3_layFloat 6 [.ref r, .int (nI q), .int (nI i), .float x] sh S (pSJ S (r + 3) (40 * q + i) ((FP.f2i x).toInt64)) (none) := by
  refine pF.of (pG.of [some (.ref r), some (.int (nI q)), some (.int (nI i)), some (.float x)] (by decide) tk_X3_layFloat (Nat.le_of_ble_eq_true rfl) rfl (fun X => ?_))
  refine q_aload_n (pc := 0) (j := 0) rfl rfl ?_
  refine q_iload_n (pc := 1) (j := 1) rfl rfl ?_
  refine q_callV (pc := 2) (as := [.int (nI q)]) (rest := []) (b := r) (st2 := [.int (S.1 (r + 1) q)]) rfl ce_X3_sort ml_X3_26 im_X3_sort se_X3_sort hs.1 rfl rfl rfl (by decide) (Nat.le_of_ble_eq_true rfl) (sp_X3_sort (q := q) hs (by omega)) rfl ?_
  refine q_st (st2 := [.int 3]) (by rw [(show (S.1 (r + 1) q) = 3 from hso)]) ?_
  refine q_tableOut (pc := 5) 74 rfl (by decide) (by decide) ?_
  refine q_aload_n (pc := 74) (j := 0) rfl rfl ?_
  refine q_iload_n (pc := 75) (j := 1) rfl rfl ?_
  refine q_iload_n (pc := 76) (j := 2) rfl rfl ?_
  refine q_fload_n (pc := 77) (j := 3) rfl rfl ?_
  refine q_f2i (pc := 78) rfl ?_
  refine q_i2l (pc := 79) rfl ?_
  refine q_callV (pc := 80) (as := [.int (nI q), .int (nI i), .long ((FP.f2i x).toInt64)]) (rest := []) (b := r) (st2 := []) rfl ce_X3_change ml_X3_34 im_X3_change se_X3_change hs.1 rfl rfl rfl (by decide) (Nat.le_of_ble_eq_true rfl) (sp_X3_change (q := q) (i := i) hs (by omega) (by omega)) rfl ?_
  exact q_vret (pc := 83) rfl rfl ⟨rfl, rfl⟩
def aiF (s : Nat) (b : Int64) : Int32 := FP.d2i (if b < 0 then FP.dsub FP.dconst0 (szF s b) else szF s b)
set_option maxRecDepth 100000 in
theorem sp_X3_asInt0 {sh : List PSh} {S : PSt} {r q : Nat} (hs : isSs sh r) (hq : q < 4) {i : Nat} (hi : i < 40) (hso : S.1 (r + 1) q = 0) (hok : okSz 0 (S.2.2.1 (r + 3) (40 * q + i))) (h2 : vf_n64 (FP.dsub FP.dconst0 (szF 0 (S.2.2.1 (r + 3) (40 * q + i)))))  : pF mX3_asInt 2 [.ref r, .int (nI q), .int (nI i)] sh S S (some (.int (aiF 0 (S.2.2.1 (r + 3) (40 * q + i))))) := by
  refine pF.of (pG.of [some (.ref r), some (.int (nI q)), some (.int (nI i)), none, none, none, none, none] (by decide) tk_X3_asInt (Nat.le_of_ble_eq_true rfl) rfl (fun X => ?_))
  refine q_aload_n (pc := 0) (j := 0) rfl rfl ?_
  refine q_iload_n (pc := 1) (j := 1) rfl rfl ?_
  refine q_callV (pc := 2) (as := [.int (nI q)]) (rest := []) (b := r) (st2 := [.int (S.1 (r + 1) q)]) rfl ce_X3_sort ml_X3_26 im_X3_sort se_X3_sort hs.1 rfl rfl rfl (by decide) (Nat.le_of_ble_eq_true rfl) (sp_X3_sort (q := q) hs (by omega)) rfl ?_
  refine q_st (st2 := [.int 0]) (by rw [(show (S.1 (r + 1) q) = 0 from hso)]) ?_
  refine q_istore_n (pc := 5) (j := 3) [some (.ref r), some (.int (nI q)), some (.int (nI i)), some (.int 0), none, none, none, none] rfl (by decide) rfl ?_
  refine q_aload_n (pc := 6) (j := 0) rfl rfl ?_
  refine q_iload_n (pc := 7) (j := 1) rfl rfl ?_
  refine q_iload_n (pc := 8) (j := 2) rfl rfl ?_
  refine q_callV (pc := 9) (as := [.int (nI q), .int (nI i)]) (rest := []) (b := r) (st2 := [.long (S.2.2.1 (r + 3) (40 * q + i))]) rfl ce_X3_number ml_X3_52 im_X3_number se_X3_number hs.1 rfl rfl rfl (by decide) (Nat.le_of_ble_eq_true rfl) (sp_X3_number (q := q) (i := i) hs (by omega) (by omega)) rfl ?_
  refine q_lstore (pc := 12) (j := 4) [some (.ref r), some (.int (nI q)), some (.int (nI i)), some (.int 0), some (.long (S.2.2.1 (r + 3) (40 * q + i))), none, none, none] rfl (by decide) rfl ?_
  refine q_iload_n (pc := 14) (j := 3) rfl rfl ?_
  refine q_iconst (pc := 15) 2 rfl (by decide) ?_
  refine q_icmp_eq (pc := 16) 24 rfl (by decide) (fun h9 => absurd h9 (by decide : ¬ (0 : Int32) = 2)) (fun _ => ?_)
  refine q_iload_n (pc := 19) (j := 3) rfl rfl ?_
  refine q_iconst (pc := 20) 3 rfl (by decide) ?_
  refine q_icmp_ne (pc := 21) 28 rfl (by decide) (fun _ => ?_) (fun h9 => absurd h9 (by decide : (0 : Int32) = 3 → False))
  refine q_iload_n (pc := 28) (j := 3) rfl rfl ?_
  refine q_lload (pc := 29) (j := 4) rfl rfl ?_
  refine q_callS (pc := 31) (as := [.int 0, .long (S.2.2.1 (r + 3) (40 * q + i))]) (rest := []) (st2 := [.double (szF 0 (S.2.2.1 (r + 3) (40 * q + i)))]) rfl ce_X2_size ml_X3_56 st_X2_size rfl (by decide) (Nat.le_of_ble_eq_true rfl) (sp_X2_size0 hok) rfl ?_
  refine q_dstore (pc := 34) (j := 6) [some (.ref r), some (.int (nI q)), some (.int (nI i)), some (.int 0), some (.long (S.2.2.1 (r + 3) (40 * q + i))), none, some (.double (szF 0 (S.2.2.1 (r + 3) (40 * q + i)))), none] rfl (by decide) rfl ?_
  refine q_lload (pc := 36) (j := 4) rfl rfl ?_
  refine q_lconst (pc := 38) 0 rfl (by decide) ?_
  refine q_lcmp (pc := 39) rfl ?_
  refine q_if_ge (pc := 40) 50 rfl (by decide) (fun h40 => ?_) (fun h40 => ?_)
  · refine q_dload (pc := 50) (j := 6) rfl rfl ?_
    refine q_d2i (pc := 52) rfl ?_
    exact q_iret (pc := 53) rfl rfl ⟨congrArg (fun v => some (Value.int v)) (by first | rw [aiF, if_neg (fun q9 => absurd ((lg_cmp_ge _ _).mp h40) (Int64.not_le.mpr q9))] | rw [aiF, if_pos (Int64.not_le.mp (fun q9 => h40 ((lg_cmp_ge _ _).mpr q9)))]), rfl⟩
  · refine q_dconst0 (pc := 43) rfl ?_
    refine q_dload (pc := 44) (j := 6) rfl rfl ?_
    refine q_dsub (pc := 46) rfl h2 ?_
    refine q_goto (pc := 47) 52 rfl (by decide) ?_
    refine q_d2i (pc := 52) rfl ?_
    exact q_iret (pc := 53) rfl rfl ⟨congrArg (fun v => some (Value.int v)) (by first | rw [aiF, if_neg (fun q9 => absurd ((lg_cmp_ge _ _).mp h40) (Int64.not_le.mpr q9))] | rw [aiF, if_pos (Int64.not_le.mp (fun q9 => h40 ((lg_cmp_ge _ _).mpr q9)))]), rfl⟩
set_option maxRecDepth 100000 in
theorem sp_X3_isNought0 {sh : List PSh} {S : PSt} {r q : Nat} (hs : isSs sh r) (hq : q < 4) {i : Nat} (hi : i < 40) (hso : S.1 (r + 1) q = 0) (hok : okSz 0 (S.2.2.1 (r + 3) (40 * q + i)))  : pF mX3_isNought 2 [.ref r, .int (nI q), .int (nI i)] sh S S (some (.int (pB (decide (Op.cmpValue (FP.dcmp (szF 0 (S.2.2.1 (r + 3) (40 * q + i))) FP.dconst0) .l = 0))))) := by
  refine pF.of (pG.of [some (.ref r), some (.int (nI q)), some (.int (nI i)), none, none, none] (by decide) tk_X3_isNought (Nat.le_of_ble_eq_true rfl) rfl (fun X => ?_))
  refine q_aload_n (pc := 0) (j := 0) rfl rfl ?_
  refine q_iload_n (pc := 1) (j := 1) rfl rfl ?_
  refine q_callV (pc := 2) (as := [.int (nI q)]) (rest := []) (b := r) (st2 := [.int (S.1 (r + 1) q)]) rfl ce_X3_sort ml_X3_26 im_X3_sort se_X3_sort hs.1 rfl rfl rfl (by decide) (Nat.le_of_ble_eq_true rfl) (sp_X3_sort (q := q) hs (by omega)) rfl ?_
  refine q_st (st2 := [.int 0]) (by rw [(show (S.1 (r + 1) q) = 0 from hso)]) ?_
  refine q_istore_n (pc := 5) (j := 3) [some (.ref r), some (.int (nI q)), some (.int (nI i)), some (.int 0), none, none] rfl (by decide) rfl ?_
  refine q_aload_n (pc := 6) (j := 0) rfl rfl ?_
  refine q_iload_n (pc := 7) (j := 1) rfl rfl ?_
  refine q_iload_n (pc := 8) (j := 2) rfl rfl ?_
  refine q_callV (pc := 9) (as := [.int (nI q), .int (nI i)]) (rest := []) (b := r) (st2 := [.long (S.2.2.1 (r + 3) (40 * q + i))]) rfl ce_X3_number ml_X3_52 im_X3_number se_X3_number hs.1 rfl rfl rfl (by decide) (Nat.le_of_ble_eq_true rfl) (sp_X3_number (q := q) (i := i) hs (by omega) (by omega)) rfl ?_
  refine q_lstore (pc := 12) (j := 4) [some (.ref r), some (.int (nI q)), some (.int (nI i)), some (.int 0), some (.long (S.2.2.1 (r + 3) (40 * q + i))), none] rfl (by decide) rfl ?_
  refine q_iload_n (pc := 14) (j := 3) rfl rfl ?_
  refine q_iconst (pc := 15) 2 rfl (by decide) ?_
  refine q_icmp_eq (pc := 16) 24 rfl (by decide) (fun h9 => absurd h9 (by decide : ¬ (0 : Int32) = 2)) (fun _ => ?_)
  refine q_iload_n (pc := 19) (j := 3) rfl rfl ?_
  refine q_iconst (pc := 20) 3 rfl (by decide) ?_
  refine q_icmp_ne (pc := 21) 39 rfl (by decide) (fun _ => ?_) (fun h9 => absurd h9 (by decide : (0 : Int32) = 3 → False))
  refine q_iload_n (pc := 39) (j := 3) rfl rfl ?_
  refine q_lload (pc := 40) (j := 4) rfl rfl ?_
  refine q_callS (pc := 42) (as := [.int 0, .long (S.2.2.1 (r + 3) (40 * q + i))]) (rest := []) (st2 := [.double (szF 0 (S.2.2.1 (r + 3) (40 * q + i)))]) rfl ce_X2_size ml_X3_56 st_X2_size rfl (by decide) (Nat.le_of_ble_eq_true rfl) (sp_X2_size0 hok) rfl ?_
  refine q_dconst0 (pc := 45) rfl ?_
  refine q_dcmp (pc := 46) (op := .l) rfl ?_
  refine q_if_ne (pc := 47) 54 rfl (by decide) (fun h47 => ?_) (fun h47 => ?_)
  · refine q_iconst (pc := 54) 0 rfl (by decide) ?_
    exact q_zret (pc := 55) rfl rfl rfl ⟨congrArg (fun v => some (Value.int v)) (by first | (rw [decide_eq_true h47]; rfl) | (rw [decide_eq_false h47]; rfl)), rfl⟩
  · refine q_iconst (pc := 50) 1 rfl (by decide) ?_
    refine q_goto (pc := 51) 55 rfl (by decide) ?_
    exact q_zret (pc := 55) rfl rfl rfl ⟨congrArg (fun v => some (Value.int v)) (by first | (rw [decide_eq_true h47]; rfl) | (rw [decide_eq_false h47]; rfl)), rfl⟩
set_option maxRecDepth 100000 in
theorem sp_X3_asInt1 {sh : List PSh} {S : PSt} {r q : Nat} (hs : isSs sh r) (hq : q < 4) {i : Nat} (hi : i < 40) (hso : S.1 (r + 1) q = 1) (hok : okSz 1 (S.2.2.1 (r + 3) (40 * q + i))) (h2 : vf_n64 (FP.dsub FP.dconst0 (szF 1 (S.2.2.1 (r + 3) (40 * q + i)))))  : pF mX3_asInt 2 [.ref r, .int (nI q), .int (nI i)] sh S S (some (.int (aiF 1 (S.2.2.1 (r + 3) (40 * q + i))))) := by
  refine pF.of (pG.of [some (.ref r), some (.int (nI q)), some (.int (nI i)), none, none, none, none, none] (by decide) tk_X3_asInt (Nat.le_of_ble_eq_true rfl) rfl (fun X => ?_))
  refine q_aload_n (pc := 0) (j := 0) rfl rfl ?_
  refine q_iload_n (pc := 1) (j := 1) rfl rfl ?_
  refine q_callV (pc := 2) (as := [.int (nI q)]) (rest := []) (b := r) (st2 := [.int (S.1 (r + 1) q)]) rfl ce_X3_sort ml_X3_26 im_X3_sort se_X3_sort hs.1 rfl rfl rfl (by decide) (Nat.le_of_ble_eq_true rfl) (sp_X3_sort (q := q) hs (by omega)) rfl ?_
  refine q_st (st2 := [.int 1]) (by rw [(show (S.1 (r + 1) q) = 1 from hso)]) ?_
  refine q_istore_n (pc := 5) (j := 3) [some (.ref r), some (.int (nI q)), some (.int (nI i)), some (.int 1), none, none, none, none] rfl (by decide) rfl ?_
  refine q_aload_n (pc := 6) (j := 0) rfl rfl ?_
  refine q_iload_n (pc := 7) (j := 1) rfl rfl ?_
  refine q_iload_n (pc := 8) (j := 2) rfl rfl ?_
  refine q_callV (pc := 9) (as := [.int (nI q), .int (nI i)]) (rest := []) (b := r) (st2 := [.long (S.2.2.1 (r + 3) (40 * q + i))]) rfl ce_X3_number ml_X3_52 im_X3_number se_X3_number hs.1 rfl rfl rfl (by decide) (Nat.le_of_ble_eq_true rfl) (sp_X3_number (q := q) (i := i) hs (by omega) (by omega)) rfl ?_
  refine q_lstore (pc := 12) (j := 4) [some (.ref r), some (.int (nI q)), some (.int (nI i)), some (.int 1), some (.long (S.2.2.1 (r + 3) (40 * q + i))), none, none, none] rfl (by decide) rfl ?_
  refine q_iload_n (pc := 14) (j := 3) rfl rfl ?_
  refine q_iconst (pc := 15) 2 rfl (by decide) ?_
  refine q_icmp_eq (pc := 16) 24 rfl (by decide) (fun h9 => absurd h9 (by decide : ¬ (1 : Int32) = 2)) (fun _ => ?_)
  refine q_iload_n (pc := 19) (j := 3) rfl rfl ?_
  refine q_iconst (pc := 20) 3 rfl (by decide) ?_
  refine q_icmp_ne (pc := 21) 28 rfl (by decide) (fun _ => ?_) (fun h9 => absurd h9 (by decide : (1 : Int32) = 3 → False))
  refine q_iload_n (pc := 28) (j := 3) rfl rfl ?_
  refine q_lload (pc := 29) (j := 4) rfl rfl ?_
  refine q_callS (pc := 31) (as := [.int 1, .long (S.2.2.1 (r + 3) (40 * q + i))]) (rest := []) (st2 := [.double (szF 1 (S.2.2.1 (r + 3) (40 * q + i)))]) rfl ce_X2_size ml_X3_56 st_X2_size rfl (by decide) (Nat.le_of_ble_eq_true rfl) (sp_X2_size1 hok) rfl ?_
  refine q_dstore (pc := 34) (j := 6) [some (.ref r), some (.int (nI q)), some (.int (nI i)), some (.int 1), some (.long (S.2.2.1 (r + 3) (40 * q + i))), none, some (.double (szF 1 (S.2.2.1 (r + 3) (40 * q + i)))), none] rfl (by decide) rfl ?_
  refine q_lload (pc := 36) (j := 4) rfl rfl ?_
  refine q_lconst (pc := 38) 0 rfl (by decide) ?_
  refine q_lcmp (pc := 39) rfl ?_
  refine q_if_ge (pc := 40) 50 rfl (by decide) (fun h40 => ?_) (fun h40 => ?_)
  · refine q_dload (pc := 50) (j := 6) rfl rfl ?_
    refine q_d2i (pc := 52) rfl ?_
    exact q_iret (pc := 53) rfl rfl ⟨congrArg (fun v => some (Value.int v)) (by first | rw [aiF, if_neg (fun q9 => absurd ((lg_cmp_ge _ _).mp h40) (Int64.not_le.mpr q9))] | rw [aiF, if_pos (Int64.not_le.mp (fun q9 => h40 ((lg_cmp_ge _ _).mpr q9)))]), rfl⟩
  · refine q_dconst0 (pc := 43) rfl ?_
    refine q_dload (pc := 44) (j := 6) rfl rfl ?_
    refine q_dsub (pc := 46) rfl h2 ?_
    refine q_goto (pc := 47) 52 rfl (by decide) ?_
    refine q_d2i (pc := 52) rfl ?_
    exact q_iret (pc := 53) rfl rfl ⟨congrArg (fun v => some (Value.int v)) (by first | rw [aiF, if_neg (fun q9 => absurd ((lg_cmp_ge _ _).mp h40) (Int64.not_le.mpr q9))] | rw [aiF, if_pos (Int64.not_le.mp (fun q9 => h40 ((lg_cmp_ge _ _).mpr q9)))]), rfl⟩
set_option maxRecDepth 100000 in
theorem sp_X3_isNought1 {sh : List PSh} {S : PSt} {r q : Nat} (hs : isSs sh r) (hq : q < 4) {i : Nat} (hi : i < 40) (hso : S.1 (r + 1) q = 1) (hok : okSz 1 (S.2.2.1 (r + 3) (40 * q + i)))  : pF mX3_isNought 2 [.ref r, .int (nI q), .int (nI i)] sh S S (some (.int (pB (decide (Op.cmpValue (FP.dcmp (szF 1 (S.2.2.1 (r + 3) (40 * q + i))) FP.dconst0) .l = 0))))) := by
  refine pF.of (pG.of [some (.ref r), some (.int (nI q)), some (.int (nI i)), none, none, none] (by decide) tk_X3_isNought (Nat.le_of_ble_eq_true rfl) rfl (fun X => ?_))
  refine q_aload_n (pc := 0) (j := 0) rfl rfl ?_
  refine q_iload_n (pc := 1) (j := 1) rfl rfl ?_
  refine q_callV (pc := 2) (as := [.int (nI q)]) (rest := []) (b := r) (st2 := [.int (S.1 (r + 1) q)]) rfl ce_X3_sort ml_X3_26 im_X3_sort se_X3_sort hs.1 rfl rfl rfl (by decide) (Nat.le_of_ble_eq_true rfl) (sp_X3_sort (q := q) hs (by omega)) rfl ?_
  refine q_st (st2 := [.int 1]) (by rw [(show (S.1 (r + 1) q) = 1 from hso)]) ?_
  refine q_istore_n (pc := 5) (j := 3) [some (.ref r), some (.int (nI q)), some (.int (nI i)), some (.int 1), none, none] rfl (by decide) rfl ?_
  refine q_aload_n (pc := 6) (j := 0) rfl rfl ?_
  refine q_iload_n (pc := 7) (j := 1) rfl rfl ?_
  refine q_iload_n (pc := 8) (j := 2) rfl rfl ?_
  refine q_callV (pc := 9) (as := [.int (nI q), .int (nI i)]) (rest := []) (b := r) (st2 := [.long (S.2.2.1 (r + 3) (40 * q + i))]) rfl ce_X3_number ml_X3_52 im_X3_number se_X3_number hs.1 rfl rfl rfl (by decide) (Nat.le_of_ble_eq_true rfl) (sp_X3_number (q := q) (i := i) hs (by omega) (by omega)) rfl ?_
  refine q_lstore (pc := 12) (j := 4) [some (.ref r), some (.int (nI q)), some (.int (nI i)), some (.int 1), some (.long (S.2.2.1 (r + 3) (40 * q + i))), none] rfl (by decide) rfl ?_
  refine q_iload_n (pc := 14) (j := 3) rfl rfl ?_
  refine q_iconst (pc := 15) 2 rfl (by decide) ?_
  refine q_icmp_eq (pc := 16) 24 rfl (by decide) (fun h9 => absurd h9 (by decide : ¬ (1 : Int32) = 2)) (fun _ => ?_)
  refine q_iload_n (pc := 19) (j := 3) rfl rfl ?_
  refine q_iconst (pc := 20) 3 rfl (by decide) ?_
  refine q_icmp_ne (pc := 21) 39 rfl (by decide) (fun _ => ?_) (fun h9 => absurd h9 (by decide : (1 : Int32) = 3 → False))
  refine q_iload_n (pc := 39) (j := 3) rfl rfl ?_
  refine q_lload (pc := 40) (j := 4) rfl rfl ?_
  refine q_callS (pc := 42) (as := [.int 1, .long (S.2.2.1 (r + 3) (40 * q + i))]) (rest := []) (st2 := [.double (szF 1 (S.2.2.1 (r + 3) (40 * q + i)))]) rfl ce_X2_size ml_X3_56 st_X2_size rfl (by decide) (Nat.le_of_ble_eq_true rfl) (sp_X2_size1 hok) rfl ?_
  refine q_dconst0 (pc := 45) rfl ?_
  refine q_dcmp (pc := 46) (op := .l) rfl ?_
  refine q_if_ne (pc := 47) 54 rfl (by decide) (fun h47 => ?_) (fun h47 => ?_)
  · refine q_iconst (pc := 54) 0 rfl (by decide) ?_
    exact q_zret (pc := 55) rfl rfl rfl ⟨congrArg (fun v => some (Value.int v)) (by first | (rw [decide_eq_true h47]; rfl) | (rw [decide_eq_false h47]; rfl)), rfl⟩
  · refine q_iconst (pc := 50) 1 rfl (by decide) ?_
    refine q_goto (pc := 51) 55 rfl (by decide) ?_
    exact q_zret (pc := 55) rfl rfl rfl ⟨congrArg (fun v => some (Value.int v)) (by first | (rw [decide_eq_true h47]; rfl) | (rw [decide_eq_false h47]; rfl)), rfl⟩
set_option maxRecDepth 100000 in
theorem sp_X3_asInt2 {sh : List PSh} {S : PSt} {r q : Nat} (hs : isSs sh r) (hq : q < 4) {i : Nat} (hi : i < 40) (hso : S.1 (r + 1) q = 2)  : pF mX3_asInt 2 [.ref r, .int (nI q), .int (nI i)] sh S S (some (.int ((S.2.2.1 (r + 3) (40 * q + i)).toInt32))) := by
  refine pF.of (pG.of [some (.ref r), some (.int (nI q)), some (.int (nI i)), none, none, none, none, none] (by decide) tk_X3_asInt (Nat.le_of_ble_eq_true rfl) rfl (fun X => ?_))
  refine q_aload_n (pc := 0) (j := 0) rfl rfl ?_
  refine q_iload_n (pc := 1) (j := 1) rfl rfl ?_
  refine q_callV (pc := 2) (as := [.int (nI q)]) (rest := []) (b := r) (st2 := [.int (S.1 (r + 1) q)]) rfl ce_X3_sort ml_X3_26 im_X3_sort se_X3_sort hs.1 rfl rfl rfl (by decide) (Nat.le_of_ble_eq_true rfl) (sp_X3_sort (q := q) hs (by omega)) rfl ?_
  refine q_st (st2 := [.int 2]) (by rw [(show (S.1 (r + 1) q) = 2 from hso)]) ?_
  refine q_istore_n (pc := 5) (j := 3) [some (.ref r), some (.int (nI q)), some (.int (nI i)), some (.int 2), none, none, none, none] rfl (by decide) rfl ?_
  refine q_aload_n (pc := 6) (j := 0) rfl rfl ?_
  refine q_iload_n (pc := 7) (j := 1) rfl rfl ?_
  refine q_iload_n (pc := 8) (j := 2) rfl rfl ?_
  refine q_callV (pc := 9) (as := [.int (nI q), .int (nI i)]) (rest := []) (b := r) (st2 := [.long (S.2.2.1 (r + 3) (40 * q + i))]) rfl ce_X3_number ml_X3_52 im_X3_number se_X3_number hs.1 rfl rfl rfl (by decide) (Nat.le_of_ble_eq_true rfl) (sp_X3_number (q := q) (i := i) hs (by omega) (by omega)) rfl ?_
  refine q_lstore (pc := 12) (j := 4) [some (.ref r), some (.int (nI q)), some (.int (nI i)), some (.int 2), some (.long (S.2.2.1 (r + 3) (40 * q + i))), none, none, none] rfl (by decide) rfl ?_
  refine q_iload_n (pc := 14) (j := 3) rfl rfl ?_
  refine q_iconst (pc := 15) 2 rfl (by decide) ?_
  refine q_icmp_eq (pc := 16) 24 rfl (by decide) (fun _ => ?_) (fun h9 => absurd (by decide : (2 : Int32) = 2) h9)
  refine q_lload (pc := 24) (j := 4) rfl rfl ?_
  refine q_l2i (pc := 26) rfl ?_
  exact q_iret (pc := 27) rfl rfl ⟨rfl, rfl⟩
set_option maxRecDepth 100000 in
theorem sp_X3_isNought2 {sh : List PSh} {S : PSt} {r q : Nat} (hs : isSs sh r) (hq : q < 4) {i : Nat} (hi : i < 40) (hso : S.1 (r + 1) q = 2)  : pF mX3_isNought 2 [.ref r, .int (nI q), .int (nI i)] sh S S (some (.int (pB (decide ((S.2.2.1 (r + 3) (40 * q + i)) = 0))))) := by
  refine pF.of (pG.of [some (.ref r), some (.int (nI q)), some (.int (nI i)), none, none, none] (by decide) tk_X3_isNought (Nat.le_of_ble_eq_true rfl) rfl (fun X => ?_))
  refine q_aload_n (pc := 0) (j := 0) rfl rfl ?_
  refine q_iload_n (pc := 1) (j := 1) rfl rfl ?_
  refine q_callV (pc := 2) (as := [.int (nI q)]) (rest := []) (b := r) (st2 := [.int (S.1 (r + 1) q)]) rfl ce_X3_sort ml_X3_26 im_X3_sort se_X3_sort hs.1 rfl rfl rfl (by decide) (Nat.le_of_ble_eq_true rfl) (sp_X3_sort (q := q) hs (by omega)) rfl ?_
  refine q_st (st2 := [.int 2]) (by rw [(show (S.1 (r + 1) q) = 2 from hso)]) ?_
  refine q_istore_n (pc := 5) (j := 3) [some (.ref r), some (.int (nI q)), some (.int (nI i)), some (.int 2), none, none] rfl (by decide) rfl ?_
  refine q_aload_n (pc := 6) (j := 0) rfl rfl ?_
  refine q_iload_n (pc := 7) (j := 1) rfl rfl ?_
  refine q_iload_n (pc := 8) (j := 2) rfl rfl ?_
  refine q_callV (pc := 9) (as := [.int (nI q), .int (nI i)]) (rest := []) (b := r) (st2 := [.long (S.2.2.1 (r + 3) (40 * q + i))]) rfl ce_X3_number ml_X3_52 im_X3_number se_X3_number hs.1 rfl rfl rfl (by decide) (Nat.le_of_ble_eq_true rfl) (sp_X3_number (q := q) (i := i) hs (by omega) (by omega)) rfl ?_
  refine q_lstore (pc := 12) (j := 4) [some (.ref r), some (.int (nI q)), some (.int (nI i)), some (.int 2), some (.long (S.2.2.1 (r + 3) (40 * q + i))), none] rfl (by decide) rfl ?_
  refine q_iload_n (pc := 14) (j := 3) rfl rfl ?_
  refine q_iconst (pc := 15) 2 rfl (by decide) ?_
  refine q_icmp_eq (pc := 16) 24 rfl (by decide) (fun _ => ?_) (fun h9 => absurd (by decide : (2 : Int32) = 2) h9)
  refine q_lload (pc := 24) (j := 4) rfl rfl ?_
  refine q_lconst (pc := 26) 0 rfl (by decide) ?_
  refine q_lcmp (pc := 27) rfl ?_
  refine q_if_ne (pc := 28) 35 rfl (by decide) (fun h28 => ?_) (fun h28 => ?_)
  · refine q_iconst (pc := 35) 0 rfl (by decide) ?_
    refine q_goto (pc := 36) 55 rfl (by decide) ?_
    exact q_zret (pc := 55) rfl rfl rfl ⟨congrArg (fun v => some (Value.int v)) (by first | (rw [decide_eq_true ((lg_cmp_eq _ _).mp h28)]; rfl) | (rw [decide_eq_false (fun q9 => h28 ((lg_cmp_eq _ _).mpr q9))]; rfl)), rfl⟩
  · refine q_iconst (pc := 31) 1 rfl (by decide) ?_
    refine q_goto (pc := 32) 55 rfl (by decide) ?_
    exact q_zret (pc := 55) rfl rfl rfl ⟨congrArg (fun v => some (Value.int v)) (by first | (rw [decide_eq_true ((lg_cmp_eq _ _).mp h28)]; rfl) | (rw [decide_eq_false (fun q9 => h28 ((lg_cmp_eq _ _).mpr q9))]; rfl)), rfl⟩
set_option maxRecDepth 100000 in
theorem sp_X3_asInt3 {sh : List PSh} {S : PSt} {r q : Nat} (hs : isSs sh r) (hq : q < 4) {i : Nat} (hi : i < 40) (hso : S.1 (r + 1) q = 3)  : pF mX3_asInt 2 [.ref r, .int (nI q), .int (nI i)] sh S S (some (.int ((S.2.2.1 (r + 3) (40 * q + i)).toInt32))) := by
  refine pF.of (pG.of [some (.ref r), some (.int (nI q)), some (.int (nI i)), none, none, none, none, none] (by decide) tk_X3_asInt (Nat.le_of_ble_eq_true rfl) rfl (fun X => ?_))
  refine q_aload_n (pc := 0) (j := 0) rfl rfl ?_
  refine q_iload_n (pc := 1) (j := 1) rfl rfl ?_
  refine q_callV (pc := 2) (as := [.int (nI q)]) (rest := []) (b := r) (st2 := [.int (S.1 (r + 1) q)]) rfl ce_X3_sort ml_X3_26 im_X3_sort se_X3_sort hs.1 rfl rfl rfl (by decide) (Nat.le_of_ble_eq_true rfl) (sp_X3_sort (q := q) hs (by omega)) rfl ?_
  refine q_st (st2 := [.int 3]) (by rw [(show (S.1 (r + 1) q) = 3 from hso)]) ?_
  refine q_istore_n (pc := 5) (j := 3) [some (.ref r), some (.int (nI q)), some (.int (nI i)), some (.int 3), none, none, none, none] rfl (by decide) rfl ?_
  refine q_aload_n (pc := 6) (j := 0) rfl rfl ?_
  refine q_iload_n (pc := 7) (j := 1) rfl rfl ?_
  refine q_iload_n (pc := 8) (j := 2) rfl rfl ?_
  refine q_callV (pc := 9) (as := [.int (nI q), .int (nI i)]) (rest := []) (b := r) (st2 := [.long (S.2.2.1 (r + 3) (40 * q + i))]) rfl ce_X3_number ml_X3_52 im_X3_number se_X3_number hs.1 rfl rfl rfl (by decide) (Nat.le_of_ble_eq_true rfl) (sp_X3_number (q := q) (i := i) hs (by omega) (by omega)) rfl ?_
  refine q_lstore (pc := 12) (j := 4) [some (.ref r), some (.int (nI q)), some (.int (nI i)), some (.int 3), some (.long (S.2.2.1 (r + 3) (40 * q + i))), none, none, none] rfl (by decide) rfl ?_
  refine q_iload_n (pc := 14) (j := 3) rfl rfl ?_
  refine q_iconst (pc := 15) 2 rfl (by decide) ?_
  refine q_icmp_eq (pc := 16) 24 rfl (by decide) (fun h9 => absurd h9 (by decide : ¬ (3 : Int32) = 2)) (fun _ => ?_)
  refine q_iload_n (pc := 19) (j := 3) rfl rfl ?_
  refine q_iconst (pc := 20) 3 rfl (by decide) ?_
  refine q_icmp_ne (pc := 21) 28 rfl (by decide) (fun h9 => absurd h9 (by decide : ¬ ¬ (3 : Int32) = 3)) (fun _ => ?_)
  refine q_lload (pc := 24) (j := 4) rfl rfl ?_
  refine q_l2i (pc := 26) rfl ?_
  exact q_iret (pc := 27) rfl rfl ⟨rfl, rfl⟩
set_option maxRecDepth 100000 in
theorem sp_X3_isNought3 {sh : List PSh} {S : PSt} {r q : Nat} (hs : isSs sh r) (hq : q < 4) {i : Nat} (hi : i < 40) (hso : S.1 (r + 1) q = 3)  : pF mX3_isNought 2 [.ref r, .int (nI q), .int (nI i)] sh S S (some (.int (pB (decide ((S.2.2.1 (r + 3) (40 * q + i)) = 0))))) := by
  refine pF.of (pG.of [some (.ref r), some (.int (nI q)), some (.int (nI i)), none, none, none] (by decide) tk_X3_isNought (Nat.le_of_ble_eq_true rfl) rfl (fun X => ?_))
  refine q_aload_n (pc := 0) (j := 0) rfl rfl ?_
  refine q_iload_n (pc := 1) (j := 1) rfl rfl ?_
  refine q_callV (pc := 2) (as := [.int (nI q)]) (rest := []) (b := r) (st2 := [.int (S.1 (r + 1) q)]) rfl ce_X3_sort ml_X3_26 im_X3_sort se_X3_sort hs.1 rfl rfl rfl (by decide) (Nat.le_of_ble_eq_true rfl) (sp_X3_sort (q := q) hs (by omega)) rfl ?_
  refine q_st (st2 := [.int 3]) (by rw [(show (S.1 (r + 1) q) = 3 from hso)]) ?_
  refine q_istore_n (pc := 5) (j := 3) [some (.ref r), some (.int (nI q)), some (.int (nI i)), some (.int 3), none, none] rfl (by decide) rfl ?_
  refine q_aload_n (pc := 6) (j := 0) rfl rfl ?_
  refine q_iload_n (pc := 7) (j := 1) rfl rfl ?_
  refine q_iload_n (pc := 8) (j := 2) rfl rfl ?_
  refine q_callV (pc := 9) (as := [.int (nI q), .int (nI i)]) (rest := []) (b := r) (st2 := [.long (S.2.2.1 (r + 3) (40 * q + i))]) rfl ce_X3_number ml_X3_52 im_X3_number se_X3_number hs.1 rfl rfl rfl (by decide) (Nat.le_of_ble_eq_true rfl) (sp_X3_number (q := q) (i := i) hs (by omega) (by omega)) rfl ?_
  refine q_lstore (pc := 12) (j := 4) [some (.ref r), some (.int (nI q)), some (.int (nI i)), some (.int 3), some (.long (S.2.2.1 (r + 3) (40 * q + i))), none] rfl (by decide) rfl ?_
  refine q_iload_n (pc := 14) (j := 3) rfl rfl ?_
  refine q_iconst (pc := 15) 2 rfl (by decide) ?_
  refine q_icmp_eq (pc := 16) 24 rfl (by decide) (fun h9 => absurd h9 (by decide : ¬ (3 : Int32) = 2)) (fun _ => ?_)
  refine q_iload_n (pc := 19) (j := 3) rfl rfl ?_
  refine q_iconst (pc := 20) 3 rfl (by decide) ?_
  refine q_icmp_ne (pc := 21) 39 rfl (by decide) (fun h9 => absurd h9 (by decide : ¬ ¬ (3 : Int32) = 3)) (fun _ => ?_)
  refine q_lload (pc := 24) (j := 4) rfl rfl ?_
  refine q_lconst (pc := 26) 0 rfl (by decide) ?_
  refine q_lcmp (pc := 27) rfl ?_
  refine q_if_ne (pc := 28) 35 rfl (by decide) (fun h28 => ?_) (fun h28 => ?_)
  · refine q_iconst (pc := 35) 0 rfl (by decide) ?_
    refine q_goto (pc := 36) 55 rfl (by decide) ?_
    exact q_zret (pc := 55) rfl rfl rfl ⟨congrArg (fun v => some (Value.int v)) (by first | (rw [decide_eq_true ((lg_cmp_eq _ _).mp h28)]; rfl) | (rw [decide_eq_false (fun q9 => h28 ((lg_cmp_eq _ _).mpr q9))]; rfl)), rfl⟩
  · refine q_iconst (pc := 31) 1 rfl (by decide) ?_
    refine q_goto (pc := 32) 55 rfl (by decide) ?_
    exact q_zret (pc := 55) rfl rfl rfl ⟨congrArg (fun v => some (Value.int v)) (by first | (rw [decide_eq_true ((lg_cmp_eq _ _).mp h28)]; rfl) | (rw [decide_eq_false (fun q9 => h28 ((lg_cmp_eq _ _).mpr q9))]; rfl)), rfl⟩
def rdW (s : Nat) (a b : Int64) : Int64 := wsF s (enF s (rmF (szF s a) (szF s b))) (decide (a < 0))
def okRd (s : Nat) (a b : Int64) : Prop := okSz s a ∧ okSz s b ∧ okRm (szF s a) (szF s b) ∧ okEn s (rmF (szF s a) (szF s b))
set_option maxRecDepth 100000 in
theorem sp_X3_reduce0 {sh : List PSh} {S : PSt} {r q : Nat} (hs : isSs sh r) (hq : q < 4) {i j : Nat} (hi : i < 40) (hj : j < 40) (hso : S.1 (r + 1) q = 0) (hok : okRd 0 (S.2.2.1 (r + 3) (40 * q + i)) (S.2.2.1 (r + 3) (40 * q + j)))  : pF mX3_reduce 6 [.ref r, .int (nI q), .int (nI i), .int (nI j)] sh S (pSJ S (r + 3) (40 * q + i) (rdW 0 (S.2.2.1 (r + 3) (40 * q + i)) (S.2.2.1 (r + 3) (40 * q + j)))) (none) := by
  refine pF.of (pG.of [some (.ref r), some (.int (nI q)), some (.int (nI i)), some (.int (nI j)), none, none, none, none, none, none, none] (by decide) tk_X3_reduce (Nat.le_of_ble_eq_true rfl) rfl (fun X => ?_))
  refine q_aload_n (pc := 0) (j := 0) rfl rfl ?_
  refine q_iload_n (pc := 1) (j := 1) rfl rfl ?_
  refine q_callV (pc := 2) (as := [.int (nI q)]) (rest := []) (b := r) (st2 := [.int (S.1 (r + 1) q)]) rfl ce_X3_sort ml_X3_26 im_X3_sort se_X3_sort hs.1 rfl rfl rfl (by decide) (Nat.le_of_ble_eq_true rfl) (sp_X3_sort (q := q) hs (by omega)) rfl ?_
  refine q_st (st2 := [.int 0]) (by rw [(show (S.1 (r + 1) q) = 0 from hso)]) ?_
  refine q_istore (pc := 5) (j := 4) [some (.ref r), some (.int (nI q)), some (.int (nI i)), some (.int (nI j)), some (.int 0), none, none, none, none, none, none] rfl (by decide) rfl ?_
  refine q_aload_n (pc := 7) (j := 0) rfl rfl ?_
  refine q_iload_n (pc := 8) (j := 1) rfl rfl ?_
  refine q_iload_n (pc := 9) (j := 2) rfl rfl ?_
  refine q_callV (pc := 10) (as := [.int (nI q), .int (nI i)]) (rest := []) (b := r) (st2 := [.long (S.2.2.1 (r + 3) (40 * q + i))]) rfl ce_X3_number ml_X3_52 im_X3_number se_X3_number hs.1 rfl rfl rfl (by decide) (Nat.le_of_ble_eq_true rfl) (sp_X3_number (q := q) (i := i) hs (by omega) (by omega)) rfl ?_
  refine q_lstore (pc := 13) (j := 5) [some (.ref r), some (.int (nI q)), some (.int (nI i)), some (.int (nI j)), some (.int 0), some (.long (S.2.2.1 (r + 3) (40 * q + i))), none, none, none, none, none] rfl (by decide) rfl ?_
  refine q_aload_n (pc := 15) (j := 0) rfl rfl ?_
  refine q_iload_n (pc := 16) (j := 1) rfl rfl ?_
  refine q_iload_n (pc := 17) (j := 3) rfl rfl ?_
  refine q_callV (pc := 18) (as := [.int (nI q), .int (nI j)]) (rest := []) (b := r) (st2 := [.long (S.2.2.1 (r + 3) (40 * q + j))]) rfl ce_X3_number ml_X3_52 im_X3_number se_X3_number hs.1 rfl rfl rfl (by decide) (Nat.le_of_ble_eq_true rfl) (sp_X3_number (q := q) (i := j) hs (by omega) (by omega)) rfl ?_
  refine q_lstore (pc := 21) (j := 7) [some (.ref r), some (.int (nI q)), some (.int (nI i)), some (.int (nI j)), some (.int 0), some (.long (S.2.2.1 (r + 3) (40 * q + i))), none, some (.long (S.2.2.1 (r + 3) (40 * q + j))), none, none, none] rfl (by decide) rfl ?_
  refine q_iload (pc := 23) (j := 4) rfl rfl ?_
  refine q_if_eq (pc := 25) 34 rfl (by decide) (fun _ => ?_) (fun h9 => absurd (by decide : (0 : Int32) = 0) h9)
  refine q_iload (pc := 34) (j := 4) rfl rfl ?_
  refine q_lload (pc := 36) (j := 5) rfl rfl ?_
  refine q_callS (pc := 38) (as := [.int 0, .long (S.2.2.1 (r + 3) (40 * q + i))]) (rest := []) (st2 := [.double (szF 0 (S.2.2.1 (r + 3) (40 * q + i)))]) rfl ce_X2_size ml_X3_56 st_X2_size rfl (by decide) (Nat.le_of_ble_eq_true rfl) (sp_X2_size0 hok.1) rfl ?_
  refine q_iload (pc := 41) (j := 4) rfl rfl ?_
  refine q_lload (pc := 43) (j := 7) rfl rfl ?_
  refine q_callS (pc := 45) (as := [.int 0, .long (S.2.2.1 (r + 3) (40 * q + j))]) (rest := [.double (szF 0 (S.2.2.1 (r + 3) (40 * q + i)))]) (st2 := [.double (szF 0 (S.2.2.1 (r + 3) (40 * q + j))), .double (szF 0 (S.2.2.1 (r + 3) (40 * q + i)))]) rfl ce_X2_size ml_X3_56 st_X2_size rfl (by decide) (Nat.le_of_ble_eq_true rfl) (sp_X2_size0 hok.2.1) rfl ?_
  refine q_callS (pc := 48) (as := [.double (szF 0 (S.2.2.1 (r + 3) (40 * q + i))), .double (szF 0 (S.2.2.1 (r + 3) (40 * q + j)))]) (rest := []) (st2 := [.double (rmF (szF 0 (S.2.2.1 (r + 3) (40 * q + i))) (szF 0 (S.2.2.1 (r + 3) (40 * q + j))))]) rfl ce_X2_remainder ml_X3_60 st_X2_remainder rfl (by decide) (Nat.le_of_ble_eq_true rfl) (sp_X2_remainder hok.2.2.1) rfl ?_
  refine q_dstore (pc := 51) (j := 9) [some (.ref r), some (.int (nI q)), some (.int (nI i)), some (.int (nI j)), some (.int 0), some (.long (S.2.2.1 (r + 3) (40 * q + i))), none, some (.long (S.2.2.1 (r + 3) (40 * q + j))), none, some (.double (rmF (szF 0 (S.2.2.1 (r + 3) (40 * q + i))) (szF 0 (S.2.2.1 (r + 3) (40 * q + j))))), none] rfl (by decide) rfl ?_
  refine q_aload_n (pc := 53) (j := 0) rfl rfl ?_
  refine q_iload_n (pc := 54) (j := 1) rfl rfl ?_
  refine q_iload_n (pc := 55) (j := 2) rfl rfl ?_
  refine q_iload (pc := 56) (j := 4) rfl rfl ?_
  refine q_iload (pc := 58) (j := 4) rfl rfl ?_
  refine q_dload (pc := 60) (j := 9) rfl rfl ?_
  refine q_callS (pc := 62) (as := [.int 0, .double (rmF (szF 0 (S.2.2.1 (r + 3) (40 * q + i))) (szF 0 (S.2.2.1 (r + 3) (40 * q + j))))]) (rest := [.int 0, .int (nI i), .int (nI q), .ref r]) (st2 := [.long (enF 0 (rmF (szF 0 (S.2.2.1 (r + 3) (40 * q + i))) (szF 0 (S.2.2.1 (r + 3) (40 * q + j))))), .int 0, .int (nI i), .int (nI q), .ref r]) rfl ce_X2_encode ml_X3_46 st_X2_encode rfl (by decide) (Nat.le_of_ble_eq_true rfl) (sp_X2_encode0 hok.2.2.2) rfl ?_
  refine q_lload (pc := 65) (j := 5) rfl rfl ?_
  refine q_lconst (pc := 67) 0 rfl (by decide) ?_
  refine q_lcmp (pc := 68) rfl ?_
  refine q_join 77 [some (.ref r), some (.int (nI q)), some (.int (nI i)), some (.int (nI j)), some (.int 0), some (.long (S.2.2.1 (r + 3) (40 * q + i))), none, some (.long (S.2.2.1 (r + 3) (40 * q + j))), none, some (.double (rmF (szF 0 (S.2.2.1 (r + 3) (40 * q + i))) (szF 0 (S.2.2.1 (r + 3) (40 * q + j))))), none] [.int (pB (decide ((S.2.2.1 (r + 3) (40 * q + i)) < 0))), .long (enF 0 (rmF (szF 0 (S.2.2.1 (r + 3) (40 * q + i))) (szF 0 (S.2.2.1 (r + 3) (40 * q + j))))), .int 0, .int (nI i), .int (nI q), .ref r] S ?_ (fun key69 => ?_)
  · refine q_callS (pc := 77) (as := [.int 0, .long (enF 0 (rmF (szF 0 (S.2.2.1 (r + 3) (40 * q + i))) (szF 0 (S.2.2.1 (r + 3) (40 * q + j))))), .int (pB (decide ((S.2.2.1 (r + 3) (40 * q + i)) < 0)))]) (rest := [.int (nI i), .int (nI q), .ref r]) (st2 := [.long (wsF 0 (enF 0 (rmF (szF 0 (S.2.2.1 (r + 3) (40 * q + i))) (szF 0 (S.2.2.1 (r + 3) (40 * q + j))))) (decide ((S.2.2.1 (r + 3) (40 * q + i)) < 0))), .int (nI i), .int (nI q), .ref r]) rfl ce_X2_withSign ml_X3_64 st_X2_withSign rfl (by decide) (Nat.le_of_ble_eq_true rfl) (sp_X2_withSign0) rfl ?_
    refine q_callV (pc := 80) (as := [.int (nI q), .int (nI i), .long (wsF 0 (enF 0 (rmF (szF 0 (S.2.2.1 (r + 3) (40 * q + i))) (szF 0 (S.2.2.1 (r + 3) (40 * q + j))))) (decide ((S.2.2.1 (r + 3) (40 * q + i)) < 0)))]) (rest := []) (b := r) (st2 := []) rfl ce_X3_change ml_X3_34 im_X3_change se_X3_change hs.1 rfl rfl rfl (by decide) (Nat.le_of_ble_eq_true rfl) (sp_X3_change (q := q) (i := i) hs (by omega) (by omega)) rfl ?_
    refine q_goto (pc := 83) 104 rfl (by decide) ?_
    exact q_vret (pc := 104) rfl rfl ⟨rfl, rfl⟩
  · refine q_if_ge (pc := 69) 76 rfl (by decide) (fun h69 => ?_) (fun h69 => ?_)
    · refine q_iconst (pc := 76) 0 rfl (by decide) ?_
      exact q_st (by rw [show decide ((S.2.2.1 (r + 3) (40 * q + i)) < 0) = false from decide_eq_false (fun q9 => absurd ((lg_cmp_ge _ _).mp h69) (Int64.not_le.mpr q9))]; rfl) key69
    · refine q_iconst (pc := 72) 1 rfl (by decide) ?_
      refine q_goto (pc := 73) 77 rfl (by decide) ?_
      exact q_st (by rw [show decide ((S.2.2.1 (r + 3) (40 * q + i)) < 0) = true from decide_eq_true (Int64.not_le.mp (fun q9 => h69 ((lg_cmp_ge _ _).mpr q9)))]; rfl) key69
set_option maxRecDepth 100000 in
theorem sp_X3_reduce1 {sh : List PSh} {S : PSt} {r q : Nat} (hs : isSs sh r) (hq : q < 4) {i j : Nat} (hi : i < 40) (hj : j < 40) (hso : S.1 (r + 1) q = 1) (hok : okRd 1 (S.2.2.1 (r + 3) (40 * q + i)) (S.2.2.1 (r + 3) (40 * q + j)))  : pF mX3_reduce 6 [.ref r, .int (nI q), .int (nI i), .int (nI j)] sh S (pSJ S (r + 3) (40 * q + i) (rdW 1 (S.2.2.1 (r + 3) (40 * q + i)) (S.2.2.1 (r + 3) (40 * q + j)))) (none) := by
  refine pF.of (pG.of [some (.ref r), some (.int (nI q)), some (.int (nI i)), some (.int (nI j)), none, none, none, none, none, none, none] (by decide) tk_X3_reduce (Nat.le_of_ble_eq_true rfl) rfl (fun X => ?_))
  refine q_aload_n (pc := 0) (j := 0) rfl rfl ?_
  refine q_iload_n (pc := 1) (j := 1) rfl rfl ?_
  refine q_callV (pc := 2) (as := [.int (nI q)]) (rest := []) (b := r) (st2 := [.int (S.1 (r + 1) q)]) rfl ce_X3_sort ml_X3_26 im_X3_sort se_X3_sort hs.1 rfl rfl rfl (by decide) (Nat.le_of_ble_eq_true rfl) (sp_X3_sort (q := q) hs (by omega)) rfl ?_
  refine q_st (st2 := [.int 1]) (by rw [(show (S.1 (r + 1) q) = 1 from hso)]) ?_
  refine q_istore (pc := 5) (j := 4) [some (.ref r), some (.int (nI q)), some (.int (nI i)), some (.int (nI j)), some (.int 1), none, none, none, none, none, none] rfl (by decide) rfl ?_
  refine q_aload_n (pc := 7) (j := 0) rfl rfl ?_
  refine q_iload_n (pc := 8) (j := 1) rfl rfl ?_
  refine q_iload_n (pc := 9) (j := 2) rfl rfl ?_
  refine q_callV (pc := 10) (as := [.int (nI q), .int (nI i)]) (rest := []) (b := r) (st2 := [.long (S.2.2.1 (r + 3) (40 * q + i))]) rfl ce_X3_number ml_X3_52 im_X3_number se_X3_number hs.1 rfl rfl rfl (by decide) (Nat.le_of_ble_eq_true rfl) (sp_X3_number (q := q) (i := i) hs (by omega) (by omega)) rfl ?_
  refine q_lstore (pc := 13) (j := 5) [some (.ref r), some (.int (nI q)), some (.int (nI i)), some (.int (nI j)), some (.int 1), some (.long (S.2.2.1 (r + 3) (40 * q + i))), none, none, none, none, none] rfl (by decide) rfl ?_
  refine q_aload_n (pc := 15) (j := 0) rfl rfl ?_
  refine q_iload_n (pc := 16) (j := 1) rfl rfl ?_
  refine q_iload_n (pc := 17) (j := 3) rfl rfl ?_
  refine q_callV (pc := 18) (as := [.int (nI q), .int (nI j)]) (rest := []) (b := r) (st2 := [.long (S.2.2.1 (r + 3) (40 * q + j))]) rfl ce_X3_number ml_X3_52 im_X3_number se_X3_number hs.1 rfl rfl rfl (by decide) (Nat.le_of_ble_eq_true rfl) (sp_X3_number (q := q) (i := j) hs (by omega) (by omega)) rfl ?_
  refine q_lstore (pc := 21) (j := 7) [some (.ref r), some (.int (nI q)), some (.int (nI i)), some (.int (nI j)), some (.int 1), some (.long (S.2.2.1 (r + 3) (40 * q + i))), none, some (.long (S.2.2.1 (r + 3) (40 * q + j))), none, none, none] rfl (by decide) rfl ?_
  refine q_iload (pc := 23) (j := 4) rfl rfl ?_
  refine q_if_eq (pc := 25) 34 rfl (by decide) (fun h9 => absurd h9 (by decide : ¬ (1 : Int32) = 0)) (fun _ => ?_)
  refine q_iload (pc := 28) (j := 4) rfl rfl ?_
  refine q_iconst (pc := 30) 1 rfl (by decide) ?_
  refine q_icmp_ne (pc := 31) 86 rfl (by decide) (fun h9 => absurd h9 (by decide : ¬ ¬ (1 : Int32) = 1)) (fun _ => ?_)
  refine q_iload (pc := 34) (j := 4) rfl rfl ?_
  refine q_lload (pc := 36) (j := 5) rfl rfl ?_
  refine q_callS (pc := 38) (as := [.int 1, .long (S.2.2.1 (r + 3) (40 * q + i))]) (rest := []) (st2 := [.double (szF 1 (S.2.2.1 (r + 3) (40 * q + i)))]) rfl ce_X2_size ml_X3_56 st_X2_size rfl (by decide) (Nat.le_of_ble_eq_true rfl) (sp_X2_size1 hok.1) rfl ?_
  refine q_iload (pc := 41) (j := 4) rfl rfl ?_
  refine q_lload (pc := 43) (j := 7) rfl rfl ?_
  refine q_callS (pc := 45) (as := [.int 1, .long (S.2.2.1 (r + 3) (40 * q + j))]) (rest := [.double (szF 1 (S.2.2.1 (r + 3) (40 * q + i)))]) (st2 := [.double (szF 1 (S.2.2.1 (r + 3) (40 * q + j))), .double (szF 1 (S.2.2.1 (r + 3) (40 * q + i)))]) rfl ce_X2_size ml_X3_56 st_X2_size rfl (by decide) (Nat.le_of_ble_eq_true rfl) (sp_X2_size1 hok.2.1) rfl ?_
  refine q_callS (pc := 48) (as := [.double (szF 1 (S.2.2.1 (r + 3) (40 * q + i))), .double (szF 1 (S.2.2.1 (r + 3) (40 * q + j)))]) (rest := []) (st2 := [.double (rmF (szF 1 (S.2.2.1 (r + 3) (40 * q + i))) (szF 1 (S.2.2.1 (r + 3) (40 * q + j))))]) rfl ce_X2_remainder ml_X3_60 st_X2_remainder rfl (by decide) (Nat.le_of_ble_eq_true rfl) (sp_X2_remainder hok.2.2.1) rfl ?_
  refine q_dstore (pc := 51) (j := 9) [some (.ref r), some (.int (nI q)), some (.int (nI i)), some (.int (nI j)), some (.int 1), some (.long (S.2.2.1 (r + 3) (40 * q + i))), none, some (.long (S.2.2.1 (r + 3) (40 * q + j))), none, some (.double (rmF (szF 1 (S.2.2.1 (r + 3) (40 * q + i))) (szF 1 (S.2.2.1 (r + 3) (40 * q + j))))), none] rfl (by decide) rfl ?_
  refine q_aload_n (pc := 53) (j := 0) rfl rfl ?_
  refine q_iload_n (pc := 54) (j := 1) rfl rfl ?_
  refine q_iload_n (pc := 55) (j := 2) rfl rfl ?_
  refine q_iload (pc := 56) (j := 4) rfl rfl ?_
  refine q_iload (pc := 58) (j := 4) rfl rfl ?_
  refine q_dload (pc := 60) (j := 9) rfl rfl ?_
  refine q_callS (pc := 62) (as := [.int 1, .double (rmF (szF 1 (S.2.2.1 (r + 3) (40 * q + i))) (szF 1 (S.2.2.1 (r + 3) (40 * q + j))))]) (rest := [.int 1, .int (nI i), .int (nI q), .ref r]) (st2 := [.long (enF 1 (rmF (szF 1 (S.2.2.1 (r + 3) (40 * q + i))) (szF 1 (S.2.2.1 (r + 3) (40 * q + j))))), .int 1, .int (nI i), .int (nI q), .ref r]) rfl ce_X2_encode ml_X3_46 st_X2_encode rfl (by decide) (Nat.le_of_ble_eq_true rfl) (sp_X2_encode1 hok.2.2.2) rfl ?_
  refine q_lload (pc := 65) (j := 5) rfl rfl ?_
  refine q_lconst (pc := 67) 0 rfl (by decide) ?_
  refine q_lcmp (pc := 68) rfl ?_
  refine q_join 77 [some (.ref r), some (.int (nI q)), some (.int (nI i)), some (.int (nI j)), some (.int 1), some (.long (S.2.2.1 (r + 3) (40 * q + i))), none, some (.long (S.2.2.1 (r + 3) (40 * q + j))), none, some (.double (rmF (szF 1 (S.2.2.1 (r + 3) (40 * q + i))) (szF 1 (S.2.2.1 (r + 3) (40 * q + j))))), none] [.int (pB (decide ((S.2.2.1 (r + 3) (40 * q + i)) < 0))), .long (enF 1 (rmF (szF 1 (S.2.2.1 (r + 3) (40 * q + i))) (szF 1 (S.2.2.1 (r + 3) (40 * q + j))))), .int 1, .int (nI i), .int (nI q), .ref r] S ?_ (fun key69 => ?_)
  · refine q_callS (pc := 77) (as := [.int 1, .long (enF 1 (rmF (szF 1 (S.2.2.1 (r + 3) (40 * q + i))) (szF 1 (S.2.2.1 (r + 3) (40 * q + j))))), .int (pB (decide ((S.2.2.1 (r + 3) (40 * q + i)) < 0)))]) (rest := [.int (nI i), .int (nI q), .ref r]) (st2 := [.long (wsF 1 (enF 1 (rmF (szF 1 (S.2.2.1 (r + 3) (40 * q + i))) (szF 1 (S.2.2.1 (r + 3) (40 * q + j))))) (decide ((S.2.2.1 (r + 3) (40 * q + i)) < 0))), .int (nI i), .int (nI q), .ref r]) rfl ce_X2_withSign ml_X3_64 st_X2_withSign rfl (by decide) (Nat.le_of_ble_eq_true rfl) (sp_X2_withSign1) rfl ?_
    refine q_callV (pc := 80) (as := [.int (nI q), .int (nI i), .long (wsF 1 (enF 1 (rmF (szF 1 (S.2.2.1 (r + 3) (40 * q + i))) (szF 1 (S.2.2.1 (r + 3) (40 * q + j))))) (decide ((S.2.2.1 (r + 3) (40 * q + i)) < 0)))]) (rest := []) (b := r) (st2 := []) rfl ce_X3_change ml_X3_34 im_X3_change se_X3_change hs.1 rfl rfl rfl (by decide) (Nat.le_of_ble_eq_true rfl) (sp_X3_change (q := q) (i := i) hs (by omega) (by omega)) rfl ?_
    refine q_goto (pc := 83) 104 rfl (by decide) ?_
    exact q_vret (pc := 104) rfl rfl ⟨rfl, rfl⟩
  · refine q_if_ge (pc := 69) 76 rfl (by decide) (fun h69 => ?_) (fun h69 => ?_)
    · refine q_iconst (pc := 76) 0 rfl (by decide) ?_
      exact q_st (by rw [show decide ((S.2.2.1 (r + 3) (40 * q + i)) < 0) = false from decide_eq_false (fun q9 => absurd ((lg_cmp_ge _ _).mp h69) (Int64.not_le.mpr q9))]; rfl) key69
    · refine q_iconst (pc := 72) 1 rfl (by decide) ?_
      refine q_goto (pc := 73) 77 rfl (by decide) ?_
      exact q_st (by rw [show decide ((S.2.2.1 (r + 3) (40 * q + i)) < 0) = true from decide_eq_true (Int64.not_le.mp (fun q9 => h69 ((lg_cmp_ge _ _).mpr q9)))]; rfl) key69
set_option maxRecDepth 100000 in
theorem sp_X3_reduce2 {sh : List PSh} {S : PSt} {r q : Nat} (hs : isSs sh r) (hq : q < 4) {i j : Nat} (hi : i < 40) (hj : j < 40) (hso : S.1 (r + 1) q = 2) (h0 : ¬ (S.2.2.1 (r + 3) (40 * q + j)) = 0)  : pF mX3_reduce 6 [.ref r, .int (nI q), .int (nI i), .int (nI j)] sh S (pSJ S (r + 3) (40 * q + i) ((S.2.2.1 (r + 3) (40 * q + i)) - (S.2.2.1 (r + 3) (40 * q + i)) / (S.2.2.1 (r + 3) (40 * q + j)) * (S.2.2.1 (r + 3) (40 * q + j)))) (none) := by
  refine pF.of (pG.of [some (.ref r), some (.int (nI q)), some (.int (nI i)), some (.int (nI j)), none, none, none, none, none, none, none] (by decide) tk_X3_reduce (Nat.le_of_ble_eq_true rfl) rfl (fun X => ?_))
  refine q_aload_n (pc := 0) (j := 0) rfl rfl ?_
  refine q_iload_n (pc := 1) (j := 1) rfl rfl ?_
  refine q_callV (pc := 2) (as := [.int (nI q)]) (rest := []) (b := r) (st2 := [.int (S.1 (r + 1) q)]) rfl ce_X3_sort ml_X3_26 im_X3_sort se_X3_sort hs.1 rfl rfl rfl (by decide) (Nat.le_of_ble_eq_true rfl) (sp_X3_sort (q := q) hs (by omega)) rfl ?_
  refine q_st (st2 := [.int 2]) (by rw [(show (S.1 (r + 1) q) = 2 from hso)]) ?_
  refine q_istore (pc := 5) (j := 4) [some (.ref r), some (.int (nI q)), some (.int (nI i)), some (.int (nI j)), some (.int 2), none, none, none, none, none, none] rfl (by decide) rfl ?_
  refine q_aload_n (pc := 7) (j := 0) rfl rfl ?_
  refine q_iload_n (pc := 8) (j := 1) rfl rfl ?_
  refine q_iload_n (pc := 9) (j := 2) rfl rfl ?_
  refine q_callV (pc := 10) (as := [.int (nI q), .int (nI i)]) (rest := []) (b := r) (st2 := [.long (S.2.2.1 (r + 3) (40 * q + i))]) rfl ce_X3_number ml_X3_52 im_X3_number se_X3_number hs.1 rfl rfl rfl (by decide) (Nat.le_of_ble_eq_true rfl) (sp_X3_number (q := q) (i := i) hs (by omega) (by omega)) rfl ?_
  refine q_lstore (pc := 13) (j := 5) [some (.ref r), some (.int (nI q)), some (.int (nI i)), some (.int (nI j)), some (.int 2), some (.long (S.2.2.1 (r + 3) (40 * q + i))), none, none, none, none, none] rfl (by decide) rfl ?_
  refine q_aload_n (pc := 15) (j := 0) rfl rfl ?_
  refine q_iload_n (pc := 16) (j := 1) rfl rfl ?_
  refine q_iload_n (pc := 17) (j := 3) rfl rfl ?_
  refine q_callV (pc := 18) (as := [.int (nI q), .int (nI j)]) (rest := []) (b := r) (st2 := [.long (S.2.2.1 (r + 3) (40 * q + j))]) rfl ce_X3_number ml_X3_52 im_X3_number se_X3_number hs.1 rfl rfl rfl (by decide) (Nat.le_of_ble_eq_true rfl) (sp_X3_number (q := q) (i := j) hs (by omega) (by omega)) rfl ?_
  refine q_lstore (pc := 21) (j := 7) [some (.ref r), some (.int (nI q)), some (.int (nI i)), some (.int (nI j)), some (.int 2), some (.long (S.2.2.1 (r + 3) (40 * q + i))), none, some (.long (S.2.2.1 (r + 3) (40 * q + j))), none, none, none] rfl (by decide) rfl ?_
  refine q_iload (pc := 23) (j := 4) rfl rfl ?_
  refine q_if_eq (pc := 25) 34 rfl (by decide) (fun h9 => absurd h9 (by decide : ¬ (2 : Int32) = 0)) (fun _ => ?_)
  refine q_iload (pc := 28) (j := 4) rfl rfl ?_
  refine q_iconst (pc := 30) 1 rfl (by decide) ?_
  refine q_icmp_ne (pc := 31) 86 rfl (by decide) (fun _ => ?_) (fun h9 => absurd h9 (by decide : (2 : Int32) = 1 → False))
  refine q_lload (pc := 86) (j := 7) rfl rfl ?_
  refine q_lconst (pc := 88) 0 rfl (by decide) ?_
  refine q_lcmp (pc := 89) rfl ?_
  refine q_if_eq (pc := 90) 104 rfl (by decide) (fun h9 => absurd h9 (fun q9 => h0 ((lg_cmp_eq _ _).mp q9))) (fun _ => ?_)
  refine q_aload_n (pc := 93) (j := 0) rfl rfl ?_
  refine q_iload_n (pc := 94) (j := 1) rfl rfl ?_
  refine q_iload_n (pc := 95) (j := 2) rfl rfl ?_
  refine q_lload (pc := 96) (j := 5) rfl rfl ?_
  refine q_lload (pc := 98) (j := 7) rfl rfl ?_
  refine q_lrem (pc := 100) rfl h0 ?_
  refine q_callV (pc := 101) (as := [.int (nI q), .int (nI i), .long ((S.2.2.1 (r + 3) (40 * q + i)) - (S.2.2.1 (r + 3) (40 * q + i)) / (S.2.2.1 (r + 3) (40 * q + j)) * (S.2.2.1 (r + 3) (40 * q + j)))]) (rest := []) (b := r) (st2 := []) rfl ce_X3_change ml_X3_34 im_X3_change se_X3_change hs.1 rfl rfl rfl (by decide) (Nat.le_of_ble_eq_true rfl) (sp_X3_change (q := q) (i := i) hs (by omega) (by omega)) rfl ?_
  exact q_vret (pc := 104) rfl rfl ⟨rfl, rfl⟩
set_option maxRecDepth 100000 in
theorem sp_X3_reduce3 {sh : List PSh} {S : PSt} {r q : Nat} (hs : isSs sh r) (hq : q < 4) {i j : Nat} (hi : i < 40) (hj : j < 40) (hso : S.1 (r + 1) q = 3) (h0 : ¬ (S.2.2.1 (r + 3) (40 * q + j)) = 0)  : pF mX3_reduce 6 [.ref r, .int (nI q), .int (nI i), .int (nI j)] sh S (pSJ S (r + 3) (40 * q + i) ((S.2.2.1 (r + 3) (40 * q + i)) - (S.2.2.1 (r + 3) (40 * q + i)) / (S.2.2.1 (r + 3) (40 * q + j)) * (S.2.2.1 (r + 3) (40 * q + j)))) (none) := by
  refine pF.of (pG.of [some (.ref r), some (.int (nI q)), some (.int (nI i)), some (.int (nI j)), none, none, none, none, none, none, none] (by decide) tk_X3_reduce (Nat.le_of_ble_eq_true rfl) rfl (fun X => ?_))
  refine q_aload_n (pc := 0) (j := 0) rfl rfl ?_
  refine q_iload_n (pc := 1) (j := 1) rfl rfl ?_
  refine q_callV (pc := 2) (as := [.int (nI q)]) (rest := []) (b := r) (st2 := [.int (S.1 (r + 1) q)]) rfl ce_X3_sort ml_X3_26 im_X3_sort se_X3_sort hs.1 rfl rfl rfl (by decide) (Nat.le_of_ble_eq_true rfl) (sp_X3_sort (q := q) hs (by omega)) rfl ?_
  refine q_st (st2 := [.int 3]) (by rw [(show (S.1 (r + 1) q) = 3 from hso)]) ?_
  refine q_istore (pc := 5) (j := 4) [some (.ref r), some (.int (nI q)), some (.int (nI i)), some (.int (nI j)), some (.int 3), none, none, none, none, none, none] rfl (by decide) rfl ?_
  refine q_aload_n (pc := 7) (j := 0) rfl rfl ?_
  refine q_iload_n (pc := 8) (j := 1) rfl rfl ?_
  refine q_iload_n (pc := 9) (j := 2) rfl rfl ?_
  refine q_callV (pc := 10) (as := [.int (nI q), .int (nI i)]) (rest := []) (b := r) (st2 := [.long (S.2.2.1 (r + 3) (40 * q + i))]) rfl ce_X3_number ml_X3_52 im_X3_number se_X3_number hs.1 rfl rfl rfl (by decide) (Nat.le_of_ble_eq_true rfl) (sp_X3_number (q := q) (i := i) hs (by omega) (by omega)) rfl ?_
  refine q_lstore (pc := 13) (j := 5) [some (.ref r), some (.int (nI q)), some (.int (nI i)), some (.int (nI j)), some (.int 3), some (.long (S.2.2.1 (r + 3) (40 * q + i))), none, none, none, none, none] rfl (by decide) rfl ?_
  refine q_aload_n (pc := 15) (j := 0) rfl rfl ?_
  refine q_iload_n (pc := 16) (j := 1) rfl rfl ?_
  refine q_iload_n (pc := 17) (j := 3) rfl rfl ?_
  refine q_callV (pc := 18) (as := [.int (nI q), .int (nI j)]) (rest := []) (b := r) (st2 := [.long (S.2.2.1 (r + 3) (40 * q + j))]) rfl ce_X3_number ml_X3_52 im_X3_number se_X3_number hs.1 rfl rfl rfl (by decide) (Nat.le_of_ble_eq_true rfl) (sp_X3_number (q := q) (i := j) hs (by omega) (by omega)) rfl ?_
  refine q_lstore (pc := 21) (j := 7) [some (.ref r), some (.int (nI q)), some (.int (nI i)), some (.int (nI j)), some (.int 3), some (.long (S.2.2.1 (r + 3) (40 * q + i))), none, some (.long (S.2.2.1 (r + 3) (40 * q + j))), none, none, none] rfl (by decide) rfl ?_
  refine q_iload (pc := 23) (j := 4) rfl rfl ?_
  refine q_if_eq (pc := 25) 34 rfl (by decide) (fun h9 => absurd h9 (by decide : ¬ (3 : Int32) = 0)) (fun _ => ?_)
  refine q_iload (pc := 28) (j := 4) rfl rfl ?_
  refine q_iconst (pc := 30) 1 rfl (by decide) ?_
  refine q_icmp_ne (pc := 31) 86 rfl (by decide) (fun _ => ?_) (fun h9 => absurd h9 (by decide : (3 : Int32) = 1 → False))
  refine q_lload (pc := 86) (j := 7) rfl rfl ?_
  refine q_lconst (pc := 88) 0 rfl (by decide) ?_
  refine q_lcmp (pc := 89) rfl ?_
  refine q_if_eq (pc := 90) 104 rfl (by decide) (fun h9 => absurd h9 (fun q9 => h0 ((lg_cmp_eq _ _).mp q9))) (fun _ => ?_)
  refine q_aload_n (pc := 93) (j := 0) rfl rfl ?_
  refine q_iload_n (pc := 94) (j := 1) rfl rfl ?_
  refine q_iload_n (pc := 95) (j := 2) rfl rfl ?_
  refine q_lload (pc := 96) (j := 5) rfl rfl ?_
  refine q_lload (pc := 98) (j := 7) rfl rfl ?_
  refine q_lrem (pc := 100) rfl h0 ?_
  refine q_callV (pc := 101) (as := [.int (nI q), .int (nI i), .long ((S.2.2.1 (r + 3) (40 * q + i)) - (S.2.2.1 (r + 3) (40 * q + i)) / (S.2.2.1 (r + 3) (40 * q + j)) * (S.2.2.1 (r + 3) (40 * q + j)))]) (rest := []) (b := r) (st2 := []) rfl ce_X3_change ml_X3_34 im_X3_change se_X3_change hs.1 rfl rfl rfl (by decide) (Nat.le_of_ble_eq_true rfl) (sp_X3_change (q := q) (i := i) hs (by omega) (by omega)) rfl ?_
  exact q_vret (pc := 104) rfl rfl ⟨rfl, rfl⟩
/-- the places of a shelf, the first k, that hold a sign -/
def cnS (S : PSt) (r s : Nat) : Nat → Nat
  | 0 => 0
  | k + 1 => cnS S r s k + (if hasPl S r s (nI k) = true ∧ ¬ S.1 (r + 3 + 1) (5 * (12 * s + k)) = -1 then 1 else 0)
def cnT (S : PSt) (r : Nat) : Nat → Nat
  | 0 => 0
  | s + 1 => cnT S r s + cnS S r s 12
theorem cnS_le {S : PSt} {r s : Nat} : ∀ k, cnS S r s k ≤ k := by
  intro k
  induction k with
  | zero => exact Nat.le_refl _
  | succ k ih => unfold cnS; split <;> omega
theorem cnT_le {S : PSt} {r : Nat} : ∀ s, cnT S r s ≤ 12 * s := by
  intro s
  induction s with
  | zero => exact Nat.le_refl _
  | succ s ih => unfold cnT; have := cnS_le (S := S) (r := r) (s := s) 12; omega
theorem hasPl_mono {S : PSt} {r s k j : Nat} (hk : k ≤ j) (hj : j < 2 ^ 31) (h : hasPl S r s (nI k) = false) : hasPl S r s (nI j) = false := by
  unfold hasPl at *
  rw [decide_eq_false_iff_not] at *
  rw [nI_toInt (by omega)] at *
  intro q
  exact h ⟨q.1, by omega, by omega⟩
theorem cnS_stop {S : PSt} {r s k : Nat} (h : hasPl S r s (nI k) = false) (hk : k ≤ 12) : ∀ m, k + m = 12 → cnS S r s 12 = cnS S r s k := by
  have key : ∀ m, k + m ≤ 12 → cnS S r s (k + m) = cnS S r s k := by
    intro m
    induction m with
    | zero => intro _; rfl
    | succ m ih =>
      intro hm
      show cnS S r s (k + m) + _ = _
      rw [if_neg (fun q => absurd ((show hasPl S r s (nI (k + m)) = true from q.1).symm.trans (hasPl_mono (j := k + m) (by omega) (by omega) h)) (by decide))]
      exact ih (by omega)
  intro m hm
  rw [← hm]
  exact key m (by omega)
set_option maxRecDepth 100000 in
theorem lp_X1_countI {n0 : Nat} {X : Nat × (Nat → Int32)} {P : Option Value → PSt → Prop} {d : Nat} (hd9 : 3 ≤ d) {sh : List PSh} {S : PSt} {r : Nat} (hs : isPg sh r) {s : Nat} (hq : s < 3) (hex : ∀ i : Int32, pV mX1_countOnShelves d n0 X sh P 50 [some (.ref r), some (.int (nI (cnT S r s + cnS S r s 12))), some (.int (nI s)), some (.int i)] [] S)  : ∀ (m k : Nat), k + m = 12 → pV mX1_countOnShelves d n0 X sh P 11 [some (.ref r), some (.int (nI (cnT S r s + cnS S r s k))), some (.int (nI s)), some (.int (nI k))] [] S := by
  intro m
  induction m with
  | zero =>
    intro k hk
    have hk : k = 12 := by omega
    subst hk
    refine q_aload_n (pc := 11) (j := 0) rfl rfl ?_
    refine q_iload_n (pc := 12) (j := 2) rfl rfl ?_
    refine q_iload_n (pc := 13) (j := 3) rfl rfl ?_
    refine q_callV (pc := 14) (as := [.int (nI s), .int (nI 12)]) (rest := []) (b := r) (st2 := [.int (pB (hasPl S r s (nI 12)))]) rfl ce_X1_hasPlace ml_X1_55 im_X1_hasPlace se_X1_hasPlace hs.1 rfl rfl rfl (by omega) (Nat.le_of_ble_eq_true rfl) (sp_X1_hasPlace (s := s) hs (by omega)) rfl ?_
    cases hb17 : (hasPl S r s (nI 12)) with
    | false =>
      refine q_if_eq (pc := 17) 50 rfl (by decide) (fun _ => ?_) (fun h9 => absurd (by decide : pB false = 0) h9)
      exact hex _
    | true =>
      refine q_if_eq (pc := 17) 50 rfl (by decide) (fun h9 => absurd h9 (by decide : ¬ pB true = 0)) (fun _ => ?_)
      refine q_iload_n (pc := 20) (j := 3) rfl rfl ?_
      refine q_bipush (pc := 21) 12 rfl (by decide) ?_
      refine q_icmp_ge (pc := 23) 50 rfl (by decide) (fun _ => ?_) (fun h9 => absurd (by decide : (12 : Int32) ≤ nI 12) h9)
      exact hex _
  | succ m ih =>
    intro k hk
    have hk1 : k < 12 := by omega
    refine q_aload_n (pc := 11) (j := 0) rfl rfl ?_
    refine q_iload_n (pc := 12) (j := 2) rfl rfl ?_
    refine q_iload_n (pc := 13) (j := 3) rfl rfl ?_
    refine q_callV (pc := 14) (as := [.int (nI s), .int (nI k)]) (rest := []) (b := r) (st2 := [.int (pB (hasPl S r s (nI k)))]) rfl ce_X1_hasPlace ml_X1_55 im_X1_hasPlace se_X1_hasPlace hs.1 rfl rfl rfl (by omega) (Nat.le_of_ble_eq_true rfl) (sp_X1_hasPlace (s := s) hs (by omega)) rfl ?_
    cases hb17 : (hasPl S r s (nI k)) with
    | false =>
      refine q_if_eq (pc := 17) 50 rfl (by decide) (fun _ => ?_) (fun h9 => absurd (by decide : pB false = 0) h9)
      exact q_L (by rw [cnS_stop hb17 (by omega) (m + 1) (by omega)]) (hex _)
    | true =>
      refine q_if_eq (pc := 17) 50 rfl (by decide) (fun h9 => absurd h9 (by decide : ¬ pB true = 0)) (fun _ => ?_)
      refine q_iload_n (pc := 20) (j := 3) rfl rfl ?_
      refine q_bipush (pc := 21) 12 rfl (by decide) ?_
      refine q_icmp_ge (pc := 23) 50 rfl (by decide) (fun h9 => absurd h9 (nI_ge (b := 12) hk1 (by decide))) (fun _ => ?_)
      refine q_aload_n (pc := 26) (j := 0) rfl rfl ?_
      refine q_get (pc := 27) (a := r) (v := .ref (r + 3)) rfl fl_X1_25 hs.1 rfl rfl ?_
      refine q_iload_n (pc := 30) (j := 2) rfl rfl ?_
      refine q_iload_n (pc := 31) (j := 3) rfl rfl ?_
      refine q_callS (pc := 32) (as := [.int (nI s), .int (nI k)]) (rest := [.ref (r + 3)]) (st2 := [.int (nI (12 * s + k)), .ref (r + 3)]) rfl ce_X1_place ml_X1_47 st_X1_place rfl (by omega) (Nat.le_of_ble_eq_true rfl) (sp_X1_place (s := s) (i := k)) rfl ?_
      refine q_callV (pc := 35) (as := [.int (nI (12 * s + k))]) (rest := []) (b := (r + 3)) (st2 := [.int (pB (decide (S.1 ((r + 3) + 1) (5 * (12 * s + k)) = -1)))]) rfl ce_X4_isMissing ml_X1_59 im_X4_isMissing se_X4_isMissing hs.2.2.1.1 rfl rfl rfl (by omega) (Nat.le_of_ble_eq_true rfl) (sp_X4_isMissing (c := (12 * s + k)) hs.2.2.1 (by omega)) rfl ?_
      cases hb38 : (decide (S.1 ((r + 3) + 1) (5 * (12 * s + k)) = -1)) with
      | false =>
        refine q_if_ne (pc := 38) 44 rfl (by decide) (fun h9 => absurd (by decide : pB false = 0) h9) (fun _ => ?_)
        refine q_iinc (pc := 41) (j := 1) (n := 1) (nI (cnT S r s + cnS S r s k + 1)) [some (.ref r), some (.int (nI (cnT S r s + cnS S r s k + 1))), some (.int (nI s)), some (.int (nI k))] rfl (by decide) rfl (nI_1 _) rfl ?_
        refine q_iinc (pc := 44) (j := 3) (n := 1) (nI (k + 1)) [some (.ref r), some (.int (nI (cnT S r s + cnS S r s k + 1))), some (.int (nI s)), some (.int (nI (k + 1)))] rfl (by decide) rfl (nI_1 k) rfl ?_
        refine q_goto (pc := 47) 11 rfl (by decide) ?_
        exact q_L (by rw [show cnS S r s (k + 1) = cnS S r s k + 1 from (by rw [cnS, if_pos ⟨hb17, of_decide_eq_false hb38⟩])]; rfl) (ih (k + 1) (by omega))
      | true =>
        refine q_if_ne (pc := 38) 44 rfl (by decide) (fun _ => ?_) (fun h9 => absurd h9 (by decide : ¬ pB true = 0))
        refine q_iinc (pc := 44) (j := 3) (n := 1) (nI (k + 1)) [some (.ref r), some (.int (nI (cnT S r s + cnS S r s k))), some (.int (nI s)), some (.int (nI (k + 1)))] rfl (by decide) rfl (nI_1 k) rfl ?_
        refine q_goto (pc := 47) 11 rfl (by decide) ?_
        exact q_L (by rw [show cnS S r s (k + 1) = cnS S r s k from (by rw [cnS, if_neg (fun q9 => q9.2 (of_decide_eq_true hb38))]; rfl)]) (ih (k + 1) (by omega))
set_option maxRecDepth 100000 in
theorem lp_X1_countO {n0 : Nat} {X : Nat × (Nat → Int32)} {P : Option Value → PSt → Prop} {d : Nat} (hd9 : 3 ≤ d) {sh : List PSh} {S : PSt} {r : Nat} (hs : isPg sh r) (hex : ∀ i : Option Value, pV mX1_countOnShelves d n0 X sh P 56 [some (.ref r), some (.int (nI (cnT S r 3))), some (.int (nI 3)), i] [] S)  : ∀ (m s : Nat) (i : Option Value), s + m = 3 → pV mX1_countOnShelves d n0 X sh P 4 [some (.ref r), some (.int (nI (cnT S r s))), some (.int (nI s)), i] [] S := by
  intro m
  induction m with
  | zero =>
    intro s i hk
    have hk : s = 3 := by omega
    subst hk
    refine q_iload_n (pc := 4) (j := 2) rfl rfl ?_
    refine q_iconst (pc := 5) 3 rfl (by decide) ?_
    exact q_icmp_ge (pc := 6) 56 rfl (by decide) (fun _ => hex _) (fun h9 => absurd (Int32.le_refl _) h9)
  | succ m ih =>
    intro s i hk
    have hk1 : s < 3 := by omega
    refine q_iload_n (pc := 4) (j := 2) rfl rfl ?_
    refine q_iconst (pc := 5) 3 rfl (by decide) ?_
    refine q_icmp_ge (pc := 6) 56 rfl (by decide) (fun h9 => absurd h9 (nI_ge (b := 3) hk1 (by decide))) (fun _ => ?_)
    refine q_iconst (pc := 9) 0 rfl (by decide) ?_
    refine q_istore_n (pc := 10) (j := 3) [some (.ref r), some (.int (nI (cnT S r s))), some (.int (nI s)), some (.int 0)] rfl (by decide) rfl ?_
    refine lp_X1_countI (s := s) (Nat.le_trans (by decide : 3 ≤ 3) hd9) hs (by omega) (fun i => ?_) 12 0 rfl
    refine q_iinc (pc := 50) (j := 2) (n := 1) (nI (s + 1)) [some (.ref r), some (.int (nI (cnT S r s + cnS S r s 12))), some (.int (nI (s + 1))), some (.int i)] rfl (by decide) rfl (nI_1 s) rfl ?_
    refine q_goto (pc := 53) 4 rfl (by decide) ?_
    exact ih (s + 1) _ (by omega)
set_option maxRecDepth 100000 in
theorem sp_X1_countOnShelves {sh : List PSh} {S : PSt} {r : Nat} (hs : isPg sh r)  : pF mX1_countOnShelves 3 [.ref r] sh S S (some (.int (nI (cnT S r 3)))) := by
  refine pF.of (pG.of [some (.ref r), none, none, none] (by decide) tk_X1_countOnShelves (Nat.le_of_ble_eq_true rfl) rfl (fun X => ?_))
  refine q_iconst (pc := 0) 0 rfl (by decide) ?_
  refine q_istore_n (pc := 1) (j := 1) [some (.ref r), some (.int 0), none, none] rfl (by decide) rfl ?_
  refine q_iconst (pc := 2) 0 rfl (by decide) ?_
  refine q_istore_n (pc := 3) (j := 2) [some (.ref r), some (.int 0), some (.int 0), none] rfl (by decide) rfl ?_
  refine lp_X1_countO (by decide) hs (fun i => ?_) 3 0 _ rfl
  refine q_iload_n (pc := 56) (j := 1) rfl rfl ?_
  exact q_iret (pc := 57) rfl rfl ⟨rfl, rfl⟩
