/-! the model: sheets: written by wip/whole/gen/c53.py -/
/-- a number of the model's sheets, encoded -/
def mN (q : Int32) (S : PSt) (n : Nat) : Int64 := if q = 0 then (S.2.1 91 n).toInt32.toInt64 else if q = 1 then (S.2.2.2 92 n).toInt64 else (S.1 93 n).toInt64
def mM (S : PSt) (n : Nat) : Int64 := mN (S.1 89 (n / 40)) S n
theorem mM_at {S : PSt} {u y : Nat} (hy : y < 40) : mM S (40 * u + y) = mN (S.1 89 u) S (40 * u + y) := by
  unfold mM
  rw [show (40 * u + y) / 40 = u by omega]
def okSo (q : Int32) : Prop := q = -1 ∨ q = 0 ∨ q = 1 ∨ q = 2 ∨ q = 3
/-- the sheets, as they may be -/
def mSs (S : PSt) : Prop := ∀ s, s < 4 → (0 ≤ (S.1 90 s).toInt ∧ (S.1 90 s).toInt ≤ 40) ∧ okSo (S.1 89 s) ∧ ∀ i, i < 40 → sF (S.2.1 91 (40 * s + i)) ∧ sD (S.2.2.2 92 (40 * s + i))
theorem okSo_n {q : Int32} (h : okSo q) (h2 : q < 0) : q = -1 := by
  rcases h with h | h | h | h | h
  · exact h
  all_goals (subst h; exact absurd h2 (by decide))
theorem okSo_p {q : Int32} (h2 : ¬ q < 0) : ¬ q = -1 := fun e => h2 (by rw [e]; decide)
theorem hn_w4 {k z i : Int32} (hz : 0 ≤ z.toInt ∧ z.toInt ≤ 40) (hk : ¬ k = -1) : hnB k z i = pWi i 0 (z - 1) := by
  unfold hnB pWi
  have e : (z - 1).toInt = z.toInt - 1 := by
    rw [Int32.toInt_sub, show (1 : Int32).toInt = 1 from rfl, Int.bmod_eq_of_le (by omega) (by omega)]
  rw [e]
  exact decide_eq_decide.mpr ⟨fun h => ⟨h.2.1, by have := h.2.2; omega⟩, fun h => ⟨hk, h.1, by have := h.2; omega⟩⟩
theorem hn_of4 {k z i : Int32} (hz : 0 ≤ z.toInt ∧ z.toInt ≤ 40) (h : hnB k z i = true) : ∃ y, i = nI y ∧ y < 40 ∧ ¬ k = -1 := by
  have h := of_decide_eq_true h
  exact ⟨i.toInt.toNat, nI_of0 h.2.1, by omega, h.1⟩
theorem ix40 {u y : Nat} : (40 : Int32) * nI u + nI y = nI (40 * u + y) := by rw [show (40 : Int32) = nI 40 from rfl, pk_mul, nI_add]
theorem ix40_0 {u : Nat} : (40 : Int32) * nI u = nI (40 * u) := by rw [show (40 : Int32) = nI 40 from rfl, pk_mul]
theorem ix40_1 {u : Nat} : (40 : Int32) * nI u + 40 = nI (40 * u + 40) := by rw [ix40_0]; exact nI_add (40 * u) 40
def mAL (e : Nat × Int64) (S U : PSt) : Option Value → PSt → Prop := fun r T => r = some (.long (ansL e.1 e.2)) ∧ frM (if e.1 = 0 then U else rfM S e.1) T
theorem mAL_ok {e : Nat × Int64} {S U T : PSt} {v : Int64} (h : e = (0, v)) (hf : frM U T) : mAL e S U (some (.long v)) T := by
  rw [h]
  exact ⟨rfl, hf⟩
theorem mAL_no {e : Nat × Int64} {S U T : PSt} {k : Nat} (h : e = (k + 1, 0)) (hf : frM (rfM S (k + 1)) T) : mAL e S U (some (.long (-9000000000000000000 - (nI (k + 1)).toInt64))) T := by
  rw [h]
  exact ⟨rfl, hf⟩
theorem feq_iff {x : UInt32} (hx : fF x) : Op.cmpValue (FP.fcmp x FP.fconst0) .l = 0 ↔ (fz x).natAbs = 0 := by
  rw [cmp_some hx fF_0, fz_0]
  rcases Int.lt_trichotomy (fz x) 0 with h | h | h
  · rw [FP.Core.compare_lt_iff _ _ |>.mpr h]; exact ⟨fun q => absurd q (by decide), fun q => by omega⟩
  · rw [FP.Core.compare_eq_iff _ _ |>.mpr h]; exact ⟨fun _ => by omega, fun _ => by decide⟩
  · rw [FP.Core.compare_gt_iff _ _ |>.mpr h]; exact ⟨fun q => absurd q (by decide), fun q => by omega⟩
theorem deq_iff0 {x : UInt64} (hx : dF x) : Op.cmpValue (FP.dcmp x FP.dconst0) .l = 0 ↔ (dz x).natAbs = 0 := by
  rw [deq_iff hx dF_0, dz_0]
  exact ⟨fun h => by omega, fun h => by omega⟩
theorem sF_F {x : UInt32} (h : sF x) : fF x := h.1
theorem sD_F {x : UInt64} (h : sD x) : dF x := h.1
theorem i64_0 {x : Int32} : x.toInt64 = 0 ↔ x = 0 := by
  constructor
  · intro h
    have h2 := congrArg Int64.toInt h
    rw [Int32.toInt_toInt64] at h2
    exact Int32.toInt_inj.mp h2
  · intro h; rw [h]; rfl
theorem nou_m {S : PSt} {q : Int32} {n : Nat} (h1 : sF (S.2.1 91 n)) (h2 : sD (S.2.2.2 92 n)) : nouV q (mN q S n) = if q = 0 then decide ((fz (S.2.1 91 n)).natAbs = 0) else if q = 1 then decide ((dz (S.2.2.2 92 n)).natAbs = 0) else decide (S.1 93 n = 0) := by
  unfold nouV mN
  by_cases e0 : q = 0
  · rw [if_pos e0, if_pos e0, if_pos e0]; exact no32 h1
  · rw [if_neg e0, if_neg e0, if_neg e0]
    by_cases e1 : q = 1
    · rw [if_pos e1, if_pos e1, if_pos e1]; exact no64 h2
    · rw [if_neg e1, if_neg e1, if_neg e1]
      exact decide_eq_decide.mpr i64_0
theorem rem64 {x y : Int32} (hy : y ≠ 0) : (x - x / y * y).toInt64 = x.toInt64 - x.toInt64 / y.toInt64 * y.toInt64 := by
  have b1 := Int32.toInt_lt x
  have b2 := Int32.le_toInt x
  have b3 := Int32.toInt_lt y
  have b4 := Int32.le_toInt y
  have hy0 : y.toInt ≠ 0 := fun q => hy (Int32.toInt_inj.mp q)
  have ht : x.toInt - x.toInt.tdiv y.toInt * y.toInt = x.toInt.tmod y.toInt := by
    have := Int.tmod_add_mul_tdiv x.toInt y.toInt
    rw [Int.mul_comm y.toInt] at this
    omega
  have hr : (x.toInt.tmod y.toInt).natAbs < y.toInt.natAbs := by
    rw [Int.natAbs_tmod]
    exact Nat.mod_lt _ (by omega)
  apply Int64.toInt_inj.mp
  rw [Int32.toInt_toInt64, Int32.toInt_sub, Int32.toInt_mul, Int32.toInt_div, Int64.toInt_sub, Int64.toInt_mul, Int64.toInt_div, Int32.toInt_toInt64, Int32.toInt_toInt64]
  rw [Int.bmod_mul_bmod, Int.bmod_mul_bmod, Int.sub_bmod_bmod, Int.sub_bmod_bmod, ht, Int.bmod_eq_of_le (by omega) (by omega), Int.bmod_eq_of_le (by omega) (by omega)]
set_option maxRecDepth 100000 in
theorem sp_X9_isSheet {sh : List PSh} {S : PSt} {s : Int32} : pF mX9_isSheet 1 [.int s] sh S S (some (.int (pB (pWi s 0 3)))) := by
  refine pF.of (pG.of [some (.int s)] (by decide) tk_X9_isSheet (Nat.le_of_ble_eq_true rfl) rfl (fun X => ?_))
  refine q_iload_n (pc := 0) (j := 0) rfl rfl ?_
  refine q_i2l (pc := 1) rfl ?_
  refine q_lconst (pc := 2) 0 rfl (by decide) ?_
  refine q_ldc2 (pc := 3) (v := 3) rfl kc_X9_212 ?_
  refine q_callS (pc := 6) (as := [.long (s.toInt64), .long 0, .long 3]) (rest := []) (st2 := [.int (pB (pWi s 0 3))]) rfl ce_X9_in ml_X9_85 st_X9_in rfl (by decide) (Nat.le_of_ble_eq_true rfl) (sp_X9_inW (v := s) (l := 0) (m := 3) (Int32.toInt_toInt64 _) (by decide) (by decide)) rfl ?_
  exact q_zret (pc := 9) rfl rfl (pB_nar _) ⟨rfl, rfl⟩
set_option maxRecDepth 100000 in
theorem sp_X9_isItem {sh : List PSh} {S : PSt} (hm : isMo sh) {u : Nat} (hu : u < 4) {i : Int32} (hss : mSs S) : pF mX9_isItem 1 [.ref 70, .int (nI u), .int i] sh S S (some (.int (pB (hnB (S.1 89 u) (S.1 90 u) i)))) := by
  refine pF.of (pG.of [some (.ref 70), some (.int (nI u)), some (.int i)] (by decide) tk_X9_isItem (Nat.le_of_ble_eq_true rfl) rfl (fun X => ?_))
  refine q_aload_n (pc := 0) (j := 0) rfl rfl ?_
  refine q_get (pc := 1) (a := 70) (v := .ref 89) rfl fl_X9_66 hm.1 rfl rfl ?_
  refine q_iload_n (pc := 4) (j := 1) rfl rfl ?_
  refine q_iald (pc := 5) (a := 89) u rfl hm.2.2.2.2.2.2.2.2.2.2.2.2.2.2.2.2.2.2.2.1 (vp_in_nI (by omega) (by decide)) (nI_clamp (by omega)) ?_
  refine q_if_lt (pc := 6) 31 rfl (by decide) (fun h6 => ?_) (fun h6 => ?_)
  · refine q_iconst (pc := 31) 0 rfl (by decide) ?_
    exact q_zret (pc := 32) rfl rfl rfl ⟨congrArg (fun v => some (Value.int v)) (hn_a (okSo_n (hss u hu).2.1 h6)), rfl⟩
  · refine q_iload_n (pc := 9) (j := 2) rfl rfl ?_
    refine q_i2l (pc := 10) rfl ?_
    refine q_lconst (pc := 11) 0 rfl (by decide) ?_
    refine q_aload_n (pc := 12) (j := 0) rfl rfl ?_
    refine q_get (pc := 13) (a := 70) (v := .ref 90) rfl fl_X9_69 hm.1 rfl rfl ?_
    refine q_iload_n (pc := 16) (j := 1) rfl rfl ?_
    refine q_iald (pc := 17) (a := 90) u rfl hm.2.2.2.2.2.2.2.2.2.2.2.2.2.2.2.2.2.2.2.2.1 (vp_in_nI (by omega) (by decide)) (nI_clamp (by omega)) ?_
    refine q_iconst (pc := 18) 1 rfl (by decide) ?_
    refine q_isub (pc := 19) rfl ?_
    refine q_i2l (pc := 20) rfl ?_
    refine q_callS (pc := 21) (as := [.long (i.toInt64), .long 0, .long (((S.1 90 u) - 1).toInt64)]) (rest := []) (st2 := [.int (pB (pWi i 0 ((S.1 90 u) - 1)))]) rfl ce_X9_in ml_X9_85 st_X9_in rfl (by decide) (Nat.le_of_ble_eq_true rfl) (sp_X9_inW (v := i) (l := 0) (m := ((S.1 90 u) - 1)) (Int32.toInt_toInt64 _) (by decide) (Int32.toInt_toInt64 _)) rfl ?_
    refine q_if_eq (pc := 24) 31 rfl (by decide) (fun h24 => ?_) (fun h24 => ?_)
    · refine q_iconst (pc := 31) 0 rfl (by decide) ?_
      exact q_zret (pc := 32) rfl rfl rfl ⟨congrArg (fun v => some (Value.int v)) (by rw [hn_w4 (hss u hu).1 (okSo_p h6), pB_f h24]; rfl), rfl⟩
    · refine q_iconst (pc := 27) 1 rfl (by decide) ?_
      refine q_goto (pc := 28) 32 rfl (by decide) ?_
      exact q_zret (pc := 32) rfl rfl rfl ⟨congrArg (fun v => some (Value.int v)) (by rw [hn_w4 (hss u hu).1 (okSo_p h6), pB_t h24]; rfl), rfl⟩
set_option maxRecDepth 100000 in
theorem sp_X9_narrow {sh : List PSh} {S : PSt} {q v : Int32} : pF mX9_narrow 0 [.int q, .int v] sh S S (some (.int (if q = 2 then v.toInt16.toInt32 else v))) := by
  refine pF.of (pG.of [some (.int q), some (.int v)] (by decide) tk_X9_narrow (Nat.le_of_ble_eq_true rfl) rfl (fun X => ?_))
  refine q_iload_n (pc := 0) (j := 0) rfl rfl ?_
  refine q_iconst (pc := 1) 2 rfl (by decide) ?_
  refine q_icmp_ne (pc := 2) 10 rfl (by decide) (fun h2 => ?_) (fun h2 => ?_)
  · refine q_iload_n (pc := 10) (j := 1) rfl rfl ?_
    exact q_iret (pc := 11) rfl rfl ⟨congrArg (fun v => some (Value.int v)) (by first | rw [if_pos (show q = 2 from h2)] | rw [if_neg h2]), rfl⟩
  · refine q_iload_n (pc := 5) (j := 1) rfl rfl ?_
    refine q_i2s (pc := 6) rfl ?_
    refine q_goto (pc := 7) 11 rfl (by decide) ?_
    exact q_iret (pc := 11) rfl rfl ⟨congrArg (fun v => some (Value.int v)) (by first | rw [if_pos (show q = 2 from h2)] | rw [if_neg h2]), rfl⟩
def shT (S : PSt) (u : Nat) (q z : Int32) (k : Nat) : PSt := (fun c j => if c = 89 ∧ j = u then q else if c = 90 ∧ j = u then z else if c = 93 ∧ 40 * u ≤ j ∧ j < 40 * u + k then 0 else S.1 c j, fun c j => if c = 91 ∧ 40 * u ≤ j ∧ j < 40 * u + k then FP.fconst0 else S.2.1 c j, S.2.2.1, fun c j => if c = 92 ∧ 40 * u ≤ j ∧ j < 40 * u + k then FP.dconst0 else S.2.2.2 c j)
theorem shT_0 {S : PSt} {u : Nat} {q z : Int32} : pSI (pSI S 89 u q) 90 u z = shT S u q z 0 := by
  unfold pSI pU shT
  refine Prod.ext (funext fun c => funext fun j => ?_) (Prod.ext (funext fun c => funext fun j => ?_) (Prod.ext rfl (funext fun c => funext fun j => ?_)))
  · dsimp only
    (repeat' split) <;> first | rfl | (exfalso; omega)
  · dsimp only
    rw [if_neg (by omega)]
  · dsimp only
    rw [if_neg (by omega)]
theorem shT_s {S : PSt} {u k : Nat} {q z : Int32} : pSI (pSD (pSF (shT S u q z k) 91 (40 * u + k) FP.fconst0) 92 (40 * u + k) FP.dconst0) 93 (40 * u + k) 0 = shT S u q z (k + 1) := by
  unfold pSI pSF pSD pU shT
  refine Prod.ext (funext fun c => funext fun j => ?_) (Prod.ext (funext fun c => funext fun j => ?_) (Prod.ext rfl (funext fun c => funext fun j => ?_)))
  all_goals
    dsimp only
    (repeat' split) <;> first | rfl | (exfalso; omega)
set_option maxRecDepth 100000 in
theorem lp_X9_sheet {n0 : Nat} {X : Nat × (Nat → Int32)} {P : Option Value → PSt → Prop} {d : Nat} (hd9 : 0 ≤ d) {sh : List PSh} {S : PSt} (hm : isMo sh) {u : Nat} (hu : u < 4) {q n z : Int32}  (hex : ∀ i, pV mX9_sheet d n0 X sh P 130 [some (.ref 70), some (.int (nI u)), some (.int q), some (.int n), some (.int i)] [] (shT S u q z 40)) : ∀ (m k : Nat), k + m = 40 → pV mX9_sheet d n0 X sh P 88 [some (.ref 70), some (.int (nI u)), some (.int q), some (.int n), some (.int (nI (40 * u + k)))] [] (shT S u q z k) := by
  intro m
  induction m with
  | zero =>
    intro k hk
    have hk9 : 40 = k := by omega
    subst hk9
    refine q_iload (pc := 88) (j := 4) rfl rfl ?_
    refine q_bipush (pc := 90) 40 rfl (by decide) ?_
    refine q_iload_n (pc := 92) (j := 1) rfl rfl ?_
    refine q_imul (pc := 93) rfl ?_
    refine q_bipush (pc := 94) 40 rfl (by decide) ?_
    refine q_iadd (pc := 96) rfl ?_
    refine q_st (st2 := [.int (nI (40 * u + 40)), .int (nI (40 * u + 40))]) (by rw [ix40_1]) ?_
    refine q_icmp_ge (pc := 97) 130 rfl (by decide) (fun _ => ?_) (fun h9 => absurd (Int32.le_refl _) h9)
    exact hex _
  | succ m ih =>
    intro k hk
    have hk1 : k < 40 := by omega
    have hk2 : k < 40 := hk1
    refine q_iload (pc := 88) (j := 4) rfl rfl ?_
    refine q_bipush (pc := 90) 40 rfl (by decide) ?_
    refine q_iload_n (pc := 92) (j := 1) rfl rfl ?_
    refine q_imul (pc := 93) rfl ?_
    refine q_bipush (pc := 94) 40 rfl (by decide) ?_
    refine q_iadd (pc := 96) rfl ?_
    refine q_st (st2 := [.int (nI (40 * u + 40)), .int (nI (40 * u + k))]) (by rw [ix40_1]) ?_
    refine q_icmp_ge (pc := 97) 130 rfl (by decide) (fun h9 => absurd h9 (nI_ge (by omega) (by omega))) (fun _ => ?_)
    refine q_aload_n (pc := 100) (j := 0) rfl rfl ?_
    refine q_get (pc := 101) (a := 70) (v := .ref 91) rfl fl_X9_72 hm.1 rfl rfl ?_
    refine q_iload (pc := 104) (j := 4) rfl rfl ?_
    refine q_fconst0 (pc := 106) rfl ?_
    refine q_fast (pc := 107) (a := 91) (40 * u + k) rfl hm.2.2.2.2.2.2.2.2.2.2.2.2.2.2.2.2.2.2.2.2.2.1 (vp_in_nI (by omega) (by decide)) (nI_clamp (by omega)) ?_
    refine q_aload_n (pc := 108) (j := 0) rfl rfl ?_
    refine q_get (pc := 109) (a := 70) (v := .ref 92) rfl fl_X9_75 hm.1 rfl rfl ?_
    refine q_iload (pc := 112) (j := 4) rfl rfl ?_
    refine q_dconst0 (pc := 114) rfl ?_
    refine q_dast (pc := 115) (a := 92) (40 * u + k) rfl hm.2.2.2.2.2.2.2.2.2.2.2.2.2.2.2.2.2.2.2.2.2.2.1 (vp_in_nI (by omega) (by decide)) (nI_clamp (by omega)) ?_
    refine q_aload_n (pc := 116) (j := 0) rfl rfl ?_
    refine q_get (pc := 117) (a := 70) (v := .ref 93) rfl fl_X9_79 hm.1 rfl rfl ?_
    refine q_iload (pc := 120) (j := 4) rfl rfl ?_
    refine q_iconst (pc := 122) 0 rfl (by decide) ?_
    refine q_iast (pc := 123) (a := 93) (40 * u + k) rfl hm.2.2.2.2.2.2.2.2.2.2.2.2.2.2.2.2.2.2.2.2.2.2.2 (vp_in_nI (by omega) (by decide)) (nI_clamp (by omega)) ?_
    refine q_iinc (pc := 124) (j := 4) (n := 1) (nI (40 * u + (k + 1))) [some (.ref 70), some (.int (nI u)), some (.int q), some (.int n), some (.int (nI (40 * u + (k + 1))))] rfl (by decide) rfl (show nI (40 * u + k) + 1 = nI (40 * u + (k + 1)) from nI_1 (40 * u + k)) rfl ?_
    refine q_goto (pc := 127) 88 rfl (by decide) ?_
    exact q_S shT_s (ih (k + 1) (by omega))
theorem so_n {q : Int32} (h : pWi q (-1) 3 = true) : q < 0 ↔ q = -1 := by
  have e1 : (-1 : Int32).toInt = -1 := by decide
  have e0 : (0 : Int32).toInt = 0 := rfl
  have h := of_decide_eq_true h
  rw [e1] at h
  constructor
  · intro p
    rw [Int32.lt_iff_toInt_lt, e0] at p
    exact Int32.toInt_inj.mp (by rw [e1]; omega)
  · intro p; rw [p]; decide
set_option maxRecDepth 100000 in
theorem sp_X9_sheet {sh : List PSh} {S : PSt} (hm : isMo sh) {s q n : Int32}  : pG mX9_sheet 2 [.ref 70, .int s, .int q, .int n] sh S (mA (oSheet s q n) S (shT S (tN s) q (if q = -1 then 0 else n) 40)) := by
  refine pG.of [some (.ref 70), some (.int s), some (.int q), some (.int n), none] (by decide) tk_X9_sheet (Nat.le_of_ble_eq_true rfl) rfl (fun X => ?_)
  refine q_iload_n (pc := 0) (j := 1) rfl rfl ?_
  refine q_callS (pc := 1) (as := [.int s]) (rest := []) (st2 := [.int (pB (pWi s 0 3))]) rfl ce_X9_isSheet ml_X9_301 st_X9_isSheet rfl (by decide) (Nat.le_of_ble_eq_true rfl) (sp_X9_isSheet) rfl ?_
  refine q_if_eq (pc := 4) 21 rfl (by decide) (fun h4 => ?_) (fun h4 => ?_)
  · refine q_aload_n (pc := 21) (j := 0) rfl rfl ?_
    refine q_ldc (pc := 22) (v := (-2147483001)) rfl kc_X9_109 ?_
    refine q_callV (pc := 24) (as := [.int (-2147483001)]) (rest := []) (b := 70) (st2 := [.int (-2147483000 - nI 1)]) rfl ce_X9_errs ml_X9_110 im_X9_errs se_X9_errs hm.1 rfl rfl rfl (by decide) (Nat.le_of_ble_eq_true rfl) (sp_X9_errs (e := 1) hm (by decide) (by decide)) rfl ?_
    exact q_iret (pc := 27) rfl rfl (mA_no (k := 0) (by rw [oSheet, if_neg (show ¬ _ = true from by rw [pB_f h4]; decide)]) fm_rf)
  · refine q_iload_n (pc := 7) (j := 2) rfl rfl ?_
    refine q_i2l (pc := 8) rfl ?_
    refine q_ldc2 (pc := 9) (v := (-1)) rfl kc_X9_292 ?_
    refine q_ldc2 (pc := 12) (v := 3) rfl kc_X9_212 ?_
    refine q_callS (pc := 15) (as := [.long (q.toInt64), .long (-1), .long 3]) (rest := []) (st2 := [.int (pB (pWi q (-1) 3))]) rfl ce_X9_in ml_X9_85 st_X9_in rfl (by decide) (Nat.le_of_ble_eq_true rfl) (sp_X9_inW (v := q) (l := (-1)) (m := 3) (Int32.toInt_toInt64 _) (by decide) (by decide)) rfl ?_
    refine q_if_ne (pc := 18) 28 rfl (by decide) (fun h18 => ?_) (fun h18 => ?_)
    · obtain ⟨u, huu, rfl⟩ := pWi_of (m := 3) (by decide) (by decide) (pB_t h4)
      refine q_iload_n (pc := 28) (j := 2) rfl rfl ?_
      refine q_if_lt (pc := 29) 43 rfl (by decide) (fun h29 => ?_) (fun h29 => ?_)
      · refine q_iload_n (pc := 43) (j := 2) rfl rfl ?_
        refine q_if_lt (pc := 44) 60 rfl (by decide) (fun h44 => ?_) (fun h44 => ?_)
        · refine q_aload_n (pc := 60) (j := 0) rfl rfl ?_
          refine q_get (pc := 61) (a := 70) (v := .ref 89) rfl fl_X9_66 hm.1 rfl rfl ?_
          refine q_iload_n (pc := 64) (j := 1) rfl rfl ?_
          refine q_iload_n (pc := 65) (j := 2) rfl rfl ?_
          refine q_iast (pc := 66) (a := 89) u rfl hm.2.2.2.2.2.2.2.2.2.2.2.2.2.2.2.2.2.2.2.1 (vp_in_nI (by omega) (by decide)) (nI_clamp (by omega)) ?_
          refine q_aload_n (pc := 67) (j := 0) rfl rfl ?_
          refine q_get (pc := 68) (a := 70) (v := .ref 90) rfl fl_X9_69 hm.1 rfl rfl ?_
          refine q_iload_n (pc := 71) (j := 1) rfl rfl ?_
          refine q_iload_n (pc := 72) (j := 2) rfl rfl ?_
          refine q_join 81 [some (.ref 70), some (.int (nI u)), some (.int q), some (.int n), none] [.int (if q = -1 then 0 else n), .int (nI u), .ref 90] (pSI S 89 u q) ?_ (fun key73 => ?_)
          · refine q_iast (pc := 81) (a := 90) u rfl hm.2.2.2.2.2.2.2.2.2.2.2.2.2.2.2.2.2.2.2.2.1 (vp_in_nI (by omega) (by decide)) (nI_clamp (by omega)) ?_
            refine q_bipush (pc := 82) 40 rfl (by decide) ?_
            refine q_iload_n (pc := 84) (j := 1) rfl rfl ?_
            refine q_imul (pc := 85) rfl ?_
            refine q_st (st2 := [.int (nI (40 * u + 0))]) (by rw [(show (40 : Int32) * nI u = nI (40 * u + 0) from ix40_0)]) ?_
            refine q_istore (pc := 86) (j := 4) [some (.ref 70), some (.int (nI u)), some (.int q), some (.int n), some (.int (nI (40 * u + 0)))] rfl (by decide) rfl ?_
            refine q_S shT_0 (lp_X9_sheet (by decide) hm (by omega) (fun i => ?_) 40 0 rfl)
            refine q_iconst (pc := 130) 1 rfl (by decide) ?_
            exact q_iret (pc := 131) rfl rfl (mA_ok (by rw [oSheet, if_pos (pB_t h4), if_pos (pB_t h18), if_pos ((so_n (pB_t h18)).mp h44)]) (by rw [tN_nI (show u < 2 ^ 31 by omega)]; exact fm_rf))
          · refine q_if_ge (pc := 73) 80 rfl (by decide) (fun h73 => ?_) (fun h73 => ?_)
            · refine q_iload_n (pc := 80) (j := 3) rfl rfl ?_
              exact q_st (by rw [if_neg (fun q9 => absurd ((so_n (pB_t h18)).mpr q9) (Int32.not_lt.mpr h73))]) key73
            · refine q_iconst (pc := 76) 0 rfl (by decide) ?_
              refine q_goto (pc := 77) 81 rfl (by decide) ?_
              exact q_st (by rw [if_pos ((so_n (pB_t h18)).mp (Int32.not_le.mp h73))]) key73
        · refine q_iload_n (pc := 47) (j := 3) rfl rfl ?_
          refine q_bipush (pc := 48) 40 rfl (by decide) ?_
          refine q_icmp_le (pc := 50) 60 rfl (by decide) (fun h50 => ?_) (fun h50 => ?_)
          · refine q_aload_n (pc := 60) (j := 0) rfl rfl ?_
            refine q_get (pc := 61) (a := 70) (v := .ref 89) rfl fl_X9_66 hm.1 rfl rfl ?_
            refine q_iload_n (pc := 64) (j := 1) rfl rfl ?_
            refine q_iload_n (pc := 65) (j := 2) rfl rfl ?_
            refine q_iast (pc := 66) (a := 89) u rfl hm.2.2.2.2.2.2.2.2.2.2.2.2.2.2.2.2.2.2.2.1 (vp_in_nI (by omega) (by decide)) (nI_clamp (by omega)) ?_
            refine q_aload_n (pc := 67) (j := 0) rfl rfl ?_
            refine q_get (pc := 68) (a := 70) (v := .ref 90) rfl fl_X9_69 hm.1 rfl rfl ?_
            refine q_iload_n (pc := 71) (j := 1) rfl rfl ?_
            refine q_iload_n (pc := 72) (j := 2) rfl rfl ?_
            refine q_join 81 [some (.ref 70), some (.int (nI u)), some (.int q), some (.int n), none] [.int (if q = -1 then 0 else n), .int (nI u), .ref 90] (pSI S 89 u q) ?_ (fun key73 => ?_)
            · refine q_iast (pc := 81) (a := 90) u rfl hm.2.2.2.2.2.2.2.2.2.2.2.2.2.2.2.2.2.2.2.2.1 (vp_in_nI (by omega) (by decide)) (nI_clamp (by omega)) ?_
              refine q_bipush (pc := 82) 40 rfl (by decide) ?_
              refine q_iload_n (pc := 84) (j := 1) rfl rfl ?_
              refine q_imul (pc := 85) rfl ?_
              refine q_st (st2 := [.int (nI (40 * u + 0))]) (by rw [(show (40 : Int32) * nI u = nI (40 * u + 0) from ix40_0)]) ?_
              refine q_istore (pc := 86) (j := 4) [some (.ref 70), some (.int (nI u)), some (.int q), some (.int n), some (.int (nI (40 * u + 0)))] rfl (by decide) rfl ?_
              refine q_S shT_0 (lp_X9_sheet (by decide) hm (by omega) (fun i => ?_) 40 0 rfl)
              refine q_iconst (pc := 130) 1 rfl (by decide) ?_
              exact q_iret (pc := 131) rfl rfl (mA_ok (by rw [oSheet, if_pos (pB_t h4), if_pos (pB_t h18), if_neg (fun q9 => h44 ((so_n (pB_t h18)).mpr q9)), if_neg (Int32.not_lt.mpr (absurd h29 h44)), if_neg (Int32.not_lt.mpr h50)]) (by rw [tN_nI (show u < 2 ^ 31 by omega)]; exact fm_rf))
            · refine q_if_ge (pc := 73) 80 rfl (by decide) (fun h73 => ?_) (fun h73 => ?_)
              · refine q_iload_n (pc := 80) (j := 3) rfl rfl ?_
                exact q_st (by rw [if_neg (fun q9 => absurd ((so_n (pB_t h18)).mpr q9) (Int32.not_lt.mpr h73))]) key73
              · refine q_iconst (pc := 76) 0 rfl (by decide) ?_
                refine q_goto (pc := 77) 81 rfl (by decide) ?_
                exact q_st (by rw [if_pos ((so_n (pB_t h18)).mp (Int32.not_le.mp h73))]) key73
          · refine q_aload_n (pc := 53) (j := 0) rfl rfl ?_
            refine q_ldc (pc := 54) (v := (-2147483001)) rfl kc_X9_109 ?_
            refine q_callV (pc := 56) (as := [.int (-2147483001)]) (rest := []) (b := 70) (st2 := [.int (-2147483000 - nI 1)]) rfl ce_X9_errs ml_X9_110 im_X9_errs se_X9_errs hm.1 rfl rfl rfl (by decide) (Nat.le_of_ble_eq_true rfl) (sp_X9_errs (e := 1) hm (by decide) (by decide)) rfl ?_
            exact q_iret (pc := 59) rfl rfl (mA_no (k := 0) (by rw [oSheet, if_pos (pB_t h4), if_pos (pB_t h18), if_neg (fun q9 => h44 ((so_n (pB_t h18)).mpr q9)), if_neg (Int32.not_lt.mpr (absurd h29 h44)), if_pos (Int32.not_le.mp h50)]) fm_rf)
      · refine q_iload_n (pc := 32) (j := 3) rfl rfl ?_
        refine q_if_ge (pc := 33) 43 rfl (by decide) (fun h33 => ?_) (fun h33 => ?_)
        · refine q_iload_n (pc := 43) (j := 2) rfl rfl ?_
          refine q_if_lt (pc := 44) 60 rfl (by decide) (fun h44 => ?_) (fun h44 => ?_)
          · refine q_aload_n (pc := 60) (j := 0) rfl rfl ?_
            refine q_get (pc := 61) (a := 70) (v := .ref 89) rfl fl_X9_66 hm.1 rfl rfl ?_
            refine q_iload_n (pc := 64) (j := 1) rfl rfl ?_
            refine q_iload_n (pc := 65) (j := 2) rfl rfl ?_
            refine q_iast (pc := 66) (a := 89) u rfl hm.2.2.2.2.2.2.2.2.2.2.2.2.2.2.2.2.2.2.2.1 (vp_in_nI (by omega) (by decide)) (nI_clamp (by omega)) ?_
            refine q_aload_n (pc := 67) (j := 0) rfl rfl ?_
            refine q_get (pc := 68) (a := 70) (v := .ref 90) rfl fl_X9_69 hm.1 rfl rfl ?_
            refine q_iload_n (pc := 71) (j := 1) rfl rfl ?_
            refine q_iload_n (pc := 72) (j := 2) rfl rfl ?_
            refine q_join 81 [some (.ref 70), some (.int (nI u)), some (.int q), some (.int n), none] [.int (if q = -1 then 0 else n), .int (nI u), .ref 90] (pSI S 89 u q) ?_ (fun key73 => ?_)
            · refine q_iast (pc := 81) (a := 90) u rfl hm.2.2.2.2.2.2.2.2.2.2.2.2.2.2.2.2.2.2.2.2.1 (vp_in_nI (by omega) (by decide)) (nI_clamp (by omega)) ?_
              refine q_bipush (pc := 82) 40 rfl (by decide) ?_
              refine q_iload_n (pc := 84) (j := 1) rfl rfl ?_
              refine q_imul (pc := 85) rfl ?_
              refine q_st (st2 := [.int (nI (40 * u + 0))]) (by rw [(show (40 : Int32) * nI u = nI (40 * u + 0) from ix40_0)]) ?_
              refine q_istore (pc := 86) (j := 4) [some (.ref 70), some (.int (nI u)), some (.int q), some (.int n), some (.int (nI (40 * u + 0)))] rfl (by decide) rfl ?_
              refine q_S shT_0 (lp_X9_sheet (by decide) hm (by omega) (fun i => ?_) 40 0 rfl)
              refine q_iconst (pc := 130) 1 rfl (by decide) ?_
              exact q_iret (pc := 131) rfl rfl (mA_ok (by rw [oSheet, if_pos (pB_t h4), if_pos (pB_t h18), if_pos ((so_n (pB_t h18)).mp h44)]) (by rw [tN_nI (show u < 2 ^ 31 by omega)]; exact fm_rf))
            · refine q_if_ge (pc := 73) 80 rfl (by decide) (fun h73 => ?_) (fun h73 => ?_)
              · refine q_iload_n (pc := 80) (j := 3) rfl rfl ?_
                exact q_st (by rw [if_neg (fun q9 => absurd ((so_n (pB_t h18)).mpr q9) (Int32.not_lt.mpr h73))]) key73
              · refine q_iconst (pc := 76) 0 rfl (by decide) ?_
                refine q_goto (pc := 77) 81 rfl (by decide) ?_
                exact q_st (by rw [if_pos ((so_n (pB_t h18)).mp (Int32.not_le.mp h73))]) key73
          · refine q_iload_n (pc := 47) (j := 3) rfl rfl ?_
            refine q_bipush (pc := 48) 40 rfl (by decide) ?_
            refine q_icmp_le (pc := 50) 60 rfl (by decide) (fun h50 => ?_) (fun h50 => ?_)
            · refine q_aload_n (pc := 60) (j := 0) rfl rfl ?_
              refine q_get (pc := 61) (a := 70) (v := .ref 89) rfl fl_X9_66 hm.1 rfl rfl ?_
              refine q_iload_n (pc := 64) (j := 1) rfl rfl ?_
              refine q_iload_n (pc := 65) (j := 2) rfl rfl ?_
              refine q_iast (pc := 66) (a := 89) u rfl hm.2.2.2.2.2.2.2.2.2.2.2.2.2.2.2.2.2.2.2.1 (vp_in_nI (by omega) (by decide)) (nI_clamp (by omega)) ?_
              refine q_aload_n (pc := 67) (j := 0) rfl rfl ?_
              refine q_get (pc := 68) (a := 70) (v := .ref 90) rfl fl_X9_69 hm.1 rfl rfl ?_
              refine q_iload_n (pc := 71) (j := 1) rfl rfl ?_
              refine q_iload_n (pc := 72) (j := 2) rfl rfl ?_
              refine q_join 81 [some (.ref 70), some (.int (nI u)), some (.int q), some (.int n), none] [.int (if q = -1 then 0 else n), .int (nI u), .ref 90] (pSI S 89 u q) ?_ (fun key73 => ?_)
              · refine q_iast (pc := 81) (a := 90) u rfl hm.2.2.2.2.2.2.2.2.2.2.2.2.2.2.2.2.2.2.2.2.1 (vp_in_nI (by omega) (by decide)) (nI_clamp (by omega)) ?_
                refine q_bipush (pc := 82) 40 rfl (by decide) ?_
                refine q_iload_n (pc := 84) (j := 1) rfl rfl ?_
                refine q_imul (pc := 85) rfl ?_
                refine q_st (st2 := [.int (nI (40 * u + 0))]) (by rw [(show (40 : Int32) * nI u = nI (40 * u + 0) from ix40_0)]) ?_
                refine q_istore (pc := 86) (j := 4) [some (.ref 70), some (.int (nI u)), some (.int q), some (.int n), some (.int (nI (40 * u + 0)))] rfl (by decide) rfl ?_
                refine q_S shT_0 (lp_X9_sheet (by decide) hm (by omega) (fun i => ?_) 40 0 rfl)
                refine q_iconst (pc := 130) 1 rfl (by decide) ?_
                exact q_iret (pc := 131) rfl rfl (mA_ok (by rw [oSheet, if_pos (pB_t h4), if_pos (pB_t h18), if_neg (fun q9 => h44 ((so_n (pB_t h18)).mpr q9)), if_neg (Int32.not_lt.mpr h33), if_neg (Int32.not_lt.mpr h50)]) (by rw [tN_nI (show u < 2 ^ 31 by omega)]; exact fm_rf))
              · refine q_if_ge (pc := 73) 80 rfl (by decide) (fun h73 => ?_) (fun h73 => ?_)
                · refine q_iload_n (pc := 80) (j := 3) rfl rfl ?_
                  exact q_st (by rw [if_neg (fun q9 => absurd ((so_n (pB_t h18)).mpr q9) (Int32.not_lt.mpr h73))]) key73
                · refine q_iconst (pc := 76) 0 rfl (by decide) ?_
                  refine q_goto (pc := 77) 81 rfl (by decide) ?_
                  exact q_st (by rw [if_pos ((so_n (pB_t h18)).mp (Int32.not_le.mp h73))]) key73
            · refine q_aload_n (pc := 53) (j := 0) rfl rfl ?_
              refine q_ldc (pc := 54) (v := (-2147483001)) rfl kc_X9_109 ?_
              refine q_callV (pc := 56) (as := [.int (-2147483001)]) (rest := []) (b := 70) (st2 := [.int (-2147483000 - nI 1)]) rfl ce_X9_errs ml_X9_110 im_X9_errs se_X9_errs hm.1 rfl rfl rfl (by decide) (Nat.le_of_ble_eq_true rfl) (sp_X9_errs (e := 1) hm (by decide) (by decide)) rfl ?_
              exact q_iret (pc := 59) rfl rfl (mA_no (k := 0) (by rw [oSheet, if_pos (pB_t h4), if_pos (pB_t h18), if_neg (fun q9 => h44 ((so_n (pB_t h18)).mpr q9)), if_neg (Int32.not_lt.mpr h33), if_pos (Int32.not_le.mp h50)]) fm_rf)
        · refine q_aload_n (pc := 36) (j := 0) rfl rfl ?_
          refine q_ldc (pc := 37) (v := (-2147483003)) rfl kc_X9_241 ?_
          refine q_callV (pc := 39) (as := [.int (-2147483003)]) (rest := []) (b := 70) (st2 := [.int (-2147483000 - nI 3)]) rfl ce_X9_errs ml_X9_110 im_X9_errs se_X9_errs hm.1 rfl rfl rfl (by decide) (Nat.le_of_ble_eq_true rfl) (sp_X9_errs (e := 3) hm (by decide) (by decide)) rfl ?_
          exact q_iret (pc := 42) rfl rfl (mA_no (k := 2) (by rw [oSheet, if_pos (pB_t h4), if_pos (pB_t h18), if_neg (fun q9 => h29 ((so_n (pB_t h18)).mpr q9)), if_pos (Int32.not_le.mp h33)]) fm_rf)
    · refine q_aload_n (pc := 21) (j := 0) rfl rfl ?_
      refine q_ldc (pc := 22) (v := (-2147483001)) rfl kc_X9_109 ?_
      refine q_callV (pc := 24) (as := [.int (-2147483001)]) (rest := []) (b := 70) (st2 := [.int (-2147483000 - nI 1)]) rfl ce_X9_errs ml_X9_110 im_X9_errs se_X9_errs hm.1 rfl rfl rfl (by decide) (Nat.le_of_ble_eq_true rfl) (sp_X9_errs (e := 1) hm (by decide) (by decide)) rfl ?_
      exact q_iret (pc := 27) rfl rfl (mA_no (k := 0) (by rw [oSheet, if_pos (pB_t h4), if_neg (show ¬ _ = true from by rw [pB_f h18]; decide)]) fm_rf)
def putU (S : PSt) (q : Int32) (n : Nat) (v : Int64) (k : Int32) : PSt := if q = 0 then pSF S 91 n (putF v k) else if q = 1 then pSD S 92 n (putD v k) else pSI S 93 n (if q = 2 then v.toInt32.toInt16.toInt32 else v.toInt32)
set_option maxRecDepth 100000 in
theorem sp_X9_put {sh : List PSh} {S : PSt} (hm : isMo sh) (hss : mSs S) {s i : Int32} {v : Int64} {k : Int32}  : pG mX9_put 2 [.ref 70, .int s, .int i, .long v, .int k] sh S (mA (oPut (S.1 89) (S.1 90) s i k) S (putU S (S.1 89 (tN s)) (spN s i) v k)) := by
  refine pG.of [some (.ref 70), some (.int s), some (.int i), some (.long v), none, some (.int k), none, none, none] (by decide) tk_X9_put (Nat.le_of_ble_eq_true rfl) rfl (fun X => ?_)
  refine q_iload_n (pc := 0) (j := 1) rfl rfl ?_
  refine q_callS (pc := 1) (as := [.int s]) (rest := []) (st2 := [.int (pB (pWi s 0 3))]) rfl ce_X9_isSheet ml_X9_301 st_X9_isSheet rfl (by decide) (Nat.le_of_ble_eq_true rfl) (sp_X9_isSheet) rfl ?_
  refine q_if_eq (pc := 4) 20 rfl (by decide) (fun h4 => ?_) (fun h4 => ?_)
  · refine q_aload_n (pc := 20) (j := 0) rfl rfl ?_
    refine q_ldc (pc := 21) (v := (-2147483001)) rfl kc_X9_109 ?_
    refine q_callV (pc := 23) (as := [.int (-2147483001)]) (rest := []) (b := 70) (st2 := [.int (-2147483000 - nI 1)]) rfl ce_X9_errs ml_X9_110 im_X9_errs se_X9_errs hm.1 rfl rfl rfl (by decide) (Nat.le_of_ble_eq_true rfl) (sp_X9_errs (e := 1) hm (by decide) (by decide)) rfl ?_
    exact q_iret (pc := 26) rfl rfl (mA_no (k := 0) (by rw [oPut, if_neg (show ¬ _ = true from by rw [pB_f h4]; decide)]) fm_rf)
  · refine q_iload (pc := 7) (j := 5) rfl rfl ?_
    refine q_i2l (pc := 9) rfl ?_
    refine q_lconst (pc := 10) 0 rfl (by decide) ?_
    refine q_ldc2 (pc := 11) (v := 20) rfl kc_X9_95 ?_
    refine q_callS (pc := 14) (as := [.long (k.toInt64), .long 0, .long 20]) (rest := []) (st2 := [.int (pB (pWi k 0 20))]) rfl ce_X9_in ml_X9_85 st_X9_in rfl (by decide) (Nat.le_of_ble_eq_true rfl) (sp_X9_inW (v := k) (l := 0) (m := 20) (Int32.toInt_toInt64 _) (by decide) (by decide)) rfl ?_
    refine q_if_ne (pc := 17) 27 rfl (by decide) (fun h17 => ?_) (fun h17 => ?_)
    · obtain ⟨u, huu, rfl⟩ := pWi_of (m := 3) (by decide) (by decide) (pB_t h4); obtain ⟨t, hut, rfl⟩ := pWi_of (m := 20) (by decide) (by decide) (pB_t h17)
      refine q_aload_n (pc := 27) (j := 0) rfl rfl ?_
      refine q_iload_n (pc := 28) (j := 1) rfl rfl ?_
      refine q_iload_n (pc := 29) (j := 2) rfl rfl ?_
      refine q_callV (pc := 30) (as := [.int (nI u), .int i]) (rest := []) (b := 70) (st2 := [.int (pB (hnB (S.1 89 u) (S.1 90 u) i))]) rfl ce_X9_isItem ml_X9_304 im_X9_isItem se_X9_isItem hm.1 rfl rfl rfl (by decide) (Nat.le_of_ble_eq_true rfl) (sp_X9_isItem (u := u) hm (by omega) hss) rfl ?_
      refine q_if_ne (pc := 33) 44 rfl (by decide) (fun h33 => ?_) (fun h33 => ?_)
      · obtain ⟨y, rfl, hy, hky⟩ := hn_of4 (hss u (by omega)).1 (pB_t h33)
        refine q_bipush (pc := 44) 40 rfl (by decide) ?_
        refine q_iload_n (pc := 46) (j := 1) rfl rfl ?_
        refine q_imul (pc := 47) rfl ?_
        refine q_iload_n (pc := 48) (j := 2) rfl rfl ?_
        refine q_iadd (pc := 49) rfl ?_
        refine q_st (st2 := [.int (nI (40 * u + y))]) (by rw [ix40]) ?_
        refine q_istore (pc := 50) (j := 6) [some (.ref 70), some (.int (nI u)), some (.int (nI y)), some (.long v), none, some (.int (nI t)), some (.int (nI (40 * u + y))), none, none] rfl (by decide) rfl ?_
        refine q_aload_n (pc := 52) (j := 0) rfl rfl ?_
        refine q_get (pc := 53) (a := 70) (v := .ref 89) rfl fl_X9_66 hm.1 rfl rfl ?_
        refine q_iload_n (pc := 56) (j := 1) rfl rfl ?_
        refine q_iald (pc := 57) (a := 89) u rfl hm.2.2.2.2.2.2.2.2.2.2.2.2.2.2.2.2.2.2.2.1 (vp_in_nI (by omega) (by decide)) (nI_clamp (by omega)) ?_
        refine q_if_ne (pc := 58) 83 rfl (by decide) (fun h58 => ?_) (fun h58 => ?_)
        · refine q_aload_n (pc := 83) (j := 0) rfl rfl ?_
          refine q_get (pc := 84) (a := 70) (v := .ref 89) rfl fl_X9_66 hm.1 rfl rfl ?_
          refine q_iload_n (pc := 87) (j := 1) rfl rfl ?_
          refine q_iald (pc := 88) (a := 89) u rfl hm.2.2.2.2.2.2.2.2.2.2.2.2.2.2.2.2.2.2.2.1 (vp_in_nI (by omega) (by decide)) (nI_clamp (by omega)) ?_
          refine q_iconst (pc := 89) 1 rfl (by decide) ?_
          refine q_icmp_ne (pc := 90) 115 rfl (by decide) (fun h90 => ?_) (fun h90 => ?_)
          · refine q_aload_n (pc := 115) (j := 0) rfl rfl ?_
            refine q_get (pc := 116) (a := 70) (v := .ref 93) rfl fl_X9_79 hm.1 rfl rfl ?_
            refine q_iload (pc := 119) (j := 6) rfl rfl ?_
            refine q_aload_n (pc := 121) (j := 0) rfl rfl ?_
            refine q_get (pc := 122) (a := 70) (v := .ref 89) rfl fl_X9_66 hm.1 rfl rfl ?_
            refine q_iload_n (pc := 125) (j := 1) rfl rfl ?_
            refine q_iald (pc := 126) (a := 89) u rfl hm.2.2.2.2.2.2.2.2.2.2.2.2.2.2.2.2.2.2.2.1 (vp_in_nI (by omega) (by decide)) (nI_clamp (by omega)) ?_
            refine q_lload_n (pc := 127) (j := 3) rfl rfl ?_
            refine q_l2i (pc := 128) rfl ?_
            refine q_callS (pc := 129) (as := [.int (S.1 89 u), .int (v.toInt32)]) (rest := [.int (nI (40 * u + y)), .ref 93]) (st2 := [.int (if (S.1 89 u) = 2 then (v.toInt32).toInt16.toInt32 else (v.toInt32)), .int (nI (40 * u + y)), .ref 93]) rfl ce_X9_narrow ml_X9_307 st_X9_narrow rfl (by decide) (Nat.le_of_ble_eq_true rfl) (sp_X9_narrow) rfl ?_
            refine q_iast (pc := 132) (a := 93) (40 * u + y) rfl hm.2.2.2.2.2.2.2.2.2.2.2.2.2.2.2.2.2.2.2.2.2.2.2 (vp_in_nI (by omega) (by decide)) (nI_clamp (by omega)) ?_
            refine q_iconst (pc := 133) 1 rfl (by decide) ?_
            exact q_iret (pc := 134) rfl rfl (mA_ok (by rw [oPut, if_pos (pB_t h4), if_pos (pB_t h17), tN_nI (show u < 2 ^ 31 by omega), if_pos (pB_t h33)]) (by rw [spN, tN_nI (show u < 2 ^ 31 by omega), tN_nI (show y < 2 ^ 31 by omega), putU, if_neg h58, if_neg h90]; exact fm_rf))
          · refine q_lload_n (pc := 93) (j := 3) rfl rfl ?_
            refine q_l2d (pc := 94) rfl ?_
            refine q_dstore (pc := 95) (j := 7) [some (.ref 70), some (.int (nI u)), some (.int (nI y)), some (.long v), none, some (.int (nI t)), some (.int (nI (40 * u + y))), some (.double (FP.l2d v)), none] rfl (by decide) rfl ?_
            refine q_aload_n (pc := 97) (j := 0) rfl rfl ?_
            refine q_get (pc := 98) (a := 70) (v := .ref 92) rfl fl_X9_75 hm.1 rfl rfl ?_
            refine q_iload (pc := 101) (j := 6) rfl rfl ?_
            refine q_dload (pc := 103) (j := 7) rfl rfl ?_
            refine q_iconst (pc := 105) 1 rfl (by decide) ?_
            refine q_iload (pc := 106) (j := 5) rfl rfl ?_
            refine q_ishl (pc := 108) rfl ?_
            refine q_i2d (pc := 109) rfl ?_
            refine q_ddiv (pc := 110) rfl (put64 (v := v) (k := t) (by omega)).1 ?_
            refine q_dast (pc := 111) (a := 92) (40 * u + y) rfl hm.2.2.2.2.2.2.2.2.2.2.2.2.2.2.2.2.2.2.2.2.2.2.1 (vp_in_nI (by omega) (by decide)) (nI_clamp (by omega)) ?_
            refine q_goto (pc := 112) 133 rfl (by decide) ?_
            refine q_iconst (pc := 133) 1 rfl (by decide) ?_
            exact q_iret (pc := 134) rfl rfl (mA_ok (by rw [oPut, if_pos (pB_t h4), if_pos (pB_t h17), tN_nI (show u < 2 ^ 31 by omega), if_pos (pB_t h33)]) (by rw [spN, tN_nI (show u < 2 ^ 31 by omega), tN_nI (show y < 2 ^ 31 by omega), putU, if_neg h58, if_pos (show (S.1 89 u) = 1 from h90)]; exact fm_rf))
        · refine q_lload_n (pc := 61) (j := 3) rfl rfl ?_
          refine q_l2f (pc := 62) rfl ?_
          refine q_fstore (pc := 63) (j := 7) [some (.ref 70), some (.int (nI u)), some (.int (nI y)), some (.long v), none, some (.int (nI t)), some (.int (nI (40 * u + y))), some (.float (FP.l2f v)), none] rfl (by decide) rfl ?_
          refine q_aload_n (pc := 65) (j := 0) rfl rfl ?_
          refine q_get (pc := 66) (a := 70) (v := .ref 91) rfl fl_X9_72 hm.1 rfl rfl ?_
          refine q_iload (pc := 69) (j := 6) rfl rfl ?_
          refine q_fload (pc := 71) (j := 7) rfl rfl ?_
          refine q_iconst (pc := 73) 1 rfl (by decide) ?_
          refine q_iload (pc := 74) (j := 5) rfl rfl ?_
          refine q_ishl (pc := 76) rfl ?_
          refine q_i2f (pc := 77) rfl ?_
          refine q_fdiv (pc := 78) rfl (fF_nn (put32 (v := v) (k := t) (by omega)).2.2.1.1) ?_
          refine q_fast (pc := 79) (a := 91) (40 * u + y) rfl hm.2.2.2.2.2.2.2.2.2.2.2.2.2.2.2.2.2.2.2.2.2.1 (vp_in_nI (by omega) (by decide)) (nI_clamp (by omega)) ?_
          refine q_goto (pc := 80) 133 rfl (by decide) ?_
          refine q_iconst (pc := 133) 1 rfl (by decide) ?_
          exact q_iret (pc := 134) rfl rfl (mA_ok (by rw [oPut, if_pos (pB_t h4), if_pos (pB_t h17), tN_nI (show u < 2 ^ 31 by omega), if_pos (pB_t h33)]) (by rw [spN, tN_nI (show u < 2 ^ 31 by omega), tN_nI (show y < 2 ^ 31 by omega), putU, if_pos (show (S.1 89 u) = 0 from h58)]; exact fm_rf))
      · refine q_aload_n (pc := 36) (j := 0) rfl rfl ?_
        refine q_ldcw (pc := 37) (v := (-2147483007)) rfl kc_X9_300 ?_
        refine q_callV (pc := 40) (as := [.int (-2147483007)]) (rest := []) (b := 70) (st2 := [.int (-2147483000 - nI 7)]) rfl ce_X9_errs ml_X9_110 im_X9_errs se_X9_errs hm.1 rfl rfl rfl (by decide) (Nat.le_of_ble_eq_true rfl) (sp_X9_errs (e := 7) hm (by decide) (by decide)) rfl ?_
        exact q_iret (pc := 43) rfl rfl (mA_no (k := 6) (by rw [oPut, if_pos (pB_t h4), if_pos (pB_t h17), tN_nI (show u < 2 ^ 31 by omega), if_neg (show ¬ _ = true from by rw [pB_f h33]; decide)]) fm_rf)
    · refine q_aload_n (pc := 20) (j := 0) rfl rfl ?_
      refine q_ldc (pc := 21) (v := (-2147483001)) rfl kc_X9_109 ?_
      refine q_callV (pc := 23) (as := [.int (-2147483001)]) (rest := []) (b := 70) (st2 := [.int (-2147483000 - nI 1)]) rfl ce_X9_errs ml_X9_110 im_X9_errs se_X9_errs hm.1 rfl rfl rfl (by decide) (Nat.le_of_ble_eq_true rfl) (sp_X9_errs (e := 1) hm (by decide) (by decide)) rfl ?_
      exact q_iret (pc := 26) rfl rfl (mA_no (k := 0) (by rw [oPut, if_pos (pB_t h4), if_neg (show ¬ _ = true from by rw [pB_f h17]; decide)]) fm_rf)
set_option maxRecDepth 100000 in
theorem sp_X9_bits {sh : List PSh} {S : PSt} (hm : isMo sh) (hss : mSs S) {s i : Int32} : pG mX9_bits 2 [.ref 70, .int s, .int i] sh S (mAL (oBits (S.1 89) (S.1 90) (mM S) s i) S S) := by
  refine pG.of [some (.ref 70), some (.int s), some (.int i), none] (by decide) tk_X9_bits (Nat.le_of_ble_eq_true rfl) rfl (fun X => ?_)
  refine q_iload_n (pc := 0) (j := 1) rfl rfl ?_
  refine q_callS (pc := 1) (as := [.int s]) (rest := []) (st2 := [.int (pB (pWi s 0 3))]) rfl ce_X9_isSheet ml_X9_301 st_X9_isSheet rfl (by decide) (Nat.le_of_ble_eq_true rfl) (sp_X9_isSheet) rfl ?_
  refine q_if_ne (pc := 4) 14 rfl (by decide) (fun h4 => ?_) (fun h4 => ?_)
  · obtain ⟨u, huu, rfl⟩ := pWi_of (m := 3) (by decide) (by decide) (pB_t h4)
    refine q_aload_n (pc := 14) (j := 0) rfl rfl ?_
    refine q_iload_n (pc := 15) (j := 1) rfl rfl ?_
    refine q_iload_n (pc := 16) (j := 2) rfl rfl ?_
    refine q_callV (pc := 17) (as := [.int (nI u), .int i]) (rest := []) (b := 70) (st2 := [.int (pB (hnB (S.1 89 u) (S.1 90 u) i))]) rfl ce_X9_isItem ml_X9_304 im_X9_isItem se_X9_isItem hm.1 rfl rfl rfl (by decide) (Nat.le_of_ble_eq_true rfl) (sp_X9_isItem (u := u) hm (by omega) hss) rfl ?_
    refine q_if_ne (pc := 20) 31 rfl (by decide) (fun h20 => ?_) (fun h20 => ?_)
    · obtain ⟨y, rfl, hy, hky⟩ := hn_of4 (hss u (by omega)).1 (pB_t h20)
      refine q_bipush (pc := 31) 40 rfl (by decide) ?_
      refine q_iload_n (pc := 33) (j := 1) rfl rfl ?_
      refine q_imul (pc := 34) rfl ?_
      refine q_iload_n (pc := 35) (j := 2) rfl rfl ?_
      refine q_iadd (pc := 36) rfl ?_
      refine q_st (st2 := [.int (nI (40 * u + y))]) (by rw [ix40]) ?_
      refine q_istore_n (pc := 37) (j := 3) [some (.ref 70), some (.int (nI u)), some (.int (nI y)), some (.int (nI (40 * u + y)))] rfl (by decide) rfl ?_
      refine q_aload_n (pc := 38) (j := 0) rfl rfl ?_
      refine q_get (pc := 39) (a := 70) (v := .ref 89) rfl fl_X9_66 hm.1 rfl rfl ?_
      refine q_iload_n (pc := 42) (j := 1) rfl rfl ?_
      refine q_iald (pc := 43) (a := 89) u rfl hm.2.2.2.2.2.2.2.2.2.2.2.2.2.2.2.2.2.2.2.1 (vp_in_nI (by omega) (by decide)) (nI_clamp (by omega)) ?_
      refine q_if_ne (pc := 44) 60 rfl (by decide) (fun h44 => ?_) (fun h44 => ?_)
      · refine q_aload_n (pc := 60) (j := 0) rfl rfl ?_
        refine q_get (pc := 61) (a := 70) (v := .ref 89) rfl fl_X9_66 hm.1 rfl rfl ?_
        refine q_iload_n (pc := 64) (j := 1) rfl rfl ?_
        refine q_iald (pc := 65) (a := 89) u rfl hm.2.2.2.2.2.2.2.2.2.2.2.2.2.2.2.2.2.2.2.1 (vp_in_nI (by omega) (by decide)) (nI_clamp (by omega)) ?_
        refine q_iconst (pc := 66) 1 rfl (by decide) ?_
        refine q_icmp_ne (pc := 67) 82 rfl (by decide) (fun h67 => ?_) (fun h67 => ?_)
        · refine q_aload_n (pc := 82) (j := 0) rfl rfl ?_
          refine q_get (pc := 83) (a := 70) (v := .ref 93) rfl fl_X9_79 hm.1 rfl rfl ?_
          refine q_iload_n (pc := 86) (j := 3) rfl rfl ?_
          refine q_iald (pc := 87) (a := 93) (40 * u + y) rfl hm.2.2.2.2.2.2.2.2.2.2.2.2.2.2.2.2.2.2.2.2.2.2.2 (vp_in_nI (by omega) (by decide)) (nI_clamp (by omega)) ?_
          refine q_i2l (pc := 88) rfl ?_
          exact q_lret (pc := 89) rfl rfl (mAL_ok (by rw [oBits, if_pos (pB_t h4), tN_nI (show u < 2 ^ 31 by omega), if_pos (pB_t h20), spN, tN_nI (show u < 2 ^ 31 by omega), tN_nI (show y < 2 ^ 31 by omega), mM_at hy, mN, if_neg h44, if_neg h67]) fm_rf)
        · refine q_aload_n (pc := 70) (j := 0) rfl rfl ?_
          refine q_get (pc := 71) (a := 70) (v := .ref 92) rfl fl_X9_75 hm.1 rfl rfl ?_
          refine q_iload_n (pc := 74) (j := 3) rfl rfl ?_
          refine q_dald (pc := 75) (a := 92) (40 * u + y) rfl hm.2.2.2.2.2.2.2.2.2.2.2.2.2.2.2.2.2.2.2.2.2.2.1 (vp_in_nI (by omega) (by decide)) (nI_clamp (by omega)) ?_
          refine q_callS (pc := 76) (as := [.double (S.2.2.2 92 (40 * u + y))]) (rest := []) (st2 := [.long ((S.2.2.2 92 (40 * u + y)).toInt64)]) rfl ce_Jxe99ae_doubleToLongBits_ccdee ml_X9_314 st_Jxe99ae_doubleToLongBits_ccdee rfl (by decide) (Nat.le_of_ble_eq_true rfl) (sp_dbits (x := (S.2.2.2 92 (40 * u + y))) (dF_nn (sD_F ((hss u (by omega)).2.2 y hy).2))) rfl ?_
          refine q_goto (pc := 79) 89 rfl (by decide) ?_
          exact q_lret (pc := 89) rfl rfl (mAL_ok (by rw [oBits, if_pos (pB_t h4), tN_nI (show u < 2 ^ 31 by omega), if_pos (pB_t h20), spN, tN_nI (show u < 2 ^ 31 by omega), tN_nI (show y < 2 ^ 31 by omega), mM_at hy, mN, if_neg h44, if_pos (show (S.1 89 u) = 1 from h67)]) fm_rf)
      · refine q_aload_n (pc := 47) (j := 0) rfl rfl ?_
        refine q_get (pc := 48) (a := 70) (v := .ref 91) rfl fl_X9_72 hm.1 rfl rfl ?_
        refine q_iload_n (pc := 51) (j := 3) rfl rfl ?_
        refine q_fald (pc := 52) (a := 91) (40 * u + y) rfl hm.2.2.2.2.2.2.2.2.2.2.2.2.2.2.2.2.2.2.2.2.2.1 (vp_in_nI (by omega) (by decide)) (nI_clamp (by omega)) ?_
        refine q_callS (pc := 53) (as := [.float (S.2.1 91 (40 * u + y))]) (rest := []) (st2 := [.int ((S.2.1 91 (40 * u + y)).toInt32)]) rfl ce_Jxf58ca_floatToIntBits_5c35a ml_X9_153 st_Jxf58ca_floatToIntBits_5c35a rfl (by decide) (Nat.le_of_ble_eq_true rfl) (sp_fbits (x := (S.2.1 91 (40 * u + y))) (fF_nn (sF_F ((hss u (by omega)).2.2 y hy).1))) rfl ?_
        refine q_i2l (pc := 56) rfl ?_
        refine q_goto (pc := 57) 89 rfl (by decide) ?_
        exact q_lret (pc := 89) rfl rfl (mAL_ok (by rw [oBits, if_pos (pB_t h4), tN_nI (show u < 2 ^ 31 by omega), if_pos (pB_t h20), spN, tN_nI (show u < 2 ^ 31 by omega), tN_nI (show y < 2 ^ 31 by omega), mM_at hy, mN, if_pos (show (S.1 89 u) = 0 from h44)]) fm_rf)
    · refine q_aload_n (pc := 23) (j := 0) rfl rfl ?_
      refine q_ldcw (pc := 24) (v := (-2147483007)) rfl kc_X9_300 ?_
      refine q_callV (pc := 27) (as := [.int (-2147483007)]) (rest := []) (b := 70) (st2 := [.long (-9000000000000000000 - (nI 7).toInt64)]) rfl ce_X9_errsLong ml_X9_310 im_X9_errsLong se_X9_errsLong hm.1 rfl rfl rfl (by decide) (Nat.le_of_ble_eq_true rfl) (sp_X9_errsLong (e := 7) hm (by decide) (by decide) (by decide)) rfl ?_
      exact q_lret (pc := 30) rfl rfl (mAL_no (k := 6) (by rw [oBits, if_pos (pB_t h4), tN_nI (show u < 2 ^ 31 by omega), if_neg (show ¬ _ = true from by rw [pB_f h20]; decide)]) fm_rf)
  · refine q_aload_n (pc := 7) (j := 0) rfl rfl ?_
    refine q_ldc (pc := 8) (v := (-2147483001)) rfl kc_X9_109 ?_
    refine q_callV (pc := 10) (as := [.int (-2147483001)]) (rest := []) (b := 70) (st2 := [.long (-9000000000000000000 - (nI 1).toInt64)]) rfl ce_X9_errsLong ml_X9_310 im_X9_errsLong se_X9_errsLong hm.1 rfl rfl rfl (by decide) (Nat.le_of_ble_eq_true rfl) (sp_X9_errsLong (e := 1) hm (by decide) (by decide) (by decide)) rfl ?_
    exact q_lret (pc := 13) rfl rfl (mAL_no (k := 0) (by rw [oBits, if_neg (show ¬ _ = true from by rw [pB_f h4]; decide)]) fm_rf)
set_option maxRecDepth 100000 in
theorem sp_X9_cast {sh : List PSh} {S : PSt} (hm : isMo sh) (hss : mSs S) {s i : Int32}  : pG mX9_cast 2 [.ref 70, .int s, .int i] sh S (mA (oCast (S.1 89) (S.1 90) (mM S) s i) S S) := by
  refine pG.of [some (.ref 70), some (.int s), some (.int i), none] (by decide) tk_X9_cast (Nat.le_of_ble_eq_true rfl) rfl (fun X => ?_)
  refine q_iload_n (pc := 0) (j := 1) rfl rfl ?_
  refine q_callS (pc := 1) (as := [.int s]) (rest := []) (st2 := [.int (pB (pWi s 0 3))]) rfl ce_X9_isSheet ml_X9_301 st_X9_isSheet rfl (by decide) (Nat.le_of_ble_eq_true rfl) (sp_X9_isSheet) rfl ?_
  refine q_if_ne (pc := 4) 14 rfl (by decide) (fun h4 => ?_) (fun h4 => ?_)
  · obtain ⟨u, huu, rfl⟩ := pWi_of (m := 3) (by decide) (by decide) (pB_t h4)
    refine q_aload_n (pc := 14) (j := 0) rfl rfl ?_
    refine q_iload_n (pc := 15) (j := 1) rfl rfl ?_
    refine q_iload_n (pc := 16) (j := 2) rfl rfl ?_
    refine q_callV (pc := 17) (as := [.int (nI u), .int i]) (rest := []) (b := 70) (st2 := [.int (pB (hnB (S.1 89 u) (S.1 90 u) i))]) rfl ce_X9_isItem ml_X9_304 im_X9_isItem se_X9_isItem hm.1 rfl rfl rfl (by decide) (Nat.le_of_ble_eq_true rfl) (sp_X9_isItem (u := u) hm (by omega) hss) rfl ?_
    refine q_if_ne (pc := 20) 31 rfl (by decide) (fun h20 => ?_) (fun h20 => ?_)
    · obtain ⟨y, rfl, hy, hky⟩ := hn_of4 (hss u (by omega)).1 (pB_t h20)
      refine q_bipush (pc := 31) 40 rfl (by decide) ?_
      refine q_iload_n (pc := 33) (j := 1) rfl rfl ?_
      refine q_imul (pc := 34) rfl ?_
      refine q_iload_n (pc := 35) (j := 2) rfl rfl ?_
      refine q_iadd (pc := 36) rfl ?_
      refine q_st (st2 := [.int (nI (40 * u + y))]) (by rw [ix40]) ?_
      refine q_istore_n (pc := 37) (j := 3) [some (.ref 70), some (.int (nI u)), some (.int (nI y)), some (.int (nI (40 * u + y)))] rfl (by decide) rfl ?_
      refine q_aload_n (pc := 38) (j := 0) rfl rfl ?_
      refine q_get (pc := 39) (a := 70) (v := .ref 89) rfl fl_X9_66 hm.1 rfl rfl ?_
      refine q_iload_n (pc := 42) (j := 1) rfl rfl ?_
      refine q_iald (pc := 43) (a := 89) u rfl hm.2.2.2.2.2.2.2.2.2.2.2.2.2.2.2.2.2.2.2.1 (vp_in_nI (by omega) (by decide)) (nI_clamp (by omega)) ?_
      refine q_if_ne (pc := 44) 57 rfl (by decide) (fun h44 => ?_) (fun h44 => ?_)
      · refine q_aload_n (pc := 57) (j := 0) rfl rfl ?_
        refine q_get (pc := 58) (a := 70) (v := .ref 89) rfl fl_X9_66 hm.1 rfl rfl ?_
        refine q_iload_n (pc := 61) (j := 1) rfl rfl ?_
        refine q_iald (pc := 62) (a := 89) u rfl hm.2.2.2.2.2.2.2.2.2.2.2.2.2.2.2.2.2.2.2.1 (vp_in_nI (by omega) (by decide)) (nI_clamp (by omega)) ?_
        refine q_iconst (pc := 63) 1 rfl (by decide) ?_
        refine q_icmp_ne (pc := 64) 77 rfl (by decide) (fun h64 => ?_) (fun h64 => ?_)
        · refine q_aload_n (pc := 77) (j := 0) rfl rfl ?_
          refine q_get (pc := 78) (a := 70) (v := .ref 93) rfl fl_X9_79 hm.1 rfl rfl ?_
          refine q_iload_n (pc := 81) (j := 3) rfl rfl ?_
          refine q_iald (pc := 82) (a := 93) (40 * u + y) rfl hm.2.2.2.2.2.2.2.2.2.2.2.2.2.2.2.2.2.2.2.2.2.2.2 (vp_in_nI (by omega) (by decide)) (nI_clamp (by omega)) ?_
          exact q_iret (pc := 83) rfl rfl (mA_ok (by rw [oCast, if_pos (pB_t h4), tN_nI (show u < 2 ^ 31 by omega), if_pos (pB_t h20), spN, tN_nI (show u < 2 ^ 31 by omega), tN_nI (show y < 2 ^ 31 by omega), mM_at hy, casV, if_neg h44, if_neg h64, mN, if_neg h44, if_neg h64, Int32.toInt32_toInt64]) fm_rf)
        · refine q_aload_n (pc := 67) (j := 0) rfl rfl ?_
          refine q_get (pc := 68) (a := 70) (v := .ref 92) rfl fl_X9_75 hm.1 rfl rfl ?_
          refine q_iload_n (pc := 71) (j := 3) rfl rfl ?_
          refine q_dald (pc := 72) (a := 92) (40 * u + y) rfl hm.2.2.2.2.2.2.2.2.2.2.2.2.2.2.2.2.2.2.2.2.2.2.1 (vp_in_nI (by omega) (by decide)) (nI_clamp (by omega)) ?_
          refine q_d2i (pc := 73) rfl ?_
          refine q_goto (pc := 74) 83 rfl (by decide) ?_
          exact q_iret (pc := 83) rfl rfl (mA_ok (by rw [oCast, if_pos (pB_t h4), tN_nI (show u < 2 ^ 31 by omega), if_pos (pB_t h20), spN, tN_nI (show u < 2 ^ 31 by omega), tN_nI (show y < 2 ^ 31 by omega), mM_at hy, casV, if_neg h44, if_pos (show (S.1 89 u) = 1 from h64), mN, if_neg h44, if_pos (show (S.1 89 u) = 1 from h64), (ai64 ((hss u (by omega)).2.2 y hy).2).2.2]) fm_rf)
      · refine q_aload_n (pc := 47) (j := 0) rfl rfl ?_
        refine q_get (pc := 48) (a := 70) (v := .ref 91) rfl fl_X9_72 hm.1 rfl rfl ?_
        refine q_iload_n (pc := 51) (j := 3) rfl rfl ?_
        refine q_fald (pc := 52) (a := 91) (40 * u + y) rfl hm.2.2.2.2.2.2.2.2.2.2.2.2.2.2.2.2.2.2.2.2.2.1 (vp_in_nI (by omega) (by decide)) (nI_clamp (by omega)) ?_
        refine q_f2i (pc := 53) rfl ?_
        refine q_goto (pc := 54) 83 rfl (by decide) ?_
        exact q_iret (pc := 83) rfl rfl (mA_ok (by rw [oCast, if_pos (pB_t h4), tN_nI (show u < 2 ^ 31 by omega), if_pos (pB_t h20), spN, tN_nI (show u < 2 ^ 31 by omega), tN_nI (show y < 2 ^ 31 by omega), mM_at hy, casV, if_pos (show (S.1 89 u) = 0 from h44), mN, if_pos (show (S.1 89 u) = 0 from h44), (ai32 ((hss u (by omega)).2.2 y hy).1).2.2]) fm_rf)
    · refine q_aload_n (pc := 23) (j := 0) rfl rfl ?_
      refine q_ldcw (pc := 24) (v := (-2147483007)) rfl kc_X9_300 ?_
      refine q_callV (pc := 27) (as := [.int (-2147483007)]) (rest := []) (b := 70) (st2 := [.int (-2147483000 - nI 7)]) rfl ce_X9_errs ml_X9_110 im_X9_errs se_X9_errs hm.1 rfl rfl rfl (by decide) (Nat.le_of_ble_eq_true rfl) (sp_X9_errs (e := 7) hm (by decide) (by decide)) rfl ?_
      exact q_iret (pc := 30) rfl rfl (mA_no (k := 6) (by rw [oCast, if_pos (pB_t h4), tN_nI (show u < 2 ^ 31 by omega), if_neg (show ¬ _ = true from by rw [pB_f h20]; decide)]) fm_rf)
  · refine q_aload_n (pc := 7) (j := 0) rfl rfl ?_
    refine q_ldc (pc := 8) (v := (-2147483001)) rfl kc_X9_109 ?_
    refine q_callV (pc := 10) (as := [.int (-2147483001)]) (rest := []) (b := 70) (st2 := [.int (-2147483000 - nI 1)]) rfl ce_X9_errs ml_X9_110 im_X9_errs se_X9_errs hm.1 rfl rfl rfl (by decide) (Nat.le_of_ble_eq_true rfl) (sp_X9_errs (e := 1) hm (by decide) (by decide)) rfl ?_
    exact q_iret (pc := 13) rfl rfl (mA_no (k := 0) (by rw [oCast, if_neg (show ¬ _ = true from by rw [pB_f h4]; decide)]) fm_rf)
set_option maxRecDepth 100000 in
theorem sp_X9_isNought {sh : List PSh} {S : PSt} (hm : isMo sh) {u : Nat} (hu : u < 4) {y : Nat} (hy : y < 40) (hss : mSs S) : pF mX9_isNought 0 [.ref 70, .int (nI u), .int (nI (40 * u + y))] sh S S (some (.int (pB (nouV (S.1 89 u) (mM S (40 * u + y)))))) := by
  refine pF.of (pG.of [some (.ref 70), some (.int (nI u)), some (.int (nI (40 * u + y)))] (by decide) tk_X9_isNought (Nat.le_of_ble_eq_true rfl) rfl (fun X => ?_))
  refine q_aload_n (pc := 0) (j := 0) rfl rfl ?_
  refine q_get (pc := 1) (a := 70) (v := .ref 89) rfl fl_X9_66 hm.1 rfl rfl ?_
  refine q_iload_n (pc := 4) (j := 1) rfl rfl ?_
  refine q_iald (pc := 5) (a := 89) u rfl hm.2.2.2.2.2.2.2.2.2.2.2.2.2.2.2.2.2.2.2.1 (vp_in_nI (by omega) (by decide)) (nI_clamp (by omega)) ?_
  refine q_if_ne (pc := 6) 28 rfl (by decide) (fun h6 => ?_) (fun h6 => ?_)
  · refine q_aload_n (pc := 28) (j := 0) rfl rfl ?_
    refine q_get (pc := 29) (a := 70) (v := .ref 89) rfl fl_X9_66 hm.1 rfl rfl ?_
    refine q_iload_n (pc := 32) (j := 1) rfl rfl ?_
    refine q_iald (pc := 33) (a := 89) u rfl hm.2.2.2.2.2.2.2.2.2.2.2.2.2.2.2.2.2.2.2.1 (vp_in_nI (by omega) (by decide)) (nI_clamp (by omega)) ?_
    refine q_iconst (pc := 34) 1 rfl (by decide) ?_
    refine q_icmp_ne (pc := 35) 57 rfl (by decide) (fun h35 => ?_) (fun h35 => ?_)
    · refine q_aload_n (pc := 57) (j := 0) rfl rfl ?_
      refine q_get (pc := 58) (a := 70) (v := .ref 93) rfl fl_X9_79 hm.1 rfl rfl ?_
      refine q_iload_n (pc := 61) (j := 2) rfl rfl ?_
      refine q_iald (pc := 62) (a := 93) (40 * u + y) rfl hm.2.2.2.2.2.2.2.2.2.2.2.2.2.2.2.2.2.2.2.2.2.2.2 (vp_in_nI (by omega) (by decide)) (nI_clamp (by omega)) ?_
      refine q_if_ne (pc := 63) 70 rfl (by decide) (fun h63 => ?_) (fun h63 => ?_)
      · refine q_iconst (pc := 70) 0 rfl (by decide) ?_
        exact q_zret (pc := 71) rfl rfl rfl ⟨congrArg (fun v => some (Value.int v)) (by rw [mM_at hy, nou_m ((hss u hu).2.2 y hy).1 ((hss u hu).2.2 y hy).2, if_neg h6, if_neg h35, decide_eq_false (h63)]; rfl), rfl⟩
      · refine q_iconst (pc := 66) 1 rfl (by decide) ?_
        refine q_goto (pc := 67) 71 rfl (by decide) ?_
        exact q_zret (pc := 71) rfl rfl rfl ⟨congrArg (fun v => some (Value.int v)) (by rw [mM_at hy, nou_m ((hss u hu).2.2 y hy).1 ((hss u hu).2.2 y hy).2, if_neg h6, if_neg h35, decide_eq_true (h63)]; rfl), rfl⟩
    · refine q_aload_n (pc := 38) (j := 0) rfl rfl ?_
      refine q_get (pc := 39) (a := 70) (v := .ref 92) rfl fl_X9_75 hm.1 rfl rfl ?_
      refine q_iload_n (pc := 42) (j := 2) rfl rfl ?_
      refine q_dald (pc := 43) (a := 92) (40 * u + y) rfl hm.2.2.2.2.2.2.2.2.2.2.2.2.2.2.2.2.2.2.2.2.2.2.1 (vp_in_nI (by omega) (by decide)) (nI_clamp (by omega)) ?_
      refine q_dconst0 (pc := 44) rfl ?_
      refine q_dcmp (pc := 45) (op := .l) rfl ?_
      refine q_if_ne (pc := 46) 53 rfl (by decide) (fun h46 => ?_) (fun h46 => ?_)
      · refine q_iconst (pc := 53) 0 rfl (by decide) ?_
        refine q_goto (pc := 54) 71 rfl (by decide) ?_
        exact q_zret (pc := 71) rfl rfl rfl ⟨congrArg (fun v => some (Value.int v)) (by rw [mM_at hy, nou_m ((hss u hu).2.2 y hy).1 ((hss u hu).2.2 y hy).2, if_neg h6, if_pos (show (S.1 89 u) = 1 from h35), decide_eq_false (fun q9 => h46 ((deq_iff0 (sD_F ((hss u hu).2.2 y hy).2)).mpr q9))]; rfl), rfl⟩
      · refine q_iconst (pc := 49) 1 rfl (by decide) ?_
        refine q_goto (pc := 50) 71 rfl (by decide) ?_
        exact q_zret (pc := 71) rfl rfl rfl ⟨congrArg (fun v => some (Value.int v)) (by rw [mM_at hy, nou_m ((hss u hu).2.2 y hy).1 ((hss u hu).2.2 y hy).2, if_neg h6, if_pos (show (S.1 89 u) = 1 from h35), decide_eq_true ((deq_iff0 (sD_F ((hss u hu).2.2 y hy).2)).mp h46)]; rfl), rfl⟩
  · refine q_aload_n (pc := 9) (j := 0) rfl rfl ?_
    refine q_get (pc := 10) (a := 70) (v := .ref 91) rfl fl_X9_72 hm.1 rfl rfl ?_
    refine q_iload_n (pc := 13) (j := 2) rfl rfl ?_
    refine q_fald (pc := 14) (a := 91) (40 * u + y) rfl hm.2.2.2.2.2.2.2.2.2.2.2.2.2.2.2.2.2.2.2.2.2.1 (vp_in_nI (by omega) (by decide)) (nI_clamp (by omega)) ?_
    refine q_fconst0 (pc := 15) rfl ?_
    refine q_fcmp (pc := 16) (op := .l) rfl ?_
    refine q_if_ne (pc := 17) 24 rfl (by decide) (fun h17 => ?_) (fun h17 => ?_)
    · refine q_iconst (pc := 24) 0 rfl (by decide) ?_
      refine q_goto (pc := 25) 71 rfl (by decide) ?_
      exact q_zret (pc := 71) rfl rfl rfl ⟨congrArg (fun v => some (Value.int v)) (by rw [mM_at hy, nou_m ((hss u hu).2.2 y hy).1 ((hss u hu).2.2 y hy).2, if_pos (show (S.1 89 u) = 0 from h6), decide_eq_false (fun q9 => h17 ((feq_iff (sF_F ((hss u hu).2.2 y hy).1)).mpr q9))]; rfl), rfl⟩
    · refine q_iconst (pc := 20) 1 rfl (by decide) ?_
      refine q_goto (pc := 21) 71 rfl (by decide) ?_
      exact q_zret (pc := 71) rfl rfl rfl ⟨congrArg (fun v => some (Value.int v)) (by rw [mM_at hy, nou_m ((hss u hu).2.2 y hy).1 ((hss u hu).2.2 y hy).2, if_pos (show (S.1 89 u) = 0 from h6), decide_eq_true ((feq_iff (sF_F ((hss u hu).2.2 y hy).1)).mp h17)]; rfl), rfl⟩
def resU (S : PSt) (q : Int32) (n m : Nat) : PSt := if q = 0 then pSF S 91 n (FP.frem (S.2.1 91 n) (S.2.1 91 m)) else if q = 1 then pSD S 92 n (FP.drem (S.2.2.2 92 n) (S.2.2.2 92 m)) else pSI S 93 n (S.1 93 n - S.1 93 n / S.1 93 m * S.1 93 m)
theorem nou_0 {S : PSt} {q : Int32} {n : Nat} (h1 : sF (S.2.1 91 n)) (h2 : sD (S.2.2.2 92 n)) (h : nouV q (mN q S n) = false) : (q = 0 → (fz (S.2.1 91 n)).natAbs ≠ 0) ∧ (q ≠ 0 → q = 1 → (dz (S.2.2.2 92 n)).natAbs ≠ 0) ∧ (q ≠ 0 → q ≠ 1 → S.1 93 n ≠ 0) := by
  rw [nou_m h1 h2] at h
  refine ⟨fun e => ?_, fun e0 e => ?_, fun e0 e => ?_⟩
  · rw [if_pos e] at h; exact of_decide_eq_false h
  · rw [if_neg e0, if_pos e] at h; exact of_decide_eq_false h
  · rw [if_neg e0, if_neg e] at h; exact of_decide_eq_false h
set_option maxRecDepth 100000 in
theorem sp_X9_rest {sh : List PSh} {S : PSt} (hm : isMo sh) (hss : mSs S) {s i j : Int32}  : pG mX9_rest 2 [.ref 70, .int s, .int i, .int j] sh S (mA (oRest (S.1 89) (S.1 90) (mM S) s i j) S (resU S (S.1 89 (tN s)) (spN s i) (spN s j))) := by
  refine pG.of [some (.ref 70), some (.int s), some (.int i), some (.int j), none, none] (by decide) tk_X9_rest (Nat.le_of_ble_eq_true rfl) rfl (fun X => ?_)
  refine q_iload_n (pc := 0) (j := 1) rfl rfl ?_
  refine q_callS (pc := 1) (as := [.int s]) (rest := []) (st2 := [.int (pB (pWi s 0 3))]) rfl ce_X9_isSheet ml_X9_301 st_X9_isSheet rfl (by decide) (Nat.le_of_ble_eq_true rfl) (sp_X9_isSheet) rfl ?_
  refine q_if_ne (pc := 4) 14 rfl (by decide) (fun h4 => ?_) (fun h4 => ?_)
  · obtain ⟨u, huu, rfl⟩ := pWi_of (m := 3) (by decide) (by decide) (pB_t h4)
    refine q_aload_n (pc := 14) (j := 0) rfl rfl ?_
    refine q_iload_n (pc := 15) (j := 1) rfl rfl ?_
    refine q_iload_n (pc := 16) (j := 2) rfl rfl ?_
    refine q_callV (pc := 17) (as := [.int (nI u), .int i]) (rest := []) (b := 70) (st2 := [.int (pB (hnB (S.1 89 u) (S.1 90 u) i))]) rfl ce_X9_isItem ml_X9_304 im_X9_isItem se_X9_isItem hm.1 rfl rfl rfl (by decide) (Nat.le_of_ble_eq_true rfl) (sp_X9_isItem (u := u) hm (by omega) hss) rfl ?_
    refine q_if_eq (pc := 20) 32 rfl (by decide) (fun h20 => ?_) (fun h20 => ?_)
    · refine q_aload_n (pc := 32) (j := 0) rfl rfl ?_
      refine q_ldcw (pc := 33) (v := (-2147483007)) rfl kc_X9_300 ?_
      refine q_callV (pc := 36) (as := [.int (-2147483007)]) (rest := []) (b := 70) (st2 := [.int (-2147483000 - nI 7)]) rfl ce_X9_errs ml_X9_110 im_X9_errs se_X9_errs hm.1 rfl rfl rfl (by decide) (Nat.le_of_ble_eq_true rfl) (sp_X9_errs (e := 7) hm (by decide) (by decide)) rfl ?_
      exact q_iret (pc := 39) rfl rfl (mA_no (k := 6) (by rw [oRest, if_pos (pB_t h4), tN_nI (show u < 2 ^ 31 by omega), if_neg (show ¬ _ = true from by rw [pB_f h20]; decide)]) fm_rf)
    · refine q_aload_n (pc := 23) (j := 0) rfl rfl ?_
      refine q_iload_n (pc := 24) (j := 1) rfl rfl ?_
      refine q_iload_n (pc := 25) (j := 3) rfl rfl ?_
      refine q_callV (pc := 26) (as := [.int (nI u), .int j]) (rest := []) (b := 70) (st2 := [.int (pB (hnB (S.1 89 u) (S.1 90 u) j))]) rfl ce_X9_isItem ml_X9_304 im_X9_isItem se_X9_isItem hm.1 rfl rfl rfl (by decide) (Nat.le_of_ble_eq_true rfl) (sp_X9_isItem (u := u) hm (by omega) hss) rfl ?_
      refine q_if_ne (pc := 29) 40 rfl (by decide) (fun h29 => ?_) (fun h29 => ?_)
      · obtain ⟨y, rfl, hy, hky⟩ := hn_of4 (hss u (by omega)).1 (pB_t h20); obtain ⟨z, rfl, hz, hkz⟩ := hn_of4 (hss u (by omega)).1 (pB_t h29)
        refine q_bipush (pc := 40) 40 rfl (by decide) ?_
        refine q_iload_n (pc := 42) (j := 1) rfl rfl ?_
        refine q_imul (pc := 43) rfl ?_
        refine q_iload_n (pc := 44) (j := 2) rfl rfl ?_
        refine q_iadd (pc := 45) rfl ?_
        refine q_st (st2 := [.int (nI (40 * u + y))]) (by rw [ix40]) ?_
        refine q_istore (pc := 46) (j := 4) [some (.ref 70), some (.int (nI u)), some (.int (nI y)), some (.int (nI z)), some (.int (nI (40 * u + y))), none] rfl (by decide) rfl ?_
        refine q_bipush (pc := 48) 40 rfl (by decide) ?_
        refine q_iload_n (pc := 50) (j := 1) rfl rfl ?_
        refine q_imul (pc := 51) rfl ?_
        refine q_iload_n (pc := 52) (j := 3) rfl rfl ?_
        refine q_iadd (pc := 53) rfl ?_
        refine q_st (st2 := [.int (nI (40 * u + z))]) (by rw [ix40]) ?_
        refine q_istore (pc := 54) (j := 5) [some (.ref 70), some (.int (nI u)), some (.int (nI y)), some (.int (nI z)), some (.int (nI (40 * u + y))), some (.int (nI (40 * u + z)))] rfl (by decide) rfl ?_
        refine q_aload_n (pc := 56) (j := 0) rfl rfl ?_
        refine q_iload_n (pc := 57) (j := 1) rfl rfl ?_
        refine q_iload (pc := 58) (j := 5) rfl rfl ?_
        refine q_callV (pc := 60) (as := [.int (nI u), .int (nI (40 * u + z))]) (rest := []) (b := 70) (st2 := [.int (pB (nouV (S.1 89 u) (mM S (40 * u + z))))]) rfl ce_X9_isNought ml_X9_320 im_X9_isNought se_X9_isNought hm.1 rfl rfl rfl (by decide) (Nat.le_of_ble_eq_true rfl) (sp_X9_isNought (u := u) (y := z) hm (by omega) (by omega) hss) rfl ?_
        refine q_if_eq (pc := 63) 74 rfl (by decide) (fun h63 => ?_) (fun h63 => ?_)
        · have hsz := (hss u (by omega)).2.2 z hz; have hsy := (hss u (by omega)).2.2 y hy; have hn9 := nou_0 hsz.1 hsz.2 (by rw [← mM_at hz]; exact pB_f h63)
          refine q_aload_n (pc := 74) (j := 0) rfl rfl ?_
          refine q_get (pc := 75) (a := 70) (v := .ref 89) rfl fl_X9_66 hm.1 rfl rfl ?_
          refine q_iload_n (pc := 78) (j := 1) rfl rfl ?_
          refine q_iald (pc := 79) (a := 89) u rfl hm.2.2.2.2.2.2.2.2.2.2.2.2.2.2.2.2.2.2.2.1 (vp_in_nI (by omega) (by decide)) (nI_clamp (by omega)) ?_
          refine q_if_ne (pc := 80) 108 rfl (by decide) (fun h80 => ?_) (fun h80 => ?_)
          · refine q_aload_n (pc := 108) (j := 0) rfl rfl ?_
            refine q_get (pc := 109) (a := 70) (v := .ref 89) rfl fl_X9_66 hm.1 rfl rfl ?_
            refine q_iload_n (pc := 112) (j := 1) rfl rfl ?_
            refine q_iald (pc := 113) (a := 89) u rfl hm.2.2.2.2.2.2.2.2.2.2.2.2.2.2.2.2.2.2.2.1 (vp_in_nI (by omega) (by decide)) (nI_clamp (by omega)) ?_
            refine q_iconst (pc := 114) 1 rfl (by decide) ?_
            refine q_icmp_ne (pc := 115) 143 rfl (by decide) (fun h115 => ?_) (fun h115 => ?_)
            · refine q_aload_n (pc := 143) (j := 0) rfl rfl ?_
              refine q_get (pc := 144) (a := 70) (v := .ref 93) rfl fl_X9_79 hm.1 rfl rfl ?_
              refine q_iload (pc := 147) (j := 4) rfl rfl ?_
              refine q_aload_n (pc := 149) (j := 0) rfl rfl ?_
              refine q_get (pc := 150) (a := 70) (v := .ref 93) rfl fl_X9_79 hm.1 rfl rfl ?_
              refine q_iload (pc := 153) (j := 4) rfl rfl ?_
              refine q_iald (pc := 155) (a := 93) (40 * u + y) rfl hm.2.2.2.2.2.2.2.2.2.2.2.2.2.2.2.2.2.2.2.2.2.2.2 (vp_in_nI (by omega) (by decide)) (nI_clamp (by omega)) ?_
              refine q_aload_n (pc := 156) (j := 0) rfl rfl ?_
              refine q_get (pc := 157) (a := 70) (v := .ref 93) rfl fl_X9_79 hm.1 rfl rfl ?_
              refine q_iload (pc := 160) (j := 5) rfl rfl ?_
              refine q_iald (pc := 162) (a := 93) (40 * u + z) rfl hm.2.2.2.2.2.2.2.2.2.2.2.2.2.2.2.2.2.2.2.2.2.2.2 (vp_in_nI (by omega) (by decide)) (nI_clamp (by omega)) ?_
              refine q_irem (pc := 163) rfl (hn9.2.2 h80 h115) ?_
              refine q_iast (pc := 164) (a := 93) (40 * u + y) rfl hm.2.2.2.2.2.2.2.2.2.2.2.2.2.2.2.2.2.2.2.2.2.2.2 (vp_in_nI (by omega) (by decide)) (nI_clamp (by omega)) ?_
              refine q_iconst (pc := 165) 1 rfl (by decide) ?_
              exact q_iret (pc := 166) rfl rfl (mA_ok (by rw [oRest, if_pos (pB_t h4), tN_nI (show u < 2 ^ 31 by omega), if_pos (pB_t h20), if_pos (pB_t h29), spN, tN_nI (show u < 2 ^ 31 by omega), tN_nI (show z < 2 ^ 31 by omega), if_neg (show ¬ _ = true from by rw [pB_f h63]; decide)]) (by rw [spN, spN, tN_nI (show u < 2 ^ 31 by omega), tN_nI (show y < 2 ^ 31 by omega), tN_nI (show z < 2 ^ 31 by omega), resU, if_neg h80, if_neg h115]; exact fm_rf))
            · refine q_aload_n (pc := 118) (j := 0) rfl rfl ?_
              refine q_get (pc := 119) (a := 70) (v := .ref 92) rfl fl_X9_75 hm.1 rfl rfl ?_
              refine q_iload (pc := 122) (j := 4) rfl rfl ?_
              refine q_aload_n (pc := 124) (j := 0) rfl rfl ?_
              refine q_get (pc := 125) (a := 70) (v := .ref 92) rfl fl_X9_75 hm.1 rfl rfl ?_
              refine q_iload (pc := 128) (j := 4) rfl rfl ?_
              refine q_dald (pc := 130) (a := 92) (40 * u + y) rfl hm.2.2.2.2.2.2.2.2.2.2.2.2.2.2.2.2.2.2.2.2.2.2.1 (vp_in_nI (by omega) (by decide)) (nI_clamp (by omega)) ?_
              refine q_aload_n (pc := 131) (j := 0) rfl rfl ?_
              refine q_get (pc := 132) (a := 70) (v := .ref 92) rfl fl_X9_75 hm.1 rfl rfl ?_
              refine q_iload (pc := 135) (j := 5) rfl rfl ?_
              refine q_dald (pc := 137) (a := 92) (40 * u + z) rfl hm.2.2.2.2.2.2.2.2.2.2.2.2.2.2.2.2.2.2.2.2.2.2.1 (vp_in_nI (by omega) (by decide)) (nI_clamp (by omega)) ?_
              refine q_drem (pc := 138) rfl (rd64 hsy.2 hsz.2 (hn9.2.1 h80 h115)).2.2.2 ?_
              refine q_dast (pc := 139) (a := 92) (40 * u + y) rfl hm.2.2.2.2.2.2.2.2.2.2.2.2.2.2.2.2.2.2.2.2.2.2.1 (vp_in_nI (by omega) (by decide)) (nI_clamp (by omega)) ?_
              refine q_goto (pc := 140) 165 rfl (by decide) ?_
              refine q_iconst (pc := 165) 1 rfl (by decide) ?_
              exact q_iret (pc := 166) rfl rfl (mA_ok (by rw [oRest, if_pos (pB_t h4), tN_nI (show u < 2 ^ 31 by omega), if_pos (pB_t h20), if_pos (pB_t h29), spN, tN_nI (show u < 2 ^ 31 by omega), tN_nI (show z < 2 ^ 31 by omega), if_neg (show ¬ _ = true from by rw [pB_f h63]; decide)]) (by rw [spN, spN, tN_nI (show u < 2 ^ 31 by omega), tN_nI (show y < 2 ^ 31 by omega), tN_nI (show z < 2 ^ 31 by omega), resU, if_neg h80, if_pos (show (S.1 89 u) = 1 from h115)]; exact fm_rf))
          · refine q_aload_n (pc := 83) (j := 0) rfl rfl ?_
            refine q_get (pc := 84) (a := 70) (v := .ref 91) rfl fl_X9_72 hm.1 rfl rfl ?_
            refine q_iload (pc := 87) (j := 4) rfl rfl ?_
            refine q_aload_n (pc := 89) (j := 0) rfl rfl ?_
            refine q_get (pc := 90) (a := 70) (v := .ref 91) rfl fl_X9_72 hm.1 rfl rfl ?_
            refine q_iload (pc := 93) (j := 4) rfl rfl ?_
            refine q_fald (pc := 95) (a := 91) (40 * u + y) rfl hm.2.2.2.2.2.2.2.2.2.2.2.2.2.2.2.2.2.2.2.2.2.1 (vp_in_nI (by omega) (by decide)) (nI_clamp (by omega)) ?_
            refine q_aload_n (pc := 96) (j := 0) rfl rfl ?_
            refine q_get (pc := 97) (a := 70) (v := .ref 91) rfl fl_X9_72 hm.1 rfl rfl ?_
            refine q_iload (pc := 100) (j := 5) rfl rfl ?_
            refine q_fald (pc := 102) (a := 91) (40 * u + z) rfl hm.2.2.2.2.2.2.2.2.2.2.2.2.2.2.2.2.2.2.2.2.2.1 (vp_in_nI (by omega) (by decide)) (nI_clamp (by omega)) ?_
            refine q_frem (pc := 103) rfl (rd32 hsy.1 hsz.1 (hn9.1 h80)).2.2.2 ?_
            refine q_fast (pc := 104) (a := 91) (40 * u + y) rfl hm.2.2.2.2.2.2.2.2.2.2.2.2.2.2.2.2.2.2.2.2.2.1 (vp_in_nI (by omega) (by decide)) (nI_clamp (by omega)) ?_
            refine q_goto (pc := 105) 165 rfl (by decide) ?_
            refine q_iconst (pc := 165) 1 rfl (by decide) ?_
            exact q_iret (pc := 166) rfl rfl (mA_ok (by rw [oRest, if_pos (pB_t h4), tN_nI (show u < 2 ^ 31 by omega), if_pos (pB_t h20), if_pos (pB_t h29), spN, tN_nI (show u < 2 ^ 31 by omega), tN_nI (show z < 2 ^ 31 by omega), if_neg (show ¬ _ = true from by rw [pB_f h63]; decide)]) (by rw [spN, spN, tN_nI (show u < 2 ^ 31 by omega), tN_nI (show y < 2 ^ 31 by omega), tN_nI (show z < 2 ^ 31 by omega), resU, if_pos (show (S.1 89 u) = 0 from h80)]; exact fm_rf))
        · refine q_aload_n (pc := 66) (j := 0) rfl rfl ?_
          refine q_ldcw (pc := 67) (v := (-2147483006)) rfl kc_X9_323 ?_
          refine q_callV (pc := 70) (as := [.int (-2147483006)]) (rest := []) (b := 70) (st2 := [.int (-2147483000 - nI 6)]) rfl ce_X9_errs ml_X9_110 im_X9_errs se_X9_errs hm.1 rfl rfl rfl (by decide) (Nat.le_of_ble_eq_true rfl) (sp_X9_errs (e := 6) hm (by decide) (by decide)) rfl ?_
          exact q_iret (pc := 73) rfl rfl (mA_no (k := 5) (by rw [oRest, if_pos (pB_t h4), tN_nI (show u < 2 ^ 31 by omega), if_pos (pB_t h20), if_pos (pB_t h29), spN, tN_nI (show u < 2 ^ 31 by omega), tN_nI (show z < 2 ^ 31 by omega), if_pos (pB_t h63)]) fm_rf)
      · refine q_aload_n (pc := 32) (j := 0) rfl rfl ?_
        refine q_ldcw (pc := 33) (v := (-2147483007)) rfl kc_X9_300 ?_
        refine q_callV (pc := 36) (as := [.int (-2147483007)]) (rest := []) (b := 70) (st2 := [.int (-2147483000 - nI 7)]) rfl ce_X9_errs ml_X9_110 im_X9_errs se_X9_errs hm.1 rfl rfl rfl (by decide) (Nat.le_of_ble_eq_true rfl) (sp_X9_errs (e := 7) hm (by decide) (by decide)) rfl ?_
        exact q_iret (pc := 39) rfl rfl (mA_no (k := 6) (by rw [oRest, if_pos (pB_t h4), tN_nI (show u < 2 ^ 31 by omega), if_pos (pB_t h20), if_neg (show ¬ _ = true from by rw [pB_f h29]; decide)]) fm_rf)
  · refine q_aload_n (pc := 7) (j := 0) rfl rfl ?_
    refine q_ldc (pc := 8) (v := (-2147483001)) rfl kc_X9_109 ?_
    refine q_callV (pc := 10) (as := [.int (-2147483001)]) (rest := []) (b := 70) (st2 := [.int (-2147483000 - nI 1)]) rfl ce_X9_errs ml_X9_110 im_X9_errs se_X9_errs hm.1 rfl rfl rfl (by decide) (Nat.le_of_ble_eq_true rfl) (sp_X9_errs (e := 1) hm (by decide) (by decide)) rfl ?_
    exact q_iret (pc := 13) rfl rfl (mA_no (k := 0) (by rw [oRest, if_neg (show ¬ _ = true from by rw [pB_f h4]; decide)]) fm_rf)
