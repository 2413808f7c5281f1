/-! Point: written by wip/whole/gen/c20.py -/
abbrev d2c : UInt64 := 4611686018427387904
def dge (x y : UInt64) : Bool := decide (0 ≤ Op.cmpValue (FP.dcmp x y) .l)
def dlt (x y : UInt64) : Bool := decide (Op.cmpValue (FP.dcmp x y) .g < 0)
/-- halved till it is below lo2 -/
def dnF (lo2 : UInt64) : Nat → UInt64 → Int32 → UInt64 × Int32
  | 0, s, e => (s, e)
  | k + 1, s, e => if dge s lo2 = true then dnF lo2 k (FP.ddiv s d2c) (e + 1) else (s, e)
/-- doubled till it is not below lo -/
def upF (lo : UInt64) : Nat → UInt64 → Int32 → UInt64 × Int32
  | 0, s, e => (s, e)
  | k + 1, s, e => if dlt s lo = true then upF lo k (FP.dmul s d2c) (e + (-1)) else (s, e)
def okDn (lo2 : UInt64) : Nat → UInt64 → Prop
  | 0, _ => True
  | k + 1, s => dge s lo2 = true → vf_n64 (FP.ddiv s d2c) ∧ okDn lo2 k (FP.ddiv s d2c)
def okUp (lo : UInt64) : Nat → UInt64 → Prop
  | 0, _ => True
  | k + 1, s => dlt s lo = true → vf_n64 (FP.dmul s d2c) ∧ okUp lo k (FP.dmul s d2c)
theorem p_hid0 : (1 : Int64) <<< ((23 : Int32).toInt64 &&& 63) = 8388608 := by decide
theorem p_hid1 : (1 : Int64) <<< ((52 : Int32).toInt64 &&& 63) = 4503599627370496 := by decide
/-- by the sort: fraction bits, hidden bit, bias, sign bit -/
def pFb (s : Nat) : Int32 := if s = 0 then 23 else 52
def pHid (s : Nat) : Int64 := if s = 0 then 8388608 else 4503599627370496
def pBi (s : Nat) : Int32 := if s = 0 then 127 else 1023
def pSb (s : Nat) : Int64 := if s = 0 then 2147483648 else -9223372036854775808
def wsF (s : Nat) (b : Int64) (g : Bool) : Int64 := if g = true then (if s = 0 then (b ||| pSb s).toInt32.toInt64 else b ||| pSb s) else b
def absD (x : UInt64) : UInt64 := if dlt x FP.dconst0 = true then FP.dneg x else x
def enU (s : Nat) (x : UInt64) : UInt64 × Int32 := upF (FP.l2d (pHid s)) 1100 (dnF (FP.dmul (FP.l2d (pHid s)) d2c) 1100 (absD x) (pFb s)).1 (dnF (FP.dmul (FP.l2d (pHid s)) d2c) 1100 (absD x) (pFb s)).2
/-- BITS of x by its sort -/
def enF (s : Nat) (x : UInt64) : Int64 :=
  if Op.cmpValue (FP.dcmp x FP.dconst0) .l = 0 then 0
  else wsF s (((enU s x).2 + pBi s).toInt64 <<< ((pFb s).toInt64 &&& 63) + (FP.d2l (enU s x).1 - pHid s)) (dlt x FP.dconst0)
def okEn (s : Nat) (x : UInt64) : Prop := ¬ Op.cmpValue (FP.dcmp x FP.dconst0) .l = 0 → vf_n64 (FP.dmul (FP.l2d (pHid s)) d2c) ∧ okDn (FP.dmul (FP.l2d (pHid s)) d2c) 1100 (absD x) ∧ okUp (FP.l2d (pHid s)) 1100 (dnF (FP.dmul (FP.l2d (pHid s)) d2c) 1100 (absD x) (pFb s)).1

set_option maxRecDepth 100000 in
theorem sp_X2_fractionBits0 {sh : List PSh} {S : PSt}  : pF mX2_fractionBits 0 [.int 0] sh S S (some (.int 23)) := by
  refine pF.of (pG.of [some (.int 0)] (by decide) tk_X2_fractionBits (Nat.le_of_ble_eq_true rfl) rfl (fun X => ?_))
  refine q_iload_n (pc := 0) (j := 0) rfl rfl ?_
  refine q_if_ne (pc := 1) 9 rfl (by decide) (fun h9 => absurd h9 (by decide : ¬ ¬ (0 : Int32) = 0)) (fun _ => ?_)
  refine q_bipush (pc := 4) 23 rfl (by decide) ?_
  refine q_goto (pc := 6) 11 rfl (by decide) ?_
  exact q_iret (pc := 11) rfl rfl ⟨rfl, rfl⟩
set_option maxRecDepth 100000 in
theorem sp_X2_bias0 {sh : List PSh} {S : PSt}  : pF mX2_bias 0 [.int 0] sh S S (some (.int 127)) := by
  refine pF.of (pG.of [some (.int 0)] (by decide) tk_X2_bias (Nat.le_of_ble_eq_true rfl) rfl (fun X => ?_))
  refine q_iload_n (pc := 0) (j := 0) rfl rfl ?_
  refine q_if_ne (pc := 1) 9 rfl (by decide) (fun h9 => absurd h9 (by decide : ¬ ¬ (0 : Int32) = 0)) (fun _ => ?_)
  refine q_bipush (pc := 4) 127 rfl (by decide) ?_
  refine q_goto (pc := 6) 12 rfl (by decide) ?_
  exact q_iret (pc := 12) rfl rfl ⟨rfl, rfl⟩
set_option maxRecDepth 100000 in
theorem sp_X2_signBit0 {sh : List PSh} {S : PSt}  : pF mX2_signBit 0 [.int 0] sh S S (some (.long 2147483648)) := by
  refine pF.of (pG.of [some (.int 0)] (by decide) tk_X2_signBit (Nat.le_of_ble_eq_true rfl) rfl (fun X => ?_))
  refine q_iload_n (pc := 0) (j := 0) rfl rfl ?_
  refine q_if_ne (pc := 1) 10 rfl (by decide) (fun h9 => absurd h9 (by decide : ¬ ¬ (0 : Int32) = 0)) (fun _ => ?_)
  refine q_ldc2 (pc := 4) (v := 2147483648) rfl kc_X2_28 ?_
  refine q_goto (pc := 7) 13 rfl (by decide) ?_
  exact q_lret (pc := 13) rfl rfl ⟨rfl, rfl⟩
theorem p_sb0 : pSb 0 = 2147483648 := rfl
set_option maxRecDepth 100000 in
theorem sp_X2_fractionBits1 {sh : List PSh} {S : PSt}  : pF mX2_fractionBits 0 [.int 1] sh S S (some (.int 52)) := by
  refine pF.of (pG.of [some (.int 1)] (by decide) tk_X2_fractionBits (Nat.le_of_ble_eq_true rfl) rfl (fun X => ?_))
  refine q_iload_n (pc := 0) (j := 0) rfl rfl ?_
  refine q_if_ne (pc := 1) 9 rfl (by decide) (fun _ => ?_) (fun h9 => absurd h9 (by decide : (1 : Int32) = 0 → False))
  refine q_bipush (pc := 9) 52 rfl (by decide) ?_
  exact q_iret (pc := 11) rfl rfl ⟨rfl, rfl⟩
set_option maxRecDepth 100000 in
theorem sp_X2_bias1 {sh : List PSh} {S : PSt}  : pF mX2_bias 0 [.int 1] sh S S (some (.int 1023)) := by
  refine pF.of (pG.of [some (.int 1)] (by decide) tk_X2_bias (Nat.le_of_ble_eq_true rfl) rfl (fun X => ?_))
  refine q_iload_n (pc := 0) (j := 0) rfl rfl ?_
  refine q_if_ne (pc := 1) 9 rfl (by decide) (fun _ => ?_) (fun h9 => absurd h9 (by decide : (1 : Int32) = 0 → False))
  refine q_sipush (pc := 9) 1023 rfl (by decide) ?_
  exact q_iret (pc := 12) rfl rfl ⟨rfl, rfl⟩
set_option maxRecDepth 100000 in
theorem sp_X2_signBit1 {sh : List PSh} {S : PSt}  : pF mX2_signBit 0 [.int 1] sh S S (some (.long (-9223372036854775808))) := by
  refine pF.of (pG.of [some (.int 1)] (by decide) tk_X2_signBit (Nat.le_of_ble_eq_true rfl) rfl (fun X => ?_))
  refine q_iload_n (pc := 0) (j := 0) rfl rfl ?_
  refine q_if_ne (pc := 1) 10 rfl (by decide) (fun _ => ?_) (fun h9 => absurd h9 (by decide : (1 : Int32) = 0 → False))
  refine q_ldc2 (pc := 10) (v := (-9223372036854775808)) rfl kc_X2_30 ?_
  exact q_lret (pc := 13) rfl rfl ⟨rfl, rfl⟩
theorem p_sb1 : pSb 1 = (-9223372036854775808) := rfl
set_option maxRecDepth 100000 in
theorem sp_X2_withSign0 {sh : List PSh} {S : PSt} {b : Int64} {g : Bool} : pF mX2_withSign 1 [.int 0, .long b, .int (pB g)] sh S S (some (.long (wsF 0 b g))) := by
  refine pF.of (pG.of [some (.int 0), some (.long b), none, some (.int (pB g)), none, none] (by decide) tk_X2_withSign (Nat.le_of_ble_eq_true rfl) rfl (fun X => ?_))
  refine q_iload_n (pc := 0) (j := 3) rfl rfl ?_
  refine q_if_ne (pc := 1) 6 rfl (by decide) (fun h1 => ?_) (fun h1 => ?_)
  · refine q_lload_n (pc := 6) (j := 1) rfl rfl ?_
    refine q_iload_n (pc := 7) (j := 0) rfl rfl ?_
    refine q_callS (pc := 8) (as := [.int 0]) (rest := [.long b]) (st2 := [.long 2147483648, .long b]) rfl ce_X2_signBit ml_X2_24 st_X2_signBit rfl (by decide) (Nat.le_of_ble_eq_true rfl) (sp_X2_signBit0) rfl ?_
    refine q_lor (pc := 11) rfl ?_
    refine q_lstore (pc := 12) (j := 4) [some (.int 0), some (.long b), none, some (.int (pB g)), some (.long (b ||| 2147483648)), none] rfl (by decide) rfl ?_
    refine q_iload_n (pc := 14) (j := 0) rfl rfl ?_
    refine q_if_ne (pc := 15) 25 rfl (by decide) (fun h9 => absurd h9 (by decide : ¬ ¬ (0 : Int32) = 0)) (fun _ => ?_)
    refine q_lload (pc := 18) (j := 4) rfl rfl ?_
    refine q_l2i (pc := 20) rfl ?_
    refine q_i2l (pc := 21) rfl ?_
    refine q_goto (pc := 22) 27 rfl (by decide) ?_
    exact q_lret (pc := 27) rfl rfl ⟨congrArg (fun v => some (Value.long v)) (by rw [pB_t h1, wsF, if_pos rfl]; rfl), rfl⟩
  · refine q_lload_n (pc := 4) (j := 1) rfl rfl ?_
    exact q_lret (pc := 5) rfl rfl ⟨congrArg (fun v => some (Value.long v)) (by rw [pB_f h1]; exact (if_neg (by decide)).symm), rfl⟩
set_option maxRecDepth 100000 in
theorem sp_X2_withSign1 {sh : List PSh} {S : PSt} {b : Int64} {g : Bool} : pF mX2_withSign 1 [.int 1, .long b, .int (pB g)] sh S S (some (.long (wsF 1 b g))) := by
  refine pF.of (pG.of [some (.int 1), some (.long b), none, some (.int (pB g)), none, none] (by decide) tk_X2_withSign (Nat.le_of_ble_eq_true rfl) rfl (fun X => ?_))
  refine q_iload_n (pc := 0) (j := 3) rfl rfl ?_
  refine q_if_ne (pc := 1) 6 rfl (by decide) (fun h1 => ?_) (fun h1 => ?_)
  · refine q_lload_n (pc := 6) (j := 1) rfl rfl ?_
    refine q_iload_n (pc := 7) (j := 0) rfl rfl ?_
    refine q_callS (pc := 8) (as := [.int 1]) (rest := [.long b]) (st2 := [.long (-9223372036854775808), .long b]) rfl ce_X2_signBit ml_X2_24 st_X2_signBit rfl (by decide) (Nat.le_of_ble_eq_true rfl) (sp_X2_signBit1) rfl ?_
    refine q_lor (pc := 11) rfl ?_
    refine q_lstore (pc := 12) (j := 4) [some (.int 1), some (.long b), none, some (.int (pB g)), some (.long (b ||| (-9223372036854775808))), none] rfl (by decide) rfl ?_
    refine q_iload_n (pc := 14) (j := 0) rfl rfl ?_
    refine q_if_ne (pc := 15) 25 rfl (by decide) (fun _ => ?_) (fun h9 => absurd h9 (by decide : (1 : Int32) = 0 → False))
    refine q_lload (pc := 25) (j := 4) rfl rfl ?_
    exact q_lret (pc := 27) rfl rfl ⟨congrArg (fun v => some (Value.long v)) (by rw [pB_t h1, wsF, if_pos rfl]; rfl), rfl⟩
  · refine q_lload_n (pc := 4) (j := 1) rfl rfl ?_
    exact q_lret (pc := 5) rfl rfl ⟨congrArg (fun v => some (Value.long v)) (by rw [pB_f h1]; exact (if_neg (by decide)).symm), rfl⟩
set_option maxRecDepth 100000 in
theorem lp_X2_encodeA0 {n0 : Nat} {X : Nat × (Nat → Int32)} {P : Option Value → PSt → Prop} {d : Nat} (hd9 : 0 ≤ d) {sh : List PSh} {S : PSt} {x z1 : UInt64} {e1 : Int32} (hlo : vf_n64 (FP.dmul (FP.l2d 8388608) d2c)) (hex : ∀ i, pV mX2_encode d n0 X sh P 80 [some (.int 0), some (.double x), none, some (.int 23), some (.long 8388608), none, some (.double (FP.l2d 8388608)), none, some (.double z1), none, some (.int e1), some (.int i), none] [] S) : ∀ (m k : Nat) (z : UInt64) (e : Int32), k + m = 1100 → okDn (FP.dmul (FP.l2d 8388608) d2c) m z → dnF (FP.dmul (FP.l2d 8388608) d2c) m z e = (z1, e1) → pV mX2_encode d n0 X sh P 43 [some (.int 0), some (.double x), none, some (.int 23), some (.long 8388608), none, some (.double (FP.l2d 8388608)), none, some (.double z), none, some (.int e), some (.int (nI k)), none] [] S := by
  intro m
  induction m with
  | zero =>
    intro k z e hk hok hw
    have hk : k = 1100 := by omega
    subst hk
    cases hw
    refine q_iload (pc := 43) (j := 11) rfl rfl ?_
    refine q_sipush (pc := 45) 1100 rfl (by decide) ?_
    exact q_icmp_ge (pc := 48) 80 rfl (by decide) (fun _ => hex _) (fun h9 => absurd (Int32.le_refl _) h9)
  | succ m ih =>
    intro k z e hk hok hw
    have hk1 : k < 1100 := by omega
    unfold dnF at hw
    have hk2 : k < 1100 := hk1
    refine q_iload (pc := 43) (j := 11) rfl rfl ?_
    refine q_sipush (pc := 45) 1100 rfl (by decide) ?_
    refine q_icmp_ge (pc := 48) 80 rfl (by decide) (fun h9 => absurd h9 (nI_ge (b := 1100) hk1 (by decide))) (fun _ => ?_)
    refine q_dload (pc := 51) (j := 8) rfl rfl ?_
    refine q_dload (pc := 53) (j := 6) rfl rfl ?_
    refine q_ldc2d (pc := 55) (v := 4611686018427387904) rfl kc_X2_15 ?_
    refine q_dmul (pc := 58) rfl hlo ?_
    refine q_dcmp (pc := 59) (op := .l) rfl ?_
    refine q_if_lt (pc := 60) 80 rfl (by decide) (fun h60 => ?_) (fun h60 => ?_)
    · exact (by rw [if_neg (show ¬ dge z (FP.dmul (FP.l2d 8388608) d2c) = true from fun q9 => absurd (of_decide_eq_true q9) (Int32.not_le.mpr h60))] at hw; cases hw; exact hex _)
    · have hc9 : dge z (FP.dmul (FP.l2d 8388608) d2c) = true := decide_eq_true (Int32.not_lt.mp h60); rw [if_pos hc9] at hw; have hst := hok hc9
      refine q_dload (pc := 63) (j := 8) rfl rfl ?_
      refine q_ldc2d (pc := 65) (v := 4611686018427387904) rfl kc_X2_15 ?_
      refine q_ddiv (pc := 68) rfl hst.1 ?_
      refine q_dstore (pc := 69) (j := 8) [some (.int 0), some (.double x), none, some (.int 23), some (.long 8388608), none, some (.double (FP.l2d 8388608)), none, some (.double (FP.ddiv z 4611686018427387904)), none, some (.int e), some (.int (nI k)), none] rfl (by decide) rfl ?_
      refine q_iinc (pc := 71) (j := 10) (n := 1) (e + 1) [some (.int 0), some (.double x), none, some (.int 23), some (.long 8388608), none, some (.double (FP.l2d 8388608)), none, some (.double (FP.ddiv z 4611686018427387904)), none, some (.int (e + 1)), some (.int (nI k)), none] rfl (by decide) rfl rfl rfl ?_
      refine q_iinc (pc := 74) (j := 11) (n := 1) (nI (k + 1)) [some (.int 0), some (.double x), none, some (.int 23), some (.long 8388608), none, some (.double (FP.l2d 8388608)), none, some (.double (FP.ddiv z 4611686018427387904)), none, some (.int (e + 1)), some (.int (nI (k + 1))), none] rfl (by decide) rfl (nI_1 k) rfl ?_
      refine q_goto (pc := 77) 43 rfl (by decide) ?_
      exact ih (k + 1) _ _ (by omega) hst.2 hw
set_option maxRecDepth 100000 in
theorem lp_X2_encodeB0 {n0 : Nat} {X : Nat × (Nat → Int32)} {P : Option Value → PSt → Prop} {d : Nat} (hd9 : 0 ≤ d) {sh : List PSh} {S : PSt} {x z1 : UInt64} {e1 : Int32} (hlo : vf_n64 (FP.dmul (FP.l2d 8388608) d2c)) (hex : ∀ i, pV mX2_encode d n0 X sh P 116 [some (.int 0), some (.double x), none, some (.int 23), some (.long 8388608), none, some (.double (FP.l2d 8388608)), none, some (.double z1), none, some (.int e1), some (.int i), none] [] S) : ∀ (m k : Nat) (z : UInt64) (e : Int32), k + m = 1100 → okUp (FP.l2d 8388608) m z → upF (FP.l2d 8388608) m z e = (z1, e1) → pV mX2_encode d n0 X sh P 83 [some (.int 0), some (.double x), none, some (.int 23), some (.long 8388608), none, some (.double (FP.l2d 8388608)), none, some (.double z), none, some (.int e), some (.int (nI k)), none] [] S := by
  intro m
  induction m with
  | zero =>
    intro k z e hk hok hw
    have hk : k = 1100 := by omega
    subst hk
    cases hw
    refine q_iload (pc := 83) (j := 11) rfl rfl ?_
    refine q_sipush (pc := 85) 1100 rfl (by decide) ?_
    exact q_icmp_ge (pc := 88) 116 rfl (by decide) (fun _ => hex _) (fun h9 => absurd (Int32.le_refl _) h9)
  | succ m ih =>
    intro k z e hk hok hw
    have hk1 : k < 1100 := by omega
    unfold upF at hw
    have hk2 : k < 1100 := hk1
    refine q_iload (pc := 83) (j := 11) rfl rfl ?_
    refine q_sipush (pc := 85) 1100 rfl (by decide) ?_
    refine q_icmp_ge (pc := 88) 116 rfl (by decide) (fun h9 => absurd h9 (nI_ge (b := 1100) hk1 (by decide))) (fun _ => ?_)
    refine q_dload (pc := 91) (j := 8) rfl rfl ?_
    refine q_dload (pc := 93) (j := 6) rfl rfl ?_
    refine q_dcmp (pc := 95) (op := .g) rfl ?_
    refine q_if_ge (pc := 96) 116 rfl (by decide) (fun h96 => ?_) (fun h96 => ?_)
    · exact (by rw [if_neg (show ¬ dlt z (FP.l2d 8388608) = true from fun q9 => absurd (of_decide_eq_true q9) (Int32.not_lt.mpr h96))] at hw; cases hw; exact hex _)
    · have hc9 : dlt z (FP.l2d 8388608) = true := decide_eq_true (Int32.not_le.mp h96); rw [if_pos hc9] at hw; have hst := hok hc9
      refine q_dload (pc := 99) (j := 8) rfl rfl ?_
      refine q_ldc2d (pc := 101) (v := 4611686018427387904) rfl kc_X2_15 ?_
      refine q_dmul (pc := 104) rfl hst.1 ?_
      refine q_dstore (pc := 105) (j := 8) [some (.int 0), some (.double x), none, some (.int 23), some (.long 8388608), none, some (.double (FP.l2d 8388608)), none, some (.double (FP.dmul z 4611686018427387904)), none, some (.int e), some (.int (nI k)), none] rfl (by decide) rfl ?_
      refine q_iinc (pc := 107) (j := 10) (n := (-1)) (e + (-1)) [some (.int 0), some (.double x), none, some (.int 23), some (.long 8388608), none, some (.double (FP.l2d 8388608)), none, some (.double (FP.dmul z 4611686018427387904)), none, some (.int (e + (-1))), some (.int (nI k)), none] rfl (by decide) rfl rfl rfl ?_
      refine q_iinc (pc := 110) (j := 11) (n := 1) (nI (k + 1)) [some (.int 0), some (.double x), none, some (.int 23), some (.long 8388608), none, some (.double (FP.l2d 8388608)), none, some (.double (FP.dmul z 4611686018427387904)), none, some (.int (e + (-1))), some (.int (nI (k + 1))), none] rfl (by decide) rfl (nI_1 k) rfl ?_
      refine q_goto (pc := 113) 83 rfl (by decide) ?_
      exact ih (k + 1) _ _ (by omega) hst.2 hw
set_option maxRecDepth 100000 in
theorem sp_X2_encode0 {sh : List PSh} {S : PSt} {x : UInt64} (hok : okEn 0 x) : pF mX2_encode 2 [.int 0, .double x] sh S S (some (.long (enF 0 x))) := by
  refine pF.of (pG.of [some (.int 0), some (.double x), none, none, none, none, none, none, none, none, none, none, none] (by decide) tk_X2_encode (Nat.le_of_ble_eq_true rfl) rfl (fun X => ?_))
  refine q_dload_n (pc := 0) (j := 1) rfl rfl ?_
  refine q_dconst0 (pc := 1) rfl ?_
  refine q_dcmp (pc := 2) (op := .l) rfl ?_
  refine q_if_ne (pc := 3) 8 rfl (by decide) (fun h3 => ?_) (fun h3 => ?_)
  · have hk9 := hok h3
    refine q_iload_n (pc := 8) (j := 0) rfl rfl ?_
    refine q_callS (pc := 9) (as := [.int 0]) (rest := []) (st2 := [.int 23]) rfl ce_X2_fractionBits ml_X2_9 st_X2_fractionBits rfl (by decide) (Nat.le_of_ble_eq_true rfl) (sp_X2_fractionBits0) rfl ?_
    refine q_istore_n (pc := 12) (j := 3) [some (.int 0), some (.double x), none, some (.int 23), none, none, none, none, none, none, none, none, none] rfl (by decide) rfl ?_
    refine q_lconst (pc := 13) 1 rfl (by decide) ?_
    refine q_iload_n (pc := 14) (j := 3) rfl rfl ?_
    refine q_lshl (pc := 15) rfl ?_
    refine q_st (st2 := [.long 8388608]) (by rw [p_hid0]) ?_
    refine q_lstore (pc := 16) (j := 4) [some (.int 0), some (.double x), none, some (.int 23), some (.long 8388608), none, none, none, none, none, none, none, none] rfl (by decide) rfl ?_
    refine q_lload (pc := 18) (j := 4) rfl rfl ?_
    refine q_l2d (pc := 20) rfl ?_
    refine q_dstore (pc := 21) (j := 6) [some (.int 0), some (.double x), none, some (.int 23), some (.long 8388608), none, some (.double (FP.l2d 8388608)), none, none, none, none, none, none] rfl (by decide) rfl ?_
    refine q_dload_n (pc := 23) (j := 1) rfl rfl ?_
    refine q_dconst0 (pc := 24) rfl ?_
    refine q_dcmp (pc := 25) (op := .g) rfl ?_
    refine q_join 35 [some (.int 0), some (.double x), none, some (.int 23), some (.long 8388608), none, some (.double (FP.l2d 8388608)), none, none, none, none, none, none] [.double (absD x)] S ?_ (fun key26 => ?_)
    · refine q_dstore (pc := 35) (j := 8) [some (.int 0), some (.double x), none, some (.int 23), some (.long 8388608), none, some (.double (FP.l2d 8388608)), none, some (.double (absD x)), none, none, none, none] rfl (by decide) rfl ?_
      refine q_iload_n (pc := 37) (j := 3) rfl rfl ?_
      refine q_istore (pc := 38) (j := 10) [some (.int 0), some (.double x), none, some (.int 23), some (.long 8388608), none, some (.double (FP.l2d 8388608)), none, some (.double (absD x)), none, some (.int 23), none, none] rfl (by decide) rfl ?_
      refine q_iconst (pc := 40) 0 rfl (by decide) ?_
      refine q_istore (pc := 41) (j := 11) [some (.int 0), some (.double x), none, some (.int 23), some (.long 8388608), none, some (.double (FP.l2d 8388608)), none, some (.double (absD x)), none, some (.int 23), some (.int 0), none] rfl (by decide) rfl ?_
      refine lp_X2_encodeA0 (z1 := (dnF (FP.dmul (FP.l2d 8388608) d2c) 1100 (absD x) 23).1) (e1 := (dnF (FP.dmul (FP.l2d 8388608) d2c) 1100 (absD x) 23).2) (by decide) hk9.1 (fun i => ?_) 1100 0 _ _ rfl hk9.2.1 rfl
      refine q_iconst (pc := 80) 0 rfl (by decide) ?_
      refine q_istore (pc := 81) (j := 11) [some (.int 0), some (.double x), none, some (.int 23), some (.long 8388608), none, some (.double (FP.l2d 8388608)), none, some (.double ((dnF (FP.dmul (FP.l2d 8388608) d2c) 1100 (absD x) 23).1)), none, some (.int ((dnF (FP.dmul (FP.l2d 8388608) d2c) 1100 (absD x) 23).2)), some (.int 0), none] rfl (by decide) rfl ?_
      refine lp_X2_encodeB0 (z1 := (upF (FP.l2d 8388608) 1100 (dnF (FP.dmul (FP.l2d 8388608) d2c) 1100 (absD x) 23).1 (dnF (FP.dmul (FP.l2d 8388608) d2c) 1100 (absD x) 23).2).1) (e1 := (upF (FP.l2d 8388608) 1100 (dnF (FP.dmul (FP.l2d 8388608) d2c) 1100 (absD x) 23).1 (dnF (FP.dmul (FP.l2d 8388608) d2c) 1100 (absD x) 23).2).2) (by decide) hk9.1 (fun i => ?_) 1100 0 _ _ rfl hk9.2.2 rfl
      refine q_iload (pc := 116) (j := 10) rfl rfl ?_
      refine q_iload_n (pc := 118) (j := 0) rfl rfl ?_
      refine q_callS (pc := 119) (as := [.int 0]) (rest := [.int ((upF (FP.l2d 8388608) 1100 (dnF (FP.dmul (FP.l2d 8388608) d2c) 1100 (absD x) 23).1 (dnF (FP.dmul (FP.l2d 8388608) d2c) 1100 (absD x) 23).2).2)]) (st2 := [.int 127, .int ((upF (FP.l2d 8388608) 1100 (dnF (FP.dmul (FP.l2d 8388608) d2c) 1100 (absD x) 23).1 (dnF (FP.dmul (FP.l2d 8388608) d2c) 1100 (absD x) 23).2).2)]) rfl ce_X2_bias ml_X2_17 st_X2_bias rfl (by decide) (Nat.le_of_ble_eq_true rfl) (sp_X2_bias0) rfl ?_
      refine q_iadd (pc := 122) rfl ?_
      refine q_i2l (pc := 123) rfl ?_
      refine q_iload_n (pc := 124) (j := 3) rfl rfl ?_
      refine q_lshl (pc := 125) rfl ?_
      refine q_lstore (pc := 126) (j := 11) [some (.int 0), some (.double x), none, some (.int 23), some (.long 8388608), none, some (.double (FP.l2d 8388608)), none, some (.double ((upF (FP.l2d 8388608) 1100 (dnF (FP.dmul (FP.l2d 8388608) d2c) 1100 (absD x) 23).1 (dnF (FP.dmul (FP.l2d 8388608) d2c) 1100 (absD x) 23).2).1)), none, some (.int ((upF (FP.l2d 8388608) 1100 (dnF (FP.dmul (FP.l2d 8388608) d2c) 1100 (absD x) 23).1 (dnF (FP.dmul (FP.l2d 8388608) d2c) 1100 (absD x) 23).2).2)), some (.long ((((upF (FP.l2d 8388608) 1100 (dnF (FP.dmul (FP.l2d 8388608) d2c) 1100 (absD x) 23).1 (dnF (FP.dmul (FP.l2d 8388608) d2c) 1100 (absD x) 23).2).2 + 127).toInt64) <<< ((23 : Int32).toInt64 &&& 63))), none] rfl (by decide) rfl ?_
      refine q_iload_n (pc := 128) (j := 0) rfl rfl ?_
      refine q_lload (pc := 129) (j := 11) rfl rfl ?_
      refine q_dload (pc := 131) (j := 8) rfl rfl ?_
      refine q_d2l (pc := 133) rfl ?_
      refine q_lload (pc := 134) (j := 4) rfl rfl ?_
      refine q_lsub (pc := 136) rfl ?_
      refine q_ladd (pc := 137) rfl ?_
      refine q_dload_n (pc := 138) (j := 1) rfl rfl ?_
      refine q_dconst0 (pc := 139) rfl ?_
      refine q_dcmp (pc := 140) (op := .g) rfl ?_
      refine q_join 149 [some (.int 0), some (.double x), none, some (.int 23), some (.long 8388608), none, some (.double (FP.l2d 8388608)), none, some (.double ((upF (FP.l2d 8388608) 1100 (dnF (FP.dmul (FP.l2d 8388608) d2c) 1100 (absD x) 23).1 (dnF (FP.dmul (FP.l2d 8388608) d2c) 1100 (absD x) 23).2).1)), none, some (.int ((upF (FP.l2d 8388608) 1100 (dnF (FP.dmul (FP.l2d 8388608) d2c) 1100 (absD x) 23).1 (dnF (FP.dmul (FP.l2d 8388608) d2c) 1100 (absD x) 23).2).2)), some (.long ((((upF (FP.l2d 8388608) 1100 (dnF (FP.dmul (FP.l2d 8388608) d2c) 1100 (absD x) 23).1 (dnF (FP.dmul (FP.l2d 8388608) d2c) 1100 (absD x) 23).2).2 + 127).toInt64) <<< ((23 : Int32).toInt64 &&& 63))), none] [.int (pB (dlt x FP.dconst0)), .long (((((upF (FP.l2d 8388608) 1100 (dnF (FP.dmul (FP.l2d 8388608) d2c) 1100 (absD x) 23).1 (dnF (FP.dmul (FP.l2d 8388608) d2c) 1100 (absD x) 23).2).2 + 127).toInt64) <<< ((23 : Int32).toInt64 &&& 63)) + ((FP.d2l ((upF (FP.l2d 8388608) 1100 (dnF (FP.dmul (FP.l2d 8388608) d2c) 1100 (absD x) 23).1 (dnF (FP.dmul (FP.l2d 8388608) d2c) 1100 (absD x) 23).2).1)) - 8388608)), .int 0] S ?_ (fun key141 => ?_)
      · refine q_callS (pc := 149) (as := [.int 0, .long (((((upF (FP.l2d 8388608) 1100 (dnF (FP.dmul (FP.l2d 8388608) d2c) 1100 (absD x) 23).1 (dnF (FP.dmul (FP.l2d 8388608) d2c) 1100 (absD x) 23).2).2 + 127).toInt64) <<< ((23 : Int32).toInt64 &&& 63)) + ((FP.d2l ((upF (FP.l2d 8388608) 1100 (dnF (FP.dmul (FP.l2d 8388608) d2c) 1100 (absD x) 23).1 (dnF (FP.dmul (FP.l2d 8388608) d2c) 1100 (absD x) 23).2).1)) - 8388608)), .int (pB (dlt x FP.dconst0))]) (rest := []) (st2 := [.long (wsF 0 (((((upF (FP.l2d 8388608) 1100 (dnF (FP.dmul (FP.l2d 8388608) d2c) 1100 (absD x) 23).1 (dnF (FP.dmul (FP.l2d 8388608) d2c) 1100 (absD x) 23).2).2 + 127).toInt64) <<< ((23 : Int32).toInt64 &&& 63)) + ((FP.d2l ((upF (FP.l2d 8388608) 1100 (dnF (FP.dmul (FP.l2d 8388608) d2c) 1100 (absD x) 23).1 (dnF (FP.dmul (FP.l2d 8388608) d2c) 1100 (absD x) 23).2).1)) - 8388608)) (dlt x FP.dconst0))]) rfl ce_X2_withSign ml_X2_20 st_X2_withSign rfl (by decide) (Nat.le_of_ble_eq_true rfl) (sp_X2_withSign0) rfl ?_
        exact q_lret (pc := 152) rfl rfl ⟨congrArg (fun v => some (Value.long v)) (by rw [enF, if_neg h3]; rfl), rfl⟩
      · refine q_if_ge (pc := 141) 148 rfl (by decide) (fun h141 => ?_) (fun h141 => ?_)
        · refine q_iconst (pc := 148) 0 rfl (by decide) ?_
          exact q_st (by rw [show dlt x FP.dconst0 = false from decide_eq_false (Int32.not_lt.mpr h141)]; rfl) key141
        · refine q_iconst (pc := 144) 1 rfl (by decide) ?_
          refine q_goto (pc := 145) 149 rfl (by decide) ?_
          exact q_st (by rw [show dlt x FP.dconst0 = true from decide_eq_true (Int32.not_le.mp h141)]; rfl) key141
    · refine q_if_ge (pc := 26) 34 rfl (by decide) (fun h26 => ?_) (fun h26 => ?_)
      · refine q_dload_n (pc := 34) (j := 1) rfl rfl ?_
        exact q_st (by rw [absD, if_neg (show ¬ dlt x FP.dconst0 = true from fun q9 => absurd (of_decide_eq_true q9) (Int32.not_lt.mpr h26))]) key26
      · refine q_dload_n (pc := 29) (j := 1) rfl rfl ?_
        refine q_dneg (pc := 30) rfl ?_
        refine q_goto (pc := 31) 35 rfl (by decide) ?_
        exact q_st (by rw [absD, if_pos (show dlt x FP.dconst0 = true from decide_eq_true (Int32.not_le.mp h26))]) key26
  · refine q_lconst (pc := 6) 0 rfl (by decide) ?_
    exact q_lret (pc := 7) rfl rfl ⟨congrArg (fun v => some (Value.long v)) (if_pos h3).symm, rfl⟩
set_option maxRecDepth 100000 in
theorem lp_X2_encodeA1 {n0 : Nat} {X : Nat × (Nat → Int32)} {P : Option Value → PSt → Prop} {d : Nat} (hd9 : 0 ≤ d) {sh : List PSh} {S : PSt} {x z1 : UInt64} {e1 : Int32} (hlo : vf_n64 (FP.dmul (FP.l2d 4503599627370496) d2c)) (hex : ∀ i, pV mX2_encode d n0 X sh P 80 [some (.int 1), some (.double x), none, some (.int 52), some (.long 4503599627370496), none, some (.double (FP.l2d 4503599627370496)), none, some (.double z1), none, some (.int e1), some (.int i), none] [] S) : ∀ (m k : Nat) (z : UInt64) (e : Int32), k + m = 1100 → okDn (FP.dmul (FP.l2d 4503599627370496) d2c) m z → dnF (FP.dmul (FP.l2d 4503599627370496) d2c) m z e = (z1, e1) → pV mX2_encode d n0 X sh P 43 [some (.int 1), some (.double x), none, some (.int 52), some (.long 4503599627370496), none, some (.double (FP.l2d 4503599627370496)), none, some (.double z), none, some (.int e), some (.int (nI k)), none] [] S := by
  intro m
  induction m with
  | zero =>
    intro k z e hk hok hw
    have hk : k = 1100 := by omega
    subst hk
    cases hw
    refine q_iload (pc := 43) (j := 11) rfl rfl ?_
    refine q_sipush (pc := 45) 1100 rfl (by decide) ?_
    exact q_icmp_ge (pc := 48) 80 rfl (by decide) (fun _ => hex _) (fun h9 => absurd (Int32.le_refl _) h9)
  | succ m ih =>
    intro k z e hk hok hw
    have hk1 : k < 1100 := by omega
    unfold dnF at hw
    have hk2 : k < 1100 := hk1
    refine q_iload (pc := 43) (j := 11) rfl rfl ?_
    refine q_sipush (pc := 45) 1100 rfl (by decide) ?_
    refine q_icmp_ge (pc := 48) 80 rfl (by decide) (fun h9 => absurd h9 (nI_ge (b := 1100) hk1 (by decide))) (fun _ => ?_)
    refine q_dload (pc := 51) (j := 8) rfl rfl ?_
    refine q_dload (pc := 53) (j := 6) rfl rfl ?_
    refine q_ldc2d (pc := 55) (v := 4611686018427387904) rfl kc_X2_15 ?_
    refine q_dmul (pc := 58) rfl hlo ?_
    refine q_dcmp (pc := 59) (op := .l) rfl ?_
    refine q_if_lt (pc := 60) 80 rfl (by decide) (fun h60 => ?_) (fun h60 => ?_)
    · exact (by rw [if_neg (show ¬ dge z (FP.dmul (FP.l2d 4503599627370496) d2c) = true from fun q9 => absurd (of_decide_eq_true q9) (Int32.not_le.mpr h60))] at hw; cases hw; exact hex _)
    · have hc9 : dge z (FP.dmul (FP.l2d 4503599627370496) d2c) = true := decide_eq_true (Int32.not_lt.mp h60); rw [if_pos hc9] at hw; have hst := hok hc9
      refine q_dload (pc := 63) (j := 8) rfl rfl ?_
      refine q_ldc2d (pc := 65) (v := 4611686018427387904) rfl kc_X2_15 ?_
      refine q_ddiv (pc := 68) rfl hst.1 ?_
      refine q_dstore (pc := 69) (j := 8) [some (.int 1), some (.double x), none, some (.int 52), some (.long 4503599627370496), none, some (.double (FP.l2d 4503599627370496)), none, some (.double (FP.ddiv z 4611686018427387904)), none, some (.int e), some (.int (nI k)), none] rfl (by decide) rfl ?_
      refine q_iinc (pc := 71) (j := 10) (n := 1) (e + 1) [some (.int 1), some (.double x), none, some (.int 52), some (.long 4503599627370496), none, some (.double (FP.l2d 4503599627370496)), none, some (.double (FP.ddiv z 4611686018427387904)), none, some (.int (e + 1)), some (.int (nI k)), none] rfl (by decide) rfl rfl rfl ?_
      refine q_iinc (pc := 74) (j := 11) (n := 1) (nI (k + 1)) [some (.int 1), some (.double x), none, some (.int 52), some (.long 4503599627370496), none, some (.double (FP.l2d 4503599627370496)), none, some (.double (FP.ddiv z 4611686018427387904)), none, some (.int (e + 1)), some (.int (nI (k + 1))), none] rfl (by decide) rfl (nI_1 k) rfl ?_
      refine q_goto (pc := 77) 43 rfl (by decide) ?_
      exact ih (k + 1) _ _ (by omega) hst.2 hw
set_option maxRecDepth 100000 in
theorem lp_X2_encodeB1 {n0 : Nat} {X : Nat × (Nat → Int32)} {P : Option Value → PSt → Prop} {d : Nat} (hd9 : 0 ≤ d) {sh : List PSh} {S : PSt} {x z1 : UInt64} {e1 : Int32} (hlo : vf_n64 (FP.dmul (FP.l2d 4503599627370496) d2c)) (hex : ∀ i, pV mX2_encode d n0 X sh P 116 [some (.int 1), some (.double x), none, some (.int 52), some (.long 4503599627370496), none, some (.double (FP.l2d 4503599627370496)), none, some (.double z1), none, some (.int e1), some (.int i), none] [] S) : ∀ (m k : Nat) (z : UInt64) (e : Int32), k + m = 1100 → okUp (FP.l2d 4503599627370496) m z → upF (FP.l2d 4503599627370496) m z e = (z1, e1) → pV mX2_encode d n0 X sh P 83 [some (.int 1), some (.double x), none, some (.int 52), some (.long 4503599627370496), none, some (.double (FP.l2d 4503599627370496)), none, some (.double z), none, some (.int e), some (.int (nI k)), none] [] S := by
  intro m
  induction m with
  | zero =>
    intro k z e hk hok hw
    have hk : k = 1100 := by omega
    subst hk
    cases hw
    refine q_iload (pc := 83) (j := 11) rfl rfl ?_
    refine q_sipush (pc := 85) 1100 rfl (by decide) ?_
    exact q_icmp_ge (pc := 88) 116 rfl (by decide) (fun _ => hex _) (fun h9 => absurd (Int32.le_refl _) h9)
  | succ m ih =>
    intro k z e hk hok hw
    have hk1 : k < 1100 := by omega
    unfold upF at hw
    have hk2 : k < 1100 := hk1
    refine q_iload (pc := 83) (j := 11) rfl rfl ?_
    refine q_sipush (pc := 85) 1100 rfl (by decide) ?_
    refine q_icmp_ge (pc := 88) 116 rfl (by decide) (fun h9 => absurd h9 (nI_ge (b := 1100) hk1 (by decide))) (fun _ => ?_)
    refine q_dload (pc := 91) (j := 8) rfl rfl ?_
    refine q_dload (pc := 93) (j := 6) rfl rfl ?_
    refine q_dcmp (pc := 95) (op := .g) rfl ?_
    refine q_if_ge (pc := 96) 116 rfl (by decide) (fun h96 => ?_) (fun h96 => ?_)
    · exact (by rw [if_neg (show ¬ dlt z (FP.l2d 4503599627370496) = true from fun q9 => absurd (of_decide_eq_true q9) (Int32.not_lt.mpr h96))] at hw; cases hw; exact hex _)
    · have hc9 : dlt z (FP.l2d 4503599627370496) = true := decide_eq_true (Int32.not_le.mp h96); rw [if_pos hc9] at hw; have hst := hok hc9
      refine q_dload (pc := 99) (j := 8) rfl rfl ?_
      refine q_ldc2d (pc := 101) (v := 4611686018427387904) rfl kc_X2_15 ?_
      refine q_dmul (pc := 104) rfl hst.1 ?_
      refine q_dstore (pc := 105) (j := 8) [some (.int 1), some (.double x), none, some (.int 52), some (.long 4503599627370496), none, some (.double (FP.l2d 4503599627370496)), none, some (.double (FP.dmul z 4611686018427387904)), none, some (.int e), some (.int (nI k)), none] rfl (by decide) rfl ?_
      refine q_iinc (pc := 107) (j := 10) (n := (-1)) (e + (-1)) [some (.int 1), some (.double x), none, some (.int 52), some (.long 4503599627370496), none, some (.double (FP.l2d 4503599627370496)), none, some (.double (FP.dmul z 4611686018427387904)), none, some (.int (e + (-1))), some (.int (nI k)), none] rfl (by decide) rfl rfl rfl ?_
      refine q_iinc (pc := 110) (j := 11) (n := 1) (nI (k + 1)) [some (.int 1), some (.double x), none, some (.int 52), some (.long 4503599627370496), none, some (.double (FP.l2d 4503599627370496)), none, some (.double (FP.dmul z 4611686018427387904)), none, some (.int (e + (-1))), some (.int (nI (k + 1))), none] rfl (by decide) rfl (nI_1 k) rfl ?_
      refine q_goto (pc := 113) 83 rfl (by decide) ?_
      exact ih (k + 1) _ _ (by omega) hst.2 hw
set_option maxRecDepth 100000 in
theorem sp_X2_encode1 {sh : List PSh} {S : PSt} {x : UInt64} (hok : okEn 1 x) : pF mX2_encode 2 [.int 1, .double x] sh S S (some (.long (enF 1 x))) := by
  refine pF.of (pG.of [some (.int 1), some (.double x), none, none, none, none, none, none, none, none, none, none, none] (by decide) tk_X2_encode (Nat.le_of_ble_eq_true rfl) rfl (fun X => ?_))
  refine q_dload_n (pc := 0) (j := 1) rfl rfl ?_
  refine q_dconst0 (pc := 1) rfl ?_
  refine q_dcmp (pc := 2) (op := .l) rfl ?_
  refine q_if_ne (pc := 3) 8 rfl (by decide) (fun h3 => ?_) (fun h3 => ?_)
  · have hk9 := hok h3
    refine q_iload_n (pc := 8) (j := 0) rfl rfl ?_
    refine q_callS (pc := 9) (as := [.int 1]) (rest := []) (st2 := [.int 52]) rfl ce_X2_fractionBits ml_X2_9 st_X2_fractionBits rfl (by decide) (Nat.le_of_ble_eq_true rfl) (sp_X2_fractionBits1) rfl ?_
    refine q_istore_n (pc := 12) (j := 3) [some (.int 1), some (.double x), none, some (.int 52), none, none, none, none, none, none, none, none, none] rfl (by decide) rfl ?_
    refine q_lconst (pc := 13) 1 rfl (by decide) ?_
    refine q_iload_n (pc := 14) (j := 3) rfl rfl ?_
    refine q_lshl (pc := 15) rfl ?_
    refine q_st (st2 := [.long 4503599627370496]) (by rw [p_hid1]) ?_
    refine q_lstore (pc := 16) (j := 4) [some (.int 1), some (.double x), none, some (.int 52), some (.long 4503599627370496), none, none, none, none, none, none, none, none] rfl (by decide) rfl ?_
    refine q_lload (pc := 18) (j := 4) rfl rfl ?_
    refine q_l2d (pc := 20) rfl ?_
    refine q_dstore (pc := 21) (j := 6) [some (.int 1), some (.double x), none, some (.int 52), some (.long 4503599627370496), none, some (.double (FP.l2d 4503599627370496)), none, none, none, none, none, none] rfl (by decide) rfl ?_
    refine q_dload_n (pc := 23) (j := 1) rfl rfl ?_
    refine q_dconst0 (pc := 24) rfl ?_
    refine q_dcmp (pc := 25) (op := .g) rfl ?_
    refine q_join 35 [some (.int 1), some (.double x), none, some (.int 52), some (.long 4503599627370496), none, some (.double (FP.l2d 4503599627370496)), none, none, none, none, none, none] [.double (absD x)] S ?_ (fun key26 => ?_)
    · refine q_dstore (pc := 35) (j := 8) [some (.int 1), some (.double x), none, some (.int 52), some (.long 4503599627370496), none, some (.double (FP.l2d 4503599627370496)), none, some (.double (absD x)), none, none, none, none] rfl (by decide) rfl ?_
      refine q_iload_n (pc := 37) (j := 3) rfl rfl ?_
      refine q_istore (pc := 38) (j := 10) [some (.int 1), some (.double x), none, some (.int 52), some (.long 4503599627370496), none, some (.double (FP.l2d 4503599627370496)), none, some (.double (absD x)), none, some (.int 52), none, none] rfl (by decide) rfl ?_
      refine q_iconst (pc := 40) 0 rfl (by decide) ?_
      refine q_istore (pc := 41) (j := 11) [some (.int 1), some (.double x), none, some (.int 52), some (.long 4503599627370496), none, some (.double (FP.l2d 4503599627370496)), none, some (.double (absD x)), none, some (.int 52), some (.int 0), none] rfl (by decide) rfl ?_
      refine lp_X2_encodeA1 (z1 := (dnF (FP.dmul (FP.l2d 4503599627370496) d2c) 1100 (absD x) 52).1) (e1 := (dnF (FP.dmul (FP.l2d 4503599627370496) d2c) 1100 (absD x) 52).2) (by decide) hk9.1 (fun i => ?_) 1100 0 _ _ rfl hk9.2.1 rfl
      refine q_iconst (pc := 80) 0 rfl (by decide) ?_
      refine q_istore (pc := 81) (j := 11) [some (.int 1), some (.double x), none, some (.int 52), some (.long 4503599627370496), none, some (.double (FP.l2d 4503599627370496)), none, some (.double ((dnF (FP.dmul (FP.l2d 4503599627370496) d2c) 1100 (absD x) 52).1)), none, some (.int ((dnF (FP.dmul (FP.l2d 4503599627370496) d2c) 1100 (absD x) 52).2)), some (.int 0), none] rfl (by decide) rfl ?_
      refine lp_X2_encodeB1 (z1 := (upF (FP.l2d 4503599627370496) 1100 (dnF (FP.dmul (FP.l2d 4503599627370496) d2c) 1100 (absD x) 52).1 (dnF (FP.dmul (FP.l2d 4503599627370496) d2c) 1100 (absD x) 52).2).1) (e1 := (upF (FP.l2d 4503599627370496) 1100 (dnF (FP.dmul (FP.l2d 4503599627370496) d2c) 1100 (absD x) 52).1 (dnF (FP.dmul (FP.l2d 4503599627370496) d2c) 1100 (absD x) 52).2).2) (by decide) hk9.1 (fun i => ?_) 1100 0 _ _ rfl hk9.2.2 rfl
      refine q_iload (pc := 116) (j := 10) rfl rfl ?_
      refine q_iload_n (pc := 118) (j := 0) rfl rfl ?_
      refine q_callS (pc := 119) (as := [.int 1]) (rest := [.int ((upF (FP.l2d 4503599627370496) 1100 (dnF (FP.dmul (FP.l2d 4503599627370496) d2c) 1100 (absD x) 52).1 (dnF (FP.dmul (FP.l2d 4503599627370496) d2c) 1100 (absD x) 52).2).2)]) (st2 := [.int 1023, .int ((upF (FP.l2d 4503599627370496) 1100 (dnF (FP.dmul (FP.l2d 4503599627370496) d2c) 1100 (absD x) 52).1 (dnF (FP.dmul (FP.l2d 4503599627370496) d2c) 1100 (absD x) 52).2).2)]) rfl ce_X2_bias ml_X2_17 st_X2_bias rfl (by decide) (Nat.le_of_ble_eq_true rfl) (sp_X2_bias1) rfl ?_
      refine q_iadd (pc := 122) rfl ?_
      refine q_i2l (pc := 123) rfl ?_
      refine q_iload_n (pc := 124) (j := 3) rfl rfl ?_
      refine q_lshl (pc := 125) rfl ?_
      refine q_lstore (pc := 126) (j := 11) [some (.int 1), some (.double x), none, some (.int 52), some (.long 4503599627370496), none, some (.double (FP.l2d 4503599627370496)), none, some (.double ((upF (FP.l2d 4503599627370496) 1100 (dnF (FP.dmul (FP.l2d 4503599627370496) d2c) 1100 (absD x) 52).1 (dnF (FP.dmul (FP.l2d 4503599627370496) d2c) 1100 (absD x) 52).2).1)), none, some (.int ((upF (FP.l2d 4503599627370496) 1100 (dnF (FP.dmul (FP.l2d 4503599627370496) d2c) 1100 (absD x) 52).1 (dnF (FP.dmul (FP.l2d 4503599627370496) d2c) 1100 (absD x) 52).2).2)), some (.long ((((upF (FP.l2d 4503599627370496) 1100 (dnF (FP.dmul (FP.l2d 4503599627370496) d2c) 1100 (absD x) 52).1 (dnF (FP.dmul (FP.l2d 4503599627370496) d2c) 1100 (absD x) 52).2).2 + 1023).toInt64) <<< ((52 : Int32).toInt64 &&& 63))), none] rfl (by decide) rfl ?_
      refine q_iload_n (pc := 128) (j := 0) rfl rfl ?_
      refine q_lload (pc := 129) (j := 11) rfl rfl ?_
      refine q_dload (pc := 131) (j := 8) rfl rfl ?_
      refine q_d2l (pc := 133) rfl ?_
      refine q_lload (pc := 134) (j := 4) rfl rfl ?_
      refine q_lsub (pc := 136) rfl ?_
      refine q_ladd (pc := 137) rfl ?_
      refine q_dload_n (pc := 138) (j := 1) rfl rfl ?_
      refine q_dconst0 (pc := 139) rfl ?_
      refine q_dcmp (pc := 140) (op := .g) rfl ?_
      refine q_join 149 [some (.int 1), some (.double x), none, some (.int 52), some (.long 4503599627370496), none, some (.double (FP.l2d 4503599627370496)), none, some (.double ((upF (FP.l2d 4503599627370496) 1100 (dnF (FP.dmul (FP.l2d 4503599627370496) d2c) 1100 (absD x) 52).1 (dnF (FP.dmul (FP.l2d 4503599627370496) d2c) 1100 (absD x) 52).2).1)), none, some (.int ((upF (FP.l2d 4503599627370496) 1100 (dnF (FP.dmul (FP.l2d 4503599627370496) d2c) 1100 (absD x) 52).1 (dnF (FP.dmul (FP.l2d 4503599627370496) d2c) 1100 (absD x) 52).2).2)), some (.long ((((upF (FP.l2d 4503599627370496) 1100 (dnF (FP.dmul (FP.l2d 4503599627370496) d2c) 1100 (absD x) 52).1 (dnF (FP.dmul (FP.l2d 4503599627370496) d2c) 1100 (absD x) 52).2).2 + 1023).toInt64) <<< ((52 : Int32).toInt64 &&& 63))), none] [.int (pB (dlt x FP.dconst0)), .long (((((upF (FP.l2d 4503599627370496) 1100 (dnF (FP.dmul (FP.l2d 4503599627370496) d2c) 1100 (absD x) 52).1 (dnF (FP.dmul (FP.l2d 4503599627370496) d2c) 1100 (absD x) 52).2).2 + 1023).toInt64) <<< ((52 : Int32).toInt64 &&& 63)) + ((FP.d2l ((upF (FP.l2d 4503599627370496) 1100 (dnF (FP.dmul (FP.l2d 4503599627370496) d2c) 1100 (absD x) 52).1 (dnF (FP.dmul (FP.l2d 4503599627370496) d2c) 1100 (absD x) 52).2).1)) - 4503599627370496)), .int 1] S ?_ (fun key141 => ?_)
      · refine q_callS (pc := 149) (as := [.int 1, .long (((((upF (FP.l2d 4503599627370496) 1100 (dnF (FP.dmul (FP.l2d 4503599627370496) d2c) 1100 (absD x) 52).1 (dnF (FP.dmul (FP.l2d 4503599627370496) d2c) 1100 (absD x) 52).2).2 + 1023).toInt64) <<< ((52 : Int32).toInt64 &&& 63)) + ((FP.d2l ((upF (FP.l2d 4503599627370496) 1100 (dnF (FP.dmul (FP.l2d 4503599627370496) d2c) 1100 (absD x) 52).1 (dnF (FP.dmul (FP.l2d 4503599627370496) d2c) 1100 (absD x) 52).2).1)) - 4503599627370496)), .int (pB (dlt x FP.dconst0))]) (rest := []) (st2 := [.long (wsF 1 (((((upF (FP.l2d 4503599627370496) 1100 (dnF (FP.dmul (FP.l2d 4503599627370496) d2c) 1100 (absD x) 52).1 (dnF (FP.dmul (FP.l2d 4503599627370496) d2c) 1100 (absD x) 52).2).2 + 1023).toInt64) <<< ((52 : Int32).toInt64 &&& 63)) + ((FP.d2l ((upF (FP.l2d 4503599627370496) 1100 (dnF (FP.dmul (FP.l2d 4503599627370496) d2c) 1100 (absD x) 52).1 (dnF (FP.dmul (FP.l2d 4503599627370496) d2c) 1100 (absD x) 52).2).1)) - 4503599627370496)) (dlt x FP.dconst0))]) rfl ce_X2_withSign ml_X2_20 st_X2_withSign rfl (by decide) (Nat.le_of_ble_eq_true rfl) (sp_X2_withSign1) rfl ?_
        exact q_lret (pc := 152) rfl rfl ⟨congrArg (fun v => some (Value.long v)) (by rw [enF, if_neg h3]; rfl), rfl⟩
      · refine q_if_ge (pc := 141) 148 rfl (by decide) (fun h141 => ?_) (fun h141 => ?_)
        · refine q_iconst (pc := 148) 0 rfl (by decide) ?_
          exact q_st (by rw [show dlt x FP.dconst0 = false from decide_eq_false (Int32.not_lt.mpr h141)]; rfl) key141
        · refine q_iconst (pc := 144) 1 rfl (by decide) ?_
          refine q_goto (pc := 145) 149 rfl (by decide) ?_
          exact q_st (by rw [show dlt x FP.dconst0 = true from decide_eq_true (Int32.not_le.mp h141)]; rfl) key141
    · refine q_if_ge (pc := 26) 34 rfl (by decide) (fun h26 => ?_) (fun h26 => ?_)
      · refine q_dload_n (pc := 34) (j := 1) rfl rfl ?_
        exact q_st (by rw [absD, if_neg (show ¬ dlt x FP.dconst0 = true from fun q9 => absurd (of_decide_eq_true q9) (Int32.not_lt.mpr h26))]) key26
      · refine q_dload_n (pc := 29) (j := 1) rfl rfl ?_
        refine q_dneg (pc := 30) rfl ?_
        refine q_goto (pc := 31) 35 rfl (by decide) ?_
        exact q_st (by rw [absD, if_pos (show dlt x FP.dconst0 = true from decide_eq_true (Int32.not_le.mp h26))]) key26
  · refine q_lconst (pc := 6) 0 rfl (by decide) ?_
    exact q_lret (pc := 7) rfl rfl ⟨congrArg (fun v => some (Value.long v)) (if_pos h3).symm, rfl⟩
def dbF : Nat → UInt64 → UInt64
  | 0, z => z
  | k + 1, z => FP.dmul (dbF k z) d2c
def hvF : Nat → UInt64 → UInt64
  | 0, z => z
  | k + 1, z => FP.ddiv (hvF k z) d2c
/-- what BITS tell without the sign: by the sort, the bits without the sign -/
def szE (s : Nat) (m : Int64) : Int32 := (m >>> ((pFb s).toInt64 &&& 63)).toInt32 - pBi s - pFb s
def szM (s : Nat) (m : Int64) : UInt64 := FP.l2d (pHid s + (m &&& (pHid s - 1)))
def szF (s : Nat) (b : Int64) : UInt64 :=
  if b &&& (pSb s - 1) = 0 then FP.dconst0
  else hvF (-(szE s (b &&& (pSb s - 1)))).toInt.toNat (dbF (szE s (b &&& (pSb s - 1))).toInt.toNat (szM s (b &&& (pSb s - 1))))
def okSz (s : Nat) (b : Int64) : Prop := ¬ b &&& (pSb s - 1) = 0 → ((szE s (b &&& (pSb s - 1))).toInt < 1100 ∧ (-(szE s (b &&& (pSb s - 1)))).toInt < 1100) ∧
  (∀ k, k < (szE s (b &&& (pSb s - 1))).toInt.toNat → vf_n64 (FP.dmul (dbF k (szM s (b &&& (pSb s - 1)))) d2c)) ∧
  (∀ k, k < (-(szE s (b &&& (pSb s - 1)))).toInt.toNat → vf_n64 (FP.ddiv (hvF k (dbF (szE s (b &&& (pSb s - 1))).toInt.toNat (szM s (b &&& (pSb s - 1))))) d2c))
theorem le_nI_of {e : Int32} {k : Nat} (hk : k = e.toInt.toNat) (hk2 : k < 1100) : e ≤ nI k := (i_le_n (by omega)).mpr (by omega)
theorem nle_nI_of {e : Int32} {k : Nat} (hk : k < e.toInt.toNat) (hk2 : k < 1100) : ¬ e ≤ nI k := fun q => by have := (i_le_n (by omega)).mp q; omega
def dgt (x y : UInt64) : Bool := decide (0 < Op.cmpValue (FP.dcmp x y) .l)
def dle (x y : UInt64) : Bool := decide (Op.cmpValue (FP.dcmp x y) .g ≤ 0)
def rmA (x : UInt64) : Nat → UInt64 → Nat → UInt64 × Nat
  | 0, p, i => (p, i)
  | k + 1, p, i => if dle (FP.dmul p d2c) x = true then rmA x k (FP.dmul p d2c) (i + 1) else (p, i)
def rmB : Nat → UInt64 → UInt64 → UInt64
  | 0, l, _ => l
  | k + 1, l, p => rmB k (if dge l p = true then FP.dsub l p else l) (FP.ddiv p d2c)
def okA (x : UInt64) : Nat → UInt64 → Prop
  | 0, _ => True
  | k + 1, p => vf_n64 (FP.dmul p d2c) ∧ (dle (FP.dmul p d2c) x = true → okA x k (FP.dmul p d2c))
def okB : Nat → UInt64 → UInt64 → Prop
  | 0, _, _ => True
  | k + 1, l, p => (dge l p = true → vf_n64 (FP.dsub l p)) ∧ vf_n64 (FP.ddiv p d2c) ∧ okB k (if dge l p = true then FP.dsub l p else l) (FP.ddiv p d2c)
def rmF (x y : UInt64) : UInt64 := if dgt y FP.dconst0 = true then rmB ((rmA x 1100 y 0).2 + 1) x (rmA x 1100 y 0).1 else FP.dconst0
def okRm (x y : UInt64) : Prop := dgt y FP.dconst0 = true → okA x 1100 y ∧ okB ((rmA x 1100 y 0).2 + 1) x (rmA x 1100 y 0).1
theorem rmA_le {x : UInt64} : ∀ (k : Nat) (p : UInt64) (i : Nat), (rmA x k p i).2 ≤ i + k := by
  intro k
  induction k with
  | zero => intro p i; exact Nat.le_refl _
  | succ k ih =>
    intro p i
    unfold rmA
    split
    · have := ih (FP.dmul p d2c) (i + 1); omega
    · show i ≤ i + (k + 1); omega