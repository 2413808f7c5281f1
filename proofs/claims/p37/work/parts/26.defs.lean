/-! what the calls answer, by the columns -/
def isStB (N : Nat) (a b : Int32) : Bool := decide (0 ≤ a.toInt ∧ a.toInt ≤ b.toInt ∧ b.toInt < N)
def isCoB (N : Nat) (c : Int32) : Bool := decide (0 ≤ c.toInt ∧ c.toInt < N)
theorem isSt_of {N : Nat} {a b : Int32} (hN : N ≤ 32) (h : isStB N a b = true) : ∃ x y : Nat, a = nI x ∧ b = nI y ∧ x ≤ y ∧ y < N := by
  have h := of_decide_eq_true h
  refine ⟨a.toInt.toNat, b.toInt.toNat, nI_of0 (by omega), nI_of0 (by omega), by omega, by omega⟩
theorem isCo_of {N : Nat} {c : Int32} (hN : N ≤ 32) (h : isCoB N c = true) : ∃ x : Nat, c = nI x ∧ x < N := by
  have h := of_decide_eq_true h
  exact ⟨c.toInt.toNat, nI_of0 (by omega), by omega⟩
theorem isSt_nI {N x y : Nat} (hN : N ≤ 32) (hx : x ≤ y) (hy : y < N) : isStB N (nI x) (nI y) = true := by
  unfold isStB
  rw [nI_toInt (by omega), nI_toInt (by omega)]
  exact decide_eq_true ⟨by omega, by omega, by omega⟩
theorem isCo_nI {N x : Nat} (hN : N ≤ 32) (hx : x < N) : isCoB N (nI x) = true := by
  unfold isCoB
  rw [nI_toInt (by omega)]
  exact decide_eq_true ⟨by omega, by omega⟩
theorem co_a {N : Nat} {c : Int32} (h : c < 0) : 0 = pB (isCoB N c) := by
  rw [isCoB, decide_eq_false (fun q => by have := i_lt0 h; omega)]; rfl
theorem co_b {N : Nat} {c : Int32} (hN : N ≤ 32) (h : nI N ≤ c) : 0 = pB (isCoB N c) := by
  rw [isCoB, decide_eq_false (fun q => by have := i_ge (n := N) (by omega) h; omega)]; rfl
theorem co_c {N : Nat} {c : Int32} (hN : N ≤ 32) (h1 : ¬ c < 0) (h : ¬ nI N ≤ c) : 1 = pB (isCoB N c) := by
  rw [isCoB, decide_eq_true ⟨i_nlt0 h1, i_nge (n := N) (by omega) h⟩]; rfl
theorem st_a {N : Nat} {a b : Int32} (h : a < 0) : 0 = pB (isStB N a b) := by
  rw [isStB, decide_eq_false (fun q => by have := i_lt0 h; omega)]; rfl
theorem st_b {N : Nat} {a b : Int32} (h : b < a) : 0 = pB (isStB N a b) := by
  rw [Int32.lt_iff_toInt_lt] at h
  rw [isStB, decide_eq_false (fun q => by omega)]; rfl
theorem st_c {N : Nat} {a b : Int32} (hN : N ≤ 32) (h : nI N ≤ b) : 0 = pB (isStB N a b) := by
  rw [isStB, decide_eq_false (fun q => by have := i_ge (n := N) (by omega) h; omega)]; rfl
theorem st_d {N : Nat} {a b : Int32} (hN : N ≤ 32) (h1 : ¬ a < 0) (h2 : ¬ b < a) (h : ¬ nI N ≤ b) : 1 = pB (isStB N a b) := by
  rw [Int32.lt_iff_toInt_lt] at h2
  rw [isStB, decide_eq_true ⟨i_nlt0 h1, by omega, i_nge (n := N) (by omega) h⟩]; rfl
/-- notes, durations among the first k -/
def cntN (g : Nat → Int32) : Nat → Nat
  | 0 => 0
  | k + 1 => if g (5 * k + 0) = 0 then cntN g k + 1 else cntN g k
def sumD (g : Nat → Int32) : Nat → Int32
  | 0 => 0
  | k + 1 => if g (5 * k + 0) = 2 then sumD g k else sumD g k + g (5 * k + 1)
def inkV (g : Nat → Int32) (up : Bool) (c : Nat) : Int32 := if up = true then topG g c else 0 - botG g c
def endV (g : Nat → Int32) (up : Bool) (x y : Nat) : Int32 := mxI (inkV g up x) (inkV g up y)
def bowV (m i : Nat) : Int32 := mnI (2 * mnI (nI i) (nI m + 1 - nI i)) 6
def slhV (g : Nat → Int32) (up : Bool) (x y : Nat) : Nat → Int32
  | 0 => 0
  | k + 1 => mxI (slhV g up x y k) (inkV g up (x + (k + 1)) + 1 - endV g up x y - bowV (y - x - 1) (k + 1))
/-- the height of a slur on a side -/
def sluV (g : Nat → Int32) (up : Bool) (x y : Nat) : Int32 := slhV g up x y (y - x - 1)
/-- the first k from x on are notes -/
def ntsV (g : Nat → Int32) (x : Nat) : Nat → Bool
  | 0 => true
  | k + 1 => ntsV g x k && decide (g (5 * (x + k) + 0) = 0)
def stpV (g : Nat → Int32) (x : Nat) : Nat → Int32
  | 0 => 0
  | k + 1 => stpV g x k + g (5 * (x + k) + 2)
/-- a beam goes up -/
def upV (g : Nat → Int32) (x n : Nat) : Bool := decide (stpV g x n < 0)
def riseC (c : Int32) (p : UInt32) : UInt32 := if fgt p FP.fconst0 = true then FP.fdiv (FP.fmul (FP.i2f c) 1056964608) p else FP.fconst0
def qrtV (r : UInt32) : UInt32 := FP.fadd (FP.fmul r 1082130432) 1056964608
def whoV (q : UInt32) : Int32 := if fgt (FP.i2f (FP.f2i q)) q = true then FP.f2i q + (-1) else FP.f2i q
def clpV (s : UInt32) : UInt32 := if flt s 3204448256 = true then 3204448256 else if fgt s 1056964608 = true then 1056964608 else s
def sloC (r : UInt32) : UInt32 := clpV (FP.fdiv (FP.i2f (whoV (qrtV r))) 1082130432)
def tilC (up : Bool) (s : UInt32) : UInt32 := if up = true then s else FP.fsub FP.fconst0 s
def droC (up : Bool) (t : UInt32) (s : Int32) (p pe : UInt32) : UInt32 := FP.fsub (tilC up (FP.i2f s)) (FP.fmul (FP.fmul t (FP.fsub p pe)) FP.fconst2)
/-- the greatest drop of the first k -/
def grtC (up : Bool) (t : UInt32) (s : Nat → Int32) (p : Nat → UInt32) (pe : UInt32) : Nat → UInt32
  | 0 => FP.fconst0
  | k + 1 => if k = 0 ∨ fgt (droC up t (s k) (p k) pe) (grtC up t s p pe k) = true then droC up t (s k) (p k) pe else grtC up t s p pe k
def lifC (up : Bool) (t : UInt32) (s : Nat → Int32) (p : Nat → UInt32) (pe : UInt32) (n : Nat) : UInt32 := FP.fadd (grtC up t s p pe n) 1084227584
def risV (g : Nat → Int32) (w : Int32) (x y : Nat) : UInt32 := riseC (g (5 * y + 2) - g (5 * x + 2)) (atV g w x (y - x + 1) (y - x))
def sloV (g : Nat → Int32) (w : Int32) (x y : Nat) : UInt32 := sloC (risV g w x y)
def lifV (g : Nat → Int32) (w : Int32) (x y : Nat) : UInt32 := lifC (upV g x (y - x + 1)) (tilC (upV g x (y - x + 1)) (sloV g w x y)) (fun k => g (5 * (x + k) + 2)) (fun k => atV g w x (y - x + 1) k) (atV g w x (y - x + 1) (y - x)) (y - x + 1)
/-- a line of the best stands otherwise under other columns -/
def difV (g g2 : Nat → Int32) (w : Int32) (x n : Nat) : Nat → Bool
  | 0 => false
  | k + 1 => difV g g2 w x n k || !(decide (Op.cmpValue (FP.fcmp (atV g w x n k) (atV g2 w x n k)) .l = 0))
def othV (g g2 : Nat → Int32) (w : Int32) (N k : Nat) : Bool :=
  decide (linV g2 w N ≤ k) || (!(decide (staV g w N k = staV g2 w N k)) || (!(decide (staV g w N (k + 1) = staV g2 w N (k + 1))) || difV g g2 w (staV g w N k) (staV g w N (k + 1) - staV g w N k) (staV g w N (k + 1) - staV g w N k)))
def movN (g g2 : Nat → Int32) (w : Int32) (N : Nat) : Nat → Nat
  | 0 => 0
  | k + 1 => if othV g g2 w N k = true then movN g g2 w N k + 1 else movN g g2 w N k
/-- the answer of a call that ends with the error e (0: none) -/
def ansE (e : Nat) (v : Int32) : Int32 := if e = 0 then v else -2147483000 - nI e
def ansL (e : Nat) (v : Int64) : Int64 := if e = 0 then v else -9000000000000000000 - (nI e).toInt64
def rfS (S : PSt) (e : Nat) : PSt := pSI S 69 e (S.1 69 e + 1)
def rfE (S : PSt) (e : Nat) : PSt := if e = 0 then S else rfS S e
/-- the class at the cells 0 to 69 -/
def isEl (sh : List PSh) : Prop := sh[0]? = some (.inr (7, [1 + 3, 8 + 3, 0, 15 + 3, 22 + 3, 29 + 3, 33 + 3, 37 + 3, 48 + 3, 59 + 3, 61 + 3, 65 + 3, 69 + 3])) ∧ isPg sh 1 ∧ isPg sh 8 ∧ isSt sh 15 ∧ isSt sh 22 ∧ isSk sh 29 ∧ isSk sh 33 ∧ isBe sh 37 ∧ isBe sh 48 ∧ isSg sh 59 ∧ isTp sh 61 ∧ isSs sh 65 ∧ sh[69]? = some (.inl (0, 8))
