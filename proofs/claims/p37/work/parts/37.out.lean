/-! what the calls come to: an error (0: none) and a value -/
abbrev POut : Type := Nat × Int32
def tN (a : Int32) : Nat := a.toNatClampNeg
theorem tN_nI {n : Nat} (h : n < 2 ^ 31) : tN (nI n) = n := nI_clamp h
def oAdd (N : Nat) (k d : Int32) : POut := if pAl 0 k = true then (if pAl 1 d = true then (if N = 32 then (4, 0) else (0, nI N)) else (1, 0)) else (1, 0)
def oDrop (N : Nat) : POut := if N = 0 then (2, 0) else (0, nI (N - 1))
def oSet (g : Nat → Int32) (N : Nat) (c what v : Int32) : POut := if isCoB N c = true then (if pWi what 0 4 = true then (if pAl what v = true then (0, g (5 * tN c + tN what)) else (1, 0)) else (1, 0)) else (1, 0)
def oOf (g : Nat → Int32) (N : Nat) (c what : Int32) : POut := if isCoB N c = true then (if pWi what 0 6 = true then (0, if what < 5 then g (5 * tN c + tN what) else if what = 5 then topG g (tN c) else botG g (tN c)) else (1, 0)) else (1, 0)
def oSpring (g : Nat → Int32) (N : Nat) (c what : Int32) : POut := if isCoB N c = true then (if pWi what 0 2 = true then (0, (if what = 0 then idG g (tN c) else if what = 1 then flG g (tN c) else roG g (tN c)).toInt32) else (1, 0)) else (1, 0)
def oWidth (w v : Int32) : POut := if pWi v 20 380 = true then (0, w) else (1, 0)
def lnN (a b : Int32) : Nat := tN b - tN a + 1
def oForce (g : Nat → Int32) (w : Int32) (N : Nat) (a b : Int32) : POut := if isStB N a b = true then (0, (setV g w (tN a) (lnN a b)).2.toInt32) else (1, 0)
def oHeld (g : Nat → Int32) (w : Int32) (N : Nat) (a b : Int32) : POut := if isStB N a b = true then (0, nI (heldV g w (tN a) (lnN a b))) else (1, 0)
def oAt (g : Nat → Int32) (w : Int32) (N : Nat) (a b i what : Int32) : POut := if isStB N a b = true then (if pWi i a b = true then (if pWi what 0 2 = true then (0, if what = 0 then (lenV g w (tN a) (lnN a b) (tN i - tN a)).toInt32 else if what = 1 then (atV g w (tN a) (lnN a b) (tN i - tN a)).toInt32 else cellV g w (tN a) (lnN a b) (tN i - tN a)) else (1, 0)) else (1, 0)) else (1, 0)
def oBad (g : Nat → Int32) (w : Int32) (N : Nat) (a b : Int32) : POut := if isStB N a b = true then (if fitV g w (tN a) (lnN a b) = true then (0, (badV g w (tN a) (lnN a b)).toInt32) else (2, 0)) else (1, 0)
def skyV (g : Nat → Int32) (w : Int32) (a n : Nat) : Nat → Bool × Int32 × Int32 := skV g w a n n
def oSky (g : Nat → Int32) (w : Int32) (N : Nat) (a b side cell : Int32) : POut := if isStB N a b = true then (if pWi side 0 1 = true then (if pWi cell 0 399 = true then (if (skyV g w (tN a) (lnN a b) (tN cell)).1 = true then (0, if side = 0 then (skyV g w (tN a) (lnN a b) (tN cell)).2.1 else (skyV g w (tN a) (lnN a b) (tN cell)).2.2) else (2, 0)) else (1, 0)) else (1, 0)) else (1, 0)
def oApart (g : Nat → Int32) (w : Int32) (N : Nat) (a b c d : Int32) : POut := if isStB N a b = true then (if isStB N c d = true then (0, apV g w (tN a) (lnN a b) (tN c) (lnN c d)) else (1, 0)) else (1, 0)
def oLines (g : Nat → Int32) (w : Int32) (N : Nat) : POut := if fouV g w N = true then (0, nI (linV g w N)) else (2, 0)
def linA (g : Nat → Int32) (w : Int32) (N k : Nat) (what : Int32) : Int32 :=
  if what = 0 then nI (staV g w N k) else if what = 1 then nI (staV g w N (k + 1) - 1)
  else if what = 2 then cellV g w (staV g w N k) (staV g w N (k + 1) - staV g w N k) (staV g w N (k + 1) - staV g w N k - 1)
  else apV g w (staV g w N k) (staV g w N (k + 1) - staV g w N k) (staV g w N (k + 1)) (staV g w N (k + 2) - staV g w N (k + 1))
def oLine (g : Nat → Int32) (w : Int32) (N : Nat) (k what : Int32) : POut := if fouV g w N = true then (if pWi what 0 3 = true then (if pWi k 0 (nI (linV g w N) - (if what = 3 then 2 else 1)) = true then (0, linA g w N (tN k) what) else (1, 0)) else (1, 0)) else (2, 0)
def oTotal (g : Nat → Int32) (w : Int32) (N : Nat) : POut := if fouV g w N = true then (0, (totV g w N).toInt32) else (2, 0)
/-- a column's step and duration told otherwise (dur 0: as it is) -/
def movG (g : Nat → Int32) (c : Nat) (step dur : Int32) : Nat → Int32 := fun j => if ¬ dur = 0 ∧ j = 5 * c + 1 then dur else if j = 5 * c + 2 then step else g j
def oMoved (g g2 : Nat → Int32) (w : Int32) (N : Nat) (c step dur : Int32) : POut := if isCoB N c = true then (if pAl 2 step = true then (if dur = 0 ∨ pAl 1 dur = true then (if fouV g w N = true ∧ fouV g2 w N = true then (0, nI (movN g g2 w N (linV g w N))) else (2, 0)) else (1, 0)) else (1, 0)) else (1, 0)
def beaA (g : Nat → Int32) (w : Int32) (x y : Nat) (what : Int32) : Int32 := if what = 0 then (risV g w x y).toInt32 else if what = 1 then (sloV g w x y).toInt32 else if what = 2 then pB (upV g x (y - x + 1)) else (lifV g w x y).toInt32
def oBeam (g : Nat → Int32) (w : Int32) (N : Nat) (a b what : Int32) : POut := if isStB N a b = true then (if pWi what 0 3 = true then (if a = b then (3, 0) else if ntsV g (tN a) (lnN a b) = true then (0, beaA g w (tN a) (tN b) what) else (5, 0)) else (1, 0)) else (1, 0)
def sluO (ab be what : Int32) : POut :=
  if what = 0 then (if pWi ab 0 40 = true ∨ pWi be 0 40 = true then (0, if be < ab then 1 else 0) else (2, 0))
  else if what = 2 ∨ (what = 1 ∧ ¬ be < ab) then (if pWi ab 0 40 = true then (0, ab) else (2, 0)) else (if pWi be 0 40 = true then (0, be) else (2, 0))
def oSlur (g : Nat → Int32) (N : Nat) (a b what : Int32) : POut := if isStB N a b = true then (if pWi what 0 3 = true then (if tN b < tN a + 2 then (3, 0) else sluO (sluV g true (tN a) (tN b)) (sluV g false (tN a) (tN b)) what) else (1, 0)) else (1, 0)
/-! the class's columns, as they may be -/
def cIv (S : PSt) (N : Nat) : Prop := S.1 1 1 = nI N ∧ N ≤ 32 ∧ okG (S.1 3) N ∧ okWd (S.1 1 2)
/-- an answer, and contents but for what is free -/
def pA (e : POut) (S U : PSt) : Option Value → PSt → Prop := fun r T => r = some (.int (ansE e.1 e.2)) ∧ fr 15 61 (if e.1 = 0 then U else rfS S e.1) T
theorem pA_ok {e : POut} {S U T : PSt} {v : Int32} (h : e = (0, v)) (hf : fr 15 61 U T) : pA e S U (some (.int v)) T := by
  rw [h]
  exact ⟨rfl, hf⟩
theorem pA_no {e : POut} {S U T : PSt} {k : Nat} (h : e = (k + 1, 0)) (hf : fr 15 61 (rfS S (k + 1)) T) : pA e S U (some (.int (-2147483000 - nI (k + 1)))) T := by
  rw [h]
  exact ⟨rfl, hf⟩
theorem pWi_of {v : Int32} {m : Nat} (hm : m < 2 ^ 31) {M : Int32} (hM : M = nI m) (h : pWi v 0 M = true) : ∃ k, k ≤ m ∧ v = nI k := by
  subst hM
  have h := of_decide_eq_true h
  rw [nI_toInt hm, show (0 : Int32).toInt = 0 from rfl] at h
  exact ⟨v.toInt.toNat, by omega, nI_of0 h.1⟩
theorem pWi_ab {i : Int32} {x y : Nat} (hx : x < 2 ^ 31) (hy : y < 2 ^ 31) (h : pWi i (nI x) (nI y) = true) : ∃ k, x ≤ k ∧ k ≤ y ∧ i = nI k := by
  have h := of_decide_eq_true h
  rw [nI_toInt hx, nI_toInt hy] at h
  exact ⟨i.toInt.toNat, by omega, by omega, nI_of0 (by omega)⟩
/-! a skyline is traced -/
def tlS (S : PSt) (r x y : Nat) : PSt := trS (stl S 15 2 x (S.1 1 2) (y - x + 1)) r 2 15 x (y - x + 1)
theorem f2i_pos {x : UInt32} (hx : fF x) (h : 0 ≤ fz x) : 0 ≤ (FP.f2i x).toInt := by
  rw [f2i_tdiv hx]
  have h1 : 0 ≤ (fz x).tdiv ((2 ^ 149 : Nat) : Int) := Int.tdiv_nonneg h (Int.natCast_nonneg _)
  rw [Int.max_eq_right]
  · rcases Int.le_total (2 ^ 31 - 1) ((fz x).tdiv ((2 ^ 149 : Nat) : Int)) with h2 | h2
    · rw [Int.min_eq_left h2]; decide
    · rw [Int.min_eq_right h2]; exact h1
  · rcases Int.le_total (2 ^ 31 - 1) ((fz x).tdiv ((2 ^ 149 : Nat) : Int)) with h2 | h2
    · rw [Int.min_eq_left h2]; decide
    · rw [Int.min_eq_right h2]; exact Int.le_trans (by decide) h1
theorem stl_q {S : PSt} {x y : Nat} : (stl S 15 2 x (S.1 1 2) (y - x + 1)).1 (2 + 1) = S.1 3 := (fr_stl 3 (by omega)).1
theorem tl_sk {S : PSt} {r x y : Nat} (hn : y - x + 1 ≤ 32) : skR (tlS S r x y) r (skyV (S.1 3) (S.1 1 2) x (y - x + 1)) := by
  have h := trS_rel (S := stl S 15 2 x (S.1 1 2) (y - x + 1)) (r := r) (q := 2) (t := 15) (a := x) (n := y - x + 1) (w := S.1 1 2) (fun k hk => by
    rw [stl_q]
    exact stl_at (r := 15) (q := 2) hn hk) (y - x + 1) (Nat.le_refl _)
  rw [stl_q] at h
  exact h
theorem tl_fr {S : PSt} {r x y : Nat} : fr r (r + 4) (stl S 15 2 x (S.1 1 2) (y - x + 1)) (tlS S r x y) := fr_trS _
