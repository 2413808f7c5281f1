/-! what the further calls come to; music as a list of signs -/
def oShelf (s kind n : Int32) : POut := if pWi s 0 2 = true then (if kind = -1 ∨ pAl 0 kind = true then (if pWi n 0 12 = true then (0, 1) else (1, 0)) else (1, 0)) else (1, 0)
def oStore (K Z : Nat → Int32) (g : Nat → Int32) (N : Nat) (s i c : Int32) : POut := if pWi s 0 2 = true then (if isCoB N c = true then (if hnB (K (tN s)) (Z (tN s)) i = true then (if K (tN s) = g (5 * tN c + 0) then (0, 1) else (5, 0)) else (7, 0)) else (1, 0)) else (1, 0)
def plN (s i : Int32) : Nat := 12 * tN s + tN i
def oFetch (K Z Q : Nat → Int32) (s i what : Int32) : POut := if pWi s 0 2 = true then (if pWi what 0 3 = true then (if hnB (K (tN s)) (Z (tN s)) i = true then (if Q (5 * plN s i) = -1 then (2, 0) else (0, if what = 3 then topG Q (plN s i) else Q (5 * plN s i + tN what))) else (7, 0)) else (1, 0)) else (1, 0)
def oComes (K Z Q : Nat → Int32) (N : Nat) (s i : Int32) : POut := if pWi s 0 2 = true then (if hnB (K (tN s)) (Z (tN s)) i = true then (if Q (5 * plN s i) = -1 then (2, 0) else if N = 32 then (4, 0) else (0, nI N)) else (7, 0)) else (1, 0)
def oSheet (s q n : Int32) : POut := if pWi s 0 3 = true then (if pWi q (-1) 3 = true then (if q = -1 then (0, 1) else if n < 0 then (3, 0) else if 40 < n then (1, 0) else (0, 1)) else (1, 0)) else (1, 0)
def oPut (Q R : Nat → Int32) (s i k : Int32) : POut := if pWi s 0 3 = true then (if pWi k 0 20 = true then (if hnB (Q (tN s)) (R (tN s)) i = true then (0, 1) else (7, 0)) else (1, 0)) else (1, 0)
def spN (s i : Int32) : Nat := 40 * tN s + tN i
def putF (v : Int64) (k : Int32) : UInt32 := FP.fdiv (FP.l2f v) (FP.i2f (1 <<< (k &&& 31)))
def putD (v : Int64) (k : Int32) : UInt64 := FP.ddiv (FP.l2d v) (FP.i2d (1 <<< (k &&& 31)))
def putV (q : Int32) (v : Int64) (k : Int32) : Int64 := if q = 0 then (putF v k).toInt32.toInt64 else if q = 1 then (putD v k).toInt64 else if q = 2 then v.toInt32.toInt16.toInt32.toInt64 else v.toInt32.toInt64
def oBits (Q R : Nat → Int32) (M : Nat → Int64) (s i : Int32) : Nat × Int64 := if pWi s 0 3 = true then (if hnB (Q (tN s)) (R (tN s)) i = true then (0, M (spN s i)) else (7, 0)) else (1, 0)
def casV (q : Int32) (m : Int64) : Int32 := if q = 0 then aiF 0 m else if q = 1 then aiF 1 m else m.toInt32
def oCast (Q R : Nat → Int32) (M : Nat → Int64) (s i : Int32) : POut := if pWi s 0 3 = true then (if hnB (Q (tN s)) (R (tN s)) i = true then (0, casV (Q (tN s)) (M (spN s i))) else (7, 0)) else (1, 0)
def nouV (q : Int32) (m : Int64) : Bool := if q = 0 then decide (Op.cmpValue (FP.dcmp (szF 0 m) FP.dconst0) .l = 0) else if q = 1 then decide (Op.cmpValue (FP.dcmp (szF 1 m) FP.dconst0) .l = 0) else decide (m = 0)
def resV (q : Int32) (a b : Int64) : Int64 := if q = 0 then rdW 0 a b else if q = 1 then rdW 1 a b else a - a / b * b
def oRest (Q R : Nat → Int32) (M : Nat → Int64) (s i j : Int32) : POut := if pWi s 0 3 = true then (if hnB (Q (tN s)) (R (tN s)) i = true then (if hnB (Q (tN s)) (R (tN s)) j = true then (if nouV (Q (tN s)) (M (spN s j)) = true then (6, 0) else (0, 1)) else (7, 0)) else (7, 0)) else (1, 0)
def layV (q : Int32) (x : UInt32) : Int64 := if q = 0 then x.toInt32.toInt64 else if q = 1 then (FP.f2d x).toInt64 else if q = 2 then (FP.f2i x).toInt16.toInt32.toInt64 else (FP.f2i x).toInt64
/-- how many are laid -/
def layN (R : Int32) (n : Nat) : Nat := min R.toInt.toNat n
def oLays (Q R : Nat → Int32) (N : Nat) (s a b : Int32) : POut := if pWi s 0 3 = true then (if isStB N a b = true then (if Q (tN s) = -1 then (7, 0) else (0, nI (layN (R (tN s)) (lnN a b)))) else (1, 0)) else (1, 0)
def lyS (S : PSt) (s : Nat) (q : Int32) (f : Nat → UInt32) (k : Nat) : PSt := (S.1, S.2.1, fun c j => if c = 68 ∧ 40 * s ≤ j ∧ j < 40 * s + k then layV q (f (j - 40 * s)) else S.2.2.1 c j, S.2.2.2)
theorem lyS_0 {S : PSt} {s : Nat} {q : Int32} {f : Nat → UInt32} : lyS S s q f 0 = S := by
  unfold lyS
  refine Prod.ext rfl (Prod.ext rfl (Prod.ext (funext fun c => funext fun j => ?_) rfl))
  dsimp only
  rw [if_neg (by omega)]
theorem lyS_s {S : PSt} {s : Nat} {q : Int32} {f : Nat → UInt32} {k : Nat} : pSJ (lyS S s q f k) 68 (40 * s + k) (layV q (f k)) = lyS S s q f (k + 1) := by
  unfold lyS pSJ pU
  refine Prod.ext rfl (Prod.ext rfl (Prod.ext (funext fun c => funext fun j => ?_) rfl))
  dsimp only
  by_cases hj : c = 68 ∧ j = 40 * s + k
  · obtain ⟨rfl, rfl⟩ := hj
    rw [if_pos ⟨rfl, rfl⟩, if_pos ⟨rfl, by omega, by omega⟩, Nat.add_sub_cancel_left]
  · rw [if_neg hj]
    by_cases h2 : c = 68 ∧ 40 * s ≤ j ∧ j < 40 * s + k
    · rw [if_pos h2, if_pos ⟨h2.1, h2.2.1, by omega⟩]
    · rw [if_neg h2, if_neg (fun q9 => h2 ⟨q9.1, q9.2.1, by omega⟩)]
/-- the signs on shelves, by kinds K, sizes Z, signs Q -/
def cnK (K Z Q : Nat → Int32) (s : Nat) : Nat → Nat
  | 0 => 0
  | k + 1 => cnK K Z Q s k + (if hnB (K s) (Z s) (nI k) = true ∧ ¬ Q (5 * (12 * s + k)) = -1 then 1 else 0)
def cnA (K Z Q : Nat → Int32) : Nat → Nat
  | 0 => 0
  | s + 1 => cnA K Z Q s + cnK K Z Q s 12
theorem cnS_K {S : PSt} {s : Nat} : ∀ k, cnS S 1 s k = cnK (S.1 6) (S.1 7) (S.1 5) s k := by
  intro k
  induction k with
  | zero => rfl
  | succ k ih => unfold cnS cnK; rw [ih]; rfl
theorem cnT_A {S : PSt} : ∀ s, cnT S 1 s = cnA (S.1 6) (S.1 7) (S.1 5) s := by
  intro s
  induction s with
  | zero => rfl
  | succ s ih => unfold cnT cnA; rw [ih, cnS_K]
def oCount (g : Nat → Int32) (w : Int32) (N z : Nat) (K Z Q : Nat → Int32) (what : Int32) : POut := if what = 0 then (0, nI N) else if what = 1 then (0, w) else if what = 2 then (0, nI z) else if what = 3 then (0, nI (cntN g N)) else if what = 4 then (0, sumD g N) else if what = 5 then (0, nI (cnA K Z Q 3)) else (1, 0)
def oTold (E : Nat → Int32) (k : Int32) : POut := if pWi k 1 7 = true then (0, E (tN k)) else (1, 0)
def oFeed (z : Nat) (b : Int32) : POut := if pWi b 0 255 = true then (if z = 160 then (4, 0) else (0, nI (z + 1))) else (1, 0)
/-- a text of music: the fault (-1: none), the signs -/
abbrev PSg : Type := Int32 × Int32 × Int32 × Int32
def muP (b : Nat → Int32) (z : Nat) : Nat → Nat → Int32 × List PSg
  | 0, p => (nI p, [])
  | k + 1, p => match sgF b z p with
    | .inr f => (nI f, [])
    | .inl q => if z ≤ q.2.2.2 + adF b z 9 q.2.2.2 then (-1, [(q.1, q.2.1, q.2.2.1, nI (adF b z 9 q.2.2.2))])
      else if nxB b z (q.2.2.2 + adF b z 9 q.2.2.2) 32 = true then ((muP b z k (q.2.2.2 + adF b z 9 q.2.2.2 + 1)).1, (q.1, q.2.1, q.2.2.1, nI (adF b z 9 q.2.2.2)) :: (muP b z k (q.2.2.2 + adF b z 9 q.2.2.2 + 1)).2)
      else (nI (q.2.2.2 + adF b z 9 q.2.2.2), [(q.1, q.2.1, q.2.2.1, nI (adF b z 9 q.2.2.2))])
/-- the signs from m on lie in the array of signs -/
def muL (S : PSt) (r m : Nat) (l : List PSg) : Prop := ∀ i q, l[i]? = some q → m + i < 32 → S.1 (r + 3) (5 * (m + i) + 0) = q.1 ∧ S.1 (r + 3) (5 * (m + i) + 1) = q.2.1 ∧ S.1 (r + 3) (5 * (m + i) + 2) = q.2.2.1 ∧ S.1 (r + 3) (5 * (m + i) + 3) = 2 ∧ S.1 (r + 3) (5 * (m + i) + 4) = q.2.2.2
/-- nothing but the read place, the count and the signs changes -/
def muK (S T : PSt) (r : Nat) : Prop := (∀ x, x ≠ r → x ≠ r + 3 → T.1 x = S.1 x) ∧ (∀ j, j ≠ 3 → j ≠ 4 → T.1 r j = S.1 r j) ∧ T.2 = S.2
theorem muK_tr {S T U : PSt} {r : Nat} (h1 : muK S T r) (h2 : muK T U r) : muK S U r := ⟨fun x a b => (h2.1 x a b).trans (h1.1 x a b), fun j a b => (h2.2.1 j a b).trans (h1.2.1 j a b), h2.2.2.trans h1.2.2⟩
theorem muK_tp {S : PSt} {r p : Nat} : muK S (tpS S r p) r := ⟨fun x h _ => tp_b h, fun j _ h => tp_z h, rfl⟩
theorem kpS_2 {S : PSt} {r m : Nat} {k d s a : Int32} : (kpS S r m k d s a).2 = S.2 := by
  unfold kpS
  split <;> rfl
theorem muK_kp {S : PSt} {r m : Nat} {k d s a : Int32} : muK S (kpS S r m k d s a) r := ⟨fun x h h2 => kpS_b h2 h, fun j h _ => kpS_f h, kpS_2⟩
theorem kpS_in {S : PSt} {r m : Nat} {k d s a : Int32} (h : m < 32) : (kpS S r m k d s a).1 (r + 3) (5 * m + 0) = k ∧ (kpS S r m k d s a).1 (r + 3) (5 * m + 1) = d ∧ (kpS S r m k d s a).1 (r + 3) (5 * m + 2) = s ∧ (kpS S r m k d s a).1 (r + 3) (5 * m + 3) = 2 ∧ (kpS S r m k d s a).1 (r + 3) (5 * m + 4) = a := by
  unfold kpS
  rw [if_pos h]
  simp [ly5, pSI, pU]
theorem kpS_out {S : PSt} {r m j : Nat} {k d s a : Int32} (h : j < 5 * m) : (kpS S r m k d s a).1 (r + 3) j = S.1 (r + 3) j := by
  unfold kpS
  split
  · simp only [ly5, pSI, pU]
    rw [if_neg (by omega), if_neg (by omega), if_neg (by omega), if_neg (by omega), if_neg (by omega), if_neg (by omega)]
  · simp only [pSI, pU]
    rw [if_neg (by omega)]
theorem tp_3 {S : PSt} {r p : Nat} : (tpS S r p).1 (r + 3) = S.1 (r + 3) := tp_b (by omega)
/-- what readMusic leaves -/
theorem muS_P {r z : Nat} : ∀ (k : Nat) (S : PSt) (p m : Nat), S.1 r 3 = nI m →
    (muS r z k S p m).1 = (muP (S.1 (r + 1)) z k p).1 ∧ muK S (muS r z k S p m).2 r ∧ (muS r z k S p m).2.1 r 3 = nI (m + (muP (S.1 (r + 1)) z k p).2.length) ∧ muL (muS r z k S p m).2 r m (muP (S.1 (r + 1)) z k p).2 ∧ (∀ j, j < 5 * m → (muS r z k S p m).2.1 (r + 3) j = S.1 (r + 3) j) := by
  intro k
  induction k with
  | zero =>
    intro S p m hm
    exact ⟨rfl, muK_tp, by rw [show (muS r z 0 S p m).2 = tpS S r p from rfl, tp_z (by decide)]; exact hm, fun i q h => by simp [muP] at h, fun j _ => by rw [show (muS r z 0 S p m).2 = tpS S r p from rfl, tp_3]⟩
  | succ k ih =>
    intro S p m hm
    cases hs : sgF (S.1 (r + 1)) z p with
    | inr f =>
      have e1 : muS r z (k + 1) S p m = (nI f, tpS S r f) := by rw [muS, hs]
      have e2 : muP (S.1 (r + 1)) z (k + 1) p = (nI f, []) := by rw [muP, hs]
      rw [e1, e2]
      exact ⟨rfl, muK_tp, by rw [tp_z (by decide)]; exact hm, fun i q h => by simp at h, fun j _ => by rw [tp_3]⟩
    | inl q =>
      have hb : (kpS S r m q.1 q.2.1 q.2.2.1 (nI (adF (S.1 (r + 1)) z 9 q.2.2.2))).1 (r + 1) = S.1 (r + 1) := kpS_b (by omega) (by omega)
      have hone : ∀ p2, muL (tpS (kpS S r m q.1 q.2.1 q.2.2.1 (nI (adF (S.1 (r + 1)) z 9 q.2.2.2))) r p2) r m [(q.1, q.2.1, q.2.2.1, nI (adF (S.1 (r + 1)) z 9 q.2.2.2))] := by
        intro p2 i q2 h hi
        have hi0 : i = 0 := by
          rcases i with _ | i
          · rfl
          · simp at h
        subst hi0
        have hq2 : (q.1, q.2.1, q.2.2.1, nI (adF (S.1 (r + 1)) z 9 q.2.2.2)) = q2 := by simpa using h
        subst hq2
        rw [tp_3]
        exact kpS_in hi
      by_cases h1 : z ≤ q.2.2.2 + adF (S.1 (r + 1)) z 9 q.2.2.2
      · have e1 : muS r z (k + 1) S p m = (-1, tpS (kpS S r m q.1 q.2.1 q.2.2.1 (nI (adF (S.1 (r + 1)) z 9 q.2.2.2))) r (q.2.2.2 + adF (S.1 (r + 1)) z 9 q.2.2.2)) := by rw [muS, hs]; simp only []; rw [if_pos h1]
        have e2 : muP (S.1 (r + 1)) z (k + 1) p = (-1, [(q.1, q.2.1, q.2.2.1, nI (adF (S.1 (r + 1)) z 9 q.2.2.2))]) := by rw [muP, hs]; simp only []; rw [if_pos h1]
        rw [e1, e2]
        exact ⟨rfl, muK_tr muK_kp muK_tp, by rw [tp_z (by decide)]; exact kpS_m, hone _, fun j hj => by rw [tp_3]; exact kpS_out hj⟩
      · by_cases h2 : nxB (S.1 (r + 1)) z (q.2.2.2 + adF (S.1 (r + 1)) z 9 q.2.2.2) 32 = true
        · have e1 : muS r z (k + 1) S p m = muS r z k (kpS S r m q.1 q.2.1 q.2.2.1 (nI (adF (S.1 (r + 1)) z 9 q.2.2.2))) (q.2.2.2 + adF (S.1 (r + 1)) z 9 q.2.2.2 + 1) (m + 1) := by rw [muS, hs]; simp only []; rw [if_neg h1, if_pos h2]
          have e2 : muP (S.1 (r + 1)) z (k + 1) p = ((muP (S.1 (r + 1)) z k (q.2.2.2 + adF (S.1 (r + 1)) z 9 q.2.2.2 + 1)).1, (q.1, q.2.1, q.2.2.1, nI (adF (S.1 (r + 1)) z 9 q.2.2.2)) :: (muP (S.1 (r + 1)) z k (q.2.2.2 + adF (S.1 (r + 1)) z 9 q.2.2.2 + 1)).2) := by rw [muP, hs]; simp only []; rw [if_neg h1, if_pos h2]
          obtain ⟨i1, i2, i3, i4, i5⟩ := ih (kpS S r m q.1 q.2.1 q.2.2.1 (nI (adF (S.1 (r + 1)) z 9 q.2.2.2))) (q.2.2.2 + adF (S.1 (r + 1)) z 9 q.2.2.2 + 1) (m + 1) kpS_m
          rw [hb] at i1 i3 i4
          rw [e1, e2]
          refine ⟨i1, muK_tr muK_kp i2, by rw [i3]; congr 1; simp only [List.length_cons]; omega, ?_, fun j hj => (i5 j (by omega)).trans (kpS_out hj)⟩
          intro i q2 h hi
          cases i with
          | zero =>
            have hq2 : (q.1, q.2.1, q.2.2.1, nI (adF (S.1 (r + 1)) z 9 q.2.2.2)) = q2 := by simpa using h
            subst hq2
            have hk := kpS_in (S := S) (r := r) (k := q.1) (d := q.2.1) (s := q.2.2.1) (a := nI (adF (S.1 (r + 1)) z 9 q.2.2.2)) (show m < 32 by omega)
            exact ⟨(i5 (5 * m + 0) (by omega)).trans hk.1, (i5 (5 * m + 1) (by omega)).trans hk.2.1, (i5 (5 * m + 2) (by omega)).trans hk.2.2.1, (i5 (5 * m + 3) (by omega)).trans hk.2.2.2.1, (i5 (5 * m + 4) (by omega)).trans hk.2.2.2.2⟩
          | succ i =>
            have := i4 i q2 (by simpa using h) (by omega)
            rw [show m + 1 + i = m + (i + 1) by omega] at this
            exact this
        · have e1 : muS r z (k + 1) S p m = (nI (q.2.2.2 + adF (S.1 (r + 1)) z 9 q.2.2.2), tpS (kpS S r m q.1 q.2.1 q.2.2.1 (nI (adF (S.1 (r + 1)) z 9 q.2.2.2))) r (q.2.2.2 + adF (S.1 (r + 1)) z 9 q.2.2.2)) := by rw [muS, hs]; simp only []; rw [if_neg h1, if_neg h2]
          have e2 : muP (S.1 (r + 1)) z (k + 1) p = (nI (q.2.2.2 + adF (S.1 (r + 1)) z 9 q.2.2.2), [(q.1, q.2.1, q.2.2.1, nI (adF (S.1 (r + 1)) z 9 q.2.2.2))]) := by rw [muP, hs]; simp only []; rw [if_neg h1, if_neg h2]
          rw [e1, e2]
          exact ⟨rfl, muK_tr muK_kp muK_tp, by rw [tp_z (by decide)]; exact kpS_m, hone _, fun j hj => by rw [tp_3]; exact kpS_out hj⟩
/-- what a text of music comes to -/
def oMusic (R : Int32 × List PSg) : POut := if R.1 = -1 then (if 32 < R.2.length then (4, 0) else (0, nI R.2.length)) else (0, -10 - R.1)
