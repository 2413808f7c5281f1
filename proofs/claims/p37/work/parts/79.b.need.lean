/-! the law: what its walk needs -/
theorem lw_26 (t : Nat) : (26 : Int32) * nI t = nI (26 * t) := by
  show _ = Int32.ofNat (26 * t)
  rw [Int32.ofNat_mul]
  rfl
theorem lw_261 (t : Nat) : (26 : Int32) * nI t + 1 = nI (26 * t + 1) := by
  rw [lw_26]
  exact nI_add _ 1
theorem lw_22 (t k : Nat) : (26 : Int32) * nI t + 22 + 2 * nI k = nI (26 * t + 22 + 2 * k) := by
  show _ = Int32.ofNat (26 * t + 22 + 2 * k)
  rw [Int32.ofNat_add, Int32.ofNat_add, Int32.ofNat_mul, Int32.ofNat_mul]
  rfl
theorem lw_23 (t k : Nat) : (26 : Int32) * nI t + 23 + 2 * nI k = nI (26 * t + 23 + 2 * k) := by
  show _ = Int32.ofNat (26 * t + 23 + 2 * k)
  rw [Int32.ofNat_add, Int32.ofNat_add, Int32.ofNat_mul, Int32.ofNat_mul]
  rfl
theorem lw_25 (c k : Nat) : (2 : Int32) + 5 * nI c + nI k = nI (2 + 5 * c + k) := by
  rw [e25]
  exact nI_add _ k
theorem lw_n1 {n : Nat} (h : 0 < n) : nI n - 1 = nI (0 + (n - 1)) := by
  have := nI_pd (a := 0) h
  rwa [Nat.zero_add] at this
theorem lw_sub {n a : Nat} (h : a ≤ n) : nI n - nI a = nI (n - a) := by
  have e : nI n = nI (n - a) + nI a := by rw [nI_add]; congr 1; omega
  rw [e, Int32.add_sub_cancel]
theorem isLw_apps {sh l : List PSh} (h : isLw sh) : isLw (sh ++ l) := by
  have key : ∀ (i : Nat) (v : PSh), sh[i]? = some v → (sh ++ l)[i]? = some v := fun i v q => by
    rw [List.getElem?_append_left (List.getElem?_eq_some_iff.mp q).1]
    exact q
  unfold isLw isEl isPg isSt isSk isBe isSg isTp isSs isSt isSg at h ⊢
  repeat' apply And.intro
  all_goals (apply key; simp_all)
theorem id_F {S : PSt} {N c : Nat} (hi : cIv S N) (hc : c < N) : fF (idG (S.1 3) c) := by
  obtain ⟨⟨m, hm, _⟩, _⟩ := id_fu (hi.2.2.1 c hc)
  exact hm.1
theorem set_back {S : PSt} {a j : Nat} {v w : Int32} (h : S.1 a j = v) : pSI (pSI S a j w) a j v = S := by
  refine Prod.ext ?_ rfl
  funext x y
  show (if x = a ∧ y = j then v else (if x = a ∧ y = j then w else S.1 x y)) = S.1 x y
  by_cases e : x = a ∧ y = j
  · rw [if_pos e, e.1, e.2, h]
  · rw [if_neg e, if_neg e]
theorem spr_U {B : PSt} {a : Nat} (h : okC (B.1 3) a) (hk : ¬ B.1 3 (5 * a) = 2) (hd : ¬ 64 ≤ B.1 3 (5 * a + 1)) : ¬ Op.cmpValue (FP.fcmp (idG ((pSI B 3 (5 * a + 1) (B.1 3 (5 * a + 1) + 1)).1 3) a) (idG (B.1 3) a)) .g < 0 := by
  have e1 : (pSI B 3 (5 * a + 1) (B.1 3 (5 * a + 1) + 1)).1 3 (5 * a + 1) = B.1 3 (5 * a + 1) + 1 := pSI_at
  have e0 : (pSI B 3 (5 * a + 1) (B.1 3 (5 * a + 1) + 1)).1 3 (5 * a + 0) = B.1 3 (5 * a + 0) := pSI_j (by omega)
  unfold idG
  rw [e0, e1]
  exact spr_mono h hk hd
theorem fl_sh {S T : PSt} (h : frL S T) (hs : cSh S) : cSh T := fun s q => by
  rw [fl_at h (by decide)]
  exact hs s q
/-- behind the widths, till the image is put back -/
def wI (S0 : PSt) (n : Nat) (B : PSt) : Prop := (∀ x, 8 ≤ x → x < 15 → B.1 x = S0.1 x) ∧ B.1 0 = S0.1 0 ∧ B.1 70 0 = nI n ∧ (∀ j, j < 5 * n → B.1 70 (2 + j) = S0.1 3 j) ∧ okWd (B.1 1 2)
theorem wI_k {S0 B : PSt} {n : Nat} (h : kI S0 n B) : wI S0 n B := by
  obtain ⟨h1, h2, h3⟩ := h
  refine ⟨fun x a b => h1 x (by omega) (by omega) (by omega) (by omega) (by omega), h1 0 (by decide) (by decide) (by decide) (by decide) (by decide), h3.1, fun j hj => ?_, h2.2.2.2⟩
  rw [h3.2.2 j hj, h1 3 (by decide) (by decide) (by decide) (by decide) (by decide)]
theorem wI_o {S0 B C : PSt} {n : Nat} (h : wI S0 n B) (h1 : ∀ x, 8 ≤ x → x < 15 → C.1 x = B.1 x) (h2 : C.1 0 = B.1 0) (h3 : C.1 70 = B.1 70) (h4 : C.1 1 2 = B.1 1 2) : wI S0 n C := by
  obtain ⟨a1, a2, a3, a4, a5⟩ := h
  exact ⟨fun x q1 q2 => (h1 x q1 q2).trans (a1 x q1 q2), h2.trans a2, by rw [h3]; exact a3, fun j hj => by rw [h3]; exact a4 j hj, by rw [h4]; exact a5⟩
theorem clr_o {S : PSt} {v n : Int32} {x : Nat} (h : x ≠ 4) (h5 : x ≠ 5) (h6 : x ≠ 6) (h7 : x ≠ 7) : (clr S 1 0 v n 12).1 x = S.1 x := by
  funext j
  show (if x = 1 + 5 ∧ j = 0 then _ else if x = 1 + 6 ∧ j = 0 then _ else if x = 1 + 3 + 1 ∧ _ then _ else S.1 x j) = S.1 x j
  rw [if_neg (fun q => h6 (by omega)), if_neg (fun q => h7 (by omega)), if_neg (fun q => h5 (by omega))]
theorem clr_6 {S : PSt} {v n : Int32} : (clr S 1 0 v n 12).1 6 0 = v := by simp [clr]
theorem clr_7 {S : PSt} {v n : Int32} {j : Nat} : (clr S 1 0 v n 12).1 7 j = if j = 0 then (if v = -1 then 0 else n) else S.1 7 j := by
  unfold clr
  dsimp only
  by_cases h : j = 0 <;> simp [h]
theorem clr_55 {S : PSt} {v n : Int32} : (clr S 1 0 v n 12).1 5 5 = -1 := by simp [clr]
theorem cp_so {S : PSt} {x : Nat} (h : x ≠ 5) : (cpS S 5 1 3 0 5).1 x = S.1 x := by
  funext j
  exact if_neg (fun q => h q.1)
theorem cp_s5 {S : PSt} {j : Nat} (h : j < 5) : (cpS S 5 1 3 0 5).1 5 (5 + j) = S.1 3 j := by
  unfold cpS
  dsimp only
  rw [if_pos ⟨rfl, by omega, by omega⟩, show 5 * 0 + (5 + j - 5 * 1) = j by omega]
/-- the shelf that was told: what stands -/
def shI (B : PSt) (n : Nat) : Prop := cIv B n ∧ cSh B ∧ B.1 6 0 = 0 ∧ B.1 7 0 = 2
theorem sh_1 {B : PSt} {n : Nat} (hi : cIv B n) (hs : cSh B) : shI (clr B 1 0 0 2 12) n := by
  refine ⟨?_, fun s q => ?_, clr_6, clr_7⟩
  · unfold cIv
    rw [clr_o (by decide) (by decide) (by decide) (by decide), clr_o (by decide) (by decide) (by decide) (by decide)]
    exact hi
  · rw [clr_7]
    split
    · decide
    · exact hs s q
theorem sh_2 {B : PSt} {n : Nat} (h : shI B n) : shI (cpS B 5 1 3 0 5) n := by
  obtain ⟨h1, h2, h3, h4⟩ := h
  refine ⟨?_, fun s q => ?_, ?_, ?_⟩
  · unfold cIv
    rw [cp_so (by decide), cp_so (by decide)]
    exact h1
  · rw [cp_so (by decide)]; exact h2 s q
  · rw [cp_so (by decide)]; exact h3
  · rw [cp_so (by decide)]; exact h4
theorem fetA {B T U : PSt} {n : Nat} {r9 : Option Value} (h : shI B n) (hf : frL (cpS B 5 1 3 0 5) T) (h3 : B.1 3 0 = 0) (hp : pA (oFetch (T.1 6) (T.1 7) (T.1 5) 0 1 1) T T r9 U) : r9 = some (.int (B.1 3 1)) ∧ frL (cpS B 5 1 3 0 5) U := by
  have h2 := sh_2 h
  have e5 : (cpS B 5 1 3 0 5).1 5 5 = B.1 3 0 := cp_s5 (j := 0) (by decide)
  have e6 : (cpS B 5 1 3 0 5).1 5 6 = B.1 3 1 := cp_s5 (j := 1) (by decide)
  have q := rd_fetch hf hp
  rw [fet_1 h2.2.2.1 h2.2.2.2 (by rw [e5, h3]; decide), e6] at q
  exact q
theorem fetB {B T U : PSt} {r9 : Option Value} (h6 : B.1 6 0 = 0) (h7 : B.1 7 0 = 2) (h5 : B.1 5 5 = -1) (hf : frL B T) (hp : pA (oFetch (T.1 6) (T.1 7) (T.1 5) 0 1 1) T T r9 U) : r9 = some (.int (-2147483002)) ∧ frL B U := by
  have q := rd_fetch hf hp
  rw [fet_2 h6 h7 h5] at q
  exact q
theorem wI_z {S0 B C : PSt} {n : Nat} (h : wI S0 n B) (hz : muZ B C) : wI S0 n C := by
  obtain ⟨m1, m2, -, -, m5, -⟩ := hz
  exact wI_o h (fun x a b => m1 x b (by omega) (by omega)) (m1 0 (by decide) (by decide) (by decide)) m2 m5
/-- the image is back -/
def bI (t n : Nat) (E : PSt) : Prop := cIv E n ∧ eOk E n ∧ cTp E 0 ∧ cSh E
theorem bI_of {D : PSt} {n t : Nat} (h1 : cIv D n) (h2 : cTp D 0) (h3 : cSh D) (h4 : eN1 D n) : bI t n (pSI D 70 1 (D.1 1 2)) := by
  refine ⟨?_, ⟨?_, ?_, fun j hj => ?_⟩, ?_, fun s q => ?_⟩
  · unfold cIv
    rw [pSI_ne (by decide), pSI_ne (by decide)]
    exact h1
  · rw [pSI_j (by decide)]; exact h4.1
  · rw [pSI_at, pSI_ne (by decide)]
  · rw [pSI_j (by omega), pSI_ne (by decide)]; exact h4.2 j hj
  · unfold cTp
    rw [pSI_ne (by decide)]
    exact h2
  · rw [pSI_ne (by decide)]; exact h3 s q
theorem tI_next {E : PSt} {n t : Nat} (h : bI t n E) : tI (t + 1) E := ⟨⟨n, h.1⟩, h.2.2.1, h.2.2.2, h.2.1.2.1, fun q => absurd q (Nat.succ_ne_zero t)⟩
theorem fg4 {a0 a1 a2 a3 a4 a5 a6 a7 a8 a9 a10 a11 : Option Value} (i : Nat) (v : Value) (h : ([a0, a1, a2, a3, none, none, none, none, none, none, none, none] : PL)[i]? = some (some v)) : ([a0, a1, a2, a3, a4, a5, a6, a7, a8, a9, a10, a11] : PL)[i]? = some (some v) := by
  match i, h with
  | 0, h => exact h
  | 1, h => exact h
  | 2, h => exact h
  | 3, h => exact h
  | 4, h => exact absurd h (by simp)
  | 5, h => exact absurd h (by simp)
  | 6, h => exact absurd h (by simp)
  | 7, h => exact absurd h (by simp)
  | 8, h => exact absurd h (by simp)
  | 9, h => exact absurd h (by simp)
  | 10, h => exact absurd h (by simp)
  | 11, h => exact absurd h (by simp)
  | n + 12, h => exact absurd h (by simp)
theorem fg7 {a0 a1 a2 a3 a4 a5 a6 a7 a8 a9 a10 a11 : Option Value} (i : Nat) (v : Value) (h : ([a0, a1, a2, a3, a4, a5, a6, none, none, none, none, none] : PL)[i]? = some (some v)) : ([a0, a1, a2, a3, a4, a5, a6, a7, a8, a9, a10, a11] : PL)[i]? = some (some v) := by
  match i, h with
  | 0, h => exact h
  | 1, h => exact h
  | 2, h => exact h
  | 3, h => exact h
  | 4, h => exact h
  | 5, h => exact h
  | 6, h => exact h
  | 7, h => exact absurd h (by simp)
  | 8, h => exact absurd h (by simp)
  | 9, h => exact absurd h (by simp)
  | 10, h => exact absurd h (by simp)
  | 11, h => exact absurd h (by simp)
  | n + 12, h => exact absurd h (by simp)
theorem fg8 {a0 a1 a2 a3 a4 a5 a6 a7 a8 a9 a10 a11 : Option Value} (i : Nat) (v : Value) (h : ([a0, a1, a2, a3, a4, a5, a6, a7, none, none, none, none] : PL)[i]? = some (some v)) : ([a0, a1, a2, a3, a4, a5, a6, a7, a8, a9, a10, a11] : PL)[i]? = some (some v) := by
  match i, h with
  | 0, h => exact h
  | 1, h => exact h
  | 2, h => exact h
  | 3, h => exact h
  | 4, h => exact h
  | 5, h => exact h
  | 6, h => exact h
  | 7, h => exact h
  | 8, h => exact absurd h (by simp)
  | 9, h => exact absurd h (by simp)
  | 10, h => exact absurd h (by simp)
  | 11, h => exact absurd h (by simp)
  | n + 12, h => exact absurd h (by simp)
