/-! the calls on sheets that change something -/
def ss1 (A B : PSt) (s : Nat) : Prop := A.1 66 s = B.1 89 s ∧ A.1 67 s = B.1 90 s ∧ (0 ≤ (B.1 90 s).toInt ∧ (B.1 90 s).toInt ≤ 40) ∧ okSo (B.1 89 s) ∧ ∀ i, i < 40 → A.2.2.1 68 (40 * s + i) = mM B (40 * s + i) ∧ sF (B.2.1 91 (40 * s + i)) ∧ sD (B.2.2.2 92 (40 * s + i))
theorem st_1 {A B A2 B2 : PSt} {u : Nat} (h : ssN A B) (a : ∀ s, s < 4 → s ≠ u → A2.1 66 s = A.1 66 s ∧ A2.1 67 s = A.1 67 s ∧ B2.1 89 s = B.1 89 s ∧ B2.1 90 s = B.1 90 s ∧ ∀ n, 40 * s ≤ n → n < 40 * s + 40 → A2.2.2.1 68 n = A.2.2.1 68 n ∧ B2.2.1 91 n = B.2.1 91 n ∧ B2.2.2.2 92 n = B.2.2.2 92 n ∧ B2.1 93 n = B.1 93 n) (hu : ss1 A2 B2 u) : ssN A2 B2 := by
  intro s hs
  by_cases e : s = u
  · rw [e]; exact hu
  · obtain ⟨e1, e2, e3, e4, e5⟩ := a s hs e
    obtain ⟨g1, g2, g3, g4, g5⟩ := h s hs
    rw [e1, e2, e3, e4]
    refine ⟨g1, g2, g3, g4, fun i hi => ?_⟩
    obtain ⟨f1, f2, f3, f4⟩ := e5 (40 * s + i) (by omega) (by omega)
    have g := g5 i hi
    rw [mM_at hi] at g ⊢
    unfold mN at g ⊢
    rw [f1, f2, f3, f4, e3]
    exact g
theorem st_n {A B A2 B2 : PSt} {u y : Nat} (hu : u < 4) (hy : y < 40) (h : ssN A B) (a66 : A2.1 66 = A.1 66) (a67 : A2.1 67 = A.1 67) (b89 : B2.1 89 = B.1 89) (b90 : B2.1 90 = B.1 90) (c : ∀ n, n ≠ 40 * u + y → A2.2.2.1 68 n = A.2.2.1 68 n ∧ B2.2.1 91 n = B.2.1 91 n ∧ B2.2.2.2 92 n = B.2.2.2 92 n ∧ B2.1 93 n = B.1 93 n)
    (v : A2.2.2.1 68 (40 * u + y) = mN (B.1 89 u) B2 (40 * u + y) ∧ sF (B2.2.1 91 (40 * u + y)) ∧ sD (B2.2.2.2 92 (40 * u + y))) : ssN A2 B2 := by
  refine st_1 (u := u) h (fun s hs hsu => ⟨by rw [a66], by rw [a67], by rw [b89], by rw [b90], fun n h1 h2 => c n (by omega)⟩) ?_
  obtain ⟨g1, g2, g3, g4, g5⟩ := h u hu
  unfold ss1
  rw [a66, a67, b89, b90]
  refine ⟨g1, g2, g3, g4, fun i hi => ?_⟩
  rw [mM_at hi, b89]
  by_cases e : i = y
  · subst e; exact v
  · obtain ⟨f1, f2, f3, f4⟩ := c (40 * u + i) (by omega)
    have g := g5 i hi
    rw [mM_at hi] at g
    unfold mN at g ⊢
    rw [f1, f2, f3, f4]
    exact g
theorem re_st {N z : Nat} {A B A2 B2 : PSt} (h : reN N z A B) (a : ∀ x, x ≠ 66 → x ≠ 67 → A2.1 x = A.1 x) (b : ∀ x, x ≠ 89 → x ≠ 90 → x ≠ 93 → B2.1 x = B.1 x) (hs : ssN A2 B2) : reN N z A2 B2 := by
  have aa : ∀ x, x < 65 ∨ x = 69 → A2.1 x = A.1 x := fun x hx => a x (by omega) (by omega)
  have bb : ∀ x, x < 88 → B2.1 x = B.1 x := fun x hx => b x (by omega) (by omega) (by omega)
  obtain ⟨i1, i2, i3, i4, i5, i6⟩ := h
  unfold kpR at i3
  unfold tpR at i4
  unfold erR at i6
  unfold reN kpR tpR erR
  rw [aa 0 (by omega), aa 1 (by omega), aa 3 (by omega), aa 5 (by omega), aa 6 (by omega), aa 7 (by omega), aa 8 (by omega), aa 10 (by omega), aa 12 (by omega), aa 13 (by omega), aa 14 (by omega), aa 61 (by omega), aa 62 (by omega), aa 69 (by omega), bb 70 (by omega), bb 71 (by omega), bb 72 (by omega), bb 73 (by omega), bb 87 (by omega)]
  exact ⟨i1, i2, i3, i4, hs, i6⟩
theorem mN_0 {S : PSt} {n : Nat} : mN 0 S n = (S.2.1 91 n).toInt32.toInt64 := if_pos rfl
theorem mN_1 {S : PSt} {n : Nat} : mN 1 S n = (S.2.2.2 92 n).toInt64 := by unfold mN; rw [if_neg (by decide), if_pos rfl]
theorem mN_2 {q : Int32} {S : PSt} {n : Nat} (h0 : ¬ q = 0) (h1 : ¬ q = 1) : mN q S n = (S.1 93 n).toInt64 := by unfold mN; rw [if_neg h0, if_neg h1]
theorem pSF_at {S : PSt} {a j : Nat} {v : UInt32} : (pSF S a j v).2.1 a j = v := by simp [pSF, pU]
theorem pSF_j {S : PSt} {a j i : Nat} {v : UInt32} (h : i ≠ j) : (pSF S a j v).2.1 a i = S.2.1 a i := by simp [pSF, pU, h]
theorem pSD_at {S : PSt} {a j : Nat} {v : UInt64} : (pSD S a j v).2.2.2 a j = v := by simp [pSD, pU]
theorem pSD_j {S : PSt} {a j i : Nat} {v : UInt64} (h : i ≠ j) : (pSD S a j v).2.2.2 a i = S.2.2.2 a i := by simp [pSD, pU, h]
theorem pSJ_at {S : PSt} {a j : Nat} {v : Int64} : (pSJ S a j v).2.2.1 a j = v := by simp [pSJ, pU]
theorem pSJ_j {S : PSt} {a j i : Nat} {v : Int64} (h : i ≠ j) : (pSJ S a j v).2.2.1 a i = S.2.2.1 a i := by simp [pSJ, pU, h]
section TWT
variable {sh : List PSh} {S : PSt} {N z : Nat}
theorem tw_sheet (he : isEl sh) (hm : isMo sh) (h : reN N z S S) {s q n : Int32} : two mX8_sheet mX9_sheet 3 2 [.ref 0, .int s, .int q, .int n] [.ref 70, .int s, .int q, .int n] sh S := by
  have a : ∀ x, x ≠ 66 → x ≠ 67 → (ssC S 65 (tN s) q (if q = -1 then 0 else n) 40).1 x = S.1 x := fun x h6 h7 => by
    funext j
    unfold ssC
    dsimp only
    rw [if_neg (fun q => h6 q.1), if_neg (fun q => h7 q.1)]
  have b : ∀ T x, x ≠ 89 → x ≠ 90 → x ≠ 93 → (shT T (tN s) q (if q = -1 then 0 else n) 40).1 x = T.1 x := fun T x h1 h2 h3 => by
    funext j
    unfold shT
    dsimp only
    rw [if_neg (fun q => h1 q.1), if_neg (fun q => h2 q.1), if_neg (fun q => h3 q.1)]
  refine two_mk h (U := ssC S 65 (tN s) q (if q = -1 then 0 else n) 40) ⟨fun x hx => ⟨a x (by omega) (by omega), rfl, rfl⟩, by rw [a 70 (by decide) (by decide)], by rw [a 70 (by decide) (by decide)]⟩ (sp_X8_sheet he) (fun T hT => ⟨_, sp_X9_sheet hm, ⟨fun x hx => b T x (by omega) (by omega) (by omega), by rw [b T 61 (by decide) (by decide) (by decide)], rfl⟩, fun h0 => ?_⟩)
  obtain ⟨hs, h0⟩ := it_t h0
  obtain ⟨hq, h0⟩ := it_t h0
  have hn : 0 ≤ (if q = -1 then 0 else n : Int32).toInt ∧ (if q = -1 then 0 else n : Int32).toInt ≤ 40 := by
    by_cases e : q = -1
    · rw [if_pos e]; decide
    · rw [if_neg e] at h0 ⊢
      by_cases e1 : n < 0
      · rw [if_pos e1] at h0; exact absurd h0 (by decide)
      · rw [if_neg e1] at h0
        by_cases e2 : 40 < n
        · rw [if_pos e2] at h0; exact absurd h0 (by decide)
        · rw [Int32.lt_iff_toInt_lt] at e1 e2
          rw [show (40 : Int32).toInt = 40 from rfl] at e2
          rw [show (0 : Int32).toInt = 0 from rfl] at e1
          omega
  have hso : okSo q := by
    have hq := of_decide_eq_true hq
    rw [show (-1 : Int32).toInt = -1 from rfl, show (3 : Int32).toInt = 3 from rfl] at hq
    have f : ∀ (v : Int32) (w : Int), v.toInt = w → q.toInt = w → q = v := fun v w h1 h2 => Int32.toInt_inj.mp (h2.trans h1.symm)
    rcases (show q.toInt = -1 ∨ q.toInt = 0 ∨ q.toInt = 1 ∨ q.toInt = 2 ∨ q.toInt = 3 by omega) with e | e | e | e | e
    · exact Or.inl (f (-1) _ rfl e)
    · exact Or.inr (Or.inl (f 0 _ rfl e))
    · exact Or.inr (Or.inr (Or.inl (f 1 _ rfl e)))
    · exact Or.inr (Or.inr (Or.inr (Or.inl (f 2 _ rfl e))))
    · exact Or.inr (Or.inr (Or.inr (Or.inr (f 3 _ rfl e))))
  have hu := wh_ln (m := 3) (by decide) rfl hs
  generalize tN s = u at hu a b
  generalize hw : (if q = -1 then 0 else n : Int32) = w at hn a b
  refine ⟨N, z, re_st hT a (b T) (st_1 (u := u) hT.2.2.2.2.1 (fun s hs hsu => ?_) ?_)⟩
  · refine ⟨?_, ?_, ?_, ?_, fun n h1 h2 => ⟨?_, ?_, ?_, ?_⟩⟩
    · unfold ssC; dsimp only; rw [if_neg (by omega), if_neg (by omega)]
    · unfold ssC; dsimp only; rw [if_neg (by omega), if_neg (by omega)]
    · unfold shT; dsimp only; rw [if_neg (by omega), if_neg (by omega), if_neg (by omega)]
    · unfold shT; dsimp only; rw [if_neg (by omega), if_neg (by omega), if_neg (by omega)]
    · unfold ssC; dsimp only; rw [if_neg (by omega)]
    · unfold shT; dsimp only; rw [if_neg (by omega)]
    · unfold shT; dsimp only; rw [if_neg (by omega)]
    · unfold shT; dsimp only; rw [if_neg (by omega), if_neg (by omega), if_neg (by omega)]
  · have c1 : (ssC S 65 u q w 40).1 66 u = q := by unfold ssC; dsimp only; rw [if_pos ⟨rfl, rfl⟩]
    have c2 : (ssC S 65 u q w 40).1 67 u = w := by unfold ssC; dsimp only; rw [if_neg (by omega), if_pos ⟨rfl, rfl⟩]
    have d1 : (shT T u q w 40).1 89 u = q := by unfold shT; dsimp only; rw [if_pos ⟨rfl, rfl⟩]
    have d2 : (shT T u q w 40).1 90 u = w := by unfold shT; dsimp only; rw [if_neg (by omega), if_pos ⟨rfl, rfl⟩]
    unfold ss1
    rw [c1, c2, d1, d2]
    refine ⟨rfl, rfl, hn, hso, fun i hi => ?_⟩
    have k1 : (ssC S 65 u q w 40).2.2.1 68 (40 * u + i) = 0 := by unfold ssC; dsimp only; rw [if_pos ⟨rfl, by omega, by omega⟩]
    have k2 : (shT T u q w 40).2.1 91 (40 * u + i) = FP.fconst0 := by unfold shT; dsimp only; rw [if_pos ⟨rfl, by omega, by omega⟩]
    have k3 : (shT T u q w 40).2.2.2 92 (40 * u + i) = FP.dconst0 := by unfold shT; dsimp only; rw [if_pos ⟨rfl, by omega, by omega⟩]
    have k4 : (shT T u q w 40).1 93 (40 * u + i) = 0 := by unfold shT; dsimp only; rw [if_neg (by omega), if_neg (by omega), if_pos ⟨rfl, by omega, by omega⟩]
    rw [mM_at hi, k1, k2, k3]
    refine ⟨?_, sF_0, sD_0⟩
    unfold mN
    rw [k2, k3, k4]
    by_cases e0 : (shT T u q w 40).1 89 u = 0
    · rw [if_pos e0]; decide
    · rw [if_neg e0]
      by_cases e1 : (shT T u q w 40).1 89 u = 1
      · rw [if_pos e1]; decide
      · rw [if_neg e1]; decide
theorem putU_I {T : PSt} {q : Int32} {n x : Nat} {v : Int64} {k : Int32} (h : x ≠ 93) : (putU T q n v k).1 x = T.1 x := by
  unfold putU
  by_cases e0 : q = 0
  · rw [if_pos e0]; rfl
  · rw [if_neg e0]
    by_cases e1 : q = 1
    · rw [if_pos e1]; rfl
    · rw [if_neg e1]; exact pSI_ne h
theorem tw_put (he : isEl sh) (hm : isMo sh) (h : reN N z S S) {v : Int64} {s i k : Int32} : two mX8_put mX9_put 7 2 [.ref 0, .int s, .int i, .long v, .int k] [.ref 70, .int s, .int i, .long v, .int k] sh S := by
  refine two_mk h hi_J (sp_X8_put he (re_cSs h)) (fun T hT => ⟨putU T (T.1 89 (tN s)) (spN s i) v k, by rw [oPut_c (re_ss hT)]; exact sp_X9_put hm (re_mSs hT), ⟨fun x hx => putU_I (by omega), by rw [putU_I (by decide)], by unfold putU; split <;> (try split) <;> rfl⟩, fun h0 => ?_⟩)
  obtain ⟨hs, h0⟩ := it_t h0
  obtain ⟨hk, h0⟩ := it_t h0
  obtain ⟨hb, h0⟩ := it_t h0
  have hu := wh_ln (m := 3) (by decide) rfl hs
  obtain ⟨k, hk, rfl⟩ := pWi_of (m := 20) (by decide) rfl hk
  obtain ⟨y, rfl, hy, hq⟩ := hn_of (m := 40) (re_cSs hT (tN s) (by omega)).1 hb
  have ep : spN s (nI y) = 40 * tN s + y := by unfold spN; rw [tN_nI (show y < 2 ^ 31 by omega)]
  rw [ep]
  have p32 := put32 (v := v) (k := k) (by omega)
  have p64 := put64 (v := v) (k := k) (by omega)
  generalize tN s = u at hu hq hb
  obtain ⟨g1, g2, g3, g4, g5⟩ := hT.2.2.2.2.1 u (by omega)
  obtain ⟨f1, f2, f3⟩ := g5 y hy
  rw [g1]
  refine ⟨N, z, re_st hT (fun x _ _ => rfl) (fun x _ _ h3 => putU_I h3) (st_n (u := u) (y := y) (by omega) hy hT.2.2.2.2.1 rfl rfl (putU_I (by decide)) (putU_I (by decide)) (fun n hn => ⟨pSJ_j hn, ?_⟩) ?_)⟩
  · unfold putU
    by_cases e0 : T.1 89 u = 0
    · rw [if_pos e0]; exact ⟨pSF_j hn, rfl, rfl⟩
    · rw [if_neg e0]
      by_cases e1 : T.1 89 u = 1
      · rw [if_pos e1]; exact ⟨rfl, pSD_j hn, rfl⟩
      · rw [if_neg e1]; exact ⟨rfl, rfl, pSI_j hn⟩
  · rw [pSJ_at]
    unfold putU putV
    by_cases e0 : T.1 89 u = 0
    · rw [if_pos e0, if_pos e0, e0, mN_0, pSF_at]
      exact ⟨rfl, p32.2.2.2, f3⟩
    · rw [if_neg e0, if_neg e0]
      by_cases e1 : T.1 89 u = 1
      · rw [if_pos e1, if_pos e1, e1, mN_1, pSD_at]
        exact ⟨rfl, f2, p64.2.2.2⟩
      · rw [if_neg e1, if_neg e1, mN_2 e0 e1, pSI_at]
        refine ⟨?_, f2, f3⟩
        by_cases e2 : T.1 89 u = 2
        · rw [if_pos e2, if_pos e2]
        · rw [if_neg e2, if_neg e2]
theorem resU_I {T : PSt} {q : Int32} {n m x : Nat} (h : x ≠ 93) : (resU T q n m).1 x = T.1 x := by
  unfold resU
  by_cases e0 : q = 0
  · rw [if_pos e0]; rfl
  · rw [if_neg e0]
    by_cases e1 : q = 1
    · rw [if_pos e1]; rfl
    · rw [if_neg e1]; exact pSI_ne h
theorem tw_rest (he : isEl sh) (hm : isMo sh) (h : reN N z S S) {s i j : Int32} : two mX8_rest mX9_rest 7 2 [.ref 0, .int s, .int i, .int j] [.ref 70, .int s, .int i, .int j] sh S := by
  refine two_mk h hi_J (sp_X8_rest he (re_cSs h)) (fun T hT => ⟨resU T (T.1 89 (tN s)) (spN s i) (spN s j), by rw [oRest_c (re_ss hT) (fun u hu => ((re_cSs hT) u hu).1)]; exact sp_X9_rest hm (re_mSs hT), ⟨fun x hx => resU_I (by omega), by rw [resU_I (by decide)], by unfold resU; split <;> (try split) <;> rfl⟩, fun h0 => ?_⟩)
  obtain ⟨hs, h0⟩ := it_t h0
  obtain ⟨hb, h0⟩ := it_t h0
  obtain ⟨hb2, h0⟩ := it_t h0
  have hno : nouV (S.1 66 (tN s)) (S.2.2.1 68 (spN s j)) = false := by
    by_cases e : nouV (S.1 66 (tN s)) (S.2.2.1 68 (spN s j)) = true
    · rw [if_pos e] at h0; exact absurd h0 (by decide)
    · exact Bool.eq_false_iff.mpr e
  have hu := wh_ln (m := 3) (by decide) rfl hs
  obtain ⟨y, rfl, hy, hq⟩ := hn_of (m := 40) (re_cSs hT (tN s) (by omega)).1 hb
  obtain ⟨x, rfl, hx, hq⟩ := hn_of (m := 40) (re_cSs hT (tN s) (by omega)).1 hb2
  have ep : spN s (nI y) = 40 * tN s + y := by unfold spN; rw [tN_nI (show y < 2 ^ 31 by omega)]
  have ep2 : spN s (nI x) = 40 * tN s + x := by unfold spN; rw [tN_nI (show x < 2 ^ 31 by omega)]
  rw [ep2] at hno
  rw [ep, ep2]
  generalize tN s = u at hu hq hb hno
  obtain ⟨g1, g2, g3, g4, g5⟩ := hT.2.2.2.2.1 u (by omega)
  obtain ⟨f1, f2, f3⟩ := g5 y hy
  obtain ⟨k1, k2, k3⟩ := g5 x hx
  rw [mM_at hy] at f1
  rw [mM_at hx] at k1
  rw [g1, k1] at hno
  have nn := nou_0 k2 k3 hno
  rw [g1, f1, k1]
  refine ⟨N, z, re_st hT (fun x _ _ => rfl) (fun x _ _ h3 => resU_I h3) (st_n (u := u) (y := y) (by omega) hy hT.2.2.2.2.1 rfl rfl (resU_I (by decide)) (resU_I (by decide)) (fun n hn => ⟨pSJ_j hn, ?_⟩) ?_)⟩
  · unfold resU
    by_cases e0 : T.1 89 u = 0
    · rw [if_pos e0]; exact ⟨pSF_j hn, rfl, rfl⟩
    · rw [if_neg e0]
      by_cases e1 : T.1 89 u = 1
      · rw [if_pos e1]; exact ⟨rfl, pSD_j hn, rfl⟩
      · rw [if_neg e1]; exact ⟨rfl, rfl, pSI_j hn⟩
  · rw [pSJ_at]
    unfold resU resV
    by_cases e0 : T.1 89 u = 0
    · have r := rd32 f2 k2 (nn.1 e0)
      rw [if_pos e0, if_pos e0, e0, mN_0, mN_0, mN_0, pSF_at]
      exact ⟨r.2.1, r.2.2.1, f3⟩
    · rw [if_neg e0, if_neg e0]
      by_cases e1 : T.1 89 u = 1
      · have r := rd64 f3 k3 (nn.2.1 e0 e1)
        rw [if_pos e1, if_pos e1, e1, mN_1, mN_1, mN_1, pSD_at]
        exact ⟨r.2.1, f2, r.2.2.1⟩
      · rw [if_neg e1, if_neg e1, mN_2 e0 e1, mN_2 e0 e1, mN_2 e0 e1, pSI_at]
        exact ⟨(rem64 (nn.2.2 e0 e1)).symm, f2, f3⟩
theorem lay_mx {R : Int32} {n : Nat} (h : R.toInt ≤ 40) : layN R n ≤ 40 ∧ layN R n ≤ n := by
  unfold layN
  omega
theorem tw_lays (he : isEl sh) (hm : isMo sh) (h : reN N z S S) {s a b : Int32} : two mX8_lays mX9_lays 8 5 [.ref 0, .int s, .int a, .int b] [.ref 70, .int s, .int a, .int b] sh S := by
  refine two_mk h (U := lyS S (tN s) (S.1 66 (tN s)) (fun k => atV (S.1 3) (S.1 1 2) (tN a) (lnN a b) k) (layN (S.1 67 (tN s)) (lnN a b))) ⟨fun x hx => ⟨rfl, rfl, rfl⟩, rfl, rfl⟩ (sp_X8_lays he (re_cIv h) (re_cSs h)) (fun T hT => ⟨ldU T (tN s) (T.1 89 (tN s)) (fun k => atV (mG T) (T.1 71 1) (tN a) (lnN a b) k) (layN (T.1 90 (tN s)) (lnN a b)), by rw [oLays_c (re_ss hT)]; exact sp_X9_lays hm (re_mIv hT) (re_mSs hT), ⟨fun x hx => ldU_I (by omega), by rw [ldU_I (by decide)], rfl⟩, fun h0 => ?_⟩)
  obtain ⟨hs, h0⟩ := it_t h0
  obtain ⟨hst, h0⟩ := it_t h0
  have hu := wh_ln (m := 3) (by decide) rfl hs
  have hl := st_ln (re_N hT) hst
  have hN := re_N hT
  generalize tN s = u at hu
  obtain ⟨g1, g2, g3, g4, g5⟩ := hT.2.2.2.2.1 u (by omega)
  rw [g1, g2]
  have kl := lay_mx (n := lnN a b) g3.2
  have ok := fun k (hk : k ≤ lnN a b) => at_lay (g := S.1 3) (w := S.1 1 2) (a := tN a) (n := lnN a b) (N := N) (k := k) hT.1.2.2.1 hT.1.2.2.2.1 (by omega) hl.2.2.1 hk
  have ef := fun k (hk : k ≤ lnN a b) => atV_c (w := S.1 1 2) (a := tN a) (n := lnN a b) (k := k) (re_ag hT) hl.2.2.1 hk
  rw [← re_w hT]
  generalize layN (T.1 90 u) (lnN a b) = k0 at kl
  generalize hq : T.1 89 u = q at g4
  refine ⟨N, z, re_st hT (fun x _ _ => rfl) (fun x _ _ h3 => ldU_I h3) (st_1 (u := u) hT.2.2.2.2.1 (fun s hs hsu => ⟨rfl, rfl, by rw [ldU_I (by decide)], by rw [ldU_I (by decide)], fun n h1 h2 => ⟨?_, ?_, ?_, ?_⟩⟩) ?_)⟩
  · unfold lyS; dsimp only; rw [if_neg (by omega)]
  · unfold ldU; dsimp only; rw [if_neg (by omega)]
  · unfold ldU; dsimp only; rw [if_neg (by omega)]
  · unfold ldU; dsimp only; rw [if_neg (by omega)]
  · generalize hf : (fun k => atV (S.1 3) (S.1 1 2) (tN a) (lnN a b) k) = f
    generalize hf2 : (fun k => atV (mG T) (S.1 1 2) (tN a) (lnN a b) k) = f2
    have ok2 : ∀ k, k < k0 → f k = f2 k ∧ sF (f k) ∧ sD (FP.f2d (f k)) := fun k hk => by
      have o := ok k (by omega)
      have e := ef k (by omega)
      subst hf
      subst hf2
      exact ⟨e, o.2.1, o.2.2.2.2.2⟩
    unfold ss1
    rw [ldU_I (by decide), ldU_I (by decide), hq]
    refine ⟨g1.trans hq, g2, g3, g4, fun i hi => ?_⟩
    rw [mM_at hi, ldU_I (by decide), hq]
    obtain ⟨n1, n2, n3⟩ := g5 i hi
    rw [mM_at hi, hq] at n1
    have v68 : (lyS S u q f k0).2.2.1 68 (40 * u + i) = if i < k0 then layV q (f i) else S.2.2.1 68 (40 * u + i) := by
      unfold lyS
      dsimp only
      by_cases e : i < k0
      · rw [if_pos ⟨rfl, by omega, by omega⟩, if_pos e, Nat.add_sub_cancel_left]
      · rw [if_neg (by omega), if_neg e]
    have v91 : (ldU T u q f2 k0).2.1 91 (40 * u + i) = if q = 0 ∧ i < k0 then f2 i else T.2.1 91 (40 * u + i) := by
      unfold ldU
      dsimp only
      by_cases e : q = 0 ∧ i < k0
      · rw [if_pos ⟨e.1, rfl, by omega, by omega⟩, if_pos e, Nat.add_sub_cancel_left]
      · rw [if_neg (fun c => e ⟨c.1, by omega⟩), if_neg e]
    have v92 : (ldU T u q f2 k0).2.2.2 92 (40 * u + i) = if (¬ q = 0 ∧ q = 1) ∧ i < k0 then FP.f2d (f2 i) else T.2.2.2 92 (40 * u + i) := by
      unfold ldU
      dsimp only
      by_cases e : (¬ q = 0 ∧ q = 1) ∧ i < k0
      · rw [if_pos ⟨e.1, rfl, by omega, by omega⟩, if_pos e, Nat.add_sub_cancel_left]
      · rw [if_neg (fun c => e ⟨c.1, by omega⟩), if_neg e]
    have v93 : (ldU T u q f2 k0).1 93 (40 * u + i) = if (¬ q = 0 ∧ ¬ q = 1) ∧ i < k0 then (if q = 2 then (FP.f2i (f2 i)).toInt16.toInt32 else FP.f2i (f2 i)) else T.1 93 (40 * u + i) := by
      unfold ldU
      dsimp only
      by_cases e : (¬ q = 0 ∧ ¬ q = 1) ∧ i < k0
      · rw [if_pos ⟨e.1, rfl, by omega, by omega⟩, if_pos e, Nat.add_sub_cancel_left]
      · rw [if_neg (fun c => e ⟨c.1, by omega⟩), if_neg e]
    by_cases e : i < k0
    · obtain ⟨o1, o2, o3⟩ := ok2 i e
      rw [o1] at o2 o3
      rw [v68, if_pos e, o1]
      unfold layV
      by_cases e0 : q = 0
      · have w91 := v91.trans (if_pos ⟨e0, e⟩)
        have w92 := v92.trans (if_neg (fun c => c.1.1 e0))
        rw [if_pos e0, w91, w92]
        refine ⟨?_, o2, n3⟩
        rw [e0, mN_0, ← e0, w91]
      · have w91 := v91.trans (if_neg (fun c => e0 c.1))
        rw [if_neg e0]
        by_cases e1 : q = 1
        · have w92 := v92.trans (if_pos ⟨⟨e0, e1⟩, e⟩)
          rw [if_pos e1, w91, w92]
          refine ⟨?_, n2, o3⟩
          rw [e1, mN_1, ← e1, w92]
        · have w92 := v92.trans (if_neg (fun c => e1 c.1.2))
          have w93 := v93.trans (if_pos ⟨⟨e0, e1⟩, e⟩)
          rw [if_neg e1, mN_2 e0 e1, w91, w92, w93]
          refine ⟨?_, n2, n3⟩
          by_cases e2 : q = 2
          · rw [if_pos e2, if_pos e2]
          · rw [if_neg e2, if_neg e2]
    · have w91 := v91.trans (if_neg (fun c => e c.2))
      have w92 := v92.trans (if_neg (fun c => e c.2))
      have w93 := v93.trans (if_neg (fun c => e c.2))
      rw [v68, if_neg e]
      unfold mN at n1 ⊢
      rw [w91, w92, w93]
      exact ⟨n1, n2, n3⟩
end TWT
