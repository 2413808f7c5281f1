/-! what the law reads of the class, over contents T that differ from S in what is free alone -/
def isLw (sh : List PSh) : Prop := isEl sh ∧ sh[70]? = some (.inl (0, 170))
/-- nothing has changed but what the class writes on, and its tally -/
def frL (S T : PSt) : Prop := ∀ x, (x < 15 ∨ 61 ≤ x) → x ≠ 69 → T.1 x = S.1 x ∧ T.2.1 x = S.2.1 x ∧ T.2.2.1 x = S.2.2.1 x ∧ T.2.2.2 x = S.2.2.2 x
theorem fl_rf {S : PSt} : frL S S := fun _ _ _ => ⟨rfl, rfl, rfl, rfl⟩
theorem fl_tr {S T U : PSt} (h1 : frL S T) (h2 : frL T U) : frL S U := fun x a b => ⟨(h2 x a b).1.trans (h1 x a b).1, (h2 x a b).2.1.trans (h1 x a b).2.1, (h2 x a b).2.2.1.trans (h1 x a b).2.2.1, (h2 x a b).2.2.2.trans (h1 x a b).2.2.2⟩
theorem fl_fr {S T : PSt} (h : fr 15 61 S T) : frL S T := fun x a _ => h x a
theorem fl_rfS {S : PSt} {e : Nat} : frL S (rfS S e) := fun x _ b => ⟨pU_ne b, rfl, rfl, rfl⟩
theorem fl_g {S T : PSt} (h : frL S T) : T.1 3 = S.1 3 ∧ T.1 1 = S.1 1 ∧ T.1 70 = S.1 70 := ⟨(h 3 (by omega) (by omega)).1, (h 1 (by omega) (by omega)).1, (h 70 (by omega) (by omega)).1⟩
theorem fl_iv {S T : PSt} {N : Nat} (hi : cIv S N) (h : frL S T) : cIv T N := by
  obtain ⟨g1, g2, _⟩ := fl_g h
  unfold cIv
  rw [g1, g2]
  exact hi
/-- a call that only reads -/
theorem rd_pA {S T U : PSt} {e : POut} {r : Option Value} (h : frL S T) (hp : pA e T T r U) : r = some (.int (ansE e.1 e.2)) ∧ frL S U := by
  refine ⟨hp.1, fl_tr h ?_⟩
  have h2 := hp.2
  by_cases h0 : e.1 = 0
  · rw [if_pos h0] at h2; exact fl_fr h2
  · rw [if_neg h0] at h2; exact fl_tr fl_rfS (fl_fr h2)
theorem rd_ok {S T U : PSt} {e : POut} {r : Option Value} {v : Int32} (h : frL S T) (hp : pA e T T r U) (he : e = (0, v)) : r = some (.int v) ∧ frL S U := by
  have := rd_pA h hp
  rw [he] at this
  exact this
theorem rd_no {S T U : PSt} {e : POut} {r : Option Value} {k : Nat} {v : Int32} (h : frL S T) (hp : pA e T T r U) (he : e = (k + 1, 0)) (hv : -2147483000 - nI (k + 1) = v) : r = some (.int v) ∧ frL S U := by
  have := rd_pA h hp
  rw [he] at this
  refine ⟨this.1.trans ?_, this.2⟩
  rw [← hv]
  rfl
section READ
variable {S T U : PSt} {N : Nat} {r : Option Value}
theorem wi_nI {k m : Nat} (hk : k ≤ m) (hm : m < 2 ^ 31) : pWi (nI k) 0 (nI m) = true := by
  unfold pWi
  rw [nI_toInt (by omega), nI_toInt hm]
  exact decide_eq_true ⟨by show (0 : Int32).toInt ≤ _; exact Int.natCast_nonneg _, by omega⟩
theorem wi_ab {i a b : Nat} (h1 : a ≤ i) (h2 : i ≤ b) (hb : b < 2 ^ 31) : pWi (nI i) (nI a) (nI b) = true := by
  unfold pWi
  rw [nI_toInt (by omega), nI_toInt (by omega), nI_toInt hb]
  exact decide_eq_true ⟨by omega, by omega⟩
theorem rd_at1 (hi : cIv S N) (h : frL S T) {a b i : Nat} (h1 : a ≤ i) (h2 : i ≤ b) (h3 : b < N) (hp : pA (oAt (T.1 3) (T.1 1 2) N (nI a) (nI b) (nI i) 1) T T r U) : r = some (.int (atV (S.1 3) (S.1 1 2) a (b - a + 1) (i - a)).toInt32) ∧ frL S U := by
  obtain ⟨g1, g2, _⟩ := fl_g h
  have hN := hi.2.1
  refine rd_ok h hp ?_
  rw [g1, g2, oAt, if_pos (isSt_nI hN (by omega) h3), if_pos (wi_ab h1 h2 (by omega)), if_pos (show pWi 1 0 2 = true by decide), lnN, tN_nI (by omega), tN_nI (by omega), tN_nI (by omega)]
  rfl
theorem rd_at0 (hi : cIv S N) (h : frL S T) {a b i : Nat} (h1 : a ≤ i) (h2 : i ≤ b) (h3 : b < N) (hp : pA (oAt (T.1 3) (T.1 1 2) N (nI a) (nI b) (nI i) 0) T T r U) : r = some (.int (lenV (S.1 3) (S.1 1 2) a (b - a + 1) (i - a)).toInt32) ∧ frL S U := by
  obtain ⟨g1, g2, _⟩ := fl_g h
  have hN := hi.2.1
  refine rd_ok h hp ?_
  rw [g1, g2, oAt, if_pos (isSt_nI hN (by omega) h3), if_pos (wi_ab h1 h2 (by omega)), if_pos (show pWi 0 0 2 = true by decide), lnN, tN_nI (by omega), tN_nI (by omega), tN_nI (by omega)]
  rfl
theorem rd_spring2 (hi : cIv S N) (h : frL S T) {c : Nat} (h3 : c < N) (hp : pA (oSpring (T.1 3) N (nI c) 2) T T r U) : r = some (.int (roG (S.1 3) c).toInt32) ∧ frL S U := by
  obtain ⟨g1, g2, _⟩ := fl_g h
  have hN := hi.2.1
  refine rd_ok h hp ?_
  rw [g1, oSpring, if_pos (isCo_nI hN h3), if_pos (show pWi 2 0 2 = true by decide), tN_nI (by omega)]
  rfl
theorem rd_spring0 (hi : cIv S N) (h : frL S T) {c : Nat} (h3 : c < N) (hp : pA (oSpring (T.1 3) N (nI c) 0) T T r U) : r = some (.int (idG (S.1 3) c).toInt32) ∧ frL S U := by
  obtain ⟨g1, g2, _⟩ := fl_g h
  have hN := hi.2.1
  refine rd_ok h hp ?_
  rw [g1, oSpring, if_pos (isCo_nI hN h3), if_pos (show pWi 0 0 2 = true by decide), tN_nI (by omega)]
  rfl
theorem rd_held (hi : cIv S N) (h : frL S T) {a b : Nat} (h1 : a ≤ b) (h3 : b < N) (hp : pA (oHeld (T.1 3) (T.1 1 2) N (nI a) (nI b)) T T r U) : r = some (.int (nI (heldV (S.1 3) (S.1 1 2) a (b - a + 1)))) ∧ frL S U := by
  obtain ⟨g1, g2, _⟩ := fl_g h
  have hN := hi.2.1
  refine rd_ok h hp ?_
  rw [g1, g2, oHeld, if_pos (isSt_nI hN h1 h3), lnN, tN_nI (by omega), tN_nI (by omega)]
theorem rd_force (hi : cIv S N) (h : frL S T) {a b : Nat} (h1 : a ≤ b) (h3 : b < N) (hp : pA (oForce (T.1 3) (T.1 1 2) N (nI a) (nI b)) T T r U) : r = some (.int (setV (S.1 3) (S.1 1 2) a (b - a + 1)).2.toInt32) ∧ frL S U := by
  obtain ⟨g1, g2, _⟩ := fl_g h
  have hN := hi.2.1
  refine rd_ok h hp ?_
  rw [g1, g2, oForce, if_pos (isSt_nI hN h1 h3), lnN, tN_nI (by omega), tN_nI (by omega)]
/-- what bad answers -/
def badA (g : Nat → Int32) (w : Int32) (a n : Nat) : Int32 := if fitV g w a n = true then (badV g w a n).toInt32 else -2147483002
theorem rd_bad (hi : cIv S N) (h : frL S T) {a b : Nat} (h1 : a ≤ b) (h3 : b < N) (hp : pA (oBad (T.1 3) (T.1 1 2) N (nI a) (nI b)) T T r U) : r = some (.int (badA (S.1 3) (S.1 1 2) a (b - a + 1))) ∧ frL S U := by
  obtain ⟨g1, g2, _⟩ := fl_g h
  have hN := hi.2.1
  rw [g1, g2, oBad, if_pos (isSt_nI hN h1 h3), lnN, tN_nI (by omega), tN_nI (by omega)] at hp
  unfold badA
  by_cases hf : fitV (S.1 3) (S.1 1 2) a (b - a + 1) = true
  · rw [if_pos hf] at hp ⊢
    exact rd_ok h hp rfl
  · rw [if_neg hf] at hp ⊢
    exact rd_no h hp rfl (by decide)
/-- what sky answers -/
def skyA (g : Nat → Int32) (w : Int32) (a n : Nat) (lower : Bool) (x : Nat) : Int32 := if (skyV g w a n x).1 = true then (if lower = true then (skyV g w a n x).2.2 else (skyV g w a n x).2.1) else -2147483002
theorem rd_sky (hi : cIv S N) (h : frL S T) {a b x : Nat} {lower : Bool} (h1 : a ≤ b) (h3 : b < N) (hx : x < 400) (hp : pA (oSky (T.1 3) (T.1 1 2) N (nI a) (nI b) (pB lower) (nI x)) T T r U) : r = some (.int (skyA (S.1 3) (S.1 1 2) a (b - a + 1) lower x)) ∧ frL S U := by
  obtain ⟨g1, g2, _⟩ := fl_g h
  have hN := hi.2.1
  rw [g1, g2, oSky, if_pos (isSt_nI hN h1 h3), if_pos (show pWi (pB lower) 0 1 = true by cases lower <;> decide), if_pos (show pWi (nI x) 0 399 = true from wi_nI (k := x) (m := 399) (by omega) (by decide)), lnN, tN_nI (by omega), tN_nI (by omega), tN_nI (show x < 2 ^ 31 by omega)] at hp
  unfold skyA
  by_cases hf : (skyV (S.1 3) (S.1 1 2) a (b - a + 1) x).1 = true
  · rw [if_pos hf] at hp ⊢
    cases lower with
    | true => exact rd_ok h hp rfl
    | false => exact rd_ok h hp rfl
  · rw [if_neg hf] at hp ⊢
    exact rd_no h hp rfl (by decide)
def linsA (g : Nat → Int32) (w : Int32) (N : Nat) : Int32 := if fouV g w N = true then nI (linV g w N) else -2147483002
theorem rd_lines (h : frL S T) (hp : pA (oLines (T.1 3) (T.1 1 2) N) T T r U) : r = some (.int (linsA (S.1 3) (S.1 1 2) N)) ∧ frL S U := by
  obtain ⟨g1, g2, _⟩ := fl_g h
  rw [g1, g2, oLines] at hp
  unfold linsA
  by_cases hf : fouV (S.1 3) (S.1 1 2) N = true
  · rw [if_pos hf] at hp ⊢
    exact rd_ok h hp rfl
  · rw [if_neg hf] at hp ⊢
    exact rd_no h hp rfl (by decide)
def totA (g : Nat → Int32) (w : Int32) (N : Nat) : Int32 := if fouV g w N = true then (totV g w N).toInt32 else -2147483002
theorem rd_total (h : frL S T) (hp : pA (oTotal (T.1 3) (T.1 1 2) N) T T r U) : r = some (.int (totA (S.1 3) (S.1 1 2) N)) ∧ frL S U := by
  obtain ⟨g1, g2, _⟩ := fl_g h
  rw [g1, g2, oTotal] at hp
  unfold totA
  by_cases hf : fouV (S.1 3) (S.1 1 2) N = true
  · rw [if_pos hf] at hp ⊢
    exact rd_ok h hp rfl
  · rw [if_neg hf] at hp ⊢
    exact rd_no h hp rfl (by decide)
theorem wi_ln {k L c : Nat} (hc : c ≤ 2) (hL : L ≤ 32) (hk : k + c ≤ L) (h1 : 1 ≤ c) : pWi (nI k) 0 (nI L - nI c) = true := by
  unfold pWi
  rw [Int32.toInt_sub, nI_toInt (show L < 2 ^ 31 by omega), nI_toInt (show c < 2 ^ 31 by omega), nI_toInt (show k < 2 ^ 31 by omega), Int.bmod_eq_of_le (by omega) (by omega)]
  exact decide_eq_true ⟨by show (0 : Int32).toInt ≤ _; exact Int.natCast_nonneg _, by omega⟩
theorem rd_line0 (hi : cIv S N) (h : frL S T) (hf : fouV (S.1 3) (S.1 1 2) N = true) {k : Nat} (hk : k < linV (S.1 3) (S.1 1 2) N) (hp : pA (oLine (T.1 3) (T.1 1 2) N (nI k) 0) T T r U) : r = some (.int (nI (staV (S.1 3) (S.1 1 2) N k))) ∧ frL S U := by
  obtain ⟨g1, g2, _⟩ := fl_g h
  have hL := lin_le hi.2.1 hf
  have hN := hi.2.1
  refine rd_ok h hp ?_
  rw [g1, g2, oLine, if_pos hf, if_pos (show pWi 0 0 3 = true by decide), show (if (0 : Int32) = 3 then (2 : Int32) else 1) = nI 1 from by decide, if_pos (wi_ln (c := 1) (by decide) (by omega) (by omega) (by decide)), linA, tN_nI (by omega)]
  rfl
theorem rd_line1 (hi : cIv S N) (h : frL S T) (hf : fouV (S.1 3) (S.1 1 2) N = true) {k : Nat} (hk : k < linV (S.1 3) (S.1 1 2) N) (hp : pA (oLine (T.1 3) (T.1 1 2) N (nI k) 1) T T r U) : r = some (.int (nI (staV (S.1 3) (S.1 1 2) N (k + 1) - 1))) ∧ frL S U := by
  obtain ⟨g1, g2, _⟩ := fl_g h
  have hL := lin_le hi.2.1 hf
  have hN := hi.2.1
  refine rd_ok h hp ?_
  rw [g1, g2, oLine, if_pos hf, if_pos (show pWi 1 0 3 = true by decide), show (if (1 : Int32) = 3 then (2 : Int32) else 1) = nI 1 from by decide, if_pos (wi_ln (c := 1) (by decide) (by omega) (by omega) (by decide)), linA, tN_nI (by omega)]
  rfl
theorem rd_line3 (hi : cIv S N) (h : frL S T) (hf : fouV (S.1 3) (S.1 1 2) N = true) {k : Nat} (hk : k + 1 < linV (S.1 3) (S.1 1 2) N) (hp : pA (oLine (T.1 3) (T.1 1 2) N (nI k) 3) T T r U) : r = some (.int (apV (S.1 3) (S.1 1 2) (staV (S.1 3) (S.1 1 2) N k) (staV (S.1 3) (S.1 1 2) N (k + 1) - staV (S.1 3) (S.1 1 2) N k) (staV (S.1 3) (S.1 1 2) N (k + 1)) (staV (S.1 3) (S.1 1 2) N (k + 2) - staV (S.1 3) (S.1 1 2) N (k + 1)))) ∧ frL S U := by
  obtain ⟨g1, g2, _⟩ := fl_g h
  have hL := lin_le hi.2.1 hf
  have hN := hi.2.1
  refine rd_ok h hp ?_
  rw [g1, g2, oLine, if_pos hf, if_pos (show pWi 3 0 3 = true by decide), show (if (3 : Int32) = 3 then (2 : Int32) else 1) = nI 2 from by decide, if_pos (wi_ln (c := 2) (by decide) (by omega) (by omega) (by decide)), linA, tN_nI (by omega)]
  rfl
theorem rd_of (hi : cIv S N) (h : frL S T) {c u : Nat} (h3 : c < N) (hu : u < 5) (hp : pA (oOf (T.1 3) N (nI c) (nI u)) T T r U) : r = some (.int (S.1 3 (5 * c + u))) ∧ frL S U := by
  obtain ⟨g1, g2, _⟩ := fl_g h
  have hN := hi.2.1
  refine rd_ok h hp ?_
  rw [g1, oOf, if_pos (isCo_nI hN h3), if_pos (show pWi (nI u) 0 6 = true from wi_nI (k := u) (m := 6) (by omega) (by decide)), if_pos (show nI u < 5 from nI_lt (a := u) (b := 5) hu (by decide)), tN_nI (by omega), tN_nI (by omega)]
theorem rd_of5 (hi : cIv S N) (h : frL S T) {c : Nat} (h3 : c < N) (hp : pA (oOf (T.1 3) N (nI c) 5) T T r U) : r = some (.int (topG (S.1 3) c)) ∧ frL S U := by
  obtain ⟨g1, g2, _⟩ := fl_g h
  have hN := hi.2.1
  refine rd_ok h hp ?_
  rw [g1, oOf, if_pos (isCo_nI hN h3), if_pos (show pWi 5 0 6 = true by decide), tN_nI (by omega)]
  rfl
theorem rd_of6 (hi : cIv S N) (h : frL S T) {c : Nat} (h3 : c < N) (hp : pA (oOf (T.1 3) N (nI c) 6) T T r U) : r = some (.int (botG (S.1 3) c)) ∧ frL S U := by
  obtain ⟨g1, g2, _⟩ := fl_g h
  have hN := hi.2.1
  refine rd_ok h hp ?_
  rw [g1, oOf, if_pos (isCo_nI hN h3), if_pos (show pWi 6 0 6 = true by decide), tN_nI (by omega)]
  rfl
theorem rk_at1 (hi : cIv S N) (h : frL S T) {a m k : Nat} (hk : k ≤ m) (h3 : a + m < N) (hp : pA (oAt (T.1 3) (T.1 1 2) N (nI a) (nI (a + m)) (nI (a + k)) 1) T T r U) : r = some (.int (atV (S.1 3) (S.1 1 2) a (m + 1) k).toInt32) ∧ frL S U := by
  have := rd_at1 hi h (by omega) (by omega) h3 hp
  simp only [Nat.add_sub_cancel_left] at this
  exact this
theorem rk_at0 (hi : cIv S N) (h : frL S T) {a m k : Nat} (hk : k ≤ m) (h3 : a + m < N) (hp : pA (oAt (T.1 3) (T.1 1 2) N (nI a) (nI (a + m)) (nI (a + k)) 0) T T r U) : r = some (.int (lenV (S.1 3) (S.1 1 2) a (m + 1) k).toInt32) ∧ frL S U := by
  have := rd_at0 hi h (by omega) (by omega) h3 hp
  simp only [Nat.add_sub_cancel_left] at this
  exact this
theorem rk_held (hi : cIv S N) (h : frL S T) {a m : Nat} (h3 : a + m < N) (hp : pA (oHeld (T.1 3) (T.1 1 2) N (nI a) (nI (a + m))) T T r U) : r = some (.int (nI (heldV (S.1 3) (S.1 1 2) a (m + 1)))) ∧ frL S U := by
  have := rd_held hi h (by omega) h3 hp
  simp only [Nat.add_sub_cancel_left] at this
  exact this
theorem rk_force (hi : cIv S N) (h : frL S T) {a m : Nat} (h3 : a + m < N) (hp : pA (oForce (T.1 3) (T.1 1 2) N (nI a) (nI (a + m))) T T r U) : r = some (.int (setV (S.1 3) (S.1 1 2) a (m + 1)).2.toInt32) ∧ frL S U := by
  have := rd_force hi h (by omega) h3 hp
  simp only [Nat.add_sub_cancel_left] at this
  exact this
theorem rk_bad (hi : cIv S N) (h : frL S T) {a m : Nat} (h3 : a + m < N) (hp : pA (oBad (T.1 3) (T.1 1 2) N (nI a) (nI (a + m))) T T r U) : r = some (.int (badA (S.1 3) (S.1 1 2) a (m + 1))) ∧ frL S U := by
  have := rd_bad hi h (by omega) h3 hp
  simp only [Nat.add_sub_cancel_left] at this
  exact this
theorem rk_sky (hi : cIv S N) (h : frL S T) {a m x : Nat} {lower : Bool} (h3 : a + m < N) (hx : x < 400) (hp : pA (oSky (T.1 3) (T.1 1 2) N (nI a) (nI (a + m)) (pB lower) (nI x)) T T r U) : r = some (.int (skyA (S.1 3) (S.1 1 2) a (m + 1) lower x)) ∧ frL S U := by
  have := rd_sky hi h (by omega) h3 hx hp
  simp only [Nat.add_sub_cancel_left] at this
  exact this
end READ
/-- the law's array of what it told -/
def eOk (S : PSt) (N : Nat) : Prop := S.1 70 0 = nI N ∧ S.1 70 1 = S.1 1 2 ∧ ∀ j, j < 5 * N → S.1 70 (2 + j) = S.1 3 j
theorem eOk_fr {S T : PSt} {N : Nat} (h : eOk S N) (hf : frL S T) : eOk T N := by
  obtain ⟨g1, g2, g3⟩ := fl_g hf
  unfold eOk
  rw [g1, g2, g3]
  exact h
/-- a finite float's bits are no signalling ones -/
theorem sn_F {x : UInt32} (h : fF x) : vn_sni2f x.toInt32 = false := by
  have h1 := (nn_iff x).mpr (by have := (fF_bits x).mp h; omega)
  unfold vn_sni2f
  rw [Bool.and_eq_false_iff]
  refine Or.inl (decide_eq_false ?_)
  have e : x.toInt32.toUInt32 = x := by simp
  rw [e]
  exact fun q => absurd (UInt32.lt_of_lt_of_le q h1) (UInt32.lt_irrefl _)
theorem badA_iff {g : Nat → Int32} {w : Int32} {a m N : Nat} (hg : okG g N) (hw : okWd w) (hm : m ≤ 32) (ham : a + m ≤ N) : badA g w a m = -2147483002 ↔ ¬ fitV g w a m = true := by
  unfold badA
  by_cases h : fitV g w a m = true
  · rw [if_pos h]
    exact ⟨fun q => absurd q (bits_ne (okT_pos (badV_ok hg hw hm ham))), fun q => absurd h q⟩
  · rw [if_neg h]
    exact ⟨fun _ => h, fun _ => rfl⟩
