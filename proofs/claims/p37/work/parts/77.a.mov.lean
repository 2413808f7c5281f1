/-! the law's moved: what it keeps in its two arrays, what it counts -/
theorem bits_inj {x y : UInt32} (hx : fF x) (hy : fF y) (h1 : x.toNat < 2 ^ 31) (h2 : y.toNat < 2 ^ 31) (h : fz x = fz y) : x = y := by
  have e1 := fz_abs hx.ne_nan
  have e2 := fz_abs hy.ne_nan
  rw [Nat.mod_eq_of_lt h1] at e1
  rw [Nat.mod_eq_of_lt h2] at e2
  rw [h, e2] at e1
  apply UInt32.toNat_inj.mp
  rcases Nat.lt_trichotomy x.toNat y.toNat with q | q | q
  · have := FP.Core.unitsOf_lt (f := FP.Core.b32) q; omega
  · exact q
  · have := FP.Core.unitsOf_lt (f := FP.Core.b32) q; omega
theorem okX_nn {x : UInt32} (h : okX x) (h0 : 0 ≤ fz x) : x.toNat < 2 ^ 31 := by
  by_cases e : x = 0
  · rw [e]; decide
  · have := okX_nz h e h0
    have h2 : ((2 ^ 23 : Nat) : Int) > 0 := by decide
    exact pos_bits h.1 (by omega)
theorem bits_eq {x y : UInt32} (hx : okX x) (hy : okX y) (h1 : 0 ≤ fz x) (h2 : 0 ≤ fz y) : x.toInt32 = y.toInt32 ↔ Op.cmpValue (FP.fcmp x y) .l = 0 := by
  have hc := cmp_some hx.1 hy.1
  rw [hc]
  refine ⟨fun h => ?_, fun h => ?_⟩
  · have e : x = y := by
      have := congrArg Int32.toUInt32 h
      simpa using this
    rw [(FP.Core.compare_eq_iff (fz x) (fz y)).mpr (by rw [e])]
    rfl
  · have e : fz x = fz y := by
      rcases Int.lt_trichotomy (fz x) (fz y) with q | q | q
      · rw [FP.Core.compare_lt_iff _ _ |>.mpr q] at h; exact absurd h (by decide)
      · exact q
      · rw [FP.Core.compare_gt_iff _ _ |>.mpr q] at h; exact absurd h (by decide)
    rw [bits_inj hx.1 hy.1 (okX_nn hx h1) (okX_nn hy h2) e]
theorem e100 (x y : Nat) : (100 : Int32) * nI x + nI y = nI (100 * x + y) := by
  show _ = Int32.ofNat (100 * x + y)
  rw [Int32.ofNat_add, Int32.ofNat_mul]
  rfl
/-- contents with other arrays at r and r + 1 -/
def mB (S : PSt) (r : Nat) (A B : Nat → Int32) : PSt := (fun c j => if c = r then A j else if c = r + 1 then B j else S.1 c j, (fun c j => if c = r ∨ c = r + 1 then 0 else S.2.1 c j, (fun c j => if c = r ∨ c = r + 1 then 0 else S.2.2.1 c j, fun c j => if c = r ∨ c = r + 1 then 0 else S.2.2.2 c j)))
def upA (A : Nat → Int32) (w : Nat) (v : Int32) : Nat → Int32 := fun i => if i = w then v else A i
section MB
variable {S T U : PSt} {r N : Nat} {A B : Nat → Int32}
theorem mB_ne {c : Nat} (h1 : c ≠ r) (h2 : c ≠ r + 1) : (mB S r A B).1 c = S.1 c := by
  funext j
  show (if c = r then A j else if c = r + 1 then B j else S.1 c j) = _
  rw [if_neg h1, if_neg h2]
theorem mB_3 (hr : 71 ≤ r) : (mB S r A B).1 3 = S.1 3 ∧ (mB S r A B).1 1 = S.1 1 ∧ (mB S r A B).1 70 = S.1 70 := ⟨mB_ne (by omega) (by omega), mB_ne (by omega) (by omega), mB_ne (by omega) (by omega)⟩
theorem mB_iv (hr : 71 ≤ r) (hi : cIv S N) : cIv (mB S r A B) N := by
  obtain ⟨e1, e2, e3⟩ := mB_3 (S := S) (A := A) (B := B) hr
  unfold cIv
  rw [e1, e2]
  exact hi
theorem mB_eO (hr : 71 ≤ r) (hE : eOk S N) : eOk (mB S r A B) N := by
  obtain ⟨e1, e2, e3⟩ := mB_3 (S := S) (A := A) (B := B) hr
  unfold eOk
  rw [e1, e2, e3]
  exact hE
theorem mB_A : (mB S r A B).1 r = A := by
  funext j
  exact if_pos rfl
theorem mB_B : (mB S r A B).1 (r + 1) = B := by
  funext j
  show (if r + 1 = r then A j else if r + 1 = r + 1 then B j else S.1 (r + 1) j) = B j
  rw [if_neg (by omega), if_pos rfl]
theorem fl_mA (hr : 71 ≤ r) (h : frL (mB S r A B) T) {w : Nat} {v : Int32} : frL (mB S r (upA A w v) B) (pSI T r w v) := by
  intro x hx h69
  obtain ⟨a1, a2, a3, a4⟩ := h x hx h69
  refine ⟨?_, a2, a3, a4⟩
  funext j
  have a1j := congrFun a1 j
  show (if x = r ∧ j = w then v else T.1 x j) = (if x = r then upA A w v j else if x = r + 1 then B j else S.1 x j)
  rw [a1j]
  show (if x = r ∧ j = w then v else (if x = r then A j else if x = r + 1 then B j else S.1 x j)) = _
  by_cases e : x = r
  · rw [if_pos e, if_pos e]
    unfold upA
    by_cases e2 : j = w
    · rw [if_pos ⟨e, e2⟩, if_pos e2]
    · rw [if_neg (fun q => e2 q.2), if_neg e2]
  · rw [if_neg (fun q => e q.1), if_neg e, if_neg e]
theorem fl_mB (hr : 71 ≤ r) (h : frL (mB S r A B) T) {w : Nat} {v : Int32} : frL (mB S r A (upA B w v)) (pSI T (r + 1) w v) := by
  intro x hx h69
  obtain ⟨a1, a2, a3, a4⟩ := h x hx h69
  refine ⟨?_, a2, a3, a4⟩
  funext j
  have a1j := congrFun a1 j
  show (if x = r + 1 ∧ j = w then v else T.1 x j) = (if x = r then A j else if x = r + 1 then upA B w v j else S.1 x j)
  rw [a1j]
  show (if x = r + 1 ∧ j = w then v else (if x = r then A j else if x = r + 1 then B j else S.1 x j)) = _
  by_cases e : x = r + 1
  · rw [if_neg (show ¬ x = r by omega), if_neg (show ¬ x = r by omega), if_pos e, if_pos e]
    unfold upA
    by_cases e2 : j = w
    · rw [if_pos ⟨e, e2⟩, if_pos e2]
    · rw [if_neg (fun q => e2 q.2), if_neg e2]
  · rw [if_neg (fun q => e q.1), if_neg e, if_neg e]
theorem fl_S3 {i : Nat} {v : Int32} (h : frL S T) : frL (pSI S 3 i v) (pSI T 3 i v) := by
  intro x hx h69
  obtain ⟨a1, a2, a3, a4⟩ := h x hx h69
  refine ⟨?_, a2, a3, a4⟩
  funext j
  show (if x = 3 ∧ j = i then v else T.1 x j) = (if x = 3 ∧ j = i then v else S.1 x j)
  rw [congrFun a1 j]
theorem mB_S3 (hr : 71 ≤ r) {i : Nat} {v : Int32} : pSI (mB S r A B) 3 i v = mB (pSI S 3 i v) r A B := by
  refine Prod.ext ?_ rfl
  funext c j
  show (if c = 3 ∧ j = i then v else (if c = r then A j else if c = r + 1 then B j else S.1 c j)) = (if c = r then A j else if c = r + 1 then B j else (if c = 3 ∧ j = i then v else S.1 c j))
  by_cases e : c = 3 ∧ j = i
  · rw [if_pos e, if_neg (by omega), if_neg (by omega), if_pos e]
  · rw [if_neg e, if_neg e]
end MB
section RM
variable {S T U : PSt} {N r : Nat} {A B : Nat → Int32} {r9 : Option Value}
theorem rm_line0 (hr : 71 ≤ r) (hi : cIv S N) (h : frL (mB S r A B) T) (hf : fouV (S.1 3) (S.1 1 2) N = true) {k : Nat} (hk : k < linV (S.1 3) (S.1 1 2) N) (hp : pA (oLine (T.1 3) (T.1 1 2) N (nI k) 0) T T r9 U) : r9 = some (.int (nI (stK S N k))) ∧ frL (mB S r A B) U := by
  obtain ⟨e1, e2, e3⟩ := mB_3 (S := S) (A := A) (B := B) hr
  have h2 := rk_line0 (mB_iv hr hi) h (k := k) (by rw [e1, e2]; exact hf) (by rw [e1, e2]; exact hk) hp
  unfold stK at h2
  rw [e1, e2] at h2
  exact h2
theorem rm_line1 (hr : 71 ≤ r) (hi : cIv S N) (h : frL (mB S r A B) T) (hf : fouV (S.1 3) (S.1 1 2) N = true) {k : Nat} (hk : k < linV (S.1 3) (S.1 1 2) N) (hp : pA (oLine (T.1 3) (T.1 1 2) N (nI k) 1) T T r9 U) : r9 = some (.int (nI (stK S N k + stM S N k))) ∧ frL (mB S r A B) U := by
  obtain ⟨e1, e2, e3⟩ := mB_3 (S := S) (A := A) (B := B) hr
  have h2 := rk_line1 (mB_iv hr hi) h (k := k) (by rw [e1, e2]; exact hf) (by rw [e1, e2]; exact hk) hp
  unfold stM stK at h2
  rw [e1, e2] at h2
  exact h2
theorem rm_at1 (hr : 71 ≤ r) (hi : cIv S N) (h : frL (mB S r A B) T) {a m k : Nat} (hk : k ≤ m) (h3 : a + m < N) (hp : pA (oAt (T.1 3) (T.1 1 2) N (nI a) (nI (a + m)) (nI (a + k)) 1) T T r9 U) : r9 = some (.int (atV (S.1 3) (S.1 1 2) a (m + 1) k).toInt32) ∧ frL (mB S r A B) U := by
  obtain ⟨e1, e2, e3⟩ := mB_3 (S := S) (A := A) (B := B) hr
  have h2 := rk_at1 (mB_iv hr hi) h hk h3 hp
  rw [e1, e2] at h2
  exact h2
theorem rm_linesY (hr : 71 ≤ r) (h : frL (mB S r A B) T) (hf : fouV (S.1 3) (S.1 1 2) N = true) (hp : pA (oLines (T.1 3) (T.1 1 2) N) T T r9 U) : r9 = some (.int (nI (linV (S.1 3) (S.1 1 2) N))) ∧ frL (mB S r A B) U := by
  obtain ⟨e1, e2, e3⟩ := mB_3 (S := S) (A := A) (B := B) hr
  have h2 := rd_linesY h (by rw [e1, e2]; exact hf) hp
  rw [e1, e2] at h2
  exact h2
theorem rm_linesN (hr : 71 ≤ r) (h : frL (mB S r A B) T) (hf : ¬ fouV (S.1 3) (S.1 1 2) N = true) (hp : pA (oLines (T.1 3) (T.1 1 2) N) T T r9 U) : r9 = some (.int (-2147483002)) ∧ frL (mB S r A B) U := by
  obtain ⟨e1, e2, e3⟩ := mB_3 (S := S) (A := A) (B := B) hr
  exact rd_linesN h (by rw [e1, e2]; exact hf) hp
/-- a column is told: what it was -/
theorem rd_set (hi : cIv S N) (h : frL S T) {c u : Nat} {v : Int32} (hc : c < N) (hu : u < 5) (hv : pAl (nI u) v = true) (hp : pA (oSet (T.1 3) N (nI c) (nI u) v) T (pSI T 3 (5 * tN (nI c) + tN (nI u)) v) r9 U) : r9 = some (.int (S.1 3 (5 * c + u))) ∧ frL (pSI S 3 (5 * c + u) v) U := by
  have hN := hi.2.1
  have e : oSet (T.1 3) N (nI c) (nI u) v = (0, S.1 3 (5 * c + u)) := by
    rw [oSet, if_pos (isCo_nI hN hc), if_pos (show pWi (nI u) 0 4 = true from wi_nI (k := u) (m := 4) (by omega) (by decide)), if_pos hv, tN_nI (by omega), tN_nI (by omega), (fl_g h).1]
  rw [e] at hp
  refine ⟨hp.1, ?_⟩
  have h2 := hp.2
  rw [if_pos rfl, tN_nI (by omega), tN_nI (by omega)] at h2
  exact fl_tr (fl_S3 h) (fl_fr h2)
theorem rm_set (hr : 71 ≤ r) (hi : cIv S N) (h : frL (mB S r A B) T) {c u : Nat} {v : Int32} (hc : c < N) (hu : u < 5) (hv : pAl (nI u) v = true) (hp : pA (oSet (T.1 3) N (nI c) (nI u) v) T (pSI T 3 (5 * tN (nI c) + tN (nI u)) v) r9 U) : r9 = some (.int (S.1 3 (5 * c + u))) ∧ frL (mB (pSI S 3 (5 * c + u) v) r A B) U := by
  obtain ⟨e1, e2, e3⟩ := mB_3 (S := S) (A := A) (B := B) hr
  have h2 := rd_set (mB_iv hr hi) h hc hu hv hp
  rw [e1, mB_S3 hr] at h2
  exact h2
end RM
/-! columns told otherwise -/
theorem okG_c {g g' : Nat → Int32} {N : Nat} (h : agC g g' N) (hg : okG g N) : okG g' N := fun i hi => by
  have := hg i hi
  unfold okC at this ⊢
  rw [← h _ (by omega), ← h _ (by omega), ← h _ (by omega), ← h _ (by omega), ← h _ (by omega)]
  exact this
/-- the columns with the step and the duration of c told -/
def mv3 (S : PSt) (c : Nat) (step dur : Int32) : PSt := pSI (pSI S 3 (5 * c + 2) step) 3 (5 * c + 1) dur
section MV
variable {S T U : PSt} {N c : Nat} {step dur : Int32}
theorem mv3_G (hd : ¬ dur = 0) (j : Nat) : (mv3 S c step dur).1 3 j = movG (S.1 3) c step dur j := by
  unfold mv3 movG
  show (if 3 = 3 ∧ j = 5 * c + 1 then dur else (if 3 = 3 ∧ j = 5 * c + 2 then step else S.1 3 j)) = _
  by_cases e1 : j = 5 * c + 1
  · rw [if_pos (show (3 : Nat) = 3 ∧ j = 5 * c + 1 from ⟨rfl, e1⟩), if_pos (show ¬ dur = 0 ∧ j = 5 * c + 1 from ⟨hd, e1⟩)]
  · rw [if_neg (show ¬ ((3 : Nat) = 3 ∧ j = 5 * c + 1) from fun q => e1 q.2), if_neg (show ¬ (¬ dur = 0 ∧ j = 5 * c + 1) from fun q => e1 q.2)]
    by_cases e2 : j = 5 * c + 2
    · rw [if_pos (show (3 : Nat) = 3 ∧ j = 5 * c + 2 from ⟨rfl, e2⟩), if_pos e2]
    · rw [if_neg (show ¬ ((3 : Nat) = 3 ∧ j = 5 * c + 2) from fun q => e2 q.2), if_neg e2]
theorem mv3_o {x : Nat} (hx : x ≠ 3) : (mv3 S c step dur).1 x = S.1 x := by
  unfold mv3
  rw [pSI_ne hx, pSI_ne hx]
theorem mv3_ag (hN : N ≤ 32) (hd : ¬ dur = 0) : agC (mv2 S c step dur) ((mv3 S c step dur).1 3) N := fun j hj => by rw [mv3_G hd, mv_G (by omega)]
theorem mv3_iv (hi : cIv S N) (hs : pAl 2 step = true) (hd : pAl 1 dur = true) (hd0 : ¬ dur = 0) : cIv (mv3 S c step dur) N := by
  refine ⟨?_, hi.2.1, okG_c (mv3_ag hi.2.1 hd0) (mv_ok hi.2.1 hi.2.2.1 hs (Or.inr hd)), ?_⟩
  · rw [mv3_o (by decide)]; exact hi.1
  · rw [mv3_o (by decide)]; exact hi.2.2.2
/-- told back -/
theorem mv3_back (hc : c < 36) : pSI (pSI (mv3 S c step dur) 3 (5 * c + 2) (S.1 3 (5 * c + 2))) 3 (5 * c + 1) (S.1 3 (5 * c + 1)) = S := by
  refine Prod.ext ?_ rfl
  funext x j
  show (if x = 3 ∧ j = 5 * c + 1 then S.1 3 (5 * c + 1) else (if x = 3 ∧ j = 5 * c + 2 then S.1 3 (5 * c + 2) else (if x = 3 ∧ j = 5 * c + 1 then dur else (if x = 3 ∧ j = 5 * c + 2 then step else S.1 x j)))) = S.1 x j
  by_cases e1 : x = 3 ∧ j = 5 * c + 1
  · rw [if_pos e1, e1.1, e1.2]
  · rw [if_neg e1]
    by_cases e2 : x = 3 ∧ j = 5 * c + 2
    · rw [if_pos e2, e2.1, e2.2]
    · rw [if_neg e2, if_neg e1, if_neg e2]
/-- what moved answers -/
def mvA (S : PSt) (N c : Nat) (step dur : Int32) : Int32 := if fouV (S.1 3) (S.1 1 2) N = true ∧ fouV ((mv3 S c step dur).1 3) (S.1 1 2) N = true then nI (movN (S.1 3) ((mv3 S c step dur).1 3) (S.1 1 2) N (linV (S.1 3) (S.1 1 2) N)) else -2147483002
theorem rd_moved {r9 : Option Value} (hi : cIv S N) (h : frL S T) (hc : c < N) (hs : pAl 2 step = true) (hd : pAl 1 dur = true) (hd0 : ¬ dur = 0) (hp : pA (oMoved (T.1 3) (mv2 T (tN (nI c)) step dur) (T.1 1 2) N (nI c) step dur) T T r9 U) : r9 = some (.int (mvA S N c step dur)) ∧ frL S U := by
  have hN := hi.2.1
  obtain ⟨e1, e2, -⟩ := fl_g h
  have hag : agC (mv2 T c step dur) ((mv3 S c step dur).1 3) N := fun j hj => by rw [mv3_G hd0, mv_G (by omega), e1]
  rw [tN_nI (by omega), oMoved_c (g' := T.1 3) (f' := (mv3 S c step dur).1 3) (fun j _ => rfl) hag hN, e1, e2, oMoved, if_pos (isCo_nI hN hc), if_pos hs, if_pos (Or.inr hd)] at hp
  unfold mvA
  by_cases hf : fouV (S.1 3) (S.1 1 2) N = true ∧ fouV ((mv3 S c step dur).1 3) (S.1 1 2) N = true
  · rw [if_pos hf] at hp ⊢
    exact rd_ok h hp rfl
  · rw [if_neg hf] at hp ⊢
    exact rd_no h hp rfl (by decide)
end MV
/-! what is counted -/
/-- what the arrays hold after k lines -/
def mvI (S : PSt) (N : Nat) (A B : Nat → Int32) (k : Nat) : Prop := ∀ i, i < k → B i = nI (100 * stK S N i + (stK S N i + stM S N i)) ∧ ∀ j, j ≤ stM S N i → A (stK S N i + j) = (atV (S.1 3) (S.1 1 2) (stK S N i) (stM S N i + 1) j).toInt32
def mvJ (S : PSt) (N : Nat) (A : Nat → Int32) (k j : Nat) : Prop := ∀ i, i < j → A (stK S N k + i) = (atV (S.1 3) (S.1 1 2) (stK S N k) (stM S N k + 1) i).toInt32
section CNT
variable {S S2 : PSt} {N : Nat} {A B : Nat → Int32}
theorem stk_mono (hi : cIv S N) (hfo : fouV (S.1 3) (S.1 1 2) N = true) {k : Nat} (hk : k < linV (S.1 3) (S.1 1 2) N) : ∀ i, i < k → stK S N i + stM S N i < stK S N k := by
  induction k with
  | zero => intro i h; omega
  | succ k ih =>
    intro i h
    have h1 := (st_in hi hfo (k := k) (by omega)).1
    by_cases e : i = k
    · subst e; omega
    · have := ih (by omega) i (by omega); omega
theorem mvI_B {k : Nat} (h : mvI S N A B k) {v : Int32} : mvI S N A (upA B k v) k := fun i hik => by
  refine ⟨?_, (h i hik).2⟩
  unfold upA
  rw [if_neg (by omega)]
  exact (h i hik).1
theorem mvI_A (hi : cIv S N) (hfo : fouV (S.1 3) (S.1 1 2) N = true) {k j : Nat} (hk : k < linV (S.1 3) (S.1 1 2) N) (h : mvI S N A B k) {v : Int32} : mvI S N (upA A (stK S N k + j) v) B k := fun i hik => by
  refine ⟨(h i hik).1, fun j2 hj2 => ?_⟩
  have := stk_mono hi hfo hk i hik
  unfold upA
  rw [if_neg (by omega)]
  exact (h i hik).2 j2 hj2
theorem mvJ_A {k j : Nat} (h : mvJ S N A k j) : mvJ S N (upA A (stK S N k + j) (atV (S.1 3) (S.1 1 2) (stK S N k) (stM S N k + 1) j).toInt32) k (j + 1) := fun i hij => by
  unfold upA
  by_cases e : i = j
  · subst e; rw [if_pos rfl]
  · rw [if_neg (by omega)]
    exact h i (by omega)
theorem mvI_s {k : Nat} (h : mvI S N A B k) (hB : B k = nI (100 * stK S N k + (stK S N k + stM S N k))) (hJ : mvJ S N A k (stM S N k + 1)) : mvI S N A B (k + 1) := fun i hik => by
  by_cases e : i = k
  · subst e; exact ⟨hB, fun j hj => hJ j (by omega)⟩
  · exact h i (by omega)
/-- a line is as it was -/
def isL (S S2 : PSt) (N : Nat) (A B : Nat → Int32) (k : Nat) : Nat → Bool
  | 0 => decide (B k = nI (100 * stK S2 N k + (stK S2 N k + stM S2 N k)))
  | j + 1 => isL S S2 N A B k j && decide (A (stK S2 N k + j) = (atV (S2.1 3) (S2.1 1 2) (stK S2 N k) (stM S2 N k + 1) j).toInt32)
def samL (S S2 : PSt) (N : Nat) (A B : Nat → Int32) : Nat → Nat
  | 0 => 0
  | k + 1 => samL S S2 N A B k + (if isL S S2 N A B k (stM S2 N k + 1) = true then 1 else 0)
theorem dif_false {g g2 : Nat → Int32} {w : Int32} {x n : Nat} : ∀ k, difV g g2 w x n k = false ↔ ∀ j, j < k → Op.cmpValue (FP.fcmp (atV g w x n j) (atV g2 w x n j)) .l = 0 := by
  intro k
  induction k with
  | zero => exact ⟨fun _ j hj => absurd hj (Nat.not_lt_zero j), fun _ => rfl⟩
  | succ k ih =>
    unfold difV
    rw [Bool.or_eq_false_iff, ih, Bool.not_eq_false', decide_eq_true_iff]
    refine ⟨fun h j hj => ?_, fun h => ⟨fun j hj => h j (by omega), h k (by omega)⟩⟩
    by_cases e : j = k
    · subst e; exact h.2
    · exact h.1 j (by omega)
theorem isL_true {k : Nat} : ∀ j, isL S S2 N A B k j = true ↔ B k = nI (100 * stK S2 N k + (stK S2 N k + stM S2 N k)) ∧ ∀ i, i < j → A (stK S2 N k + i) = (atV (S2.1 3) (S2.1 1 2) (stK S2 N k) (stM S2 N k + 1) i).toInt32 := by
  intro j
  induction j with
  | zero =>
    unfold isL
    rw [decide_eq_true_iff]
    exact ⟨fun h => ⟨h, fun i hi => absurd hi (Nat.not_lt_zero i)⟩, fun h => h.1⟩
  | succ j ih =>
    unfold isL
    rw [Bool.and_eq_true, ih, decide_eq_true_iff]
    refine ⟨fun h => ⟨h.1.1, fun i hi => ?_⟩, fun h => ⟨⟨h.1, fun i hi => h.2 i (by omega)⟩, h.2 j (by omega)⟩⟩
    by_cases e : i = j
    · subst e; exact h.2
    · exact h.1.2 i (by omega)
theorem at_okX (hi : cIv S N) {a m j : Nat} (hb : a + m < N) (hj : j ≤ m) : okX (atV (S.1 3) (S.1 1 2) a (m + 1) j) ∧ 0 ≤ fz (atV (S.1 3) (S.1 1 2) a (m + 1) j) := by
  have hN := hi.2.1
  exact ⟨atV_okX hi.2.2.1 hi.2.2.2 (by omega) (by omega) (by omega), (atV_ok hi.2.2.1 hi.2.2.2 (by omega) (by omega) j (by omega)).2.1⟩
theorem isL_oth (hi : cIv S N) (hi2 : cIv S2 N) (hw : S2.1 1 2 = S.1 1 2) (hfo : fouV (S.1 3) (S.1 1 2) N = true) (hfo2 : fouV (S2.1 3) (S2.1 1 2) N = true) {k : Nat} (hk : k < linV (S.1 3) (S.1 1 2) N) (hk2 : k < linV (S2.1 3) (S2.1 1 2) N) (hI : mvI S N A B (linV (S.1 3) (S.1 1 2) N)) :
    isL S S2 N A B k (stM S2 N k + 1) = !(othV (S.1 3) (S2.1 3) (S.1 1 2) N k) := by
  have hN := hi.2.1
  obtain ⟨s1, s2, -, -, -⟩ := st_in hi hfo hk
  obtain ⟨t1, t2, -, -, -⟩ := st_in hi2 hfo2 hk2
  obtain ⟨b1, b2⟩ := hI k hk
  have hk2' : k < linV (S2.1 3) (S.1 1 2) N := by rw [← hw]; exact hk2
  have e0 : ∀ i, staV (S2.1 3) (S.1 1 2) N i = stK S2 N i := fun i => by unfold stK; rw [hw]
  have key : isL S S2 N A B k (stM S2 N k + 1) = true ↔ othV (S.1 3) (S2.1 3) (S.1 1 2) N k = false := by
    rw [isL_true]
    unfold othV
    rw [decide_eq_false (show ¬ linV (S2.1 3) (S.1 1 2) N ≤ k by omega), Bool.false_or, Bool.or_eq_false_iff, Bool.or_eq_false_iff, Bool.not_eq_false', Bool.not_eq_false', decide_eq_true_iff, decide_eq_true_iff, e0, e0, dif_false]
    rw [show staV (S.1 3) (S.1 1 2) N k = stK S N k from rfl, show staV (S.1 3) (S.1 1 2) N (k + 1) = stK S N (k + 1) from rfl, show stK S N (k + 1) - stK S N k = stM S N k + 1 by omega]
    constructor
    · intro h
      have hB := h.1
      rw [b1] at hB
      have hB2 := nI_inj (by omega) (by omega) hB
      have e1 : stK S N k = stK S2 N k := by omega
      have e2 : stM S N k = stM S2 N k := by omega
      refine ⟨e1, by omega, fun j hj => ?_⟩
      have h2 := h.2 j (by omega)
      rw [← e1, b2 j (by omega)] at h2
      rw [← e2, hw] at h2
      have x1 := at_okX hi (a := stK S N k) (m := stM S N k) (j := j) (by omega) (by omega)
      have x2 := at_okX hi2 (a := stK S N k) (m := stM S N k) (j := j) (by omega) (by omega)
      rw [hw] at x2
      exact (bits_eq x1.1 x2.1 x1.2 x2.2).mp h2
    · rintro ⟨e1, e2, h3⟩
      have e3 : stM S N k = stM S2 N k := by omega
      refine ⟨by rw [b1, e1, e3], fun j hj => ?_⟩
      have x1 := at_okX hi (a := stK S N k) (m := stM S N k) (j := j) (by omega) (by omega)
      have x2 := at_okX hi2 (a := stK S N k) (m := stM S N k) (j := j) (by omega) (by omega)
      rw [hw] at x2
      rw [← e1, ← e3, hw, b2 j (by omega)]
      exact (bits_eq x1.1 x2.1 x1.2 x2.2).mpr (h3 j (by omega))
  cases h : othV (S.1 3) (S2.1 3) (S.1 1 2) N k with
  | false => rw [key.mpr h]; rfl
  | true =>
    cases h2 : isL S S2 N A B k (stM S2 N k + 1) with
    | false => rfl
    | true => rw [key.mp h2] at h; exact absurd h (by decide)
theorem sam_mov (hi : cIv S N) (hi2 : cIv S2 N) (hw : S2.1 1 2 = S.1 1 2) (hfo : fouV (S.1 3) (S.1 1 2) N = true) (hfo2 : fouV (S2.1 3) (S2.1 1 2) N = true) (hI : mvI S N A B (linV (S.1 3) (S.1 1 2) N)) : ∀ k, k ≤ linV (S.1 3) (S.1 1 2) N → k ≤ linV (S2.1 3) (S2.1 1 2) N → movN (S.1 3) (S2.1 3) (S.1 1 2) N k + samL S S2 N A B k = k := by
  intro k
  induction k with
  | zero => intro _ _; rfl
  | succ k ih =>
    intro h1 h2
    have i := ih (by omega) (by omega)
    have e := isL_oth hi hi2 hw hfo hfo2 (A := A) (B := B) (k := k) (by omega) (by omega) hI
    unfold movN samL
    rw [e]
    cases othV (S.1 3) (S2.1 3) (S.1 1 2) N k with
    | false => simp; omega
    | true => simp; omega
theorem mov_up {g g2 : Nat → Int32} {w : Int32} (h : ∀ k, linV g2 w N ≤ k → othV g g2 w N k = true) : ∀ d, movN g g2 w N (linV g2 w N + d) = movN g g2 w N (linV g2 w N) + d := by
  intro d
  induction d with
  | zero => rfl
  | succ d ih =>
    show (if othV g g2 w N (linV g2 w N + d) = true then movN g g2 w N (linV g2 w N + d) + 1 else movN g g2 w N (linV g2 w N + d)) = _
    rw [if_pos (h _ (by omega)), ih]
    omega
theorem oth_hi {g g2 : Nat → Int32} {w : Int32} {k : Nat} (h : linV g2 w N ≤ k) : othV g g2 w N k = true := by
  unfold othV
  rw [decide_eq_true h, Bool.true_or]
/-- what is counted is what is told -/
theorem mv_cnt (hi : cIv S N) (hi2 : cIv S2 N) (hw : S2.1 1 2 = S.1 1 2) (hfo : fouV (S.1 3) (S.1 1 2) N = true) (hfo2 : fouV (S2.1 3) (S2.1 1 2) N = true) (hI : mvI S N A B (linV (S.1 3) (S.1 1 2) N)) {k : Nat} (h1 : k ≤ linV (S.1 3) (S.1 1 2) N) (h2 : k ≤ linV (S2.1 3) (S2.1 1 2) N) (h3 : linV (S2.1 3) (S2.1 1 2) N ≤ k ∨ linV (S.1 3) (S.1 1 2) N ≤ k) :
    samL S S2 N A B k ≤ linV (S.1 3) (S.1 1 2) N ∧ movN (S.1 3) (S2.1 3) (S.1 1 2) N (linV (S.1 3) (S.1 1 2) N) = linV (S.1 3) (S.1 1 2) N - samL S S2 N A B k := by
  have hs := sam_mov hi hi2 hw hfo hfo2 (A := A) (B := B) hI k h1 h2
  rcases h3 with h3 | h3
  · have e : k = linV (S2.1 3) (S2.1 1 2) N := by omega
    rw [hw] at e
    have hu := mov_up (N := N) (g := S.1 3) (g2 := S2.1 3) (w := S.1 1 2) (fun k hk => oth_hi hk) (linV (S.1 3) (S.1 1 2) N - k)
    rw [← e, show k + (linV (S.1 3) (S.1 1 2) N - k) = linV (S.1 3) (S.1 1 2) N by omega] at hu
    omega
  · have e : k = linV (S.1 3) (S.1 1 2) N := by omega
    rw [← e]
    omega
end CNT
theorem pSI_j {S : PSt} {a j i : Nat} {v : Int32} (h : i ≠ j) : (pSI S a j v).1 a i = S.1 a i := by simp [pSI, pU, h]
theorem pSI_at {S : PSt} {a j : Nat} {v : Int32} : (pSI S a j v).1 a j = v := by simp [pSI, pU]
/-- the cells that the law knows are as they were -/
def frZ (S T : PSt) : Prop := ∀ x, x ≤ 70 → (x < 15 ∨ 61 ≤ x) → x ≠ 69 → T.1 x = S.1 x ∧ T.2.1 x = S.2.1 x ∧ T.2.2.1 x = S.2.2.1 x ∧ T.2.2.2 x = S.2.2.2 x
theorem fz_fl {S T : PSt} (h : frL S T) : frZ S T := fun x _ a b => h x a b
theorem fz_mB {S T : PSt} {r : Nat} {A B : Nat → Int32} (hr : 71 ≤ r) (h : frL (mB S r A B) T) : frZ S T := fun x hx a b => by
  obtain ⟨a1, a2, a3, a4⟩ := h x a b
  refine ⟨a1.trans (mB_ne (by omega) (by omega)), a2.trans ?_, a3.trans ?_, a4.trans ?_⟩
  · funext j
    exact if_neg (by omega)
  · funext j
    exact if_neg (by omega)
  · funext j
    exact if_neg (by omega)
theorem fl_sz {S T : PSt} {r : Nat} (h : frL S T) : frL (mB S r (fun _ => 0) (fun _ => 0)) (pSZ (pSZ T r) (r + 1)) := fun x a b => by
  obtain ⟨a1, a2, a3, a4⟩ := h x a b
  by_cases e1 : x = r
  · subst e1
    refine ⟨?_, ?_, ?_, ?_⟩ <;> funext j <;> simp [pSZ, mB]
  · by_cases e2 : x = r + 1
    · subst e2
      refine ⟨?_, ?_, ?_, ?_⟩ <;> funext j <;> simp [pSZ, mB]
    · refine ⟨?_, ?_, ?_, ?_⟩ <;> funext j <;> simp [pSZ, mB, e1, e2, a1, a2, a3, a4]
theorem e_rd {S S2 T : PSt} {r : Nat} {A B : Nat → Int32} (hr : 71 ≤ r) (hf : frL (mB S2 r A B) T) (h : S2.1 70 = S.1 70) (j : Nat) : T.1 70 j = S.1 70 j := congrFun ((fl_g hf).2.2.trans ((mB_3 hr).2.2.trans h)) j
theorem e35 (x : Nat) : (3 : Int32) + 5 * nI x = nI (3 + 5 * x) := by
  show _ = Int32.ofNat (3 + 5 * x)
  rw [Int32.ofNat_add, Int32.ofNat_mul]
  rfl
theorem al_of {c : Nat} {g : Nat → Int32} (h : okC g c) : pAl 1 (g (5 * c + 1)) = true ∧ pAl 2 (g (5 * c + 2)) = true := by
  obtain ⟨h1, ⟨k, hk, e⟩, h3, h4, h5⟩ := h
  refine ⟨?_, ?_⟩
  · have e2 : g (5 * c + 1) = nI (k + 1) := e
    unfold pAl pWi
    rw [show (pLeast 1).toInt = 1 by decide, show (pMost 1).toInt = 64 by decide, e2, nI_toInt (by omega)]
    exact decide_eq_true ⟨by omega, by omega⟩
  · unfold pAl pWi
    rw [show (pLeast 2).toInt = -12 by decide, show (pMost 2).toInt = 20 by decide]
    exact decide_eq_true h3
theorem cIv_set {S : PSt} {N c u : Nat} {v : Int32} (hi : cIv S N) (hc : c < N) (hu : u < 5) (h0 : u ≠ 0) (hv : pAl (nI u) v = true) : cIv (pSI S 3 (5 * c + u) v) N := by
  refine ⟨by rw [pSI_ne (by decide)]; exact hi.1, hi.2.1, fun i hiN => ?_, by rw [pSI_ne (by decide)]; exact hi.2.2.2⟩
  have h := hi.2.2.1 i hiN
  by_cases e : i = c
  · subst e
    unfold okC at h ⊢
    rcases (show u = 1 ∨ u = 2 ∨ u = 3 ∨ u = 4 by omega) with rfl | rfl | rfl | rfl
    · rw [pSI_j (by omega), pSI_at, pSI_j (by omega), pSI_j (by omega), pSI_j (by omega)]
      exact ⟨h.1, isDur_al hv, h.2.2⟩
    · rw [pSI_j (by omega), pSI_j (by omega), pSI_at, pSI_j (by omega), pSI_j (by omega)]
      have hv := of_decide_eq_true hv
      rw [show (pLeast (nI 2)).toInt = -12 by decide, show (pMost (nI 2)).toInt = 20 by decide] at hv
      exact ⟨h.1, h.2.1, hv, h.2.2.2⟩
    · rw [pSI_j (by omega), pSI_j (by omega), pSI_j (by omega), pSI_at, pSI_j (by omega)]
      have hv := of_decide_eq_true hv
      rw [show (pLeast (nI 3)).toInt = 1 by decide, show (pMost (nI 3)).toInt = 12 by decide] at hv
      exact ⟨h.1, h.2.1, h.2.2.1, hv, h.2.2.2.2⟩
    · rw [pSI_j (by omega), pSI_j (by omega), pSI_j (by omega), pSI_j (by omega), pSI_at]
      have hv := of_decide_eq_true hv
      rw [show (pLeast (nI 4)).toInt = 0 by decide, show (pMost (nI 4)).toInt = 9 by decide] at hv
      exact ⟨h.1, h.2.1, h.2.2.1, h.2.2.2.1, hv⟩
  · unfold okC at h ⊢
    rw [pSI_j (by omega), pSI_j (by omega), pSI_j (by omega), pSI_j (by omega), pSI_j (by omega)]
    exact h
theorem al_step : ∀ s, s < 33 → pAl 2 (nI s - 12) = true := by decide +kernel
theorem al_dur : ∀ d, d < 64 → (pAl 1 (1 + nI d) = true ∧ ¬ (1 + nI d) = 0) := by decide +kernel
theorem mv3_s {S : PSt} {c : Nat} {step dur : Int32} : (mv3 S c step dur).1 3 (5 * c + 2) = step := by
  unfold mv3
  rw [pSI_j (by omega), pSI_at]
theorem mv3_d {S : PSt} {c : Nat} {step dur : Int32} : (mv3 S c step dur).1 3 (5 * c + 1) = dur := by
  unfold mv3
  rw [pSI_at]
theorem mvA_N {S : PSt} {N c : Nat} {step dur : Int32} (h : ¬ (fouV (S.1 3) (S.1 1 2) N = true ∧ fouV ((mv3 S c step dur).1 3) (S.1 1 2) N = true)) : mvA S N c step dur = -2147483002 := if_neg h
theorem mvA_Y {S : PSt} {N c : Nat} {step dur : Int32} (h1 : fouV (S.1 3) (S.1 1 2) N = true) (h2 : fouV ((mv3 S c step dur).1 3) (S.1 1 2) N = true) : mvA S N c step dur = nI (movN (S.1 3) ((mv3 S c step dur).1 3) (S.1 1 2) N (linV (S.1 3) (S.1 1 2) N)) := if_pos ⟨h1, h2⟩
