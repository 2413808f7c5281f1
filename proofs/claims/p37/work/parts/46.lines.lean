/-! the best: no way to break lines has a lesser total -/
theorem fadd_cm (a b : UInt32) : FP.fadd a b = FP.fadd b a := FP.Core.fadd_comm a b
def toV (g : Nat → Int32) (w : Int32) (n : Nat) : Nat → UInt32 := (fdV g w n n).2
theorem rs_o {g : Nat → Int32} {w : Int32} {p k j : Nat} {B : PBt} (hj : ¬ j = p) : (rsV g w p B k).1 j = B.1 j ∧ (rsV g w p B k).2 j = B.2 j := by
  unfold rsV
  split
  · exact ⟨rfl, rfl⟩
  · split
    · split
      · exact ⟨if_neg hj, if_neg hj⟩
      · exact ⟨rfl, rfl⟩
    · exact ⟨rfl, rfl⟩
theorem rc_o {g : Nat → Int32} {w : Int32} {p j : Nat} {B : PBt} (hj : ¬ j = p) : ∀ k, (rcV g w p B k).1 j = B.1 j ∧ (rcV g w p B k).2 j = B.2 j := by
  intro k
  induction k with
  | zero => exact ⟨rfl, rfl⟩
  | succ k ih =>
    have h := rs_o (g := g) (w := w) (k := k) (B := rcV g w p B k) hj
    exact ⟨h.1.trans ih.1, h.2.trans ih.2⟩
theorem wb_o {B : PBt} {k j : Nat} (hj : ¬ j = k) : (wbV B k).1 j = B.1 j ∧ (wbV B k).2 j = B.2 j := ⟨if_neg hj, rfl⟩
theorem fd_o {g : Nat → Int32} {w : Int32} {n j : Nat} : ∀ d : Nat, (fdV g w n (j + d)).1 j = (fdV g w n j).1 j ∧ (fdV g w n (j + d)).2 j = (fdV g w n j).2 j := by
  intro d
  induction d with
  | zero => exact ⟨rfl, rfl⟩
  | succ d ih =>
    have hne : ¬ j = j + d + 1 := by omega
    have h1 := wb_o (B := fdV g w n (j + d)) hne
    show (fdV g w n (j + d + 1)).1 j = _ ∧ (fdV g w n (j + d + 1)).2 j = _
    rw [show fdV g w n (j + d + 1) = if isEnV g n (j + d + 1) = true then rcV g w (j + d + 1) (wbV (fdV g w n (j + d)) (j + d + 1)) (j + d + 1) else wbV (fdV g w n (j + d)) (j + d + 1) from rfl]
    split
    · have h2 := rc_o (g := g) (w := w) (B := wbV (fdV g w n (j + d)) (j + d + 1)) hne (j + d + 1)
      exact ⟨h2.1.trans (h1.1.trans ih.1), h2.2.trans (h1.2.trans ih.2)⟩
    · exact ⟨h1.1.trans ih.1, h1.2.trans ih.2⟩
/-- the best way to end at p, by the places below i -/
def bstAt (g : Nat → Int32) (w : Int32) (B : PBt) (p i : Nat) (b : Int32) (t : UInt32) : Prop :=
  (b = -1 ∧ ∀ f, f < i → B.1 f ≠ -1 → fitV g w f (p - f) = true → False) ∨
  (∃ f0, f0 < i ∧ b = nI f0 ∧ B.1 f0 ≠ -1 ∧ fitV g w f0 (p - f0) = true ∧ t = FP.fadd (B.2 f0) (badV g w f0 (p - f0)) ∧ ∀ f, f < i → B.1 f ≠ -1 → fitV g w f (p - f) = true → fz t ≤ fz (FP.fadd (B.2 f) (badV g w f (p - f))))
theorem bst_up {g : Nat → Int32} {w : Int32} {B : PBt} {p i : Nat} {b : Int32} {t : UInt32} (h : bstAt g w B p i b t) (hi : B.1 i ≠ -1 → fitV g w i (p - i) = true → False) : bstAt g w B p (i + 1) b t := by
  rcases h with ⟨h1, h2⟩ | ⟨f0, a1, a2, a3, a4, a5, a6⟩
  · refine Or.inl ⟨h1, fun f hf h3 h4 => ?_⟩
    by_cases e : f = i
    · subst e; exact hi h3 h4
    · exact h2 f (by omega) h3 h4
  · refine Or.inr ⟨f0, by omega, a2, a3, a4, a5, fun f hf h3 h4 => ?_⟩
    by_cases e : f = i
    · subst e; exact absurd (hi h3 h4) id
    · exact a6 f (by omega) h3 h4
theorem rc_best {g : Nat → Int32} {w : Int32} {N p : Nat} {B : PBt} (hg : okG g N) (hw : okWd w) (hp : p ≤ N) (hN : N ≤ 32) (HT : ∀ j, j < p → B.1 j ≠ -1 → okT j (B.2 j)) (h0 : B.1 p = -1) :
    ∀ i, i ≤ p → bstAt g w B p i ((rcV g w p B i).1 p) ((rcV g w p B i).2 p) := by
  have hfF : ∀ f, f < p → B.1 f ≠ -1 → fF (FP.fadd (B.2 f) (badV g w f (p - f))) := fun f hf hb => (add_okT (HT f hf hb) (badV_ok hg hw (n := p - f) (by omega) (by omega)) (by omega)).1.1
  intro i
  induction i with
  | zero => intro _; exact Or.inl ⟨h0, fun f hf => absurd hf (Nat.not_lt_zero f)⟩
  | succ i ih =>
    intro hi
    have IH := ih (by omega)
    have o1 := rc_o (g := g) (w := w) (B := B) (show ¬ i = p by omega) i
    show bstAt g w B p (i + 1) ((rsV g w p (rcV g w p B i) i).1 p) ((rsV g w p (rcV g w p B i) i).2 p)
    unfold rsV
    rw [o1.1, o1.2]
    by_cases h1 : B.1 i = -1
    · rw [if_pos h1]; exact bst_up IH (fun q => absurd h1 q)
    rw [if_neg h1]
    by_cases h2 : fitV g w i (p - i) = true
    · rw [if_pos h2]
      by_cases h3 : (rcV g w p B i).1 p = -1 ∨ flt (FP.fadd (B.2 i) (badV g w i (p - i))) ((rcV g w p B i).2 p) = true
      · rw [if_pos h3]
        show bstAt g w B p (i + 1) (if p = p then nI i else (rcV g w p B i).1 p) (if p = p then FP.fadd (B.2 i) (badV g w i (p - i)) else (rcV g w p B i).2 p)
        rw [if_pos rfl, if_pos rfl]
        refine Or.inr ⟨i, by omega, rfl, h1, h2, rfl, fun f hf h4 h5 => ?_⟩
        by_cases e : f = i
        · subst e; exact Int.le_refl _
        · rcases IH with ⟨-, b2⟩ | ⟨f0, a1, a2, a3, a4, a5, a6⟩
          · exact absurd (b2 f (by omega) h4 h5) id
          · rcases h3 with h3 | h3
            · rw [a2] at h3; exact absurd h3 (nI_nm1 (by omega))
            · rw [flt_iff (hfF i (by omega) h1) (by rw [a5]; exact hfF f0 (by omega) a3)] at h3
              exact Int.le_trans (Int.le_of_lt h3) (a6 f (by omega) h4 h5)
      · rw [if_neg h3]
        rcases IH with ⟨b1, -⟩ | ⟨f0, a1, a2, a3, a4, a5, a6⟩
        · exact absurd (Or.inl b1) h3
        · refine Or.inr ⟨f0, by omega, a2, a3, a4, a5, fun f hf h4 h5 => ?_⟩
          by_cases e : f = i
          · subst e
            refine Int.not_lt.mp fun q => h3 (Or.inr ?_)
            rw [flt_iff (hfF f (by omega) h1) (by rw [a5]; exact hfF f0 (by omega) a3)]
            exact q
          · exact a6 f (by omega) h4 h5
    · rw [if_neg h2]; exact bst_up IH (fun _ q => absurd q h2)
theorem to_ok {g : Nat → Int32} {w : Int32} {n j : Nat} (hg : okG g n) (hw : okWd w) (hn : n ≤ 32) (hj : j ≤ n) (hb : beV g w n j ≠ -1) : okT j (toV g w n j) := fdV_tot hg hw hn n (Nat.le_refl n) j hj hb
theorem be_o {g : Nat → Int32} {w : Int32} {n j m : Nat} (h1 : j ≤ m) (h2 : m ≤ n) : (fdV g w n m).1 j = beV g w n j ∧ (fdV g w n m).2 j = toV g w n j := by
  have a := fd_o (g := g) (w := w) (n := n) (j := j) (m - j)
  have b := fd_o (g := g) (w := w) (n := n) (j := j) (n - j)
  rw [show j + (m - j) = m by omega] at a
  rw [show j + (n - j) = n by omega] at b
  exact ⟨a.1.trans b.1.symm, a.2.trans b.2.symm⟩
theorem be_0 {g : Nat → Int32} {w : Int32} {n : Nat} : beV g w n 0 = 0 ∧ toV g w n 0 = FP.fconst0 := by
  have h := be_o (g := g) (w := w) (n := n) (j := 0) (m := 0) (Nat.le_refl _) (Nat.zero_le _)
  exact ⟨h.1.symm.trans rfl, h.2.symm.trans rfl⟩
theorem be_in {g : Nat → Int32} {w : Int32} {n p : Nat} (hg : okG g n) (hw : okWd w) (hn : n ≤ 32) (h0 : 0 < p) (hp : p ≤ n) :
    (beV g w n p ≠ -1 → isEnV g n p = true ∧ ∃ f, f < p ∧ beV g w n p = nI f ∧ beV g w n f ≠ -1 ∧ fitV g w f (p - f) = true ∧ toV g w n p = FP.fadd (toV g w n f) (badV g w f (p - f)) ∧
      ∀ f, f < p → beV g w n f ≠ -1 → fitV g w f (p - f) = true → fz (toV g w n p) ≤ fz (FP.fadd (toV g w n f) (badV g w f (p - f)))) ∧
    (isEnV g n p = true → ∀ f, f < p → beV g w n f ≠ -1 → fitV g w f (p - f) = true → beV g w n p ≠ -1) := by
  obtain ⟨k, rfl⟩ : ∃ k, p = k + 1 := ⟨p - 1, by omega⟩
  have hB : ∀ f, f < k + 1 → (wbV (fdV g w n k) (k + 1)).1 f = beV g w n f ∧ (wbV (fdV g w n k) (k + 1)).2 f = toV g w n f := fun f hf => by
    have h1 := wb_o (B := fdV g w n k) (show ¬ f = k + 1 by omega)
    have h2 := be_o (g := g) (w := w) (n := n) (j := f) (m := k) (by omega) (by omega)
    exact ⟨h1.1.trans h2.1, h1.2.trans h2.2⟩
  have hW : (wbV (fdV g w n k) (k + 1)).1 (k + 1) = -1 := if_pos rfl
  have hP := be_o (g := g) (w := w) (n := n) (j := k + 1) (m := k + 1) (Nat.le_refl _) hp
  by_cases hE : isEnV g n (k + 1) = true
  · have hF : fdV g w n (k + 1) = rcV g w (k + 1) (wbV (fdV g w n k) (k + 1)) (k + 1) := by
      show (if isEnV g n (k + 1) = true then _ else _) = _
      rw [if_pos hE]
    have hb := rc_best (p := k + 1) (B := wbV (fdV g w n k) (k + 1)) hg hw hp hn (fun j hj h1 => by
      rw [(hB j hj).1] at h1
      rw [(hB j hj).2]
      exact to_ok hg hw hn (by omega) h1) hW (k + 1) (Nat.le_refl _)
    rw [← hF, hP.1, hP.2] at hb
    rcases hb with ⟨b1, b2⟩ | ⟨f0, a1, a2, a3, a4, a5, a6⟩
    · refine ⟨fun q => absurd b1 q, fun _ f hf h1 h2 => ?_⟩
      exact absurd (b2 f hf (by rw [(hB f hf).1]; exact h1) h2) id
    · rw [(hB f0 a1).1] at a3
      rw [(hB f0 a1).2] at a5
      refine ⟨fun _ => ⟨hE, f0, a1, a2, a3, a4, a5, fun f hf h1 h2 => ?_⟩, fun _ f hf h1 h2 => by rw [a2]; exact nI_nm1 (by omega)⟩
      have := a6 f hf (by rw [(hB f hf).1]; exact h1) h2
      rw [(hB f hf).2] at this
      exact this
  · have hF : fdV g w n (k + 1) = wbV (fdV g w n k) (k + 1) := by
      show (if isEnV g n (k + 1) = true then _ else _) = _
      rw [if_neg hE]
    rw [hF, hW] at hP
    exact ⟨fun q => absurd hP.1.symm q, fun q => absurd q hE⟩
/-! the lines that are told -/
theorem nI_inj {a b : Nat} (ha : a < 2 ^ 31) (hb : b < 2 ^ 31) (h : nI a = nI b) : a = b := by
  have := congrArg Int32.toInt h
  rw [nI_toInt ha, nI_toInt hb] at this
  omega
section LNS
variable {g : Nat → Int32} {w : Int32} {n : Nat}
theorem sta_0 (hn : n ≤ 32) (hf : fouV g w n = true) : staV g w n 0 = 0 := poB_0 _ _ (by omega) (lin_ch hn hf)
theorem sta_L : staV g w n (linV g w n) = n := poB_top
theorem ln_in (hg : okG g n) (hw : okWd w) (hn : n ≤ 32) (hf : fouV g w n = true) {k : Nat} (hk : k < linV g w n) :
    staV g w n k < staV g w n (k + 1) ∧ staV g w n (k + 1) ≤ n ∧ isEnV g n (staV g w n (k + 1)) = true ∧ fitV g w (staV g w n k) (staV g w n (k + 1) - staV g w n k) = true ∧
    toV g w n (staV g w n (k + 1)) = FP.fadd (toV g w n (staV g w n k)) (badV g w (staV g w n k) (staV g w n (k + 1) - staV g w n k)) := by
  obtain ⟨a1, a2, a3⟩ := poB_lt (b := beV g w n) (linV g w n) n k (by omega) (lin_ch hn hf) hk
  have b := (be_in hg hw hn (p := staV g w n (k + 1)) (by unfold staV; omega) a2).1 (by
    show beV g w n (poB (beV g w n) (linV g w n) n (k + 1)) ≠ -1
    rw [a3]; exact nI_nm1 (by omega))
  obtain ⟨b1, f, b2, b3, b4, b5, b6, -⟩ := b
  have s9 : staV g w n (k + 1) ≤ n := a2
  have e : f = staV g w n k := by
    have h9 : nI f = nI (staV g w n k) := b3.symm.trans a3
    exact nI_inj (by omega) (by show poB _ _ _ _ < _; omega) h9
  subst e
  exact ⟨b2, a2, b1, b5, b6⟩
theorem okT_pos {k : Nat} {x : UInt32} (h : okT k x) : x.toNat < 2 ^ 31 := by
  by_cases h0 : x = 0
  · rw [h0]; decide
  · have := okX_nz h.1 h0 h.2.1
    exact pos_bits h.1.1 (by have : ((2 ^ 23 : Nat) : Int) > 0 := by decide
                             omega)
theorem bits_pos {x : UInt32} (h : x.toNat < 2 ^ 31) : 0 ≤ x.toInt32.toInt := by
  have : x.toInt32.toInt = x.toBitVec.toInt := rfl
  rw [this, BitVec.toInt_eq_toNat_of_lt (by show 2 * x.toNat < 2 ^ 32; omega)]
  exact Int.natCast_nonneg _
theorem bits_ne {x : UInt32} (h : x.toNat < 2 ^ 31) : ¬ x.toInt32 = -2147483002 := fun q => by
  have h1 := bits_pos h
  rw [q] at h1
  exact absurd h1 (by decide)
/-- nothing found: one line of all doesn't fit -/
theorem no_fit (hg : okG g n) (hw : okWd w) (hn : n ≤ 32) (h0 : 0 < n) (hf : ¬ fouV g w n = true) : ¬ fitV g w 0 n = true := fun q => by
  have h1 : beV g w n n ≠ -1 := (be_in hg hw hn h0 (Nat.le_refl n)).2 (by unfold isEnV; rw [decide_eq_true rfl]; rfl) 0 h0 (by rw [be_0.1]; decide) (by rw [Nat.sub_zero]; exact q)
  exact hf (decide_eq_true h1)
/-- another way: what it comes to is no less -/
def othW (g : Nat → Int32) (w : Int32) (n fr : Nat) (good : Bool) (other : UInt32) : Prop := good = true → beV g w n fr ≠ -1 ∧ okT fr other ∧ fz (toV g w n fr) ≤ fz other
theorem oth_0 : othW g w n 0 true FP.fconst0 := fun _ => ⟨by rw [be_0.1]; decide, ⟨okX_0, by rw [fz_0]; exact Int.le_refl _, by rw [fz_0]; exact Int.natCast_nonneg _⟩, by rw [be_0.2]; exact Int.le_refl _⟩
theorem oth_up (hg : okG g n) (hw : okWd w) (hn : n ≤ 32) {f p : Nat} {good : Bool} {o : UInt32} (hfp : f < p) (hp : p ≤ n) (hE : isEnV g n p = true) (h : othW g w n f good o) :
    othW g w n p (good && fitV g w f (p - f)) (if (good && fitV g w f (p - f)) = true then FP.fadd o (badV g w f (p - f)) else o) := by
  intro hgd
  rw [if_pos hgd]
  obtain ⟨g1, g2⟩ := Bool.and_eq_true_iff.mp hgd
  obtain ⟨a1, a2, a3⟩ := h g1
  have b := be_in hg hw hn (p := p) (by omega) hp
  have h1 := b.2 hE f hfp a1 g2
  obtain ⟨-, f0, -, -, -, -, -, b6⟩ := b.1 h1
  have k1 := badV_ok hg hw (a := f) (n := p - f) (by omega) (by omega)
  have k2 := add_okT a2 k1 (by omega)
  have k3 := to_ok hg hw hn (j := f) (by omega) a1
  have k4 := add_okT k3 k1 (by omega)
  refine ⟨h1, okT_mono k2 (by omega), Int.le_trans (b6 f hfp a1 g2) ?_⟩
  rw [fadd_cm (toV g w n f), fadd_cm o]
  exact fadd_mono k1.1.1 k3.1.1 a2.1.1 k1.2.1 k3.2.1 a3 (by rw [fadd_cm]; exact k4.1.1) (by rw [fadd_cm]; exact k2.1.1)
end LNS
