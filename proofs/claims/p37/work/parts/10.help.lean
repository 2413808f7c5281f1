/-! helpers of the class: written by wip/whole/gen/c10.py -/
/-- the place i is one of n -/
def pIn (i : Int32) (n : Nat) : Prop := 0 ≤ i.toInt ∧ i.toInt < n
theorem pIn_vp {i : Int32} {n : Nat} (h : pIn i n) : vp_in i n := vp_in_iff.mpr h

theorem i_nlt0 {x : Int32} (h : ¬ x < 0) : 0 ≤ x.toInt := by
  rw [Int32.lt_iff_toInt_lt, Int32.toInt_zero] at h; omega
theorem i_lt0 {x : Int32} (h : x < 0) : x.toInt < 0 := by
  rw [Int32.lt_iff_toInt_lt, Int32.toInt_zero] at h; omega
theorem i_nge {x : Int32} {n : Nat} (hn : n < 2 ^ 31) (h : ¬ Int32.ofNat n ≤ x) : x.toInt < n := by
  rw [Int32.le_iff_toInt_le, show (Int32.ofNat n).toInt = (n : Int) from nI_toInt hn] at h; omega
theorem i_ge {x : Int32} {n : Nat} (hn : n < 2 ^ 31) (h : Int32.ofNat n ≤ x) : (n : Int) ≤ x.toInt := by
  rw [Int32.le_iff_toInt_le, show (Int32.ofNat n).toInt = (n : Int) from nI_toInt hn] at h; omega
theorem q_S {M : PM} {d n0 : Nat} {X : Nat × (Nat → Int32)} {sh : List PSh} {P : Option Value → PSt → Prop} {pc : Nat} {L : PL} {st : List Value} {S S2 : PSt} (h : S = S2) (k : pV M d n0 X sh P pc L st S2) : pV M d n0 X sh P pc L st S := by subst h; exact k
theorem q_st {M : PM} {d n0 : Nat} {X : Nat × (Nat → Int32)} {sh : List PSh} {P : Option Value → PSt → Prop} {pc : Nat} {L : PL} {st st2 : List Value} {S : PSt} (h : st = st2) (k : pV M d n0 X sh P pc L st2 S) : pV M d n0 X sh P pc L st S := by subst h; exact k
theorem q_L {M : PM} {d n0 : Nat} {X : Nat × (Nat → Int32)} {sh : List PSh} {P : Option Value → PSt → Prop} {pc : Nat} {L L2 : PL} {st : List Value} {S : PSt} (h : L = L2) (k : pV M d n0 X sh P pc L2 st S) : pV M d n0 X sh P pc L st S := by subst h; exact k
/-- a place read as a number: the index if it is one of n, else n (no place) -/
def rd {α : Type} (z : α) (f : Nat → α) (n : Nat) (i : Int32) : α := if 0 ≤ i.toInt ∧ i.toInt < n then f i.toNatClampNeg else z
/-- a place written -/
def wrI (S : PSt) (a n : Nat) (i x : Int32) : PSt := if 0 ≤ i.toInt ∧ i.toInt < n then pSI S a i.toNatClampNeg x else S
def wrF (S : PSt) (a n : Nat) (i : Int32) (x : UInt32) : PSt := if 0 ≤ i.toInt ∧ i.toInt < n then pSF S a i.toNatClampNeg x else S
def wrJ (S : PSt) (a n : Nat) (i : Int32) (x : Int64) : PSt := if 0 ≤ i.toInt ∧ i.toInt < n then pSJ S a i.toNatClampNeg x else S
theorem rd_in {α : Type} {z : α} {f : Nat → α} {n : Nat} {i : Int32} (h1 : ¬ i < 0) (h2 : i.toInt < n) : f i.toNatClampNeg = rd z f n i := by rw [rd, if_pos ⟨i_nlt0 h1, h2⟩]
theorem rd_lo {α : Type} {z : α} {f : Nat → α} {n : Nat} {i : Int32} (h1 : i < 0) : z = rd z f n i := by rw [rd, if_neg (fun q => by have := i_lt0 h1; omega)]
theorem rd_hi {α : Type} {z : α} {f : Nat → α} {n : Nat} {i : Int32} (h1 : (n : Int) ≤ i.toInt) : z = rd z f n i := by rw [rd, if_neg (fun q => by omega)]
theorem vp_of {i : Int32} {n : Nat} (h1 : ¬ i < 0) (h2 : i.toInt < n) : vp_in i n := vp_in_iff.mpr ⟨i_nlt0 h1, h2⟩
/-- 1 or 0 -/
def pB (c : Bool) : Int32 := if c then 1 else 0
theorem pB_n (c : Bool) : vp_nar .boolean (pB c) = pB c := by cases c <;> decide
theorem pB_nar (c : Bool) : narrow .boolean (.int (pB c)) = .int (pB c) := by cases c <;> rfl
theorem pB_fit (c : Bool) : fits .boolean (.int (pB c)) = true := by cases c <;> rfl
theorem pB_0 (c : Bool) : pB c = 0 ↔ c = false := by cases c <;> decide
theorem pB_t {c : Bool} (h : ¬ pB c = 0) : c = true := by cases c; exact absurd rfl h; rfl
theorem pB_f {c : Bool} (h : pB c = 0) : c = false := by cases c; rfl; exact absurd h (by decide)

set_option maxRecDepth 100000 in
theorem sp_X8_readInt {sh : List PSh} {S : PSt} {a n : Nat} {i : Int32} (hs : sh[a]? = some (.inl (0, n))) (hn : n < 2 ^ 31) : pF mX8_readInt 0 [.ref a, .int i] sh S S (some (.int (rd 0 (S.1 a) n i))) := by
  refine pF.of (pG.of [some (.ref a), some (.int i)] (by decide) tk_X8_readInt (Nat.le_of_ble_eq_true rfl) rfl (fun X => ?_))
  refine q_aload_n (pc := 0) (j := 0) rfl rfl ?_
  refine q_ifnull (pc := 1) rfl ?_
  refine q_iload_n (pc := 4) (j := 1) rfl rfl ?_
  refine q_if_lt (pc := 5) 20 rfl (by decide) (fun h5 => ?_) (fun h5 => ?_)
  · refine q_iconst (pc := 20) 0 rfl (by decide) ?_
    exact q_iret (pc := 21) rfl rfl ⟨congrArg (fun v => some (Value.int v)) (by first | exact rd_in h5 (i_nge hn h11) | exact rd_lo h5 | exact rd_hi (i_ge hn h11)), rfl⟩
  · refine q_iload_n (pc := 8) (j := 1) rfl rfl ?_
    refine q_aload_n (pc := 9) (j := 0) rfl rfl ?_
    refine q_alen (pc := 10) (a := a) (Int32.ofNat n) rfl hs (by decide) rfl ?_
    refine q_icmp_ge (pc := 11) 20 rfl (by decide) (fun h11 => ?_) (fun h11 => ?_)
    · refine q_iconst (pc := 20) 0 rfl (by decide) ?_
      exact q_iret (pc := 21) rfl rfl ⟨congrArg (fun v => some (Value.int v)) (by first | exact rd_in h5 (i_nge hn h11) | exact rd_lo h5 | exact rd_hi (i_ge hn h11)), rfl⟩
    · refine q_aload_n (pc := 14) (j := 0) rfl rfl ?_
      refine q_iload_n (pc := 15) (j := 1) rfl rfl ?_
      refine q_iald (pc := 16) (a := a) i.toNatClampNeg rfl hs (vp_of h5 (i_nge hn h11)) rfl ?_
      refine q_goto (pc := 17) 21 rfl (by decide) ?_
      exact q_iret (pc := 21) rfl rfl ⟨congrArg (fun v => some (Value.int v)) (by first | exact rd_in h5 (i_nge hn h11) | exact rd_lo h5 | exact rd_hi (i_ge hn h11)), rfl⟩
set_option maxRecDepth 100000 in
theorem sp_X8_readFloat {sh : List PSh} {S : PSt} {a n : Nat} {i : Int32} (hs : sh[a]? = some (.inl (1, n))) (hn : n < 2 ^ 31) : pF mX8_readFloat 0 [.ref a, .int i] sh S S (some (.float (rd FP.fconst0 (S.2.1 a) n i))) := by
  refine pF.of (pG.of [some (.ref a), some (.int i)] (by decide) tk_X8_readFloat (Nat.le_of_ble_eq_true rfl) rfl (fun X => ?_))
  refine q_aload_n (pc := 0) (j := 0) rfl rfl ?_
  refine q_ifnull (pc := 1) rfl ?_
  refine q_iload_n (pc := 4) (j := 1) rfl rfl ?_
  refine q_if_lt (pc := 5) 20 rfl (by decide) (fun h5 => ?_) (fun h5 => ?_)
  · refine q_fconst0 (pc := 20) rfl ?_
    exact q_fret (pc := 21) rfl rfl ⟨congrArg (fun v => some (Value.float v)) (by first | exact rd_in h5 (i_nge hn h11) | exact rd_lo h5 | exact rd_hi (i_ge hn h11)), rfl⟩
  · refine q_iload_n (pc := 8) (j := 1) rfl rfl ?_
    refine q_aload_n (pc := 9) (j := 0) rfl rfl ?_
    refine q_alen (pc := 10) (a := a) (Int32.ofNat n) rfl hs (by decide) rfl ?_
    refine q_icmp_ge (pc := 11) 20 rfl (by decide) (fun h11 => ?_) (fun h11 => ?_)
    · refine q_fconst0 (pc := 20) rfl ?_
      exact q_fret (pc := 21) rfl rfl ⟨congrArg (fun v => some (Value.float v)) (by first | exact rd_in h5 (i_nge hn h11) | exact rd_lo h5 | exact rd_hi (i_ge hn h11)), rfl⟩
    · refine q_aload_n (pc := 14) (j := 0) rfl rfl ?_
      refine q_iload_n (pc := 15) (j := 1) rfl rfl ?_
      refine q_fald (pc := 16) (a := a) i.toNatClampNeg rfl hs (vp_of h5 (i_nge hn h11)) rfl ?_
      refine q_goto (pc := 17) 21 rfl (by decide) ?_
      exact q_fret (pc := 21) rfl rfl ⟨congrArg (fun v => some (Value.float v)) (by first | exact rd_in h5 (i_nge hn h11) | exact rd_lo h5 | exact rd_hi (i_ge hn h11)), rfl⟩
theorem rd_inR {j : Nat} {X : Nat × (Nat → Int32)} {i : Int32} (h1 : ¬ i < 0) (h2 : i.toInt < (pRoC X j).1) : (pRoC X j).2 i.toNatClampNeg = rd 0 (pRoC X j).2 (pRoC X j).1 i := rd_in h1 h2
def pLeast (w : Int32) : Int32 := rd 0 (fun k => ([0, 1, -12, 1, 0] : List Int32).getD k 0) 5 w
def pMost (w : Int32) : Int32 := rd 0 (fun k => ([2, 64, 20, 12, 9] : List Int32).getD k 0) 5 w
/-- v is from l to m -/
def pWi (v l m : Int32) : Bool := decide (l.toInt ≤ v.toInt ∧ v.toInt ≤ m.toInt)
theorem pWi_lo {v l m : Int32} (h : v < l) : 0 = pB (pWi v l m) := by
  rw [Int32.lt_iff_toInt_lt] at h
  have : pWi v l m = false := decide_eq_false (fun q => by omega)
  rw [this]; rfl
theorem pWi_hi {v l m : Int32} (h : m < v) : 0 = pB (pWi v l m) := by
  rw [Int32.lt_iff_toInt_lt] at h
  have : pWi v l m = false := decide_eq_false (fun q => by omega)
  rw [this]; rfl
theorem pWi_in {v l m : Int32} (h : ¬ v < l) (h2 : ¬ m < v) : 1 = pB (pWi v l m) := by
  rw [Int32.lt_iff_toInt_lt] at h h2
  have : pWi v l m = true := decide_eq_true (by omega)
  rw [this]; rfl
def pAl (w v : Int32) : Bool := pWi v (pLeast w) (pMost w)
theorem wrI_in {S : PSt} {a n : Nat} {i x : Int32} (h1 : ¬ i < 0) (h2 : i.toInt < n) : pSI S a i.toNatClampNeg x = wrI S a n i x := by rw [wrI, if_pos ⟨i_nlt0 h1, h2⟩]
theorem wrI_lo {S : PSt} {a n : Nat} {i x : Int32} (h1 : i < 0) : S = wrI S a n i x := by rw [wrI, if_neg (fun q => by have := i_lt0 h1; omega)]
theorem wrI_hi {S : PSt} {a n : Nat} {i x : Int32} (h1 : (n : Int) ≤ i.toInt) : S = wrI S a n i x := by rw [wrI, if_neg (fun q => by omega)]
theorem wrF_in {S : PSt} {a n : Nat} {i : Int32} {x : UInt32} (h1 : ¬ i < 0) (h2 : i.toInt < n) : pSF S a i.toNatClampNeg x = wrF S a n i x := by rw [wrF, if_pos ⟨i_nlt0 h1, h2⟩]
theorem wrF_lo {S : PSt} {a n : Nat} {i : Int32} {x : UInt32} (h1 : i < 0) : S = wrF S a n i x := by rw [wrF, if_neg (fun q => by have := i_lt0 h1; omega)]
theorem wrF_hi {S : PSt} {a n : Nat} {i : Int32} {x : UInt32} (h1 : (n : Int) ≤ i.toInt) : S = wrF S a n i x := by rw [wrF, if_neg (fun q => by omega)]
theorem wrJ_in {S : PSt} {a n : Nat} {i : Int32} {x : Int64} (h1 : ¬ i < 0) (h2 : i.toInt < n) : pSJ S a i.toNatClampNeg x = wrJ S a n i x := by rw [wrJ, if_pos ⟨i_nlt0 h1, h2⟩]
theorem wrJ_lo {S : PSt} {a n : Nat} {i : Int32} {x : Int64} (h1 : i < 0) : S = wrJ S a n i x := by rw [wrJ, if_neg (fun q => by have := i_lt0 h1; omega)]
theorem wrJ_hi {S : PSt} {a n : Nat} {i : Int32} {x : Int64} (h1 : (n : Int) ≤ i.toInt) : S = wrJ S a n i x := by rw [wrJ, if_neg (fun q => by omega)]
/-- a flag read -/
def rdB (S : PSt) (a n : Nat) (i : Int32) : Bool := decide (rd 0 (S.1 a) n i ≠ 0)
theorem rdB_lo {S : PSt} {a n : Nat} {i : Int32} (h : i < 0) : 0 = pB (rdB S a n i) := by rw [rdB, ← rd_lo h]; rfl
theorem rdB_hi {S : PSt} {a n : Nat} {i : Int32} (h : (n : Int) ≤ i.toInt) : 0 = pB (rdB S a n i) := by rw [rdB, ← rd_hi h]; rfl
theorem rdB_0 {S : PSt} {a n : Nat} {i : Int32} (h1 : ¬ i < 0) (h2 : i.toInt < n) (h : S.1 a i.toNatClampNeg = 0) : 0 = pB (rdB S a n i) := by
  rw [rdB, ← rd_in h1 h2, h]; rfl
theorem rdB_1 {S : PSt} {a n : Nat} {i : Int32} (h1 : ¬ i < 0) (h2 : i.toInt < n) (h : ¬ S.1 a i.toNatClampNeg = 0) : 1 = pB (rdB S a n i) := by
  rw [rdB, ← rd_in h1 h2, decide_eq_true h]; rfl
/-- the first k ints of b are those of a -/
def cpI (S : PSt) (a b k : Nat) : PSt := (fun c j => if c = b ∧ j < k then S.1 a j else S.1 c j, S.2)
theorem cpI_0 (S : PSt) (a b : Nat) : cpI S a b 0 = S := by simp [cpI]
theorem cpI_s {S : PSt} {a b k : Nat} (h : a ≠ b) : pSI (cpI S a b k) b k ((cpI S a b k).1 a k) = cpI S a b (k + 1) := by
  unfold pSI cpI pU
  congr 1
  funext c j
  by_cases hc : c = b
  · subst hc
    by_cases hj : j = k
    · subst hj; simp [h]
    · by_cases hj2 : j < k
      · simp [hj, hj2, Nat.lt_succ_of_lt hj2]
      · have : ¬ j < k + 1 := by omega
        simp [hj, hj2, this]
  · simp [hc]
set_option maxRecDepth 100000 in
theorem sp_readInt_LEAST {sh : List PSh} {S : PSt} {i : Int32} : pF mX8_readInt 0 [.ref 1001, .int i] sh S S (some (.int (pLeast i))) := by
  refine pF.of (pG.of [some (.ref 1001), some (.int i)] (by decide) tk_X8_readInt (Nat.le_of_ble_eq_true rfl) rfl (fun X => ?_))
  refine q_aload_n (pc := 0) (j := 0) rfl rfl ?_
  refine q_ifnull (pc := 1) rfl ?_
  refine q_iload_n (pc := 4) (j := 1) rfl rfl ?_
  refine q_if_lt (pc := 5) 20 rfl (by decide) (fun h5 => ?_) (fun h5 => ?_)
  · refine q_iconst (pc := 20) 0 rfl (by decide) ?_
    exact q_iret (pc := 21) rfl rfl ⟨congrArg (fun v => some (Value.int v)) (by first | exact rd_in h5 (i_nge (n := 5) (by decide) h11) | exact rd_lo h5 | exact rd_hi (i_ge (n := 5) (by decide) h11)), rfl⟩
  · refine q_iload_n (pc := 8) (j := 1) rfl rfl ?_
    refine q_aload_n (pc := 9) (j := 0) rfl rfl ?_
    refine q_alenR (pc := 10) 1 (by decide) rfl ?_
    refine q_icmp_ge (pc := 11) 20 rfl (by decide) (fun h11 => ?_) (fun h11 => ?_)
    · refine q_iconst (pc := 20) 0 rfl (by decide) ?_
      exact q_iret (pc := 21) rfl rfl ⟨congrArg (fun v => some (Value.int v)) (by first | exact rd_in h5 (i_nge (n := 5) (by decide) h11) | exact rd_lo h5 | exact rd_hi (i_ge (n := 5) (by decide) h11)), rfl⟩
    · refine q_aload_n (pc := 14) (j := 0) rfl rfl ?_
      refine q_iload_n (pc := 15) (j := 1) rfl rfl ?_
      refine q_ialdR (pc := 16) 1 _ (by decide) rfl (vp_of h5 (i_nge (n := 5) (by decide) h11)) rfl ?_
      refine q_goto (pc := 17) 21 rfl (by decide) ?_
      exact q_iret (pc := 21) rfl rfl ⟨congrArg (fun v => some (Value.int v)) (by first | exact rd_in h5 (i_nge (n := 5) (by decide) h11) | exact rd_lo h5 | exact rd_hi (i_ge (n := 5) (by decide) h11)), rfl⟩
set_option maxRecDepth 100000 in
theorem sp_readInt_MOST {sh : List PSh} {S : PSt} {i : Int32} : pF mX8_readInt 0 [.ref 1002, .int i] sh S S (some (.int (pMost i))) := by
  refine pF.of (pG.of [some (.ref 1002), some (.int i)] (by decide) tk_X8_readInt (Nat.le_of_ble_eq_true rfl) rfl (fun X => ?_))
  refine q_aload_n (pc := 0) (j := 0) rfl rfl ?_
  refine q_ifnull (pc := 1) rfl ?_
  refine q_iload_n (pc := 4) (j := 1) rfl rfl ?_
  refine q_if_lt (pc := 5) 20 rfl (by decide) (fun h5 => ?_) (fun h5 => ?_)
  · refine q_iconst (pc := 20) 0 rfl (by decide) ?_
    exact q_iret (pc := 21) rfl rfl ⟨congrArg (fun v => some (Value.int v)) (by first | exact rd_in h5 (i_nge (n := 5) (by decide) h11) | exact rd_lo h5 | exact rd_hi (i_ge (n := 5) (by decide) h11)), rfl⟩
  · refine q_iload_n (pc := 8) (j := 1) rfl rfl ?_
    refine q_aload_n (pc := 9) (j := 0) rfl rfl ?_
    refine q_alenR (pc := 10) 2 (by decide) rfl ?_
    refine q_icmp_ge (pc := 11) 20 rfl (by decide) (fun h11 => ?_) (fun h11 => ?_)
    · refine q_iconst (pc := 20) 0 rfl (by decide) ?_
      exact q_iret (pc := 21) rfl rfl ⟨congrArg (fun v => some (Value.int v)) (by first | exact rd_in h5 (i_nge (n := 5) (by decide) h11) | exact rd_lo h5 | exact rd_hi (i_ge (n := 5) (by decide) h11)), rfl⟩
    · refine q_aload_n (pc := 14) (j := 0) rfl rfl ?_
      refine q_iload_n (pc := 15) (j := 1) rfl rfl ?_
      refine q_ialdR (pc := 16) 2 _ (by decide) rfl (vp_of h5 (i_nge (n := 5) (by decide) h11)) rfl ?_
      refine q_goto (pc := 17) 21 rfl (by decide) ?_
      exact q_iret (pc := 21) rfl rfl ⟨congrArg (fun v => some (Value.int v)) (by first | exact rd_in h5 (i_nge (n := 5) (by decide) h11) | exact rd_lo h5 | exact rd_hi (i_ge (n := 5) (by decide) h11)), rfl⟩
set_option maxRecDepth 100000 in
theorem sp_X8_writeInt {sh : List PSh} {S : PSt} {a n : Nat} {i : Int32} {x : Int32} (hs : sh[a]? = some (.inl (0, n))) (hn : n < 2 ^ 31) : pF mX8_writeInt 0 [.ref a, .int i, .int x] sh S (wrI S a n i x) (none) := by
  refine pF.of (pG.of [some (.ref a), some (.int i), some (.int x)] (by decide) tk_X8_writeInt (Nat.le_of_ble_eq_true rfl) rfl (fun X => ?_))
  refine q_aload_n (pc := 0) (j := 0) rfl rfl ?_
  refine q_ifnull (pc := 1) rfl ?_
  refine q_iload_n (pc := 4) (j := 1) rfl rfl ?_
  refine q_if_lt (pc := 5) 18 rfl (by decide) (fun h5 => ?_) (fun h5 => ?_)
  · exact q_vret (pc := 18) rfl rfl ⟨rfl, by first | exact wrI_in h5 (i_nge hn h11) | exact wrI_lo h5 | exact wrI_hi (i_ge hn h11)⟩
  · refine q_iload_n (pc := 8) (j := 1) rfl rfl ?_
    refine q_aload_n (pc := 9) (j := 0) rfl rfl ?_
    refine q_alen (pc := 10) (a := a) (Int32.ofNat n) rfl hs (by decide) rfl ?_
    refine q_icmp_ge (pc := 11) 18 rfl (by decide) (fun h11 => ?_) (fun h11 => ?_)
    · exact q_vret (pc := 18) rfl rfl ⟨rfl, by first | exact wrI_in h5 (i_nge hn h11) | exact wrI_lo h5 | exact wrI_hi (i_ge hn h11)⟩
    · refine q_aload_n (pc := 14) (j := 0) rfl rfl ?_
      refine q_iload_n (pc := 15) (j := 1) rfl rfl ?_
      refine q_iload_n (pc := 16) (j := 2) rfl rfl ?_
      refine q_iast (pc := 17) (a := a) i.toNatClampNeg rfl hs (vp_of h5 (i_nge hn h11)) rfl ?_
      exact q_vret (pc := 18) rfl rfl ⟨rfl, by first | exact wrI_in h5 (i_nge hn h11) | exact wrI_lo h5 | exact wrI_hi (i_ge hn h11)⟩
set_option maxRecDepth 100000 in
theorem sp_X8_writeFloat {sh : List PSh} {S : PSt} {a n : Nat} {i : Int32} {x : UInt32} (hs : sh[a]? = some (.inl (1, n))) (hn : n < 2 ^ 31) : pF mX8_writeFloat 0 [.ref a, .int i, .float x] sh S (wrF S a n i x) (none) := by
  refine pF.of (pG.of [some (.ref a), some (.int i), some (.float x)] (by decide) tk_X8_writeFloat (Nat.le_of_ble_eq_true rfl) rfl (fun X => ?_))
  refine q_aload_n (pc := 0) (j := 0) rfl rfl ?_
  refine q_ifnull (pc := 1) rfl ?_
  refine q_iload_n (pc := 4) (j := 1) rfl rfl ?_
  refine q_if_lt (pc := 5) 18 rfl (by decide) (fun h5 => ?_) (fun h5 => ?_)
  · exact q_vret (pc := 18) rfl rfl ⟨rfl, by first | exact wrF_in h5 (i_nge hn h11) | exact wrF_lo h5 | exact wrF_hi (i_ge hn h11)⟩
  · refine q_iload_n (pc := 8) (j := 1) rfl rfl ?_
    refine q_aload_n (pc := 9) (j := 0) rfl rfl ?_
    refine q_alen (pc := 10) (a := a) (Int32.ofNat n) rfl hs (by decide) rfl ?_
    refine q_icmp_ge (pc := 11) 18 rfl (by decide) (fun h11 => ?_) (fun h11 => ?_)
    · exact q_vret (pc := 18) rfl rfl ⟨rfl, by first | exact wrF_in h5 (i_nge hn h11) | exact wrF_lo h5 | exact wrF_hi (i_ge hn h11)⟩
    · refine q_aload_n (pc := 14) (j := 0) rfl rfl ?_
      refine q_iload_n (pc := 15) (j := 1) rfl rfl ?_
      refine q_fload_n (pc := 16) (j := 2) rfl rfl ?_
      refine q_fast (pc := 17) (a := a) i.toNatClampNeg rfl hs (vp_of h5 (i_nge hn h11)) rfl ?_
      exact q_vret (pc := 18) rfl rfl ⟨rfl, by first | exact wrF_in h5 (i_nge hn h11) | exact wrF_lo h5 | exact wrF_hi (i_ge hn h11)⟩
set_option maxRecDepth 100000 in
theorem sp_X8_writeFlag {sh : List PSh} {S : PSt} {a n : Nat} {i : Int32} {x : Int32} (hs : sh[a]? = some (.inl (2, n))) (hn : n < 2 ^ 31) (hx : vp_nar .boolean x = x) : pF mX8_writeFlag 0 [.ref a, .int i, .int x] sh S (wrI S a n i x) (none) := by
  refine pF.of (pG.of [some (.ref a), some (.int i), some (.int x)] (by decide) tk_X8_writeFlag (Nat.le_of_ble_eq_true rfl) rfl (fun X => ?_))
  refine q_aload_n (pc := 0) (j := 0) rfl rfl ?_
  refine q_ifnull (pc := 1) rfl ?_
  refine q_iload_n (pc := 4) (j := 1) rfl rfl ?_
  refine q_if_lt (pc := 5) 18 rfl (by decide) (fun h5 => ?_) (fun h5 => ?_)
  · exact q_vret (pc := 18) rfl rfl ⟨rfl, by first | exact wrI_in h5 (i_nge hn h11) | exact wrI_lo h5 | exact wrI_hi (i_ge hn h11)⟩
  · refine q_iload_n (pc := 8) (j := 1) rfl rfl ?_
    refine q_aload_n (pc := 9) (j := 0) rfl rfl ?_
    refine q_alen (pc := 10) (a := a) (Int32.ofNat n) rfl hs (by decide) rfl ?_
    refine q_icmp_ge (pc := 11) 18 rfl (by decide) (fun h11 => ?_) (fun h11 => ?_)
    · exact q_vret (pc := 18) rfl rfl ⟨rfl, by first | exact wrI_in h5 (i_nge hn h11) | exact wrI_lo h5 | exact wrI_hi (i_ge hn h11)⟩
    · refine q_aload_n (pc := 14) (j := 0) rfl rfl ?_
      refine q_iload_n (pc := 15) (j := 1) rfl rfl ?_
      refine q_iload_n (pc := 16) (j := 2) rfl rfl ?_
      refine q_zast (pc := 17) (a := a) i.toNatClampNeg rfl hs (vp_of h5 (i_nge hn h11)) hx rfl ?_
      exact q_vret (pc := 18) rfl rfl ⟨rfl, by first | exact wrI_in h5 (i_nge hn h11) | exact wrI_lo h5 | exact wrI_hi (i_ge hn h11)⟩
set_option maxRecDepth 100000 in
theorem sp_X8_readFlag {sh : List PSh} {S : PSt} {a n : Nat} {i : Int32} (hs : sh[a]? = some (.inl (2, n))) (hn : n < 2 ^ 31) : pF mX8_readFlag 0 [.ref a, .int i] sh S S (some (.int (pB (rdB S a n i)))) := by
  refine pF.of (pG.of [some (.ref a), some (.int i)] (by decide) tk_X8_readFlag (Nat.le_of_ble_eq_true rfl) rfl (fun X => ?_))
  refine q_aload_n (pc := 0) (j := 0) rfl rfl ?_
  refine q_ifnull (pc := 1) rfl ?_
  refine q_iload_n (pc := 4) (j := 1) rfl rfl ?_
  refine q_if_lt (pc := 5) 24 rfl (by decide) (fun h5 => ?_) (fun h5 => ?_)
  · refine q_iconst (pc := 24) 0 rfl (by decide) ?_
    exact q_zret (pc := 25) rfl rfl rfl ⟨congrArg (fun v => some (Value.int v)) (by first | exact rdB_lo h5 | exact rdB_hi (i_ge hn h11) | exact rdB_0 h5 (i_nge hn h11) h17 | exact rdB_1 h5 (i_nge hn h11) h17), rfl⟩
  · refine q_iload_n (pc := 8) (j := 1) rfl rfl ?_
    refine q_aload_n (pc := 9) (j := 0) rfl rfl ?_
    refine q_alen (pc := 10) (a := a) (Int32.ofNat n) rfl hs (by decide) rfl ?_
    refine q_icmp_ge (pc := 11) 24 rfl (by decide) (fun h11 => ?_) (fun h11 => ?_)
    · refine q_iconst (pc := 24) 0 rfl (by decide) ?_
      exact q_zret (pc := 25) rfl rfl rfl ⟨congrArg (fun v => some (Value.int v)) (by first | exact rdB_lo h5 | exact rdB_hi (i_ge hn h11) | exact rdB_0 h5 (i_nge hn h11) h17 | exact rdB_1 h5 (i_nge hn h11) h17), rfl⟩
    · refine q_aload_n (pc := 14) (j := 0) rfl rfl ?_
      refine q_iload_n (pc := 15) (j := 1) rfl rfl ?_
      refine q_zald (pc := 16) (a := a) i.toNatClampNeg rfl hs (vp_of h5 (i_nge hn h11)) rfl ?_
      refine q_if_eq (pc := 17) 24 rfl (by decide) (fun h17 => ?_) (fun h17 => ?_)
      · refine q_iconst (pc := 24) 0 rfl (by decide) ?_
        exact q_zret (pc := 25) rfl rfl rfl ⟨congrArg (fun v => some (Value.int v)) (by first | exact rdB_lo h5 | exact rdB_hi (i_ge hn h11) | exact rdB_0 h5 (i_nge hn h11) h17 | exact rdB_1 h5 (i_nge hn h11) h17), rfl⟩
      · refine q_iconst (pc := 20) 1 rfl (by decide) ?_
        refine q_goto (pc := 21) 25 rfl (by decide) ?_
        exact q_zret (pc := 25) rfl rfl rfl ⟨congrArg (fun v => some (Value.int v)) (by first | exact rdB_lo h5 | exact rdB_hi (i_ge hn h11) | exact rdB_0 h5 (i_nge hn h11) h17 | exact rdB_1 h5 (i_nge hn h11) h17), rfl⟩
set_option maxRecDepth 100000 in
theorem sp_X8_isWithin {sh : List PSh} {S : PSt} {v l m : Int32} : pF mX8_isWithin 0 [.int v, .int l, .int m] sh S S (some (.int (pB (pWi v l m)))) := by
  refine pF.of (pG.of [some (.int v), some (.int l), some (.int m)] (by decide) tk_X8_isWithin (Nat.le_of_ble_eq_true rfl) rfl (fun X => ?_))
  refine q_iload_n (pc := 0) (j := 0) rfl rfl ?_
  refine q_iload_n (pc := 1) (j := 1) rfl rfl ?_
  refine q_icmp_lt (pc := 2) 14 rfl (by decide) (fun h2 => ?_) (fun h2 => ?_)
  · refine q_iconst (pc := 14) 0 rfl (by decide) ?_
    exact q_zret (pc := 15) rfl rfl rfl ⟨congrArg (fun v => some (Value.int v)) (by first | exact pWi_lo h2 | exact pWi_hi h7 | exact pWi_in h2 h7), rfl⟩
  · refine q_iload_n (pc := 5) (j := 0) rfl rfl ?_
    refine q_iload_n (pc := 6) (j := 2) rfl rfl ?_
    refine q_icmp_gt (pc := 7) 14 rfl (by decide) (fun h7 => ?_) (fun h7 => ?_)
    · refine q_iconst (pc := 14) 0 rfl (by decide) ?_
      exact q_zret (pc := 15) rfl rfl rfl ⟨congrArg (fun v => some (Value.int v)) (by first | exact pWi_lo h2 | exact pWi_hi h7 | exact pWi_in h2 h7), rfl⟩
    · refine q_iconst (pc := 10) 1 rfl (by decide) ?_
      refine q_goto (pc := 11) 15 rfl (by decide) ?_
      exact q_zret (pc := 15) rfl rfl rfl ⟨congrArg (fun v => some (Value.int v)) (by first | exact pWi_lo h2 | exact pWi_hi h7 | exact pWi_in h2 h7), rfl⟩
set_option maxRecDepth 100000 in
theorem sp_X8_isAllowed {sh : List PSh} {S : PSt} {w v : Int32} : pF mX8_isAllowed 1 [.int w, .int v] sh S S (some (.int (pB (pAl w v)))) := by
  refine pF.of (pG.of [some (.int w), some (.int v)] (by decide) tk_X8_isAllowed (Nat.le_of_ble_eq_true rfl) rfl (fun X => ?_))
  refine q_iload_n (pc := 0) (j := 1) rfl rfl ?_
  refine q_getsLEAST (pc := 1) rfl fl_X8_355 ?_
  refine q_iload_n (pc := 4) (j := 0) rfl rfl ?_
  refine q_callS (pc := 5) (as := [.ref 1001, .int w]) (rest := [.int v]) (st2 := [.int (pLeast w), .int v]) rfl ce_X8_readInt ml_X8_324 st_X8_readInt rfl (by decide) (Nat.le_of_ble_eq_true rfl) (sp_readInt_LEAST) rfl ?_
  refine q_getsMOST (pc := 8) rfl fl_X8_358 ?_
  refine q_iload_n (pc := 11) (j := 0) rfl rfl ?_
  refine q_callS (pc := 12) (as := [.ref 1002, .int w]) (rest := [.int (pLeast w), .int v]) (st2 := [.int (pMost w), .int (pLeast w), .int v]) rfl ce_X8_readInt ml_X8_324 st_X8_readInt rfl (by decide) (Nat.le_of_ble_eq_true rfl) (sp_readInt_MOST) rfl ?_
  refine q_callS (pc := 15) (as := [.int v, .int (pLeast w), .int (pMost w)]) (rest := []) (st2 := [.int (pB (pWi v (pLeast w) (pMost w)))]) rfl ce_X8_isWithin ml_X8_101 st_X8_isWithin rfl (by decide) (Nat.le_of_ble_eq_true rfl) (sp_X8_isWithin) rfl ?_
  exact q_zret (pc := 18) rfl rfl (pB_nar _) ⟨rfl, rfl⟩
set_option maxRecDepth 100000 in
theorem sp_X8_isHeight {sh : List PSh} {S : PSt} {v : Int32} : pF mX8_isHeight 1 [.int v] sh S S (some (.int (pB (pWi v 0 40)))) := by
  refine pF.of (pG.of [some (.int v)] (by decide) tk_X8_isHeight (Nat.le_of_ble_eq_true rfl) rfl (fun X => ?_))
  refine q_iload_n (pc := 0) (j := 0) rfl rfl ?_
  refine q_iconst (pc := 1) 0 rfl (by decide) ?_
  refine q_bipush (pc := 2) 40 rfl (by decide) ?_
  refine q_callS (pc := 4) (as := [.int v, .int 0, .int 40]) (rest := []) (st2 := [.int (pB (pWi v 0 40))]) rfl ce_X8_isWithin ml_X8_101 st_X8_isWithin rfl (by decide) (Nat.le_of_ble_eq_true rfl) (sp_X8_isWithin) rfl ?_
  exact q_zret (pc := 7) rfl rfl (pB_nar _) ⟨rfl, rfl⟩
set_option maxRecDepth 100000 in
theorem lp_X8_copy {n0 : Nat} {X : Nat × (Nat → Int32)} {P : Option Value → PSt → Prop} {d : Nat} (hd9 : 0 ≤ d) {sh : List PSh} {S : PSt} {a b n : Nat} (ha : sh[a]? = some (.inl (0, n))) (hb : sh[b]? = some (.inl (0, n))) (hab : a ≠ b) (hn : n < 2 ^ 31) (hex : pV mX8_copy d n0 X sh P 35 [some (.ref a), some (.ref b), some (.int (nI n))] [] (cpI S a b n)) : ∀ (m k : Nat), k + m = n → pV mX8_copy d n0 X sh P 11 [some (.ref a), some (.ref b), some (.int (nI k))] [] (cpI S a b k) := by
  intro m
  induction m with
  | zero =>
    intro k hk
    have hk : k = n := by omega
    subst hk
    refine q_iload_n (pc := 11) (j := 2) rfl rfl ?_
    refine q_aload_n (pc := 12) (j := 0) rfl rfl ?_
    refine q_alen (pc := 13) (a := a) (Int32.ofNat k) rfl ha (by decide) rfl ?_
    refine q_icmp_ge (pc := 14) 35 rfl (by decide) (fun _ => hex) (fun h9 => absurd (Int32.le_refl _) h9)
  | succ m ih =>
    intro k hk
    have hk1 : k < n := by omega
    refine q_iload_n (pc := 11) (j := 2) rfl rfl ?_
    refine q_aload_n (pc := 12) (j := 0) rfl rfl ?_
    refine q_alen (pc := 13) (a := a) (Int32.ofNat n) rfl ha (by decide) rfl ?_
    refine q_icmp_ge (pc := 14) 35 rfl (by decide) (fun h9 => absurd h9 (nI_ge hk1 hn)) (fun _ => ?_)
    refine q_iload_n (pc := 17) (j := 2) rfl rfl ?_
    refine q_aload_n (pc := 18) (j := 1) rfl rfl ?_
    refine q_alen (pc := 19) (a := b) (Int32.ofNat n) rfl hb (by decide) rfl ?_
    refine q_icmp_ge (pc := 20) 35 rfl (by decide) (fun h9 => absurd h9 (nI_ge hk1 hn)) (fun _ => ?_)
    refine q_aload_n (pc := 23) (j := 1) rfl rfl ?_
    refine q_iload_n (pc := 24) (j := 2) rfl rfl ?_
    refine q_aload_n (pc := 25) (j := 0) rfl rfl ?_
    refine q_iload_n (pc := 26) (j := 2) rfl rfl ?_
    refine q_iald (pc := 27) (a := a) k rfl ha (vp_in_nI hk1 hn) (nI_clamp (by omega)) ?_
    refine q_iast (pc := 28) (a := b) k rfl hb (vp_in_nI hk1 hn) (nI_clamp (by omega)) ?_
    refine q_iinc (pc := 29) (j := 2) (n := 1) (nI (k + 1)) [some (.ref a), some (.ref b), some (.int (nI (k + 1)))] rfl (by decide) rfl (nI_1 k) rfl ?_
    refine q_goto (pc := 32) 11 rfl (by decide) ?_
    rw [cpI_s hab]; exact ih (k + 1) (by omega)
set_option maxRecDepth 100000 in
theorem sp_X8_copy {sh : List PSh} {S : PSt} {a b n : Nat} (ha : sh[a]? = some (.inl (0, n))) (hb : sh[b]? = some (.inl (0, n))) (hab : a ≠ b) (hn : n < 2 ^ 31) : pF mX8_copy 0 [.ref a, .ref b] sh S (cpI S a b n) (none) := by
  refine pF.of (pG.of [some (.ref a), some (.ref b), none] (by decide) tk_X8_copy (Nat.le_of_ble_eq_true rfl) rfl (fun X => ?_))
  refine q_aload_n (pc := 0) (j := 0) rfl rfl ?_
  refine q_ifnull (pc := 1) rfl ?_
  refine q_aload_n (pc := 4) (j := 1) rfl rfl ?_
  refine q_ifnonnull (pc := 5) 9 rfl (by decide) ?_
  refine q_iconst (pc := 9) 0 rfl (by decide) ?_
  refine q_istore_n (pc := 10) (j := 2) [some (.ref a), some (.ref b), some (.int 0)] rfl (by decide) rfl ?_
  refine q_S (cpI_0 S a b).symm (lp_X8_copy (Nat.zero_le _) ha hb hab hn ?_ n 0 (Nat.zero_add n))
  exact q_vret (pc := 35) rfl rfl ⟨rfl, rfl⟩
