/-! helpers of the class: written by wip/whole/gen/c10.py -/
/-- the place i is one of n -/
def pIn (i : Int32) (n : Nat) : Prop := 0 ≤ i.toInt ∧ i.toInt < n
theorem pIn_vp {i : Int32} {n : Nat} (h : pIn i n) : vp_in i n := vp_in_iff.mpr h

theorem i_nlt0 {x : Int32} (h : ¬ x < 0) : 0 ≤ x.toInt := by
  rw [Int32.lt_iff_toInt_lt, Int32.toInt_zero] at h; omega
theorem i_lt0 {x : Int32} (h : x < 0) : x.toInt < 0 := by
  rw [Int32.lt_iff_toInt_lt, Int32.toInt_zero] at h; omega
theorem i_nge {x : Int32} {n : Nat} (hn : n < 2 ^ 31) (h : ¬ Int32.ofNat n ≤ x) : x.toInt < n := by
  rw [Int32.le_iff_toInt_le, show (Int32.ofNat n).toInt = (n : Int) from nI_toInt hn] at h; omega
theorem i_ge {x : Int32} {n : Nat} (hn : n < 2 ^ 31) (h : Int32.ofNat n ≤ x) : (n : Int) ≤ x.toInt := by
  rw [Int32.le_iff_toInt_le, show (Int32.ofNat n).toInt = (n : Int) from nI_toInt hn] at h; omega
/-- a place read as a number: the index if it is one of n, else n (no place) -/
def rd {α : Type} (z : α) (f : Nat → α) (n : Nat) (i : Int32) : α := if 0 ≤ i.toInt ∧ i.toInt < n then f i.toNatClampNeg else z
/-- a place written -/
def wrI (S : PSt) (a n : Nat) (i x : Int32) : PSt := if 0 ≤ i.toInt ∧ i.toInt < n then pSI S a i.toNatClampNeg x else S
def wrF (S : PSt) (a n : Nat) (i : Int32) (x : UInt32) : PSt := if 0 ≤ i.toInt ∧ i.toInt < n then pSF S a i.toNatClampNeg x else S
def wrJ (S : PSt) (a n : Nat) (i : Int32) (x : Int64) : PSt := if 0 ≤ i.toInt ∧ i.toInt < n then pSJ S a i.toNatClampNeg x else S
theorem rd_in {α : Type} {z : α} {f : Nat → α} {n : Nat} {i : Int32} (h1 : ¬ i < 0) (h2 : i.toInt < n) : f i.toNatClampNeg = rd z f n i := by rw [rd, if_pos ⟨i_nlt0 h1, h2⟩]
theorem rd_lo {α : Type} {z : α} {f : Nat → α} {n : Nat} {i : Int32} (h1 : i < 0) : z = rd z f n i := by rw [rd, if_neg (fun q => by have := i_lt0 h1; omega)]
theorem rd_hi {α : Type} {z : α} {f : Nat → α} {n : Nat} {i : Int32} (h1 : (n : Int) ≤ i.toInt) : z = rd z f n i := by rw [rd, if_neg (fun q => by omega)]
theorem vp_of {i : Int32} {n : Nat} (h1 : ¬ i < 0) (h2 : i.toInt < n) : vp_in i n := vp_in_iff.mpr ⟨i_nlt0 h1, h2⟩
/-- 1 or 0 -/
def pB (c : Bool) : Int32 := if c then 1 else 0
theorem pB_n (c : Bool) : vp_nar .boolean (pB c) = pB c := by cases c <;> decide
theorem pB_nar (c : Bool) : narrow .boolean (.int (pB c)) = .int (pB c) := by cases c <;> rfl
theorem pB_fit (c : Bool) : fits .boolean (.int (pB c)) = true := by cases c <;> rfl
theorem pB_0 (c : Bool) : pB c = 0 ↔ c = false := by cases c <;> decide
theorem pB_t {c : Bool} (h : ¬ pB c = 0) : c = true := by cases c; exact absurd rfl h; rfl
theorem pB_f {c : Bool} (h : pB c = 0) : c = false := by cases c; rfl; exact absurd h (by decide)

set_option maxRecDepth 100000 in
theorem sp_X8_readInt {sh : List PSh} {S : PSt} {a n : Nat} {i : Int32} (hs : sh[a]? = some (.inl (0, n))) (hn : n < 2 ^ 31) : pF mX8_readInt 0 [.ref a, .int i] sh S S (some (.int (rd 0 (S.1 a) n i))) := by
  refine pF.of (pG.of [some (.ref a), some (.int i)] (by decide) tk_X8_readInt (Nat.le_of_ble_eq_true rfl) rfl (fun X => ?_))
  refine q_aload_n (pc := 0) (j := 0) rfl rfl ?_
  refine q_ifnull (pc := 1) rfl ?_
  refine q_iload_n (pc := 4) (j := 1) rfl rfl ?_
  refine q_if_lt (pc := 5) 20 rfl (by decide) (fun h5 => ?_) (fun h5 => ?_)
  · refine q_iconst (pc := 20) 0 rfl (by decide) ?_
    exact q_iret (pc := 21) rfl rfl ⟨congrArg (fun v => some (Value.int v)) (by first | exact rd_in h5 (i_nge hn h11) | exact rd_lo h5 | exact rd_hi (i_ge hn h11)), rfl⟩
  · refine q_iload_n (pc := 8) (j := 1) rfl rfl ?_
    refine q_aload_n (pc := 9) (j := 0) rfl rfl ?_
    refine q_alen (pc := 10) (a := a) (Int32.ofNat n) rfl hs (by decide) rfl ?_
    refine q_icmp_ge (pc := 11) 20 rfl (by decide) (fun h11 => ?_) (fun h11 => ?_)
    · refine q_iconst (pc := 20) 0 rfl (by decide) ?_
      exact q_iret (pc := 21) rfl rfl ⟨congrArg (fun v => some (Value.int v)) (by first | exact rd_in h5 (i_nge hn h11) | exact rd_lo h5 | exact rd_hi (i_ge hn h11)), rfl⟩
    · refine q_aload_n (pc := 14) (j := 0) rfl rfl ?_
      refine q_iload_n (pc := 15) (j := 1) rfl rfl ?_
      refine q_iald (pc := 16) (a := a) i.toNatClampNeg rfl hs (vp_of h5 (i_nge hn h11)) rfl ?_
      refine q_goto (pc := 17) 21 rfl (by decide) ?_
      exact q_iret (pc := 21) rfl rfl ⟨congrArg (fun v => some (Value.int v)) (by first | exact rd_in h5 (i_nge hn h11) | exact rd_lo h5 | exact rd_hi (i_ge hn h11)), rfl⟩
set_option maxRecDepth 100000 in
theorem sp_X8_readFloat {sh : List PSh} {S : PSt} {a n : Nat} {i : Int32} (hs : sh[a]? = some (.inl (1, n))) (hn : n < 2 ^ 31) : pF mX8_readFloat 0 [.ref a, .int i] sh S S (some (.float (rd FP.fconst0 (S.2.1 a) n i))) := by
  refine pF.of (pG.of [some (.ref a), some (.int i)] (by decide) tk_X8_readFloat (Nat.le_of_ble_eq_true rfl) rfl (fun X => ?_))
  refine q_aload_n (pc := 0) (j := 0) rfl rfl ?_
  refine q_ifnull (pc := 1) rfl ?_
  refine q_iload_n (pc := 4) (j := 1) rfl rfl ?_
  refine q_if_lt (pc := 5) 20 rfl (by decide) (fun h5 => ?_) (fun h5 => ?_)
  · refine q_fconst0 (pc := 20) rfl ?_
    exact q_fret (pc := 21) rfl rfl ⟨congrArg (fun v => some (Value.float v)) (by first | exact rd_in h5 (i_nge hn h11) | exact rd_lo h5 | exact rd_hi (i_ge hn h11)), rfl⟩
  · refine q_iload_n (pc := 8) (j := 1) rfl rfl ?_
    refine q_aload_n (pc := 9) (j := 0) rfl rfl ?_
    refine q_alen (pc := 10) (a := a) (Int32.ofNat n) rfl hs (by decide) rfl ?_
    refine q_icmp_ge (pc := 11) 20 rfl (by decide) (fun h11 => ?_) (fun h11 => ?_)
    · refine q_fconst0 (pc := 20) rfl ?_
      exact q_fret (pc := 21) rfl rfl ⟨congrArg (fun v => some (Value.float v)) (by first | exact rd_in h5 (i_nge hn h11) | exact rd_lo h5 | exact rd_hi (i_ge hn h11)), rfl⟩
    · refine q_aload_n (pc := 14) (j := 0) rfl rfl ?_
      refine q_iload_n (pc := 15) (j := 1) rfl rfl ?_
      refine q_fald (pc := 16) (a := a) i.toNatClampNeg rfl hs (vp_of h5 (i_nge hn h11)) rfl ?_
      refine q_goto (pc := 17) 21 rfl (by decide) ?_
      exact q_fret (pc := 21) rfl rfl ⟨congrArg (fun v => some (Value.float v)) (by first | exact rd_in h5 (i_nge hn h11) | exact rd_lo h5 | exact rd_hi (i_ge hn h11)), rfl⟩
set_option maxRecDepth 100000 in
theorem sp_X8_readLong {sh : List PSh} {S : PSt} {a n : Nat} {i : Int32} (hs : sh[a]? = some (.inl (3, n))) (hn : n < 2 ^ 31) : pF mX8_readLong 0 [.ref a, .int i] sh S S (some (.long (rd 0 (S.2.2.1 a) n i))) := by
  refine pF.of (pG.of [some (.ref a), some (.int i)] (by decide) tk_X8_readLong (Nat.le_of_ble_eq_true rfl) rfl (fun X => ?_))
  refine q_aload_n (pc := 0) (j := 0) rfl rfl ?_
  refine q_ifnull (pc := 1) rfl ?_
  refine q_iload_n (pc := 4) (j := 1) rfl rfl ?_
  refine q_if_lt (pc := 5) 20 rfl (by decide) (fun h5 => ?_) (fun h5 => ?_)
  · refine q_lconst (pc := 20) 0 rfl (by decide) ?_
    exact q_lret (pc := 21) rfl rfl ⟨congrArg (fun v => some (Value.long v)) (by first | exact rd_in h5 (i_nge hn h11) | exact rd_lo h5 | exact rd_hi (i_ge hn h11)), rfl⟩
  · refine q_iload_n (pc := 8) (j := 1) rfl rfl ?_
    refine q_aload_n (pc := 9) (j := 0) rfl rfl ?_
    refine q_alen (pc := 10) (a := a) (Int32.ofNat n) rfl hs (by decide) rfl ?_
    refine q_icmp_ge (pc := 11) 20 rfl (by decide) (fun h11 => ?_) (fun h11 => ?_)
    · refine q_lconst (pc := 20) 0 rfl (by decide) ?_
      exact q_lret (pc := 21) rfl rfl ⟨congrArg (fun v => some (Value.long v)) (by first | exact rd_in h5 (i_nge hn h11) | exact rd_lo h5 | exact rd_hi (i_ge hn h11)), rfl⟩
    · refine q_aload_n (pc := 14) (j := 0) rfl rfl ?_
      refine q_iload_n (pc := 15) (j := 1) rfl rfl ?_
      refine q_lald (pc := 16) (a := a) i.toNatClampNeg rfl hs (vp_of h5 (i_nge hn h11)) rfl ?_
      refine q_goto (pc := 17) 21 rfl (by decide) ?_
      exact q_lret (pc := 21) rfl rfl ⟨congrArg (fun v => some (Value.long v)) (by first | exact rd_in h5 (i_nge hn h11) | exact rd_lo h5 | exact rd_hi (i_ge hn h11)), rfl⟩
