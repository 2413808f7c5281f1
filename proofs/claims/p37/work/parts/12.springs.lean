/-! springs and rods: written by wip/whole/gen/c12.py -/
/-- the greatest e of 1 to k with 2^e not above d -/
def exI (d : Int32) : Nat → Int32
  | 0 => 0
  | k + 1 => if (1 <<< (nI (k + 1) &&& 31)) ≤ d then nI (k + 1) else exI d k
def idB (d : Int32) : UInt32 := FP.fsub (FP.fdiv (FP.i2f d) (FP.i2f (1 <<< (exI d 6 &&& 31)))) FP.fconst1
/-- IDEAL by kind and duration -/
def idF (k d : Int32) : UInt32 := if k = 2 then 1077936128 else FP.fmul 1086324736 (FP.fadd FP.fconst1 (FP.fmul 1056964608 (FP.fadd (FP.i2f (exI d 6)) (idB d))))
def flF (k : Int32) (x : UInt32) : UInt32 := if k = 2 then 1048576000 else FP.fmul 1056964608 x
def roF (w : Int32) : UInt32 := FP.i2f (w + 1)
/-- a boolean reading of 'no NaN' -/
def nb (r : UInt32) : Bool := decide (r &&& 0x7fffffff ≤ 0x7f800000)
theorem nb_ok {r : UInt32} (h : nb r = true) : vf_n32 r := by
  have h2 : r &&& 0x7fffffff ≤ 0x7f800000 := of_decide_eq_true h
  exact h2
theorem exI_s (d : Int32) (k : Nat) : exI d (k + 1) = if (1 <<< (nI (k + 1) &&& 31)) ≤ d then nI (k + 1) else exI d k := rfl
def idOk (d : Int32) : Bool :=
  nb (FP.fdiv (FP.i2f d) (FP.i2f (1 <<< (exI d 6 &&& 31)))) && nb (idB d) && nb (FP.fadd (FP.i2f (exI d 6)) (idB d)) &&
  nb (FP.fmul 1056964608 (FP.fadd (FP.i2f (exI d 6)) (idB d))) && nb (FP.fadd FP.fconst1 (FP.fmul 1056964608 (FP.fadd (FP.i2f (exI d 6)) (idB d)))) &&
  nb (FP.fmul 1086324736 (FP.fadd FP.fconst1 (FP.fmul 1056964608 (FP.fadd (FP.i2f (exI d 6)) (idB d))))) && nb (FP.fmul 1056964608 (FP.fmul 1086324736 (FP.fadd FP.fconst1 (FP.fmul 1056964608 (FP.fadd (FP.i2f (exI d 6)) (idB d))))))
theorem idOk_all : ∀ k, k < 64 → idOk (nI (k + 1)) = true := by decide +kernel
/-- a duration -/
def isDur (d : Int32) : Prop := ∃ k, k < 64 ∧ d = nI (k + 1)
theorem isDur.ok {d : Int32} (h : isDur d) : idOk d = true := by obtain ⟨k, hk, rfl⟩ := h; exact idOk_all k hk
theorem id_n1 {d : Int32} (h : isDur d) : vf_n32 (FP.fdiv (FP.i2f d) (FP.i2f (1 <<< (exI d 6 &&& 31)))) := by have := h.ok; simp only [idOk, Bool.and_eq_true] at this; exact nb_ok this.1.1.1.1.1.1
theorem id_n2 {d : Int32} (h : isDur d) : vf_n32 (FP.fsub (FP.fdiv (FP.i2f d) (FP.i2f (1 <<< (exI d 6 &&& 31)))) FP.fconst1) := by have := h.ok; simp only [idOk, Bool.and_eq_true] at this; exact nb_ok this.1.1.1.1.1.2
theorem id_n3 {d : Int32} (h : isDur d) : vf_n32 (FP.fadd (FP.i2f (exI d 6)) (idB d)) := by have := h.ok; simp only [idOk, Bool.and_eq_true] at this; exact nb_ok this.1.1.1.1.2
theorem id_n4 {d : Int32} (h : isDur d) : vf_n32 (FP.fmul 1056964608 (FP.fadd (FP.i2f (exI d 6)) (idB d))) := by have := h.ok; simp only [idOk, Bool.and_eq_true] at this; exact nb_ok this.1.1.1.2
theorem id_n5 {d : Int32} (h : isDur d) : vf_n32 (FP.fadd FP.fconst1 (FP.fmul 1056964608 (FP.fadd (FP.i2f (exI d 6)) (idB d)))) := by have := h.ok; simp only [idOk, Bool.and_eq_true] at this; exact nb_ok this.1.1.2
theorem id_n6 {d : Int32} (h : isDur d) : vf_n32 (FP.fmul 1086324736 (FP.fadd FP.fconst1 (FP.fmul 1056964608 (FP.fadd (FP.i2f (exI d 6)) (idB d))))) := by have := h.ok; simp only [idOk, Bool.and_eq_true] at this; exact nb_ok this.1.2
theorem fl_n {k d : Int32} (h : isDur d) (hk : ¬ k = 2) : vf_n32 (FP.fmul 1056964608 (idF k d)) := by have := h.ok; simp only [idOk, Bool.and_eq_true] at this; rw [idF, if_neg hk]; exact nb_ok this.2

set_option maxRecDepth 100000 in
theorem lp_X4_ideal {n0 : Nat} {X : Nat × (Nat → Int32)} {P : Option Value → PSt → Prop} {d : Nat} (hd9 : 0 ≤ d) {sh : List PSh} {S : PSt} {r c : Nat} {d1 : Int32} (hex : pV mX4_ideal d n0 X sh P 49 [some (.ref r), some (.int (nI c)), some (.int d1), some (.int (exI d1 6)), some (.int (nI 7))] [] S) : ∀ (m k : Nat), k + m = 6 → pV mX4_ideal d n0 X sh P 25 [some (.ref r), some (.int (nI c)), some (.int d1), some (.int (exI d1 k)), some (.int (nI (k + 1)))] [] S := by
  intro m
  induction m with
  | zero =>
    intro k hk
    have hk : k = 6 := by omega
    subst hk
    refine q_iload (pc := 25) (j := 4) rfl rfl ?_
    refine q_bipush (pc := 27) 6 rfl (by decide) ?_
    exact q_icmp_gt (pc := 29) 49 rfl (by decide) (fun _ => hex) (fun h9 => absurd (by decide : (6 : Int32) < nI 7) h9)
  | succ m ih =>
    intro k hk
    have hk1 : k < 6 := by omega
    refine q_iload (pc := 25) (j := 4) rfl rfl ?_
    refine q_bipush (pc := 27) 6 rfl (by decide) ?_
    refine q_icmp_gt (pc := 29) 49 rfl (by decide) (fun h9 => absurd h9 (nI_nlt (a := 6) (by omega) (by decide))) (fun _ => ?_)
    refine q_join 43 [some (.ref r), some (.int (nI c)), some (.int d1), some (.int (exI d1 (k + 1))), some (.int (nI (k + 1)))] [] S ?_ (fun key32 => ?_)
    · refine q_iinc (pc := 43) (j := 4) (n := 1) (nI (k + 1 + 1)) [some (.ref r), some (.int (nI c)), some (.int d1), some (.int (exI d1 (k + 1))), some (.int (nI (k + 1 + 1)))] rfl (by decide) rfl (nI_1 (k + 1)) rfl ?_
      refine q_goto (pc := 46) 25 rfl (by decide) ?_
      exact ih (k + 1) (by omega)
    · refine q_iconst (pc := 32) 1 rfl (by decide) ?_
      refine q_iload (pc := 33) (j := 4) rfl rfl ?_
      refine q_ishl (pc := 35) rfl ?_
      refine q_iload_n (pc := 36) (j := 2) rfl rfl ?_
      refine q_icmp_gt (pc := 37) 43 rfl (by decide) (fun h37 => ?_) (fun h37 => ?_)
      · first | exact q_L (by rw [exI_s, if_pos (by rw [Int32.not_lt] at h37; exact h37)]) key32 | exact q_L (by rw [exI_s, if_neg (Int32.not_le.mpr h37)]) key32
      · refine q_iload (pc := 40) (j := 4) rfl rfl ?_
        refine q_istore_n (pc := 42) (j := 3) [some (.ref r), some (.int (nI c)), some (.int d1), some (.int (nI (k + 1))), some (.int (nI (k + 1)))] rfl (by decide) rfl ?_
        first | exact q_L (by rw [exI_s, if_pos (by rw [Int32.not_lt] at h37; exact h37)]) key32 | exact q_L (by rw [exI_s, if_neg (Int32.not_le.mpr h37)]) key32
set_option maxRecDepth 100000 in
theorem sp_X4_ideal {sh : List PSh} {S : PSt} {r : Nat} (hs : isSg sh r) {c : Nat} (hc : c < 36) (hd : ¬ S.1 (r + 1) (5 * c + 0) = 2 → isDur (S.1 (r + 1) (5 * c + 1))) : pF mX4_ideal 1 [.ref r, .int (nI c)] sh S S (some (.float (idF (S.1 (r + 1) (5 * c + 0)) (S.1 (r + 1) (5 * c + 1))))) := by
  refine pF.of (pG.of [some (.ref r), some (.int (nI c)), none, none, none] (by decide) tk_X4_ideal (Nat.le_of_ble_eq_true rfl) rfl (fun X => ?_))
  refine q_aload_n (pc := 0) (j := 0) rfl rfl ?_
  refine q_iload_n (pc := 1) (j := 1) rfl rfl ?_
  refine q_iconst (pc := 2) 0 rfl (by decide) ?_
  refine q_callV (pc := 3) (as := [.int (nI c), .int 0]) (rest := []) (b := r) (st2 := [.int (S.1 (r + 1) (5 * c + 0))]) rfl ce_X4_part ml_X4_23 im_X4_part se_X4_part hs.1 rfl rfl rfl (by decide) (Nat.le_of_ble_eq_true rfl) (sp_X4_part (c := c) (w := 0) hs (by omega) (by omega)) rfl ?_
  refine q_iconst (pc := 6) 2 rfl (by decide) ?_
  refine q_icmp_ne (pc := 7) 13 rfl (by decide) (fun h7 => ?_) (fun h7 => ?_)
  · have hd1 := hd h7
    refine q_aload_n (pc := 13) (j := 0) rfl rfl ?_
    refine q_iload_n (pc := 14) (j := 1) rfl rfl ?_
    refine q_iconst (pc := 15) 1 rfl (by decide) ?_
    refine q_callV (pc := 16) (as := [.int (nI c), .int 1]) (rest := []) (b := r) (st2 := [.int (S.1 (r + 1) (5 * c + 1))]) rfl ce_X4_part ml_X4_23 im_X4_part se_X4_part hs.1 rfl rfl rfl (by decide) (Nat.le_of_ble_eq_true rfl) (sp_X4_part (c := c) (w := 1) hs (by omega) (by omega)) rfl ?_
    refine q_istore_n (pc := 19) (j := 2) [some (.ref r), some (.int (nI c)), some (.int (S.1 (r + 1) (5 * c + 1))), none, none] rfl (by decide) rfl ?_
    refine q_iconst (pc := 20) 0 rfl (by decide) ?_
    refine q_istore_n (pc := 21) (j := 3) [some (.ref r), some (.int (nI c)), some (.int (S.1 (r + 1) (5 * c + 1))), some (.int 0), none] rfl (by decide) rfl ?_
    refine q_iconst (pc := 22) 1 rfl (by decide) ?_
    refine q_istore (pc := 23) (j := 4) [some (.ref r), some (.int (nI c)), some (.int (S.1 (r + 1) (5 * c + 1))), some (.int 0), some (.int 1)] rfl (by decide) rfl ?_
    refine lp_X4_ideal (r := r) (c := c) (d1 := S.1 (r + 1) (5 * c + 1)) (Nat.zero_le _) ?_ 6 0 rfl
    refine q_iload_n (pc := 49) (j := 2) rfl rfl ?_
    refine q_i2f (pc := 50) rfl ?_
    refine q_iconst (pc := 51) 1 rfl (by decide) ?_
    refine q_iload_n (pc := 52) (j := 3) rfl rfl ?_
    refine q_ishl (pc := 53) rfl ?_
    refine q_i2f (pc := 54) rfl ?_
    refine q_fdiv (pc := 55) rfl (id_n1 hd1) ?_
    refine q_fconst1 (pc := 56) rfl ?_
    refine q_fsub (pc := 57) rfl (id_n2 hd1) ?_
    refine q_fstore (pc := 58) (j := 4) [some (.ref r), some (.int (nI c)), some (.int (S.1 (r + 1) (5 * c + 1))), some (.int (exI (S.1 (r + 1) (5 * c + 1)) 6)), some (.float (FP.fsub (FP.fdiv (FP.i2f (S.1 (r + 1) (5 * c + 1))) (FP.i2f (1 <<< ((exI (S.1 (r + 1) (5 * c + 1)) 6) &&& 31)))) FP.fconst1))] rfl (by decide) rfl ?_
    refine q_ldcf (pc := 60) (v := 1086324736) rfl kc_X4_32 ?_
    refine q_fconst1 (pc := 62) rfl ?_
    refine q_ldcf (pc := 63) (v := 1056964608) rfl kc_X4_33 ?_
    refine q_iload_n (pc := 65) (j := 3) rfl rfl ?_
    refine q_i2f (pc := 66) rfl ?_
    refine q_fload (pc := 67) (j := 4) rfl rfl ?_
    refine q_fadd (pc := 69) rfl (id_n3 hd1) ?_
    refine q_fmul (pc := 70) rfl (id_n4 hd1) ?_
    refine q_fadd (pc := 71) rfl (id_n5 hd1) ?_
    refine q_fmul (pc := 72) rfl (id_n6 hd1) ?_
    exact q_fret (pc := 73) rfl rfl ⟨congrArg (fun v => some (Value.float v)) (by first | (rw [idF, if_pos h7]) | (rw [idF, if_neg h7]; rfl)), rfl⟩
  · refine q_ldcf (pc := 10) (v := 1077936128) rfl kc_X4_31 ?_
    exact q_fret (pc := 12) rfl rfl ⟨congrArg (fun v => some (Value.float v)) (by first | (rw [idF, if_pos h7]) | (rw [idF, if_neg h7]; rfl)), rfl⟩
set_option maxRecDepth 100000 in
theorem sp_X4_flex {sh : List PSh} {S : PSt} {r : Nat} (hs : isSg sh r) {c : Nat} {x : UInt32} (hc : c < 36) (hd : ¬ S.1 (r + 1) (5 * c + 0) = 2 → vf_n32 (FP.fmul 1056964608 x)) : pF mX4_flex 1 [.ref r, .int (nI c), .float x] sh S S (some (.float (flF (S.1 (r + 1) (5 * c + 0)) x))) := by
  refine pF.of (pG.of [some (.ref r), some (.int (nI c)), some (.float x)] (by decide) tk_X4_flex (Nat.le_of_ble_eq_true rfl) rfl (fun X => ?_))
  refine q_aload_n (pc := 0) (j := 0) rfl rfl ?_
  refine q_iload_n (pc := 1) (j := 1) rfl rfl ?_
  refine q_iconst (pc := 2) 0 rfl (by decide) ?_
  refine q_callV (pc := 3) (as := [.int (nI c), .int 0]) (rest := []) (b := r) (st2 := [.int (S.1 (r + 1) (5 * c + 0))]) rfl ce_X4_part ml_X4_23 im_X4_part se_X4_part hs.1 rfl rfl rfl (by decide) (Nat.le_of_ble_eq_true rfl) (sp_X4_part (c := c) (w := 0) hs (by omega) (by omega)) rfl ?_
  refine q_iconst (pc := 6) 2 rfl (by decide) ?_
  refine q_icmp_ne (pc := 7) 15 rfl (by decide) (fun h7 => ?_) (fun h7 => ?_)
  · refine q_ldcf (pc := 15) (v := 1056964608) rfl kc_X4_33 ?_
    refine q_fload_n (pc := 17) (j := 2) rfl rfl ?_
    refine q_fmul (pc := 18) rfl (hd h7) ?_
    exact q_fret (pc := 19) rfl rfl ⟨congrArg (fun v => some (Value.float v)) (by first | (rw [flF, if_pos h7]) | (rw [flF, if_neg h7])), rfl⟩
  · refine q_ldcf (pc := 10) (v := 1048576000) rfl kc_X4_34 ?_
    refine q_goto (pc := 12) 19 rfl (by decide) ?_
    exact q_fret (pc := 19) rfl rfl ⟨congrArg (fun v => some (Value.float v)) (by first | (rw [flF, if_pos h7]) | (rw [flF, if_neg h7])), rfl⟩
set_option maxRecDepth 100000 in
theorem sp_X4_rod {sh : List PSh} {S : PSt} {r : Nat} (hs : isSg sh r) {c : Nat} (hc : c < 36) : pF mX4_rod 1 [.ref r, .int (nI c)] sh S S (some (.float (roF (S.1 (r + 1) (5 * c + 3))))) := by
  refine pF.of (pG.of [some (.ref r), some (.int (nI c))] (by decide) tk_X4_rod (Nat.le_of_ble_eq_true rfl) rfl (fun X => ?_))
  refine q_aload_n (pc := 0) (j := 0) rfl rfl ?_
  refine q_iload_n (pc := 1) (j := 1) rfl rfl ?_
  refine q_iconst (pc := 2) 3 rfl (by decide) ?_
  refine q_callV (pc := 3) (as := [.int (nI c), .int 3]) (rest := []) (b := r) (st2 := [.int (S.1 (r + 1) (5 * c + 3))]) rfl ce_X4_part ml_X4_23 im_X4_part se_X4_part hs.1 rfl rfl rfl (by decide) (Nat.le_of_ble_eq_true rfl) (sp_X4_part (c := c) (w := 3) hs (by omega) (by omega)) rfl ?_
  refine q_iconst (pc := 6) 1 rfl (by decide) ?_
  refine q_iadd (pc := 7) rfl ?_
  refine q_i2f (pc := 8) rfl ?_
  exact q_fret (pc := 9) rfl rfl ⟨rfl, rfl⟩
