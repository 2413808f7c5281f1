/-! Tape: written by wip/whole/gen/c19.py -/
def isTp (sh : List PSh) (r : Nat) : Prop := sh[r]? = some (.inr (6, [r + 1 + 3, 0, r + 2 + 3, 0, 0])) ∧ sh[r + 1]? = some (.inl (0, 160)) ∧ isSg sh (r + 2)
/-- the tape read up to the place p -/
def tpS (S : PSt) (r p : Nat) : PSt := pSI S r 4 (nI p)
theorem tp_p {S : PSt} {r p : Nat} : (tpS S r p).1 r 4 = nI p := by simp [tpS, pSI, pU]
theorem tp_z {S : PSt} {r p j : Nat} (h : j ≠ 4) : (tpS S r p).1 r j = S.1 r j := by simp [tpS, pSI, pU, h]
theorem tp_b {S : PSt} {r p x : Nat} (h : x ≠ r) : (tpS S r p).1 x = S.1 x := by funext j; simp [tpS, pSI, pU, h]
theorem tp_s {S : PSt} {r p q : Nat} : pSI (tpS S r p) r 4 (nI q) = tpS S r q := by
  unfold tpS pSI pU
  refine Prod.ext (funext fun c => funext fun j => ?_) rfl
  dsimp only; split <;> simp_all
/-- the byte at p is c -/
def nxB (b : Nat → Int32) (z p : Nat) (c : Int32) : Bool := decide (p < z) && decide (b p = c)
def dgF (b : Nat → Int32) (z p : Nat) : Int32 := if 48 ≤ (if p < z then b p else 0) ∧ (if p < z then b p else 0) ≤ 57 then (if p < z then b p else 0) - 48 else -1
theorem dg_in {b : Nat → Int32} {z p : Nat} (h : ¬ dgF b z p = -1) : p < z := by
  by_cases hp : p < z
  · exact hp
  · exact absurd (by simp [dgF, hp]) h
/-- a number goes on: its value (-1: too large), the place behind it -/
def nmF (b : Nat → Int32) (z : Nat) (most : Int32) : Nat → Int32 → Nat → Int32 × Nat
  | 0, v, p => (v, p)
  | k + 1, v, p => if v ≤ 0 then (v, p) else if dgF b z p = -1 then (v, p) else if most < v * 10 + dgF b z p then (-1, p) else nmF b z most k (v * 10 + dgF b z p) (p + 1)
def numF (b : Nat → Int32) (z : Nat) (least most : Int32) (p : Nat) : Int32 × Nat :=
  if dgF b z p = -1 then (-1, p) else if dgF b z p < least then (-1, p) else nmF b z most 160 (dgF b z p) (p + 1)
def adF (b : Nat → Int32) (z : Nat) : Nat → Nat → Nat
  | 0, _ => 0
  | k + 1, p => if nxB b z p 39 = true then adF b z k (p + 1) + 1 else 0

theorem nx_a {b : Nat → Int32} {z p : Nat} {c : Int32} (hz : z < 2 ^ 31) (hp : p < 2 ^ 31) (h : nI z ≤ nI p) : 0 = pB (nxB b z p c) := by
  have := (nI_leI hz hp).mp h
  rw [nxB, decide_eq_false (by omega : ¬ p < z)]; rfl
theorem nx_b {b : Nat → Int32} {z p : Nat} {c : Int32} (h : ¬ b p = c) : 0 = pB (nxB b z p c) := by
  rw [nxB, decide_eq_false h, Bool.and_false]; rfl
theorem nx_c {b : Nat → Int32} {z p : Nat} {c : Int32} (h1 : p < z) (h : b p = c) : 1 = pB (nxB b z p c) := by
  rw [nxB, decide_eq_true h1, decide_eq_true h]; rfl
set_option maxRecDepth 100000 in
theorem sp_X7_isNext {sh : List PSh} {S : PSt} {r z p : Nat} (hs : isTp sh r) (hz : S.1 r 1 = nI z) (hz1 : z ≤ 160) (hp : p ≤ 160) {c : Int32} : pF mX7_isNext 1 [.ref r, .int c] sh (tpS S r p) (tpS S r p) (some (.int (pB (nxB (S.1 (r + 1)) z p c)))) := by
  refine pF.of (pG.of [some (.ref r), some (.int c)] (by decide) tk_X7_isNext (Nat.le_of_ble_eq_true rfl) rfl (fun X => ?_))
  refine q_aload_n (pc := 0) (j := 0) rfl rfl ?_
  refine q_get (pc := 1) (a := r) (v := .int ((tpS S r p).1 r 4)) rfl fl_X7_29 hs.1 rfl rfl ?_
  refine q_st (st2 := [.int (nI p)]) (by rw [show ((tpS S r p).1 r 4) = nI p from tp_p]) ?_
  refine q_aload_n (pc := 4) (j := 0) rfl rfl ?_
  refine q_get (pc := 5) (a := r) (v := .int ((tpS S r p).1 r 1)) rfl fl_X7_15 hs.1 rfl rfl ?_
  refine q_st (st2 := [.int (nI z), .int (nI p)]) (by rw [show ((tpS S r p).1 r 1) = nI z from (tp_z (by decide)).trans hz]) ?_
  refine q_icmp_ge (pc := 8) 30 rfl (by decide) (fun h8 => ?_) (fun h8 => ?_)
  · refine q_iconst (pc := 30) 0 rfl (by decide) ?_
    exact q_zret (pc := 31) rfl rfl rfl ⟨congrArg (fun v => some (Value.int v)) (by first | exact nx_c h8z h23 | exact nx_b h23 | exact nx_a (by omega) (by omega) h8), rfl⟩
  · have h8z : p < z := by have := mt (nI_leI (a := z) (b := p) (by omega) (by omega)).mpr h8; omega
    refine q_aload_n (pc := 11) (j := 0) rfl rfl ?_
    refine q_get (pc := 12) (a := r) (v := .ref (r + 1)) rfl fl_X7_9 hs.1 rfl rfl ?_
    refine q_aload_n (pc := 15) (j := 0) rfl rfl ?_
    refine q_get (pc := 16) (a := r) (v := .int ((tpS S r p).1 r 4)) rfl fl_X7_29 hs.1 rfl rfl ?_
    refine q_st (st2 := [.int (nI p), .ref (r + 1)]) (by rw [show ((tpS S r p).1 r 4) = nI p from tp_p]) ?_
    refine q_callS (pc := 19) (as := [.ref (r + 1), .int (nI p)]) (rest := []) (st2 := [.int ((tpS S r p).1 (r + 1) p)]) rfl ce_X8_readInt ml_X7_44 st_X8_readInt rfl (by decide) (Nat.le_of_ble_eq_true rfl) (sp_readIntN (k := p) hs.2.1 (by omega) (by decide)) rfl ?_
    refine q_st (st2 := [.int (S.1 (r + 1) p)]) (by rw [show ((tpS S r p).1 (r + 1) p) = S.1 (r + 1) p by rw [tp_b (by omega)]]) ?_
    refine q_iload_n (pc := 22) (j := 1) rfl rfl ?_
    refine q_icmp_ne (pc := 23) 30 rfl (by decide) (fun h23 => ?_) (fun h23 => ?_)
    · refine q_iconst (pc := 30) 0 rfl (by decide) ?_
      exact q_zret (pc := 31) rfl rfl rfl ⟨congrArg (fun v => some (Value.int v)) (by first | exact nx_c h8z h23 | exact nx_b h23 | exact nx_a (by omega) (by omega) h8), rfl⟩
    · refine q_iconst (pc := 26) 1 rfl (by decide) ?_
      refine q_goto (pc := 27) 31 rfl (by decide) ?_
      exact q_zret (pc := 31) rfl rfl rfl ⟨congrArg (fun v => some (Value.int v)) (by first | exact nx_c h8z h23 | exact nx_b h23 | exact nx_a (by omega) (by omega) h8), rfl⟩
theorem dg_a {b : Nat → Int32} {z p : Nat} (h : ¬ (if p < z then b p else 0) < 48) (h2 : ¬ 57 < (if p < z then b p else 0)) : (if p < z then b p else 0) - 48 = dgF b z p := by
  rw [dgF, if_pos (c := (48 ≤ (if p < z then b p else 0) ∧ (if p < z then b p else 0) ≤ 57)) ⟨Int32.not_lt.mp h, Int32.not_lt.mp h2⟩]
theorem dg_b {b : Nat → Int32} {z p : Nat} (h2 : 57 < (if p < z then b p else 0)) : -1 = dgF b z p := by
  rw [dgF, if_neg (c := (48 ≤ (if p < z then b p else 0) ∧ (if p < z then b p else 0) ≤ 57)) (fun q9 => absurd h2 (Int32.not_lt.mpr q9.2))]
theorem dg_c {b : Nat → Int32} {z p : Nat} (h2 : (if p < z then b p else 0) < 48) : -1 = dgF b z p := by
  rw [dgF, if_neg (c := (48 ≤ (if p < z then b p else 0) ∧ (if p < z then b p else 0) ≤ 57)) (fun q9 => absurd h2 (Int32.not_lt.mpr q9.1))]
set_option maxRecDepth 100000 in
theorem sp_X7_digit {sh : List PSh} {S : PSt} {r z p : Nat} (hs : isTp sh r) (hz : S.1 r 1 = nI z) (hz1 : z ≤ 160) (hp : p ≤ 160)  : pF mX7_digit 1 [.ref r] sh (tpS S r p) (tpS S r p) (some (.int (dgF (S.1 (r + 1)) z p))) := by
  refine pF.of (pG.of [some (.ref r), none] (by decide) tk_X7_digit (Nat.le_of_ble_eq_true rfl) rfl (fun X => ?_))
  refine q_aload_n (pc := 0) (j := 0) rfl rfl ?_
  refine q_get (pc := 1) (a := r) (v := .int ((tpS S r p).1 r 4)) rfl fl_X7_29 hs.1 rfl rfl ?_
  refine q_st (st2 := [.int (nI p)]) (by rw [show ((tpS S r p).1 r 4) = nI p from tp_p]) ?_
  refine q_aload_n (pc := 4) (j := 0) rfl rfl ?_
  refine q_get (pc := 5) (a := r) (v := .int ((tpS S r p).1 r 1)) rfl fl_X7_15 hs.1 rfl rfl ?_
  refine q_st (st2 := [.int (nI z), .int (nI p)]) (by rw [show ((tpS S r p).1 r 1) = nI z from (tp_z (by decide)).trans hz]) ?_
  refine q_join 26 [some (.ref r), none] [.int (if p < z then S.1 (r + 1) p else 0)] (tpS S r p) ?_ (fun key8 => ?_)
  · refine q_istore_n (pc := 26) (j := 1) [some (.ref r), some (.int (if p < z then S.1 (r + 1) p else 0))] rfl (by decide) rfl ?_
    refine q_iload_n (pc := 27) (j := 1) rfl rfl ?_
    refine q_bipush (pc := 28) 48 rfl (by decide) ?_
    refine q_icmp_lt (pc := 30) 46 rfl (by decide) (fun h30 => ?_) (fun h30 => ?_)
    · refine q_iconst (pc := 46) (-1) rfl (by decide) ?_
      exact q_iret (pc := 47) rfl rfl ⟨congrArg (fun v => some (Value.int v)) (by first | exact dg_a h30 h36 | exact dg_b h36 | exact dg_c h30), rfl⟩
    · refine q_iload_n (pc := 33) (j := 1) rfl rfl ?_
      refine q_bipush (pc := 34) 57 rfl (by decide) ?_
      refine q_icmp_gt (pc := 36) 46 rfl (by decide) (fun h36 => ?_) (fun h36 => ?_)
      · refine q_iconst (pc := 46) (-1) rfl (by decide) ?_
        exact q_iret (pc := 47) rfl rfl ⟨congrArg (fun v => some (Value.int v)) (by first | exact dg_a h30 h36 | exact dg_b h36 | exact dg_c h30), rfl⟩
      · refine q_iload_n (pc := 39) (j := 1) rfl rfl ?_
        refine q_bipush (pc := 40) 48 rfl (by decide) ?_
        refine q_isub (pc := 42) rfl ?_
        refine q_goto (pc := 43) 47 rfl (by decide) ?_
        exact q_iret (pc := 47) rfl rfl ⟨congrArg (fun v => some (Value.int v)) (by first | exact dg_a h30 h36 | exact dg_b h36 | exact dg_c h30), rfl⟩
  · refine q_icmp_ge (pc := 8) 25 rfl (by decide) (fun h8 => ?_) (fun h8 => ?_)
    · refine q_iconst (pc := 25) 0 rfl (by decide) ?_
      exact q_st (by rw [if_neg (by have := (nI_leI (a := z) (b := p) (by omega) (by omega)).mp h8; omega)]) key8
    · have h8z : p < z := by have := mt (nI_leI (a := z) (b := p) (by omega) (by omega)).mpr h8; omega
      refine q_aload_n (pc := 11) (j := 0) rfl rfl ?_
      refine q_get (pc := 12) (a := r) (v := .ref (r + 1)) rfl fl_X7_9 hs.1 rfl rfl ?_
      refine q_aload_n (pc := 15) (j := 0) rfl rfl ?_
      refine q_get (pc := 16) (a := r) (v := .int ((tpS S r p).1 r 4)) rfl fl_X7_29 hs.1 rfl rfl ?_
      refine q_st (st2 := [.int (nI p), .ref (r + 1)]) (by rw [show ((tpS S r p).1 r 4) = nI p from tp_p]) ?_
      refine q_callS (pc := 19) (as := [.ref (r + 1), .int (nI p)]) (rest := []) (st2 := [.int ((tpS S r p).1 (r + 1) p)]) rfl ce_X8_readInt ml_X7_44 st_X8_readInt rfl (by decide) (Nat.le_of_ble_eq_true rfl) (sp_readIntN (k := p) hs.2.1 (by omega) (by decide)) rfl ?_
      refine q_goto (pc := 22) 26 rfl (by decide) ?_
      exact q_st (by rw [if_pos h8z, tp_b (by omega)]) key8
set_option maxRecDepth 100000 in
theorem lp_X7_readNumber {n0 : Nat} {X : Nat × (Nat → Int32)} {P : Option Value → PSt → Prop} {d : Nat} (hd9 : 2 ≤ d) {sh : List PSh} {S : PSt} {r z p1 : Nat} {least most v1 : Int32} (hs : isTp sh r) (hz : S.1 r 1 = nI z) (hz1 : z ≤ 160) (hgo : ∀ i, pV mX7_readNumber d n0 X sh P 83 [some (.ref r), some (.int least), some (.int most), some (.int v1), some (.int i)] [] (tpS S r p1)) (hbad : v1 = -1 → P (some (.int (-1))) (tpS S r p1)) : ∀ (m k p : Nat) (v : Int32), k + m = 160 → p ≤ 160 → nmF (S.1 (r + 1)) z most m v p = (v1, p1) → pV mX7_readNumber d n0 X sh P 30 [some (.ref r), some (.int least), some (.int most), some (.int v), some (.int (nI k))] [] (tpS S r p) := by
  intro m
  induction m with
  | zero =>
    intro k p v hk hp hw
    have hk : k = 160 := by omega
    subst hk
    cases hw
    refine q_iload (pc := 30) (j := 4) rfl rfl ?_
    refine q_sipush (pc := 32) 160 rfl (by decide) ?_
    exact q_icmp_ge (pc := 35) 83 rfl (by decide) (fun _ => hgo _) (fun h9 => absurd (Int32.le_refl _) h9)
  | succ m ih =>
    intro k p v hk hp hw
    unfold nmF at hw
    have hk1 : k < 160 := by omega
    refine q_iload (pc := 30) (j := 4) rfl rfl ?_
    refine q_sipush (pc := 32) 160 rfl (by decide) ?_
    refine q_icmp_ge (pc := 35) 83 rfl (by decide) (fun h9 => absurd h9 (nI_ge (b := 160) hk1 (by decide))) (fun _ => ?_)
    refine q_iload_n (pc := 38) (j := 3) rfl rfl ?_
    refine q_if_le (pc := 39) 83 rfl (by decide) (fun h39 => ?_) (fun h39 => ?_)
    · first | (rw [if_pos h39] at hw; cases hw; exact hgo _) | (rw [if_pos h47] at hw; cases hw; exact hgo _)
    · rw [if_neg h39] at hw
      refine q_aload_n (pc := 42) (j := 0) rfl rfl ?_
      refine q_callV (pc := 43) (as := []) (rest := []) (b := r) (st2 := [.int (dgF (S.1 (r + 1)) z p)]) rfl ce_X7_digit ml_X7_60 im_X7_digit se_X7_digit hs.1 rfl rfl rfl (by omega) (Nat.le_of_ble_eq_true rfl) (sp_X7_digit (S := S) (z := z) (p := p) hs hz hz1 (by omega)) rfl ?_
      refine q_iconst (pc := 46) (-1) rfl (by decide) ?_
      refine q_icmp_eq (pc := 47) 83 rfl (by decide) (fun h47 => ?_) (fun h47 => ?_)
      · first | (rw [if_pos h39] at hw; cases hw; exact hgo _) | (rw [if_pos h47] at hw; cases hw; exact hgo _)
      · rw [if_neg h47] at hw; have hpz := dg_in h47
        refine q_iload_n (pc := 50) (j := 3) rfl rfl ?_
        refine q_bipush (pc := 51) 10 rfl (by decide) ?_
        refine q_imul (pc := 53) rfl ?_
        refine q_aload_n (pc := 54) (j := 0) rfl rfl ?_
        refine q_callV (pc := 55) (as := []) (rest := [.int (v * 10)]) (b := r) (st2 := [.int (dgF (S.1 (r + 1)) z p), .int (v * 10)]) rfl ce_X7_digit ml_X7_60 im_X7_digit se_X7_digit hs.1 rfl rfl rfl (by omega) (Nat.le_of_ble_eq_true rfl) (sp_X7_digit (S := S) (z := z) (p := p) hs hz hz1 (by omega)) rfl ?_
        refine q_iadd (pc := 58) rfl ?_
        refine q_istore_n (pc := 59) (j := 3) [some (.ref r), some (.int least), some (.int most), some (.int ((v * 10) + (dgF (S.1 (r + 1)) z p))), some (.int (nI k))] rfl (by decide) rfl ?_
        refine q_iload_n (pc := 60) (j := 3) rfl rfl ?_
        refine q_iload_n (pc := 61) (j := 2) rfl rfl ?_
        refine q_icmp_le (pc := 62) 67 rfl (by decide) (fun h62 => ?_) (fun h62 => ?_)
        · rw [if_neg (Int32.not_lt.mpr h62)] at hw
          refine q_aload_n (pc := 67) (j := 0) rfl rfl ?_
          refine q_dup (pc := 68) rfl rfl ?_
          refine q_get (pc := 69) (a := r) (v := .int ((tpS S r p).1 r 4)) rfl fl_X7_29 hs.1 rfl rfl ?_
          refine q_st (st2 := [.int (nI p), .ref r]) (by rw [show ((tpS S r p).1 r 4) = nI p from tp_p]) ?_
          refine q_iconst (pc := 72) 1 rfl (by decide) ?_
          refine q_iadd (pc := 73) rfl ?_
          refine q_st (st2 := [.int (nI (p + 1)), .ref r]) (by rw [nI_1 p]) ?_
          refine q_putI (pc := 74) (a := r) rfl fl_X7_29 hs.1 rfl (fun _ h9 => by cases h9; rfl) rfl rfl ?_
          refine q_S tp_s ?_
          refine q_iinc (pc := 77) (j := 4) (n := 1) (nI (k + 1)) [some (.ref r), some (.int least), some (.int most), some (.int ((v * 10) + (dgF (S.1 (r + 1)) z p))), some (.int (nI (k + 1)))] rfl (by decide) rfl (nI_1 k) rfl ?_
          refine q_goto (pc := 80) 30 rfl (by decide) ?_
          exact ih (k + 1) (p + 1) _ (by omega) (by omega) hw
        · rw [if_pos (Int32.not_le.mp h62)] at hw; cases hw
          refine q_iconst (pc := 65) (-1) rfl (by decide) ?_
          exact q_iret (pc := 66) rfl rfl (hbad rfl)
