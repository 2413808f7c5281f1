/-! Tape: written by wip/whole/gen/c19.py -/
def isTp (sh : List PSh) (r : Nat) : Prop := sh[r]? = some (.inr (6, [r + 1 + 3, 0, r + 2 + 3, 0, 0])) ∧ sh[r + 1]? = some (.inl (0, 160)) ∧ isSg sh (r + 2)
/-- the tape read up to the place p -/
def tpS (S : PSt) (r p : Nat) : PSt := pSI S r 4 (nI p)
theorem tp_p {S : PSt} {r p : Nat} : (tpS S r p).1 r 4 = nI p := by simp [tpS, pSI, pU]
theorem tp_z {S : PSt} {r p j : Nat} (h : j ≠ 4) : (tpS S r p).1 r j = S.1 r j := by simp [tpS, pSI, pU, h]
theorem tp_b {S : PSt} {r p x : Nat} (h : x ≠ r) : (tpS S r p).1 x = S.1 x := by funext j; simp [tpS, pSI, pU, h]
theorem tp_s {S : PSt} {r p q : Nat} : pSI (tpS S r p) r 4 (nI q) = tpS S r q := by
  unfold tpS pSI pU
  refine Prod.ext (funext fun c => funext fun j => ?_) rfl
  dsimp only; split <;> simp_all
/-- the byte at p is c -/
def nxB (b : Nat → Int32) (z p : Nat) (c : Int32) : Bool := decide (p < z) && decide (b p = c)
def dgF (b : Nat → Int32) (z p : Nat) : Int32 := if 48 ≤ (if p < z then b p else 0) ∧ (if p < z then b p else 0) ≤ 57 then (if p < z then b p else 0) - 48 else -1
theorem dg_in {b : Nat → Int32} {z p : Nat} (h : ¬ dgF b z p = -1) : p < z := by
  by_cases hp : p < z
  · exact hp
  · exact absurd (by simp [dgF, hp]) h
/-- a number goes on: its value (-1: too large), the place behind it -/
def nmF (b : Nat → Int32) (z : Nat) (most : Int32) : Nat → Int32 → Nat → Int32 × Nat
  | 0, v, p => (v, p)
  | k + 1, v, p => if v ≤ 0 then (v, p) else if dgF b z p = -1 then (v, p) else if most < v * 10 + dgF b z p then (-1, p) else nmF b z most k (v * 10 + dgF b z p) (p + 1)
def numF (b : Nat → Int32) (z : Nat) (least most : Int32) (p : Nat) : Int32 × Nat :=
  if dgF b z p = -1 then (-1, p) else if dgF b z p < least then (-1, p) else nmF b z most 160 (dgF b z p) (p + 1)
def adF (b : Nat → Int32) (z : Nat) : Nat → Nat → Nat
  | 0, _ => 0
  | k + 1, p => if nxB b z p 39 = true then adF b z k (p + 1) + 1 else 0

theorem nx_a {b : Nat → Int32} {z p : Nat} {c : Int32} (hz : z < 2 ^ 31) (hp : p < 2 ^ 31) (h : nI z ≤ nI p) : 0 = pB (nxB b z p c) := by
  have := (nI_leI hz hp).mp h
  rw [nxB, decide_eq_false (by omega : ¬ p < z)]; rfl
theorem nx_b {b : Nat → Int32} {z p : Nat} {c : Int32} (h : ¬ b p = c) : 0 = pB (nxB b z p c) := by
  rw [nxB, decide_eq_false h, Bool.and_false]; rfl
theorem nx_c {b : Nat → Int32} {z p : Nat} {c : Int32} (h1 : p < z) (h : b p = c) : 1 = pB (nxB b z p c) := by
  rw [nxB, decide_eq_true h1, decide_eq_true h]; rfl
set_option maxRecDepth 100000 in
theorem sp_X7_isNext {sh : List PSh} {S : PSt} {r z p : Nat} (hs : isTp sh r) (hz : S.1 r 1 = nI z) (hz1 : z ≤ 160) (hp : p ≤ 160) {c : Int32} : pF mX7_isNext 1 [.ref r, .int c] sh (tpS S r p) (tpS S r p) (some (.int (pB (nxB (S.1 (r + 1)) z p c)))) := by
  refine pF.of (pG.of [some (.ref r), some (.int c)] (by decide) tk_X7_isNext (Nat.le_of_ble_eq_true rfl) rfl (fun X => ?_))
  refine q_aload_n (pc := 0) (j := 0) rfl rfl ?_
  refine q_get (pc := 1) (a := r) (v := .int ((tpS S r p).1 r 4)) rfl fl_X7_29 hs.1 rfl rfl ?_
  refine q_st (st2 := [.int (nI p)]) (by rw [show ((tpS S r p).1 r 4) = nI p from tp_p]) ?_
  refine q_aload_n (pc := 4) (j := 0) rfl rfl ?_
  refine q_get (pc := 5) (a := r) (v := .int ((tpS S r p).1 r 1)) rfl fl_X7_15 hs.1 rfl rfl ?_
  refine q_st (st2 := [.int (nI z), .int (nI p)]) (by rw [show ((tpS S r p).1 r 1) = nI z from (tp_z (by decide)).trans hz]) ?_
  refine q_icmp_ge (pc := 8) 30 rfl (by decide) (fun h8 => ?_) (fun h8 => ?_)
  · refine q_iconst (pc := 30) 0 rfl (by decide) ?_
    exact q_zret (pc := 31) rfl rfl rfl ⟨congrArg (fun v => some (Value.int v)) (by first | exact nx_c h8z h23 | exact nx_b h23 | exact nx_a (by omega) (by omega) h8), rfl⟩
  · have h8z : p < z := by have := mt (nI_leI (a := z) (b := p) (by omega) (by omega)).mpr h8; omega
    refine q_aload_n (pc := 11) (j := 0) rfl rfl ?_
    refine q_get (pc := 12) (a := r) (v := .ref (r + 1)) rfl fl_X7_9 hs.1 rfl rfl ?_
    refine q_aload_n (pc := 15) (j := 0) rfl rfl ?_
    refine q_get (pc := 16) (a := r) (v := .int ((tpS S r p).1 r 4)) rfl fl_X7_29 hs.1 rfl rfl ?_
    refine q_st (st2 := [.int (nI p), .ref (r + 1)]) (by rw [show ((tpS S r p).1 r 4) = nI p from tp_p]) ?_
    refine q_callS (pc := 19) (as := [.ref (r + 1), .int (nI p)]) (rest := []) (st2 := [.int ((tpS S r p).1 (r + 1) p)]) rfl ce_X8_readInt ml_X7_44 st_X8_readInt rfl (by decide) (Nat.le_of_ble_eq_true rfl) (sp_readIntN (k := p) hs.2.1 (by omega) (by decide)) rfl ?_
    refine q_st (st2 := [.int (S.1 (r + 1) p)]) (by rw [show ((tpS S r p).1 (r + 1) p) = S.1 (r + 1) p by rw [tp_b (by omega)]]) ?_
    refine q_iload_n (pc := 22) (j := 1) rfl rfl ?_
    refine q_icmp_ne (pc := 23) 30 rfl (by decide) (fun h23 => ?_) (fun h23 => ?_)
    · refine q_iconst (pc := 30) 0 rfl (by decide) ?_
      exact q_zret (pc := 31) rfl rfl rfl ⟨congrArg (fun v => some (Value.int v)) (by first | exact nx_c h8z h23 | exact nx_b h23 | exact nx_a (by omega) (by omega) h8), rfl⟩
    · refine q_iconst (pc := 26) 1 rfl (by decide) ?_
      refine q_goto (pc := 27) 31 rfl (by decide) ?_
      exact q_zret (pc := 31) rfl rfl rfl ⟨congrArg (fun v => some (Value.int v)) (by first | exact nx_c h8z h23 | exact nx_b h23 | exact nx_a (by omega) (by omega) h8), rfl⟩
theorem dg_a {b : Nat → Int32} {z p : Nat} (h : ¬ (if p < z then b p else 0) < 48) (h2 : ¬ 57 < (if p < z then b p else 0)) : (if p < z then b p else 0) - 48 = dgF b z p := by
  rw [dgF, if_pos (c := (48 ≤ (if p < z then b p else 0) ∧ (if p < z then b p else 0) ≤ 57)) ⟨Int32.not_lt.mp h, Int32.not_lt.mp h2⟩]
theorem dg_b {b : Nat → Int32} {z p : Nat} (h2 : 57 < (if p < z then b p else 0)) : -1 = dgF b z p := by
  rw [dgF, if_neg (c := (48 ≤ (if p < z then b p else 0) ∧ (if p < z then b p else 0) ≤ 57)) (fun q9 => absurd h2 (Int32.not_lt.mpr q9.2))]
theorem dg_c {b : Nat → Int32} {z p : Nat} (h2 : (if p < z then b p else 0) < 48) : -1 = dgF b z p := by
  rw [dgF, if_neg (c := (48 ≤ (if p < z then b p else 0) ∧ (if p < z then b p else 0) ≤ 57)) (fun q9 => absurd h2 (Int32.not_lt.mpr q9.1))]
set_option maxRecDepth 100000 in
theorem sp_X7_digit {sh : List PSh} {S : PSt} {r z p : Nat} (hs : isTp sh r) (hz : S.1 r 1 = nI z) (hz1 : z ≤ 160) (hp : p ≤ 160)  : pF mX7_digit 1 [.ref r] sh (tpS S r p) (tpS S r p) (some (.int (dgF (S.1 (r + 1)) z p))) := by
  refine pF.of (pG.of [some (.ref r), none] (by decide) tk_X7_digit (Nat.le_of_ble_eq_true rfl) rfl (fun X => ?_))
  refine q_aload_n (pc := 0) (j := 0) rfl rfl ?_
  refine q_get (pc := 1) (a := r) (v := .int ((tpS S r p).1 r 4)) rfl fl_X7_29 hs.1 rfl rfl ?_
  refine q_st (st2 := [.int (nI p)]) (by rw [show ((tpS S r p).1 r 4) = nI p from tp_p]) ?_
  refine q_aload_n (pc := 4) (j := 0) rfl rfl ?_
  refine q_get (pc := 5) (a := r) (v := .int ((tpS S r p).1 r 1)) rfl fl_X7_15 hs.1 rfl rfl ?_
  refine q_st (st2 := [.int (nI z), .int (nI p)]) (by rw [show ((tpS S r p).1 r 1) = nI z from (tp_z (by decide)).trans hz]) ?_
  refine q_join 26 [some (.ref r), none] [.int (if p < z then S.1 (r + 1) p else 0)] (tpS S r p) ?_ (fun key8 => ?_)
  · refine q_istore_n (pc := 26) (j := 1) [some (.ref r), some (.int (if p < z then S.1 (r + 1) p else 0))] rfl (by decide) rfl ?_
    refine q_iload_n (pc := 27) (j := 1) rfl rfl ?_
    refine q_bipush (pc := 28) 48 rfl (by decide) ?_
    refine q_icmp_lt (pc := 30) 46 rfl (by decide) (fun h30 => ?_) (fun h30 => ?_)
    · refine q_iconst (pc := 46) (-1) rfl (by decide) ?_
      exact q_iret (pc := 47) rfl rfl ⟨congrArg (fun v => some (Value.int v)) (by first | exact dg_a h30 h36 | exact dg_b h36 | exact dg_c h30), rfl⟩
    · refine q_iload_n (pc := 33) (j := 1) rfl rfl ?_
      refine q_bipush (pc := 34) 57 rfl (by decide) ?_
      refine q_icmp_gt (pc := 36) 46 rfl (by decide) (fun h36 => ?_) (fun h36 => ?_)
      · refine q_iconst (pc := 46) (-1) rfl (by decide) ?_
        exact q_iret (pc := 47) rfl rfl ⟨congrArg (fun v => some (Value.int v)) (by first | exact dg_a h30 h36 | exact dg_b h36 | exact dg_c h30), rfl⟩
      · refine q_iload_n (pc := 39) (j := 1) rfl rfl ?_
        refine q_bipush (pc := 40) 48 rfl (by decide) ?_
        refine q_isub (pc := 42) rfl ?_
        refine q_goto (pc := 43) 47 rfl (by decide) ?_
        exact q_iret (pc := 47) rfl rfl ⟨congrArg (fun v => some (Value.int v)) (by first | exact dg_a h30 h36 | exact dg_b h36 | exact dg_c h30), rfl⟩
  · refine q_icmp_ge (pc := 8) 25 rfl (by decide) (fun h8 => ?_) (fun h8 => ?_)
    · refine q_iconst (pc := 25) 0 rfl (by decide) ?_
      exact q_st (by rw [if_neg (by have := (nI_leI (a := z) (b := p) (by omega) (by omega)).mp h8; omega)]) key8
    · have h8z : p < z := by have := mt (nI_leI (a := z) (b := p) (by omega) (by omega)).mpr h8; omega
      refine q_aload_n (pc := 11) (j := 0) rfl rfl ?_
      refine q_get (pc := 12) (a := r) (v := .ref (r + 1)) rfl fl_X7_9 hs.1 rfl rfl ?_
      refine q_aload_n (pc := 15) (j := 0) rfl rfl ?_
      refine q_get (pc := 16) (a := r) (v := .int ((tpS S r p).1 r 4)) rfl fl_X7_29 hs.1 rfl rfl ?_
      refine q_st (st2 := [.int (nI p), .ref (r + 1)]) (by rw [show ((tpS S r p).1 r 4) = nI p from tp_p]) ?_
      refine q_callS (pc := 19) (as := [.ref (r + 1), .int (nI p)]) (rest := []) (st2 := [.int ((tpS S r p).1 (r + 1) p)]) rfl ce_X8_readInt ml_X7_44 st_X8_readInt rfl (by decide) (Nat.le_of_ble_eq_true rfl) (sp_readIntN (k := p) hs.2.1 (by omega) (by decide)) rfl ?_
      refine q_goto (pc := 22) 26 rfl (by decide) ?_
      exact q_st (by rw [if_pos h8z, tp_b (by omega)]) key8
set_option maxRecDepth 100000 in
theorem lp_X7_readNumber {n0 : Nat} {X : Nat × (Nat → Int32)} {P : Option Value → PSt → Prop} {d : Nat} (hd9 : 2 ≤ d) {sh : List PSh} {S : PSt} {r z p1 : Nat} {least most v1 : Int32} (hs : isTp sh r) (hz : S.1 r 1 = nI z) (hz1 : z ≤ 160) (hgo : ∀ i, pV mX7_readNumber d n0 X sh P 83 [some (.ref r), some (.int least), some (.int most), some (.int v1), some (.int i)] [] (tpS S r p1)) (hbad : v1 = -1 → P (some (.int (-1))) (tpS S r p1)) : ∀ (m k p : Nat) (v : Int32), k + m = 160 → p ≤ 160 → nmF (S.1 (r + 1)) z most m v p = (v1, p1) → pV mX7_readNumber d n0 X sh P 30 [some (.ref r), some (.int least), some (.int most), some (.int v), some (.int (nI k))] [] (tpS S r p) := by
  intro m
  induction m with
  | zero =>
    intro k p v hk hp hw
    have hk : k = 160 := by omega
    subst hk
    cases hw
    refine q_iload (pc := 30) (j := 4) rfl rfl ?_
    refine q_sipush (pc := 32) 160 rfl (by decide) ?_
    exact q_icmp_ge (pc := 35) 83 rfl (by decide) (fun _ => hgo _) (fun h9 => absurd (Int32.le_refl _) h9)
  | succ m ih =>
    intro k p v hk hp hw
    unfold nmF at hw
    have hk1 : k < 160 := by omega
    refine q_iload (pc := 30) (j := 4) rfl rfl ?_
    refine q_sipush (pc := 32) 160 rfl (by decide) ?_
    refine q_icmp_ge (pc := 35) 83 rfl (by decide) (fun h9 => absurd h9 (nI_ge (b := 160) hk1 (by decide))) (fun _ => ?_)
    refine q_iload_n (pc := 38) (j := 3) rfl rfl ?_
    refine q_if_le (pc := 39) 83 rfl (by decide) (fun h39 => ?_) (fun h39 => ?_)
    · first | (rw [if_pos h39] at hw; cases hw; exact hgo _) | (rw [if_pos h47] at hw; cases hw; exact hgo _)
    · rw [if_neg h39] at hw
      refine q_aload_n (pc := 42) (j := 0) rfl rfl ?_
      refine q_callV (pc := 43) (as := []) (rest := []) (b := r) (st2 := [.int (dgF (S.1 (r + 1)) z p)]) rfl ce_X7_digit ml_X7_60 im_X7_digit se_X7_digit hs.1 rfl rfl rfl (by omega) (Nat.le_of_ble_eq_true rfl) (sp_X7_digit (S := S) (z := z) (p := p) hs hz hz1 (by omega)) rfl ?_
      refine q_iconst (pc := 46) (-1) rfl (by decide) ?_
      refine q_icmp_eq (pc := 47) 83 rfl (by decide) (fun h47 => ?_) (fun h47 => ?_)
      · first | (rw [if_pos h39] at hw; cases hw; exact hgo _) | (rw [if_pos h47] at hw; cases hw; exact hgo _)
      · rw [if_neg h47] at hw; have hpz := dg_in h47
        refine q_iload_n (pc := 50) (j := 3) rfl rfl ?_
        refine q_bipush (pc := 51) 10 rfl (by decide) ?_
        refine q_imul (pc := 53) rfl ?_
        refine q_aload_n (pc := 54) (j := 0) rfl rfl ?_
        refine q_callV (pc := 55) (as := []) (rest := [.int (v * 10)]) (b := r) (st2 := [.int (dgF (S.1 (r + 1)) z p), .int (v * 10)]) rfl ce_X7_digit ml_X7_60 im_X7_digit se_X7_digit hs.1 rfl rfl rfl (by omega) (Nat.le_of_ble_eq_true rfl) (sp_X7_digit (S := S) (z := z) (p := p) hs hz hz1 (by omega)) rfl ?_
        refine q_iadd (pc := 58) rfl ?_
        refine q_istore_n (pc := 59) (j := 3) [some (.ref r), some (.int least), some (.int most), some (.int ((v * 10) + (dgF (S.1 (r + 1)) z p))), some (.int (nI k))] rfl (by decide) rfl ?_
        refine q_iload_n (pc := 60) (j := 3) rfl rfl ?_
        refine q_iload_n (pc := 61) (j := 2) rfl rfl ?_
        refine q_icmp_le (pc := 62) 67 rfl (by decide) (fun h62 => ?_) (fun h62 => ?_)
        · rw [if_neg (Int32.not_lt.mpr h62)] at hw
          refine q_aload_n (pc := 67) (j := 0) rfl rfl ?_
          refine q_dup (pc := 68) rfl rfl ?_
          refine q_get (pc := 69) (a := r) (v := .int ((tpS S r p).1 r 4)) rfl fl_X7_29 hs.1 rfl rfl ?_
          refine q_st (st2 := [.int (nI p), .ref r]) (by rw [show ((tpS S r p).1 r 4) = nI p from tp_p]) ?_
          refine q_iconst (pc := 72) 1 rfl (by decide) ?_
          refine q_iadd (pc := 73) rfl ?_
          refine q_st (st2 := [.int (nI (p + 1)), .ref r]) (by rw [nI_1 p]) ?_
          refine q_putI (pc := 74) (a := r) rfl fl_X7_29 hs.1 rfl (fun _ h9 => by cases h9; rfl) rfl rfl ?_
          refine q_S tp_s ?_
          refine q_iinc (pc := 77) (j := 4) (n := 1) (nI (k + 1)) [some (.ref r), some (.int least), some (.int most), some (.int ((v * 10) + (dgF (S.1 (r + 1)) z p))), some (.int (nI (k + 1)))] rfl (by decide) rfl (nI_1 k) rfl ?_
          refine q_goto (pc := 80) 30 rfl (by decide) ?_
          exact ih (k + 1) (p + 1) _ (by omega) (by omega) hw
        · rw [if_pos (Int32.not_le.mp h62)] at hw; cases hw
          refine q_iconst (pc := 65) (-1) rfl (by decide) ?_
          exact q_iret (pc := 66) rfl rfl (hbad rfl)
set_option maxRecDepth 100000 in
theorem sp_X7_readNumber {sh : List PSh} {S : PSt} {r z p : Nat} (hs : isTp sh r) (hz : S.1 r 1 = nI z) (hz1 : z ≤ 160) (hp : p ≤ 160) {least most : Int32} : pF mX7_readNumber 2 [.ref r, .int least, .int most] sh (tpS S r p) (tpS S r (numF (S.1 (r + 1)) z least most p).2) (some (.int (numF (S.1 (r + 1)) z least most p).1)) := by
  refine pF.of (pG.of [some (.ref r), some (.int least), some (.int most), none, none] (by decide) tk_X7_readNumber (Nat.le_of_ble_eq_true rfl) rfl (fun X => ?_))
  refine q_aload_n (pc := 0) (j := 0) rfl rfl ?_
  refine q_callV (pc := 1) (as := []) (rest := []) (b := r) (st2 := [.int (dgF (S.1 (r + 1)) z p)]) rfl ce_X7_digit ml_X7_60 im_X7_digit se_X7_digit hs.1 rfl rfl rfl (by decide) (Nat.le_of_ble_eq_true rfl) (sp_X7_digit (S := S) (z := z) (p := p) hs hz hz1 (by omega)) rfl ?_
  refine q_istore_n (pc := 4) (j := 3) [some (.ref r), some (.int least), some (.int most), some (.int (dgF (S.1 (r + 1)) z p)), none] rfl (by decide) rfl ?_
  refine q_iload_n (pc := 5) (j := 3) rfl rfl ?_
  refine q_iconst (pc := 6) (-1) rfl (by decide) ?_
  refine q_icmp_eq (pc := 7) 15 rfl (by decide) (fun h7 => ?_) (fun h7 => ?_)
  · refine q_iconst (pc := 15) (-1) rfl (by decide) ?_
    exact q_iret (pc := 16) rfl rfl ⟨by rw [numF, if_pos h7], by rw [numF, if_pos h7]⟩
  · refine q_iload_n (pc := 10) (j := 3) rfl rfl ?_
    refine q_iload_n (pc := 11) (j := 1) rfl rfl ?_
    refine q_icmp_ge (pc := 12) 17 rfl (by decide) (fun h12 => ?_) (fun h12 => ?_)
    · have hnum : (numF (S.1 (r + 1)) z least most p) = (nmF (S.1 (r + 1)) z most 160 (dgF (S.1 (r + 1)) z p) (p + 1)) := by rw [numF, if_neg h7, if_neg (Int32.not_lt.mpr h12)]
      refine q_aload_n (pc := 17) (j := 0) rfl rfl ?_
      refine q_dup (pc := 18) rfl rfl ?_
      refine q_get (pc := 19) (a := r) (v := .int ((tpS S r p).1 r 4)) rfl fl_X7_29 hs.1 rfl rfl ?_
      refine q_st (st2 := [.int (nI p), .ref r]) (by rw [show ((tpS S r p).1 r 4) = nI p from tp_p]) ?_
      refine q_iconst (pc := 22) 1 rfl (by decide) ?_
      refine q_iadd (pc := 23) rfl ?_
      refine q_st (st2 := [.int (nI (p + 1)), .ref r]) (by rw [nI_1 p]) ?_
      refine q_putI (pc := 24) (a := r) rfl fl_X7_29 hs.1 rfl (fun _ h9 => by cases h9; rfl) rfl rfl ?_
      refine q_S tp_s ?_
      refine q_iconst (pc := 27) 0 rfl (by decide) ?_
      refine q_istore (pc := 28) (j := 4) [some (.ref r), some (.int least), some (.int most), some (.int (dgF (S.1 (r + 1)) z p)), some (.int 0)] rfl (by decide) rfl ?_
      have hpz := dg_in h7; refine lp_X7_readNumber (v1 := (nmF (S.1 (r + 1)) z most 160 (dgF (S.1 (r + 1)) z p) (p + 1)).1) (p1 := (nmF (S.1 (r + 1)) z most 160 (dgF (S.1 (r + 1)) z p) (p + 1)).2) (by decide) hs hz hz1 (fun i => ?_) (fun h8 => ⟨by rw [hnum, h8], by rw [hnum]⟩) 160 0 (p + 1) _ rfl (by omega) rfl
      refine q_iload_n (pc := 83) (j := 3) rfl rfl ?_
      exact q_iret (pc := 84) rfl rfl ⟨by rw [hnum], by rw [hnum]⟩
    · refine q_iconst (pc := 15) (-1) rfl (by decide) ?_
      exact q_iret (pc := 16) rfl rfl ⟨by rw [numF, if_neg h7, if_pos (Int32.not_le.mp h12)], by rw [numF, if_neg h7, if_pos (Int32.not_le.mp h12)]⟩
theorem nmF_le {b : Nat → Int32} {z : Nat} {most : Int32} : ∀ (k : Nat) (v : Int32) (p : Nat), p ≤ z → (nmF b z most k v p).2 ≤ z := by
  intro k
  induction k with
  | zero => intro v p h; exact h
  | succ k ih =>
    intro v p h
    unfold nmF
    split
    · exact h
    · split
      · exact h
      · rename_i hd
        have := dg_in hd
        split
        · exact h
        · exact ih _ _ (by omega)
theorem numF_le {b : Nat → Int32} {z p : Nat} {least most : Int32} (h : p ≤ z) : (numF b z least most p).2 ≤ z := by
  unfold numF
  split
  · exact h
  · rename_i hd
    have := dg_in hd
    split
    · exact h
    · exact nmF_le _ _ _ (by omega)
theorem nx_in {b : Nat → Int32} {z p : Nat} {c : Int32} (h : nxB b z p c = true) : p < z := by
  unfold nxB at h
  rw [Bool.and_eq_true] at h
  exact of_decide_eq_true h.1
theorem adF_le {b : Nat → Int32} {z : Nat} : ∀ (k p : Nat), p ≤ z → p + adF b z k p ≤ z := by
  intro k
  induction k with
  | zero => intro p h; exact h
  | succ k ih =>
    intro p h
    unfold adF
    split
    · rename_i hx
      have := nx_in hx
      have := ih (p + 1) (by omega)
      omega
    · exact h
theorem adF_9 {b : Nat → Int32} {z : Nat} : ∀ (k p : Nat), adF b z k p ≤ k := by
  intro k
  induction k with
  | zero => intro p; exact Nat.le_refl _
  | succ k ih => intro p; unfold adF; split; exact Nat.succ_le_succ (ih _); exact Nat.zero_le _
theorem ly5_o {S : PSt} {a c x : Nat} {x0 x1 x2 x3 x4 : Int32} (h : x ≠ a) : (ly5 S a c x0 x1 x2 x3 x4).1 x = S.1 x := by funext j; simp [ly5, pSI, pU, h]
/-- a sign is kept: the m-th -/
def kpS (S : PSt) (r m : Nat) (k d s a : Int32) : PSt := pSI (if m < 32 then ly5 S (r + 2 + 1) m k d s 2 a else S) r 3 (nI (m + 1))
theorem kp_c1 {S : PSt} {r m p : Nat} {k d s a : Int32} (h : m < 32) : pSI (ly5 (tpS S r p) (r + 2 + 1) m k d s 2 a) r 3 (nI (m + 1)) = tpS (kpS S r m k d s a) r p := by
  unfold kpS
  rw [if_pos h]
  unfold tpS ly5 pSI pU
  refine Prod.ext (funext fun c => funext fun j => ?_) rfl
  dsimp only
  by_cases h1 : c = r
  · subst h1; (repeat' split) <;> first | rfl | (exfalso; omega)
  · have n1 : ∀ j9, ¬ (c = r ∧ j = j9) := fun j9 q => h1 q.1
    simp only [n1, if_false]
theorem kp_c2 {S : PSt} {r m p : Nat} {k d s a : Int32} (h : ¬ m < 32) : pSI (tpS S r p) r 3 (nI (m + 1)) = tpS (kpS S r m k d s a) r p := by
  unfold kpS
  rw [if_neg h]
  unfold tpS pSI pU
  refine Prod.ext (funext fun c => funext fun j => ?_) rfl
  dsimp only; (repeat' split) <;> first | rfl | (exfalso; omega)
set_option maxRecDepth 100000 in
theorem lp_X7_readAdorn {n0 : Nat} {X : Nat × (Nat → Int32)} {P : Option Value → PSt → Prop} {d : Nat} (hd9 : 2 ≤ d) {sh : List PSh} {S : PSt} {r z p : Nat} (hs : isTp sh r) (hz : S.1 r 1 = nI z) (hz1 : z ≤ 160) (hp : p ≤ z) (hex : pV mX7_readAdorn d n0 X sh P 33 [some (.ref r), some (.int (nI (adF (S.1 (r + 1)) z 9 p)))] [] (tpS S r (p + adF (S.1 (r + 1)) z 9 p))) : ∀ (m k : Nat), k + m = 9 → adF (S.1 (r + 1)) z 9 p = k + adF (S.1 (r + 1)) z m (p + k) → p + k ≤ z → pV mX7_readAdorn d n0 X sh P 2 [some (.ref r), some (.int (nI k))] [] (tpS S r (p + k)) := by
  intro m
  induction m with
  | zero =>
    intro k hk ha hpk
    have hk : k = 9 := by omega
    subst hk
    have ha : adF (S.1 (r + 1)) z 9 p = 9 := ha
    rw [ha] at hex
    refine q_iload_n (pc := 2) (j := 1) rfl rfl ?_
    refine q_bipush (pc := 3) 9 rfl (by decide) ?_
    exact q_icmp_ge (pc := 5) 33 rfl (by decide) (fun _ => hex) (fun h9 => absurd (Int32.le_refl _) h9)
  | succ m ih =>
    intro k hk ha hpk
    have hk1 : k < 9 := by omega
    refine q_iload_n (pc := 2) (j := 1) rfl rfl ?_
    refine q_bipush (pc := 3) 9 rfl (by decide) ?_
    refine q_icmp_ge (pc := 5) 33 rfl (by decide) (fun h9 => absurd h9 (nI_ge (b := 9) hk1 (by decide))) (fun _ => ?_)
    refine q_aload_n (pc := 8) (j := 0) rfl rfl ?_
    refine q_bipush (pc := 9) 39 rfl (by decide) ?_
    refine q_callV (pc := 11) (as := [.int 39]) (rest := []) (b := r) (st2 := [.int (pB (nxB (S.1 (r + 1)) z (p + k) 39))]) rfl ce_X7_isNext ml_X7_40 im_X7_isNext se_X7_isNext hs.1 rfl rfl rfl (by omega) (Nat.le_of_ble_eq_true rfl) (sp_X7_isNext (S := S) (z := z) (p := p + k) hs hz hz1 (by omega)) rfl ?_
    cases hb14 : (nxB (S.1 (r + 1)) z (p + k) 39) with
    | false =>
      refine q_if_eq (pc := 14) 33 rfl (by decide) (fun _ => ?_) (fun h9 => absurd (by decide : pB false = 0) h9)
      exact (by rw [ha, adF, if_neg (by rw [hb14]; decide)] at hex; exact hex)
    | true =>
      refine q_if_eq (pc := 14) 33 rfl (by decide) (fun h9 => absurd h9 (by decide : ¬ pB true = 0)) (fun _ => ?_)
      have hin := nx_in hb14
      refine q_iinc (pc := 17) (j := 1) (n := 1) (nI (k + 1)) [some (.ref r), some (.int (nI (k + 1)))] rfl (by decide) rfl (nI_1 k) rfl ?_
      refine q_aload_n (pc := 20) (j := 0) rfl rfl ?_
      refine q_dup (pc := 21) rfl rfl ?_
      refine q_get (pc := 22) (a := r) (v := .int ((tpS S r (p + k)).1 r 4)) rfl fl_X7_29 hs.1 rfl rfl ?_
      refine q_st (st2 := [.int (nI (p + k)), .ref r]) (by rw [show ((tpS S r (p + k)).1 r 4) = nI (p + k) from tp_p]) ?_
      refine q_iconst (pc := 25) 1 rfl (by decide) ?_
      refine q_iadd (pc := 26) rfl ?_
      refine q_st (st2 := [.int (nI (p + (k + 1))), .ref r]) (by rw [(show nI (p + k) + 1 = nI (p + (k + 1)) from nI_1 (p + k))]) ?_
      refine q_putI (pc := 27) (a := r) rfl fl_X7_29 hs.1 rfl (fun _ h9 => by cases h9; rfl) rfl rfl ?_
      refine q_S tp_s ?_
      refine q_goto (pc := 30) 2 rfl (by decide) ?_
      exact ih (k + 1) (by omega) (by rw [ha, adF, if_pos hb14, show p + k + 1 = p + (k + 1) from rfl]; omega) (by omega)
set_option maxRecDepth 100000 in
theorem sp_X7_readAdorn {sh : List PSh} {S : PSt} {r z p : Nat} (hs : isTp sh r) (hz : S.1 r 1 = nI z) (hz1 : z ≤ 160) (hp : p ≤ z)  : pF mX7_readAdorn 2 [.ref r] sh (tpS S r p) (tpS S r (p + adF (S.1 (r + 1)) z 9 p)) (some (.int (nI (adF (S.1 (r + 1)) z 9 p)))) := by
  refine pF.of (pG.of [some (.ref r), none] (by decide) tk_X7_readAdorn (Nat.le_of_ble_eq_true rfl) rfl (fun X => ?_))
  refine q_iconst (pc := 0) 0 rfl (by decide) ?_
  refine q_istore_n (pc := 1) (j := 1) [some (.ref r), some (.int 0)] rfl (by decide) rfl ?_
  refine lp_X7_readAdorn (by decide) hs hz hz1 hp ?_ 9 0 rfl (Nat.zero_add _).symm hp
  refine q_iload_n (pc := 33) (j := 1) rfl rfl ?_
  exact q_iret (pc := 34) rfl rfl ⟨rfl, rfl⟩
set_option maxRecDepth 100000 in
theorem sp_X7_keep {sh : List PSh} {S : PSt} {r m p : Nat} {k d s a : Int32} (hs : isTp sh r) (hm : S.1 r 3 = nI m) (hm2 : m < 1000) : pF mX7_keep 2 [.ref r, .int k, .int d, .int s, .int a] sh (tpS S r p) (tpS (kpS S r m k d s a) r p) (none) := by
  have hm1 : (tpS S r p).1 r 3 = nI m := (tp_z (by decide)).trans hm
  refine pF.of (pG.of [some (.ref r), some (.int k), some (.int d), some (.int s), some (.int a)] (by decide) tk_X7_keep (Nat.le_of_ble_eq_true rfl) rfl (fun X => ?_))
  refine q_aload_n (pc := 0) (j := 0) rfl rfl ?_
  refine q_get (pc := 1) (a := r) (v := .int ((tpS S r p).1 r 3)) rfl fl_X7_26 hs.1 rfl rfl ?_
  refine q_st (st2 := [.int (nI m)]) (by rw [show ((tpS S r p).1 r 3) = nI m from hm1]) ?_
  refine q_bipush (pc := 4) 32 rfl (by decide) ?_
  refine q_icmp_ge (pc := 6) 26 rfl (by decide) (fun h6 => ?_) (fun h6 => ?_)
  · have hml : ¬ m < 32 := by have := (nI_leI (a := 32) (b := m) (by omega) (by omega)).mp h6; omega
    refine q_aload_n (pc := 26) (j := 0) rfl rfl ?_
    refine q_dup (pc := 27) rfl rfl ?_
    refine q_get (pc := 28) (a := r) (v := .int ((tpS S r p).1 r 3)) rfl fl_X7_26 hs.1 rfl rfl ?_
    refine q_st (st2 := [.int (nI m), .ref r]) (by rw [show ((tpS S r p).1 r 3) = nI m from hm1]) ?_
    refine q_iconst (pc := 31) 1 rfl (by decide) ?_
    refine q_iadd (pc := 32) rfl ?_
    refine q_st (st2 := [.int (nI (m + 1)), .ref r]) (by rw [nI_1 m]) ?_
    refine q_putI (pc := 33) (a := r) rfl fl_X7_26 hs.1 rfl (fun _ h9 => by cases h9; rfl) rfl rfl ?_
    exact q_vret (pc := 36) rfl rfl ⟨rfl, by first | exact kp_c1 hml | exact kp_c2 hml⟩
  · have hml : m < 32 := by have := mt (nI_leI (a := 32) (b := m) (by omega) (by omega)).mpr h6; omega
    refine q_aload_n (pc := 9) (j := 0) rfl rfl ?_
    refine q_get (pc := 10) (a := r) (v := .ref (r + 2)) rfl fl_X7_22 hs.1 rfl rfl ?_
    refine q_aload_n (pc := 13) (j := 0) rfl rfl ?_
    refine q_get (pc := 14) (a := r) (v := .int ((tpS S r p).1 r 3)) rfl fl_X7_26 hs.1 rfl rfl ?_
    refine q_st (st2 := [.int (nI m), .ref (r + 2)]) (by rw [show ((tpS S r p).1 r 3) = nI m from hm1]) ?_
    refine q_iload_n (pc := 17) (j := 1) rfl rfl ?_
    refine q_iload_n (pc := 18) (j := 2) rfl rfl ?_
    refine q_iload_n (pc := 19) (j := 3) rfl rfl ?_
    refine q_iconst (pc := 20) 2 rfl (by decide) ?_
    refine q_iload (pc := 21) (j := 4) rfl rfl ?_
    refine q_callV (pc := 23) (as := [.int (nI m), .int k, .int d, .int s, .int 2, .int a]) (rest := []) (b := (r + 2)) (st2 := []) rfl ce_X4_lay ml_X7_63 im_X4_lay se_X4_lay hs.2.2.1 rfl rfl rfl (by decide) (Nat.le_of_ble_eq_true rfl) (sp_X4_lay (c := m) hs.2.2 (by omega)) rfl ?_
    refine q_aload_n (pc := 26) (j := 0) rfl rfl ?_
    refine q_dup (pc := 27) rfl rfl ?_
    refine q_get (pc := 28) (a := r) (v := .int ((ly5 (tpS S r p) ((r + 2) + 1) m k d s 2 a).1 r 3)) rfl fl_X7_26 hs.1 rfl rfl ?_
    refine q_st (st2 := [.int (nI m), .ref r]) (by rw [show ((ly5 (tpS S r p) ((r + 2) + 1) m k d s 2 a).1 r 3) = nI m from (by rw [ly5_o (by omega)]; exact hm1)]) ?_
    refine q_iconst (pc := 31) 1 rfl (by decide) ?_
    refine q_iadd (pc := 32) rfl ?_
    refine q_st (st2 := [.int (nI (m + 1)), .ref r]) (by rw [nI_1 m]) ?_
    refine q_putI (pc := 33) (a := r) rfl fl_X7_26 hs.1 rfl (fun _ h9 => by cases h9; rfl) rfl rfl ?_
    exact q_vret (pc := 36) rfl rfl ⟨rfl, by first | exact kp_c1 hml | exact kp_c2 hml⟩
/-- a sign of a text, from the place p on: kind, duration, step, the place behind; or the place of the fault -/
def sgF (b : Nat → Int32) (z p : Nat) : (Int32 × Int32 × Int32 × Nat) ⊕ Nat :=
  if nxB b z p 110 = true then
    (if (numF b z 1 64 (p + 1)).1 = -1 then .inr (numF b z 1 64 (p + 1)).2
     else if nxB b z (numF b z 1 64 (p + 1)).2 43 = true then
       (if (numF b z 0 20 ((numF b z 1 64 (p + 1)).2 + 1)).1 = -1 then .inr (numF b z 0 20 ((numF b z 1 64 (p + 1)).2 + 1)).2 else .inl (0, (numF b z 1 64 (p + 1)).1, (numF b z 0 20 ((numF b z 1 64 (p + 1)).2 + 1)).1, (numF b z 0 20 ((numF b z 1 64 (p + 1)).2 + 1)).2))
     else if nxB b z (numF b z 1 64 (p + 1)).2 45 = true then
       (if (numF b z 1 12 ((numF b z 1 64 (p + 1)).2 + 1)).1 = -1 then .inr (numF b z 1 12 ((numF b z 1 64 (p + 1)).2 + 1)).2 else .inl (0, (numF b z 1 64 (p + 1)).1, 0 - (numF b z 1 12 ((numF b z 1 64 (p + 1)).2 + 1)).1, (numF b z 1 12 ((numF b z 1 64 (p + 1)).2 + 1)).2))
     else .inl (0, (numF b z 1 64 (p + 1)).1, 0, (numF b z 1 64 (p + 1)).2))
  else if nxB b z p 114 = true then
    (if (numF b z 1 64 (p + 1)).1 = -1 then .inr (numF b z 1 64 (p + 1)).2 else .inl (1, (numF b z 1 64 (p + 1)).1, 0, (numF b z 1 64 (p + 1)).2))
  else if nxB b z p 98 = true then .inl (2, 1, 0, p + 1)
  else .inr p
def sgnS (S : PSt) (r z m p : Nat) : Int32 × PSt := match sgF (S.1 (r + 1)) z p with
  | .inr f => (0, tpS S r f)
  | .inl q => (1, tpS (kpS S r m q.1 q.2.1 q.2.2.1 (nI (adF (S.1 (r + 1)) z 9 q.2.2.2))) r (q.2.2.2 + adF (S.1 (r + 1)) z 9 q.2.2.2))
set_option maxRecDepth 100000 in
set_option maxHeartbeats 1000000 in
theorem sp_X7_readSign {sh : List PSh} {S : PSt} {r z p m : Nat} (hs : isTp sh r) (hz : S.1 r 1 = nI z) (hz1 : z ≤ 160) (hp : p ≤ 160) (hm : S.1 r 3 = nI m) (hm2 : m < 1000)  : pF mX7_readSign 4 [.ref r] sh (tpS S r p) ((sgnS S r z m p).2) (some (.int (sgnS S r z m p).1)) := by
  refine pF.of (pG.of [some (.ref r), none, none, none, none, none] (by decide) tk_X7_readSign (Nat.le_of_ble_eq_true rfl) rfl (fun X => ?_))
  refine q_aload_n (pc := 0) (j := 0) rfl rfl ?_
  refine q_bipush (pc := 1) 110 rfl (by decide) ?_
  refine q_callV (pc := 3) (as := [.int 110]) (rest := []) (b := r) (st2 := [.int (pB (nxB (S.1 (r + 1)) z p 110))]) rfl ce_X7_isNext ml_X7_40 im_X7_isNext se_X7_isNext hs.1 rfl rfl rfl (by decide) (Nat.le_of_ble_eq_true rfl) (sp_X7_isNext (S := S) (z := z) (p := p) hs hz hz1 (by omega)) rfl ?_
  cases hb6 : (nxB (S.1 (r + 1)) z p 110) with
  | false =>
    refine q_if_eq (pc := 6) 13 rfl (by decide) (fun _ => ?_) (fun h9 => absurd (by decide : pB false = 0) h9)
    refine q_aload_n (pc := 13) (j := 0) rfl rfl ?_
    refine q_bipush (pc := 14) 114 rfl (by decide) ?_
    refine q_callV (pc := 16) (as := [.int 114]) (rest := []) (b := r) (st2 := [.int (pB (nxB (S.1 (r + 1)) z p 114))]) rfl ce_X7_isNext ml_X7_40 im_X7_isNext se_X7_isNext hs.1 rfl rfl rfl (by decide) (Nat.le_of_ble_eq_true rfl) (sp_X7_isNext (S := S) (z := z) (p := p) hs hz hz1 (by omega)) rfl ?_
    cases hb19 : (nxB (S.1 (r + 1)) z p 114) with
    | false =>
      refine q_if_eq (pc := 19) 26 rfl (by decide) (fun _ => ?_) (fun h9 => absurd (by decide : pB false = 0) h9)
      refine q_aload_n (pc := 26) (j := 0) rfl rfl ?_
      refine q_bipush (pc := 27) 98 rfl (by decide) ?_
      refine q_callV (pc := 29) (as := [.int 98]) (rest := []) (b := r) (st2 := [.int (pB (nxB (S.1 (r + 1)) z p 98))]) rfl ce_X7_isNext ml_X7_40 im_X7_isNext se_X7_isNext hs.1 rfl rfl rfl (by decide) (Nat.le_of_ble_eq_true rfl) (sp_X7_isNext (S := S) (z := z) (p := p) hs hz hz1 (by omega)) rfl ?_
      cases hb32 : (nxB (S.1 (r + 1)) z p 98) with
      | false =>
        refine q_if_eq (pc := 32) 39 rfl (by decide) (fun _ => ?_) (fun h9 => absurd (by decide : pB false = 0) h9)
        refine q_iconst (pc := 39) (-1) rfl (by decide) ?_
        refine q_istore_n (pc := 40) (j := 1) [some (.ref r), some (.int (-1)), none, none, none, none] rfl (by decide) rfl ?_
        refine q_iload_n (pc := 41) (j := 1) rfl rfl ?_
        refine q_iconst (pc := 42) (-1) rfl (by decide) ?_
        refine q_icmp_ne (pc := 43) 48 rfl (by decide) (fun h9 => absurd h9 (by decide : ¬ ¬ (-1 : Int32) = -1)) (fun _ => ?_)
        refine q_iconst (pc := 46) 0 rfl (by decide) ?_
        exact q_zret (pc := 47) rfl rfl rfl (by have hsg : sgF (S.1 (r + 1)) z p = .inr p := (by simp [sgF, hb6, hb19, hb32]); exact ⟨by rw [sgnS, hsg], by rw [sgnS, hsg]⟩)
      | true =>
        refine q_if_eq (pc := 32) 39 rfl (by decide) (fun h9 => absurd h9 (by decide : ¬ pB true = 0)) (fun _ => ?_)
        have hin := nx_in hb32
        refine q_iconst (pc := 35) 2 rfl (by decide) ?_
        refine q_goto (pc := 36) 40 rfl (by decide) ?_
        refine q_istore_n (pc := 40) (j := 1) [some (.ref r), some (.int 2), none, none, none, none] rfl (by decide) rfl ?_
        refine q_iload_n (pc := 41) (j := 1) rfl rfl ?_
        refine q_iconst (pc := 42) (-1) rfl (by decide) ?_
        refine q_icmp_ne (pc := 43) 48 rfl (by decide) (fun _ => ?_) (fun h9 => absurd h9 (by decide : 2 = (-1 : Int32) → False))
        refine q_aload_n (pc := 48) (j := 0) rfl rfl ?_
        refine q_dup (pc := 49) rfl rfl ?_
        refine q_get (pc := 50) (a := r) (v := .int ((tpS S r p).1 r 4)) rfl fl_X7_29 hs.1 rfl rfl ?_
        refine q_st (st2 := [.int (nI p), .ref r]) (by rw [show ((tpS S r p).1 r 4) = nI p from tp_p]) ?_
        refine q_iconst (pc := 53) 1 rfl (by decide) ?_
        refine q_iadd (pc := 54) rfl ?_
        refine q_st (st2 := [.int (nI (p + 1)), .ref r]) (by rw [nI_1 p]) ?_
        refine q_putI (pc := 55) (a := r) rfl fl_X7_29 hs.1 rfl (fun _ h9 => by cases h9; rfl) rfl rfl ?_
        refine q_S tp_s ?_
        refine q_iload_n (pc := 58) (j := 1) rfl rfl ?_
        refine q_iconst (pc := 59) 2 rfl (by decide) ?_
        refine q_icmp_ne (pc := 60) 67 rfl (by decide) (fun h9 => absurd h9 (by decide : ¬ ¬ (2 : Int32) = 2)) (fun _ => ?_)
        refine q_iconst (pc := 63) 1 rfl (by decide) ?_
        refine q_goto (pc := 64) 74 rfl (by decide) ?_
        refine q_istore_n (pc := 74) (j := 2) [some (.ref r), some (.int 2), some (.int 1), none, none, none] rfl (by decide) rfl ?_
        refine q_iload_n (pc := 75) (j := 2) rfl rfl ?_
        refine q_iconst (pc := 76) (-1) rfl (by decide) ?_
        refine q_icmp_ne (pc := 77) 82 rfl (by decide) (fun _ => ?_) (fun h9 => absurd h9 (by decide : (1 : Int32) = -1 → False))
        refine q_iconst (pc := 82) 0 rfl (by decide) ?_
        refine q_istore_n (pc := 83) (j := 3) [some (.ref r), some (.int 2), some (.int 1), some (.int 0), none, none] rfl (by decide) rfl ?_
        refine q_iload_n (pc := 84) (j := 1) rfl rfl ?_
        refine q_if_ne (pc := 85) 171 rfl (by decide) (fun _ => ?_) (fun h9 => absurd h9 (by decide : (2 : Int32) = 0 → False))
        refine q_aload_n (pc := 171) (j := 0) rfl rfl ?_
        refine q_iload_n (pc := 172) (j := 1) rfl rfl ?_
        refine q_iload_n (pc := 173) (j := 2) rfl rfl ?_
        refine q_iload_n (pc := 174) (j := 3) rfl rfl ?_
        refine q_aload_n (pc := 175) (j := 0) rfl rfl ?_
        refine q_callV (pc := 176) (as := []) (rest := [.int 0, .int 1, .int 2, .ref r]) (b := r) (st2 := [.int (nI (adF (S.1 (r + 1)) z 9 (p + 1))), .int 0, .int 1, .int 2, .ref r]) rfl ce_X7_readAdorn ml_X7_52 im_X7_readAdorn se_X7_readAdorn hs.1 rfl rfl rfl (by decide) (Nat.le_of_ble_eq_true rfl) (sp_X7_readAdorn (S := S) (z := z) (p := (p + 1)) hs hz hz1 (by omega)) rfl ?_
        refine q_callV (pc := 179) (as := [.int 2, .int 1, .int 0, .int (nI (adF (S.1 (r + 1)) z 9 (p + 1)))]) (rest := []) (b := r) (st2 := []) rfl ce_X7_keep ml_X7_56 im_X7_keep se_X7_keep hs.1 rfl rfl rfl (by decide) (Nat.le_of_ble_eq_true rfl) (sp_X7_keep (S := S) (m := m) (p := ((p + 1) + adF (S.1 (r + 1)) z 9 (p + 1))) hs hm hm2) rfl ?_
        refine q_iconst (pc := 182) 1 rfl (by decide) ?_
        exact q_zret (pc := 183) rfl rfl rfl (by have hsg : sgF (S.1 (r + 1)) z p = .inl (2, 1, 0, (p + 1)) := (by simp [sgF, hb6, hb19, hb32]); exact ⟨by rw [sgnS, hsg], by rw [sgnS, hsg]⟩)
    | true =>
      refine q_if_eq (pc := 19) 26 rfl (by decide) (fun h9 => absurd h9 (by decide : ¬ pB true = 0)) (fun _ => ?_)
      have hin := nx_in hb19
      refine q_iconst (pc := 22) 1 rfl (by decide) ?_
      refine q_goto (pc := 23) 40 rfl (by decide) ?_
      refine q_istore_n (pc := 40) (j := 1) [some (.ref r), some (.int 1), none, none, none, none] rfl (by decide) rfl ?_
      refine q_iload_n (pc := 41) (j := 1) rfl rfl ?_
      refine q_iconst (pc := 42) (-1) rfl (by decide) ?_
      refine q_icmp_ne (pc := 43) 48 rfl (by decide) (fun _ => ?_) (fun h9 => absurd h9 (by decide : 1 = (-1 : Int32) → False))
      refine q_aload_n (pc := 48) (j := 0) rfl rfl ?_
      refine q_dup (pc := 49) rfl rfl ?_
      refine q_get (pc := 50) (a := r) (v := .int ((tpS S r p).1 r 4)) rfl fl_X7_29 hs.1 rfl rfl ?_
      refine q_st (st2 := [.int (nI p), .ref r]) (by rw [show ((tpS S r p).1 r 4) = nI p from tp_p]) ?_
      refine q_iconst (pc := 53) 1 rfl (by decide) ?_
      refine q_iadd (pc := 54) rfl ?_
      refine q_st (st2 := [.int (nI (p + 1)), .ref r]) (by rw [nI_1 p]) ?_
      refine q_putI (pc := 55) (a := r) rfl fl_X7_29 hs.1 rfl (fun _ h9 => by cases h9; rfl) rfl rfl ?_
      refine q_S tp_s ?_
      refine q_iload_n (pc := 58) (j := 1) rfl rfl ?_
      refine q_iconst (pc := 59) 2 rfl (by decide) ?_
      refine q_icmp_ne (pc := 60) 67 rfl (by decide) (fun _ => ?_) (fun h9 => absurd h9 (by decide : 1 = (2 : Int32) → False))
      refine q_aload_n (pc := 67) (j := 0) rfl rfl ?_
      refine q_iconst (pc := 68) 1 rfl (by decide) ?_
      refine q_bipush (pc := 69) 64 rfl (by decide) ?_
      refine q_callV (pc := 71) (as := [.int 1, .int 64]) (rest := []) (b := r) (st2 := [.int ((numF (S.1 (r + 1)) z 1 64 (p + 1)).1)]) rfl ce_X7_readNumber ml_X7_48 im_X7_readNumber se_X7_readNumber hs.1 rfl rfl rfl (by decide) (Nat.le_of_ble_eq_true rfl) (sp_X7_readNumber (S := S) (z := z) (p := (p + 1)) hs hz hz1 (by omega)) rfl ?_
      refine q_istore_n (pc := 74) (j := 2) [some (.ref r), some (.int 1), some (.int ((numF (S.1 (r + 1)) z 1 64 (p + 1)).1)), none, none, none] rfl (by decide) rfl ?_
      refine q_iload_n (pc := 75) (j := 2) rfl rfl ?_
      refine q_iconst (pc := 76) (-1) rfl (by decide) ?_
      refine q_icmp_ne (pc := 77) 82 rfl (by decide) (fun h77 => ?_) (fun h77 => ?_)
      · refine q_iconst (pc := 82) 0 rfl (by decide) ?_
        refine q_istore_n (pc := 83) (j := 3) [some (.ref r), some (.int 1), some (.int ((numF (S.1 (r + 1)) z 1 64 (p + 1)).1)), some (.int 0), none, none] rfl (by decide) rfl ?_
        refine q_iload_n (pc := 84) (j := 1) rfl rfl ?_
        refine q_if_ne (pc := 85) 171 rfl (by decide) (fun _ => ?_) (fun h9 => absurd h9 (by decide : (1 : Int32) = 0 → False))
        refine q_aload_n (pc := 171) (j := 0) rfl rfl ?_
        refine q_iload_n (pc := 172) (j := 1) rfl rfl ?_
        refine q_iload_n (pc := 173) (j := 2) rfl rfl ?_
        refine q_iload_n (pc := 174) (j := 3) rfl rfl ?_
        refine q_aload_n (pc := 175) (j := 0) rfl rfl ?_
        refine q_callV (pc := 176) (as := []) (rest := [.int 0, .int ((numF (S.1 (r + 1)) z 1 64 (p + 1)).1), .int 1, .ref r]) (b := r) (st2 := [.int (nI (adF (S.1 (r + 1)) z 9 (numF (S.1 (r + 1)) z 1 64 (p + 1)).2)), .int 0, .int ((numF (S.1 (r + 1)) z 1 64 (p + 1)).1), .int 1, .ref r]) rfl ce_X7_readAdorn ml_X7_52 im_X7_readAdorn se_X7_readAdorn hs.1 rfl rfl rfl (by decide) (Nat.le_of_ble_eq_true rfl) (sp_X7_readAdorn (S := S) (z := z) (p := (numF (S.1 (r + 1)) z 1 64 (p + 1)).2) hs hz hz1 (numF_le (by omega))) rfl ?_
        refine q_callV (pc := 179) (as := [.int 1, .int ((numF (S.1 (r + 1)) z 1 64 (p + 1)).1), .int 0, .int (nI (adF (S.1 (r + 1)) z 9 (numF (S.1 (r + 1)) z 1 64 (p + 1)).2))]) (rest := []) (b := r) (st2 := []) rfl ce_X7_keep ml_X7_56 im_X7_keep se_X7_keep hs.1 rfl rfl rfl (by decide) (Nat.le_of_ble_eq_true rfl) (sp_X7_keep (S := S) (m := m) (p := ((numF (S.1 (r + 1)) z 1 64 (p + 1)).2 + adF (S.1 (r + 1)) z 9 (numF (S.1 (r + 1)) z 1 64 (p + 1)).2)) hs hm hm2) rfl ?_
        refine q_iconst (pc := 182) 1 rfl (by decide) ?_
        exact q_zret (pc := 183) rfl rfl rfl (by have hsg : sgF (S.1 (r + 1)) z p = .inl (1, ((numF (S.1 (r + 1)) z 1 64 (p + 1)).1), 0, (numF (S.1 (r + 1)) z 1 64 (p + 1)).2) := (by simp [sgF, hb6, hb19, h77]); exact ⟨by rw [sgnS, hsg], by rw [sgnS, hsg]⟩)
      · refine q_iconst (pc := 80) 0 rfl (by decide) ?_
        exact q_zret (pc := 81) rfl rfl rfl (by have hsg : sgF (S.1 (r + 1)) z p = .inr (numF (S.1 (r + 1)) z 1 64 (p + 1)).2 := (by simp [sgF, hb6, hb19, h77]); exact ⟨by rw [sgnS, hsg], by rw [sgnS, hsg]⟩)
  | true =>
    refine q_if_eq (pc := 6) 13 rfl (by decide) (fun h9 => absurd h9 (by decide : ¬ pB true = 0)) (fun _ => ?_)
    have hin := nx_in hb6
    refine q_iconst (pc := 9) 0 rfl (by decide) ?_
    refine q_goto (pc := 10) 40 rfl (by decide) ?_
    refine q_istore_n (pc := 40) (j := 1) [some (.ref r), some (.int 0), none, none, none, none] rfl (by decide) rfl ?_
    refine q_iload_n (pc := 41) (j := 1) rfl rfl ?_
    refine q_iconst (pc := 42) (-1) rfl (by decide) ?_
    refine q_icmp_ne (pc := 43) 48 rfl (by decide) (fun _ => ?_) (fun h9 => absurd h9 (by decide : 0 = (-1 : Int32) → False))
    refine q_aload_n (pc := 48) (j := 0) rfl rfl ?_
    refine q_dup (pc := 49) rfl rfl ?_
    refine q_get (pc := 50) (a := r) (v := .int ((tpS S r p).1 r 4)) rfl fl_X7_29 hs.1 rfl rfl ?_
    refine q_st (st2 := [.int (nI p), .ref r]) (by rw [show ((tpS S r p).1 r 4) = nI p from tp_p]) ?_
    refine q_iconst (pc := 53) 1 rfl (by decide) ?_
    refine q_iadd (pc := 54) rfl ?_
    refine q_st (st2 := [.int (nI (p + 1)), .ref r]) (by rw [nI_1 p]) ?_
    refine q_putI (pc := 55) (a := r) rfl fl_X7_29 hs.1 rfl (fun _ h9 => by cases h9; rfl) rfl rfl ?_
    refine q_S tp_s ?_
    refine q_iload_n (pc := 58) (j := 1) rfl rfl ?_
    refine q_iconst (pc := 59) 2 rfl (by decide) ?_
    refine q_icmp_ne (pc := 60) 67 rfl (by decide) (fun _ => ?_) (fun h9 => absurd h9 (by decide : 0 = (2 : Int32) → False))
    refine q_aload_n (pc := 67) (j := 0) rfl rfl ?_
    refine q_iconst (pc := 68) 1 rfl (by decide) ?_
    refine q_bipush (pc := 69) 64 rfl (by decide) ?_
    refine q_callV (pc := 71) (as := [.int 1, .int 64]) (rest := []) (b := r) (st2 := [.int ((numF (S.1 (r + 1)) z 1 64 (p + 1)).1)]) rfl ce_X7_readNumber ml_X7_48 im_X7_readNumber se_X7_readNumber hs.1 rfl rfl rfl (by decide) (Nat.le_of_ble_eq_true rfl) (sp_X7_readNumber (S := S) (z := z) (p := (p + 1)) hs hz hz1 (by omega)) rfl ?_
    refine q_istore_n (pc := 74) (j := 2) [some (.ref r), some (.int 0), some (.int ((numF (S.1 (r + 1)) z 1 64 (p + 1)).1)), none, none, none] rfl (by decide) rfl ?_
    refine q_iload_n (pc := 75) (j := 2) rfl rfl ?_
    refine q_iconst (pc := 76) (-1) rfl (by decide) ?_
    refine q_icmp_ne (pc := 77) 82 rfl (by decide) (fun h77 => ?_) (fun h77 => ?_)
    · refine q_iconst (pc := 82) 0 rfl (by decide) ?_
      refine q_istore_n (pc := 83) (j := 3) [some (.ref r), some (.int 0), some (.int ((numF (S.1 (r + 1)) z 1 64 (p + 1)).1)), some (.int 0), none, none] rfl (by decide) rfl ?_
      refine q_iload_n (pc := 84) (j := 1) rfl rfl ?_
      refine q_if_ne (pc := 85) 171 rfl (by decide) (fun h9 => absurd h9 (by decide : ¬ ¬ (0 : Int32) = 0)) (fun _ => ?_)
      have hle := numF_le (b := S.1 (r + 1)) (z := z) (least := 1) (most := 64) (p := p + 1) (by omega)
      refine q_aload_n (pc := 88) (j := 0) rfl rfl ?_
      refine q_bipush (pc := 89) 43 rfl (by decide) ?_
      refine q_callV (pc := 91) (as := [.int 43]) (rest := []) (b := r) (st2 := [.int (pB (nxB (S.1 (r + 1)) z (numF (S.1 (r + 1)) z 1 64 (p + 1)).2 43))]) rfl ce_X7_isNext ml_X7_40 im_X7_isNext se_X7_isNext hs.1 rfl rfl rfl (by decide) (Nat.le_of_ble_eq_true rfl) (sp_X7_isNext (S := S) (z := z) (p := (numF (S.1 (r + 1)) z 1 64 (p + 1)).2) hs hz hz1 (by omega)) rfl ?_
      cases hb94 : (nxB (S.1 (r + 1)) z (numF (S.1 (r + 1)) z 1 64 (p + 1)).2 43) with
      | false =>
        refine q_if_ne (pc := 94) 106 rfl (by decide) (fun h9 => absurd (by decide : pB false = 0) h9) (fun _ => ?_)
        refine q_aload_n (pc := 97) (j := 0) rfl rfl ?_
        refine q_bipush (pc := 98) 45 rfl (by decide) ?_
        refine q_callV (pc := 100) (as := [.int 45]) (rest := []) (b := r) (st2 := [.int (pB (nxB (S.1 (r + 1)) z (numF (S.1 (r + 1)) z 1 64 (p + 1)).2 45))]) rfl ce_X7_isNext ml_X7_40 im_X7_isNext se_X7_isNext hs.1 rfl rfl rfl (by decide) (Nat.le_of_ble_eq_true rfl) (sp_X7_isNext (S := S) (z := z) (p := (numF (S.1 (r + 1)) z 1 64 (p + 1)).2) hs hz hz1 (by omega)) rfl ?_
        cases hb103 : (nxB (S.1 (r + 1)) z (numF (S.1 (r + 1)) z 1 64 (p + 1)).2 45) with
        | false =>
          refine q_if_eq (pc := 103) 171 rfl (by decide) (fun _ => ?_) (fun h9 => absurd (by decide : pB false = 0) h9)
          refine q_aload_n (pc := 171) (j := 0) rfl rfl ?_
          refine q_iload_n (pc := 172) (j := 1) rfl rfl ?_
          refine q_iload_n (pc := 173) (j := 2) rfl rfl ?_
          refine q_iload_n (pc := 174) (j := 3) rfl rfl ?_
          refine q_aload_n (pc := 175) (j := 0) rfl rfl ?_
          refine q_callV (pc := 176) (as := []) (rest := [.int 0, .int ((numF (S.1 (r + 1)) z 1 64 (p + 1)).1), .int 0, .ref r]) (b := r) (st2 := [.int (nI (adF (S.1 (r + 1)) z 9 (numF (S.1 (r + 1)) z 1 64 (p + 1)).2)), .int 0, .int ((numF (S.1 (r + 1)) z 1 64 (p + 1)).1), .int 0, .ref r]) rfl ce_X7_readAdorn ml_X7_52 im_X7_readAdorn se_X7_readAdorn hs.1 rfl rfl rfl (by decide) (Nat.le_of_ble_eq_true rfl) (sp_X7_readAdorn (S := S) (z := z) (p := (numF (S.1 (r + 1)) z 1 64 (p + 1)).2) hs hz hz1 (numF_le (by omega))) rfl ?_
          refine q_callV (pc := 179) (as := [.int 0, .int ((numF (S.1 (r + 1)) z 1 64 (p + 1)).1), .int 0, .int (nI (adF (S.1 (r + 1)) z 9 (numF (S.1 (r + 1)) z 1 64 (p + 1)).2))]) (rest := []) (b := r) (st2 := []) rfl ce_X7_keep ml_X7_56 im_X7_keep se_X7_keep hs.1 rfl rfl rfl (by decide) (Nat.le_of_ble_eq_true rfl) (sp_X7_keep (S := S) (m := m) (p := ((numF (S.1 (r + 1)) z 1 64 (p + 1)).2 + adF (S.1 (r + 1)) z 9 (numF (S.1 (r + 1)) z 1 64 (p + 1)).2)) hs hm hm2) rfl ?_
          refine q_iconst (pc := 182) 1 rfl (by decide) ?_
          exact q_zret (pc := 183) rfl rfl rfl (by have hsg : sgF (S.1 (r + 1)) z p = .inl (0, ((numF (S.1 (r + 1)) z 1 64 (p + 1)).1), 0, (numF (S.1 (r + 1)) z 1 64 (p + 1)).2) := (by simp [sgF, hb6, h77, hb94, hb103]); exact ⟨by rw [sgnS, hsg], by rw [sgnS, hsg]⟩)
        | true =>
          refine q_if_eq (pc := 103) 171 rfl (by decide) (fun h9 => absurd h9 (by decide : ¬ pB true = 0)) (fun _ => ?_)
          have hin2 := nx_in hb103
          refine q_aload_n (pc := 106) (j := 0) rfl rfl ?_
          refine q_bipush (pc := 107) 43 rfl (by decide) ?_
          refine q_callV (pc := 109) (as := [.int 43]) (rest := []) (b := r) (st2 := [.int (pB (nxB (S.1 (r + 1)) z (numF (S.1 (r + 1)) z 1 64 (p + 1)).2 43))]) rfl ce_X7_isNext ml_X7_40 im_X7_isNext se_X7_isNext hs.1 rfl rfl rfl (by decide) (Nat.le_of_ble_eq_true rfl) (sp_X7_isNext (S := S) (z := z) (p := (numF (S.1 (r + 1)) z 1 64 (p + 1)).2) hs hz hz1 (by omega)) rfl ?_
          refine q_istore (pc := 112) (j := 4) [some (.ref r), some (.int 0), some (.int ((numF (S.1 (r + 1)) z 1 64 (p + 1)).1)), some (.int 0), some (.int (pB (nxB (S.1 (r + 1)) z (numF (S.1 (r + 1)) z 1 64 (p + 1)).2 43))), none] rfl (by decide) rfl ?_
          refine q_aload_n (pc := 114) (j := 0) rfl rfl ?_
          refine q_dup (pc := 115) rfl rfl ?_
          refine q_get (pc := 116) (a := r) (v := .int ((tpS S r (numF (S.1 (r + 1)) z 1 64 (p + 1)).2).1 r 4)) rfl fl_X7_29 hs.1 rfl rfl ?_
          refine q_st (st2 := [.int (nI (numF (S.1 (r + 1)) z 1 64 (p + 1)).2), .ref r]) (by rw [show ((tpS S r (numF (S.1 (r + 1)) z 1 64 (p + 1)).2).1 r 4) = nI (numF (S.1 (r + 1)) z 1 64 (p + 1)).2 from tp_p]) ?_
          refine q_iconst (pc := 119) 1 rfl (by decide) ?_
          refine q_iadd (pc := 120) rfl ?_
          refine q_st (st2 := [.int (nI ((numF (S.1 (r + 1)) z 1 64 (p + 1)).2 + 1)), .ref r]) (by rw [nI_1 (numF (S.1 (r + 1)) z 1 64 (p + 1)).2]) ?_
          refine q_putI (pc := 121) (a := r) rfl fl_X7_29 hs.1 rfl (fun _ h9 => by cases h9; rfl) rfl rfl ?_
          refine q_S tp_s ?_
          refine q_iload (pc := 124) (j := 4) rfl rfl ?_
          refine q_if_eq (pc := 126) 139 rfl (by decide) (fun _ => ?_) (fun h9 => absurd (by rw [hb94]; decide) h9)
          refine q_aload_n (pc := 139) (j := 0) rfl rfl ?_
          refine q_iconst (pc := 140) 1 rfl (by decide) ?_
          refine q_bipush (pc := 141) 12 rfl (by decide) ?_
          refine q_callV (pc := 143) (as := [.int 1, .int 12]) (rest := []) (b := r) (st2 := [.int ((numF (S.1 (r + 1)) z 1 12 ((numF (S.1 (r + 1)) z 1 64 (p + 1)).2 + 1)).1)]) rfl ce_X7_readNumber ml_X7_48 im_X7_readNumber se_X7_readNumber hs.1 rfl rfl rfl (by decide) (Nat.le_of_ble_eq_true rfl) (sp_X7_readNumber (S := S) (z := z) (p := ((numF (S.1 (r + 1)) z 1 64 (p + 1)).2 + 1)) hs hz hz1 (by omega)) rfl ?_
          refine q_istore (pc := 146) (j := 5) [some (.ref r), some (.int 0), some (.int ((numF (S.1 (r + 1)) z 1 64 (p + 1)).1)), some (.int 0), some (.int (pB (nxB (S.1 (r + 1)) z (numF (S.1 (r + 1)) z 1 64 (p + 1)).2 43))), some (.int ((numF (S.1 (r + 1)) z 1 12 ((numF (S.1 (r + 1)) z 1 64 (p + 1)).2 + 1)).1))] rfl (by decide) rfl ?_
          refine q_iload (pc := 148) (j := 5) rfl rfl ?_
          refine q_iconst (pc := 150) (-1) rfl (by decide) ?_
          refine q_icmp_ne (pc := 151) 156 rfl (by decide) (fun h151 => ?_) (fun h151 => ?_)
          · refine q_iload (pc := 156) (j := 4) rfl rfl ?_
            refine q_if_eq (pc := 158) 166 rfl (by decide) (fun _ => ?_) (fun h9 => absurd (by rw [hb94]; decide) h9)
            refine q_iconst (pc := 166) 0 rfl (by decide) ?_
            refine q_iload (pc := 167) (j := 5) rfl rfl ?_
            refine q_isub (pc := 169) rfl ?_
            refine q_istore_n (pc := 170) (j := 3) [some (.ref r), some (.int 0), some (.int ((numF (S.1 (r + 1)) z 1 64 (p + 1)).1)), some (.int (0 - (numF (S.1 (r + 1)) z 1 12 ((numF (S.1 (r + 1)) z 1 64 (p + 1)).2 + 1)).1)), some (.int (pB (nxB (S.1 (r + 1)) z (numF (S.1 (r + 1)) z 1 64 (p + 1)).2 43))), some (.int ((numF (S.1 (r + 1)) z 1 12 ((numF (S.1 (r + 1)) z 1 64 (p + 1)).2 + 1)).1))] rfl (by decide) rfl ?_
            refine q_aload_n (pc := 171) (j := 0) rfl rfl ?_
            refine q_iload_n (pc := 172) (j := 1) rfl rfl ?_
            refine q_iload_n (pc := 173) (j := 2) rfl rfl ?_
            refine q_iload_n (pc := 174) (j := 3) rfl rfl ?_
            refine q_aload_n (pc := 175) (j := 0) rfl rfl ?_
            refine q_callV (pc := 176) (as := []) (rest := [.int (0 - (numF (S.1 (r + 1)) z 1 12 ((numF (S.1 (r + 1)) z 1 64 (p + 1)).2 + 1)).1), .int ((numF (S.1 (r + 1)) z 1 64 (p + 1)).1), .int 0, .ref r]) (b := r) (st2 := [.int (nI (adF (S.1 (r + 1)) z 9 (numF (S.1 (r + 1)) z 1 12 ((numF (S.1 (r + 1)) z 1 64 (p + 1)).2 + 1)).2)), .int (0 - (numF (S.1 (r + 1)) z 1 12 ((numF (S.1 (r + 1)) z 1 64 (p + 1)).2 + 1)).1), .int ((numF (S.1 (r + 1)) z 1 64 (p + 1)).1), .int 0, .ref r]) rfl ce_X7_readAdorn ml_X7_52 im_X7_readAdorn se_X7_readAdorn hs.1 rfl rfl rfl (by decide) (Nat.le_of_ble_eq_true rfl) (sp_X7_readAdorn (S := S) (z := z) (p := (numF (S.1 (r + 1)) z 1 12 ((numF (S.1 (r + 1)) z 1 64 (p + 1)).2 + 1)).2) hs hz hz1 (numF_le (by omega))) rfl ?_
            refine q_callV (pc := 179) (as := [.int 0, .int ((numF (S.1 (r + 1)) z 1 64 (p + 1)).1), .int (0 - (numF (S.1 (r + 1)) z 1 12 ((numF (S.1 (r + 1)) z 1 64 (p + 1)).2 + 1)).1), .int (nI (adF (S.1 (r + 1)) z 9 (numF (S.1 (r + 1)) z 1 12 ((numF (S.1 (r + 1)) z 1 64 (p + 1)).2 + 1)).2))]) (rest := []) (b := r) (st2 := []) rfl ce_X7_keep ml_X7_56 im_X7_keep se_X7_keep hs.1 rfl rfl rfl (by decide) (Nat.le_of_ble_eq_true rfl) (sp_X7_keep (S := S) (m := m) (p := ((numF (S.1 (r + 1)) z 1 12 ((numF (S.1 (r + 1)) z 1 64 (p + 1)).2 + 1)).2 + adF (S.1 (r + 1)) z 9 (numF (S.1 (r + 1)) z 1 12 ((numF (S.1 (r + 1)) z 1 64 (p + 1)).2 + 1)).2)) hs hm hm2) rfl ?_
            refine q_iconst (pc := 182) 1 rfl (by decide) ?_
            exact q_zret (pc := 183) rfl rfl rfl (by have hsg : sgF (S.1 (r + 1)) z p = .inl (0, ((numF (S.1 (r + 1)) z 1 64 (p + 1)).1), (0 - (numF (S.1 (r + 1)) z 1 12 ((numF (S.1 (r + 1)) z 1 64 (p + 1)).2 + 1)).1), (numF (S.1 (r + 1)) z 1 12 ((numF (S.1 (r + 1)) z 1 64 (p + 1)).2 + 1)).2) := (by simp [sgF, hb6, h77, hb94, hb103, h151]); exact ⟨by rw [sgnS, hsg], by rw [sgnS, hsg]⟩)
          · refine q_iconst (pc := 154) 0 rfl (by decide) ?_
            exact q_zret (pc := 155) rfl rfl rfl (by have hsg : sgF (S.1 (r + 1)) z p = .inr (numF (S.1 (r + 1)) z 1 12 ((numF (S.1 (r + 1)) z 1 64 (p + 1)).2 + 1)).2 := (by simp [sgF, hb6, h77, hb94, hb103, h151]); exact ⟨by rw [sgnS, hsg], by rw [sgnS, hsg]⟩)
      | true =>
        refine q_if_ne (pc := 94) 106 rfl (by decide) (fun _ => ?_) (fun h9 => absurd h9 (by decide : ¬ pB true = 0))
        have hin2 := nx_in hb94
        refine q_aload_n (pc := 106) (j := 0) rfl rfl ?_
        refine q_bipush (pc := 107) 43 rfl (by decide) ?_
        refine q_callV (pc := 109) (as := [.int 43]) (rest := []) (b := r) (st2 := [.int (pB (nxB (S.1 (r + 1)) z (numF (S.1 (r + 1)) z 1 64 (p + 1)).2 43))]) rfl ce_X7_isNext ml_X7_40 im_X7_isNext se_X7_isNext hs.1 rfl rfl rfl (by decide) (Nat.le_of_ble_eq_true rfl) (sp_X7_isNext (S := S) (z := z) (p := (numF (S.1 (r + 1)) z 1 64 (p + 1)).2) hs hz hz1 (by omega)) rfl ?_
        refine q_istore (pc := 112) (j := 4) [some (.ref r), some (.int 0), some (.int ((numF (S.1 (r + 1)) z 1 64 (p + 1)).1)), some (.int 0), some (.int (pB (nxB (S.1 (r + 1)) z (numF (S.1 (r + 1)) z 1 64 (p + 1)).2 43))), none] rfl (by decide) rfl ?_
        refine q_aload_n (pc := 114) (j := 0) rfl rfl ?_
        refine q_dup (pc := 115) rfl rfl ?_
        refine q_get (pc := 116) (a := r) (v := .int ((tpS S r (numF (S.1 (r + 1)) z 1 64 (p + 1)).2).1 r 4)) rfl fl_X7_29 hs.1 rfl rfl ?_
        refine q_st (st2 := [.int (nI (numF (S.1 (r + 1)) z 1 64 (p + 1)).2), .ref r]) (by rw [show ((tpS S r (numF (S.1 (r + 1)) z 1 64 (p + 1)).2).1 r 4) = nI (numF (S.1 (r + 1)) z 1 64 (p + 1)).2 from tp_p]) ?_
        refine q_iconst (pc := 119) 1 rfl (by decide) ?_
        refine q_iadd (pc := 120) rfl ?_
        refine q_st (st2 := [.int (nI ((numF (S.1 (r + 1)) z 1 64 (p + 1)).2 + 1)), .ref r]) (by rw [nI_1 (numF (S.1 (r + 1)) z 1 64 (p + 1)).2]) ?_
        refine q_putI (pc := 121) (a := r) rfl fl_X7_29 hs.1 rfl (fun _ h9 => by cases h9; rfl) rfl rfl ?_
        refine q_S tp_s ?_
        refine q_iload (pc := 124) (j := 4) rfl rfl ?_
        refine q_if_eq (pc := 126) 139 rfl (by decide) (fun h9 => absurd h9 (by rw [hb94]; decide)) (fun _ => ?_)
        refine q_aload_n (pc := 129) (j := 0) rfl rfl ?_
        refine q_iconst (pc := 130) 0 rfl (by decide) ?_
        refine q_bipush (pc := 131) 20 rfl (by decide) ?_
        refine q_callV (pc := 133) (as := [.int 0, .int 20]) (rest := []) (b := r) (st2 := [.int ((numF (S.1 (r + 1)) z 0 20 ((numF (S.1 (r + 1)) z 1 64 (p + 1)).2 + 1)).1)]) rfl ce_X7_readNumber ml_X7_48 im_X7_readNumber se_X7_readNumber hs.1 rfl rfl rfl (by decide) (Nat.le_of_ble_eq_true rfl) (sp_X7_readNumber (S := S) (z := z) (p := ((numF (S.1 (r + 1)) z 1 64 (p + 1)).2 + 1)) hs hz hz1 (by omega)) rfl ?_
        refine q_goto (pc := 136) 146 rfl (by decide) ?_
        refine q_istore (pc := 146) (j := 5) [some (.ref r), some (.int 0), some (.int ((numF (S.1 (r + 1)) z 1 64 (p + 1)).1)), some (.int 0), some (.int (pB (nxB (S.1 (r + 1)) z (numF (S.1 (r + 1)) z 1 64 (p + 1)).2 43))), some (.int ((numF (S.1 (r + 1)) z 0 20 ((numF (S.1 (r + 1)) z 1 64 (p + 1)).2 + 1)).1))] rfl (by decide) rfl ?_
        refine q_iload (pc := 148) (j := 5) rfl rfl ?_
        refine q_iconst (pc := 150) (-1) rfl (by decide) ?_
        refine q_icmp_ne (pc := 151) 156 rfl (by decide) (fun h151 => ?_) (fun h151 => ?_)
        · refine q_iload (pc := 156) (j := 4) rfl rfl ?_
          refine q_if_eq (pc := 158) 166 rfl (by decide) (fun h9 => absurd h9 (by rw [hb94]; decide)) (fun _ => ?_)
          refine q_iload (pc := 161) (j := 5) rfl rfl ?_
          refine q_goto (pc := 163) 170 rfl (by decide) ?_
          refine q_istore_n (pc := 170) (j := 3) [some (.ref r), some (.int 0), some (.int ((numF (S.1 (r + 1)) z 1 64 (p + 1)).1)), some (.int ((numF (S.1 (r + 1)) z 0 20 ((numF (S.1 (r + 1)) z 1 64 (p + 1)).2 + 1)).1)), some (.int (pB (nxB (S.1 (r + 1)) z (numF (S.1 (r + 1)) z 1 64 (p + 1)).2 43))), some (.int ((numF (S.1 (r + 1)) z 0 20 ((numF (S.1 (r + 1)) z 1 64 (p + 1)).2 + 1)).1))] rfl (by decide) rfl ?_
          refine q_aload_n (pc := 171) (j := 0) rfl rfl ?_
          refine q_iload_n (pc := 172) (j := 1) rfl rfl ?_
          refine q_iload_n (pc := 173) (j := 2) rfl rfl ?_
          refine q_iload_n (pc := 174) (j := 3) rfl rfl ?_
          refine q_aload_n (pc := 175) (j := 0) rfl rfl ?_
          refine q_callV (pc := 176) (as := []) (rest := [.int ((numF (S.1 (r + 1)) z 0 20 ((numF (S.1 (r + 1)) z 1 64 (p + 1)).2 + 1)).1), .int ((numF (S.1 (r + 1)) z 1 64 (p + 1)).1), .int 0, .ref r]) (b := r) (st2 := [.int (nI (adF (S.1 (r + 1)) z 9 (numF (S.1 (r + 1)) z 0 20 ((numF (S.1 (r + 1)) z 1 64 (p + 1)).2 + 1)).2)), .int ((numF (S.1 (r + 1)) z 0 20 ((numF (S.1 (r + 1)) z 1 64 (p + 1)).2 + 1)).1), .int ((numF (S.1 (r + 1)) z 1 64 (p + 1)).1), .int 0, .ref r]) rfl ce_X7_readAdorn ml_X7_52 im_X7_readAdorn se_X7_readAdorn hs.1 rfl rfl rfl (by decide) (Nat.le_of_ble_eq_true rfl) (sp_X7_readAdorn (S := S) (z := z) (p := (numF (S.1 (r + 1)) z 0 20 ((numF (S.1 (r + 1)) z 1 64 (p + 1)).2 + 1)).2) hs hz hz1 (numF_le (by omega))) rfl ?_
          refine q_callV (pc := 179) (as := [.int 0, .int ((numF (S.1 (r + 1)) z 1 64 (p + 1)).1), .int ((numF (S.1 (r + 1)) z 0 20 ((numF (S.1 (r + 1)) z 1 64 (p + 1)).2 + 1)).1), .int (nI (adF (S.1 (r + 1)) z 9 (numF (S.1 (r + 1)) z 0 20 ((numF (S.1 (r + 1)) z 1 64 (p + 1)).2 + 1)).2))]) (rest := []) (b := r) (st2 := []) rfl ce_X7_keep ml_X7_56 im_X7_keep se_X7_keep hs.1 rfl rfl rfl (by decide) (Nat.le_of_ble_eq_true rfl) (sp_X7_keep (S := S) (m := m) (p := ((numF (S.1 (r + 1)) z 0 20 ((numF (S.1 (r + 1)) z 1 64 (p + 1)).2 + 1)).2 + adF (S.1 (r + 1)) z 9 (numF (S.1 (r + 1)) z 0 20 ((numF (S.1 (r + 1)) z 1 64 (p + 1)).2 + 1)).2)) hs hm hm2) rfl ?_
          refine q_iconst (pc := 182) 1 rfl (by decide) ?_
          exact q_zret (pc := 183) rfl rfl rfl (by have hsg : sgF (S.1 (r + 1)) z p = .inl (0, ((numF (S.1 (r + 1)) z 1 64 (p + 1)).1), ((numF (S.1 (r + 1)) z 0 20 ((numF (S.1 (r + 1)) z 1 64 (p + 1)).2 + 1)).1), (numF (S.1 (r + 1)) z 0 20 ((numF (S.1 (r + 1)) z 1 64 (p + 1)).2 + 1)).2) := (by simp [sgF, hb6, h77, hb94, h151]); exact ⟨by rw [sgnS, hsg], by rw [sgnS, hsg]⟩)
        · refine q_iconst (pc := 154) 0 rfl (by decide) ?_
          exact q_zret (pc := 155) rfl rfl rfl (by have hsg : sgF (S.1 (r + 1)) z p = .inr (numF (S.1 (r + 1)) z 0 20 ((numF (S.1 (r + 1)) z 1 64 (p + 1)).2 + 1)).2 := (by simp [sgF, hb6, h77, hb94, h151]); exact ⟨by rw [sgnS, hsg], by rw [sgnS, hsg]⟩)
    · refine q_iconst (pc := 80) 0 rfl (by decide) ?_
      exact q_zret (pc := 81) rfl rfl rfl (by have hsg : sgF (S.1 (r + 1)) z p = .inr (numF (S.1 (r + 1)) z 1 64 (p + 1)).2 := (by simp [sgF, hb6, h77]); exact ⟨by rw [sgnS, hsg], by rw [sgnS, hsg]⟩)
set_option maxRecDepth 100000 in
theorem sp_X7_append {sh : List PSh} {S : PSt} {r z : Nat} {x : Int32} (hs : isTp sh r) (hz : S.1 r 1 = nI z) (hz1 : z < 160) : pF mX7_append 1 [.ref r, .int x] sh S (pSI (pSI S (r + 1) z x) r 1 (nI (z + 1))) (none) := by
  refine pF.of (pG.of [some (.ref r), some (.int x)] (by decide) tk_X7_append (Nat.le_of_ble_eq_true rfl) rfl (fun X => ?_))
  refine q_aload_n (pc := 0) (j := 0) rfl rfl ?_
  refine q_get (pc := 1) (a := r) (v := .int (S.1 r 1)) rfl fl_X7_15 hs.1 rfl rfl ?_
  refine q_st (st2 := [.int (nI z)]) (by rw [show (S.1 r 1) = nI z from hz]) ?_
  refine q_sipush (pc := 4) 160 rfl (by decide) ?_
  refine q_icmp_ge (pc := 7) 32 rfl (by decide) (fun h9 => absurd h9 (nI_ge (b := 160) hz1 (by decide))) (fun _ => ?_)
  refine q_aload_n (pc := 10) (j := 0) rfl rfl ?_
  refine q_get (pc := 11) (a := r) (v := .ref (r + 1)) rfl fl_X7_9 hs.1 rfl rfl ?_
  refine q_aload_n (pc := 14) (j := 0) rfl rfl ?_
  refine q_get (pc := 15) (a := r) (v := .int (S.1 r 1)) rfl fl_X7_15 hs.1 rfl rfl ?_
  refine q_st (st2 := [.int (nI z), .ref (r + 1)]) (by rw [show (S.1 r 1) = nI z from hz]) ?_
  refine q_iload_n (pc := 18) (j := 1) rfl rfl ?_
  refine q_callS (pc := 19) (as := [.ref (r + 1), .int (nI z), .int x]) (rest := []) (st2 := []) rfl ce_X8_writeInt ml_X7_32 st_X8_writeInt rfl (by decide) (Nat.le_of_ble_eq_true rfl) (sp_writeIntN (k := z) hs.2.1 (by omega) (by decide)) rfl ?_
  refine q_aload_n (pc := 22) (j := 0) rfl rfl ?_
  refine q_dup (pc := 23) rfl rfl ?_
  refine q_get (pc := 24) (a := r) (v := .int ((pSI S (r + 1) z x).1 r 1)) rfl fl_X7_15 hs.1 rfl rfl ?_
  refine q_st (st2 := [.int (nI z), .ref r]) (by rw [show ((pSI S (r + 1) z x).1 r 1) = nI z from (show _ = S.1 r 1 by simp [pSI, pU]).trans hz]) ?_
  refine q_iconst (pc := 27) 1 rfl (by decide) ?_
  refine q_iadd (pc := 28) rfl ?_
  refine q_st (st2 := [.int (nI (z + 1)), .ref r]) (by rw [nI_1 z]) ?_
  refine q_putI (pc := 29) (a := r) rfl fl_X7_15 hs.1 rfl (fun _ h9 => by cases h9; rfl) rfl rfl ?_
  exact q_vret (pc := 32) rfl rfl ⟨rfl, rfl⟩
theorem kpS_b {S : PSt} {r m x : Nat} {k d s a : Int32} (h1 : x ≠ r + 2 + 1) (h2 : x ≠ r) : (kpS S r m k d s a).1 x = S.1 x := by
  unfold kpS
  funext j
  show pU _ _ _ _ x j = _
  unfold pU
  rw [if_neg (fun q => h2 q.1)]
  split
  · rw [ly5_o h1]
  · rfl
theorem kpS_f {S : PSt} {r m j : Nat} {k d s a : Int32} (h : j ≠ 3) : (kpS S r m k d s a).1 r j = S.1 r j := by
  unfold kpS
  show pU _ _ _ _ r j = _
  unfold pU
  rw [if_neg (fun q => h q.2)]
  split
  · rw [ly5_o (by omega)]
  · rfl
theorem kpS_m {S : PSt} {r m : Nat} {k d s a : Int32} : (kpS S r m k d s a).1 r 3 = nI (m + 1) := by simp [kpS, pSI, pU]
theorem sgF_le {b : Nat → Int32} {z p : Nat} (h : p ≤ z) : (∀ f, sgF b z p = .inr f → f ≤ z) ∧ (∀ q, sgF b z p = .inl q → q.2.2.2 ≤ z) := by
  unfold sgF
  split
  · rename_i h1
    have h1 := nx_in h1
    have a1 := numF_le (b := b) (least := 1) (most := 64) (show p + 1 ≤ z by omega)
    split
    · exact ⟨fun f hf => (by cases hf; exact a1), fun q hq => by cases hq⟩
    · split
      · rename_i h2
        have h2 := nx_in h2
        have a2 := numF_le (b := b) (least := 0) (most := 20) (show (numF b z 1 64 (p + 1)).2 + 1 ≤ z by omega)
        split
        · exact ⟨fun f hf => (by cases hf; exact a2), fun q hq => by cases hq⟩
        · exact ⟨fun f hf => (by cases hf), fun q hq => by cases hq; exact a2⟩
      · split
        · rename_i h2
          have h2 := nx_in h2
          have a2 := numF_le (b := b) (least := 1) (most := 12) (show (numF b z 1 64 (p + 1)).2 + 1 ≤ z by omega)
          split
          · exact ⟨fun f hf => (by cases hf; exact a2), fun q hq => by cases hq⟩
          · exact ⟨fun f hf => (by cases hf), fun q hq => by cases hq; exact a2⟩
        · exact ⟨fun f hf => (by cases hf), fun q hq => by cases hq; exact a1⟩
  · split
    · rename_i h1
      have h1 := nx_in h1
      have a1 := numF_le (b := b) (least := 1) (most := 64) (show p + 1 ≤ z by omega)
      split
      · exact ⟨fun f hf => (by cases hf; exact a1), fun q hq => by cases hq⟩
      · exact ⟨fun f hf => (by cases hf), fun q hq => by cases hq; exact a1⟩
    · split
      · rename_i h1
        have h1 := nx_in h1
        exact ⟨fun f hf => (by cases hf), fun q hq => by cases hq; exact h1⟩
      · exact ⟨fun f hf => (by cases hf; exact h), fun q hq => by cases hq⟩
/-- a text of music from p on, m signs ahead of it: the fault (-1: none), the contents behind -/
def muS (r z : Nat) : Nat → PSt → Nat → Nat → Int32 × PSt
  | 0, S, p, _ => (nI p, tpS S r p)
  | k + 1, S, p, m => match sgF (S.1 (r + 1)) z p with
    | .inr f => (nI f, tpS S r f)
    | .inl q => if z ≤ q.2.2.2 + adF (S.1 (r + 1)) z 9 q.2.2.2 then (-1, tpS (kpS S r m q.1 q.2.1 q.2.2.1 (nI (adF (S.1 (r + 1)) z 9 q.2.2.2))) r (q.2.2.2 + adF (S.1 (r + 1)) z 9 q.2.2.2))
      else if nxB (S.1 (r + 1)) z (q.2.2.2 + adF (S.1 (r + 1)) z 9 q.2.2.2) 32 = true then muS r z k (kpS S r m q.1 q.2.1 q.2.2.1 (nI (adF (S.1 (r + 1)) z 9 q.2.2.2))) (q.2.2.2 + adF (S.1 (r + 1)) z 9 q.2.2.2 + 1) (m + 1)
      else (nI (q.2.2.2 + adF (S.1 (r + 1)) z 9 q.2.2.2), tpS (kpS S r m q.1 q.2.1 q.2.2.1 (nI (adF (S.1 (r + 1)) z 9 q.2.2.2))) r (q.2.2.2 + adF (S.1 (r + 1)) z 9 q.2.2.2))
set_option maxRecDepth 100000 in
theorem lp_X7_readMusic {n0 : Nat} {X : Nat × (Nat → Int32)} {P : Option Value → PSt → Prop} {d : Nat} (hd9 : 5 ≤ d) {sh : List PSh} {r z : Nat} {R : Int32 × PSt} (hs : isTp sh r) (hz1 : z ≤ 160) (hP : P (some (.int R.1)) R.2) : ∀ (m9 k : Nat) (S : PSt) (p m : Nat), k + m9 = 160 → S.1 r 1 = nI z → S.1 r 3 = nI m → m ≤ k → p ≤ z → muS r z m9 S p m = R → pV mX7_readMusic d n0 X sh P 12 [some (.ref r), some (.int (nI k))] [] (tpS S r p) := by
  intro m9
  induction m9 with
  | zero =>
    intro k S p m hk hz hm hmk hp hw
    have hk : k = 160 := by omega
    subst hk
    subst hw
    refine q_iload_n (pc := 12) (j := 1) rfl rfl ?_
    refine q_sipush (pc := 13) 160 rfl (by decide) ?_
    refine q_icmp_ge (pc := 16) 74 rfl (by decide) (fun _ => ?_) (fun h9 => absurd (Int32.le_refl _) h9)
    refine q_aload_n (pc := 74) (j := 0) rfl rfl ?_
    refine q_get (pc := 75) (a := r) (v := .int (nI p)) rfl fl_X7_29 hs.1 rfl (congrArg Value.int tp_p) ?_
    exact q_iret (pc := 78) rfl rfl hP
  | succ m9 ih =>
    intro k S p m hk hz hm hmk hp hw
    have hk1 : k < 160 := by omega
    refine q_iload_n (pc := 12) (j := 1) rfl rfl ?_
    refine q_sipush (pc := 13) 160 rfl (by decide) ?_
    refine q_icmp_ge (pc := 16) 74 rfl (by decide) (fun h9 => absurd h9 (nI_ge (b := 160) hk1 (by decide))) (fun _ => ?_)
    refine q_aload_n (pc := 19) (j := 0) rfl rfl ?_
    refine q_callV (pc := 20) (as := []) (rest := []) (b := r) (st2 := [.int ((sgnS S r z m p).1)]) rfl ce_X7_readSign ml_X7_36 im_X7_readSign se_X7_readSign hs.1 rfl rfl rfl (by omega) (Nat.le_of_ble_eq_true rfl) (sp_X7_readSign (S := S) (z := z) (p := p) (m := m) hs hz hz1 (by omega) hm (by omega)) rfl ?_
    cases hsg : sgF (S.1 (r + 1)) z p with
    | inr f =>
      have e9 : sgnS S r z m p = (0, tpS S r f) := by rw [sgnS, hsg]
      have hle := (sgF_le (b := S.1 (r + 1)) hp).1 f hsg
      refine q_st (st2 := [.int 0]) (by rw [e9]) (q_S (S2 := tpS S r f) (by rw [e9]) ?_)
      refine q_if_ne (pc := 23) 31 rfl (by decide) (fun h9 => absurd h9 (by decide : ¬ ¬ (0 : Int32) = 0)) (fun _ => ?_)
      refine q_aload_n (pc := 26) (j := 0) rfl rfl ?_
      refine q_get (pc := 27) (a := r) (v := .int ((tpS S r f).1 r 4)) rfl fl_X7_29 hs.1 rfl rfl ?_
      refine q_st (st2 := [.int (nI f)]) (by rw [show ((tpS S r f).1 r 4) = nI f from tp_p]) ?_
      exact q_iret (pc := 30) rfl rfl (by rw [← hw, muS, hsg] at hP; exact hP)
    | inl q =>
      have e9 : sgnS S r z m p = (1, tpS (kpS S r m q.1 q.2.1 q.2.2.1 (nI (adF (S.1 (r + 1)) z 9 q.2.2.2))) r (q.2.2.2 + adF (S.1 (r + 1)) z 9 q.2.2.2)) := by rw [sgnS, hsg]
      have hle := adF_le (b := S.1 (r + 1)) 9 _ ((sgF_le (b := S.1 (r + 1)) hp).2 q hsg)
      refine q_st (st2 := [.int 1]) (by rw [e9]) (q_S (S2 := tpS (kpS S r m q.1 q.2.1 q.2.2.1 (nI (adF (S.1 (r + 1)) z 9 q.2.2.2))) r (q.2.2.2 + adF (S.1 (r + 1)) z 9 q.2.2.2)) (by rw [e9]) ?_)
      refine q_if_ne (pc := 23) 31 rfl (by decide) (fun _ => ?_) (fun h9 => absurd h9 (by decide : (1 : Int32) = 0 → False))
      refine q_aload_n (pc := 31) (j := 0) rfl rfl ?_
      refine q_get (pc := 32) (a := r) (v := .int ((tpS (kpS S r m q.1 q.2.1 q.2.2.1 (nI (adF (S.1 (r + 1)) z 9 q.2.2.2))) r (q.2.2.2 + adF (S.1 (r + 1)) z 9 q.2.2.2)).1 r 4)) rfl fl_X7_29 hs.1 rfl rfl ?_
      refine q_st (st2 := [.int (nI (q.2.2.2 + adF (S.1 (r + 1)) z 9 q.2.2.2))]) (by rw [show ((tpS (kpS S r m q.1 q.2.1 q.2.2.1 (nI (adF (S.1 (r + 1)) z 9 q.2.2.2))) r (q.2.2.2 + adF (S.1 (r + 1)) z 9 q.2.2.2)).1 r 4) = nI (q.2.2.2 + adF (S.1 (r + 1)) z 9 q.2.2.2) from tp_p]) ?_
      refine q_aload_n (pc := 35) (j := 0) rfl rfl ?_
      refine q_get (pc := 36) (a := r) (v := .int ((tpS (kpS S r m q.1 q.2.1 q.2.2.1 (nI (adF (S.1 (r + 1)) z 9 q.2.2.2))) r (q.2.2.2 + adF (S.1 (r + 1)) z 9 q.2.2.2)).1 r 1)) rfl fl_X7_15 hs.1 rfl rfl ?_
      refine q_st (st2 := [.int (nI z), .int (nI (q.2.2.2 + adF (S.1 (r + 1)) z 9 q.2.2.2))]) (by rw [show ((tpS (kpS S r m q.1 q.2.1 q.2.2.1 (nI (adF (S.1 (r + 1)) z 9 q.2.2.2))) r (q.2.2.2 + adF (S.1 (r + 1)) z 9 q.2.2.2)).1 r 1) = nI z from (tp_z (by decide)).trans ((kpS_f (by decide)).trans hz)]) ?_
      refine q_icmp_lt (pc := 39) 44 rfl (by decide) (fun h39 => ?_) (fun h39 => ?_)
      · refine q_aload_n (pc := 44) (j := 0) rfl rfl ?_
        refine q_bipush (pc := 45) 32 rfl (by decide) ?_
        refine q_callV (pc := 47) (as := [.int 32]) (rest := []) (b := r) (st2 := [.int (pB (nxB ((kpS S r m q.1 q.2.1 q.2.2.1 (nI (adF (S.1 (r + 1)) z 9 q.2.2.2))).1 (r + 1)) z (q.2.2.2 + adF (S.1 (r + 1)) z 9 q.2.2.2) 32))]) rfl ce_X7_isNext ml_X7_40 im_X7_isNext se_X7_isNext hs.1 rfl rfl rfl (by omega) (Nat.le_of_ble_eq_true rfl) (sp_X7_isNext (S := (kpS S r m q.1 q.2.1 q.2.2.1 (nI (adF (S.1 (r + 1)) z 9 q.2.2.2)))) (z := z) (p := (q.2.2.2 + adF (S.1 (r + 1)) z 9 q.2.2.2)) hs ((kpS_f (by decide)).trans hz) hz1 (by omega)) rfl ?_
        cases hb50 : (nxB ((kpS S r m q.1 q.2.1 q.2.2.1 (nI (adF (S.1 (r + 1)) z 9 q.2.2.2))).1 (r + 1)) z (q.2.2.2 + adF (S.1 (r + 1)) z 9 q.2.2.2) 32) with
        | false =>
          refine q_if_ne (pc := 50) 58 rfl (by decide) (fun h9 => absurd (by decide : pB false = 0) h9) (fun _ => ?_)
          rw [(show (kpS S r m q.1 q.2.1 q.2.2.1 (nI (adF (S.1 (r + 1)) z 9 q.2.2.2))).1 (r + 1) = S.1 (r + 1) from kpS_b (by omega) (by omega))] at hb50
          refine q_aload_n (pc := 53) (j := 0) rfl rfl ?_
          refine q_get (pc := 54) (a := r) (v := .int ((tpS (kpS S r m q.1 q.2.1 q.2.2.1 (nI (adF (S.1 (r + 1)) z 9 q.2.2.2))) r (q.2.2.2 + adF (S.1 (r + 1)) z 9 q.2.2.2)).1 r 4)) rfl fl_X7_29 hs.1 rfl rfl ?_
          refine q_st (st2 := [.int (nI (q.2.2.2 + adF (S.1 (r + 1)) z 9 q.2.2.2))]) (by rw [show ((tpS (kpS S r m q.1 q.2.1 q.2.2.1 (nI (adF (S.1 (r + 1)) z 9 q.2.2.2))) r (q.2.2.2 + adF (S.1 (r + 1)) z 9 q.2.2.2)).1 r 4) = nI (q.2.2.2 + adF (S.1 (r + 1)) z 9 q.2.2.2) from tp_p]) ?_
          exact q_iret (pc := 57) rfl rfl (by rw [← hw, muS, hsg] at hP; simp only [] at hP; rw [if_neg (by have := (nI_ltI (a := (q.2.2.2 + adF (S.1 (r + 1)) z 9 q.2.2.2)) (b := z) (by omega) (by omega)).mp h39; omega), if_neg (by rw [hb50]; decide)] at hP; exact hP)
        | true =>
          refine q_if_ne (pc := 50) 58 rfl (by decide) (fun _ => ?_) (fun h9 => absurd h9 (by decide : ¬ pB true = 0))
          rw [(show (kpS S r m q.1 q.2.1 q.2.2.1 (nI (adF (S.1 (r + 1)) z 9 q.2.2.2))).1 (r + 1) = S.1 (r + 1) from kpS_b (by omega) (by omega))] at hb50
          refine q_aload_n (pc := 58) (j := 0) rfl rfl ?_
          refine q_dup (pc := 59) rfl rfl ?_
          refine q_get (pc := 60) (a := r) (v := .int ((tpS (kpS S r m q.1 q.2.1 q.2.2.1 (nI (adF (S.1 (r + 1)) z 9 q.2.2.2))) r (q.2.2.2 + adF (S.1 (r + 1)) z 9 q.2.2.2)).1 r 4)) rfl fl_X7_29 hs.1 rfl rfl ?_
          refine q_st (st2 := [.int (nI (q.2.2.2 + adF (S.1 (r + 1)) z 9 q.2.2.2)), .ref r]) (by rw [show ((tpS (kpS S r m q.1 q.2.1 q.2.2.1 (nI (adF (S.1 (r + 1)) z 9 q.2.2.2))) r (q.2.2.2 + adF (S.1 (r + 1)) z 9 q.2.2.2)).1 r 4) = nI (q.2.2.2 + adF (S.1 (r + 1)) z 9 q.2.2.2) from tp_p]) ?_
          refine q_iconst (pc := 63) 1 rfl (by decide) ?_
          refine q_iadd (pc := 64) rfl ?_
          refine q_st (st2 := [.int (nI ((q.2.2.2 + adF (S.1 (r + 1)) z 9 q.2.2.2) + 1)), .ref r]) (by rw [nI_1 (q.2.2.2 + adF (S.1 (r + 1)) z 9 q.2.2.2)]) ?_
          refine q_putI (pc := 65) (a := r) rfl fl_X7_29 hs.1 rfl (fun _ h9 => by cases h9; rfl) rfl rfl ?_
          refine q_S tp_s ?_
          refine q_iinc (pc := 68) (j := 1) (n := 1) (nI (k + 1)) [some (.ref r), some (.int (nI (k + 1)))] rfl (by decide) rfl (nI_1 k) rfl ?_
          refine q_goto (pc := 71) 12 rfl (by decide) ?_
          exact ih (k + 1) _ _ (m + 1) (by omega) ((kpS_f (by decide)).trans hz) kpS_m (by omega) (by have := nx_in hb50; omega) (by rw [← hw, muS, hsg]; simp only []; rw [if_neg (by have := (nI_ltI (a := (q.2.2.2 + adF (S.1 (r + 1)) z 9 q.2.2.2)) (b := z) (by omega) (by omega)).mp h39; omega), if_pos hb50])
      · refine q_iconst (pc := 42) (-1) rfl (by decide) ?_
        exact q_iret (pc := 43) rfl rfl (by rw [← hw, muS, hsg] at hP; simp only [] at hP; rw [if_pos ((nI_leI (a := z) (b := (q.2.2.2 + adF (S.1 (r + 1)) z 9 q.2.2.2)) (by omega) (by omega)).mp (Int32.not_lt.mp h39))] at hP; exact hP)
theorem mu_0 {S : PSt} {r : Nat} : pSI (pSI S r 4 0) r 3 0 = tpS (pSI S r 3 0) r 0 := by
  unfold tpS pSI pU
  refine Prod.ext (funext fun c => funext fun j => ?_) rfl
  dsimp only; (repeat' split) <;> first | rfl | (exfalso; omega)
set_option maxRecDepth 100000 in
theorem sp_X7_readMusic {sh : List PSh} {S : PSt} {r z : Nat} (hs : isTp sh r) (hz : S.1 r 1 = nI z) (hz1 : z ≤ 160) : pF mX7_readMusic 5 [.ref r] sh S ((muS r z 160 (pSI S r 3 0) 0 0).2) (some (.int (muS r z 160 (pSI S r 3 0) 0 0).1)) := by
  refine pF.of (pG.of [some (.ref r), none] (by decide) tk_X7_readMusic (Nat.le_of_ble_eq_true rfl) rfl (fun X => ?_))
  refine q_aload_n (pc := 0) (j := 0) rfl rfl ?_
  refine q_iconst (pc := 1) 0 rfl (by decide) ?_
  refine q_putI (pc := 2) (a := r) rfl fl_X7_29 hs.1 rfl (fun _ h9 => by cases h9; rfl) rfl rfl ?_
  refine q_aload_n (pc := 5) (j := 0) rfl rfl ?_
  refine q_iconst (pc := 6) 0 rfl (by decide) ?_
  refine q_putI (pc := 7) (a := r) rfl fl_X7_26 hs.1 rfl (fun _ h9 => by cases h9; rfl) rfl rfl ?_
  refine q_iconst (pc := 10) 0 rfl (by decide) ?_
  refine q_istore_n (pc := 11) (j := 1) [some (.ref r), some (.int 0)] rfl (by decide) rfl ?_
  exact q_S mu_0 (lp_X7_readMusic (by decide) hs hz1 ⟨rfl, rfl⟩ 160 0 (pSI S r 3 0) 0 0 rfl (by simp [pSI, pU]; exact hz) (by simp [pSI, pU]; rfl) (Nat.le_refl _) (Nat.zero_le _) rfl)
