/-! the model: music: written by wip/whole/gen/c58.py -/
/-- the tape read up to p, well so far or not -/
def rdM (S : PSt) (g : Bool) (p : Nat) : PSt := pSI (pSI S 70 24 (nI p)) 70 25 (pB g)
theorem rd_g {S : PSt} {g : Bool} {p : Nat} : (rdM S g p).1 70 25 = pB g := pSI_at
theorem rd_p {S : PSt} {g : Bool} {p : Nat} : (rdM S g p).1 70 24 = nI p := (pSI_j (by decide)).trans pSI_at
theorem rd_j {S : PSt} {g : Bool} {p j : Nat} (h1 : j ≠ 24) (h2 : j ≠ 25) : (rdM S g p).1 70 j = S.1 70 j := (pSI_j h2).trans (pSI_j h1)
theorem rd_o {S : PSt} {g : Bool} {p c : Nat} (h : c ≠ 70) : (rdM S g p).1 c = S.1 c := (pSI_ne h).trans (pSI_ne h)
theorem rd_sp {S : PSt} {g : Bool} {p q : Nat} : pSI (rdM S g p) 70 24 (nI q) = rdM S g q := by
  unfold rdM pSI pU
  refine Prod.ext (funext fun c => funext fun j => ?_) rfl
  dsimp only
  (repeat' split) <;> first | rfl | (exfalso; omega)
theorem rd_sg {S : PSt} {g h : Bool} {p : Nat} : pSI (rdM S g p) 70 25 (pB h) = rdM S h p := by
  unfold rdM
  exact pSI_2
theorem fm_rd {S : PSt} {g : Bool} {p : Nat} : frM S (rdM S g p) := fm_tr (fm_I0 (by decide)) (fm_I0 (by decide))
def digB (b : Nat → Int32) (z p : Nat) : Bool := decide (p < z) && pWi (b p) 48 57
theorem dig_y {b : Nat → Int32} {z p : Nat} (h : digB b z p = true) : p < z ∧ dgF b z p = b p - 48 ∧ 0 ≤ (dgF b z p).toInt ∧ (dgF b z p).toInt ≤ 9 := by
  unfold digB at h
  rw [Bool.and_eq_true] at h
  have h1 := of_decide_eq_true h.1
  have h2 := of_decide_eq_true h.2
  have e48 : (48 : Int32).toInt = 48 := by decide
  have e57 : (57 : Int32).toInt = 57 := by decide
  rw [e48, e57] at h2
  have e : dgF b z p = b p - 48 := by
    unfold dgF
    rw [if_pos h1, if_pos ⟨by rw [Int32.le_iff_toInt_le, e48]; exact h2.1, by rw [Int32.le_iff_toInt_le, e57]; exact h2.2⟩]
  have e2 : (b p - 48).toInt = (b p).toInt - 48 := by rw [Int32.toInt_sub, e48, Int.bmod_eq_of_le (by omega) (by omega)]
  refine ⟨h1, e, ?_, ?_⟩
  · rw [e, e2]; omega
  · rw [e, e2]; omega
theorem dig_n {b : Nat → Int32} {z p : Nat} (h : digB b z p = false) : dgF b z p = -1 := by
  by_cases h9 : dgF b z p = -1
  · exact h9
  · exfalso
    have h1 := dg_in h9
    unfold dgF at h9
    rw [if_pos h1] at h9
    have h2 : 48 ≤ b p ∧ b p ≤ 57 := by
      by_cases h3 : 48 ≤ b p ∧ b p ≤ 57
      · exact h3
      · rw [if_neg h3] at h9; exact absurd rfl h9
    rw [Int32.le_iff_toInt_le, Int32.le_iff_toInt_le] at h2
    unfold digB at h
    rw [decide_eq_true h1, show pWi (b p) 48 57 = true from decide_eq_true h2] at h
    exact absurd h (by decide)
theorem dig_ne {b : Nat → Int32} {z p : Nat} (h : digB b z p = true) : ¬ dgF b z p = -1 := fun q => by
  have := (dig_y h).2.2.1
  rw [q] at this
  exact absurd this (by decide)
set_option maxRecDepth 100000 in
theorem sp_X9_takes {sh : List PSh} {S : PSt} {z p : Nat} (hm : isMo sh) (hz : S.1 70 23 = nI z) (hz1 : z ≤ 160) (hp : p ≤ 160) {g : Bool} {c : Int32} : pF mX9_takes 0 [.ref 70, .int c] sh (rdM S g p) (rdM S g (if (g && (nxB (S.1 87) z p c)) = true then p + 1 else p)) (some (.int (pB (g && (nxB (S.1 87) z p c))))) := by
  refine pF.of (pG.of [some (.ref 70), some (.int c), none] (by decide) tk_X9_takes (Nat.le_of_ble_eq_true rfl) rfl (fun X => ?_))
  refine q_aload_n (pc := 0) (j := 0) rfl rfl ?_
  refine q_get (pc := 1) (a := 70) (v := .int ((rdM S g p).1 70 25)) rfl fl_X9_260 hm.1 rfl rfl ?_
  refine q_st (st2 := [.int (pB g)]) (by rw [(show ((rdM S g p).1 70 25) = pB g from rd_g)]) ?_
  refine q_join 36 [some (.ref 70), some (.int c), none] [.int (pB (g && (nxB (S.1 87) z p c)))] (rdM S g p) ?_ (fun key4 => ?_)
  · refine q_istore_n (pc := 36) (j := 2) [some (.ref 70), some (.int c), some (.int (pB (g && (nxB (S.1 87) z p c))))] rfl (by decide) rfl ?_
    refine q_aload_n (pc := 37) (j := 0) rfl rfl ?_
    refine q_dup (pc := 38) rfl rfl ?_
    refine q_get (pc := 39) (a := 70) (v := .int ((rdM S g p).1 70 24)) rfl fl_X9_264 hm.1 rfl rfl ?_
    refine q_st (st2 := [.int (nI p), .ref 70]) (by rw [(show ((rdM S g p).1 70 24) = nI p from rd_p)]) ?_
    refine q_iload_n (pc := 42) (j := 2) rfl rfl ?_
    refine q_if_eq (pc := 43) 50 rfl (by decide) (fun h43 => ?_) (fun h43 => ?_)
    · refine q_iconst (pc := 50) 0 rfl (by decide) ?_
      refine q_iadd (pc := 51) rfl ?_
      refine q_st (st2 := [.int (nI p), .ref 70]) (by rw [Int32.add_zero (nI p)]) ?_
      refine q_putI (pc := 52) (a := 70) rfl fl_X9_264 hm.1 rfl (fun _ h9 => by cases h9; rfl) rfl rfl ?_
      refine q_iload_n (pc := 55) (j := 2) rfl rfl ?_
      exact q_zret (pc := 56) rfl rfl (pB_nar _) ⟨rfl, by rw [if_neg (by rw [pB_f h43]; decide), rd_sp]⟩
    · refine q_iconst (pc := 46) 1 rfl (by decide) ?_
      refine q_goto (pc := 47) 51 rfl (by decide) ?_
      refine q_iadd (pc := 51) rfl ?_
      refine q_st (st2 := [.int (nI (p + 1)), .ref 70]) (by rw [nI_1 p]) ?_
      refine q_putI (pc := 52) (a := 70) rfl fl_X9_264 hm.1 rfl (fun _ h9 => by cases h9; rfl) rfl rfl ?_
      refine q_iload_n (pc := 55) (j := 2) rfl rfl ?_
      exact q_zret (pc := 56) rfl rfl (pB_nar _) ⟨rfl, by rw [if_pos (pB_t h43), rd_sp]⟩
  · refine q_if_eq (pc := 4) 35 rfl (by decide) (fun h4 => ?_) (fun h4 => ?_)
    · refine q_iconst (pc := 35) 0 rfl (by decide) ?_
      exact q_st (by rw [pB_f h4, Bool.false_and]; rfl) key4
    · refine q_aload_n (pc := 7) (j := 0) rfl rfl ?_
      refine q_get (pc := 8) (a := 70) (v := .int ((rdM S g p).1 70 24)) rfl fl_X9_264 hm.1 rfl rfl ?_
      refine q_st (st2 := [.int (nI p)]) (by rw [(show ((rdM S g p).1 70 24) = nI p from rd_p)]) ?_
      refine q_aload_n (pc := 11) (j := 0) rfl rfl ?_
      refine q_get (pc := 12) (a := 70) (v := .int ((rdM S g p).1 70 23)) rfl fl_X9_257 hm.1 rfl rfl ?_
      refine q_st (st2 := [.int (nI z), .int (nI p)]) (by rw [(show ((rdM S g p).1 70 23) = nI z from (rd_j (by decide) (by decide)).trans hz)]) ?_
      refine q_icmp_ge (pc := 15) 35 rfl (by decide) (fun h15 => ?_) (fun h15 => ?_)
      · refine q_iconst (pc := 35) 0 rfl (by decide) ?_
        exact q_st (by rw [pB_t h4, Bool.true_and, ← nx_a (b := S.1 87) (c := c) (z := z) (p := p) (by omega) (by omega) h15]) key4
      · have hp3 : p < z := (by have h9 := mt (nI_leI (a := z) (b := p) (by omega) (by omega)).mpr h15; omega)
        refine q_aload_n (pc := 18) (j := 0) rfl rfl ?_
        refine q_get (pc := 19) (a := 70) (v := .ref 87) rfl fl_X9_60 hm.1 rfl rfl ?_
        refine q_aload_n (pc := 22) (j := 0) rfl rfl ?_
        refine q_get (pc := 23) (a := 70) (v := .int ((rdM S g p).1 70 24)) rfl fl_X9_264 hm.1 rfl rfl ?_
        refine q_st (st2 := [.int (nI p), .ref 87]) (by rw [(show ((rdM S g p).1 70 24) = nI p from rd_p)]) ?_
        refine q_iald (pc := 26) (a := 87) p rfl hm.2.2.2.2.2.2.2.2.2.2.2.2.2.2.2.2.2.1 (vp_in_nI (by omega) (by decide)) (nI_clamp (by omega)) ?_
        refine q_st (st2 := [.int (S.1 87 p)]) (by rw [(show ((rdM S g p).1 87 p) = S.1 87 p from congrFun (rd_o (by decide)) p)]) ?_
        refine q_iload_n (pc := 27) (j := 1) rfl rfl ?_
        refine q_icmp_ne (pc := 28) 35 rfl (by decide) (fun h28 => ?_) (fun h28 => ?_)
        · refine q_iconst (pc := 35) 0 rfl (by decide) ?_
          exact q_st (by rw [pB_t h4, Bool.true_and, ← nx_b (z := z) h28]) key4
        · refine q_iconst (pc := 31) 1 rfl (by decide) ?_
          refine q_goto (pc := 32) 36 rfl (by decide) ?_
          exact q_st (by rw [pB_t h4, Bool.true_and, ← nx_c hp3 h28]) key4
set_option maxRecDepth 100000 in
theorem sp_X9_isDigit {sh : List PSh} {S : PSt} {z p : Nat} (hm : isMo sh) (hz : S.1 70 23 = nI z) (hz1 : z ≤ 160) (hp : p ≤ 160) {g : Bool} : pF mX9_isDigit 1 [.ref 70] sh (rdM S g p) (rdM S g p) (some (.int (pB (digB (S.1 87) z p)))) := by
  refine pF.of (pG.of [some (.ref 70)] (by decide) tk_X9_isDigit (Nat.le_of_ble_eq_true rfl) rfl (fun X => ?_))
  refine q_aload_n (pc := 0) (j := 0) rfl rfl ?_
  refine q_get (pc := 1) (a := 70) (v := .int ((rdM S g p).1 70 24)) rfl fl_X9_264 hm.1 rfl rfl ?_
  refine q_st (st2 := [.int (nI p)]) (by rw [(show ((rdM S g p).1 70 24) = nI p from rd_p)]) ?_
  refine q_aload_n (pc := 4) (j := 0) rfl rfl ?_
  refine q_get (pc := 5) (a := 70) (v := .int ((rdM S g p).1 70 23)) rfl fl_X9_257 hm.1 rfl rfl ?_
  refine q_st (st2 := [.int (nI z), .int (nI p)]) (by rw [(show ((rdM S g p).1 70 23) = nI z from (rd_j (by decide) (by decide)).trans hz)]) ?_
  refine q_icmp_ge (pc := 8) 37 rfl (by decide) (fun h8 => ?_) (fun h8 => ?_)
  · refine q_iconst (pc := 37) 0 rfl (by decide) ?_
    exact q_zret (pc := 38) rfl rfl rfl ⟨congrArg (fun v => some (Value.int v)) (by rw [digB, decide_eq_false (show ¬ p < z by have h9 := (nI_leI (a := z) (b := p) (by omega) (by omega)).mp h8; omega)]; rfl), rfl⟩
  · have hp3 : p < z := (by have h9 := mt (nI_leI (a := z) (b := p) (by omega) (by omega)).mpr h8; omega)
    refine q_aload_n (pc := 11) (j := 0) rfl rfl ?_
    refine q_get (pc := 12) (a := 70) (v := .ref 87) rfl fl_X9_60 hm.1 rfl rfl ?_
    refine q_aload_n (pc := 15) (j := 0) rfl rfl ?_
    refine q_get (pc := 16) (a := 70) (v := .int ((rdM S g p).1 70 24)) rfl fl_X9_264 hm.1 rfl rfl ?_
    refine q_st (st2 := [.int (nI p), .ref 87]) (by rw [(show ((rdM S g p).1 70 24) = nI p from rd_p)]) ?_
    refine q_iald (pc := 19) (a := 87) p rfl hm.2.2.2.2.2.2.2.2.2.2.2.2.2.2.2.2.2.1 (vp_in_nI (by omega) (by decide)) (nI_clamp (by omega)) ?_
    refine q_st (st2 := [.int (S.1 87 p)]) (by rw [(show ((rdM S g p).1 87 p) = S.1 87 p from congrFun (rd_o (by decide)) p)]) ?_
    refine q_i2l (pc := 20) rfl ?_
    refine q_ldc2 (pc := 21) (v := 48) rfl kc_X9_267 ?_
    refine q_ldc2 (pc := 24) (v := 57) rfl kc_X9_269 ?_
    refine q_callS (pc := 27) (as := [.long ((S.1 87 p).toInt64), .long 48, .long 57]) (rest := []) (st2 := [.int (pB (pWi (S.1 87 p) 48 57))]) rfl ce_X9_in ml_X9_85 st_X9_in rfl (by decide) (Nat.le_of_ble_eq_true rfl) (sp_X9_inW (v := (S.1 87 p)) (l := 48) (m := 57) (Int32.toInt_toInt64 _) (by decide) (by decide)) rfl ?_
    refine q_if_eq (pc := 30) 37 rfl (by decide) (fun h30 => ?_) (fun h30 => ?_)
    · refine q_iconst (pc := 37) 0 rfl (by decide) ?_
      exact q_zret (pc := 38) rfl rfl rfl ⟨congrArg (fun v => some (Value.int v)) (by rw [digB, decide_eq_true hp3, pB_f h30]; rfl), rfl⟩
    · refine q_iconst (pc := 33) 1 rfl (by decide) ?_
      refine q_goto (pc := 34) 38 rfl (by decide) ?_
      exact q_zret (pc := 38) rfl rfl rfl ⟨congrArg (fun v => some (Value.int v)) (by rw [digB, decide_eq_true hp3, pB_t h30]; rfl), rfl⟩
