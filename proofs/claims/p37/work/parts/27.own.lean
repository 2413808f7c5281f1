/-! EngravedLines' own methods: written by wip/whole/gen/c27.py -/
set_option maxRecDepth 100000 in
theorem sp_X8_refuse {sh : List PSh} {S : PSt} (he : isEl sh) {e : Nat} (h8 : e < 8) : pF mX8_refuse 1 [.ref 0, .int (nI e)] sh S (rfS S e) (some (.int (-2147483000 - nI e))) := by
  refine pF.of (pG.of [some (.ref 0), some (.int (nI e))] (by decide) tk_X8_refuse (Nat.le_of_ble_eq_true rfl) rfl (fun X => ?_))
  refine q_aload_n (pc := 0) (j := 0) rfl rfl ?_
  refine q_get (pc := 1) (a := 0) (v := .ref 69) rfl fl_X8_74 he.1 rfl rfl ?_
  refine q_iload_n (pc := 4) (j := 1) rfl rfl ?_
  refine q_aload_n (pc := 5) (j := 0) rfl rfl ?_
  refine q_get (pc := 6) (a := 0) (v := .ref 69) rfl fl_X8_74 he.1 rfl rfl ?_
  refine q_iload_n (pc := 9) (j := 1) rfl rfl ?_
  refine q_callS (pc := 10) (as := [.ref 69, .int (nI e)]) (rest := [.int (nI e), .ref 69]) (st2 := [.int (S.1 69 e), .int (nI e), .ref 69]) rfl ce_X8_readInt ml_X8_324 st_X8_readInt rfl (by decide) (Nat.le_of_ble_eq_true rfl) (sp_readIntN (k := e) he.2.2.2.2.2.2.2.2.2.2.2.2 (by omega) (by decide)) rfl ?_
  refine q_iconst (pc := 13) 1 rfl (by decide) ?_
  refine q_iadd (pc := 14) rfl ?_
  refine q_callS (pc := 15) (as := [.ref 69, .int (nI e), .int ((S.1 69 e) + 1)]) (rest := []) (st2 := []) rfl ce_X8_writeInt ml_X8_328 st_X8_writeInt rfl (by decide) (Nat.le_of_ble_eq_true rfl) (sp_writeIntN (k := e) he.2.2.2.2.2.2.2.2.2.2.2.2 (by omega) (by decide)) rfl ?_
  refine q_ldcw (pc := 18) (v := (-2147483000)) rfl kc_X8_332 ?_
  refine q_iload_n (pc := 21) (j := 1) rfl rfl ?_
  refine q_isub (pc := 22) rfl ?_
  exact q_iret (pc := 23) rfl rfl ⟨rfl, rfl⟩
set_option maxRecDepth 100000 in
theorem sp_X8_isColumn {sh : List PSh} {S : PSt} {N : Nat} (he : isEl sh) (hN : S.1 1 1 = nI N) (hN2 : N ≤ 32) {c : Int32} : pF mX8_isColumn 0 [.ref 0, .int c] sh S S (some (.int (pB (isCoB N c)))) := by
  refine pF.of (pG.of [some (.ref 0), some (.int c)] (by decide) tk_X8_isColumn (Nat.le_of_ble_eq_true rfl) rfl (fun X => ?_))
  refine q_iload_n (pc := 0) (j := 1) rfl rfl ?_
  refine q_if_lt (pc := 1) 19 rfl (by decide) (fun h1 => ?_) (fun h1 => ?_)
  · refine q_iconst (pc := 19) 0 rfl (by decide) ?_
    exact q_zret (pc := 20) rfl rfl rfl ⟨congrArg (fun v => some (Value.int v)) (by first | exact co_a h1 | exact co_b hN2 h12 | exact co_c hN2 h1 h12), rfl⟩
  · refine q_iload_n (pc := 4) (j := 1) rfl rfl ?_
    refine q_aload_n (pc := 5) (j := 0) rfl rfl ?_
    refine q_get (pc := 6) (a := 0) (v := .ref 1) rfl fl_X8_10 he.1 rfl rfl ?_
    refine q_get (pc := 9) (a := 1) (v := .int (S.1 1 1)) rfl fl_X8_86 he.2.1.1 rfl rfl ?_
    refine q_st (st2 := [.int (nI N), .int c]) (by rw [(show (S.1 1 1) = nI N from hN)]) ?_
    refine q_icmp_ge (pc := 12) 19 rfl (by decide) (fun h12 => ?_) (fun h12 => ?_)
    · refine q_iconst (pc := 19) 0 rfl (by decide) ?_
      exact q_zret (pc := 20) rfl rfl rfl ⟨congrArg (fun v => some (Value.int v)) (by first | exact co_a h1 | exact co_b hN2 h12 | exact co_c hN2 h1 h12), rfl⟩
    · refine q_iconst (pc := 15) 1 rfl (by decide) ?_
      refine q_goto (pc := 16) 20 rfl (by decide) ?_
      exact q_zret (pc := 20) rfl rfl rfl ⟨congrArg (fun v => some (Value.int v)) (by first | exact co_a h1 | exact co_b hN2 h12 | exact co_c hN2 h1 h12), rfl⟩
set_option maxRecDepth 100000 in
theorem sp_X8_isStretch {sh : List PSh} {S : PSt} {N : Nat} (he : isEl sh) (hN : S.1 1 1 = nI N) (hN2 : N ≤ 32) {a b : Int32} : pF mX8_isStretch 0 [.ref 0, .int a, .int b] sh S S (some (.int (pB (isStB N a b)))) := by
  refine pF.of (pG.of [some (.ref 0), some (.int a), some (.int b)] (by decide) tk_X8_isStretch (Nat.le_of_ble_eq_true rfl) rfl (fun X => ?_))
  refine q_iload_n (pc := 0) (j := 1) rfl rfl ?_
  refine q_if_lt (pc := 1) 24 rfl (by decide) (fun h1 => ?_) (fun h1 => ?_)
  · refine q_iconst (pc := 24) 0 rfl (by decide) ?_
    exact q_zret (pc := 25) rfl rfl rfl ⟨congrArg (fun v => some (Value.int v)) (by first | exact st_a h1 | exact st_b h6 | exact st_c hN2 h17 | exact st_d hN2 h1 h6 h17), rfl⟩
  · refine q_iload_n (pc := 4) (j := 1) rfl rfl ?_
    refine q_iload_n (pc := 5) (j := 2) rfl rfl ?_
    refine q_icmp_gt (pc := 6) 24 rfl (by decide) (fun h6 => ?_) (fun h6 => ?_)
    · refine q_iconst (pc := 24) 0 rfl (by decide) ?_
      exact q_zret (pc := 25) rfl rfl rfl ⟨congrArg (fun v => some (Value.int v)) (by first | exact st_a h1 | exact st_b h6 | exact st_c hN2 h17 | exact st_d hN2 h1 h6 h17), rfl⟩
    · refine q_iload_n (pc := 9) (j := 2) rfl rfl ?_
      refine q_aload_n (pc := 10) (j := 0) rfl rfl ?_
      refine q_get (pc := 11) (a := 0) (v := .ref 1) rfl fl_X8_10 he.1 rfl rfl ?_
      refine q_get (pc := 14) (a := 1) (v := .int (S.1 1 1)) rfl fl_X8_86 he.2.1.1 rfl rfl ?_
      refine q_st (st2 := [.int (nI N), .int b]) (by rw [(show (S.1 1 1) = nI N from hN)]) ?_
      refine q_icmp_ge (pc := 17) 24 rfl (by decide) (fun h17 => ?_) (fun h17 => ?_)
      · refine q_iconst (pc := 24) 0 rfl (by decide) ?_
        exact q_zret (pc := 25) rfl rfl rfl ⟨congrArg (fun v => some (Value.int v)) (by first | exact st_a h1 | exact st_b h6 | exact st_c hN2 h17 | exact st_d hN2 h1 h6 h17), rfl⟩
      · refine q_iconst (pc := 20) 1 rfl (by decide) ?_
        refine q_goto (pc := 21) 25 rfl (by decide) ?_
        exact q_zret (pc := 25) rfl rfl rfl ⟨congrArg (fun v => some (Value.int v)) (by first | exact st_a h1 | exact st_b h6 | exact st_c hN2 h17 | exact st_d hN2 h1 h6 h17), rfl⟩
set_option maxRecDepth 100000 in
theorem lp_X8_countNotes {n0 : Nat} {X : Nat × (Nat → Int32)} {P : Option Value → PSt → Prop} {d : Nat} (hd9 : 1 ≤ d) {sh : List PSh} {S : PSt} {N : Nat} (he : isEl sh) (hN : S.1 1 1 = nI N) (hN2 : N ≤ 32)  (hex : pV mX8_countNotes d n0 X sh P 39 [some (.ref 0), some (.int (nI (cntN (S.1 3) N))), some (.int (nI N))] [] S) : ∀ (m k : Nat), k + m = N → pV mX8_countNotes d n0 X sh P 4 [some (.ref 0), some (.int (nI (cntN (S.1 3) k))), some (.int (nI k))] [] S := by
  intro m
  induction m with
  | zero =>
    intro k hk
    have hk9 : N = k := by omega
    subst hk9
    refine q_iload_n (pc := 4) (j := 2) rfl rfl ?_
    refine q_aload_n (pc := 5) (j := 0) rfl rfl ?_
    refine q_get (pc := 6) (a := 0) (v := .ref 1) rfl fl_X8_10 he.1 rfl rfl ?_
    refine q_get (pc := 9) (a := 1) (v := .int (S.1 1 1)) rfl fl_X8_86 he.2.1.1 rfl rfl ?_
    refine q_st (st2 := [.int (nI N), .int (nI N)]) (by rw [(show (S.1 1 1) = nI N from hN)]) ?_
    refine q_icmp_ge (pc := 12) 39 rfl (by decide) (fun _ => ?_) (fun h9 => absurd (Int32.le_refl _) h9)
    exact hex
  | succ m ih =>
    intro k hk
    have hk1 : k < N := by omega
    have hk2 : k < N := hk1
    refine q_iload_n (pc := 4) (j := 2) rfl rfl ?_
    refine q_aload_n (pc := 5) (j := 0) rfl rfl ?_
    refine q_get (pc := 6) (a := 0) (v := .ref 1) rfl fl_X8_10 he.1 rfl rfl ?_
    refine q_get (pc := 9) (a := 1) (v := .int (S.1 1 1)) rfl fl_X8_86 he.2.1.1 rfl rfl ?_
    refine q_st (st2 := [.int (nI N), .int (nI k)]) (by rw [(show (S.1 1 1) = nI N from hN)]) ?_
    refine q_icmp_ge (pc := 12) 39 rfl (by decide) (fun h9 => absurd h9 (nI_ge hk1 (by omega))) (fun _ => ?_)
    refine q_aload_n (pc := 15) (j := 0) rfl rfl ?_
    refine q_get (pc := 16) (a := 0) (v := .ref 1) rfl fl_X8_10 he.1 rfl rfl ?_
    refine q_get (pc := 19) (a := 1) (v := .ref 2) rfl fl_X8_90 he.2.1.1 rfl rfl ?_
    refine q_iload_n (pc := 22) (j := 2) rfl rfl ?_
    refine q_iconst (pc := 23) 0 rfl (by decide) ?_
    refine q_callV (pc := 24) (as := [.int (nI k), .int 0]) (rest := []) (b := 2) (st2 := [.int (S.1 3 (5 * k + 0))]) rfl ce_X4_part ml_X8_105 im_X4_part se_X4_part he.2.1.2.1.1 rfl rfl rfl (by omega) (Nat.le_of_ble_eq_true rfl) (sp_X4_part (c := k) (w := 0) he.2.1.2.1 (by omega) (by omega)) rfl ?_
    refine q_if_ne (pc := 27) 33 rfl (by decide) (fun h27 => ?_) (fun h27 => ?_)
    · refine q_iinc (pc := 33) (j := 2) (n := 1) (nI (k + 1)) [some (.ref 0), some (.int (nI (cntN (S.1 3) k))), some (.int (nI (k + 1)))] rfl (by decide) rfl (nI_1 k) rfl ?_
      refine q_goto (pc := 36) 4 rfl (by decide) ?_
      exact q_L (by rw [cntN, if_neg h27]) (ih (k + 1) (by omega))
    · refine q_iinc (pc := 30) (j := 1) (n := 1) (nI (cntN (S.1 3) k + 1)) [some (.ref 0), some (.int (nI (cntN (S.1 3) k + 1))), some (.int (nI k))] rfl (by decide) rfl (nI_1 _) rfl ?_
      refine q_iinc (pc := 33) (j := 2) (n := 1) (nI (k + 1)) [some (.ref 0), some (.int (nI (cntN (S.1 3) k + 1))), some (.int (nI (k + 1)))] rfl (by decide) rfl (nI_1 k) rfl ?_
      refine q_goto (pc := 36) 4 rfl (by decide) ?_
      exact q_L (by rw [cntN, if_pos h27]) (ih (k + 1) (by omega))
set_option maxRecDepth 100000 in
theorem sp_X8_countNotes {sh : List PSh} {S : PSt} {N : Nat} (he : isEl sh) (hN : S.1 1 1 = nI N) (hN2 : N ≤ 32)  : pF mX8_countNotes 1 [.ref 0] sh S S (some (.int (nI (cntN (S.1 3) N)))) := by
  refine pF.of (pG.of [some (.ref 0), none, none] (by decide) tk_X8_countNotes (Nat.le_of_ble_eq_true rfl) rfl (fun X => ?_))
  refine q_iconst (pc := 0) 0 rfl (by decide) ?_
  refine q_istore_n (pc := 1) (j := 1) [some (.ref 0), some (.int 0), none] rfl (by decide) rfl ?_
  refine q_iconst (pc := 2) 0 rfl (by decide) ?_
  refine q_istore_n (pc := 3) (j := 2) [some (.ref 0), some (.int 0), some (.int 0)] rfl (by decide) rfl ?_
  refine lp_X8_countNotes (by decide) he hN hN2 ?_ N 0 (Nat.zero_add N)
  refine q_iload_n (pc := 39) (j := 1) rfl rfl ?_
  exact q_iret (pc := 40) rfl rfl ⟨rfl, rfl⟩
set_option maxRecDepth 100000 in
theorem lp_X8_sumDurations {n0 : Nat} {X : Nat × (Nat → Int32)} {P : Option Value → PSt → Prop} {d : Nat} (hd9 : 1 ≤ d) {sh : List PSh} {S : PSt} {N : Nat} (he : isEl sh) (hN : S.1 1 1 = nI N) (hN2 : N ≤ 32)  (hex : pV mX8_sumDurations d n0 X sh P 52 [some (.ref 0), some (.int (sumD (S.1 3) N)), some (.int (nI N))] [] S) : ∀ (m k : Nat), k + m = N → pV mX8_sumDurations d n0 X sh P 4 [some (.ref 0), some (.int (sumD (S.1 3) k)), some (.int (nI k))] [] S := by
  intro m
  induction m with
  | zero =>
    intro k hk
    have hk9 : N = k := by omega
    subst hk9
    refine q_iload_n (pc := 4) (j := 2) rfl rfl ?_
    refine q_aload_n (pc := 5) (j := 0) rfl rfl ?_
    refine q_get (pc := 6) (a := 0) (v := .ref 1) rfl fl_X8_10 he.1 rfl rfl ?_
    refine q_get (pc := 9) (a := 1) (v := .int (S.1 1 1)) rfl fl_X8_86 he.2.1.1 rfl rfl ?_
    refine q_st (st2 := [.int (nI N), .int (nI N)]) (by rw [(show (S.1 1 1) = nI N from hN)]) ?_
    refine q_icmp_ge (pc := 12) 52 rfl (by decide) (fun _ => ?_) (fun h9 => absurd (Int32.le_refl _) h9)
    exact hex
  | succ m ih =>
    intro k hk
    have hk1 : k < N := by omega
    have hk2 : k < N := hk1
    refine q_iload_n (pc := 4) (j := 2) rfl rfl ?_
    refine q_aload_n (pc := 5) (j := 0) rfl rfl ?_
    refine q_get (pc := 6) (a := 0) (v := .ref 1) rfl fl_X8_10 he.1 rfl rfl ?_
    refine q_get (pc := 9) (a := 1) (v := .int (S.1 1 1)) rfl fl_X8_86 he.2.1.1 rfl rfl ?_
    refine q_st (st2 := [.int (nI N), .int (nI k)]) (by rw [(show (S.1 1 1) = nI N from hN)]) ?_
    refine q_icmp_ge (pc := 12) 52 rfl (by decide) (fun h9 => absurd h9 (nI_ge hk1 (by omega))) (fun _ => ?_)
    refine q_aload_n (pc := 15) (j := 0) rfl rfl ?_
    refine q_get (pc := 16) (a := 0) (v := .ref 1) rfl fl_X8_10 he.1 rfl rfl ?_
    refine q_get (pc := 19) (a := 1) (v := .ref 2) rfl fl_X8_90 he.2.1.1 rfl rfl ?_
    refine q_iload_n (pc := 22) (j := 2) rfl rfl ?_
    refine q_iconst (pc := 23) 0 rfl (by decide) ?_
    refine q_callV (pc := 24) (as := [.int (nI k), .int 0]) (rest := []) (b := 2) (st2 := [.int (S.1 3 (5 * k + 0))]) rfl ce_X4_part ml_X8_105 im_X4_part se_X4_part he.2.1.2.1.1 rfl rfl rfl (by omega) (Nat.le_of_ble_eq_true rfl) (sp_X4_part (c := k) (w := 0) he.2.1.2.1 (by omega) (by omega)) rfl ?_
    refine q_iconst (pc := 27) 2 rfl (by decide) ?_
    refine q_icmp_eq (pc := 28) 46 rfl (by decide) (fun h28 => ?_) (fun h28 => ?_)
    · refine q_iinc (pc := 46) (j := 2) (n := 1) (nI (k + 1)) [some (.ref 0), some (.int (sumD (S.1 3) k)), some (.int (nI (k + 1)))] rfl (by decide) rfl (nI_1 k) rfl ?_
      refine q_goto (pc := 49) 4 rfl (by decide) ?_
      exact q_L (by rw [sumD, if_pos h28]) (ih (k + 1) (by omega))
    · refine q_iload_n (pc := 31) (j := 1) rfl rfl ?_
      refine q_aload_n (pc := 32) (j := 0) rfl rfl ?_
      refine q_get (pc := 33) (a := 0) (v := .ref 1) rfl fl_X8_10 he.1 rfl rfl ?_
      refine q_get (pc := 36) (a := 1) (v := .ref 2) rfl fl_X8_90 he.2.1.1 rfl rfl ?_
      refine q_iload_n (pc := 39) (j := 2) rfl rfl ?_
      refine q_iconst (pc := 40) 1 rfl (by decide) ?_
      refine q_callV (pc := 41) (as := [.int (nI k), .int 1]) (rest := [.int (sumD (S.1 3) k)]) (b := 2) (st2 := [.int (S.1 3 (5 * k + 1)), .int (sumD (S.1 3) k)]) rfl ce_X4_part ml_X8_105 im_X4_part se_X4_part he.2.1.2.1.1 rfl rfl rfl (by omega) (Nat.le_of_ble_eq_true rfl) (sp_X4_part (c := k) (w := 1) he.2.1.2.1 (by omega) (by omega)) rfl ?_
      refine q_iadd (pc := 44) rfl ?_
      refine q_istore_n (pc := 45) (j := 1) [some (.ref 0), some (.int ((sumD (S.1 3) k) + (S.1 3 (5 * k + 1)))), some (.int (nI k))] rfl (by decide) rfl ?_
      refine q_iinc (pc := 46) (j := 2) (n := 1) (nI (k + 1)) [some (.ref 0), some (.int ((sumD (S.1 3) k) + (S.1 3 (5 * k + 1)))), some (.int (nI (k + 1)))] rfl (by decide) rfl (nI_1 k) rfl ?_
      refine q_goto (pc := 49) 4 rfl (by decide) ?_
      exact q_L (by rw [sumD, if_neg h28]) (ih (k + 1) (by omega))
set_option maxRecDepth 100000 in
theorem sp_X8_sumDurations {sh : List PSh} {S : PSt} {N : Nat} (he : isEl sh) (hN : S.1 1 1 = nI N) (hN2 : N ≤ 32)  : pF mX8_sumDurations 1 [.ref 0] sh S S (some (.int (sumD (S.1 3) N))) := by
  refine pF.of (pG.of [some (.ref 0), none, none] (by decide) tk_X8_sumDurations (Nat.le_of_ble_eq_true rfl) rfl (fun X => ?_))
  refine q_iconst (pc := 0) 0 rfl (by decide) ?_
  refine q_istore_n (pc := 1) (j := 1) [some (.ref 0), some (.int 0), none] rfl (by decide) rfl ?_
  refine q_iconst (pc := 2) 0 rfl (by decide) ?_
  refine q_istore_n (pc := 3) (j := 2) [some (.ref 0), some (.int 0), some (.int 0)] rfl (by decide) rfl ?_
  refine lp_X8_sumDurations (by decide) he hN hN2 ?_ N 0 (Nat.zero_add N)
  refine q_iload_n (pc := 52) (j := 1) rfl rfl ?_
  exact q_iret (pc := 53) rfl rfl ⟨rfl, rfl⟩
set_option maxRecDepth 100000 in
theorem sp_X8_inkTowards {sh : List PSh} {S : PSt} (he : isEl sh) {c : Nat} {up : Bool} (hc : c < 36) : pF mX8_inkTowards 2 [.ref 0, .int (nI c), .int (pB up)] sh S S (some (.int (inkV (S.1 3) up c))) := by
  refine pF.of (pG.of [some (.ref 0), some (.int (nI c)), some (.int (pB up))] (by decide) tk_X8_inkTowards (Nat.le_of_ble_eq_true rfl) rfl (fun X => ?_))
  refine q_iload_n (pc := 0) (j := 2) rfl rfl ?_
  refine q_if_eq (pc := 1) 18 rfl (by decide) (fun h1 => ?_) (fun h1 => ?_)
  · refine q_iconst (pc := 18) 0 rfl (by decide) ?_
    refine q_aload_n (pc := 19) (j := 0) rfl rfl ?_
    refine q_get (pc := 20) (a := 0) (v := .ref 1) rfl fl_X8_10 he.1 rfl rfl ?_
    refine q_get (pc := 23) (a := 1) (v := .ref 2) rfl fl_X8_90 he.2.1.1 rfl rfl ?_
    refine q_iload_n (pc := 26) (j := 1) rfl rfl ?_
    refine q_callV (pc := 27) (as := [.int (nI c)]) (rest := [.int 0]) (b := 2) (st2 := [.int (botV (S.1 3 (5 * c + 0)) (S.1 3 (5 * c + 2))), .int 0]) rfl ce_X4_bottom ml_X8_116 im_X4_bottom se_X4_bottom he.2.1.2.1.1 rfl rfl rfl (by decide) (Nat.le_of_ble_eq_true rfl) (sp_X4_bottom (c := c) he.2.1.2.1 (by omega)) rfl ?_
    refine q_isub (pc := 30) rfl ?_
    exact q_iret (pc := 31) rfl rfl ⟨congrArg (fun v => some (Value.int v)) (by first | (rw [inkV, if_pos (pB_t h1)]; rfl) | (rw [inkV, if_neg (by rw [pB_f h1]; decide)]; rfl)), rfl⟩
  · refine q_aload_n (pc := 4) (j := 0) rfl rfl ?_
    refine q_get (pc := 5) (a := 0) (v := .ref 1) rfl fl_X8_10 he.1 rfl rfl ?_
    refine q_get (pc := 8) (a := 1) (v := .ref 2) rfl fl_X8_90 he.2.1.1 rfl rfl ?_
    refine q_iload_n (pc := 11) (j := 1) rfl rfl ?_
    refine q_callV (pc := 12) (as := [.int (nI c)]) (rest := []) (b := 2) (st2 := [.int (topV (S.1 3 (5 * c + 0)) (S.1 3 (5 * c + 2)) (S.1 3 (5 * c + 4)))]) rfl ce_X4_top ml_X8_113 im_X4_top se_X4_top he.2.1.2.1.1 rfl rfl rfl (by decide) (Nat.le_of_ble_eq_true rfl) (sp_X4_top (c := c) he.2.1.2.1 (by omega)) rfl ?_
    refine q_goto (pc := 15) 31 rfl (by decide) ?_
    exact q_iret (pc := 31) rfl rfl ⟨congrArg (fun v => some (Value.int v)) (by first | (rw [inkV, if_pos (pB_t h1)]; rfl) | (rw [inkV, if_neg (by rw [pB_f h1]; decide)]; rfl)), rfl⟩
set_option maxRecDepth 100000 in
theorem lp_X8_slurHeight {n0 : Nat} {X : Nat × (Nat → Int32)} {P : Option Value → PSt → Prop} {d : Nat} (hd9 : 3 ≤ d) {sh : List PSh} {S : PSt} (he : isEl sh) {x y : Nat} {up : Bool} (hy : y < 32) (hxy : x + 2 ≤ y)  (hex : ∀ f i, pV mX8_slurHeight d n0 X sh P 88 [some (.ref 0), some (.int (nI x)), some (.int (nI y)), some (.int (pB up)), some (.int (endV (S.1 3) up x y)), some (.int (nI (y - x - 1))), some (.int (slhV (S.1 3) up x y (y - x - 1))), some (.int i), f] [] S) : ∀ (m k : Nat) (f : Option Value), k + m = (y - x - 1) → pV mX8_slurHeight d n0 X sh P 30 [some (.ref 0), some (.int (nI x)), some (.int (nI y)), some (.int (pB up)), some (.int (endV (S.1 3) up x y)), some (.int (nI (y - x - 1))), some (.int (slhV (S.1 3) up x y k)), some (.int (nI (k + 1))), f] [] S := by
  intro m
  induction m with
  | zero =>
    intro k f hk
    have hk9 : (y - x - 1) = k := by omega
    subst hk9
    refine q_iload (pc := 30) (j := 7) rfl rfl ?_
    refine q_iload (pc := 32) (j := 5) rfl rfl ?_
    refine q_icmp_gt (pc := 34) 88 rfl (by decide) (fun _ => ?_) (fun h9 => absurd (nI_lt (by omega) (by omega)) h9)
    exact hex _ _
  | succ m ih =>
    intro k f hk
    have hk1 : k < (y - x - 1) := by omega
    have hk2 : k < (y - x - 1) := hk1
    refine q_iload (pc := 30) (j := 7) rfl rfl ?_
    refine q_iload (pc := 32) (j := 5) rfl rfl ?_
    refine q_icmp_gt (pc := 34) 88 rfl (by decide) (fun h9 => absurd h9 (nI_nlt (by omega) (by omega))) (fun _ => ?_)
    refine q_iconst (pc := 37) 2 rfl (by decide) ?_
    refine q_iload (pc := 38) (j := 7) rfl rfl ?_
    refine q_iload (pc := 40) (j := 5) rfl rfl ?_
    refine q_iconst (pc := 42) 1 rfl (by decide) ?_
    refine q_iadd (pc := 43) rfl ?_
    refine q_iload (pc := 44) (j := 7) rfl rfl ?_
    refine q_isub (pc := 46) rfl ?_
    refine q_min (pc := 47) rfl ml_X8_352 (by omega) (Nat.le_of_ble_eq_true rfl) ?_
    refine q_imul (pc := 50) rfl ?_
    refine q_bipush (pc := 51) 6 rfl (by decide) ?_
    refine q_min (pc := 53) rfl ml_X8_352 (by omega) (Nat.le_of_ble_eq_true rfl) ?_
    refine q_istore (pc := 56) (j := 8) [some (.ref 0), some (.int (nI x)), some (.int (nI y)), some (.int (pB up)), some (.int (endV (S.1 3) up x y)), some (.int (nI (y - x - 1))), some (.int (slhV (S.1 3) up x y k)), some (.int (nI (k + 1))), some (.int (if 6 < (2 * (if (((nI (y - x - 1)) + 1) - (nI (k + 1))) < (nI (k + 1)) then (((nI (y - x - 1)) + 1) - (nI (k + 1))) else (nI (k + 1)))) then 6 else (2 * (if (((nI (y - x - 1)) + 1) - (nI (k + 1))) < (nI (k + 1)) then (((nI (y - x - 1)) + 1) - (nI (k + 1))) else (nI (k + 1))))))] rfl (by decide) rfl ?_
    refine q_L (L2 := [some (.ref 0), some (.int (nI x)), some (.int (nI y)), some (.int (pB up)), some (.int (endV (S.1 3) up x y)), some (.int (nI (y - x - 1))), some (.int (slhV (S.1 3) up x y k)), some (.int (nI (k + 1))), some (.int (bowV (y - x - 1) (k + 1)))]) rfl ?_
    refine q_iload (pc := 58) (j := 6) rfl rfl ?_
    refine q_aload_n (pc := 60) (j := 0) rfl rfl ?_
    refine q_iload_n (pc := 61) (j := 1) rfl rfl ?_
    refine q_iload (pc := 62) (j := 7) rfl rfl ?_
    refine q_iadd (pc := 64) rfl ?_
    refine q_st (st2 := [.int (nI (x + (k + 1))), .ref 0, .int (slhV (S.1 3) up x y k)]) (by rw [nI_add]) ?_
    refine q_iload_n (pc := 65) (j := 3) rfl rfl ?_
    refine q_callV (pc := 66) (as := [.int (nI (x + (k + 1))), .int (pB up)]) (rest := [.int (slhV (S.1 3) up x y k)]) (b := 0) (st2 := [.int (inkV (S.1 3) up (x + (k + 1))), .int (slhV (S.1 3) up x y k)]) rfl ce_X8_inkTowards ml_X8_348 im_X8_inkTowards se_X8_inkTowards he.1 rfl rfl rfl (by omega) (Nat.le_of_ble_eq_true rfl) (sp_X8_inkTowards (c := (x + (k + 1))) (up := up) he (by omega)) rfl ?_
    refine q_iconst (pc := 69) 1 rfl (by decide) ?_
    refine q_iadd (pc := 70) rfl ?_
    refine q_iload (pc := 71) (j := 4) rfl rfl ?_
    refine q_isub (pc := 73) rfl ?_
    refine q_iload (pc := 74) (j := 8) rfl rfl ?_
    refine q_isub (pc := 76) rfl ?_
    refine q_max (pc := 77) rfl ml_X8_339 (by omega) (Nat.le_of_ble_eq_true rfl) ?_
    refine q_istore (pc := 80) (j := 6) [some (.ref 0), some (.int (nI x)), some (.int (nI y)), some (.int (pB up)), some (.int (endV (S.1 3) up x y)), some (.int (nI (y - x - 1))), some (.int (if (slhV (S.1 3) up x y k) < ((((inkV (S.1 3) up (x + (k + 1))) + 1) - (endV (S.1 3) up x y)) - (bowV (y - x - 1) (k + 1))) then ((((inkV (S.1 3) up (x + (k + 1))) + 1) - (endV (S.1 3) up x y)) - (bowV (y - x - 1) (k + 1))) else (slhV (S.1 3) up x y k))), some (.int (nI (k + 1))), some (.int (bowV (y - x - 1) (k + 1)))] rfl (by decide) rfl ?_
    refine q_iinc (pc := 82) (j := 7) (n := 1) (nI (k + 1 + 1)) [some (.ref 0), some (.int (nI x)), some (.int (nI y)), some (.int (pB up)), some (.int (endV (S.1 3) up x y)), some (.int (nI (y - x - 1))), some (.int (if (slhV (S.1 3) up x y k) < ((((inkV (S.1 3) up (x + (k + 1))) + 1) - (endV (S.1 3) up x y)) - (bowV (y - x - 1) (k + 1))) then ((((inkV (S.1 3) up (x + (k + 1))) + 1) - (endV (S.1 3) up x y)) - (bowV (y - x - 1) (k + 1))) else (slhV (S.1 3) up x y k))), some (.int (nI (k + 1 + 1))), some (.int (bowV (y - x - 1) (k + 1)))] rfl (by decide) rfl (nI_1 (k + 1)) rfl ?_
    refine q_goto (pc := 85) 30 rfl (by decide) ?_
    exact ih (k + 1) _ (by omega)
set_option maxRecDepth 100000 in
theorem sp_X8_slurHeight {sh : List PSh} {S : PSt} (he : isEl sh) {x y : Nat} {up : Bool} (hy : y < 32) (hxy : x + 2 ≤ y)  : pF mX8_slurHeight 3 [.ref 0, .int (nI x), .int (nI y), .int (pB up)] sh S S (some (.int (sluV (S.1 3) up x y))) := by
  refine pF.of (pG.of [some (.ref 0), some (.int (nI x)), some (.int (nI y)), some (.int (pB up)), none, none, none, none, none] (by decide) tk_X8_slurHeight (Nat.le_of_ble_eq_true rfl) rfl (fun X => ?_))
  refine q_aload_n (pc := 0) (j := 0) rfl rfl ?_
  refine q_iload_n (pc := 1) (j := 1) rfl rfl ?_
  refine q_iload_n (pc := 2) (j := 3) rfl rfl ?_
  refine q_callV (pc := 3) (as := [.int (nI x), .int (pB up)]) (rest := []) (b := 0) (st2 := [.int (inkV (S.1 3) up x)]) rfl ce_X8_inkTowards ml_X8_348 im_X8_inkTowards se_X8_inkTowards he.1 rfl rfl rfl (by decide) (Nat.le_of_ble_eq_true rfl) (sp_X8_inkTowards (c := x) (up := up) he (by omega)) rfl ?_
  refine q_aload_n (pc := 6) (j := 0) rfl rfl ?_
  refine q_iload_n (pc := 7) (j := 2) rfl rfl ?_
  refine q_iload_n (pc := 8) (j := 3) rfl rfl ?_
  refine q_callV (pc := 9) (as := [.int (nI y), .int (pB up)]) (rest := [.int (inkV (S.1 3) up x)]) (b := 0) (st2 := [.int (inkV (S.1 3) up y), .int (inkV (S.1 3) up x)]) rfl ce_X8_inkTowards ml_X8_348 im_X8_inkTowards se_X8_inkTowards he.1 rfl rfl rfl (by decide) (Nat.le_of_ble_eq_true rfl) (sp_X8_inkTowards (c := y) (up := up) he (by omega)) rfl ?_
  refine q_max (pc := 12) rfl ml_X8_339 (by decide) (Nat.le_of_ble_eq_true rfl) ?_
  refine q_istore (pc := 15) (j := 4) [some (.ref 0), some (.int (nI x)), some (.int (nI y)), some (.int (pB up)), some (.int (if (inkV (S.1 3) up x) < (inkV (S.1 3) up y) then (inkV (S.1 3) up y) else (inkV (S.1 3) up x))), none, none, none, none] rfl (by decide) rfl ?_
  refine q_iload_n (pc := 17) (j := 2) rfl rfl ?_
  refine q_iload_n (pc := 18) (j := 1) rfl rfl ?_
  refine q_isub (pc := 19) rfl ?_
  refine q_iconst (pc := 20) 1 rfl (by decide) ?_
  refine q_isub (pc := 21) rfl ?_
  refine q_st (st2 := [.int (nI (y - x - 1))]) (by rw [pk_sub (by omega), show (1 : Int32) = nI 1 from rfl, pk_sub (by omega)]) ?_
  refine q_istore (pc := 22) (j := 5) [some (.ref 0), some (.int (nI x)), some (.int (nI y)), some (.int (pB up)), some (.int (if (inkV (S.1 3) up x) < (inkV (S.1 3) up y) then (inkV (S.1 3) up y) else (inkV (S.1 3) up x))), some (.int (nI (y - x - 1))), none, none, none] rfl (by decide) rfl ?_
  refine q_iconst (pc := 24) 0 rfl (by decide) ?_
  refine q_istore (pc := 25) (j := 6) [some (.ref 0), some (.int (nI x)), some (.int (nI y)), some (.int (pB up)), some (.int (if (inkV (S.1 3) up x) < (inkV (S.1 3) up y) then (inkV (S.1 3) up y) else (inkV (S.1 3) up x))), some (.int (nI (y - x - 1))), some (.int 0), none, none] rfl (by decide) rfl ?_
  refine q_iconst (pc := 27) 1 rfl (by decide) ?_
  refine q_istore (pc := 28) (j := 7) [some (.ref 0), some (.int (nI x)), some (.int (nI y)), some (.int (pB up)), some (.int (if (inkV (S.1 3) up x) < (inkV (S.1 3) up y) then (inkV (S.1 3) up y) else (inkV (S.1 3) up x))), some (.int (nI (y - x - 1))), some (.int 0), some (.int 1), none] rfl (by decide) rfl ?_
  refine lp_X8_slurHeight (by decide) he hy hxy (fun f i => ?_) (y - x - 1) 0 _ (Nat.zero_add _)
  refine q_iload (pc := 88) (j := 6) rfl rfl ?_
  exact q_iret (pc := 90) rfl rfl ⟨rfl, rfl⟩
theorem ntsV_no {g : Nat → Int32} {x k : Nat} : ∀ {n : Nat}, k < n → ¬ g (5 * (x + k) + 0) = 0 → ntsV g x n = false := by
  intro n
  induction n with
  | zero => intro h; omega
  | succ n ih =>
    intro h h2
    unfold ntsV
    by_cases e : k = n
    · subst e; rw [decide_eq_false h2, Bool.and_false]
    · rw [ih (by omega) h2, Bool.false_and]
set_option maxRecDepth 100000 in
theorem lp_X8_areNotes {n0 : Nat} {X : Nat × (Nat → Int32)} {P : Option Value → PSt → Prop} {d : Nat} (hd9 : 1 ≤ d) {sh : List PSh} {S : PSt} (he : isEl sh) {x y n : Nat} (hy : y < 32) (hn : x + n = y + 1)  (hex : ntsV (S.1 3) x n = true → pV mX8_areNotes d n0 X sh P 30 [some (.ref 0), some (.int (nI x)), some (.int (nI y)), some (.int (nI (x + n)))] [] S) (hno : ntsV (S.1 3) x n = false → P (some (.int 0)) S) : ∀ (m k : Nat), k + m = n → ntsV (S.1 3) x k = true → pV mX8_areNotes d n0 X sh P 2 [some (.ref 0), some (.int (nI x)), some (.int (nI y)), some (.int (nI (x + k)))] [] S := by
  intro m
  induction m with
  | zero =>
    intro k hk hnt
    have hk9 : n = k := by omega
    subst hk9
    refine q_iload_n (pc := 2) (j := 3) rfl rfl ?_
    refine q_iload_n (pc := 3) (j := 2) rfl rfl ?_
    refine q_icmp_gt (pc := 4) 30 rfl (by decide) (fun _ => ?_) (fun h9 => absurd (nI_lt (by omega) (by omega)) h9)
    exact hex hnt
  | succ m ih =>
    intro k hk hnt
    have hk1 : k < n := by omega
    have hk2 : k < n := hk1
    refine q_iload_n (pc := 2) (j := 3) rfl rfl ?_
    refine q_iload_n (pc := 3) (j := 2) rfl rfl ?_
    refine q_icmp_gt (pc := 4) 30 rfl (by decide) (fun h9 => absurd h9 (nI_nlt (by omega) (by omega))) (fun _ => ?_)
    refine q_aload_n (pc := 7) (j := 0) rfl rfl ?_
    refine q_get (pc := 8) (a := 0) (v := .ref 1) rfl fl_X8_10 he.1 rfl rfl ?_
    refine q_get (pc := 11) (a := 1) (v := .ref 2) rfl fl_X8_90 he.2.1.1 rfl rfl ?_
    refine q_iload_n (pc := 14) (j := 3) rfl rfl ?_
    refine q_iconst (pc := 15) 0 rfl (by decide) ?_
    refine q_callV (pc := 16) (as := [.int (nI (x + k)), .int 0]) (rest := []) (b := 2) (st2 := [.int (S.1 3 (5 * (x + k) + 0))]) rfl ce_X4_part ml_X8_105 im_X4_part se_X4_part he.2.1.2.1.1 rfl rfl rfl (by omega) (Nat.le_of_ble_eq_true rfl) (sp_X4_part (c := (x + k)) (w := 0) he.2.1.2.1 (by omega) (by omega)) rfl ?_
    refine q_if_eq (pc := 19) 24 rfl (by decide) (fun h19 => ?_) (fun h19 => ?_)
    · refine q_iinc (pc := 24) (j := 3) (n := 1) (nI (x + (k + 1))) [some (.ref 0), some (.int (nI x)), some (.int (nI y)), some (.int (nI (x + (k + 1))))] rfl (by decide) rfl (show nI (x + k) + 1 = nI (x + (k + 1)) from nI_1 (x + k)) rfl ?_
      refine q_goto (pc := 27) 2 rfl (by decide) ?_
      exact ih (k + 1) (by omega) (by rw [ntsV, hnt, decide_eq_true h19]; rfl)
    · refine q_iconst (pc := 22) 0 rfl (by decide) ?_
      exact q_zret (pc := 23) rfl rfl rfl (hno (ntsV_no (k := k) (by omega) h19))
set_option maxRecDepth 100000 in
theorem sp_X8_areNotes {sh : List PSh} {S : PSt} (he : isEl sh) {x y n : Nat} (hy : y < 32) (hn : x + n = y + 1)  : pF mX8_areNotes 1 [.ref 0, .int (nI x), .int (nI y)] sh S S (some (.int (pB (ntsV (S.1 3) x n)))) := by
  refine pF.of (pG.of [some (.ref 0), some (.int (nI x)), some (.int (nI y)), none] (by decide) tk_X8_areNotes (Nat.le_of_ble_eq_true rfl) rfl (fun X => ?_))
  refine q_iload_n (pc := 0) (j := 1) rfl rfl ?_
  refine q_istore_n (pc := 1) (j := 3) [some (.ref 0), some (.int (nI x)), some (.int (nI y)), some (.int (nI x))] rfl (by decide) rfl ?_
  refine lp_X8_areNotes (by decide) he hy hn (fun hnt => ?_) (fun hnt => ⟨congrArg (fun v => some (Value.int v)) (by rw [hnt]; rfl), rfl⟩) n 0 (Nat.zero_add n) rfl
  refine q_iconst (pc := 30) 1 rfl (by decide) ?_
  exact q_zret (pc := 31) rfl rfl rfl ⟨congrArg (fun v => some (Value.int v)) (by rw [hnt]; rfl), rfl⟩
set_option maxRecDepth 100000 in
theorem lp_X8_beamGoesUp {n0 : Nat} {X : Nat × (Nat → Int32)} {P : Option Value → PSt → Prop} {d : Nat} (hd9 : 1 ≤ d) {sh : List PSh} {S : PSt} (he : isEl sh) {x y n : Nat} (hy : y < 32) (hn : x + n = y + 1)  (hex : pV mX8_beamGoesUp d n0 X sh P 33 [some (.ref 0), some (.int (nI x)), some (.int (nI y)), some (.int (stpV (S.1 3) x n)), some (.int (nI (x + n)))] [] S) : ∀ (m k : Nat), k + m = n → pV mX8_beamGoesUp d n0 X sh P 5 [some (.ref 0), some (.int (nI x)), some (.int (nI y)), some (.int (stpV (S.1 3) x k)), some (.int (nI (x + k)))] [] S := by
  intro m
  induction m with
  | zero =>
    intro k hk
    have hk9 : n = k := by omega
    subst hk9
    refine q_iload (pc := 5) (j := 4) rfl rfl ?_
    refine q_iload_n (pc := 7) (j := 2) rfl rfl ?_
    refine q_icmp_gt (pc := 8) 33 rfl (by decide) (fun _ => ?_) (fun h9 => absurd (nI_lt (by omega) (by omega)) h9)
    exact hex
  | succ m ih =>
    intro k hk
    have hk1 : k < n := by omega
    have hk2 : k < n := hk1
    refine q_iload (pc := 5) (j := 4) rfl rfl ?_
    refine q_iload_n (pc := 7) (j := 2) rfl rfl ?_
    refine q_icmp_gt (pc := 8) 33 rfl (by decide) (fun h9 => absurd h9 (nI_nlt (by omega) (by omega))) (fun _ => ?_)
    refine q_iload_n (pc := 11) (j := 3) rfl rfl ?_
    refine q_aload_n (pc := 12) (j := 0) rfl rfl ?_
    refine q_get (pc := 13) (a := 0) (v := .ref 1) rfl fl_X8_10 he.1 rfl rfl ?_
    refine q_get (pc := 16) (a := 1) (v := .ref 2) rfl fl_X8_90 he.2.1.1 rfl rfl ?_
    refine q_iload (pc := 19) (j := 4) rfl rfl ?_
    refine q_iconst (pc := 21) 2 rfl (by decide) ?_
    refine q_callV (pc := 22) (as := [.int (nI (x + k)), .int 2]) (rest := [.int (stpV (S.1 3) x k)]) (b := 2) (st2 := [.int (S.1 3 (5 * (x + k) + 2)), .int (stpV (S.1 3) x k)]) rfl ce_X4_part ml_X8_105 im_X4_part se_X4_part he.2.1.2.1.1 rfl rfl rfl (by omega) (Nat.le_of_ble_eq_true rfl) (sp_X4_part (c := (x + k)) (w := 2) he.2.1.2.1 (by omega) (by omega)) rfl ?_
    refine q_iadd (pc := 25) rfl ?_
    refine q_istore_n (pc := 26) (j := 3) [some (.ref 0), some (.int (nI x)), some (.int (nI y)), some (.int ((stpV (S.1 3) x k) + (S.1 3 (5 * (x + k) + 2)))), some (.int (nI (x + k)))] rfl (by decide) rfl ?_
    refine q_iinc (pc := 27) (j := 4) (n := 1) (nI (x + (k + 1))) [some (.ref 0), some (.int (nI x)), some (.int (nI y)), some (.int ((stpV (S.1 3) x k) + (S.1 3 (5 * (x + k) + 2)))), some (.int (nI (x + (k + 1))))] rfl (by decide) rfl (show nI (x + k) + 1 = nI (x + (k + 1)) from nI_1 (x + k)) rfl ?_
    refine q_goto (pc := 30) 5 rfl (by decide) ?_
    exact ih (k + 1) (by omega)
set_option maxRecDepth 100000 in
theorem sp_X8_beamGoesUp {sh : List PSh} {S : PSt} (he : isEl sh) {x y n : Nat} (hy : y < 32) (hn : x + n = y + 1)  : pF mX8_beamGoesUp 1 [.ref 0, .int (nI x), .int (nI y)] sh S S (some (.int (pB (upV (S.1 3) x n)))) := by
  refine pF.of (pG.of [some (.ref 0), some (.int (nI x)), some (.int (nI y)), none, none] (by decide) tk_X8_beamGoesUp (Nat.le_of_ble_eq_true rfl) rfl (fun X => ?_))
  refine q_iconst (pc := 0) 0 rfl (by decide) ?_
  refine q_istore_n (pc := 1) (j := 3) [some (.ref 0), some (.int (nI x)), some (.int (nI y)), some (.int 0), none] rfl (by decide) rfl ?_
  refine q_iload_n (pc := 2) (j := 1) rfl rfl ?_
  refine q_istore (pc := 3) (j := 4) [some (.ref 0), some (.int (nI x)), some (.int (nI y)), some (.int 0), some (.int (nI x))] rfl (by decide) rfl ?_
  refine lp_X8_beamGoesUp (by decide) he hy hn ?_ n 0 (Nat.zero_add n)
  refine q_iload_n (pc := 33) (j := 3) rfl rfl ?_
  refine q_if_ge (pc := 34) 41 rfl (by decide) (fun h34 => ?_) (fun h34 => ?_)
  · refine q_iconst (pc := 41) 0 rfl (by decide) ?_
    exact q_zret (pc := 42) rfl rfl rfl ⟨congrArg (fun v => some (Value.int v)) (by first | (rw [upV, decide_eq_true (Int32.not_le.mp h34)]; rfl) | (rw [upV, decide_eq_false (Int32.not_lt.mpr h34)]; rfl)), rfl⟩
  · refine q_iconst (pc := 37) 1 rfl (by decide) ?_
    refine q_goto (pc := 38) 42 rfl (by decide) ?_
    exact q_zret (pc := 42) rfl rfl rfl ⟨congrArg (fun v => some (Value.int v)) (by first | (rw [upV, decide_eq_true (Int32.not_le.mp h34)]; rfl) | (rw [upV, decide_eq_false (Int32.not_lt.mpr h34)]; rfl)), rfl⟩
def okRi (c : Int32) (p : UInt32) : Prop := fgt p FP.fconst0 = true → vf_n32 (FP.fmul (FP.i2f c) 1056964608) ∧ vf_n32 (FP.fdiv (FP.fmul (FP.i2f c) 1056964608) p)
def okSl (r : UInt32) : Prop := vf_n32 (FP.fmul r 1082130432) ∧ vf_n32 (qrtV r) ∧ vf_n32 (FP.fdiv (FP.i2f (whoV (qrtV r))) 1082130432)
def okTi (up : Bool) (s : UInt32) : Prop := up = false → vf_n32 (FP.fsub FP.fconst0 s)
def okDr (up : Bool) (t : UInt32) (s : Int32) (p pe : UInt32) : Prop := okTi up (FP.i2f s) ∧ vf_n32 (FP.fsub p pe) ∧ vf_n32 (FP.fmul t (FP.fsub p pe)) ∧ vf_n32 (FP.fmul (FP.fmul t (FP.fsub p pe)) FP.fconst2) ∧ vf_n32 (droC up t s p pe)
/-- the first k places of the stretch at 15 -/
def bmR (S : PSt) (y x : Nat) : UInt32 := riseC (S.1 3 (5 * y + 2) - S.1 3 (5 * x + 2)) (S.2.1 21 (y - x))
set_option maxRecDepth 100000 in
theorem sp_X8_beamRise {sh : List PSh} {S : PSt} (he : isEl sh) {x y : Nat} (hf : S.1 15 6 = nI x) (hy : y < 32) (hxy : x ≤ y) (hok : okRi (S.1 3 (5 * y + 2) - S.1 3 (5 * x + 2)) (S.2.1 21 (y - x))) : pF mX8_beamRise 2 [.ref 0, .int (nI x), .int (nI y)] sh S S (some (.float (bmR S y x))) := by
  refine pF.of (pG.of [some (.ref 0), some (.int (nI x)), some (.int (nI y)), none, none] (by decide) tk_X8_beamRise (Nat.le_of_ble_eq_true rfl) rfl (fun X => ?_))
  refine q_aload_n (pc := 0) (j := 0) rfl rfl ?_
  refine q_get (pc := 1) (a := 0) (v := .ref 1) rfl fl_X8_10 he.1 rfl rfl ?_
  refine q_get (pc := 4) (a := 1) (v := .ref 2) rfl fl_X8_90 he.2.1.1 rfl rfl ?_
  refine q_iload_n (pc := 7) (j := 2) rfl rfl ?_
  refine q_iconst (pc := 8) 2 rfl (by decide) ?_
  refine q_callV (pc := 9) (as := [.int (nI y), .int 2]) (rest := []) (b := 2) (st2 := [.int (S.1 3 (5 * y + 2))]) rfl ce_X4_part ml_X8_105 im_X4_part se_X4_part he.2.1.2.1.1 rfl rfl rfl (by decide) (Nat.le_of_ble_eq_true rfl) (sp_X4_part (c := y) (w := 2) he.2.1.2.1 (by omega) (by omega)) rfl ?_
  refine q_aload_n (pc := 12) (j := 0) rfl rfl ?_
  refine q_get (pc := 13) (a := 0) (v := .ref 1) rfl fl_X8_10 he.1 rfl rfl ?_
  refine q_get (pc := 16) (a := 1) (v := .ref 2) rfl fl_X8_90 he.2.1.1 rfl rfl ?_
  refine q_iload_n (pc := 19) (j := 1) rfl rfl ?_
  refine q_iconst (pc := 20) 2 rfl (by decide) ?_
  refine q_callV (pc := 21) (as := [.int (nI x), .int 2]) (rest := [.int (S.1 3 (5 * y + 2))]) (b := 2) (st2 := [.int (S.1 3 (5 * x + 2)), .int (S.1 3 (5 * y + 2))]) rfl ce_X4_part ml_X8_105 im_X4_part se_X4_part he.2.1.2.1.1 rfl rfl rfl (by decide) (Nat.le_of_ble_eq_true rfl) (sp_X4_part (c := x) (w := 2) he.2.1.2.1 (by omega) (by omega)) rfl ?_
  refine q_isub (pc := 24) rfl ?_
  refine q_istore_n (pc := 25) (j := 3) [some (.ref 0), some (.int (nI x)), some (.int (nI y)), some (.int ((S.1 3 (5 * y + 2)) - (S.1 3 (5 * x + 2)))), none] rfl (by decide) rfl ?_
  refine q_aload_n (pc := 26) (j := 0) rfl rfl ?_
  refine q_get (pc := 27) (a := 0) (v := .ref 15) rfl fl_X8_26 he.1 rfl rfl ?_
  refine q_iload_n (pc := 30) (j := 2) rfl rfl ?_
  refine q_callV (pc := 31) (as := [.int (nI y)]) (rest := []) (b := 15) (st2 := [.float (S.2.1 21 (y - x))]) rfl ce_X6_place ml_X8_155 im_X6_place se_X6_place he.2.2.2.1.1 rfl rfl rfl (by decide) (Nat.le_of_ble_eq_true rfl) (sp_X6_place (a := x) (c := y) he.2.2.2.1 hf (by omega) (by omega)) rfl ?_
  refine q_fstore (pc := 34) (j := 4) [some (.ref 0), some (.int (nI x)), some (.int (nI y)), some (.int ((S.1 3 (5 * y + 2)) - (S.1 3 (5 * x + 2)))), some (.float (S.2.1 21 (y - x)))] rfl (by decide) rfl ?_
  refine q_fload (pc := 36) (j := 4) rfl rfl ?_
  refine q_fconst0 (pc := 38) rfl ?_
  refine q_fcmp (pc := 39) (op := .l) rfl ?_
  refine q_join 56 [some (.ref 0), some (.int (nI x)), some (.int (nI y)), some (.int ((S.1 3 (5 * y + 2)) - (S.1 3 (5 * x + 2)))), some (.float (S.2.1 21 (y - x)))] [.float (bmR S y x)] S ?_ (fun key40 => ?_)
  · exact q_fret (pc := 56) rfl rfl ⟨rfl, rfl⟩
  · refine q_if_le (pc := 40) 55 rfl (by decide) (fun h40 => ?_) (fun h40 => ?_)
    · refine q_fconst0 (pc := 55) rfl ?_
      exact q_st (by rw [bmR, riseC, if_neg (show ¬ fgt (S.2.1 21 (y - x)) FP.fconst0 = true from fun q9 => absurd (of_decide_eq_true q9) (Int32.not_lt.mpr h40))]) key40
    · have hk9 := hok (show fgt (S.2.1 21 (y - x)) FP.fconst0 = true from decide_eq_true (Int32.not_le.mp h40))
      refine q_iload_n (pc := 43) (j := 3) rfl rfl ?_
      refine q_i2f (pc := 44) rfl ?_
      refine q_ldcwf (pc := 45) (v := 1056964608) rfl kc_X8_344 ?_
      refine q_fmul (pc := 48) rfl hk9.1 ?_
      refine q_fload (pc := 49) (j := 4) rfl rfl ?_
      refine q_fdiv (pc := 51) rfl hk9.2 ?_
      refine q_goto (pc := 52) 56 rfl (by decide) ?_
      exact q_st (by rw [bmR, riseC, if_pos (show fgt (S.2.1 21 (y - x)) FP.fconst0 = true from decide_eq_true (Int32.not_le.mp h40))]) key40
set_option maxRecDepth 100000 in
theorem sp_X8_beamSlope {sh : List PSh} {S : PSt} (he : isEl sh) {x y : Nat} (hf : S.1 15 6 = nI x) (hy : y < 32) (hxy : x ≤ y) (hok : okRi (S.1 3 (5 * y + 2) - S.1 3 (5 * x + 2)) (S.2.1 21 (y - x))) (hsl : okSl (bmR S y x)) : pF mX8_beamSlope 3 [.ref 0, .int (nI x), .int (nI y)] sh S S (some (.float (sloC (bmR S y x)))) := by
  refine pF.of (pG.of [some (.ref 0), some (.int (nI x)), some (.int (nI y)), none, none, none] (by decide) tk_X8_beamSlope (Nat.le_of_ble_eq_true rfl) rfl (fun X => ?_))
  refine q_aload_n (pc := 0) (j := 0) rfl rfl ?_
  refine q_iload_n (pc := 1) (j := 1) rfl rfl ?_
  refine q_iload_n (pc := 2) (j := 2) rfl rfl ?_
  refine q_callV (pc := 3) (as := [.int (nI x), .int (nI y)]) (rest := []) (b := 0) (st2 := [.float (bmR S y x)]) rfl ce_X8_beamRise ml_X8_221 im_X8_beamRise se_X8_beamRise he.1 rfl rfl rfl (by decide) (Nat.le_of_ble_eq_true rfl) (sp_X8_beamRise (x := x) (y := y) he hf (by omega) (by omega) hok) rfl ?_
  refine q_ldcwf (pc := 6) (v := 1082130432) rfl kc_X8_345 ?_
  refine q_fmul (pc := 9) rfl hsl.1 ?_
  refine q_ldcwf (pc := 10) (v := 1056964608) rfl kc_X8_344 ?_
  refine q_fadd (pc := 13) rfl hsl.2.1 ?_
  refine q_st (st2 := [.float (qrtV (bmR S y x))]) (by rw [show (FP.fadd (FP.fmul (bmR S y x) 1082130432) 1056964608) = (qrtV (bmR S y x)) from rfl]) ?_
  refine q_fstore_n (pc := 14) (j := 3) [some (.ref 0), some (.int (nI x)), some (.int (nI y)), some (.float (qrtV (bmR S y x))), none, none] rfl (by decide) rfl ?_
  refine q_fload_n (pc := 15) (j := 3) rfl rfl ?_
  refine q_f2i (pc := 16) rfl ?_
  refine q_istore (pc := 17) (j := 4) [some (.ref 0), some (.int (nI x)), some (.int (nI y)), some (.float (qrtV (bmR S y x))), some (.int (FP.f2i (qrtV (bmR S y x)))), none] rfl (by decide) rfl ?_
  refine q_iload (pc := 19) (j := 4) rfl rfl ?_
  refine q_i2f (pc := 21) rfl ?_
  refine q_fload_n (pc := 22) (j := 3) rfl rfl ?_
  refine q_fcmp (pc := 23) (op := .l) rfl ?_
  refine q_join 30 [some (.ref 0), some (.int (nI x)), some (.int (nI y)), some (.float (qrtV (bmR S y x))), some (.int (whoV (qrtV (bmR S y x)))), none] [] S ?_ (fun key24 => ?_)
  · refine q_iload (pc := 30) (j := 4) rfl rfl ?_
    refine q_i2f (pc := 32) rfl ?_
    refine q_ldcwf (pc := 33) (v := 1082130432) rfl kc_X8_345 ?_
    refine q_fdiv (pc := 36) rfl hsl.2.2 ?_
    refine q_fstore (pc := 37) (j := 5) [some (.ref 0), some (.int (nI x)), some (.int (nI y)), some (.float (qrtV (bmR S y x))), some (.int (whoV (qrtV (bmR S y x)))), some (.float (FP.fdiv (FP.i2f (whoV (qrtV (bmR S y x)))) 1082130432))] rfl (by decide) rfl ?_
    refine q_fload (pc := 39) (j := 5) rfl rfl ?_
    refine q_ldcwf (pc := 41) (v := 3204448256) rfl kc_X8_346 ?_
    refine q_fcmp (pc := 44) (op := .g) rfl ?_
    refine q_if_ge (pc := 45) 52 rfl (by decide) (fun h45 => ?_) (fun h45 => ?_)
    · refine q_fload (pc := 52) (j := 5) rfl rfl ?_
      refine q_ldcwf (pc := 54) (v := 1056964608) rfl kc_X8_344 ?_
      refine q_fcmp (pc := 57) (op := .l) rfl ?_
      refine q_if_le (pc := 58) 67 rfl (by decide) (fun h58 => ?_) (fun h58 => ?_)
      · refine q_fload (pc := 67) (j := 5) rfl rfl ?_
        exact q_fret (pc := 69) rfl rfl ⟨congrArg (fun v => some (Value.float v)) (by rw [sloC, clpV, if_neg (show ¬ flt _ _ = true from fun q9 => absurd (of_decide_eq_true q9) (Int32.not_lt.mpr h45))]; first | rw [if_pos (show fgt _ _ = true from decide_eq_true (Int32.not_le.mp h58))] | rw [if_neg (show ¬ fgt _ _ = true from fun q9 => absurd (of_decide_eq_true q9) (Int32.not_lt.mpr h58))]), rfl⟩
      · refine q_ldcwf (pc := 61) (v := 1056964608) rfl kc_X8_344 ?_
        refine q_goto (pc := 64) 69 rfl (by decide) ?_
        exact q_fret (pc := 69) rfl rfl ⟨congrArg (fun v => some (Value.float v)) (by rw [sloC, clpV, if_neg (show ¬ flt _ _ = true from fun q9 => absurd (of_decide_eq_true q9) (Int32.not_lt.mpr h45))]; first | rw [if_pos (show fgt _ _ = true from decide_eq_true (Int32.not_le.mp h58))] | rw [if_neg (show ¬ fgt _ _ = true from fun q9 => absurd (of_decide_eq_true q9) (Int32.not_lt.mpr h58))]), rfl⟩
    · refine q_ldcwf (pc := 48) (v := 3204448256) rfl kc_X8_346 ?_
      exact q_fret (pc := 51) rfl rfl ⟨congrArg (fun v => some (Value.float v)) (by rw [sloC, clpV, if_pos (show flt _ _ = true from decide_eq_true (Int32.not_le.mp h45))]), rfl⟩
  · refine q_if_le (pc := 24) 30 rfl (by decide) (fun h24 => ?_) (fun h24 => ?_)
    · exact q_L (by rw [whoV, if_neg (show ¬ fgt _ _ = true from fun q9 => absurd (of_decide_eq_true q9) (Int32.not_lt.mpr h24))]) key24
    · refine q_iinc (pc := 27) (j := 4) (n := (-1)) (FP.f2i (qrtV (bmR S y x)) + (-1)) [some (.ref 0), some (.int (nI x)), some (.int (nI y)), some (.float (qrtV (bmR S y x))), some (.int (FP.f2i (qrtV (bmR S y x)) + (-1))), none] rfl (by decide) rfl rfl rfl ?_
      exact q_L (by rw [whoV, if_pos (show fgt _ _ = true from decide_eq_true (Int32.not_le.mp h24))]) key24
set_option maxRecDepth 100000 in
theorem lp_X8_beamLift {n0 : Nat} {X : Nat × (Nat → Int32)} {P : Option Value → PSt → Prop} {d : Nat} (hd9 : 2 ≤ d) {sh : List PSh} {S : PSt} (he : isEl sh) {x y : Nat} (hf : S.1 15 6 = nI x) (hy : y < 32) (hxy : x ≤ y) (hdr : ∀ k, k < y - x + 1 → okDr (upV (S.1 3) x (y - x + 1)) (tilC (upV (S.1 3) x (y - x + 1)) (sloC (bmR S y x))) (S.1 3 (5 * (x + k) + 2)) (S.2.1 21 k) (S.2.1 21 (y - x)))  (hex : ∀ i f8 f9 f10, pV mX8_beamLift d n0 X sh P 130 [some (.ref 0), some (.int (nI x)), some (.int (nI y)), some (.int (pB (upV (S.1 3) x (y - x + 1)))), some (.float (sloC (bmR S y x))), some (.float (tilC (upV (S.1 3) x (y - x + 1)) (sloC (bmR S y x)))), some (.float (grtC (upV (S.1 3) x (y - x + 1)) (tilC (upV (S.1 3) x (y - x + 1)) (sloC (bmR S y x))) (fun k => S.1 3 (5 * (x + k) + 2)) (S.2.1 21) (S.2.1 21 (y - x)) (y - x + 1))), some (.int i), f8, f9, f10] [] S) : ∀ (m k : Nat) (f8 f9 f10 : Option Value), k + m = (y - x + 1) → pV mX8_beamLift d n0 X sh P 36 [some (.ref 0), some (.int (nI x)), some (.int (nI y)), some (.int (pB (upV (S.1 3) x (y - x + 1)))), some (.float (sloC (bmR S y x))), some (.float (tilC (upV (S.1 3) x (y - x + 1)) (sloC (bmR S y x)))), some (.float (grtC (upV (S.1 3) x (y - x + 1)) (tilC (upV (S.1 3) x (y - x + 1)) (sloC (bmR S y x))) (fun k => S.1 3 (5 * (x + k) + 2)) (S.2.1 21) (S.2.1 21 (y - x)) k)), some (.int (nI (x + k))), f8, f9, f10] [] S := by
  intro m
  induction m with
  | zero =>
    intro k f8 f9 f10 hk
    have hk9 : (y - x + 1) = k := by omega
    subst hk9
    refine q_iload (pc := 36) (j := 7) rfl rfl ?_
    refine q_iload_n (pc := 38) (j := 2) rfl rfl ?_
    refine q_icmp_gt (pc := 39) 130 rfl (by decide) (fun _ => ?_) (fun h9 => absurd (nI_lt (by omega) (by omega)) h9)
    exact hex _ _ _ _
  | succ m ih =>
    intro k f8 f9 f10 hk
    have hk1 : k < (y - x + 1) := by omega
    have hk2 : k < (y - x + 1) := hk1
    refine q_iload (pc := 36) (j := 7) rfl rfl ?_
    refine q_iload_n (pc := 38) (j := 2) rfl rfl ?_
    refine q_icmp_gt (pc := 39) 130 rfl (by decide) (fun h9 => absurd h9 (nI_nlt (by omega) (by omega))) (fun _ => ?_)
    refine q_aload_n (pc := 42) (j := 0) rfl rfl ?_
    refine q_get (pc := 43) (a := 0) (v := .ref 1) rfl fl_X8_10 he.1 rfl rfl ?_
    refine q_get (pc := 46) (a := 1) (v := .ref 2) rfl fl_X8_90 he.2.1.1 rfl rfl ?_
    refine q_iload (pc := 49) (j := 7) rfl rfl ?_
    refine q_iconst (pc := 51) 2 rfl (by decide) ?_
    refine q_callV (pc := 52) (as := [.int (nI (x + k)), .int 2]) (rest := []) (b := 2) (st2 := [.int (S.1 3 (5 * (x + k) + 2))]) rfl ce_X4_part ml_X8_105 im_X4_part se_X4_part he.2.1.2.1.1 rfl rfl rfl (by omega) (Nat.le_of_ble_eq_true rfl) (sp_X4_part (c := (x + k)) (w := 2) he.2.1.2.1 (by omega) (by omega)) rfl ?_
    refine q_i2f (pc := 55) rfl ?_
    have hd8 := hdr k hk1
    refine q_fstore (pc := 56) (j := 8) [some (.ref 0), some (.int (nI x)), some (.int (nI y)), some (.int (pB (upV (S.1 3) x (y - x + 1)))), some (.float (sloC (bmR S y x))), some (.float (tilC (upV (S.1 3) x (y - x + 1)) (sloC (bmR S y x)))), some (.float (grtC (upV (S.1 3) x (y - x + 1)) (tilC (upV (S.1 3) x (y - x + 1)) (sloC (bmR S y x))) (fun k => S.1 3 (5 * (x + k) + 2)) (S.2.1 21) (S.2.1 21 (y - x)) k)), some (.int (nI (x + k))), some (.float (FP.i2f (S.1 3 (5 * (x + k) + 2)))), f9, f10] rfl (by decide) rfl ?_
    refine q_iload_n (pc := 58) (j := 3) rfl rfl ?_
    refine q_join 71 [some (.ref 0), some (.int (nI x)), some (.int (nI y)), some (.int (pB (upV (S.1 3) x (y - x + 1)))), some (.float (sloC (bmR S y x))), some (.float (tilC (upV (S.1 3) x (y - x + 1)) (sloC (bmR S y x)))), some (.float (grtC (upV (S.1 3) x (y - x + 1)) (tilC (upV (S.1 3) x (y - x + 1)) (sloC (bmR S y x))) (fun k => S.1 3 (5 * (x + k) + 2)) (S.2.1 21) (S.2.1 21 (y - x)) k)), some (.int (nI (x + k))), some (.float (FP.i2f (S.1 3 (5 * (x + k) + 2)))), f9, f10] [.float (tilC (upV (S.1 3) x (y - x + 1)) (FP.i2f (S.1 3 (5 * (x + k) + 2))))] S ?_ (fun key59 => ?_)
    · refine q_fstore (pc := 71) (j := 9) [some (.ref 0), some (.int (nI x)), some (.int (nI y)), some (.int (pB (upV (S.1 3) x (y - x + 1)))), some (.float (sloC (bmR S y x))), some (.float (tilC (upV (S.1 3) x (y - x + 1)) (sloC (bmR S y x)))), some (.float (grtC (upV (S.1 3) x (y - x + 1)) (tilC (upV (S.1 3) x (y - x + 1)) (sloC (bmR S y x))) (fun k => S.1 3 (5 * (x + k) + 2)) (S.2.1 21) (S.2.1 21 (y - x)) k)), some (.int (nI (x + k))), some (.float (FP.i2f (S.1 3 (5 * (x + k) + 2)))), some (.float (tilC (upV (S.1 3) x (y - x + 1)) (FP.i2f (S.1 3 (5 * (x + k) + 2))))), f10] rfl (by decide) rfl ?_
      refine q_fload (pc := 73) (j := 9) rfl rfl ?_
      refine q_fload (pc := 75) (j := 5) rfl rfl ?_
      refine q_aload_n (pc := 77) (j := 0) rfl rfl ?_
      refine q_get (pc := 78) (a := 0) (v := .ref 15) rfl fl_X8_26 he.1 rfl rfl ?_
      refine q_iload (pc := 81) (j := 7) rfl rfl ?_
      refine q_callV (pc := 83) (as := [.int (nI (x + k))]) (rest := [.float (tilC (upV (S.1 3) x (y - x + 1)) (sloC (bmR S y x))), .float (tilC (upV (S.1 3) x (y - x + 1)) (FP.i2f (S.1 3 (5 * (x + k) + 2))))]) (b := 15) (st2 := [.float (S.2.1 21 ((x + k) - x)), .float (tilC (upV (S.1 3) x (y - x + 1)) (sloC (bmR S y x))), .float (tilC (upV (S.1 3) x (y - x + 1)) (FP.i2f (S.1 3 (5 * (x + k) + 2))))]) rfl ce_X6_place ml_X8_155 im_X6_place se_X6_place he.2.2.2.1.1 rfl rfl rfl (by omega) (Nat.le_of_ble_eq_true rfl) (sp_X6_place (a := x) (c := (x + k)) he.2.2.2.1 hf (by omega) (by omega)) rfl ?_
      refine q_aload_n (pc := 86) (j := 0) rfl rfl ?_
      refine q_get (pc := 87) (a := 0) (v := .ref 15) rfl fl_X8_26 he.1 rfl rfl ?_
      refine q_iload_n (pc := 90) (j := 2) rfl rfl ?_
      refine q_callV (pc := 91) (as := [.int (nI y)]) (rest := [.float (S.2.1 21 ((x + k) - x)), .float (tilC (upV (S.1 3) x (y - x + 1)) (sloC (bmR S y x))), .float (tilC (upV (S.1 3) x (y - x + 1)) (FP.i2f (S.1 3 (5 * (x + k) + 2))))]) (b := 15) (st2 := [.float (S.2.1 21 (y - x)), .float (S.2.1 21 ((x + k) - x)), .float (tilC (upV (S.1 3) x (y - x + 1)) (sloC (bmR S y x))), .float (tilC (upV (S.1 3) x (y - x + 1)) (FP.i2f (S.1 3 (5 * (x + k) + 2))))]) rfl ce_X6_place ml_X8_155 im_X6_place se_X6_place he.2.2.2.1.1 rfl rfl rfl (by omega) (Nat.le_of_ble_eq_true rfl) (sp_X6_place (a := x) (c := y) he.2.2.2.1 hf (by omega) (by omega)) rfl ?_
      refine q_st (st2 := [.float (S.2.1 21 (y - x)), .float (S.2.1 21 k), .float (tilC (upV (S.1 3) x (y - x + 1)) (sloC (bmR S y x))), .float (tilC (upV (S.1 3) x (y - x + 1)) (FP.i2f (S.1 3 (5 * (x + k) + 2))))]) (by rw [Nat.add_sub_cancel_left]) ?_
      refine q_fsub (pc := 94) rfl hd8.2.1 ?_
      refine q_fmul (pc := 95) rfl hd8.2.2.1 ?_
      refine q_fconst2 (pc := 96) rfl ?_
      refine q_fmul (pc := 97) rfl hd8.2.2.2.1 ?_
      refine q_fsub (pc := 98) rfl hd8.2.2.2.2 ?_
      refine q_st (st2 := [.float (droC (upV (S.1 3) x (y - x + 1)) (tilC (upV (S.1 3) x (y - x + 1)) (sloC (bmR S y x))) (S.1 3 (5 * (x + k) + 2)) (S.2.1 21 k) (S.2.1 21 (y - x)))]) (by rw [show (FP.fsub (tilC (upV (S.1 3) x (y - x + 1)) (FP.i2f (S.1 3 (5 * (x + k) + 2)))) (FP.fmul (FP.fmul (tilC (upV (S.1 3) x (y - x + 1)) (sloC (bmR S y x))) (FP.fsub (S.2.1 21 k) (S.2.1 21 (y - x)))) FP.fconst2)) = (droC (upV (S.1 3) x (y - x + 1)) (tilC (upV (S.1 3) x (y - x + 1)) (sloC (bmR S y x))) (S.1 3 (5 * (x + k) + 2)) (S.2.1 21 k) (S.2.1 21 (y - x))) from rfl]) ?_
      refine q_fstore (pc := 99) (j := 10) [some (.ref 0), some (.int (nI x)), some (.int (nI y)), some (.int (pB (upV (S.1 3) x (y - x + 1)))), some (.float (sloC (bmR S y x))), some (.float (tilC (upV (S.1 3) x (y - x + 1)) (sloC (bmR S y x)))), some (.float (grtC (upV (S.1 3) x (y - x + 1)) (tilC (upV (S.1 3) x (y - x + 1)) (sloC (bmR S y x))) (fun k => S.1 3 (5 * (x + k) + 2)) (S.2.1 21) (S.2.1 21 (y - x)) k)), some (.int (nI (x + k))), some (.float (FP.i2f (S.1 3 (5 * (x + k) + 2)))), some (.float (tilC (upV (S.1 3) x (y - x + 1)) (FP.i2f (S.1 3 (5 * (x + k) + 2))))), some (.float (droC (upV (S.1 3) x (y - x + 1)) (tilC (upV (S.1 3) x (y - x + 1)) (sloC (bmR S y x))) (S.1 3 (5 * (x + k) + 2)) (S.2.1 21 k) (S.2.1 21 (y - x))))] rfl (by decide) rfl ?_
      refine q_iload (pc := 101) (j := 7) rfl rfl ?_
      refine q_iload_n (pc := 103) (j := 1) rfl rfl ?_
      refine q_icmp_eq (pc := 104) 115 rfl (by decide) (fun h104 => ?_) (fun h104 => ?_)
      · refine q_fload (pc := 115) (j := 10) rfl rfl ?_
        refine q_goto (pc := 117) 122 rfl (by decide) ?_
        refine q_st (st2 := [.float (grtC (upV (S.1 3) x (y - x + 1)) (tilC (upV (S.1 3) x (y - x + 1)) (sloC (bmR S y x))) (fun k => S.1 3 (5 * (x + k) + 2)) (S.2.1 21) (S.2.1 21 (y - x)) (k + 1))]) (by first | rw [grtC, if_pos (Or.inl ((nI_eq (by omega) (by omega)).mp h104 |> (fun q9 => by omega)))] | rw [grtC, if_pos (Or.inr (show fgt _ _ = true from decide_eq_true (Int32.not_le.mp h112)))] | rw [grtC, if_neg (fun q9 => q9.elim (fun q9 => h104 (by rw [q9]; rfl)) (fun q9 => absurd (of_decide_eq_true q9) (Int32.not_lt.mpr h112)))]) ?_
        refine q_fstore (pc := 122) (j := 6) [some (.ref 0), some (.int (nI x)), some (.int (nI y)), some (.int (pB (upV (S.1 3) x (y - x + 1)))), some (.float (sloC (bmR S y x))), some (.float (tilC (upV (S.1 3) x (y - x + 1)) (sloC (bmR S y x)))), some (.float (grtC (upV (S.1 3) x (y - x + 1)) (tilC (upV (S.1 3) x (y - x + 1)) (sloC (bmR S y x))) (fun k => S.1 3 (5 * (x + k) + 2)) (S.2.1 21) (S.2.1 21 (y - x)) (k + 1))), some (.int (nI (x + k))), some (.float (FP.i2f (S.1 3 (5 * (x + k) + 2)))), some (.float (tilC (upV (S.1 3) x (y - x + 1)) (FP.i2f (S.1 3 (5 * (x + k) + 2))))), some (.float (droC (upV (S.1 3) x (y - x + 1)) (tilC (upV (S.1 3) x (y - x + 1)) (sloC (bmR S y x))) (S.1 3 (5 * (x + k) + 2)) (S.2.1 21 k) (S.2.1 21 (y - x))))] rfl (by decide) rfl ?_
        refine q_iinc (pc := 124) (j := 7) (n := 1) (nI (x + (k + 1))) [some (.ref 0), some (.int (nI x)), some (.int (nI y)), some (.int (pB (upV (S.1 3) x (y - x + 1)))), some (.float (sloC (bmR S y x))), some (.float (tilC (upV (S.1 3) x (y - x + 1)) (sloC (bmR S y x)))), some (.float (grtC (upV (S.1 3) x (y - x + 1)) (tilC (upV (S.1 3) x (y - x + 1)) (sloC (bmR S y x))) (fun k => S.1 3 (5 * (x + k) + 2)) (S.2.1 21) (S.2.1 21 (y - x)) (k + 1))), some (.int (nI (x + (k + 1)))), some (.float (FP.i2f (S.1 3 (5 * (x + k) + 2)))), some (.float (tilC (upV (S.1 3) x (y - x + 1)) (FP.i2f (S.1 3 (5 * (x + k) + 2))))), some (.float (droC (upV (S.1 3) x (y - x + 1)) (tilC (upV (S.1 3) x (y - x + 1)) (sloC (bmR S y x))) (S.1 3 (5 * (x + k) + 2)) (S.2.1 21 k) (S.2.1 21 (y - x))))] rfl (by decide) rfl (show nI (x + k) + 1 = nI (x + (k + 1)) from nI_1 (x + k)) rfl ?_
        refine q_goto (pc := 127) 36 rfl (by decide) ?_
        exact ih (k + 1) _ _ _ (by omega)
      · refine q_fload (pc := 107) (j := 10) rfl rfl ?_
        refine q_fload (pc := 109) (j := 6) rfl rfl ?_
        refine q_fcmp (pc := 111) (op := .l) rfl ?_
        refine q_if_le (pc := 112) 120 rfl (by decide) (fun h112 => ?_) (fun h112 => ?_)
        · refine q_fload (pc := 120) (j := 6) rfl rfl ?_
          refine q_st (st2 := [.float (grtC (upV (S.1 3) x (y - x + 1)) (tilC (upV (S.1 3) x (y - x + 1)) (sloC (bmR S y x))) (fun k => S.1 3 (5 * (x + k) + 2)) (S.2.1 21) (S.2.1 21 (y - x)) (k + 1))]) (by first | rw [grtC, if_pos (Or.inl ((nI_eq (by omega) (by omega)).mp h104 |> (fun q9 => by omega)))] | rw [grtC, if_pos (Or.inr (show fgt _ _ = true from decide_eq_true (Int32.not_le.mp h112)))] | rw [grtC, if_neg (fun q9 => q9.elim (fun q9 => h104 (by rw [q9]; rfl)) (fun q9 => absurd (of_decide_eq_true q9) (Int32.not_lt.mpr h112)))]) ?_
          refine q_fstore (pc := 122) (j := 6) [some (.ref 0), some (.int (nI x)), some (.int (nI y)), some (.int (pB (upV (S.1 3) x (y - x + 1)))), some (.float (sloC (bmR S y x))), some (.float (tilC (upV (S.1 3) x (y - x + 1)) (sloC (bmR S y x)))), some (.float (grtC (upV (S.1 3) x (y - x + 1)) (tilC (upV (S.1 3) x (y - x + 1)) (sloC (bmR S y x))) (fun k => S.1 3 (5 * (x + k) + 2)) (S.2.1 21) (S.2.1 21 (y - x)) (k + 1))), some (.int (nI (x + k))), some (.float (FP.i2f (S.1 3 (5 * (x + k) + 2)))), some (.float (tilC (upV (S.1 3) x (y - x + 1)) (FP.i2f (S.1 3 (5 * (x + k) + 2))))), some (.float (droC (upV (S.1 3) x (y - x + 1)) (tilC (upV (S.1 3) x (y - x + 1)) (sloC (bmR S y x))) (S.1 3 (5 * (x + k) + 2)) (S.2.1 21 k) (S.2.1 21 (y - x))))] rfl (by decide) rfl ?_
          refine q_iinc (pc := 124) (j := 7) (n := 1) (nI (x + (k + 1))) [some (.ref 0), some (.int (nI x)), some (.int (nI y)), some (.int (pB (upV (S.1 3) x (y - x + 1)))), some (.float (sloC (bmR S y x))), some (.float (tilC (upV (S.1 3) x (y - x + 1)) (sloC (bmR S y x)))), some (.float (grtC (upV (S.1 3) x (y - x + 1)) (tilC (upV (S.1 3) x (y - x + 1)) (sloC (bmR S y x))) (fun k => S.1 3 (5 * (x + k) + 2)) (S.2.1 21) (S.2.1 21 (y - x)) (k + 1))), some (.int (nI (x + (k + 1)))), some (.float (FP.i2f (S.1 3 (5 * (x + k) + 2)))), some (.float (tilC (upV (S.1 3) x (y - x + 1)) (FP.i2f (S.1 3 (5 * (x + k) + 2))))), some (.float (droC (upV (S.1 3) x (y - x + 1)) (tilC (upV (S.1 3) x (y - x + 1)) (sloC (bmR S y x))) (S.1 3 (5 * (x + k) + 2)) (S.2.1 21 k) (S.2.1 21 (y - x))))] rfl (by decide) rfl (show nI (x + k) + 1 = nI (x + (k + 1)) from nI_1 (x + k)) rfl ?_
          refine q_goto (pc := 127) 36 rfl (by decide) ?_
          exact ih (k + 1) _ _ _ (by omega)
        · refine q_fload (pc := 115) (j := 10) rfl rfl ?_
          refine q_goto (pc := 117) 122 rfl (by decide) ?_
          refine q_st (st2 := [.float (grtC (upV (S.1 3) x (y - x + 1)) (tilC (upV (S.1 3) x (y - x + 1)) (sloC (bmR S y x))) (fun k => S.1 3 (5 * (x + k) + 2)) (S.2.1 21) (S.2.1 21 (y - x)) (k + 1))]) (by first | rw [grtC, if_pos (Or.inl ((nI_eq (by omega) (by omega)).mp h104 |> (fun q9 => by omega)))] | rw [grtC, if_pos (Or.inr (show fgt _ _ = true from decide_eq_true (Int32.not_le.mp h112)))] | rw [grtC, if_neg (fun q9 => q9.elim (fun q9 => h104 (by rw [q9]; rfl)) (fun q9 => absurd (of_decide_eq_true q9) (Int32.not_lt.mpr h112)))]) ?_
          refine q_fstore (pc := 122) (j := 6) [some (.ref 0), some (.int (nI x)), some (.int (nI y)), some (.int (pB (upV (S.1 3) x (y - x + 1)))), some (.float (sloC (bmR S y x))), some (.float (tilC (upV (S.1 3) x (y - x + 1)) (sloC (bmR S y x)))), some (.float (grtC (upV (S.1 3) x (y - x + 1)) (tilC (upV (S.1 3) x (y - x + 1)) (sloC (bmR S y x))) (fun k => S.1 3 (5 * (x + k) + 2)) (S.2.1 21) (S.2.1 21 (y - x)) (k + 1))), some (.int (nI (x + k))), some (.float (FP.i2f (S.1 3 (5 * (x + k) + 2)))), some (.float (tilC (upV (S.1 3) x (y - x + 1)) (FP.i2f (S.1 3 (5 * (x + k) + 2))))), some (.float (droC (upV (S.1 3) x (y - x + 1)) (tilC (upV (S.1 3) x (y - x + 1)) (sloC (bmR S y x))) (S.1 3 (5 * (x + k) + 2)) (S.2.1 21 k) (S.2.1 21 (y - x))))] rfl (by decide) rfl ?_
          refine q_iinc (pc := 124) (j := 7) (n := 1) (nI (x + (k + 1))) [some (.ref 0), some (.int (nI x)), some (.int (nI y)), some (.int (pB (upV (S.1 3) x (y - x + 1)))), some (.float (sloC (bmR S y x))), some (.float (tilC (upV (S.1 3) x (y - x + 1)) (sloC (bmR S y x)))), some (.float (grtC (upV (S.1 3) x (y - x + 1)) (tilC (upV (S.1 3) x (y - x + 1)) (sloC (bmR S y x))) (fun k => S.1 3 (5 * (x + k) + 2)) (S.2.1 21) (S.2.1 21 (y - x)) (k + 1))), some (.int (nI (x + (k + 1)))), some (.float (FP.i2f (S.1 3 (5 * (x + k) + 2)))), some (.float (tilC (upV (S.1 3) x (y - x + 1)) (FP.i2f (S.1 3 (5 * (x + k) + 2))))), some (.float (droC (upV (S.1 3) x (y - x + 1)) (tilC (upV (S.1 3) x (y - x + 1)) (sloC (bmR S y x))) (S.1 3 (5 * (x + k) + 2)) (S.2.1 21 k) (S.2.1 21 (y - x))))] rfl (by decide) rfl (show nI (x + k) + 1 = nI (x + (k + 1)) from nI_1 (x + k)) rfl ?_
          refine q_goto (pc := 127) 36 rfl (by decide) ?_
          exact ih (k + 1) _ _ _ (by omega)
    · refine q_if_eq (pc := 59) 67 rfl (by decide) (fun h59 => ?_) (fun h59 => ?_)
      · refine q_fconst0 (pc := 67) rfl ?_
        refine q_fload (pc := 68) (j := 8) rfl rfl ?_
        refine q_fsub (pc := 70) rfl (hd8.1 (pB_f h59)) ?_
        exact q_st (by rw [tilC, if_neg (by rw [pB_f h59]; decide)]) key59
      · refine q_fload (pc := 62) (j := 8) rfl rfl ?_
        refine q_goto (pc := 64) 71 rfl (by decide) ?_
        exact q_st (by rw [tilC, if_pos (pB_t h59)]) key59
set_option maxRecDepth 100000 in
theorem sp_X8_beamLift {sh : List PSh} {S : PSt} (he : isEl sh) {x y : Nat} (hf : S.1 15 6 = nI x) (hy : y < 32) (hxy : x ≤ y) (hok : okRi (S.1 3 (5 * y + 2) - S.1 3 (5 * x + 2)) (S.2.1 21 (y - x))) (hsl : okSl (bmR S y x)) (hti : okTi (upV (S.1 3) x (y - x + 1)) (sloC (bmR S y x))) (hdr : ∀ k, k < y - x + 1 → okDr (upV (S.1 3) x (y - x + 1)) (tilC (upV (S.1 3) x (y - x + 1)) (sloC (bmR S y x))) (S.1 3 (5 * (x + k) + 2)) (S.2.1 21 k) (S.2.1 21 (y - x))) (hli : vf_n32 (lifC (upV (S.1 3) x (y - x + 1)) (tilC (upV (S.1 3) x (y - x + 1)) (sloC (bmR S y x))) (fun k => S.1 3 (5 * (x + k) + 2)) (S.2.1 21) (S.2.1 21 (y - x)) (y - x + 1))) : pF mX8_beamLift 4 [.ref 0, .int (nI x), .int (nI y)] sh S S (some (.float (lifC (upV (S.1 3) x (y - x + 1)) (tilC (upV (S.1 3) x (y - x + 1)) (sloC (bmR S y x))) (fun k => S.1 3 (5 * (x + k) + 2)) (S.2.1 21) (S.2.1 21 (y - x)) (y - x + 1)))) := by
  refine pF.of (pG.of [some (.ref 0), some (.int (nI x)), some (.int (nI y)), none, none, none, none, none, none, none, none] (by decide) tk_X8_beamLift (Nat.le_of_ble_eq_true rfl) rfl (fun X => ?_))
  refine q_aload_n (pc := 0) (j := 0) rfl rfl ?_
  refine q_iload_n (pc := 1) (j := 1) rfl rfl ?_
  refine q_iload_n (pc := 2) (j := 2) rfl rfl ?_
  refine q_callV (pc := 3) (as := [.int (nI x), .int (nI y)]) (rest := []) (b := 0) (st2 := [.int (pB (upV (S.1 3) x (y - x + 1)))]) rfl ce_X8_beamGoesUp ml_X8_228 im_X8_beamGoesUp se_X8_beamGoesUp he.1 rfl rfl rfl (by decide) (Nat.le_of_ble_eq_true rfl) (sp_X8_beamGoesUp (n := y - x + 1) he (by omega) (by omega)) rfl ?_
  refine q_istore_n (pc := 6) (j := 3) [some (.ref 0), some (.int (nI x)), some (.int (nI y)), some (.int (pB (upV (S.1 3) x (y - x + 1)))), none, none, none, none, none, none, none] rfl (by decide) rfl ?_
  refine q_aload_n (pc := 7) (j := 0) rfl rfl ?_
  refine q_iload_n (pc := 8) (j := 1) rfl rfl ?_
  refine q_iload_n (pc := 9) (j := 2) rfl rfl ?_
  refine q_callV (pc := 10) (as := [.int (nI x), .int (nI y)]) (rest := []) (b := 0) (st2 := [.float (sloC (bmR S y x))]) rfl ce_X8_beamSlope ml_X8_225 im_X8_beamSlope se_X8_beamSlope he.1 rfl rfl rfl (by decide) (Nat.le_of_ble_eq_true rfl) (sp_X8_beamSlope (x := x) (y := y) he hf (by omega) (by omega) hok hsl) rfl ?_
  refine q_fstore (pc := 13) (j := 4) [some (.ref 0), some (.int (nI x)), some (.int (nI y)), some (.int (pB (upV (S.1 3) x (y - x + 1)))), some (.float (sloC (bmR S y x))), none, none, none, none, none, none] rfl (by decide) rfl ?_
  refine q_iload_n (pc := 15) (j := 3) rfl rfl ?_
  refine q_join 28 [some (.ref 0), some (.int (nI x)), some (.int (nI y)), some (.int (pB (upV (S.1 3) x (y - x + 1)))), some (.float (sloC (bmR S y x))), none, none, none, none, none, none] [.float (tilC (upV (S.1 3) x (y - x + 1)) (sloC (bmR S y x)))] S ?_ (fun key16 => ?_)
  · refine q_fstore (pc := 28) (j := 5) [some (.ref 0), some (.int (nI x)), some (.int (nI y)), some (.int (pB (upV (S.1 3) x (y - x + 1)))), some (.float (sloC (bmR S y x))), some (.float (tilC (upV (S.1 3) x (y - x + 1)) (sloC (bmR S y x)))), none, none, none, none, none] rfl (by decide) rfl ?_
    refine q_fconst0 (pc := 30) rfl ?_
    refine q_fstore (pc := 31) (j := 6) [some (.ref 0), some (.int (nI x)), some (.int (nI y)), some (.int (pB (upV (S.1 3) x (y - x + 1)))), some (.float (sloC (bmR S y x))), some (.float (tilC (upV (S.1 3) x (y - x + 1)) (sloC (bmR S y x)))), some (.float FP.fconst0), none, none, none, none] rfl (by decide) rfl ?_
    refine q_iload_n (pc := 33) (j := 1) rfl rfl ?_
    refine q_istore (pc := 34) (j := 7) [some (.ref 0), some (.int (nI x)), some (.int (nI y)), some (.int (pB (upV (S.1 3) x (y - x + 1)))), some (.float (sloC (bmR S y x))), some (.float (tilC (upV (S.1 3) x (y - x + 1)) (sloC (bmR S y x)))), some (.float FP.fconst0), some (.int (nI x)), none, none, none] rfl (by decide) rfl ?_
    refine lp_X8_beamLift (by decide) he hf hy hxy hdr (fun i f8 f9 f10 => ?_) (y - x + 1) 0 _ _ _ (Nat.zero_add _)
    refine q_fload (pc := 130) (j := 6) rfl rfl ?_
    refine q_ldcwf (pc := 132) (v := 1084227584) rfl kc_X8_347 ?_
    refine q_fadd (pc := 135) rfl hli ?_
    exact q_fret (pc := 136) rfl rfl ⟨rfl, rfl⟩
  · refine q_if_eq (pc := 16) 24 rfl (by decide) (fun h16 => ?_) (fun h16 => ?_)
    · refine q_fconst0 (pc := 24) rfl ?_
      refine q_fload (pc := 25) (j := 4) rfl rfl ?_
      refine q_fsub (pc := 27) rfl (hti (pB_f h16)) ?_
      exact q_st (by rw [tilC, if_neg (by rw [pB_f h16]; decide)]) key16
    · refine q_fload (pc := 19) (j := 4) rfl rfl ?_
      refine q_goto (pc := 21) 28 rfl (by decide) ?_
      exact q_st (by rw [tilC, if_pos (pB_t h16)]) key16
