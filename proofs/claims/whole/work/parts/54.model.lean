/-! the model: count, lays: written by wip/whole/gen/c54.py -/
theorem cnK_n {K Z Q : Nat → Int32} {s k : Nat} (h : ¬ (hnB (K s) (Z s) (nI k) = true ∧ ¬ Q (5 * (12 * s + k)) = -1)) : cnK K Z Q s (k + 1) = cnK K Z Q s k := by rw [cnK, if_neg h, Nat.add_zero]
set_option maxRecDepth 100000 in
theorem lp_X9_notes {n0 : Nat} {X : Nat × (Nat → Int32)} {P : Option Value → PSt → Prop} {d : Nat} (hd9 : 1 ≤ d) {sh : List PSh} {S : PSt} (hm : isMo sh) {N : Nat} (hN : S.1 71 0 = nI N) (hN2 : N ≤ 32)  (hex : pV mX9_notes d n0 X sh P 37 [some (.ref 70), some (.int (nI (cntN (mG S) N))), some (.int (nI N))] [] S) : ∀ (m k : Nat), k + m = N → pV mX9_notes d n0 X sh P 4 [some (.ref 70), some (.int (nI (cntN (mG S) k))), some (.int (nI k))] [] S := by
  intro m
  induction m with
  | zero =>
    intro k hk
    have hk9 : N = k := by omega
    subst hk9
    refine q_iload_n (pc := 4) (j := 2) rfl rfl ?_
    refine q_aload_n (pc := 5) (j := 0) rfl rfl ?_
    refine q_get (pc := 6) (a := 70) (v := .ref 71) rfl fl_X9_9 hm.1 rfl rfl ?_
    refine q_iconst (pc := 9) 0 rfl (by decide) ?_
    refine q_iald (pc := 10) (a := 71) 0 rfl hm.2.1 (vp_in_nI (n := 0) (by decide) (by decide)) rfl ?_
    refine q_st (st2 := [.int (nI N), .int (nI N)]) (by rw [(show (S.1 71 0) = nI N from hN)]) ?_
    refine q_icmp_ge (pc := 11) 37 rfl (by decide) (fun _ => ?_) (fun h9 => absurd (Int32.le_refl _) h9)
    exact hex
  | succ m ih =>
    intro k hk
    have hk1 : k < N := by omega
    have hk2 : k < N := hk1
    refine q_iload_n (pc := 4) (j := 2) rfl rfl ?_
    refine q_aload_n (pc := 5) (j := 0) rfl rfl ?_
    refine q_get (pc := 6) (a := 70) (v := .ref 71) rfl fl_X9_9 hm.1 rfl rfl ?_
    refine q_iconst (pc := 9) 0 rfl (by decide) ?_
    refine q_iald (pc := 10) (a := 71) 0 rfl hm.2.1 (vp_in_nI (n := 0) (by decide) (by decide)) rfl ?_
    refine q_st (st2 := [.int (nI N), .int (nI k)]) (by rw [(show (S.1 71 0) = nI N from hN)]) ?_
    refine q_icmp_ge (pc := 11) 37 rfl (by decide) (fun h9 => absurd h9 (nI_ge hk1 (by omega))) (fun _ => ?_)
    refine q_iload_n (pc := 14) (j := 1) rfl rfl ?_
    refine q_aload_n (pc := 15) (j := 0) rfl rfl ?_
    refine q_iload_n (pc := 16) (j := 2) rfl rfl ?_
    refine q_iconst (pc := 17) 0 rfl (by decide) ?_
    refine q_callV (pc := 18) (as := [.int (nI k), .int 0]) (rest := [.int (nI (cntN (mG S) k))]) (b := 70) (st2 := [.int (mG S (5 * k + 0)), .int (nI (cntN (mG S) k))]) rfl ce_X9_its ml_X9_124 im_X9_its se_X9_its hm.1 rfl rfl rfl (by omega) (Nat.le_of_ble_eq_true rfl) (sp_X9_its (c := k) (i := 0) hm (by omega) (by omega)) rfl ?_
    refine q_if_ne (pc := 21) 28 rfl (by decide) (fun h21 => ?_) (fun h21 => ?_)
    · refine q_iconst (pc := 28) 0 rfl (by decide) ?_
      refine q_iadd (pc := 29) rfl ?_
      refine q_istore_n (pc := 30) (j := 1) [some (.ref 70), some (.int ((nI (cntN (mG S) k)) + 0)), some (.int (nI k))] rfl (by decide) rfl ?_
      refine q_iinc (pc := 31) (j := 2) (n := 1) (nI (k + 1)) [some (.ref 70), some (.int ((nI (cntN (mG S) k)) + 0)), some (.int (nI (k + 1)))] rfl (by decide) rfl (nI_1 k) rfl ?_
      refine q_goto (pc := 34) 4 rfl (by decide) ?_
      exact q_L (by rw [cntN, if_neg h21, Int32.add_zero]) (ih (k + 1) (by omega))
    · refine q_iconst (pc := 24) 1 rfl (by decide) ?_
      refine q_goto (pc := 25) 29 rfl (by decide) ?_
      refine q_iadd (pc := 29) rfl ?_
      refine q_istore_n (pc := 30) (j := 1) [some (.ref 70), some (.int ((nI (cntN (mG S) k)) + 1)), some (.int (nI k))] rfl (by decide) rfl ?_
      refine q_iinc (pc := 31) (j := 2) (n := 1) (nI (k + 1)) [some (.ref 70), some (.int ((nI (cntN (mG S) k)) + 1)), some (.int (nI (k + 1)))] rfl (by decide) rfl (nI_1 k) rfl ?_
      refine q_goto (pc := 34) 4 rfl (by decide) ?_
      exact q_L (by rw [cntN, if_pos h21, nI_1]) (ih (k + 1) (by omega))
set_option maxRecDepth 100000 in
theorem sp_X9_notes {sh : List PSh} {S : PSt} (hm : isMo sh) {N : Nat} (hN : S.1 71 0 = nI N) (hN2 : N ≤ 32)  : pF mX9_notes 1 [.ref 70] sh S S (some (.int (nI (cntN (mG S) N)))) := by
  refine pF.of (pG.of [some (.ref 70), none, none] (by decide) tk_X9_notes (Nat.le_of_ble_eq_true rfl) rfl (fun X => ?_))
  refine q_iconst (pc := 0) 0 rfl (by decide) ?_
  refine q_istore_n (pc := 1) (j := 1) [some (.ref 70), some (.int 0), none] rfl (by decide) rfl ?_
  refine q_iconst (pc := 2) 0 rfl (by decide) ?_
  refine q_istore_n (pc := 3) (j := 2) [some (.ref 70), some (.int 0), some (.int 0)] rfl (by decide) rfl ?_
  refine lp_X9_notes (by decide) hm hN hN2 ?_ N 0 (Nat.zero_add N)
  refine q_iload_n (pc := 37) (j := 1) rfl rfl ?_
  exact q_iret (pc := 38) rfl rfl ⟨rfl, rfl⟩
set_option maxRecDepth 100000 in
theorem lp_X9_durations {n0 : Nat} {X : Nat × (Nat → Int32)} {P : Option Value → PSt → Prop} {d : Nat} (hd9 : 1 ≤ d) {sh : List PSh} {S : PSt} (hm : isMo sh) {N : Nat} (hN : S.1 71 0 = nI N) (hN2 : N ≤ 32)  (hex : pV mX9_durations d n0 X sh P 43 [some (.ref 70), some (.int (sumD (mG S) N)), some (.int (nI N))] [] S) : ∀ (m k : Nat), k + m = N → pV mX9_durations d n0 X sh P 4 [some (.ref 70), some (.int (sumD (mG S) k)), some (.int (nI k))] [] S := by
  intro m
  induction m with
  | zero =>
    intro k hk
    have hk9 : N = k := by omega
    subst hk9
    refine q_iload_n (pc := 4) (j := 2) rfl rfl ?_
    refine q_aload_n (pc := 5) (j := 0) rfl rfl ?_
    refine q_get (pc := 6) (a := 70) (v := .ref 71) rfl fl_X9_9 hm.1 rfl rfl ?_
    refine q_iconst (pc := 9) 0 rfl (by decide) ?_
    refine q_iald (pc := 10) (a := 71) 0 rfl hm.2.1 (vp_in_nI (n := 0) (by decide) (by decide)) rfl ?_
    refine q_st (st2 := [.int (nI N), .int (nI N)]) (by rw [(show (S.1 71 0) = nI N from hN)]) ?_
    refine q_icmp_ge (pc := 11) 43 rfl (by decide) (fun _ => ?_) (fun h9 => absurd (Int32.le_refl _) h9)
    exact hex
  | succ m ih =>
    intro k hk
    have hk1 : k < N := by omega
    have hk2 : k < N := hk1
    refine q_iload_n (pc := 4) (j := 2) rfl rfl ?_
    refine q_aload_n (pc := 5) (j := 0) rfl rfl ?_
    refine q_get (pc := 6) (a := 70) (v := .ref 71) rfl fl_X9_9 hm.1 rfl rfl ?_
    refine q_iconst (pc := 9) 0 rfl (by decide) ?_
    refine q_iald (pc := 10) (a := 71) 0 rfl hm.2.1 (vp_in_nI (n := 0) (by decide) (by decide)) rfl ?_
    refine q_st (st2 := [.int (nI N), .int (nI k)]) (by rw [(show (S.1 71 0) = nI N from hN)]) ?_
    refine q_icmp_ge (pc := 11) 43 rfl (by decide) (fun h9 => absurd h9 (nI_ge hk1 (by omega))) (fun _ => ?_)
    refine q_iload_n (pc := 14) (j := 1) rfl rfl ?_
    refine q_aload_n (pc := 15) (j := 0) rfl rfl ?_
    refine q_iload_n (pc := 16) (j := 2) rfl rfl ?_
    refine q_iconst (pc := 17) 0 rfl (by decide) ?_
    refine q_callV (pc := 18) (as := [.int (nI k), .int 0]) (rest := [.int (sumD (mG S) k)]) (b := 70) (st2 := [.int (mG S (5 * k + 0)), .int (sumD (mG S) k)]) rfl ce_X9_its ml_X9_124 im_X9_its se_X9_its hm.1 rfl rfl rfl (by omega) (Nat.le_of_ble_eq_true rfl) (sp_X9_its (c := k) (i := 0) hm (by omega) (by omega)) rfl ?_
    refine q_iconst (pc := 21) 2 rfl (by decide) ?_
    refine q_icmp_ne (pc := 22) 29 rfl (by decide) (fun h22 => ?_) (fun h22 => ?_)
    · refine q_aload_n (pc := 29) (j := 0) rfl rfl ?_
      refine q_iload_n (pc := 30) (j := 2) rfl rfl ?_
      refine q_iconst (pc := 31) 1 rfl (by decide) ?_
      refine q_callV (pc := 32) (as := [.int (nI k), .int 1]) (rest := [.int (sumD (mG S) k)]) (b := 70) (st2 := [.int (mG S (5 * k + 1)), .int (sumD (mG S) k)]) rfl ce_X9_its ml_X9_124 im_X9_its se_X9_its hm.1 rfl rfl rfl (by omega) (Nat.le_of_ble_eq_true rfl) (sp_X9_its (c := k) (i := 1) hm (by omega) (by omega)) rfl ?_
      refine q_iadd (pc := 35) rfl ?_
      refine q_istore_n (pc := 36) (j := 1) [some (.ref 70), some (.int ((sumD (mG S) k) + (mG S (5 * k + 1)))), some (.int (nI k))] rfl (by decide) rfl ?_
      refine q_iinc (pc := 37) (j := 2) (n := 1) (nI (k + 1)) [some (.ref 70), some (.int ((sumD (mG S) k) + (mG S (5 * k + 1)))), some (.int (nI (k + 1)))] rfl (by decide) rfl (nI_1 k) rfl ?_
      refine q_goto (pc := 40) 4 rfl (by decide) ?_
      exact q_L (by rw [sumD, if_neg h22]) (ih (k + 1) (by omega))
    · refine q_iconst (pc := 25) 0 rfl (by decide) ?_
      refine q_goto (pc := 26) 35 rfl (by decide) ?_
      refine q_iadd (pc := 35) rfl ?_
      refine q_istore_n (pc := 36) (j := 1) [some (.ref 70), some (.int ((sumD (mG S) k) + 0)), some (.int (nI k))] rfl (by decide) rfl ?_
      refine q_iinc (pc := 37) (j := 2) (n := 1) (nI (k + 1)) [some (.ref 70), some (.int ((sumD (mG S) k) + 0)), some (.int (nI (k + 1)))] rfl (by decide) rfl (nI_1 k) rfl ?_
      refine q_goto (pc := 40) 4 rfl (by decide) ?_
      exact q_L (by rw [sumD, if_pos h22, Int32.add_zero]) (ih (k + 1) (by omega))
set_option maxRecDepth 100000 in
theorem sp_X9_durations {sh : List PSh} {S : PSt} (hm : isMo sh) {N : Nat} (hN : S.1 71 0 = nI N) (hN2 : N ≤ 32)  : pF mX9_durations 1 [.ref 70] sh S S (some (.int (sumD (mG S) N))) := by
  refine pF.of (pG.of [some (.ref 70), none, none] (by decide) tk_X9_durations (Nat.le_of_ble_eq_true rfl) rfl (fun X => ?_))
  refine q_iconst (pc := 0) 0 rfl (by decide) ?_
  refine q_istore_n (pc := 1) (j := 1) [some (.ref 70), some (.int 0), none] rfl (by decide) rfl ?_
  refine q_iconst (pc := 2) 0 rfl (by decide) ?_
  refine q_istore_n (pc := 3) (j := 2) [some (.ref 70), some (.int 0), some (.int 0)] rfl (by decide) rfl ?_
  refine lp_X9_durations (by decide) hm hN hN2 ?_ N 0 (Nat.zero_add N)
  refine q_iload_n (pc := 43) (j := 1) rfl rfl ?_
  exact q_iret (pc := 44) rfl rfl ⟨rfl, rfl⟩
set_option maxRecDepth 100000 in
theorem lp_X9_shelvedI {n0 : Nat} {X : Nat × (Nat → Int32)} {P : Option Value → PSt → Prop} {d : Nat} (hd9 : 2 ≤ d) {sh : List PSh} {S : PSt} (hm : isMo sh) {s : Nat} (hs : s < 3) (hsh : mSh S)  (hex : ∀ i, pV mX9_shelved d n0 X sh P 53 [some (.ref 70), some (.int (nI ((cnA (mK S) (mZ S) (mQ S) s) + (cnK (mK S) (mZ S) (mQ S) s 12)))), some (.int (nI s)), some (.int i)] [] S) : ∀ (m k : Nat), k + m = 12 → pV mX9_shelved d n0 X sh P 11 [some (.ref 70), some (.int (nI ((cnA (mK S) (mZ S) (mQ S) s) + (cnK (mK S) (mZ S) (mQ S) s k)))), some (.int (nI s)), some (.int (nI k))] [] S := by
  intro m
  induction m with
  | zero =>
    intro k hk
    have hk9 : 12 = k := by omega
    subst hk9
    refine q_iload_n (pc := 11) (j := 3) rfl rfl ?_
    refine q_bipush (pc := 12) 12 rfl (by decide) ?_
    refine q_icmp_ge (pc := 14) 53 rfl (by decide) (fun _ => ?_) (fun h9 => absurd (by decide) h9)
    exact hex _
  | succ m ih =>
    intro k hk
    have hk1 : k < 12 := by omega
    have hk2 : k < 12 := hk1
    refine q_iload_n (pc := 11) (j := 3) rfl rfl ?_
    refine q_bipush (pc := 12) 12 rfl (by decide) ?_
    refine q_icmp_ge (pc := 14) 53 rfl (by decide) (fun h9 => absurd h9 (nI_ge hk1 (by decide))) (fun _ => ?_)
    refine q_iload_n (pc := 17) (j := 1) rfl rfl ?_
    refine q_aload_n (pc := 18) (j := 0) rfl rfl ?_
    refine q_iload_n (pc := 19) (j := 2) rfl rfl ?_
    refine q_iload_n (pc := 20) (j := 3) rfl rfl ?_
    refine q_callV (pc := 21) (as := [.int (nI s), .int (nI k)]) (rest := [.int (nI ((cnA (mK S) (mZ S) (mQ S) s) + (cnK (mK S) (mZ S) (mQ S) s k)))]) (b := 70) (st2 := [.int (pB (hnB (mK S s) (mZ S s) (nI k))), .int (nI ((cnA (mK S) (mZ S) (mQ S) s) + (cnK (mK S) (mZ S) (mQ S) s k)))]) rfl ce_X9_isPlace ml_X9_297 im_X9_isPlace se_X9_isPlace hm.1 rfl rfl rfl (by omega) (Nat.le_of_ble_eq_true rfl) (sp_X9_isPlace (u := s) hm (by omega) hsh) rfl ?_
    refine q_if_eq (pc := 24) 44 rfl (by decide) (fun h24 => ?_) (fun h24 => ?_)
    · refine q_iconst (pc := 44) 0 rfl (by decide) ?_
      refine q_iadd (pc := 45) rfl ?_
      refine q_istore_n (pc := 46) (j := 1) [some (.ref 70), some (.int ((nI ((cnA (mK S) (mZ S) (mQ S) s) + (cnK (mK S) (mZ S) (mQ S) s k))) + 0)), some (.int (nI s)), some (.int (nI k))] rfl (by decide) rfl ?_
      refine q_iinc (pc := 47) (j := 3) (n := 1) (nI (k + 1)) [some (.ref 70), some (.int ((nI ((cnA (mK S) (mZ S) (mQ S) s) + (cnK (mK S) (mZ S) (mQ S) s k))) + 0)), some (.int (nI s)), some (.int (nI (k + 1)))] rfl (by decide) rfl (nI_1 k) rfl ?_
      refine q_goto (pc := 50) 11 rfl (by decide) ?_
      exact q_L (by rw [cnK_n (fun q9 => by rw [pB_f h24] at q9; exact absurd q9.1 (by decide)), Int32.add_zero]) (ih (k + 1) (by omega))
    · refine q_aload_n (pc := 27) (j := 0) rfl rfl ?_
      refine q_get (pc := 28) (a := 70) (v := .ref 71) rfl fl_X9_9 hm.1 rfl rfl ?_
      refine q_iload_n (pc := 31) (j := 2) rfl rfl ?_
      refine q_iload_n (pc := 32) (j := 3) rfl rfl ?_
      refine q_callS (pc := 33) (as := [.int (nI s), .int (nI k)]) (rest := [.ref 71, .int (nI ((cnA (mK S) (mZ S) (mQ S) s) + (cnK (mK S) (mZ S) (mQ S) s k)))]) (st2 := [.int (nI (164 + 62 * s + 5 * k)), .ref 71, .int (nI ((cnA (mK S) (mZ S) (mQ S) s) + (cnK (mK S) (mZ S) (mQ S) s k)))]) rfl ce_X9_placeAt ml_X9_294 st_X9_placeAt rfl (by omega) (Nat.le_of_ble_eq_true rfl) (sp_X9_placeAt (s := s) (i := k)) rfl ?_
      refine q_iald (pc := 36) (a := 71) (164 + 62 * s + 5 * k) rfl hm.2.1 (vp_in_nI (by omega) (by decide)) (nI_clamp (by omega)) ?_
      refine q_st (st2 := [.int (mQ S (5 * (12 * s + k))), .int (nI ((cnA (mK S) (mZ S) (mQ S) s) + (cnK (mK S) (mZ S) (mQ S) s k)))]) (by rw [(show (S.1 71 (164 + 62 * s + 5 * k)) = _ from mQ_0 hk1)]) ?_
      refine q_if_lt (pc := 37) 44 rfl (by decide) (fun h37 => ?_) (fun h37 => ?_)
      · refine q_iconst (pc := 44) 0 rfl (by decide) ?_
        refine q_iadd (pc := 45) rfl ?_
        refine q_istore_n (pc := 46) (j := 1) [some (.ref 70), some (.int ((nI ((cnA (mK S) (mZ S) (mQ S) s) + (cnK (mK S) (mZ S) (mQ S) s k))) + 0)), some (.int (nI s)), some (.int (nI k))] rfl (by decide) rfl ?_
        refine q_iinc (pc := 47) (j := 3) (n := 1) (nI (k + 1)) [some (.ref 70), some (.int ((nI ((cnA (mK S) (mZ S) (mQ S) s) + (cnK (mK S) (mZ S) (mQ S) s k))) + 0)), some (.int (nI s)), some (.int (nI (k + 1)))] rfl (by decide) rfl (nI_1 k) rfl ?_
        refine q_goto (pc := 50) 11 rfl (by decide) ?_
        exact q_L (by rw [cnK_n (fun q9 => q9.2 (okK_n ((hsh s hs).2.2 k hk1) h37)), Int32.add_zero]) (ih (k + 1) (by omega))
      · refine q_iconst (pc := 40) 1 rfl (by decide) ?_
        refine q_goto (pc := 41) 45 rfl (by decide) ?_
        refine q_iadd (pc := 45) rfl ?_
        refine q_istore_n (pc := 46) (j := 1) [some (.ref 70), some (.int ((nI ((cnA (mK S) (mZ S) (mQ S) s) + (cnK (mK S) (mZ S) (mQ S) s k))) + 1)), some (.int (nI s)), some (.int (nI k))] rfl (by decide) rfl ?_
        refine q_iinc (pc := 47) (j := 3) (n := 1) (nI (k + 1)) [some (.ref 70), some (.int ((nI ((cnA (mK S) (mZ S) (mQ S) s) + (cnK (mK S) (mZ S) (mQ S) s k))) + 1)), some (.int (nI s)), some (.int (nI (k + 1)))] rfl (by decide) rfl (nI_1 k) rfl ?_
        refine q_goto (pc := 50) 11 rfl (by decide) ?_
        exact q_L (by rw [cnK, if_pos ⟨pB_t h24, (okK_p ((hsh s hs).2.2 k hk1) h37).1⟩, nI_1, Nat.add_assoc]) (ih (k + 1) (by omega))
set_option maxRecDepth 100000 in
theorem lp_X9_shelvedO {n0 : Nat} {X : Nat × (Nat → Int32)} {P : Option Value → PSt → Prop} {d : Nat} (hd9 : 2 ≤ d) {sh : List PSh} {S : PSt} (hm : isMo sh) (hsh : mSh S)  (hex : ∀ i o3, pV mX9_shelved d n0 X sh P 59 [some (.ref 70), some (.int (nI (cnA (mK S) (mZ S) (mQ S) 3))), some (.int i), o3] [] S) : ∀ (m k : Nat) (o3 : Option Value), k + m = 3 → pV mX9_shelved d n0 X sh P 4 [some (.ref 70), some (.int (nI (cnA (mK S) (mZ S) (mQ S) k))), some (.int (nI k)), o3] [] S := by
  intro m
  induction m with
  | zero =>
    intro k o3 hk
    have hk9 : 3 = k := by omega
    subst hk9
    refine q_iload_n (pc := 4) (j := 2) rfl rfl ?_
    refine q_iconst (pc := 5) 3 rfl (by decide) ?_
    refine q_icmp_ge (pc := 6) 59 rfl (by decide) (fun _ => ?_) (fun h9 => absurd (by decide) h9)
    exact hex _ _
  | succ m ih =>
    intro k o3 hk
    have hk1 : k < 3 := by omega
    have hk2 : k < 3 := hk1
    refine q_iload_n (pc := 4) (j := 2) rfl rfl ?_
    refine q_iconst (pc := 5) 3 rfl (by decide) ?_
    refine q_icmp_ge (pc := 6) 59 rfl (by decide) (fun h9 => absurd h9 (nI_ge hk1 (by decide))) (fun _ => ?_)
    refine q_iconst (pc := 9) 0 rfl (by decide) ?_
    refine q_istore_n (pc := 10) (j := 3) [some (.ref 70), some (.int (nI (cnA (mK S) (mZ S) (mQ S) k))), some (.int (nI k)), some (.int 0)] rfl (by decide) rfl ?_
    refine q_L (L2 := [some (.ref 70), some (.int (nI ((cnA (mK S) (mZ S) (mQ S) k) + cnK (mK S) (mZ S) (mQ S) k 0))), some (.int (nI k)), some (.int (nI 0))]) (by rw [cnK, Nat.add_zero]; rfl) (lp_X9_shelvedI (s := k) (by omega) hm hk1 hsh (fun i => ?_) 12 0 rfl)
    refine q_iinc (pc := 53) (j := 2) (n := 1) (nI (k + 1)) [some (.ref 70), some (.int (nI (cnA (mK S) (mZ S) (mQ S) (k + 1)))), some (.int (nI (k + 1))), some (.int i)] rfl (by decide) rfl (nI_1 k) rfl ?_
    refine q_goto (pc := 56) 4 rfl (by decide) ?_
    exact ih (k + 1) _ (by omega)
set_option maxRecDepth 100000 in
theorem sp_X9_shelved {sh : List PSh} {S : PSt} (hm : isMo sh) (hsh : mSh S) : pF mX9_shelved 2 [.ref 70] sh S S (some (.int (nI (cnA (mK S) (mZ S) (mQ S) 3)))) := by
  refine pF.of (pG.of [some (.ref 70), none, none, none] (by decide) tk_X9_shelved (Nat.le_of_ble_eq_true rfl) rfl (fun X => ?_))
  refine q_iconst (pc := 0) 0 rfl (by decide) ?_
  refine q_istore_n (pc := 1) (j := 1) [some (.ref 70), some (.int 0), none, none] rfl (by decide) rfl ?_
  refine q_iconst (pc := 2) 0 rfl (by decide) ?_
  refine q_istore_n (pc := 3) (j := 2) [some (.ref 70), some (.int 0), some (.int 0), none] rfl (by decide) rfl ?_
  refine lp_X9_shelvedO (by decide) hm hsh (fun i o3 => ?_) 3 0 none rfl
  refine q_iload_n (pc := 59) (j := 1) rfl rfl ?_
  exact q_iret (pc := 60) rfl rfl ⟨rfl, rfl⟩
set_option maxRecDepth 100000 in
theorem sp_X9_count {sh : List PSh} {S : PSt} {N : Nat} (hm : isMo sh) (hi : mIv S N) {z : Nat} {what : Int32} (hsh : mSh S) (htp : mTp S z)  : pG mX9_count 3 [.ref 70, .int what] sh S (mA (oCount (mG S) (S.1 71 1) N z (mK S) (mZ S) (mQ S) what) S S) := by
  obtain ⟨hN, hN2, hok, hw⟩ := id hi
  refine pG.of [some (.ref 70), some (.int what)] (by decide) tk_X9_count (Nat.le_of_ble_eq_true rfl) rfl (fun X => ?_)
  refine q_iload_n (pc := 0) (j := 1) rfl rfl ?_
  rcases Classical.em (what = (0 : Int32)) with hc1_0 | hc1_0
  · refine q_tableIn (pc := 1) (off := 39) 40 rfl (by rw [hc1_0]; decide) (by rw [hc1_0]; decide) (by rw [hc1_0]; decide) (by decide) ?_
    refine q_aload_n (pc := 40) (j := 0) rfl rfl ?_
    refine q_get (pc := 41) (a := 70) (v := .ref 71) rfl fl_X9_9 hm.1 rfl rfl ?_
    refine q_iconst (pc := 44) 0 rfl (by decide) ?_
    refine q_iald (pc := 45) (a := 71) 0 rfl hm.2.1 (vp_in_nI (n := 0) (by decide) (by decide)) rfl ?_
    refine q_st (st2 := [.int (nI N)]) (by rw [(show (S.1 71 0) = nI N from hN)]) ?_
    exact q_iret (pc := 46) rfl rfl (mA_ok (by rw [oCount, if_pos hc1_0]) fm_rf)
  · skip
    rcases Classical.em (what = (1 : Int32)) with hc1_1 | hc1_1
    · refine q_tableIn (pc := 1) (off := 46) 47 rfl (by rw [hc1_1]; decide) (by rw [hc1_1]; decide) (by rw [hc1_1]; decide) (by decide) ?_
      refine q_aload_n (pc := 47) (j := 0) rfl rfl ?_
      refine q_get (pc := 48) (a := 70) (v := .ref 71) rfl fl_X9_9 hm.1 rfl rfl ?_
      refine q_iconst (pc := 51) 1 rfl (by decide) ?_
      refine q_iald (pc := 52) (a := 71) 1 rfl hm.2.1 (vp_in_nI (n := 1) (by decide) (by decide)) rfl ?_
      exact q_iret (pc := 53) rfl rfl (mA_ok (by rw [oCount, if_neg hc1_0, if_pos hc1_1]) fm_rf)
    · skip
      rcases Classical.em (what = (2 : Int32)) with hc1_2 | hc1_2
      · refine q_tableIn (pc := 1) (off := 53) 54 rfl (by rw [hc1_2]; decide) (by rw [hc1_2]; decide) (by rw [hc1_2]; decide) (by decide) ?_
        refine q_aload_n (pc := 54) (j := 0) rfl rfl ?_
        refine q_get (pc := 55) (a := 70) (v := .int (S.1 70 23)) rfl fl_X9_257 hm.1 rfl rfl ?_
        refine q_st (st2 := [.int (nI z)]) (by rw [(show (S.1 70 23) = nI z from htp.1)]) ?_
        exact q_iret (pc := 58) rfl rfl (mA_ok (by rw [oCount, if_neg hc1_0, if_neg hc1_1, if_pos hc1_2]) fm_rf)
      · skip
        rcases Classical.em (what = (3 : Int32)) with hc1_3 | hc1_3
        · refine q_tableIn (pc := 1) (off := 58) 59 rfl (by rw [hc1_3]; decide) (by rw [hc1_3]; decide) (by rw [hc1_3]; decide) (by decide) ?_
          refine q_aload_n (pc := 59) (j := 0) rfl rfl ?_
          refine q_callV (pc := 60) (as := []) (rest := []) (b := 70) (st2 := [.int (nI (cntN (mG S) N))]) rfl ce_X9_notes ml_X9_331 im_X9_notes se_X9_notes hm.1 rfl rfl rfl (by decide) (Nat.le_of_ble_eq_true rfl) (sp_X9_notes hm hN hN2) rfl ?_
          exact q_iret (pc := 63) rfl rfl (mA_ok (by rw [oCount, if_neg hc1_0, if_neg hc1_1, if_neg hc1_2, if_pos hc1_3]) fm_rf)
        · skip
          rcases Classical.em (what = (4 : Int32)) with hc1_4 | hc1_4
          · refine q_tableIn (pc := 1) (off := 63) 64 rfl (by rw [hc1_4]; decide) (by rw [hc1_4]; decide) (by rw [hc1_4]; decide) (by decide) ?_
            refine q_aload_n (pc := 64) (j := 0) rfl rfl ?_
            refine q_callV (pc := 65) (as := []) (rest := []) (b := 70) (st2 := [.int (sumD (mG S) N)]) rfl ce_X9_durations ml_X9_335 im_X9_durations se_X9_durations hm.1 rfl rfl rfl (by decide) (Nat.le_of_ble_eq_true rfl) (sp_X9_durations hm hN hN2) rfl ?_
            exact q_iret (pc := 68) rfl rfl (mA_ok (by rw [oCount, if_neg hc1_0, if_neg hc1_1, if_neg hc1_2, if_neg hc1_3, if_pos hc1_4]) fm_rf)
          · skip
            rcases Classical.em (what = (5 : Int32)) with hc1_5 | hc1_5
            · refine q_tableIn (pc := 1) (off := 68) 69 rfl (by rw [hc1_5]; decide) (by rw [hc1_5]; decide) (by rw [hc1_5]; decide) (by decide) ?_
              refine q_aload_n (pc := 69) (j := 0) rfl rfl ?_
              refine q_callV (pc := 70) (as := []) (rest := []) (b := 70) (st2 := [.int (nI (cnA (mK S) (mZ S) (mQ S) 3))]) rfl ce_X9_shelved ml_X9_338 im_X9_shelved se_X9_shelved hm.1 rfl rfl rfl (by decide) (Nat.le_of_ble_eq_true rfl) (sp_X9_shelved hm hsh) rfl ?_
              exact q_iret (pc := 73) rfl rfl (mA_ok (by rw [oCount, if_neg hc1_0, if_neg hc1_1, if_neg hc1_2, if_neg hc1_3, if_neg hc1_4, if_pos hc1_5]) fm_rf)
            · skip
              refine q_tableOut (pc := 1) 74 rfl (sw_out6 hc1_0 hc1_1 hc1_2 hc1_3 hc1_4 hc1_5) (by decide) ?_
              refine q_aload_n (pc := 74) (j := 0) rfl rfl ?_
              refine q_ldc (pc := 75) (v := (-2147483001)) rfl kc_X9_109 ?_
              refine q_callV (pc := 77) (as := [.int (-2147483001)]) (rest := []) (b := 70) (st2 := [.int (-2147483000 - nI 1)]) rfl ce_X9_errs ml_X9_110 im_X9_errs se_X9_errs hm.1 rfl rfl rfl (by decide) (Nat.le_of_ble_eq_true rfl) (sp_X9_errs (e := 1) hm (by decide) (by decide)) rfl ?_
              exact q_iret (pc := 80) rfl rfl (mA_no (k := 0) (by rw [oCount, if_neg hc1_0, if_neg hc1_1, if_neg hc1_2, if_neg hc1_3, if_neg hc1_4, if_neg hc1_5]) fm_rf)
/-- the first k numbers of a sheet are laid -/
def ldU (T : PSt) (u : Nat) (q : Int32) (f : Nat → UInt32) (k : Nat) : PSt := (fun c j => if (¬ q = 0 ∧ ¬ q = 1) ∧ c = 93 ∧ 40 * u ≤ j ∧ j < 40 * u + k then (if q = 2 then (FP.f2i (f (j - 40 * u))).toInt16.toInt32 else FP.f2i (f (j - 40 * u))) else T.1 c j, fun c j => if q = 0 ∧ c = 91 ∧ 40 * u ≤ j ∧ j < 40 * u + k then f (j - 40 * u) else T.2.1 c j, T.2.2.1, fun c j => if (¬ q = 0 ∧ q = 1) ∧ c = 92 ∧ 40 * u ≤ j ∧ j < 40 * u + k then FP.f2d (f (j - 40 * u)) else T.2.2.2 c j)
theorem ldU_0 {T : PSt} {u : Nat} {q : Int32} {f : Nat → UInt32} : T = ldU T u q f 0 := by
  unfold ldU
  refine Prod.ext (funext fun c => funext fun j => ?_) (Prod.ext (funext fun c => funext fun j => ?_) (Prod.ext rfl (funext fun c => funext fun j => ?_)))
  all_goals
    dsimp only
    rw [if_neg (fun q9 => by have := q9.2; omega)]
theorem ldU_a {T : PSt} {u k : Nat} {q : Int32} {f : Nat → UInt32} (h : q = 0) : pSF (ldU T u q f k) 91 (40 * u + k) (f k) = ldU T u q f (k + 1) := by
  subst h
  unfold ldU pSF pU
  refine Prod.ext (funext fun c => funext fun j => ?_) (Prod.ext (funext fun c => funext fun j => ?_) (Prod.ext rfl (funext fun c => funext fun j => ?_)))
  · dsimp only
    rw [if_neg (fun q9 => q9.1.1 rfl), if_neg (fun q9 => q9.1.1 rfl)]
  · dsimp only
    by_cases h : c = 91 ∧ j = 40 * u + k
    · rw [if_pos h, if_pos ⟨rfl, h.1, by omega, by omega⟩, h.2, Nat.add_sub_cancel_left]
    · rw [if_neg h]
      by_cases h2 : c = 91 ∧ 40 * u ≤ j ∧ j < 40 * u + k
      · rw [if_pos ⟨rfl, h2⟩, if_pos ⟨rfl, h2.1, h2.2.1, by omega⟩]
      · rw [if_neg (fun q9 => h2 q9.2), if_neg (fun q9 => by have := q9.2; omega)]
  · dsimp only
    rw [if_neg (fun q9 => q9.1.1 rfl), if_neg (fun q9 => q9.1.1 rfl)]
theorem ldU_b {T : PSt} {u k : Nat} {q : Int32} {f : Nat → UInt32} (h0 : ¬ q = 0) (h : q = 1) : pSD (ldU T u q f k) 92 (40 * u + k) (FP.f2d (f k)) = ldU T u q f (k + 1) := by
  unfold ldU pSD pU
  refine Prod.ext (funext fun c => funext fun j => ?_) (Prod.ext (funext fun c => funext fun j => ?_) (Prod.ext rfl (funext fun c => funext fun j => ?_)))
  · dsimp only
    rw [if_neg (fun q9 => q9.1.2 h), if_neg (fun q9 => q9.1.2 h)]
  · dsimp only
    rw [if_neg (fun q9 => h0 q9.1), if_neg (fun q9 => h0 q9.1)]
  · dsimp only
    by_cases h2 : c = 92 ∧ j = 40 * u + k
    · rw [if_pos h2, if_pos ⟨⟨h0, h⟩, h2.1, by omega, by omega⟩, h2.2, Nat.add_sub_cancel_left]
    · rw [if_neg h2]
      by_cases h3 : c = 92 ∧ 40 * u ≤ j ∧ j < 40 * u + k
      · rw [if_pos ⟨⟨h0, h⟩, h3⟩, if_pos ⟨⟨h0, h⟩, h3.1, h3.2.1, by omega⟩]
      · rw [if_neg (fun q9 => h3 q9.2), if_neg (fun q9 => by have := q9.2; omega)]
theorem ldU_c {T : PSt} {u k : Nat} {q : Int32} {f : Nat → UInt32} (h0 : ¬ q = 0) (h : ¬ q = 1) : pSI (ldU T u q f k) 93 (40 * u + k) (if q = 2 then (FP.f2i (f k)).toInt16.toInt32 else FP.f2i (f k)) = ldU T u q f (k + 1) := by
  unfold ldU pSI pU
  refine Prod.ext (funext fun c => funext fun j => ?_) (Prod.ext (funext fun c => funext fun j => ?_) (Prod.ext rfl (funext fun c => funext fun j => ?_)))
  · dsimp only
    by_cases h2 : c = 93 ∧ j = 40 * u + k
    · rw [if_pos h2, if_pos (show (¬ q = 0 ∧ ¬ q = 1) ∧ c = 93 ∧ 40 * u ≤ j ∧ j < 40 * u + (k + 1) from ⟨⟨h0, h⟩, h2.1, by omega, by omega⟩), h2.2, Nat.add_sub_cancel_left]
    · rw [if_neg h2]
      by_cases h3 : c = 93 ∧ 40 * u ≤ j ∧ j < 40 * u + k
      · rw [if_pos (show (¬ q = 0 ∧ ¬ q = 1) ∧ c = 93 ∧ 40 * u ≤ j ∧ j < 40 * u + k from ⟨⟨h0, h⟩, h3⟩), if_pos (show (¬ q = 0 ∧ ¬ q = 1) ∧ c = 93 ∧ 40 * u ≤ j ∧ j < 40 * u + (k + 1) from ⟨⟨h0, h⟩, h3.1, h3.2.1, by omega⟩)]
      · rw [if_neg (fun q9 => h3 q9.2), if_neg (fun q9 => by have := q9.2; omega)]
  · dsimp only
    rw [if_neg (fun q9 => h0 q9.1), if_neg (fun q9 => h0 q9.1)]
  · dsimp only
    rw [if_neg (fun q9 => h q9.1.2), if_neg (fun q9 => h q9.1.2)]
theorem ldU_I {T : PSt} {u k c : Nat} {q : Int32} {f : Nat → UInt32} (h : c ≠ 93) : (ldU T u q f k).1 c = T.1 c := by
  funext j
  unfold ldU
  dsimp only
  rw [if_neg (fun q9 => h q9.2.1)]
theorem ldU_76 {T : PSt} {u k : Nat} {q : Int32} {f : Nat → UInt32} : (ldU T u q f k).2.1 76 = T.2.1 76 := by
  funext j
  unfold ldU
  dsimp only
  rw [if_neg (fun q9 => absurd q9.2.1 (by decide))]
theorem lay_lt {R : Int32} {n k : Nat} (h : k < layN R n) (h1 : k < 2 ^ 31) : ¬ R ≤ nI k ∧ k < n := by
  unfold layN at h
  refine ⟨fun q => ?_, by omega⟩
  rw [Int32.le_iff_toInt_le, nI_toInt h1] at q
  omega
theorem lay_ge {R : Int32} {n k : Nat} (h : k = layN R n) (h1 : k < 2 ^ 31) (h2 : ¬ R ≤ nI k) : n ≤ k := by
  unfold layN at h
  rw [Int32.le_iff_toInt_le, nI_toInt h1] at h2
  omega
set_option maxRecDepth 100000 in
theorem lp_X9_lays {n0 : Nat} {X : Nat × (Nat → Int32)} {P : Option Value → PSt → Prop} {d : Nat} (hd9 : 1 ≤ d) {sh : List PSh} {S : PSt} {u x y N : Nat} (hm : isMo sh) (hu : u < 4) (hss : mSs S) (hxy : x ≤ y) (hyN : y < N) (hN2 : N ≤ 32) (hok : okG (mG S) N) (hw : okWd (S.1 71 1)) (hex : ∀ o5, pV mX9_lays d n0 X sh P 167 [some (.ref 70), some (.int (nI u)), some (.int (nI x)), some (.int (nI y)), some (.int (nI (layN (S.1 90 u) (y - x + 1)))), o5] [] (ldU (lyM S x (y - x + 1)) u (S.1 89 u) (atV (mG S) (S.1 71 1) x (y - x + 1)) (layN (S.1 90 u) (y - x + 1)))) : ∀ (m k : Nat) (o5 : Option Value), k + m = (layN (S.1 90 u) (y - x + 1)) → pV mX9_lays d n0 X sh P 49 [some (.ref 70), some (.int (nI u)), some (.int (nI x)), some (.int (nI y)), some (.int (nI k)), o5] [] (ldU (lyM S x (y - x + 1)) u (S.1 89 u) (atV (mG S) (S.1 71 1) x (y - x + 1)) k) := by
  have hl9 : (layN (S.1 90 u) (y - x + 1)) ≤ 40 := by have := (hss u hu).1; unfold layN; omega
  have hl8 : (layN (S.1 90 u) (y - x + 1)) ≤ y - x + 1 := by unfold layN; omega
  intro m
  induction m with
  | zero =>
    intro k o5 hk
    have hk : k = (layN (S.1 90 u) (y - x + 1)) := by omega
    rw [← hk] at hex
    refine q_iload (pc := 49) (j := 4) rfl rfl ?_
    refine q_aload_n (pc := 51) (j := 0) rfl rfl ?_
    refine q_get (pc := 52) (a := 70) (v := .ref 90) rfl fl_X9_69 hm.1 rfl rfl ?_
    refine q_iload_n (pc := 55) (j := 1) rfl rfl ?_
    refine q_iald (pc := 56) (a := 90) u rfl hm.2.2.2.2.2.2.2.2.2.2.2.2.2.2.2.2.2.2.2.2.1 (vp_in_nI (by omega) (by decide)) (nI_clamp (by omega)) ?_
    refine q_st (st2 := [.int (S.1 90 u), .int (nI k)]) (by rw [(show ((ldU (lyM S x (y - x + 1)) u (S.1 89 u) (atV (mG S) (S.1 71 1) x (y - x + 1)) k).1 90 u) = (S.1 90 u) from congrFun ((ldU_I (by decide)).trans (lyM_o (by decide) (by decide))) u)]) ?_
    refine q_icmp_ge (pc := 57) 167 rfl (by decide) (fun h57 => ?_) (fun h57 => ?_)
    · exact hex _
    · refine q_iload_n (pc := 60) (j := 2) rfl rfl ?_
      refine q_iload (pc := 61) (j := 4) rfl rfl ?_
      refine q_iadd (pc := 63) rfl ?_
      refine q_st (st2 := [.int (nI (x + k))]) (by rw [nI_add x k]) ?_
      refine q_iload_n (pc := 64) (j := 3) rfl rfl ?_
      refine q_icmp_gt (pc := 65) 167 rfl (by decide) (fun _ => ?_) (fun h9 => absurd (by have h9 := lay_ge hk (by omega) h57; exact nI_lt (by omega) (by omega)) h9)
      exact hex _
  | succ m ih =>
    intro k o5 hk
    have hlt := lay_lt (R := (S.1 90 u)) (n := y - x + 1) (k := k) (by omega) (by omega)
    have hk2 := hlt.2
    have hla := at_lay (k := k) (a := x) (n := y - x + 1) hok hw (by omega) (by omega) (by omega)
    refine q_iload (pc := 49) (j := 4) rfl rfl ?_
    refine q_aload_n (pc := 51) (j := 0) rfl rfl ?_
    refine q_get (pc := 52) (a := 70) (v := .ref 90) rfl fl_X9_69 hm.1 rfl rfl ?_
    refine q_iload_n (pc := 55) (j := 1) rfl rfl ?_
    refine q_iald (pc := 56) (a := 90) u rfl hm.2.2.2.2.2.2.2.2.2.2.2.2.2.2.2.2.2.2.2.2.1 (vp_in_nI (by omega) (by decide)) (nI_clamp (by omega)) ?_
    refine q_st (st2 := [.int (S.1 90 u), .int (nI k)]) (by rw [(show ((ldU (lyM S x (y - x + 1)) u (S.1 89 u) (atV (mG S) (S.1 71 1) x (y - x + 1)) k).1 90 u) = (S.1 90 u) from congrFun ((ldU_I (by decide)).trans (lyM_o (by decide) (by decide))) u)]) ?_
    refine q_icmp_ge (pc := 57) 167 rfl (by decide) (fun h9 => absurd h9 hlt.1) (fun _ => ?_)
    refine q_iload_n (pc := 60) (j := 2) rfl rfl ?_
    refine q_iload (pc := 61) (j := 4) rfl rfl ?_
    refine q_iadd (pc := 63) rfl ?_
    refine q_st (st2 := [.int (nI (x + k))]) (by rw [nI_add x k]) ?_
    refine q_iload_n (pc := 64) (j := 3) rfl rfl ?_
    refine q_icmp_gt (pc := 65) 167 rfl (by decide) (fun h9 => absurd h9 (nI_nlt (by omega) (by omega))) (fun _ => ?_)
    refine q_bipush (pc := 68) 40 rfl (by decide) ?_
    refine q_iload_n (pc := 70) (j := 1) rfl rfl ?_
    refine q_imul (pc := 71) rfl ?_
    refine q_iload (pc := 72) (j := 4) rfl rfl ?_
    refine q_iadd (pc := 74) rfl ?_
    refine q_st (st2 := [.int (nI (40 * u + k))]) (by rw [ix40]) ?_
    refine q_istore (pc := 75) (j := 5) [some (.ref 70), some (.int (nI u)), some (.int (nI x)), some (.int (nI y)), some (.int (nI k)), some (.int (nI (40 * u + k)))] rfl (by decide) rfl ?_
    refine q_aload_n (pc := 77) (j := 0) rfl rfl ?_
    refine q_get (pc := 78) (a := 70) (v := .ref 89) rfl fl_X9_66 hm.1 rfl rfl ?_
    refine q_iload_n (pc := 81) (j := 1) rfl rfl ?_
    refine q_iald (pc := 82) (a := 89) u rfl hm.2.2.2.2.2.2.2.2.2.2.2.2.2.2.2.2.2.2.2.1 (vp_in_nI (by omega) (by decide)) (nI_clamp (by omega)) ?_
    refine q_st (st2 := [.int (S.1 89 u)]) (by rw [(show ((ldU (lyM S x (y - x + 1)) u (S.1 89 u) (atV (mG S) (S.1 71 1) x (y - x + 1)) k).1 89 u) = (S.1 89 u) from congrFun ((ldU_I (by decide)).trans (lyM_o (by decide) (by decide))) u)]) ?_
    refine q_if_ne (pc := 83) 105 rfl (by decide) (fun h83 => ?_) (fun h83 => ?_)
    · refine q_aload_n (pc := 105) (j := 0) rfl rfl ?_
      refine q_get (pc := 106) (a := 70) (v := .ref 89) rfl fl_X9_66 hm.1 rfl rfl ?_
      refine q_iload_n (pc := 109) (j := 1) rfl rfl ?_
      refine q_iald (pc := 110) (a := 89) u rfl hm.2.2.2.2.2.2.2.2.2.2.2.2.2.2.2.2.2.2.2.1 (vp_in_nI (by omega) (by decide)) (nI_clamp (by omega)) ?_
      refine q_st (st2 := [.int (S.1 89 u)]) (by rw [(show ((ldU (lyM S x (y - x + 1)) u (S.1 89 u) (atV (mG S) (S.1 71 1) x (y - x + 1)) k).1 89 u) = (S.1 89 u) from congrFun ((ldU_I (by decide)).trans (lyM_o (by decide) (by decide))) u)]) ?_
      refine q_iconst (pc := 111) 1 rfl (by decide) ?_
      refine q_icmp_ne (pc := 112) 135 rfl (by decide) (fun h112 => ?_) (fun h112 => ?_)
      · refine q_aload_n (pc := 135) (j := 0) rfl rfl ?_
        refine q_get (pc := 136) (a := 70) (v := .ref 93) rfl fl_X9_79 hm.1 rfl rfl ?_
        refine q_iload (pc := 139) (j := 5) rfl rfl ?_
        refine q_aload_n (pc := 141) (j := 0) rfl rfl ?_
        refine q_get (pc := 142) (a := 70) (v := .ref 89) rfl fl_X9_66 hm.1 rfl rfl ?_
        refine q_iload_n (pc := 145) (j := 1) rfl rfl ?_
        refine q_iald (pc := 146) (a := 89) u rfl hm.2.2.2.2.2.2.2.2.2.2.2.2.2.2.2.2.2.2.2.1 (vp_in_nI (by omega) (by decide)) (nI_clamp (by omega)) ?_
        refine q_st (st2 := [.int (S.1 89 u), .int (nI (40 * u + k)), .ref 93]) (by rw [(show ((ldU (lyM S x (y - x + 1)) u (S.1 89 u) (atV (mG S) (S.1 71 1) x (y - x + 1)) k).1 89 u) = (S.1 89 u) from congrFun ((ldU_I (by decide)).trans (lyM_o (by decide) (by decide))) u)]) ?_
        refine q_aload_n (pc := 147) (j := 0) rfl rfl ?_
        refine q_get (pc := 148) (a := 70) (v := .ref 76) rfl fl_X9_27 hm.1 rfl rfl ?_
        refine q_iload_n (pc := 151) (j := 2) rfl rfl ?_
        refine q_iload (pc := 152) (j := 4) rfl rfl ?_
        refine q_iadd (pc := 154) rfl ?_
        refine q_st (st2 := [.int (nI (x + k)), .ref 76, .int (S.1 89 u), .int (nI (40 * u + k)), .ref 93]) (by rw [nI_add x k]) ?_
        refine q_fald (pc := 155) (a := 76) (x + k) rfl hm.2.2.2.2.2.2.1 (vp_in_nI (by omega) (by decide)) (nI_clamp (by omega)) ?_
        refine q_st (st2 := [.float ((atV (mG S) (S.1 71 1) x (y - x + 1)) k), .int (S.1 89 u), .int (nI (40 * u + k)), .ref 93]) (by rw [(show ((ldU (lyM S x (y - x + 1)) u (S.1 89 u) (atV (mG S) (S.1 71 1) x (y - x + 1)) k).2.1 76 (x + k)) = (atV (mG S) (S.1 71 1) x (y - x + 1)) k from (congrFun ldU_76 (x + k)).trans (lyM_at (by omega)))]) ?_
        refine q_f2i (pc := 156) rfl ?_
        refine q_callS (pc := 157) (as := [.int (S.1 89 u), .int (FP.f2i ((atV (mG S) (S.1 71 1) x (y - x + 1)) k))]) (rest := [.int (nI (40 * u + k)), .ref 93]) (st2 := [.int (if (S.1 89 u) = 2 then (FP.f2i ((atV (mG S) (S.1 71 1) x (y - x + 1)) k)).toInt16.toInt32 else (FP.f2i ((atV (mG S) (S.1 71 1) x (y - x + 1)) k))), .int (nI (40 * u + k)), .ref 93]) rfl ce_X9_narrow ml_X9_307 st_X9_narrow rfl (by omega) (Nat.le_of_ble_eq_true rfl) (sp_X9_narrow) rfl ?_
        refine q_iast (pc := 160) (a := 93) (40 * u + k) rfl hm.2.2.2.2.2.2.2.2.2.2.2.2.2.2.2.2.2.2.2.2.2.2.2 (vp_in_nI (by omega) (by decide)) (nI_clamp (by omega)) ?_
        refine q_iinc (pc := 161) (j := 4) (n := 1) (nI (k + 1)) [some (.ref 70), some (.int (nI u)), some (.int (nI x)), some (.int (nI y)), some (.int (nI (k + 1))), some (.int (nI (40 * u + k)))] rfl (by decide) rfl (nI_1 k) rfl ?_
        refine q_goto (pc := 164) 49 rfl (by decide) ?_
        exact q_S (ldU_c h83 h112) (ih (k + 1) _ (by omega))
      · refine q_aload_n (pc := 115) (j := 0) rfl rfl ?_
        refine q_get (pc := 116) (a := 70) (v := .ref 92) rfl fl_X9_75 hm.1 rfl rfl ?_
        refine q_iload (pc := 119) (j := 5) rfl rfl ?_
        refine q_aload_n (pc := 121) (j := 0) rfl rfl ?_
        refine q_get (pc := 122) (a := 70) (v := .ref 76) rfl fl_X9_27 hm.1 rfl rfl ?_
        refine q_iload_n (pc := 125) (j := 2) rfl rfl ?_
        refine q_iload (pc := 126) (j := 4) rfl rfl ?_
        refine q_iadd (pc := 128) rfl ?_
        refine q_st (st2 := [.int (nI (x + k)), .ref 76, .int (nI (40 * u + k)), .ref 92]) (by rw [nI_add x k]) ?_
        refine q_fald (pc := 129) (a := 76) (x + k) rfl hm.2.2.2.2.2.2.1 (vp_in_nI (by omega) (by decide)) (nI_clamp (by omega)) ?_
        refine q_st (st2 := [.float ((atV (mG S) (S.1 71 1) x (y - x + 1)) k), .int (nI (40 * u + k)), .ref 92]) (by rw [(show ((ldU (lyM S x (y - x + 1)) u (S.1 89 u) (atV (mG S) (S.1 71 1) x (y - x + 1)) k).2.1 76 (x + k)) = (atV (mG S) (S.1 71 1) x (y - x + 1)) k from (congrFun ldU_76 (x + k)).trans (lyM_at (by omega)))]) ?_
        refine q_f2d (pc := 130) rfl hla.2.2.1 ?_
        refine q_dast (pc := 131) (a := 92) (40 * u + k) rfl hm.2.2.2.2.2.2.2.2.2.2.2.2.2.2.2.2.2.2.2.2.2.2.1 (vp_in_nI (by omega) (by decide)) (nI_clamp (by omega)) ?_
        refine q_goto (pc := 132) 161 rfl (by decide) ?_
        refine q_iinc (pc := 161) (j := 4) (n := 1) (nI (k + 1)) [some (.ref 70), some (.int (nI u)), some (.int (nI x)), some (.int (nI y)), some (.int (nI (k + 1))), some (.int (nI (40 * u + k)))] rfl (by decide) rfl (nI_1 k) rfl ?_
        refine q_goto (pc := 164) 49 rfl (by decide) ?_
        exact q_S (ldU_b h83 (show (S.1 89 u) = 1 from h112)) (ih (k + 1) _ (by omega))
    · refine q_aload_n (pc := 86) (j := 0) rfl rfl ?_
      refine q_get (pc := 87) (a := 70) (v := .ref 91) rfl fl_X9_72 hm.1 rfl rfl ?_
      refine q_iload (pc := 90) (j := 5) rfl rfl ?_
      refine q_aload_n (pc := 92) (j := 0) rfl rfl ?_
      refine q_get (pc := 93) (a := 70) (v := .ref 76) rfl fl_X9_27 hm.1 rfl rfl ?_
      refine q_iload_n (pc := 96) (j := 2) rfl rfl ?_
      refine q_iload (pc := 97) (j := 4) rfl rfl ?_
      refine q_iadd (pc := 99) rfl ?_
      refine q_st (st2 := [.int (nI (x + k)), .ref 76, .int (nI (40 * u + k)), .ref 91]) (by rw [nI_add x k]) ?_
      refine q_fald (pc := 100) (a := 76) (x + k) rfl hm.2.2.2.2.2.2.1 (vp_in_nI (by omega) (by decide)) (nI_clamp (by omega)) ?_
      refine q_st (st2 := [.float ((atV (mG S) (S.1 71 1) x (y - x + 1)) k), .int (nI (40 * u + k)), .ref 91]) (by rw [(show ((ldU (lyM S x (y - x + 1)) u (S.1 89 u) (atV (mG S) (S.1 71 1) x (y - x + 1)) k).2.1 76 (x + k)) = (atV (mG S) (S.1 71 1) x (y - x + 1)) k from (congrFun ldU_76 (x + k)).trans (lyM_at (by omega)))]) ?_
      refine q_fast (pc := 101) (a := 91) (40 * u + k) rfl hm.2.2.2.2.2.2.2.2.2.2.2.2.2.2.2.2.2.2.2.2.2.1 (vp_in_nI (by omega) (by decide)) (nI_clamp (by omega)) ?_
      refine q_goto (pc := 102) 161 rfl (by decide) ?_
      refine q_iinc (pc := 161) (j := 4) (n := 1) (nI (k + 1)) [some (.ref 70), some (.int (nI u)), some (.int (nI x)), some (.int (nI y)), some (.int (nI (k + 1))), some (.int (nI (40 * u + k)))] rfl (by decide) rfl (nI_1 k) rfl ?_
      refine q_goto (pc := 164) 49 rfl (by decide) ?_
      exact q_S (ldU_a (show (S.1 89 u) = 0 from h83)) (ih (k + 1) _ (by omega))
theorem fm_ld {S T : PSt} {u k : Nat} {q : Int32} {f : Nat → UInt32} (h : frM S T) : frM (ldU S u q f k) (ldU T u q f k) := by
  refine ⟨fun c h1 h2 => ?_, ?_, ?_⟩
  · obtain ⟨a1, a2, a3, a4⟩ := h.1 c h1 h2
    unfold ldU
    dsimp only
    rw [a1, a2, a3, a4]
    exact ⟨rfl, rfl, rfl, rfl⟩
  · rw [ldU_I (by decide), ldU_I (by decide)]; exact h.2.1
  · rw [ldU_I (by decide), ldU_I (by decide)]; exact h.2.2
set_option maxRecDepth 100000 in
theorem sp_X9_lays {sh : List PSh} {S : PSt} {N : Nat} (hm : isMo sh) (hi : mIv S N) {s a b : Int32} (hss : mSs S)  : pG mX9_lays 5 [.ref 70, .int s, .int a, .int b] sh S (mA (oLays (S.1 89) (S.1 90) N s a b) S (ldU S (tN s) (S.1 89 (tN s)) (fun k => atV (mG S) (S.1 71 1) (tN a) (lnN a b) k) (layN (S.1 90 (tN s)) (lnN a b)))) := by
  obtain ⟨hN, hN2, hok, hw⟩ := id hi
  refine pG.of [some (.ref 70), some (.int s), some (.int a), some (.int b), none, none] (by decide) tk_X9_lays (Nat.le_of_ble_eq_true rfl) rfl (fun X => ?_)
  refine q_iload_n (pc := 0) (j := 1) rfl rfl ?_
  refine q_callS (pc := 1) (as := [.int s]) (rest := []) (st2 := [.int (pB (pWi s 0 3))]) rfl ce_X9_isSheet ml_X9_301 st_X9_isSheet rfl (by decide) (Nat.le_of_ble_eq_true rfl) (sp_X9_isSheet) rfl ?_
  refine q_if_eq (pc := 4) 16 rfl (by decide) (fun h4 => ?_) (fun h4 => ?_)
  · refine q_aload_n (pc := 16) (j := 0) rfl rfl ?_
    refine q_ldc (pc := 17) (v := (-2147483001)) rfl kc_X9_109 ?_
    refine q_callV (pc := 19) (as := [.int (-2147483001)]) (rest := []) (b := 70) (st2 := [.int (-2147483000 - nI 1)]) rfl ce_X9_errs ml_X9_110 im_X9_errs se_X9_errs hm.1 rfl rfl rfl (by decide) (Nat.le_of_ble_eq_true rfl) (sp_X9_errs (e := 1) hm (by decide) (by decide)) rfl ?_
    exact q_iret (pc := 22) rfl rfl (mA_no (k := 0) (by rw [oLays, if_neg (show ¬ _ = true from by rw [pB_f h4]; decide)]) fm_rf)
  · refine q_aload_n (pc := 7) (j := 0) rfl rfl ?_
    refine q_iload_n (pc := 8) (j := 2) rfl rfl ?_
    refine q_iload_n (pc := 9) (j := 3) rfl rfl ?_
    refine q_callV (pc := 10) (as := [.int a, .int b]) (rest := []) (b := 70) (st2 := [.int (pB (isStB N a b))]) rfl ce_X9_isStretch ml_X9_176 im_X9_isStretch se_X9_isStretch hm.1 rfl rfl rfl (by decide) (Nat.le_of_ble_eq_true rfl) (sp_X9_isStretch hm hN hN2) rfl ?_
    refine q_if_ne (pc := 13) 23 rfl (by decide) (fun h13 => ?_) (fun h13 => ?_)
    · obtain ⟨u, huu, rfl⟩ := pWi_of (m := 3) (by decide) (by decide) (pB_t h4); obtain ⟨x, y, rfl, rfl, hxy, hyN⟩ := isSt_of hN2 (pB_t h13)
      refine q_aload_n (pc := 23) (j := 0) rfl rfl ?_
      refine q_get (pc := 24) (a := 70) (v := .ref 89) rfl fl_X9_66 hm.1 rfl rfl ?_
      refine q_iload_n (pc := 27) (j := 1) rfl rfl ?_
      refine q_iald (pc := 28) (a := 89) u rfl hm.2.2.2.2.2.2.2.2.2.2.2.2.2.2.2.2.2.2.2.1 (vp_in_nI (by omega) (by decide)) (nI_clamp (by omega)) ?_
      refine q_if_ge (pc := 29) 40 rfl (by decide) (fun h29 => ?_) (fun h29 => ?_)
      · refine q_aload_n (pc := 40) (j := 0) rfl rfl ?_
        refine q_iload_n (pc := 41) (j := 2) rfl rfl ?_
        refine q_iload_n (pc := 42) (j := 3) rfl rfl ?_
        refine q_callV (pc := 43) (as := [.int (nI x), .int (nI y)]) (rest := []) (b := 70) (st2 := []) rfl ce_X9_laysOut ml_X9_179 im_X9_laysOut se_X9_laysOut hm.1 rfl rfl rfl (by decide) (Nat.le_of_ble_eq_true rfl) (sp_X9_laysOutI (x := x) (y := y) (N := N) hm hi (by omega) (by omega)) rfl ?_
        refine q_iconst (pc := 46) 0 rfl (by decide) ?_
        refine q_istore (pc := 47) (j := 4) [some (.ref 70), some (.int (nI u)), some (.int (nI x)), some (.int (nI y)), some (.int 0), none] rfl (by decide) rfl ?_
        refine q_S (ldU_0 (u := u) (q := (S.1 89 u)) (f := (atV (mG S) (S.1 71 1) x (y - x + 1)))) (lp_X9_lays (by decide) hm (by omega) hss hxy hyN hN2 hok hw (fun o5 => ?_) (layN (S.1 90 u) (y - x + 1)) 0 _ (Nat.zero_add _))
        refine q_iload (pc := 167) (j := 4) rfl rfl ?_
        exact q_iret (pc := 169) rfl rfl (mA_ok (by rw [oLays, if_pos (pB_t h4), if_pos (pB_t h13), tN_nI (show u < 2 ^ 31 by omega), if_neg (okSo_p (Int32.not_lt.mpr h29)), lnN, tN_nI (show x < 2 ^ 31 by omega), tN_nI (show y < 2 ^ 31 by omega)]) (by rw [tN_nI (show u < 2 ^ 31 by omega), lnN, tN_nI (show x < 2 ^ 31 by omega), tN_nI (show y < 2 ^ 31 by omega)]; exact fm_ld fm_ly))
      · refine q_aload_n (pc := 32) (j := 0) rfl rfl ?_
        refine q_ldcw (pc := 33) (v := (-2147483007)) rfl kc_X9_300 ?_
        refine q_callV (pc := 36) (as := [.int (-2147483007)]) (rest := []) (b := 70) (st2 := [.int (-2147483000 - nI 7)]) rfl ce_X9_errs ml_X9_110 im_X9_errs se_X9_errs hm.1 rfl rfl rfl (by decide) (Nat.le_of_ble_eq_true rfl) (sp_X9_errs (e := 7) hm (by decide) (by decide)) rfl ?_
        exact q_iret (pc := 39) rfl rfl (mA_no (k := 6) (by rw [oLays, if_pos (pB_t h4), if_pos (pB_t h13), tN_nI (show u < 2 ^ 31 by omega), if_pos (okSo_n (hss u (by omega)).2.1 (Int32.not_le.mp h29))]) fm_rf)
    · refine q_aload_n (pc := 16) (j := 0) rfl rfl ?_
      refine q_ldc (pc := 17) (v := (-2147483001)) rfl kc_X9_109 ?_
      refine q_callV (pc := 19) (as := [.int (-2147483001)]) (rest := []) (b := 70) (st2 := [.int (-2147483000 - nI 1)]) rfl ce_X9_errs ml_X9_110 im_X9_errs se_X9_errs hm.1 rfl rfl rfl (by decide) (Nat.le_of_ble_eq_true rfl) (sp_X9_errs (e := 1) hm (by decide) (by decide)) rfl ?_
      exact q_iret (pc := 22) rfl rfl (mA_no (k := 0) (by rw [oLays, if_pos (pB_t h4), if_neg (show ¬ _ = true from by rw [pB_f h13]; decide)]) fm_rf)
