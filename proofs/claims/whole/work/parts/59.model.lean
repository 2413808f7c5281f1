/-! the model: number: written by wip/whole/gen/c59.py -/
theorem d0_eq {b : Nat → Int32} {z p : Nat} (h : digB b z p = true) : (10 : Int32) * 0 + b p - 48 = dgF b z p := by
  rw [(dig_y h).2.1, Int32.mul_zero, Int32.zero_add]
theorem d1_eq {b : Nat → Int32} {z p : Nat} {v : Int32} (h : digB b z p = true) : (10 : Int32) * v + b p - 48 = v * 10 + dgF b z p := by
  rw [(dig_y h).2.1, Int32.mul_comm, Int32.sub_eq_add_neg, Int32.sub_eq_add_neg, Int32.add_assoc]
theorem vb_i {v d : Int32} (h1 : 0 ≤ v.toInt) (h2 : v.toInt ≤ 64) (h3 : 0 ≤ d.toInt) (h4 : d.toInt ≤ 9) : (v * 10 + d).toInt = v.toInt * 10 + d.toInt := by
  have e10 : (10 : Int32).toInt = 10 := by decide
  rw [Int32.toInt_add, Int32.toInt_mul, e10, Int.bmod_eq_of_le (n := v.toInt * 10) (by omega) (by omega), Int.bmod_eq_of_le (by omega) (by omega)]
theorem nm_v {b : Nat → Int32} {z k q : Nat} {most v : Int32} (h : v ≤ 0) : nmF b z most (k + 1) v q = (v, q) := by rw [nmF, if_pos h]
theorem nm_d {b : Nat → Int32} {z k q : Nat} {most v : Int32} (h : dgF b z q = -1) : nmF b z most (k + 1) v q = (v, q) := by
  rw [nmF]
  split <;> first | rfl | rw [if_pos h]
theorem nm_f {b : Nat → Int32} {z k q : Nat} {most v : Int32} (h0 : ¬ v ≤ 0) (h : ¬ dgF b z q = -1) (h2 : most < v * 10 + dgF b z q) : nmF b z most (k + 1) v q = (-1, q) := by rw [nmF, if_neg h0, if_neg h, if_pos h2]
theorem nm_s {b : Nat → Int32} {z k q : Nat} {most v : Int32} (h0 : ¬ v ≤ 0) (h : ¬ dgF b z q = -1) (h2 : ¬ most < v * 10 + dgF b z q) : nmF b z most (k + 1) v q = nmF b z most k (v * 10 + dgF b z q) (q + 1) := by rw [nmF, if_neg h0, if_neg h, if_neg h2]
theorem n1_of {v : Int32} (h : 0 ≤ v.toInt) : ¬ v = -1 := fun q => by rw [q] at h; exact absurd h (by decide)
set_option maxRecDepth 100000 in
theorem lp_X9_number {n0 : Nat} {X : Nat × (Nat → Int32)} {P : Option Value → PSt → Prop} {d : Nat} (hd9 : 2 ≤ d) {sh : List PSh} {S : PSt} {z : Nat} (hm : isMo sh) (hz : S.1 70 23 = nI z) (hz1 : z ≤ 160) {least most : Int32} (hmo : 9 ≤ most.toInt ∧ most.toInt ≤ 64) {R : Int32 × Nat} (hex1 : ¬ R.1 = -1 → pV mX9_number d n0 X sh P 134 [some (.ref 70), some (.int least), some (.int most), some (.int R.1), some (.int 0)] [] (rdM S true R.2)) (hex2 : ∀ v, R.1 = -1 → pV mX9_number d n0 X sh P 134 [some (.ref 70), some (.int least), some (.int most), some (.int v), some (.int 0)] [] (rdM S false R.2)) : ∀ (k : Nat) (v : Int32) (q : Nat), z ≤ q + k → q ≤ z → 0 ≤ v.toInt → v.toInt ≤ most.toInt → nmF (S.1 87) z most k v q = R → pV mX9_number d n0 X sh P 52 [some (.ref 70), some (.int least), some (.int most), some (.int v), some (.int 0)] [] (rdM S true q) := by
  intro k
  induction k with
  | zero =>
    intro v q hk hq hv hv2 hR
    have hR : (v, q) = R := hR
    subst hR
    have hdz : digB (S.1 87) z q = false := (by unfold digB; rw [decide_eq_false (by omega)]; rfl)
    refine q_aload_n (pc := 52) (j := 0) rfl rfl ?_
    refine q_get (pc := 53) (a := 70) (v := .int ((rdM S true q).1 70 25)) rfl fl_X9_260 hm.1 rfl rfl ?_
    refine q_st (st2 := [.int (pB true)]) (by rw [(show ((rdM S true q).1 70 25) = pB true from rd_g)]) ?_
    refine q_if_eq (pc := 56) 134 rfl (by decide) (fun h9 => absurd h9 (by decide)) (fun _ => ?_)
    refine q_aload_n (pc := 59) (j := 0) rfl rfl ?_
    refine q_callV (pc := 60) (as := []) (rest := []) (b := 70) (st2 := [.int (pB (digB (S.1 87) z q))]) rfl ce_X9_isDigit ml_X9_271 im_X9_isDigit se_X9_isDigit hm.1 rfl rfl rfl (by omega) (Nat.le_of_ble_eq_true rfl) (sp_X9_isDigit (g := true) (p := q) hm hz hz1 (by omega)) rfl ?_
    refine q_if_eq (pc := 63) 134 rfl (by decide) (fun _ => ?_) (fun h9 => absurd (by rw [hdz]; rfl) h9)
    exact hex1 (n1_of hv)
  | succ k ih =>
    intro v q hk hq hv hv2 hR
    refine q_aload_n (pc := 52) (j := 0) rfl rfl ?_
    refine q_get (pc := 53) (a := 70) (v := .int ((rdM S true q).1 70 25)) rfl fl_X9_260 hm.1 rfl rfl ?_
    refine q_st (st2 := [.int (pB true)]) (by rw [(show ((rdM S true q).1 70 25) = pB true from rd_g)]) ?_
    refine q_if_eq (pc := 56) 134 rfl (by decide) (fun h9 => absurd h9 (by decide)) (fun _ => ?_)
    refine q_aload_n (pc := 59) (j := 0) rfl rfl ?_
    refine q_callV (pc := 60) (as := []) (rest := []) (b := 70) (st2 := [.int (pB (digB (S.1 87) z q))]) rfl ce_X9_isDigit ml_X9_271 im_X9_isDigit se_X9_isDigit hm.1 rfl rfl rfl (by omega) (Nat.le_of_ble_eq_true rfl) (sp_X9_isDigit (g := true) (p := q) hm hz hz1 (by omega)) rfl ?_
    refine q_if_eq (pc := 63) 134 rfl (by decide) (fun h63 => ?_) (fun h63 => ?_)
    · rw [nm_d (dig_n (pB_f h63))] at hR; subst hR; exact hex1 (n1_of hv)
    · have hdy := dig_y (pB_t h63)
      refine q_iload (pc := 66) (j := 4) rfl rfl ?_
      refine q_if_ne (pc := 68) 75 rfl (by decide) (fun h9 => absurd h9 (by decide : ¬ ¬ (0 : Int32) = 0)) (fun _ => ?_)
      refine q_iload_n (pc := 71) (j := 3) rfl rfl ?_
      refine q_if_le (pc := 72) 134 rfl (by decide) (fun h72 => ?_) (fun h72 => ?_)
      · rw [nm_v h72] at hR; subst hR; exact hex1 (n1_of hv)
      · refine q_bipush (pc := 75) 10 rfl (by decide) ?_
        refine q_iload_n (pc := 77) (j := 3) rfl rfl ?_
        refine q_imul (pc := 78) rfl ?_
        refine q_aload_n (pc := 79) (j := 0) rfl rfl ?_
        refine q_get (pc := 80) (a := 70) (v := .ref 87) rfl fl_X9_60 hm.1 rfl rfl ?_
        refine q_aload_n (pc := 83) (j := 0) rfl rfl ?_
        refine q_get (pc := 84) (a := 70) (v := .int ((rdM S true q).1 70 24)) rfl fl_X9_264 hm.1 rfl rfl ?_
        refine q_st (st2 := [.int (nI q), .ref 87, .int (10 * v)]) (by rw [(show ((rdM S true q).1 70 24) = nI q from rd_p)]) ?_
        refine q_iald (pc := 87) (a := 87) q rfl hm.2.2.2.2.2.2.2.2.2.2.2.2.2.2.2.2.2.1 (vp_in_nI (by omega) (by decide)) (nI_clamp (by omega)) ?_
        refine q_st (st2 := [.int (S.1 87 q), .int (10 * v)]) (by rw [(show ((rdM S true q).1 87 q) = S.1 87 q from congrFun (rd_o (by decide)) q)]) ?_
        refine q_iadd (pc := 88) rfl ?_
        refine q_bipush (pc := 89) 48 rfl (by decide) ?_
        refine q_isub (pc := 91) rfl ?_
        refine q_st (st2 := [.int (v * 10 + dgF (S.1 87) z q)]) (by rw [d1_eq (pB_t h63)]) ?_
        refine q_istore_n (pc := 92) (j := 3) [some (.ref 70), some (.int least), some (.int most), some (.int (v * 10 + dgF (S.1 87) z q)), some (.int 0)] rfl (by decide) rfl ?_
        refine q_aload_n (pc := 93) (j := 0) rfl rfl ?_
        refine q_iload_n (pc := 94) (j := 3) rfl rfl ?_
        refine q_iload_n (pc := 95) (j := 2) rfl rfl ?_
        refine q_icmp_gt (pc := 96) 103 rfl (by decide) (fun h96 => ?_) (fun h96 => ?_)
        · refine q_iconst (pc := 103) 0 rfl (by decide) ?_
          refine q_putI (pc := 104) (a := 70) rfl fl_X9_260 hm.1 rfl (fun _ h9 => by cases h9; rfl) rfl rfl ?_
          refine q_S (S2 := (rdM S false q)) (rd_sg (h := false)) ?_
          refine q_aload_n (pc := 107) (j := 0) rfl rfl ?_
          refine q_dup (pc := 108) rfl rfl ?_
          refine q_get (pc := 109) (a := 70) (v := .int ((rdM S false q).1 70 24)) rfl fl_X9_264 hm.1 rfl rfl ?_
          refine q_st (st2 := [.int (nI q), .ref 70]) (by rw [(show ((rdM S false q).1 70 24) = nI q from rd_p)]) ?_
          refine q_aload_n (pc := 112) (j := 0) rfl rfl ?_
          refine q_get (pc := 113) (a := 70) (v := .int ((rdM S false q).1 70 25)) rfl fl_X9_260 hm.1 rfl rfl ?_
          refine q_st (st2 := [.int (pB false), .int (nI q), .ref 70]) (by rw [(show ((rdM S false q).1 70 25) = pB false from rd_g)]) ?_
          refine q_if_eq (pc := 116) 123 rfl (by decide) (fun _ => ?_) (fun h9 => absurd (by decide) h9)
          refine q_iconst (pc := 123) 0 rfl (by decide) ?_
          refine q_iadd (pc := 124) rfl ?_
          refine q_st (st2 := [.int (nI q), .ref 70]) (by rw [Int32.add_zero (nI q)]) ?_
          refine q_putI (pc := 125) (a := 70) rfl fl_X9_264 hm.1 rfl (fun _ h9 => by cases h9; rfl) rfl rfl ?_
          refine q_S (S2 := (rdM S false q)) rd_sp ?_
          refine q_iconst (pc := 128) 0 rfl (by decide) ?_
          refine q_istore (pc := 129) (j := 4) [some (.ref 70), some (.int least), some (.int most), some (.int (v * 10 + dgF (S.1 87) z q)), some (.int 0)] rfl (by decide) rfl ?_
          refine q_goto (pc := 131) 52 rfl (by decide) ?_
          refine q_aload_n (pc := 52) (j := 0) rfl rfl ?_
          refine q_get (pc := 53) (a := 70) (v := .int ((rdM S false q).1 70 25)) rfl fl_X9_260 hm.1 rfl rfl ?_
          refine q_st (st2 := [.int (pB false)]) (by rw [(show ((rdM S false q).1 70 25) = pB false from rd_g)]) ?_
          refine q_if_eq (pc := 56) 134 rfl (by decide) (fun _ => ?_) (fun h9 => absurd (by decide) h9)
          rw [nm_f h72 (dig_ne (pB_t h63)) h96] at hR; subst hR; exact hex2 _ rfl
        · refine q_iconst (pc := 99) 1 rfl (by decide) ?_
          refine q_goto (pc := 100) 104 rfl (by decide) ?_
          refine q_putI (pc := 104) (a := 70) rfl fl_X9_260 hm.1 rfl (fun _ h9 => by cases h9; rfl) rfl rfl ?_
          refine q_S (S2 := (rdM S true q)) (rd_sg (h := true)) ?_
          refine q_aload_n (pc := 107) (j := 0) rfl rfl ?_
          refine q_dup (pc := 108) rfl rfl ?_
          refine q_get (pc := 109) (a := 70) (v := .int ((rdM S true q).1 70 24)) rfl fl_X9_264 hm.1 rfl rfl ?_
          refine q_st (st2 := [.int (nI q), .ref 70]) (by rw [(show ((rdM S true q).1 70 24) = nI q from rd_p)]) ?_
          refine q_aload_n (pc := 112) (j := 0) rfl rfl ?_
          refine q_get (pc := 113) (a := 70) (v := .int ((rdM S true q).1 70 25)) rfl fl_X9_260 hm.1 rfl rfl ?_
          refine q_st (st2 := [.int (pB true), .int (nI q), .ref 70]) (by rw [(show ((rdM S true q).1 70 25) = pB true from rd_g)]) ?_
          refine q_if_eq (pc := 116) 123 rfl (by decide) (fun h9 => absurd h9 (by decide)) (fun _ => ?_)
          refine q_iconst (pc := 119) 1 rfl (by decide) ?_
          refine q_goto (pc := 120) 124 rfl (by decide) ?_
          refine q_iadd (pc := 124) rfl ?_
          refine q_st (st2 := [.int (nI (q + 1)), .ref 70]) (by rw [nI_1 q]) ?_
          refine q_putI (pc := 125) (a := 70) rfl fl_X9_264 hm.1 rfl (fun _ h9 => by cases h9; rfl) rfl rfl ?_
          refine q_S (S2 := (rdM S true (q + 1))) rd_sp ?_
          refine q_iconst (pc := 128) 0 rfl (by decide) ?_
          refine q_istore (pc := 129) (j := 4) [some (.ref 70), some (.int least), some (.int most), some (.int (v * 10 + dgF (S.1 87) z q)), some (.int 0)] rfl (by decide) rfl ?_
          refine q_goto (pc := 131) 52 rfl (by decide) ?_
          exact ih _ (q + 1) (by omega) (by omega) (by have h9 := vb_i hv (by omega) hdy.2.2.1 hdy.2.2.2; omega) (Int32.le_iff_toInt_le.mp (Int32.not_lt.mp h96)) (by rw [nm_s h72 (dig_ne (pB_t h63)) h96] at hR; exact hR)
set_option maxRecDepth 100000 in
theorem sp_X9_number0 {sh : List PSh} {S : PSt} {z p : Nat} (hm : isMo sh) (hz : S.1 70 23 = nI z) (hz1 : z ≤ 160) (hp : p ≤ 160) {most : Int32} (hmo : 9 ≤ most.toInt ∧ most.toInt ≤ 64) : pG mX9_number 2 [.ref 70, .int 0, .int most] sh (rdM S true p) (fun r9 T9 => ∃ v, r9 = some (.int v) ∧ T9 = rdM S (decide (¬ (numF (S.1 87) z 0 most p).1 = -1)) (numF (S.1 87) z 0 most p).2 ∧ (¬ (numF (S.1 87) z 0 most p).1 = -1 → v = (numF (S.1 87) z 0 most p).1)) := by
  refine pG.of [some (.ref 70), some (.int 0), some (.int most), none, none] (by decide) tk_X9_number (Nat.le_of_ble_eq_true rfl) rfl (fun X => ?_)
  refine q_aload_n (pc := 0) (j := 0) rfl rfl ?_
  refine q_aload_n (pc := 1) (j := 0) rfl rfl ?_
  refine q_get (pc := 2) (a := 70) (v := .int ((rdM S true p).1 70 25)) rfl fl_X9_260 hm.1 rfl rfl ?_
  refine q_st (st2 := [.int (pB true), .ref 70]) (by rw [(show ((rdM S true p).1 70 25) = pB true from rd_g)]) ?_
  refine q_if_eq (pc := 5) 43 rfl (by decide) (fun h9 => absurd h9 (by decide)) (fun _ => ?_)
  refine q_aload_n (pc := 8) (j := 0) rfl rfl ?_
  refine q_callV (pc := 9) (as := []) (rest := [.ref 70]) (b := 70) (st2 := [.int (pB (digB (S.1 87) z p)), .ref 70]) rfl ce_X9_isDigit ml_X9_271 im_X9_isDigit se_X9_isDigit hm.1 rfl rfl rfl (by decide) (Nat.le_of_ble_eq_true rfl) (sp_X9_isDigit (g := true) (p := p) hm hz hz1 (by omega)) rfl ?_
  refine q_if_eq (pc := 12) 43 rfl (by decide) (fun h12 => ?_) (fun h12 => ?_)
  · refine q_iconst (pc := 43) 0 rfl (by decide) ?_
    refine q_putI (pc := 44) (a := 70) rfl fl_X9_260 hm.1 rfl (fun _ h9 => by cases h9; rfl) rfl rfl ?_
    refine q_S (S2 := (rdM S false p)) (rd_sg (h := false)) ?_
    refine q_iconst (pc := 47) 0 rfl (by decide) ?_
    refine q_istore_n (pc := 48) (j := 3) [some (.ref 70), some (.int 0), some (.int most), some (.int 0), none] rfl (by decide) rfl ?_
    refine q_iconst (pc := 49) 1 rfl (by decide) ?_
    refine q_istore (pc := 50) (j := 4) [some (.ref 70), some (.int 0), some (.int most), some (.int 0), some (.int 1)] rfl (by decide) rfl ?_
    refine q_aload_n (pc := 52) (j := 0) rfl rfl ?_
    refine q_get (pc := 53) (a := 70) (v := .int ((rdM S false p).1 70 25)) rfl fl_X9_260 hm.1 rfl rfl ?_
    refine q_st (st2 := [.int (pB false)]) (by rw [(show ((rdM S false p).1 70 25) = pB false from rd_g)]) ?_
    refine q_if_eq (pc := 56) 134 rfl (by decide) (fun _ => ?_) (fun h9 => absurd (by decide) h9)
    refine q_iload_n (pc := 134) (j := 3) rfl rfl ?_
    exact q_iret (pc := 135) rfl rfl ⟨0, rfl, by rw [numF, if_pos (dig_n (pB_f h12))]; rfl, fun q9 => absurd (by rw [numF, if_pos (dig_n (pB_f h12))]) q9⟩
  · have hdy := dig_y (pB_t h12)
    refine q_aload_n (pc := 15) (j := 0) rfl rfl ?_
    refine q_get (pc := 16) (a := 70) (v := .ref 87) rfl fl_X9_60 hm.1 rfl rfl ?_
    refine q_aload_n (pc := 19) (j := 0) rfl rfl ?_
    refine q_get (pc := 20) (a := 70) (v := .int ((rdM S true p).1 70 24)) rfl fl_X9_264 hm.1 rfl rfl ?_
    refine q_st (st2 := [.int (nI p), .ref 87, .ref 70]) (by rw [(show ((rdM S true p).1 70 24) = nI p from rd_p)]) ?_
    refine q_iald (pc := 23) (a := 87) p rfl hm.2.2.2.2.2.2.2.2.2.2.2.2.2.2.2.2.2.1 (vp_in_nI (by omega) (by decide)) (nI_clamp (by omega)) ?_
    refine q_st (st2 := [.int (S.1 87 p), .ref 70]) (by rw [(show ((rdM S true p).1 87 p) = S.1 87 p from congrFun (rd_o (by decide)) p)]) ?_
    refine q_bipush (pc := 24) 48 rfl (by decide) ?_
    refine q_isub (pc := 26) rfl ?_
    refine q_iload_n (pc := 27) (j := 1) rfl rfl ?_
    refine q_if_le (pc := 28) 35 rfl (by decide) (fun _ => ?_) (fun h9 => absurd (by decide : (0 : Int32) ≤ 0) h9)
    refine q_iconst (pc := 35) 0 rfl (by decide) ?_
    refine q_icmp_lt (pc := 36) 43 rfl (by decide) (fun h36 => ?_) (fun h36 => ?_)
    · refine q_iconst (pc := 43) 0 rfl (by decide) ?_
      refine q_putI (pc := 44) (a := 70) rfl fl_X9_260 hm.1 rfl (fun _ h9 => by cases h9; rfl) rfl rfl ?_
      refine q_S (S2 := (rdM S false p)) (rd_sg (h := false)) ?_
      refine q_iconst (pc := 47) 0 rfl (by decide) ?_
      refine q_istore_n (pc := 48) (j := 3) [some (.ref 70), some (.int 0), some (.int most), some (.int 0), none] rfl (by decide) rfl ?_
      refine q_iconst (pc := 49) 1 rfl (by decide) ?_
      refine q_istore (pc := 50) (j := 4) [some (.ref 70), some (.int 0), some (.int most), some (.int 0), some (.int 1)] rfl (by decide) rfl ?_
      refine q_aload_n (pc := 52) (j := 0) rfl rfl ?_
      refine q_get (pc := 53) (a := 70) (v := .int ((rdM S false p).1 70 25)) rfl fl_X9_260 hm.1 rfl rfl ?_
      refine q_st (st2 := [.int (pB false)]) (by rw [(show ((rdM S false p).1 70 25) = pB false from rd_g)]) ?_
      refine q_if_eq (pc := 56) 134 rfl (by decide) (fun _ => ?_) (fun h9 => absurd (by decide) h9)
      refine q_iload_n (pc := 134) (j := 3) rfl rfl ?_
      exact q_iret (pc := 135) rfl rfl ⟨0, rfl, by rw [numF, if_neg (dig_ne (pB_t h12)), if_pos (show dgF (S.1 87) z p < 0 by rw [hdy.2.1]; exact h36)]; rfl, fun q9 => absurd (by rw [numF, if_neg (dig_ne (pB_t h12)), if_pos (show dgF (S.1 87) z p < 0 by rw [hdy.2.1]; exact h36)]) q9⟩
    · refine q_iconst (pc := 39) 1 rfl (by decide) ?_
      refine q_goto (pc := 40) 44 rfl (by decide) ?_
      refine q_putI (pc := 44) (a := 70) rfl fl_X9_260 hm.1 rfl (fun _ h9 => by cases h9; rfl) rfl rfl ?_
      refine q_S (S2 := (rdM S true p)) (rd_sg (h := true)) ?_
      refine q_iconst (pc := 47) 0 rfl (by decide) ?_
      refine q_istore_n (pc := 48) (j := 3) [some (.ref 70), some (.int 0), some (.int most), some (.int 0), none] rfl (by decide) rfl ?_
      refine q_iconst (pc := 49) 1 rfl (by decide) ?_
      refine q_istore (pc := 50) (j := 4) [some (.ref 70), some (.int 0), some (.int most), some (.int 0), some (.int 1)] rfl (by decide) rfl ?_
      refine q_aload_n (pc := 52) (j := 0) rfl rfl ?_
      refine q_get (pc := 53) (a := 70) (v := .int ((rdM S true p).1 70 25)) rfl fl_X9_260 hm.1 rfl rfl ?_
      refine q_st (st2 := [.int (pB true)]) (by rw [(show ((rdM S true p).1 70 25) = pB true from rd_g)]) ?_
      refine q_if_eq (pc := 56) 134 rfl (by decide) (fun h9 => absurd h9 (by decide)) (fun _ => ?_)
      refine q_aload_n (pc := 59) (j := 0) rfl rfl ?_
      refine q_callV (pc := 60) (as := []) (rest := []) (b := 70) (st2 := [.int (pB (digB (S.1 87) z p))]) rfl ce_X9_isDigit ml_X9_271 im_X9_isDigit se_X9_isDigit hm.1 rfl rfl rfl (by decide) (Nat.le_of_ble_eq_true rfl) (sp_X9_isDigit (g := true) (p := p) hm hz hz1 (by omega)) rfl ?_
      refine q_if_eq (pc := 63) 134 rfl (by decide) (fun h9 => absurd h9 h12) (fun _ => ?_)
      refine q_iload (pc := 66) (j := 4) rfl rfl ?_
      refine q_if_ne (pc := 68) 75 rfl (by decide) (fun _ => ?_) (fun h9 => absurd h9 (by decide : (1 : Int32) = 0 → False))
      refine q_bipush (pc := 75) 10 rfl (by decide) ?_
      refine q_iload_n (pc := 77) (j := 3) rfl rfl ?_
      refine q_imul (pc := 78) rfl ?_
      refine q_aload_n (pc := 79) (j := 0) rfl rfl ?_
      refine q_get (pc := 80) (a := 70) (v := .ref 87) rfl fl_X9_60 hm.1 rfl rfl ?_
      refine q_aload_n (pc := 83) (j := 0) rfl rfl ?_
      refine q_get (pc := 84) (a := 70) (v := .int ((rdM S true p).1 70 24)) rfl fl_X9_264 hm.1 rfl rfl ?_
      refine q_st (st2 := [.int (nI p), .ref 87, .int (10 * 0)]) (by rw [(show ((rdM S true p).1 70 24) = nI p from rd_p)]) ?_
      refine q_iald (pc := 87) (a := 87) p rfl hm.2.2.2.2.2.2.2.2.2.2.2.2.2.2.2.2.2.1 (vp_in_nI (by omega) (by decide)) (nI_clamp (by omega)) ?_
      refine q_st (st2 := [.int (S.1 87 p), .int (10 * 0)]) (by rw [(show ((rdM S true p).1 87 p) = S.1 87 p from congrFun (rd_o (by decide)) p)]) ?_
      refine q_iadd (pc := 88) rfl ?_
      refine q_bipush (pc := 89) 48 rfl (by decide) ?_
      refine q_isub (pc := 91) rfl ?_
      refine q_st (st2 := [.int (dgF (S.1 87) z p)]) (by rw [d0_eq (pB_t h12)]) ?_
      refine q_istore_n (pc := 92) (j := 3) [some (.ref 70), some (.int 0), some (.int most), some (.int (dgF (S.1 87) z p)), some (.int 1)] rfl (by decide) rfl ?_
      refine q_aload_n (pc := 93) (j := 0) rfl rfl ?_
      refine q_iload_n (pc := 94) (j := 3) rfl rfl ?_
      refine q_iload_n (pc := 95) (j := 2) rfl rfl ?_
      refine q_icmp_gt (pc := 96) 103 rfl (by decide) (fun h9 => absurd h9 (Int32.not_lt.mpr (Int32.le_iff_toInt_le.mpr (by have := hdy.2.2.2; omega)))) (fun _ => ?_)
      refine q_iconst (pc := 99) 1 rfl (by decide) ?_
      refine q_goto (pc := 100) 104 rfl (by decide) ?_
      refine q_putI (pc := 104) (a := 70) rfl fl_X9_260 hm.1 rfl (fun _ h9 => by cases h9; rfl) rfl rfl ?_
      refine q_S (S2 := (rdM S true p)) (rd_sg (h := true)) ?_
      refine q_aload_n (pc := 107) (j := 0) rfl rfl ?_
      refine q_dup (pc := 108) rfl rfl ?_
      refine q_get (pc := 109) (a := 70) (v := .int ((rdM S true p).1 70 24)) rfl fl_X9_264 hm.1 rfl rfl ?_
      refine q_st (st2 := [.int (nI p), .ref 70]) (by rw [(show ((rdM S true p).1 70 24) = nI p from rd_p)]) ?_
      refine q_aload_n (pc := 112) (j := 0) rfl rfl ?_
      refine q_get (pc := 113) (a := 70) (v := .int ((rdM S true p).1 70 25)) rfl fl_X9_260 hm.1 rfl rfl ?_
      refine q_st (st2 := [.int (pB true), .int (nI p), .ref 70]) (by rw [(show ((rdM S true p).1 70 25) = pB true from rd_g)]) ?_
      refine q_if_eq (pc := 116) 123 rfl (by decide) (fun h9 => absurd h9 (by decide)) (fun _ => ?_)
      refine q_iconst (pc := 119) 1 rfl (by decide) ?_
      refine q_goto (pc := 120) 124 rfl (by decide) ?_
      refine q_iadd (pc := 124) rfl ?_
      refine q_st (st2 := [.int (nI (p + 1)), .ref 70]) (by rw [nI_1 p]) ?_
      refine q_putI (pc := 125) (a := 70) rfl fl_X9_264 hm.1 rfl (fun _ h9 => by cases h9; rfl) rfl rfl ?_
      refine q_S (S2 := (rdM S true (p + 1))) rd_sp ?_
      refine q_iconst (pc := 128) 0 rfl (by decide) ?_
      refine q_istore (pc := 129) (j := 4) [some (.ref 70), some (.int 0), some (.int most), some (.int (dgF (S.1 87) z p)), some (.int 0)] rfl (by decide) rfl ?_
      refine q_goto (pc := 131) 52 rfl (by decide) ?_
      have hn9 : numF (S.1 87) z 0 most p = nmF (S.1 87) z most 160 (dgF (S.1 87) z p) (p + 1) := (by rw [numF, if_neg (dig_ne (pB_t h12)), if_neg (show ¬ dgF (S.1 87) z p < 0 by rw [hdy.2.1]; exact h36)]); exact lp_X9_number (R := (numF (S.1 87) z 0 most p)) (by omega) hm hz hz1 hmo (fun hn1 => by refine q_iload_n (pc := 134) (j := 3) rfl rfl ?_; exact q_iret (pc := 135) rfl rfl ⟨((numF (S.1 87) z 0 most p).1), rfl, by rw [decide_eq_true hn1], fun _ => rfl⟩) (fun v hn1 => by refine q_iload_n (pc := 134) (j := 3) rfl rfl ?_; exact q_iret (pc := 135) rfl rfl ⟨v, rfl, by rw [hn1]; rfl, fun q9 => absurd hn1 q9⟩) 160 _ (p + 1) (by omega) (by have := hdy.1; omega) hdy.2.2.1 (by have := hdy.2.2.2; omega) hn9.symm
set_option maxRecDepth 100000 in
theorem sp_X9_number1 {sh : List PSh} {S : PSt} {z p : Nat} (hm : isMo sh) (hz : S.1 70 23 = nI z) (hz1 : z ≤ 160) (hp : p ≤ 160) {most : Int32} (hmo : 9 ≤ most.toInt ∧ most.toInt ≤ 64) : pG mX9_number 2 [.ref 70, .int 1, .int most] sh (rdM S true p) (fun r9 T9 => ∃ v, r9 = some (.int v) ∧ T9 = rdM S (decide (¬ (numF (S.1 87) z 1 most p).1 = -1)) (numF (S.1 87) z 1 most p).2 ∧ (¬ (numF (S.1 87) z 1 most p).1 = -1 → v = (numF (S.1 87) z 1 most p).1)) := by
  refine pG.of [some (.ref 70), some (.int 1), some (.int most), none, none] (by decide) tk_X9_number (Nat.le_of_ble_eq_true rfl) rfl (fun X => ?_)
  refine q_aload_n (pc := 0) (j := 0) rfl rfl ?_
  refine q_aload_n (pc := 1) (j := 0) rfl rfl ?_
  refine q_get (pc := 2) (a := 70) (v := .int ((rdM S true p).1 70 25)) rfl fl_X9_260 hm.1 rfl rfl ?_
  refine q_st (st2 := [.int (pB true), .ref 70]) (by rw [(show ((rdM S true p).1 70 25) = pB true from rd_g)]) ?_
  refine q_if_eq (pc := 5) 43 rfl (by decide) (fun h9 => absurd h9 (by decide)) (fun _ => ?_)
  refine q_aload_n (pc := 8) (j := 0) rfl rfl ?_
  refine q_callV (pc := 9) (as := []) (rest := [.ref 70]) (b := 70) (st2 := [.int (pB (digB (S.1 87) z p)), .ref 70]) rfl ce_X9_isDigit ml_X9_271 im_X9_isDigit se_X9_isDigit hm.1 rfl rfl rfl (by decide) (Nat.le_of_ble_eq_true rfl) (sp_X9_isDigit (g := true) (p := p) hm hz hz1 (by omega)) rfl ?_
  refine q_if_eq (pc := 12) 43 rfl (by decide) (fun h12 => ?_) (fun h12 => ?_)
  · refine q_iconst (pc := 43) 0 rfl (by decide) ?_
    refine q_putI (pc := 44) (a := 70) rfl fl_X9_260 hm.1 rfl (fun _ h9 => by cases h9; rfl) rfl rfl ?_
    refine q_S (S2 := (rdM S false p)) (rd_sg (h := false)) ?_
    refine q_iconst (pc := 47) 0 rfl (by decide) ?_
    refine q_istore_n (pc := 48) (j := 3) [some (.ref 70), some (.int 1), some (.int most), some (.int 0), none] rfl (by decide) rfl ?_
    refine q_iconst (pc := 49) 1 rfl (by decide) ?_
    refine q_istore (pc := 50) (j := 4) [some (.ref 70), some (.int 1), some (.int most), some (.int 0), some (.int 1)] rfl (by decide) rfl ?_
    refine q_aload_n (pc := 52) (j := 0) rfl rfl ?_
    refine q_get (pc := 53) (a := 70) (v := .int ((rdM S false p).1 70 25)) rfl fl_X9_260 hm.1 rfl rfl ?_
    refine q_st (st2 := [.int (pB false)]) (by rw [(show ((rdM S false p).1 70 25) = pB false from rd_g)]) ?_
    refine q_if_eq (pc := 56) 134 rfl (by decide) (fun _ => ?_) (fun h9 => absurd (by decide) h9)
    refine q_iload_n (pc := 134) (j := 3) rfl rfl ?_
    exact q_iret (pc := 135) rfl rfl ⟨0, rfl, by rw [numF, if_pos (dig_n (pB_f h12))]; rfl, fun q9 => absurd (by rw [numF, if_pos (dig_n (pB_f h12))]) q9⟩
  · have hdy := dig_y (pB_t h12)
    refine q_aload_n (pc := 15) (j := 0) rfl rfl ?_
    refine q_get (pc := 16) (a := 70) (v := .ref 87) rfl fl_X9_60 hm.1 rfl rfl ?_
    refine q_aload_n (pc := 19) (j := 0) rfl rfl ?_
    refine q_get (pc := 20) (a := 70) (v := .int ((rdM S true p).1 70 24)) rfl fl_X9_264 hm.1 rfl rfl ?_
    refine q_st (st2 := [.int (nI p), .ref 87, .ref 70]) (by rw [(show ((rdM S true p).1 70 24) = nI p from rd_p)]) ?_
    refine q_iald (pc := 23) (a := 87) p rfl hm.2.2.2.2.2.2.2.2.2.2.2.2.2.2.2.2.2.1 (vp_in_nI (by omega) (by decide)) (nI_clamp (by omega)) ?_
    refine q_st (st2 := [.int (S.1 87 p), .ref 70]) (by rw [(show ((rdM S true p).1 87 p) = S.1 87 p from congrFun (rd_o (by decide)) p)]) ?_
    refine q_bipush (pc := 24) 48 rfl (by decide) ?_
    refine q_isub (pc := 26) rfl ?_
    refine q_iload_n (pc := 27) (j := 1) rfl rfl ?_
    refine q_if_le (pc := 28) 35 rfl (by decide) (fun h9 => absurd h9 (by decide : ¬ (1 : Int32) ≤ 0)) (fun _ => ?_)
    refine q_iconst (pc := 31) 1 rfl (by decide) ?_
    refine q_goto (pc := 32) 36 rfl (by decide) ?_
    refine q_icmp_lt (pc := 36) 43 rfl (by decide) (fun h36 => ?_) (fun h36 => ?_)
    · refine q_iconst (pc := 43) 0 rfl (by decide) ?_
      refine q_putI (pc := 44) (a := 70) rfl fl_X9_260 hm.1 rfl (fun _ h9 => by cases h9; rfl) rfl rfl ?_
      refine q_S (S2 := (rdM S false p)) (rd_sg (h := false)) ?_
      refine q_iconst (pc := 47) 0 rfl (by decide) ?_
      refine q_istore_n (pc := 48) (j := 3) [some (.ref 70), some (.int 1), some (.int most), some (.int 0), none] rfl (by decide) rfl ?_
      refine q_iconst (pc := 49) 1 rfl (by decide) ?_
      refine q_istore (pc := 50) (j := 4) [some (.ref 70), some (.int 1), some (.int most), some (.int 0), some (.int 1)] rfl (by decide) rfl ?_
      refine q_aload_n (pc := 52) (j := 0) rfl rfl ?_
      refine q_get (pc := 53) (a := 70) (v := .int ((rdM S false p).1 70 25)) rfl fl_X9_260 hm.1 rfl rfl ?_
      refine q_st (st2 := [.int (pB false)]) (by rw [(show ((rdM S false p).1 70 25) = pB false from rd_g)]) ?_
      refine q_if_eq (pc := 56) 134 rfl (by decide) (fun _ => ?_) (fun h9 => absurd (by decide) h9)
      refine q_iload_n (pc := 134) (j := 3) rfl rfl ?_
      exact q_iret (pc := 135) rfl rfl ⟨0, rfl, by rw [numF, if_neg (dig_ne (pB_t h12)), if_pos (show dgF (S.1 87) z p < 1 by rw [hdy.2.1]; exact h36)]; rfl, fun q9 => absurd (by rw [numF, if_neg (dig_ne (pB_t h12)), if_pos (show dgF (S.1 87) z p < 1 by rw [hdy.2.1]; exact h36)]) q9⟩
    · refine q_iconst (pc := 39) 1 rfl (by decide) ?_
      refine q_goto (pc := 40) 44 rfl (by decide) ?_
      refine q_putI (pc := 44) (a := 70) rfl fl_X9_260 hm.1 rfl (fun _ h9 => by cases h9; rfl) rfl rfl ?_
      refine q_S (S2 := (rdM S true p)) (rd_sg (h := true)) ?_
      refine q_iconst (pc := 47) 0 rfl (by decide) ?_
      refine q_istore_n (pc := 48) (j := 3) [some (.ref 70), some (.int 1), some (.int most), some (.int 0), none] rfl (by decide) rfl ?_
      refine q_iconst (pc := 49) 1 rfl (by decide) ?_
      refine q_istore (pc := 50) (j := 4) [some (.ref 70), some (.int 1), some (.int most), some (.int 0), some (.int 1)] rfl (by decide) rfl ?_
      refine q_aload_n (pc := 52) (j := 0) rfl rfl ?_
      refine q_get (pc := 53) (a := 70) (v := .int ((rdM S true p).1 70 25)) rfl fl_X9_260 hm.1 rfl rfl ?_
      refine q_st (st2 := [.int (pB true)]) (by rw [(show ((rdM S true p).1 70 25) = pB true from rd_g)]) ?_
      refine q_if_eq (pc := 56) 134 rfl (by decide) (fun h9 => absurd h9 (by decide)) (fun _ => ?_)
      refine q_aload_n (pc := 59) (j := 0) rfl rfl ?_
      refine q_callV (pc := 60) (as := []) (rest := []) (b := 70) (st2 := [.int (pB (digB (S.1 87) z p))]) rfl ce_X9_isDigit ml_X9_271 im_X9_isDigit se_X9_isDigit hm.1 rfl rfl rfl (by decide) (Nat.le_of_ble_eq_true rfl) (sp_X9_isDigit (g := true) (p := p) hm hz hz1 (by omega)) rfl ?_
      refine q_if_eq (pc := 63) 134 rfl (by decide) (fun h9 => absurd h9 h12) (fun _ => ?_)
      refine q_iload (pc := 66) (j := 4) rfl rfl ?_
      refine q_if_ne (pc := 68) 75 rfl (by decide) (fun _ => ?_) (fun h9 => absurd h9 (by decide : (1 : Int32) = 0 → False))
      refine q_bipush (pc := 75) 10 rfl (by decide) ?_
      refine q_iload_n (pc := 77) (j := 3) rfl rfl ?_
      refine q_imul (pc := 78) rfl ?_
      refine q_aload_n (pc := 79) (j := 0) rfl rfl ?_
      refine q_get (pc := 80) (a := 70) (v := .ref 87) rfl fl_X9_60 hm.1 rfl rfl ?_
      refine q_aload_n (pc := 83) (j := 0) rfl rfl ?_
      refine q_get (pc := 84) (a := 70) (v := .int ((rdM S true p).1 70 24)) rfl fl_X9_264 hm.1 rfl rfl ?_
      refine q_st (st2 := [.int (nI p), .ref 87, .int (10 * 0)]) (by rw [(show ((rdM S true p).1 70 24) = nI p from rd_p)]) ?_
      refine q_iald (pc := 87) (a := 87) p rfl hm.2.2.2.2.2.2.2.2.2.2.2.2.2.2.2.2.2.1 (vp_in_nI (by omega) (by decide)) (nI_clamp (by omega)) ?_
      refine q_st (st2 := [.int (S.1 87 p), .int (10 * 0)]) (by rw [(show ((rdM S true p).1 87 p) = S.1 87 p from congrFun (rd_o (by decide)) p)]) ?_
      refine q_iadd (pc := 88) rfl ?_
      refine q_bipush (pc := 89) 48 rfl (by decide) ?_
      refine q_isub (pc := 91) rfl ?_
      refine q_st (st2 := [.int (dgF (S.1 87) z p)]) (by rw [d0_eq (pB_t h12)]) ?_
      refine q_istore_n (pc := 92) (j := 3) [some (.ref 70), some (.int 1), some (.int most), some (.int (dgF (S.1 87) z p)), some (.int 1)] rfl (by decide) rfl ?_
      refine q_aload_n (pc := 93) (j := 0) rfl rfl ?_
      refine q_iload_n (pc := 94) (j := 3) rfl rfl ?_
      refine q_iload_n (pc := 95) (j := 2) rfl rfl ?_
      refine q_icmp_gt (pc := 96) 103 rfl (by decide) (fun h9 => absurd h9 (Int32.not_lt.mpr (Int32.le_iff_toInt_le.mpr (by have := hdy.2.2.2; omega)))) (fun _ => ?_)
      refine q_iconst (pc := 99) 1 rfl (by decide) ?_
      refine q_goto (pc := 100) 104 rfl (by decide) ?_
      refine q_putI (pc := 104) (a := 70) rfl fl_X9_260 hm.1 rfl (fun _ h9 => by cases h9; rfl) rfl rfl ?_
      refine q_S (S2 := (rdM S true p)) (rd_sg (h := true)) ?_
      refine q_aload_n (pc := 107) (j := 0) rfl rfl ?_
      refine q_dup (pc := 108) rfl rfl ?_
      refine q_get (pc := 109) (a := 70) (v := .int ((rdM S true p).1 70 24)) rfl fl_X9_264 hm.1 rfl rfl ?_
      refine q_st (st2 := [.int (nI p), .ref 70]) (by rw [(show ((rdM S true p).1 70 24) = nI p from rd_p)]) ?_
      refine q_aload_n (pc := 112) (j := 0) rfl rfl ?_
      refine q_get (pc := 113) (a := 70) (v := .int ((rdM S true p).1 70 25)) rfl fl_X9_260 hm.1 rfl rfl ?_
      refine q_st (st2 := [.int (pB true), .int (nI p), .ref 70]) (by rw [(show ((rdM S true p).1 70 25) = pB true from rd_g)]) ?_
      refine q_if_eq (pc := 116) 123 rfl (by decide) (fun h9 => absurd h9 (by decide)) (fun _ => ?_)
      refine q_iconst (pc := 119) 1 rfl (by decide) ?_
      refine q_goto (pc := 120) 124 rfl (by decide) ?_
      refine q_iadd (pc := 124) rfl ?_
      refine q_st (st2 := [.int (nI (p + 1)), .ref 70]) (by rw [nI_1 p]) ?_
      refine q_putI (pc := 125) (a := 70) rfl fl_X9_264 hm.1 rfl (fun _ h9 => by cases h9; rfl) rfl rfl ?_
      refine q_S (S2 := (rdM S true (p + 1))) rd_sp ?_
      refine q_iconst (pc := 128) 0 rfl (by decide) ?_
      refine q_istore (pc := 129) (j := 4) [some (.ref 70), some (.int 1), some (.int most), some (.int (dgF (S.1 87) z p)), some (.int 0)] rfl (by decide) rfl ?_
      refine q_goto (pc := 131) 52 rfl (by decide) ?_
      have hn9 : numF (S.1 87) z 1 most p = nmF (S.1 87) z most 160 (dgF (S.1 87) z p) (p + 1) := (by rw [numF, if_neg (dig_ne (pB_t h12)), if_neg (show ¬ dgF (S.1 87) z p < 1 by rw [hdy.2.1]; exact h36)]); exact lp_X9_number (R := (numF (S.1 87) z 1 most p)) (by omega) hm hz hz1 hmo (fun hn1 => by refine q_iload_n (pc := 134) (j := 3) rfl rfl ?_; exact q_iret (pc := 135) rfl rfl ⟨((numF (S.1 87) z 1 most p).1), rfl, by rw [decide_eq_true hn1], fun _ => rfl⟩) (fun v hn1 => by refine q_iload_n (pc := 134) (j := 3) rfl rfl ?_; exact q_iret (pc := 135) rfl rfl ⟨v, rfl, by rw [hn1]; rfl, fun q9 => absurd hn1 q9⟩) 160 _ (p + 1) (by omega) (by have := hdy.1; omega) hdy.2.2.1 (by have := hdy.2.2.2; omega) hn9.symm
