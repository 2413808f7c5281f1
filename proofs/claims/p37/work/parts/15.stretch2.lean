/-! Stretch, second half: written by wip/whole/gen/c15.py -/
theorem hm_W {S : PSt} {r k j : Nat} : wan (hm S r k) r j = wan S r j := rfl
theorem hm_hd {S : PSt} {r k : Nat} : hd (hm S r k) r k = hd S r k := by unfold hd; rw [hm_at]
theorem anyB_s {f : Nat → Bool} {k : Nat} : anyB f (k + 1) = (anyB f k || f k) := rfl
set_option maxRecDepth 100000 in
theorem lp_X6_holdMore {n0 : Nat} {X : Nat × (Nat → Int32)} {P : Option Value → PSt → Prop} {d : Nat} (hd9 : 2 ≤ d) {sh : List PSh} {S : PSt} {r n : Nat} (hs : isSt sh r) (hn : n ≤ 32) (hz : S.1 r 7 = nI n) (hok : okW S r n) (hex : pV mX6_holdMore d n0 X sh P 57 [some (.ref r), some (.int (pB (anyB (newly S r) n))), some (.int (nI n))] [] (hm S r n)) : ∀ (m k : Nat), k + m = n → pV mX6_holdMore d n0 X sh P 4 [some (.ref r), some (.int (pB (anyB (newly S r) k))), some (.int (nI k))] [] (hm S r k) := by
  intro m
  induction m with
  | zero =>
    intro k hk
    have hk : k = n := by omega
    subst hk
    refine q_iload_n (pc := 4) (j := 2) rfl rfl ?_
    refine q_aload_n (pc := 5) (j := 0) rfl rfl ?_
    refine q_get (pc := 6) (a := r) (v := .int ((hm S r k).1 r 7)) rfl fl_X6_35 hs.1 rfl rfl ?_
    exact q_icmp_ge (pc := 9) 57 rfl (by decide) (fun _ => hex) (fun h9 => absurd (by rw [hm_sz, hz]; exact Int32.le_refl _) h9)
  | succ m ih =>
    intro k hk
    have hk1 : k < n := by omega
    refine q_iload_n (pc := 4) (j := 2) rfl rfl ?_
    refine q_aload_n (pc := 5) (j := 0) rfl rfl ?_
    refine q_get (pc := 6) (a := r) (v := .int ((hm S r k).1 r 7)) rfl fl_X6_35 hs.1 rfl rfl ?_
    refine q_st (st2 := [.int (nI n), .int (nI k)]) (by rw [(show ((hm S r k).1 r 7) = nI n from hm_sz.trans hz)]) ?_
    refine q_icmp_ge (pc := 9) 57 rfl (by decide) (fun h9 => absurd h9 (nI_ge hk1 (by omega))) (fun _ => ?_)
    refine q_aload_n (pc := 12) (j := 0) rfl rfl ?_
    refine q_get (pc := 13) (a := r) (v := .ref (r + 4)) rfl fl_X6_21 hs.1 rfl rfl ?_
    refine q_iload_n (pc := 16) (j := 2) rfl rfl ?_
    refine q_callS (pc := 17) (as := [.ref (r + 4), .int (nI k)]) (rest := []) (st2 := [.int (pB (decide ((hm S r k).1 (r + 4) k ≠ 0)))]) rfl ce_X8_readFlag ml_X6_83 st_X8_readFlag rfl (by omega) (Nat.le_of_ble_eq_true rfl) (sp_readFlagN (k := k) hs.2.2.2.2.1 (by omega) (by decide)) rfl ?_
    refine q_if_ne (pc := 20) 51 rfl (by decide) (fun h20 => ?_) (fun h20 => ?_)
    · have hy : newly S r k = false := by first | (rw [newly, show hd S r k = true from decide_eq_true (by have := pB_dec h20; rwa [hm_at] at this)]; rfl) | (rw [newly, show flt (wan S r k) (S.2.1 (r + 3) k) = false from decide_eq_false (Int32.not_lt.mpr h37)]; simp)
      refine q_iinc (pc := 51) (j := 2) (n := 1) (nI (k + 1)) [some (.ref r), some (.int (pB (anyB (newly S r) k))), some (.int (nI (k + 1)))] rfl (by decide) rfl (nI_1 k) rfl ?_
      refine q_goto (pc := 54) 4 rfl (by decide) ?_
      exact q_L (by rw [anyB_s, hy, Bool.or_false]) (q_S (hm_n hy) (ih (k + 1) (by omega)))
    · refine q_aload_n (pc := 23) (j := 0) rfl rfl ?_
      refine q_iload_n (pc := 24) (j := 2) rfl rfl ?_
      refine q_callV (pc := 25) (as := [.int (nI k)]) (rest := []) (b := r) (st2 := [.float (wan (hm S r k) r k)]) rfl ce_X6_stretched ml_X6_91 im_X6_stretched se_X6_stretched hs.1 rfl rfl rfl (by omega) (Nat.le_of_ble_eq_true rfl) (sp_X6_stretched (k := k) hs (by omega) (hok k hk1)) rfl ?_
      refine q_aload_n (pc := 28) (j := 0) rfl rfl ?_
      refine q_get (pc := 29) (a := r) (v := .ref (r + 3)) rfl fl_X6_18 hs.1 rfl rfl ?_
      refine q_iload_n (pc := 32) (j := 2) rfl rfl ?_
      refine q_callS (pc := 33) (as := [.ref (r + 3), .int (nI k)]) (rest := [.float (wan (hm S r k) r k)]) (st2 := [.float ((hm S r k).2.1 (r + 3) k), .float (wan (hm S r k) r k)]) rfl ce_X8_readFloat ml_X6_87 st_X8_readFloat rfl (by omega) (Nat.le_of_ble_eq_true rfl) (sp_readFloatN (k := k) hs.2.2.2.1 (by omega) (by decide)) rfl ?_
      refine q_fcmp (pc := 36) (op := .g) rfl ?_
      refine q_if_ge (pc := 37) 51 rfl (by decide) (fun h37 => ?_) (fun h37 => ?_)
      · have hy : newly S r k = false := by first | (rw [newly, show hd S r k = true from decide_eq_true (by have := pB_dec h20; rwa [hm_at] at this)]; rfl) | (rw [newly, show flt (wan S r k) (S.2.1 (r + 3) k) = false from decide_eq_false (Int32.not_lt.mpr h37)]; simp)
        refine q_iinc (pc := 51) (j := 2) (n := 1) (nI (k + 1)) [some (.ref r), some (.int (pB (anyB (newly S r) k))), some (.int (nI (k + 1)))] rfl (by decide) rfl (nI_1 k) rfl ?_
        refine q_goto (pc := 54) 4 rfl (by decide) ?_
        exact q_L (by rw [anyB_s, hy, Bool.or_false]) (q_S (hm_n hy) (ih (k + 1) (by omega)))
      · refine q_aload_n (pc := 40) (j := 0) rfl rfl ?_
        refine q_get (pc := 41) (a := r) (v := .ref (r + 4)) rfl fl_X6_21 hs.1 rfl rfl ?_
        refine q_iload_n (pc := 44) (j := 2) rfl rfl ?_
        refine q_iconst (pc := 45) 1 rfl (by decide) ?_
        refine q_callS (pc := 46) (as := [.ref (r + 4), .int (nI k), .int 1]) (rest := []) (st2 := []) rfl ce_X8_writeFlag ml_X6_71 st_X8_writeFlag rfl (by omega) (Nat.le_of_ble_eq_true rfl) (sp_writeFlagN (k := k) hs.2.2.2.2.1 (by omega) (by decide) (by decide)) rfl ?_
        refine q_iconst (pc := 49) 1 rfl (by decide) ?_
        refine q_istore_n (pc := 50) (j := 1) [some (.ref r), some (.int 1), some (.int (nI k))] rfl (by decide) rfl ?_
        have hy : newly S r k = true := by rw [newly, show hd S r k = false from decide_eq_false (fun q => (pB_ndec h20) (by rw [hm_at]; exact q)), show flt (wan S r k) (S.2.1 (r + 3) k) = true from decide_eq_true (Int32.not_le.mp h37)]; rfl
        refine q_iinc (pc := 51) (j := 2) (n := 1) (nI (k + 1)) [some (.ref r), some (.int 1), some (.int (nI (k + 1)))] rfl (by decide) rfl (nI_1 k) rfl ?_
        refine q_goto (pc := 54) 4 rfl (by decide) ?_
        exact q_L (by rw [anyB_s, hy, Bool.or_true]; rfl) (q_S (hm_y hy) (ih (k + 1) (by omega)))
set_option maxRecDepth 100000 in
theorem sp_X6_holdMore {sh : List PSh} {S : PSt} {r n : Nat} (hs : isSt sh r) (hn : n ≤ 32) (hz : S.1 r 7 = nI n) (hok : okW S r n) : pF mX6_holdMore 2 [.ref r] sh S (hm S r n) (some (.int (pB (anyB (newly S r) n)))) := by
  refine pF.of (pG.of [some (.ref r), none, none] (by decide) tk_X6_holdMore (Nat.le_of_ble_eq_true rfl) rfl (fun X => ?_))
  refine q_iconst (pc := 0) 0 rfl (by decide) ?_
  refine q_istore_n (pc := 1) (j := 1) [some (.ref r), some (.int 0), none] rfl (by decide) rfl ?_
  refine q_iconst (pc := 2) 0 rfl (by decide) ?_
  refine q_istore_n (pc := 3) (j := 2) [some (.ref r), some (.int 0), some (.int 0)] rfl (by decide) rfl ?_
  refine q_S hm_0.symm (lp_X6_holdMore (Nat.le_refl _) hs hn hz hok ?_ n 0 (Nat.zero_add n))
  refine q_iload_n (pc := 57) (j := 1) rfl rfl ?_
  exact q_zret (pc := 58) rfl rfl (pB_nar _) ⟨rfl, rfl⟩
set_option maxRecDepth 100000 in
theorem lp_X6_take {n0 : Nat} {X : Nat × (Nat → Int32)} {P : Option Value → PSt → Prop} {d : Nat} (hd9 : 2 ≤ d) {sh : List PSh} {S : PSt} {r q a n b : Nat} {w : Int32} (hs : isSt sh r) (hq : isSg sh q) (hqr : q + 1 ≠ r) (hn : n ≤ 32) (hab : b + 1 = a + n) (hb : b < 32) (hdur : ∀ i, a ≤ i → i < a + n → ¬ S.1 (q + 1) (5 * i + 0) = 2 → isDur (S.1 (q + 1) (5 * i + 1))) (hex : ∀ x, pV mX6_take d n0 X sh P 113 [some (.ref r), some (.ref q), some (.int (nI a)), some (.int (nI b)), some (.int w), some (.int (nI (a + n))), x] [] (tk S r q a w n)) : ∀ (m k : Nat) (x : Option Value), k + m = n → pV mX6_take d n0 X sh P 25 [some (.ref r), some (.ref q), some (.int (nI a)), some (.int (nI b)), some (.int w), some (.int (nI (a + k))), x] [] (tk S r q a w k) := by
  intro m
  induction m with
  | zero =>
    intro k x hk
    have hk : k = n := by omega
    subst hk
    refine q_iload (pc := 25) (j := 5) rfl rfl ?_
    refine q_iload_n (pc := 27) (j := 3) rfl rfl ?_
    exact q_icmp_gt (pc := 28) 113 rfl (by decide) (fun _ => hex x) (fun h9 => absurd (nI_lt (by omega) (by omega)) h9)
  | succ m ih =>
    intro k x hk
    have hk1 : k < n := by omega
    refine q_iload (pc := 25) (j := 5) rfl rfl ?_
    refine q_iload_n (pc := 27) (j := 3) rfl rfl ?_
    refine q_icmp_gt (pc := 28) 113 rfl (by decide) (fun h9 => absurd h9 (nI_nlt (by omega) (by omega))) (fun _ => ?_)
    refine q_aload_n (pc := 31) (j := 0) rfl rfl ?_
    refine q_get (pc := 32) (a := r) (v := .int ((tk S r q a w k).1 r 7)) rfl fl_X6_35 hs.1 rfl rfl ?_
    refine q_st (st2 := [.int (nI k)]) (by rw [(show ((tk S r q a w k).1 r 7) = nI k from tk_sz (S := S) (r := r) (q := q) (a := a) (w := w) (k := k))]) ?_
    refine q_bipush (pc := 35) 32 rfl (by decide) ?_
    refine q_icmp_ge (pc := 37) 113 rfl (by decide) (fun h9 => absurd h9 (nI_ge (b := 32) (by omega) (by decide))) (fun _ => ?_)
    refine q_aload_n (pc := 40) (j := 1) rfl rfl ?_
    refine q_iload (pc := 41) (j := 5) rfl rfl ?_
    refine q_callV (pc := 43) (as := [.int (nI (a + k))]) (rest := []) (b := q) (st2 := [.float (idF ((tk S r q a w k).1 (q + 1) (5 * (a + k) + 0)) ((tk S r q a w k).1 (q + 1) (5 * (a + k) + 1)))]) rfl ce_X4_ideal ml_X6_45 im_X4_ideal se_X4_ideal hq.1 rfl rfl rfl (by omega) (Nat.le_of_ble_eq_true rfl) (sp_X4_ideal (c := (a + k)) hq (by omega) (by rw [tk_I (S := S) (r := r) (q := q) (a := a) (w := w) (k := k) hqr]; exact hdur (a + k) (by omega) (by omega))) rfl ?_
    refine q_st (st2 := [.float (idC S q (a + k))]) (by rw [(show (idF ((tk S r q a w k).1 (q + 1) (5 * (a + k) + 0)) ((tk S r q a w k).1 (q + 1) (5 * (a + k) + 1))) = idC S q (a + k) from by rw [tk_I (S := S) (r := r) (q := q) (a := a) (w := w) (k := k) hqr]; rfl)]) ?_
    refine q_fstore (pc := 46) (j := 6) [some (.ref r), some (.ref q), some (.int (nI a)), some (.int (nI b)), some (.int w), some (.int (nI (a + k))), some (.float (idC S q (a + k)))] rfl (by decide) rfl ?_
    refine q_aload_n (pc := 48) (j := 0) rfl rfl ?_
    refine q_get (pc := 49) (a := r) (v := .ref (r + 1)) rfl fl_X6_9 hs.1 rfl rfl ?_
    refine q_aload_n (pc := 52) (j := 0) rfl rfl ?_
    refine q_get (pc := 53) (a := r) (v := .int ((tk S r q a w k).1 r 7)) rfl fl_X6_35 hs.1 rfl rfl ?_
    refine q_st (st2 := [.int (nI k), .ref (r + 1)]) (by rw [(show ((tk S r q a w k).1 r 7) = nI k from tk_sz (S := S) (r := r) (q := q) (a := a) (w := w) (k := k))]) ?_
    refine q_fload (pc := 56) (j := 6) rfl rfl ?_
    refine q_callS (pc := 58) (as := [.ref (r + 1), .int (nI k), .float (idC S q (a + k))]) (rest := []) (st2 := []) rfl ce_X8_writeFloat ml_X6_51 st_X8_writeFloat rfl (by omega) (Nat.le_of_ble_eq_true rfl) (sp_writeFloatN (k := k) hs.2.1 (by omega) (by decide)) rfl ?_
    refine q_aload_n (pc := 61) (j := 0) rfl rfl ?_
    refine q_get (pc := 62) (a := r) (v := .ref (r + 2)) rfl fl_X6_15 hs.1 rfl rfl ?_
    refine q_aload_n (pc := 65) (j := 0) rfl rfl ?_
    refine q_get (pc := 66) (a := r) (v := .int ((pSF (tk S r q a w k) (r + 1) k (idC S q (a + k))).1 r 7)) rfl fl_X6_35 hs.1 rfl rfl ?_
    refine q_st (st2 := [.int (nI k), .ref (r + 2)]) (by rw [(show ((pSF (tk S r q a w k) (r + 1) k (idC S q (a + k))).1 r 7) = nI k from tk_sz (S := S) (r := r) (q := q) (a := a) (w := w) (k := k))]) ?_
    refine q_aload_n (pc := 69) (j := 1) rfl rfl ?_
    refine q_iload (pc := 70) (j := 5) rfl rfl ?_
    refine q_fload (pc := 72) (j := 6) rfl rfl ?_
    refine q_callV (pc := 74) (as := [.int (nI (a + k)), .float (idC S q (a + k))]) (rest := [.int (nI k), .ref (r + 2)]) (b := q) (st2 := [.float (flF ((pSF (tk S r q a w k) (r + 1) k (idC S q (a + k))).1 (q + 1) (5 * (a + k) + 0)) (idC S q (a + k))), .int (nI k), .ref (r + 2)]) rfl ce_X4_flex ml_X6_55 im_X4_flex se_X4_flex hq.1 rfl rfl rfl (by omega) (Nat.le_of_ble_eq_true rfl) (sp_X4_flex (c := (a + k)) hq (by omega) (by intro h9; exact fl_n (hdur (a + k) (by omega) (by omega) (by rw [show ∀ x, (pSF (tk S r q a w k) (r + 1) k x).1 (q + 1) = S.1 (q + 1) from fun x => tk_I (S := S) (r := r) (q := q) (a := a) (w := w) (k := k) hqr] at h9; exact h9)) (by rw [show ∀ x, (pSF (tk S r q a w k) (r + 1) k x).1 (q + 1) = S.1 (q + 1) from fun x => tk_I (S := S) (r := r) (q := q) (a := a) (w := w) (k := k) hqr] at h9; exact h9))) rfl ?_
    refine q_st (st2 := [.float (flC S q (a + k)), .int (nI k), .ref (r + 2)]) (by rw [(show (flF ((pSF (tk S r q a w k) (r + 1) k (idC S q (a + k))).1 (q + 1) (5 * (a + k) + 0)) (idC S q (a + k))) = flC S q (a + k) from by rw [show (pSF (tk S r q a w k) (r + 1) k (idC S q (a + k))).1 (q + 1) = S.1 (q + 1) from tk_I (S := S) (r := r) (q := q) (a := a) (w := w) (k := k) hqr]; rfl)]) ?_
    refine q_callS (pc := 77) (as := [.ref (r + 2), .int (nI k), .float (flC S q (a + k))]) (rest := []) (st2 := []) rfl ce_X8_writeFloat ml_X6_51 st_X8_writeFloat rfl (by omega) (Nat.le_of_ble_eq_true rfl) (sp_writeFloatN (k := k) hs.2.2.1 (by omega) (by decide)) rfl ?_
    refine q_aload_n (pc := 80) (j := 0) rfl rfl ?_
    refine q_get (pc := 81) (a := r) (v := .ref (r + 3)) rfl fl_X6_18 hs.1 rfl rfl ?_
    refine q_aload_n (pc := 84) (j := 0) rfl rfl ?_
    refine q_get (pc := 85) (a := r) (v := .int ((pSF (pSF (tk S r q a w k) (r + 1) k (idC S q (a + k))) (r + 2) k (flC S q (a + k))).1 r 7)) rfl fl_X6_35 hs.1 rfl rfl ?_
    refine q_st (st2 := [.int (nI k), .ref (r + 3)]) (by rw [(show ((pSF (pSF (tk S r q a w k) (r + 1) k (idC S q (a + k))) (r + 2) k (flC S q (a + k))).1 r 7) = nI k from tk_sz (S := S) (r := r) (q := q) (a := a) (w := w) (k := k))]) ?_
    refine q_aload_n (pc := 88) (j := 1) rfl rfl ?_
    refine q_iload (pc := 89) (j := 5) rfl rfl ?_
    refine q_callV (pc := 91) (as := [.int (nI (a + k))]) (rest := [.int (nI k), .ref (r + 3)]) (b := q) (st2 := [.float (roF ((pSF (pSF (tk S r q a w k) (r + 1) k (idC S q (a + k))) (r + 2) k (flC S q (a + k))).1 (q + 1) (5 * (a + k) + 3))), .int (nI k), .ref (r + 3)]) rfl ce_X4_rod ml_X6_59 im_X4_rod se_X4_rod hq.1 rfl rfl rfl (by omega) (Nat.le_of_ble_eq_true rfl) (sp_X4_rod (c := (a + k)) hq (by omega)) rfl ?_
    refine q_st (st2 := [.float (roC S q (a + k)), .int (nI k), .ref (r + 3)]) (by rw [(show (roF ((pSF (pSF (tk S r q a w k) (r + 1) k (idC S q (a + k))) (r + 2) k (flC S q (a + k))).1 (q + 1) (5 * (a + k) + 3))) = roC S q (a + k) from by rw [show (pSF (pSF (tk S r q a w k) (r + 1) k (idC S q (a + k))) (r + 2) k (flC S q (a + k))).1 (q + 1) = S.1 (q + 1) from tk_I (S := S) (r := r) (q := q) (a := a) (w := w) (k := k) hqr]; rfl)]) ?_
    refine q_callS (pc := 94) (as := [.ref (r + 3), .int (nI k), .float (roC S q (a + k))]) (rest := []) (st2 := []) rfl ce_X8_writeFloat ml_X6_51 st_X8_writeFloat rfl (by omega) (Nat.le_of_ble_eq_true rfl) (sp_writeFloatN (k := k) hs.2.2.2.1 (by omega) (by decide)) rfl ?_
    refine q_aload_n (pc := 97) (j := 0) rfl rfl ?_
    refine q_dup (pc := 98) rfl rfl ?_
    refine q_get (pc := 99) (a := r) (v := .int ((pSF (pSF (pSF (tk S r q a w k) (r + 1) k (idC S q (a + k))) (r + 2) k (flC S q (a + k))) (r + 3) k (roC S q (a + k))).1 r 7)) rfl fl_X6_35 hs.1 rfl rfl ?_
    refine q_st (st2 := [.int (nI k), .ref r]) (by rw [(show ((pSF (pSF (pSF (tk S r q a w k) (r + 1) k (idC S q (a + k))) (r + 2) k (flC S q (a + k))) (r + 3) k (roC S q (a + k))).1 r 7) = nI k from tk_sz (S := S) (r := r) (q := q) (a := a) (w := w) (k := k))]) ?_
    refine q_iconst (pc := 102) 1 rfl (by decide) ?_
    refine q_iadd (pc := 103) rfl ?_
    refine q_st (st2 := [.int (nI (k + 1)), .ref r]) (by rw [(nI_1 k)]) ?_
    refine q_putI (pc := 104) (a := r) rfl fl_X6_35 hs.1 rfl (fun _ h9 => by cases h9; rfl) rfl rfl ?_
    refine q_iinc (pc := 107) (j := 5) (n := 1) (nI (a + (k + 1))) [some (.ref r), some (.ref q), some (.int (nI a)), some (.int (nI b)), some (.int w), some (.int (nI (a + (k + 1)))), some (.float (idC S q (a + k)))] rfl (by decide) rfl (nI_1 (a + k)) rfl ?_
    refine q_goto (pc := 110) 25 rfl (by decide) ?_
    exact q_S tk_s (ih (k + 1) _ (by omega))
set_option maxRecDepth 100000 in
theorem sp_X6_take {sh : List PSh} {S : PSt} {r q a n b : Nat} {w : Int32} (hs : isSt sh r) (hq : isSg sh q) (hqr : q + 1 ≠ r) (hn : n ≤ 32) (hab : b + 1 = a + n) (hb : b < 32) (hdur : ∀ i, a ≤ i → i < a + n → ¬ S.1 (q + 1) (5 * i + 0) = 2 → isDur (S.1 (q + 1) (5 * i + 1)))  : pF mX6_take 2 [.ref r, .ref q, .int (nI a), .int (nI b), .int w] sh S (tk S r q a w n) (none) := by
  refine pF.of (pG.of [some (.ref r), some (.ref q), some (.int (nI a)), some (.int (nI b)), some (.int w), none, none] (by decide) tk_X6_take (Nat.le_of_ble_eq_true rfl) rfl (fun X => ?_))
  refine q_aload_n (pc := 0) (j := 0) rfl rfl ?_
  refine q_iload_n (pc := 1) (j := 2) rfl rfl ?_
  refine q_putI (pc := 2) (a := r) rfl fl_X6_31 hs.1 rfl (fun _ h9 => by cases h9; rfl) rfl rfl ?_
  refine q_aload_n (pc := 5) (j := 0) rfl rfl ?_
  refine q_iconst (pc := 6) 0 rfl (by decide) ?_
  refine q_putI (pc := 7) (a := r) rfl fl_X6_35 hs.1 rfl (fun _ h9 => by cases h9; rfl) rfl rfl ?_
  refine q_aload_n (pc := 10) (j := 0) rfl rfl ?_
  refine q_iload (pc := 11) (j := 4) rfl rfl ?_
  refine q_i2f (pc := 13) rfl ?_
  refine q_putF (pc := 14) (a := r) rfl fl_X6_38 hs.1 rfl (fun _ h9 => by cases h9; rfl) rfl rfl ?_
  refine q_aload_n (pc := 17) (j := 1) rfl rfl ?_
  refine q_ifnonnull (pc := 18) 22 rfl (by decide) ?_
  refine q_iload_n (pc := 22) (j := 2) rfl rfl ?_
  refine q_istore (pc := 23) (j := 5) [some (.ref r), some (.ref q), some (.int (nI a)), some (.int (nI b)), some (.int w), some (.int (nI a)), none] rfl (by decide) rfl ?_
  refine q_S tk_0 (lp_X6_take (Nat.le_refl _) hs hq hqr hn hab hb hdur (fun x => ?_) n 0 _ (Nat.zero_add n))
  exact q_vret (pc := 113) rfl rfl ⟨rfl, rfl⟩
