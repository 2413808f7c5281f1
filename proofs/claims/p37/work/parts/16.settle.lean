/-! Stretch, settle and readers: written by wip/whole/gen/c16.py -/
def cfS (T : PSt) (r k : Nat) : PSt := (fun c j => if c = r + 4 ∧ j < k then 0 else T.1 c j, T.2)
theorem cf_0 {T : PSt} {r : Nat} : cfS T r 0 = T := by
  unfold cfS
  refine Prod.ext (funext fun c => funext fun j => ?_) rfl
  dsimp only; rw [if_neg (by omega)]
theorem cf_s {T : PSt} {r k : Nat} : pSI (cfS T r k) (r + 4) k 0 = cfS T r (k + 1) := by
  unfold cfS pSI pU
  refine Prod.ext (funext fun c => funext fun j => ?_) rfl
  dsimp only; (repeat' split) <;> first | rfl | (exfalso; omega)
theorem cf_sz {T : PSt} {r k : Nat} : (cfS T r k).1 r 7 = T.1 r 7 := by simp [cfS]
theorem sameSp_cf {S : PSt} {r k : Nat} : sameSp S (cfS S r k) r := ⟨rfl, rfl, rfl, rfl, by simp [cfS]⟩
theorem sameSp_rf {S : PSt} {r : Nat} : sameSp S S r := ⟨rfl, rfl, rfl, rfl, rfl⟩
theorem sameSp_tr {S T U : PSt} {r : Nat} (h : sameSp S T r) (h2 : sameSp T U r) : sameSp S U r := ⟨h2.1.trans h.1, h2.2.1.trans h.2.1, h2.2.2.1.trans h.2.2.1, h2.2.2.2.1.trans h.2.2.2.1, h2.2.2.2.2.trans h.2.2.2.2⟩
theorem rnd_same {r n : Nat} : ∀ (m : Nat) (S : PSt), sameSp S (rndS r n m S) r := by
  intro m
  induction m with
  | zero => intro S; exact sameSp_rf
  | succ m ih =>
    intro S
    unfold rndS
    split
    · exact sameSp_tr sameSp_rd1 (ih _)
    · exact sameSp_rd1
theorem rnd_okW {r n : Nat} : ∀ (m : Nat) (S : PSt), okSp S r n → okW (rndS r n (m + 1) S) r n := by
  intro m
  induction m with
  | zero =>
    intro S h
    have h1 : okW (rd1 S r n) r n := (h S sameSp_rf).2
    show okW (if chg S r n then rndS r n 0 (rd1 S r n) else rd1 S r n) r n
    split
    · exact h1
    · exact h1
  | succ m ih =>
    intro S h
    show okW (if chg S r n then rndS r n (m + 1) (rd1 S r n) else rd1 S r n) r n
    split
    · exact ih _ (h.mono sameSp_rd1)
    · exact (h S sameSp_rf).2
theorem ln_0 {T : PSt} {r : Nat} : lnS T r 0 = T := by
  unfold lnS
  refine Prod.ext rfl (Prod.ext (funext fun c => funext fun j => ?_) rfl)
  dsimp only; rw [if_neg (by omega), if_neg (by omega)]
theorem ln_s {T : PSt} {r k : Nat} : pSF (pSF (lnS T r k) (r + 5) k (lenS T r k)) (r + 6) k (sumF (lenS T r) k) = lnS T r (k + 1) := by
  unfold lnS pSF pU
  refine Prod.ext rfl (Prod.ext (funext fun c => funext fun j => ?_) rfl)
  dsimp only
  by_cases hj : j = k
  · subst hj; (repeat' split) <;> first | rfl | (exfalso; omega)
  · (repeat' split) <;> first | rfl | (exfalso; omega)
theorem ln_wan {T : PSt} {r k j : Nat} : wan (lnS T r k) r j = wan T r j := by simp [wan, lnS]
/-- a stretch laid out -/
def stl (S : PSt) (r q a : Nat) (w : Int32) (n : Nat) : PSt := lnS (rndS r n 33 (cfS (tk S r q a w n) r n)) r n

set_option maxRecDepth 100000 in
theorem lp_X6_settleA {n0 : Nat} {X : Nat × (Nat → Int32)} {P : Option Value → PSt → Prop} {d : Nat} (hd9 : 1 ≤ d) {sh : List PSh} {T : PSt} {r q a n b : Nat} {w : Int32} (hs : isSt sh r) (hn : n ≤ 32) (hz : T.1 r 7 = nI n) (hex : pV mX6_settle d n0 X sh P 37 [some (.ref r), some (.ref q), some (.int (nI a)), some (.int (nI b)), some (.int w), some (.int (nI n)), none, none] [] (cfS T r n)) : ∀ (m k : Nat), k + m = n → pV mX6_settle d n0 X sh P 12 [some (.ref r), some (.ref q), some (.int (nI a)), some (.int (nI b)), some (.int w), some (.int (nI k)), none, none] [] (cfS T r k) := by
  intro m
  induction m with
  | zero =>
    intro k hk
    have hk : k = n := by omega
    subst hk
    refine q_iload (pc := 12) (j := 5) rfl rfl ?_
    refine q_aload_n (pc := 14) (j := 0) rfl rfl ?_
    refine q_get (pc := 15) (a := r) (v := .int ((cfS T r k).1 r 7)) rfl fl_X6_35 hs.1 rfl rfl ?_
    exact q_icmp_ge (pc := 18) 37 rfl (by decide) (fun _ => hex) (fun h9 => absurd (by rw [cf_sz, hz]; exact Int32.le_refl _) h9)
  | succ m ih =>
    intro k hk
    have hk1 : k < n := by omega
    refine q_iload (pc := 12) (j := 5) rfl rfl ?_
    refine q_aload_n (pc := 14) (j := 0) rfl rfl ?_
    refine q_get (pc := 15) (a := r) (v := .int ((cfS T r k).1 r 7)) rfl fl_X6_35 hs.1 rfl rfl ?_
    refine q_st (st2 := [.int (nI n), .int (nI k)]) (by rw [(show ((cfS T r k).1 r 7) = nI n from (cf_sz (T := T) (r := r) (k := k)).trans hz)]) ?_
    refine q_icmp_ge (pc := 18) 37 rfl (by decide) (fun h9 => absurd h9 (nI_ge hk1 (by omega))) (fun _ => ?_)
    refine q_aload_n (pc := 21) (j := 0) rfl rfl ?_
    refine q_get (pc := 22) (a := r) (v := .ref (r + 4)) rfl fl_X6_21 hs.1 rfl rfl ?_
    refine q_iload (pc := 25) (j := 5) rfl rfl ?_
    refine q_iconst (pc := 27) 0 rfl (by decide) ?_
    refine q_callS (pc := 28) (as := [.ref (r + 4), .int (nI k), .int 0]) (rest := []) (st2 := []) rfl ce_X8_writeFlag ml_X6_71 st_X8_writeFlag rfl (by omega) (Nat.le_of_ble_eq_true rfl) (sp_writeFlagN (k := k) hs.2.2.2.2.1 (by omega) (by decide) (by decide)) rfl ?_
    refine q_iinc (pc := 31) (j := 5) (n := 1) (nI (k + 1)) [some (.ref r), some (.ref q), some (.int (nI a)), some (.int (nI b)), some (.int w), some (.int (nI (k + 1))), none, none] rfl (by decide) rfl (nI_1 k) rfl ?_
    refine q_goto (pc := 34) 12 rfl (by decide) ?_
    exact q_S cf_s (ih (k + 1) (by omega))
set_option maxRecDepth 100000 in
theorem lp_X6_settleB {n0 : Nat} {X : Nat × (Nat → Int32)} {P : Option Value → PSt → Prop} {d : Nat} (hd9 : 3 ≤ d) {sh : List PSh} {T : PSt} {r q a n b : Nat} {w : Int32} (hs : isSt sh r) (hn : n ≤ 32) (hz : T.1 r 7 = nI n) {F : PSt} (hok : okSp T r n) (hex : ∀ x y : Int32, pV mX6_settle d n0 X sh P 83 [some (.ref r), some (.ref q), some (.int (nI a)), some (.int (nI b)), some (.int w), some (.int x), some (.int y), none] [] F) : ∀ (m j : Nat) (S1 : PSt), j + m = 33 → sameSp T S1 r → rndS r n m S1 = F → pV mX6_settle d n0 X sh P 43 [some (.ref r), some (.ref q), some (.int (nI a)), some (.int (nI b)), some (.int w), some (.int 0), some (.int (nI j)), none] [] S1 := by
  intro m
  induction m with
  | zero =>
    intro j S1 hj hsm hF
    have hj : j = 33 := by omega
    subst hj
    have hF : S1 = F := hF
    subst hF
    refine q_iload (pc := 43) (j := 6) rfl rfl ?_
    refine q_bipush (pc := 45) 32 rfl (by decide) ?_
    exact q_icmp_gt (pc := 47) 83 rfl (by decide) (fun _ => hex _ _) (fun h9 => absurd (by decide : (32 : Int32) < nI 33) h9)
  | succ m ih =>
    intro j S1 hj hsm hF
    have hk1 : j < 33 := by omega
    refine q_iload (pc := 43) (j := 6) rfl rfl ?_
    refine q_bipush (pc := 45) 32 rfl (by decide) ?_
    refine q_icmp_gt (pc := 47) 83 rfl (by decide) (fun h9 => absurd h9 (nI_nlt (a := 32) (b := j) (by omega) (by decide))) (fun _ => ?_)
    refine q_iload (pc := 50) (j := 5) rfl rfl ?_
    refine q_if_ne (pc := 52) 83 rfl (by decide) (fun h9 => absurd h9 (by decide : ¬ ¬ (0 : Int32) = 0)) (fun _ => ?_)
    refine q_aload_n (pc := 55) (j := 0) rfl rfl ?_
    refine q_aload_n (pc := 56) (j := 0) rfl rfl ?_
    refine q_callV (pc := 57) (as := []) (rest := [.ref r]) (b := r) (st2 := [.float (balS S1 r n), .ref r]) rfl ce_X6_balance ml_X6_75 im_X6_balance se_X6_balance hs.1 rfl rfl rfl (by omega) (Nat.le_of_ble_eq_true rfl) (sp_X6_balance (n := n) hs hn (hsm.2.2.2.2.trans hz) (hok S1 hsm).1) rfl ?_
    refine q_putF (pc := 60) (a := r) rfl fl_X6_42 hs.1 rfl (fun _ h9 => by cases h9; rfl) rfl rfl ?_
    refine q_aload_n (pc := 63) (j := 0) rfl rfl ?_
    refine q_callV (pc := 64) (as := []) (rest := []) (b := r) (st2 := [.int (pB (anyB (newly (pSF S1 r 9 (balS S1 r n)) r) n))]) rfl ce_X6_holdMore ml_X6_79 im_X6_holdMore se_X6_holdMore hs.1 rfl rfl rfl (by omega) (Nat.le_of_ble_eq_true rfl) (sp_X6_holdMore (n := n) hs hn (show (pSF S1 r 9 (balS S1 r n)).1 r 7 = nI n from hsm.2.2.2.2.trans hz) (hok S1 hsm).2) rfl ?_
    refine q_if_ne (pc := 67) 74 rfl (by decide) (fun h67 => ?_) (fun h67 => ?_)
    · refine q_iconst (pc := 74) 0 rfl (by decide) ?_
      refine q_istore (pc := 75) (j := 5) [some (.ref r), some (.ref q), some (.int (nI a)), some (.int (nI b)), some (.int w), some (.int 0), some (.int (nI j)), none] rfl (by decide) rfl ?_
      refine q_iinc (pc := 77) (j := 6) (n := 1) (nI (j + 1)) [some (.ref r), some (.ref q), some (.int (nI a)), some (.int (nI b)), some (.int w), some (.int 0), some (.int (nI (j + 1))), none] rfl (by decide) rfl (nI_1 j) rfl ?_
      refine q_goto (pc := 80) 43 rfl (by decide) ?_
      exact ih (j + 1) (rd1 S1 r n) (by omega) (sameSp_tr hsm sameSp_rd1) (by rw [← hF]; exact (if_pos (pB_t h67)).symm)
    · refine q_iconst (pc := 70) 1 rfl (by decide) ?_
      refine q_goto (pc := 71) 75 rfl (by decide) ?_
      refine q_istore (pc := 75) (j := 5) [some (.ref r), some (.ref q), some (.int (nI a)), some (.int (nI b)), some (.int w), some (.int 1), some (.int (nI j)), none] rfl (by decide) rfl ?_
      refine q_iinc (pc := 77) (j := 6) (n := 1) (nI (j + 1)) [some (.ref r), some (.ref q), some (.int (nI a)), some (.int (nI b)), some (.int w), some (.int 1), some (.int (nI (j + 1))), none] rfl (by decide) rfl (nI_1 j) rfl ?_
      refine q_goto (pc := 80) 43 rfl (by decide) ?_
      refine q_iload (pc := 43) (j := 6) rfl rfl ?_
      refine q_bipush (pc := 45) 32 rfl (by decide) ?_
      refine q_icmp_gt (pc := 47) 83 rfl (by decide) (fun h47 => ?_) (fun h47 => ?_)
      · exact q_S (by rw [← hF]; exact (if_neg (fun q => by rw [chg] at q; rw [q] at h67; exact absurd h67 (by decide))).symm) (hex _ _)
      · refine q_iload (pc := 50) (j := 5) rfl rfl ?_
        refine q_if_ne (pc := 52) 83 rfl (by decide) (fun _ => ?_) (fun h9 => absurd h9 (by decide : (1 : Int32) = 0 → False))
        exact q_S (by rw [← hF]; exact (if_neg (fun q => by rw [chg] at q; rw [q] at h67; exact absurd h67 (by decide))).symm) (hex _ _)
set_option maxRecDepth 100000 in
theorem lp_X6_settleC {n0 : Nat} {X : Nat × (Nat → Int32)} {P : Option Value → PSt → Prop} {d : Nat} (hd9 : 2 ≤ d) {sh : List PSh} {T : PSt} {r q a n b : Nat} {w : Int32} (hs : isSt sh r) (hn : n ≤ 32) (hz : T.1 r 7 = nI n) {x : Int32} (hokw : okW T r n) (hlen : ∀ k, k < n → vf_n32 (FP.fadd (sumF (lenS T r) k) (lenS T r k))) (hex : ∀ y, pV mX6_settle d n0 X sh P 168 [some (.ref r), some (.ref q), some (.int (nI a)), some (.int (nI b)), some (.int w), some (.int x), y, some (.int (nI n))] [] (lnS T r n)) : ∀ (m k : Nat), k + m = n → pV mX6_settle d n0 X sh P 89 [some (.ref r), some (.ref q), some (.int (nI a)), some (.int (nI b)), some (.int w), some (.int x), some (.float (sumF (lenS T r) k)), some (.int (nI k))] [] (lnS T r k) := by
  intro m
  induction m with
  | zero =>
    intro k hk
    have hk : k = n := by omega
    subst hk
    refine q_iload (pc := 89) (j := 7) rfl rfl ?_
    refine q_aload_n (pc := 91) (j := 0) rfl rfl ?_
    refine q_get (pc := 92) (a := r) (v := .int (T.1 r 7)) rfl fl_X6_35 hs.1 rfl rfl ?_
    exact q_icmp_ge (pc := 95) 168 rfl (by decide) (fun _ => hex _) (fun h9 => absurd (by rw [hz]; exact Int32.le_refl _) h9)
  | succ m ih =>
    intro k hk
    have hk1 : k < n := by omega
    refine q_iload (pc := 89) (j := 7) rfl rfl ?_
    refine q_aload_n (pc := 91) (j := 0) rfl rfl ?_
    refine q_get (pc := 92) (a := r) (v := .int ((lnS T r k).1 r 7)) rfl fl_X6_35 hs.1 rfl rfl ?_
    refine q_st (st2 := [.int (nI n), .int (nI k)]) (by rw [(show ((lnS T r k).1 r 7) = nI n from hz)]) ?_
    refine q_icmp_ge (pc := 95) 168 rfl (by decide) (fun h9 => absurd h9 (nI_ge hk1 (by omega))) (fun _ => ?_)
    refine q_aload_n (pc := 98) (j := 0) rfl rfl ?_
    refine q_get (pc := 99) (a := r) (v := .ref (r + 5)) rfl fl_X6_25 hs.1 rfl rfl ?_
    refine q_iload (pc := 102) (j := 7) rfl rfl ?_
    refine q_aload_n (pc := 104) (j := 0) rfl rfl ?_
    refine q_get (pc := 105) (a := r) (v := .ref (r + 4)) rfl fl_X6_21 hs.1 rfl rfl ?_
    refine q_iload (pc := 108) (j := 7) rfl rfl ?_
    refine q_callS (pc := 110) (as := [.ref (r + 4), .int (nI k)]) (rest := [.int (nI k), .ref (r + 5)]) (st2 := [.int (pB (decide ((lnS T r k).1 (r + 4) k ≠ 0))), .int (nI k), .ref (r + 5)]) rfl ce_X8_readFlag ml_X6_83 st_X8_readFlag rfl (by omega) (Nat.le_of_ble_eq_true rfl) (sp_readFlagN (k := k) hs.2.2.2.2.1 (by omega) (by decide)) rfl ?_
    refine q_join 134 [some (.ref r), some (.ref q), some (.int (nI a)), some (.int (nI b)), some (.int w), some (.int x), some (.float (sumF (lenS T r) k)), some (.int (nI k))] [.float (lenS T r k), .int (nI k), .ref (r + 5)] (lnS T r k) ?_ (fun key113 => ?_)
    · refine q_callS (pc := 134) (as := [.ref (r + 5), .int (nI k), .float (lenS T r k)]) (rest := []) (st2 := []) rfl ce_X8_writeFloat ml_X6_51 st_X8_writeFloat rfl (by omega) (Nat.le_of_ble_eq_true rfl) (sp_writeFloatN (k := k) hs.2.2.2.2.2.1 (by omega) (by decide)) rfl ?_
      refine q_aload_n (pc := 137) (j := 0) rfl rfl ?_
      refine q_get (pc := 138) (a := r) (v := .ref (r + 6)) rfl fl_X6_28 hs.1 rfl rfl ?_
      refine q_iload (pc := 141) (j := 7) rfl rfl ?_
      refine q_fload (pc := 143) (j := 6) rfl rfl ?_
      refine q_callS (pc := 145) (as := [.ref (r + 6), .int (nI k), .float (sumF (lenS T r) k)]) (rest := []) (st2 := []) rfl ce_X8_writeFloat ml_X6_51 st_X8_writeFloat rfl (by omega) (Nat.le_of_ble_eq_true rfl) (sp_writeFloatN (k := k) hs.2.2.2.2.2.2 (by omega) (by decide)) rfl ?_
      refine q_fload (pc := 148) (j := 6) rfl rfl ?_
      refine q_aload_n (pc := 150) (j := 0) rfl rfl ?_
      refine q_get (pc := 151) (a := r) (v := .ref (r + 5)) rfl fl_X6_25 hs.1 rfl rfl ?_
      refine q_iload (pc := 154) (j := 7) rfl rfl ?_
      refine q_callS (pc := 156) (as := [.ref (r + 5), .int (nI k)]) (rest := [.float (sumF (lenS T r) k)]) (st2 := [.float ((pSF (pSF (lnS T r k) (r + 5) k (lenS T r k)) (r + 6) k (sumF (lenS T r) k)).2.1 (r + 5) k), .float (sumF (lenS T r) k)]) rfl ce_X8_readFloat ml_X6_87 st_X8_readFloat rfl (by omega) (Nat.le_of_ble_eq_true rfl) (sp_readFloatN (k := k) hs.2.2.2.2.2.1 (by omega) (by decide)) rfl ?_
      refine q_st (st2 := [.float (lenS T r k), .float (sumF (lenS T r) k)]) (by rw [(show ((pSF (pSF (lnS T r k) (r + 5) k (lenS T r k)) (r + 6) k (sumF (lenS T r) k)).2.1 (r + 5) k) = lenS T r k by simp [pSF, pU])]) ?_
      refine q_fadd (pc := 159) rfl (hlen k hk1) ?_
      refine q_fstore (pc := 160) (j := 6) [some (.ref r), some (.ref q), some (.int (nI a)), some (.int (nI b)), some (.int w), some (.int x), some (.float (FP.fadd (sumF (lenS T r) k) (lenS T r k))), some (.int (nI k))] rfl (by decide) rfl ?_
      refine q_iinc (pc := 162) (j := 7) (n := 1) (nI (k + 1)) [some (.ref r), some (.ref q), some (.int (nI a)), some (.int (nI b)), some (.int w), some (.int x), some (.float (FP.fadd (sumF (lenS T r) k) (lenS T r k))), some (.int (nI (k + 1)))] rfl (by decide) rfl (nI_1 k) rfl ?_
      refine q_goto (pc := 165) 89 rfl (by decide) ?_
      exact q_S ln_s (ih (k + 1) (by omega))
    · refine q_if_eq (pc := 113) 128 rfl (by decide) (fun h113 => ?_) (fun h113 => ?_)
      · refine q_aload_n (pc := 128) (j := 0) rfl rfl ?_
        refine q_iload (pc := 129) (j := 7) rfl rfl ?_
        refine q_callV (pc := 131) (as := [.int (nI k)]) (rest := [.int (nI k), .ref (r + 5)]) (b := r) (st2 := [.float (wan (lnS T r k) r k), .int (nI k), .ref (r + 5)]) rfl ce_X6_stretched ml_X6_91 im_X6_stretched se_X6_stretched hs.1 rfl rfl rfl (by omega) (Nat.le_of_ble_eq_true rfl) (sp_X6_stretched (k := k) hs (by omega) (by have := hokw k hk1; exact ⟨by rw [show (lnS T r k).2.1 r 9 = T.2.1 r 9 by simp [lnS], show (lnS T r k).2.1 (r + 2) k = T.2.1 (r + 2) k by simp [lnS]]; exact this.1, by rw [ln_wan]; exact this.2⟩)) rfl ?_
        exact q_st (by rw [show lenS T r k = wan T r k from if_neg (pB_ndec (p := T.1 (r + 4) k ≠ 0) h113), ln_wan]) key113
      · refine q_aload_n (pc := 116) (j := 0) rfl rfl ?_
        refine q_get (pc := 117) (a := r) (v := .ref (r + 3)) rfl fl_X6_18 hs.1 rfl rfl ?_
        refine q_iload (pc := 120) (j := 7) rfl rfl ?_
        refine q_callS (pc := 122) (as := [.ref (r + 3), .int (nI k)]) (rest := [.int (nI k), .ref (r + 5)]) (st2 := [.float ((lnS T r k).2.1 (r + 3) k), .int (nI k), .ref (r + 5)]) rfl ce_X8_readFloat ml_X6_87 st_X8_readFloat rfl (by omega) (Nat.le_of_ble_eq_true rfl) (sp_readFloatN (k := k) hs.2.2.2.1 (by omega) (by decide)) rfl ?_
        refine q_goto (pc := 125) 134 rfl (by decide) ?_
        exact q_st (by rw [show lenS T r k = T.2.1 (r + 3) k from if_pos (pB_dec (p := T.1 (r + 4) k ≠ 0) h113), show (lnS T r k).2.1 (r + 3) k = T.2.1 (r + 3) k by simp [lnS]]) key113
set_option maxRecDepth 100000 in
theorem sp_X6_settle {sh : List PSh} {S : PSt} {r q a n b : Nat} {w : Int32} (hs : isSt sh r) (hq : isSg sh q) (hqr : q + 1 ≠ r) (hn : n ≤ 32) (hab : b + 1 = a + n) (hb : b < 32) (hdur : ∀ i, a ≤ i → i < a + n → ¬ S.1 (q + 1) (5 * i + 0) = 2 → isDur (S.1 (q + 1) (5 * i + 1))) (hsp : okSp (tk S r q a w n) r n) (hlen : ∀ k, k < n → vf_n32 (FP.fadd (sumF (lenS (rndS r n 33 (cfS (tk S r q a w n) r n)) r) k) (lenS (rndS r n 33 (cfS (tk S r q a w n) r n)) r k))) : pF mX6_settle 5 [.ref r, .ref q, .int (nI a), .int (nI b), .int w] sh S (stl S r q a w n) (none) := by
  refine pF.of (pG.of [some (.ref r), some (.ref q), some (.int (nI a)), some (.int (nI b)), some (.int w), none, none, none] (by decide) tk_X6_settle (Nat.le_of_ble_eq_true rfl) rfl (fun X => ?_))
  refine q_aload_n (pc := 0) (j := 0) rfl rfl ?_
  refine q_aload_n (pc := 1) (j := 1) rfl rfl ?_
  refine q_iload_n (pc := 2) (j := 2) rfl rfl ?_
  refine q_iload_n (pc := 3) (j := 3) rfl rfl ?_
  refine q_iload (pc := 4) (j := 4) rfl rfl ?_
  refine q_callV (pc := 6) (as := [.ref q, .int (nI a), .int (nI b), .int w]) (rest := []) (b := r) (st2 := []) rfl ce_X6_take ml_X6_67 im_X6_take se_X6_take hs.1 rfl rfl rfl (by decide) (Nat.le_of_ble_eq_true rfl) (sp_X6_take (n := n) hs hq hqr hn hab hb hdur) rfl ?_
  refine q_iconst (pc := 9) 0 rfl (by decide) ?_
  refine q_istore (pc := 10) (j := 5) [some (.ref r), some (.ref q), some (.int (nI a)), some (.int (nI b)), some (.int w), some (.int 0), none, none] rfl (by decide) rfl ?_
  refine q_S cf_0.symm (lp_X6_settleA (T := (tk S r q a w n)) (r := r) (q := q) (a := a) (b := b) (w := w) (by decide) hs hn tk_sz ?_ n 0 (Nat.zero_add n))
  refine q_iconst (pc := 37) 0 rfl (by decide) ?_
  refine q_istore (pc := 38) (j := 5) [some (.ref r), some (.ref q), some (.int (nI a)), some (.int (nI b)), some (.int w), some (.int 0), none, none] rfl (by decide) rfl ?_
  refine q_iconst (pc := 40) 0 rfl (by decide) ?_
  refine q_istore (pc := 41) (j := 6) [some (.ref r), some (.ref q), some (.int (nI a)), some (.int (nI b)), some (.int w), some (.int 0), some (.int 0), none] rfl (by decide) rfl ?_
  refine lp_X6_settleB (T := (tk S r q a w n)) (r := r) (q := q) (a := a) (b := b) (w := w) (F := (rndS r n 33 (cfS (tk S r q a w n) r n))) (by decide) hs hn tk_sz hsp (fun x y => ?_) 33 0 _ rfl sameSp_cf rfl
  refine q_fconst0 (pc := 83) rfl ?_
  refine q_fstore (pc := 84) (j := 6) [some (.ref r), some (.ref q), some (.int (nI a)), some (.int (nI b)), some (.int w), some (.int x), some (.float FP.fconst0), none] rfl (by decide) rfl ?_
  refine q_iconst (pc := 86) 0 rfl (by decide) ?_
  refine q_istore (pc := 87) (j := 7) [some (.ref r), some (.ref q), some (.int (nI a)), some (.int (nI b)), some (.int w), some (.int x), some (.float FP.fconst0), some (.int 0)] rfl (by decide) rfl ?_
  refine q_S ln_0.symm (lp_X6_settleC (T := (rndS r n 33 (cfS (tk S r q a w n) r n))) (r := r) (q := q) (a := a) (b := b) (w := w) (by decide) hs hn ((rnd_same 33 _).2.2.2.2.trans (cf_sz.trans tk_sz)) (rnd_okW 32 _ (hsp.mono sameSp_cf)) hlen (fun y => ?_) n 0 (Nat.zero_add n))
  exact q_vret (pc := 168) rfl rfl ⟨rfl, rfl⟩
def cntH (h : Nat → Bool) : Nat → Nat
  | 0 => 0
  | k + 1 => if h k = true then cntH h k + 1 else cntH h k
theorem cntH_le (h : Nat → Bool) (k : Nat) : cntH h k ≤ k := by
  induction k with
  | zero => exact Nat.le_refl _
  | succ k ih => unfold cntH; split <;> omega
set_option maxRecDepth 100000 in
theorem lp_X6_heldCount {n0 : Nat} {X : Nat × (Nat → Int32)} {P : Option Value → PSt → Prop} {d : Nat} (hd9 : 1 ≤ d) {sh : List PSh} {S : PSt} {r n : Nat} (hs : isSt sh r) (hn : n ≤ 32) (hz : S.1 r 7 = nI n) (hex : pV mX6_heldCount d n0 X sh P 32 [some (.ref r), some (.int (nI (cntH (hd S r) n))), some (.int (nI n))] [] S) : ∀ (m k : Nat), k + m = n → pV mX6_heldCount d n0 X sh P 4 [some (.ref r), some (.int (nI (cntH (hd S r) k))), some (.int (nI k))] [] S := by
  intro m
  induction m with
  | zero =>
    intro k hk
    have hk : k = n := by omega
    subst hk
    refine q_iload_n (pc := 4) (j := 2) rfl rfl ?_
    refine q_aload_n (pc := 5) (j := 0) rfl rfl ?_
    refine q_get (pc := 6) (a := r) (v := .int (S.1 r 7)) rfl fl_X6_35 hs.1 rfl rfl ?_
    exact q_icmp_ge (pc := 9) 32 rfl (by decide) (fun _ => hex) (fun h9 => absurd (by rw [hz]; exact Int32.le_refl _) h9)
  | succ m ih =>
    intro k hk
    have hk1 : k < n := by omega
    refine q_iload_n (pc := 4) (j := 2) rfl rfl ?_
    refine q_aload_n (pc := 5) (j := 0) rfl rfl ?_
    refine q_get (pc := 6) (a := r) (v := .int (S.1 r 7)) rfl fl_X6_35 hs.1 rfl rfl ?_
    refine q_st (st2 := [.int (nI n), .int (nI k)]) (by rw [(show (S.1 r 7) = nI n from hz)]) ?_
    refine q_icmp_ge (pc := 9) 32 rfl (by decide) (fun h9 => absurd h9 (nI_ge hk1 (by omega))) (fun _ => ?_)
    refine q_aload_n (pc := 12) (j := 0) rfl rfl ?_
    refine q_get (pc := 13) (a := r) (v := .ref (r + 4)) rfl fl_X6_21 hs.1 rfl rfl ?_
    refine q_iload_n (pc := 16) (j := 2) rfl rfl ?_
    refine q_callS (pc := 17) (as := [.ref (r + 4), .int (nI k)]) (rest := []) (st2 := [.int (pB (decide (S.1 (r + 4) k ≠ 0)))]) rfl ce_X8_readFlag ml_X6_83 st_X8_readFlag rfl (by omega) (Nat.le_of_ble_eq_true rfl) (sp_readFlagN (k := k) hs.2.2.2.2.1 (by omega) (by decide)) rfl ?_
    refine q_if_eq (pc := 20) 26 rfl (by decide) (fun h20 => ?_) (fun h20 => ?_)
    · refine q_iinc (pc := 26) (j := 2) (n := 1) (nI (k + 1)) [some (.ref r), some (.int (nI (cntH (hd S r) k))), some (.int (nI (k + 1)))] rfl (by decide) rfl (nI_1 k) rfl ?_
      refine q_goto (pc := 29) 4 rfl (by decide) ?_
      exact q_L (by rw [cntH, if_neg (show ¬ hd S r k = true from fun q => (pB_ndec h20) (of_decide_eq_true q))]) (ih (k + 1) (by omega))
    · refine q_iinc (pc := 23) (j := 1) (n := 1) (nI (cntH (hd S r) k + 1)) [some (.ref r), some (.int (nI (cntH (hd S r) k + 1))), some (.int (nI k))] rfl (by decide) rfl (nI_1 (cntH (hd S r) k)) rfl ?_
      refine q_iinc (pc := 26) (j := 2) (n := 1) (nI (k + 1)) [some (.ref r), some (.int (nI (cntH (hd S r) k + 1))), some (.int (nI (k + 1)))] rfl (by decide) rfl (nI_1 k) rfl ?_
      refine q_goto (pc := 29) 4 rfl (by decide) ?_
      exact q_L (by rw [cntH, if_pos (show hd S r k = true from decide_eq_true (pB_dec h20))]) (ih (k + 1) (by omega))
set_option maxRecDepth 100000 in
theorem sp_X6_heldCount {sh : List PSh} {S : PSt} {r n : Nat} (hs : isSt sh r) (hn : n ≤ 32) (hz : S.1 r 7 = nI n)  : pF mX6_heldCount 1 [.ref r] sh S S (some (.int (nI (cntH (hd S r) n)))) := by
  refine pF.of (pG.of [some (.ref r), none, none] (by decide) tk_X6_heldCount (Nat.le_of_ble_eq_true rfl) rfl (fun X => ?_))
  refine q_iconst (pc := 0) 0 rfl (by decide) ?_
  refine q_istore_n (pc := 1) (j := 1) [some (.ref r), some (.int 0), none] rfl (by decide) rfl ?_
  refine q_iconst (pc := 2) 0 rfl (by decide) ?_
  refine q_istore_n (pc := 3) (j := 2) [some (.ref r), some (.int 0), some (.int 0)] rfl (by decide) rfl ?_
  refine lp_X6_heldCount (by decide) hs hn hz ?_ n 0 (Nat.zero_add n)
  refine q_iload_n (pc := 32) (j := 1) rfl rfl ?_
  exact q_iret (pc := 33) rfl rfl ⟨rfl, rfl⟩
set_option maxRecDepth 100000 in
theorem sp_X6_length {sh : List PSh} {S : PSt} {r a c : Nat} (hs : isSt sh r) (hf : S.1 r 6 = nI a) (hac : a ≤ c) (hc : c - a < 32)  : pF mX6_length 1 [.ref r, .int (nI c)] sh S S (some (.float (S.2.1 (r + 5) (c - a)))) := by
  refine pF.of (pG.of [some (.ref r), some (.int (nI c))] (by decide) tk_X6_length (Nat.le_of_ble_eq_true rfl) rfl (fun X => ?_))
  refine q_aload_n (pc := 0) (j := 0) rfl rfl ?_
  refine q_get (pc := 1) (a := r) (v := .ref (r + 5)) rfl fl_X6_25 hs.1 rfl rfl ?_
  refine q_iload_n (pc := 4) (j := 1) rfl rfl ?_
  refine q_aload_n (pc := 5) (j := 0) rfl rfl ?_
  refine q_get (pc := 6) (a := r) (v := .int (S.1 r 6)) rfl fl_X6_31 hs.1 rfl rfl ?_
  refine q_isub (pc := 9) rfl ?_
  refine q_st (st2 := [.int (nI (c - a)), .ref (r + 5)]) (by rw [(show ((nI c) - (S.1 r 6)) = nI (c - a) from by rw [hf]; exact pk_sub hac)]) ?_
  refine q_callS (pc := 10) (as := [.ref (r + 5), .int (nI (c - a))]) (rest := []) (st2 := [.float (S.2.1 (r + 5) (c - a))]) rfl ce_X8_readFloat ml_X6_87 st_X8_readFloat rfl (by decide) (Nat.le_of_ble_eq_true rfl) (sp_readFloatN (k := (c - a)) hs.2.2.2.2.2.1 (by omega) (by decide)) rfl ?_
  exact q_fret (pc := 13) rfl rfl ⟨rfl, rfl⟩
set_option maxRecDepth 100000 in
theorem sp_X6_place {sh : List PSh} {S : PSt} {r a c : Nat} (hs : isSt sh r) (hf : S.1 r 6 = nI a) (hac : a ≤ c) (hc : c - a < 32)  : pF mX6_place 1 [.ref r, .int (nI c)] sh S S (some (.float (S.2.1 (r + 6) (c - a)))) := by
  refine pF.of (pG.of [some (.ref r), some (.int (nI c))] (by decide) tk_X6_place (Nat.le_of_ble_eq_true rfl) rfl (fun X => ?_))
  refine q_aload_n (pc := 0) (j := 0) rfl rfl ?_
  refine q_get (pc := 1) (a := r) (v := .ref (r + 6)) rfl fl_X6_28 hs.1 rfl rfl ?_
  refine q_iload_n (pc := 4) (j := 1) rfl rfl ?_
  refine q_aload_n (pc := 5) (j := 0) rfl rfl ?_
  refine q_get (pc := 6) (a := r) (v := .int (S.1 r 6)) rfl fl_X6_31 hs.1 rfl rfl ?_
  refine q_isub (pc := 9) rfl ?_
  refine q_st (st2 := [.int (nI (c - a)), .ref (r + 6)]) (by rw [(show ((nI c) - (S.1 r 6)) = nI (c - a) from by rw [hf]; exact pk_sub hac)]) ?_
  refine q_callS (pc := 10) (as := [.ref (r + 6), .int (nI (c - a))]) (rest := []) (st2 := [.float (S.2.1 (r + 6) (c - a))]) rfl ce_X8_readFloat ml_X6_87 st_X8_readFloat rfl (by decide) (Nat.le_of_ble_eq_true rfl) (sp_readFloatN (k := (c - a)) hs.2.2.2.2.2.2 (by omega) (by decide)) rfl ?_
  exact q_fret (pc := 13) rfl rfl ⟨rfl, rfl⟩
set_option maxRecDepth 100000 in
theorem sp_X6_cell {sh : List PSh} {S : PSt} {r a c : Nat} (hs : isSt sh r) (hf : S.1 r 6 = nI a) (hac : a ≤ c) (hc : c - a < 32)  : pF mX6_cell 2 [.ref r, .int (nI c)] sh S S (some (.int (FP.f2i (S.2.1 (r + 6) (c - a))))) := by
  refine pF.of (pG.of [some (.ref r), some (.int (nI c))] (by decide) tk_X6_cell (Nat.le_of_ble_eq_true rfl) rfl (fun X => ?_))
  refine q_aload_n (pc := 0) (j := 0) rfl rfl ?_
  refine q_iload_n (pc := 1) (j := 1) rfl rfl ?_
  refine q_callV (pc := 2) (as := [.int (nI c)]) (rest := []) (b := r) (st2 := [.float (S.2.1 (r + 6) (c - a))]) rfl ce_X6_place ml_X6_94 im_X6_place se_X6_place hs.1 rfl rfl rfl (by decide) (Nat.le_of_ble_eq_true rfl) (sp_X6_place (a := a) (c := c) hs hf (by omega) (by omega)) rfl ?_
  refine q_f2i (pc := 5) rfl ?_
  exact q_iret (pc := 6) rfl rfl ⟨rfl, rfl⟩
def fitB (W : UInt32) (rods : Nat → UInt32) (n : Nat) : Bool := !decide (0 < Op.cmpValue (FP.fcmp (sumF rods n) W) .g)
def qF (W : UInt32) (ids fls : Nat → UInt32) (n : Nat) : UInt32 := if fgt (sumF fls n) FP.fconst0 then FP.fdiv (FP.fsub W (sumF ids n)) (sumF fls n) else FP.fconst0
def badF (q : UInt32) : UInt32 := if flt q FP.fconst0 then FP.fmul (FP.fmul (FP.fmul 1120403456 q) q) FP.fconst2 else FP.fmul (FP.fmul 1120403456 q) q
def okSum (f : Nat → UInt32) (n : Nat) : Prop := ∀ k, k < n → vf_n32 (FP.fadd (sumF f k) (f k))
def okBad (W : UInt32) (ids fls : Nat → UInt32) (n : Nat) : Prop := okSum ids n ∧ okSum fls n ∧ vf_n32 (FP.fsub W (sumF ids n)) ∧ (fgt (sumF fls n) FP.fconst0 = true → vf_n32 (FP.fdiv (FP.fsub W (sumF ids n)) (sumF fls n))) ∧ vf_n32 (FP.fmul 1120403456 (qF W ids fls n)) ∧ vf_n32 (FP.fmul (FP.fmul 1120403456 (qF W ids fls n)) (qF W ids fls n)) ∧ vf_n32 (FP.fmul (FP.fmul (FP.fmul 1120403456 (qF W ids fls n)) (qF W ids fls n)) FP.fconst2)
set_option maxRecDepth 100000 in
theorem sp_X6_fits {sh : List PSh} {S : PSt} {r n : Nat} (hs : isSt sh r) (hn : n ≤ 32) (hz : S.1 r 7 = nI n) (hok : okSum (S.2.1 (r + 3)) n) : pF mX6_fits 2 [.ref r] sh S S (some (.int (pB (fitB (S.2.1 r 8) (S.2.1 (r + 3)) n)))) := by
  refine pF.of (pG.of [some (.ref r)] (by decide) tk_X6_fits (Nat.le_of_ble_eq_true rfl) rfl (fun X => ?_))
  refine q_aload_n (pc := 0) (j := 0) rfl rfl ?_
  refine q_aload_n (pc := 1) (j := 0) rfl rfl ?_
  refine q_get (pc := 2) (a := r) (v := .ref (r + 3)) rfl fl_X6_18 hs.1 rfl rfl ?_
  refine q_callV (pc := 5) (as := [.ref (r + 3)]) (rest := []) (b := r) (st2 := [.float (sumF (S.2.1 (r + 3)) n)]) rfl ce_X6_sum ml_X6_62 im_X6_sum se_X6_sum hs.1 rfl rfl rfl (by decide) (Nat.le_of_ble_eq_true rfl) (sp_X6_sum (n := n) hs hn hz hs.2.2.2.1 hok) rfl ?_
  refine q_aload_n (pc := 8) (j := 0) rfl rfl ?_
  refine q_get (pc := 9) (a := r) (v := .float (S.2.1 r 8)) rfl fl_X6_38 hs.1 rfl rfl ?_
  refine q_fcmp (pc := 12) (op := .g) rfl ?_
  refine q_if_gt (pc := 13) 20 rfl (by decide) (fun h13 => ?_) (fun h13 => ?_)
  · refine q_iconst (pc := 20) 0 rfl (by decide) ?_
    exact q_zret (pc := 21) rfl rfl rfl ⟨congrArg (fun v => some (Value.int v)) (by first | (rw [fitB, decide_eq_true h13]; rfl) | (rw [fitB, decide_eq_false h13]; rfl)), rfl⟩
  · refine q_iconst (pc := 16) 1 rfl (by decide) ?_
    refine q_goto (pc := 17) 21 rfl (by decide) ?_
    exact q_zret (pc := 21) rfl rfl rfl ⟨congrArg (fun v => some (Value.int v)) (by first | (rw [fitB, decide_eq_true h13]; rfl) | (rw [fitB, decide_eq_false h13]; rfl)), rfl⟩
set_option maxRecDepth 100000 in
theorem sp_X6_badness {sh : List PSh} {S : PSt} {r n : Nat} (hs : isSt sh r) (hn : n ≤ 32) (hz : S.1 r 7 = nI n) (hok : okBad (S.2.1 r 8) (S.2.1 (r + 1)) (S.2.1 (r + 2)) n) : pF mX6_badness 2 [.ref r] sh S S (some (.float (badF (qF (S.2.1 r 8) (S.2.1 (r + 1)) (S.2.1 (r + 2)) n)))) := by
  refine pF.of (pG.of [some (.ref r), none, none, none] (by decide) tk_X6_badness (Nat.le_of_ble_eq_true rfl) rfl (fun X => ?_))
  refine q_aload_n (pc := 0) (j := 0) rfl rfl ?_
  refine q_aload_n (pc := 1) (j := 0) rfl rfl ?_
  refine q_get (pc := 2) (a := r) (v := .ref (r + 2)) rfl fl_X6_15 hs.1 rfl rfl ?_
  refine q_callV (pc := 5) (as := [.ref (r + 2)]) (rest := []) (b := r) (st2 := [.float (sumF (S.2.1 (r + 2)) n)]) rfl ce_X6_sum ml_X6_62 im_X6_sum se_X6_sum hs.1 rfl rfl rfl (by decide) (Nat.le_of_ble_eq_true rfl) (sp_X6_sum (n := n) hs hn hz hs.2.2.1 hok.2.1) rfl ?_
  refine q_fstore_n (pc := 8) (j := 1) [some (.ref r), some (.float (sumF (S.2.1 (r + 2)) n)), none, none] rfl (by decide) rfl ?_
  refine q_fload_n (pc := 9) (j := 1) rfl rfl ?_
  refine q_fconst0 (pc := 10) rfl ?_
  refine q_fcmp (pc := 11) (op := .l) rfl ?_
  refine q_join 34 [some (.ref r), some (.float (sumF (S.2.1 (r + 2)) n)), none, none] [.float (qF (S.2.1 r 8) (S.2.1 (r + 1)) (S.2.1 (r + 2)) n)] S ?_ (fun key12 => ?_)
  · refine q_fstore_n (pc := 34) (j := 2) [some (.ref r), some (.float (sumF (S.2.1 (r + 2)) n)), some (.float (qF (S.2.1 r 8) (S.2.1 (r + 1)) (S.2.1 (r + 2)) n)), none] rfl (by decide) rfl ?_
    refine q_ldcf (pc := 35) (v := 1120403456) rfl kc_X6_66 ?_
    refine q_fload_n (pc := 37) (j := 2) rfl rfl ?_
    refine q_fmul (pc := 38) rfl hok.2.2.2.2.1 ?_
    refine q_fload_n (pc := 39) (j := 2) rfl rfl ?_
    refine q_fmul (pc := 40) rfl hok.2.2.2.2.2.1 ?_
    refine q_fstore_n (pc := 41) (j := 3) [some (.ref r), some (.float (sumF (S.2.1 (r + 2)) n)), some (.float (qF (S.2.1 r 8) (S.2.1 (r + 1)) (S.2.1 (r + 2)) n)), some (.float (FP.fmul (FP.fmul 1120403456 (qF (S.2.1 r 8) (S.2.1 (r + 1)) (S.2.1 (r + 2)) n)) (qF (S.2.1 r 8) (S.2.1 (r + 1)) (S.2.1 (r + 2)) n)))] rfl (by decide) rfl ?_
    refine q_fload_n (pc := 42) (j := 2) rfl rfl ?_
    refine q_fconst0 (pc := 43) rfl ?_
    refine q_fcmp (pc := 44) (op := .g) rfl ?_
    refine q_if_ge (pc := 45) 54 rfl (by decide) (fun h45 => ?_) (fun h45 => ?_)
    · refine q_fload_n (pc := 54) (j := 3) rfl rfl ?_
      exact q_fret (pc := 55) rfl rfl ⟨congrArg (fun v => some (Value.float v)) (by first | (rw [badF, if_neg (show ¬ flt _ FP.fconst0 = true from fun q => absurd (of_decide_eq_true q) (Int32.not_lt.mpr h45))]) | (rw [badF, if_pos (show flt _ FP.fconst0 = true from decide_eq_true (Int32.not_le.mp h45))])), rfl⟩
    · refine q_fload_n (pc := 48) (j := 3) rfl rfl ?_
      refine q_fconst2 (pc := 49) rfl ?_
      refine q_fmul (pc := 50) rfl hok.2.2.2.2.2.2 ?_
      refine q_goto (pc := 51) 55 rfl (by decide) ?_
      exact q_fret (pc := 55) rfl rfl ⟨congrArg (fun v => some (Value.float v)) (by first | (rw [badF, if_neg (show ¬ flt _ FP.fconst0 = true from fun q => absurd (of_decide_eq_true q) (Int32.not_lt.mpr h45))]) | (rw [badF, if_pos (show flt _ FP.fconst0 = true from decide_eq_true (Int32.not_le.mp h45))])), rfl⟩
  · refine q_if_le (pc := 12) 33 rfl (by decide) (fun h12 => ?_) (fun h12 => ?_)
    · refine q_fconst0 (pc := 33) rfl ?_
      exact q_st (by rw [qF, if_neg (show ¬ fgt _ FP.fconst0 = true from fun q => absurd (of_decide_eq_true q) (Int32.not_lt.mpr h12))]) key12
    · refine q_aload_n (pc := 15) (j := 0) rfl rfl ?_
      refine q_get (pc := 16) (a := r) (v := .float (S.2.1 r 8)) rfl fl_X6_38 hs.1 rfl rfl ?_
      refine q_aload_n (pc := 19) (j := 0) rfl rfl ?_
      refine q_aload_n (pc := 20) (j := 0) rfl rfl ?_
      refine q_get (pc := 21) (a := r) (v := .ref (r + 1)) rfl fl_X6_9 hs.1 rfl rfl ?_
      refine q_callV (pc := 24) (as := [.ref (r + 1)]) (rest := [.float (S.2.1 r 8)]) (b := r) (st2 := [.float (sumF (S.2.1 (r + 1)) n), .float (S.2.1 r 8)]) rfl ce_X6_sum ml_X6_62 im_X6_sum se_X6_sum hs.1 rfl rfl rfl (by decide) (Nat.le_of_ble_eq_true rfl) (sp_X6_sum (n := n) hs hn hz hs.2.1 hok.1) rfl ?_
      refine q_fsub (pc := 27) rfl hok.2.2.1 ?_
      refine q_fload_n (pc := 28) (j := 1) rfl rfl ?_
      refine q_fdiv (pc := 29) rfl (hok.2.2.2.1 (decide_eq_true (Int32.not_le.mp h12))) ?_
      refine q_goto (pc := 30) 34 rfl (by decide) ?_
      exact q_st (by rw [qF, if_pos (show fgt _ FP.fconst0 = true from decide_eq_true (Int32.not_le.mp h12))]) key12
