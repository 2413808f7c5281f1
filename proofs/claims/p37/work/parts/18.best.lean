/-! Best: written by wip/whole/gen/c18.py -/
def isBe (sh : List PSh) (r : Nat) : Prop := sh[r]? = some (.inr (0, [r + 1 + 3, r + 2 + 3, r + 3 + 3, r + 4 + 3, 0, 0, 1])) ∧ sh[r + 1]? = some (.inl (0, 33)) ∧ sh[r + 2]? = some (.inl (1, 33)) ∧ sh[r + 3]? = some (.inl (0, 33)) ∧ isSt sh (r + 4)
def fitT (T : PSt) (r m : Nat) : Bool := fitB (T.2.1 (r + 4) 8) (T.2.1 (r + 4 + 3)) m
def badT (T : PSt) (r m : Nat) : UInt32 := badF (qF (T.2.1 (r + 4) 8) (T.2.1 (r + 4 + 1)) (T.2.1 (r + 4 + 2)) m)
def totT (T : PSt) (r k m : Nat) : UInt32 := FP.fadd (T.2.1 (r + 2) k) (badT T r m)
/-- from the place k one comes to the place p, or not -/
def rst (S1 : PSt) (r q : Nat) (w : Int32) (p k : Nat) : PSt :=
  if S1.1 (r + 1) k = -1 then S1
  else if fitT (tk S1 (r + 4) q k w (p - k)) r (p - k) = true then
    (if (tk S1 (r + 4) q k w (p - k)).1 (r + 1) p = -1 ∨ flt (totT (tk S1 (r + 4) q k w (p - k)) r k (p - k)) ((tk S1 (r + 4) q k w (p - k)).2.1 (r + 2) p) = true then pSF (pSI (tk S1 (r + 4) q k w (p - k)) (r + 1) p (nI k)) (r + 2) p (totT (tk S1 (r + 4) q k w (p - k)) r k (p - k)) else tk S1 (r + 4) q k w (p - k))
  else tk S1 (r + 4) q k w (p - k)
def rchS (S : PSt) (r q : Nat) (w : Int32) (p : Nat) : Nat → PSt
  | 0 => S
  | k + 1 => rst (rchS S r q w p k) r q w p k
theorem rst_I {S1 : PSt} {r q : Nat} {w : Int32} {p k x : Nat} (h1 : x ≠ r + 1) (h2 : x ≠ r + 4) : (rst S1 r q w p k).1 x = S1.1 x := by
  have e : (tk S1 (r + 4) q k w (p - k)).1 x = S1.1 x := by funext j; simp [tk, h2]
  unfold rst
  split
  · rfl
  · split
    · split
      · funext j; show (pU _ _ _ _) x j = _; unfold pU; rw [if_neg (fun q => h1 q.1), e]
      · exact e
    · exact e
theorem rch_I {S : PSt} {r q : Nat} {w : Int32} {p x : Nat} (h1 : x ≠ r + 1) (h2 : x ≠ r + 4) (k : Nat) : (rchS S r q w p k).1 x = S.1 x := by
  induction k with
  | zero => rfl
  | succ k ih => exact (rst_I h1 h2).trans ih
/-- no NaN on the way from the place k to p -/
def okR (S1 : PSt) (r q : Nat) (w : Int32) (p k : Nat) : Prop := S1.1 (r + 1) k ≠ -1 →
  okSum ((tk S1 (r + 4) q k w (p - k)).2.1 (r + 4 + 3)) (p - k) ∧ (fitT (tk S1 (r + 4) q k w (p - k)) r (p - k) = true → okBad ((tk S1 (r + 4) q k w (p - k)).2.1 (r + 4) 8) ((tk S1 (r + 4) q k w (p - k)).2.1 (r + 4 + 1)) ((tk S1 (r + 4) q k w (p - k)).2.1 (r + 4 + 2)) (p - k) ∧ vf_n32 (totT (tk S1 (r + 4) q k w (p - k)) r k (p - k)))

set_option maxRecDepth 100000 in
theorem lp_X0_reach {n0 : Nat} {X : Nat × (Nat → Int32)} {P : Option Value → PSt → Prop} {d : Nat} (hd9 : 3 ≤ d) {sh : List PSh} {S : PSt} {r q p : Nat} {w : Int32} (hs : isBe sh r) (hq : isSg sh q) (hqr : q + 2 ≤ r ∨ r + 11 ≤ q) (hp : p ≤ 32) (hp0 : 0 < p) (hdur : ∀ i, i < p → ¬ S.1 (q + 1) (5 * i + 0) = 2 → isDur (S.1 (q + 1) (5 * i + 1))) (hok : ∀ k, k < p → okR (rchS S r q w p k) r q w p k) (hex : ∀ f, pV mX0_reach d n0 X sh P 123 [some (.ref r), some (.int (nI p)), some (.ref q), some (.int w), some (.int (nI p)), f] [] (rchS S r q w p p)) : ∀ (m k : Nat) (f : Option Value), k + m = p → pV mX0_reach d n0 X sh P 3 [some (.ref r), some (.int (nI p)), some (.ref q), some (.int w), some (.int (nI k)), f] [] (rchS S r q w p k) := by
  intro m
  induction m with
  | zero =>
    intro k f hk
    have hk : k = p := by omega
    subst hk
    refine q_iload (pc := 3) (j := 4) rfl rfl ?_
    refine q_iload_n (pc := 5) (j := 1) rfl rfl ?_
    exact q_icmp_ge (pc := 6) 123 rfl (by decide) (fun _ => hex _) (fun h9 => absurd (Int32.le_refl _) h9)
  | succ m ih =>
    intro k f hk
    have hk1 : k < p := by omega
    refine q_iload (pc := 3) (j := 4) rfl rfl ?_
    refine q_iload_n (pc := 5) (j := 1) rfl rfl ?_
    refine q_icmp_ge (pc := 6) 123 rfl (by decide) (fun h9 => absurd h9 (nI_ge hk1 (by omega))) (fun _ => ?_)
    refine q_aload_n (pc := 9) (j := 0) rfl rfl ?_
    refine q_get (pc := 10) (a := r) (v := .ref (r + 1)) rfl fl_X0_9 hs.1 rfl rfl ?_
    refine q_iload (pc := 13) (j := 4) rfl rfl ?_
    refine q_callS (pc := 15) (as := [.ref (r + 1), .int (nI k)]) (rest := []) (st2 := [.int ((rchS S r q w p k).1 (r + 1) k)]) rfl ce_X8_readInt ml_X0_59 st_X8_readInt rfl (by omega) (Nat.le_of_ble_eq_true rfl) (sp_readIntN (k := k) hs.2.1 (by omega) (by decide)) rfl ?_
    refine q_iconst (pc := 18) (-1) rfl (by decide) ?_
    refine q_icmp_ne (pc := 19) 25 rfl (by decide) (fun h19 => ?_) (fun h19 => ?_)
    · refine q_aload_n (pc := 25) (j := 0) rfl rfl ?_
      refine q_get (pc := 26) (a := r) (v := .ref (r + 4)) rfl fl_X0_25 hs.1 rfl rfl ?_
      refine q_aload_n (pc := 29) (j := 2) rfl rfl ?_
      refine q_iload (pc := 30) (j := 4) rfl rfl ?_
      refine q_iload_n (pc := 32) (j := 1) rfl rfl ?_
      refine q_iconst (pc := 33) 1 rfl (by decide) ?_
      refine q_isub (pc := 34) rfl ?_
      refine q_st (st2 := [.int (nI (p - 1)), .int (nI k), .ref q, .ref (r + 4)]) (by rw [(show nI p - 1 = nI (p - 1) from pk_sub (b := 1) hp0)]) ?_
      refine q_iload_n (pc := 35) (j := 3) rfl rfl ?_
      refine q_callV (pc := 36) (as := [.ref q, .int (nI k), .int (nI (p - 1)), .int w]) (rest := []) (b := (r + 4)) (st2 := []) rfl ce_X6_take ml_X0_71 im_X6_take se_X6_take hs.2.2.2.2.1 rfl rfl rfl (by omega) (Nat.le_of_ble_eq_true rfl) (sp_X6_take (S := (rchS S r q w p k)) (n := p - k) (a := k) (b := p - 1) hs.2.2.2.2 hq (by omega) (by omega) (by omega) (by omega) (fun i _ h2 => by rw [rch_I (by omega) (by omega)]; exact hdur i (by omega))) rfl ?_
      refine q_aload_n (pc := 39) (j := 0) rfl rfl ?_
      refine q_get (pc := 40) (a := r) (v := .ref (r + 4)) rfl fl_X0_25 hs.1 rfl rfl ?_
      refine q_callV (pc := 43) (as := []) (rest := []) (b := (r + 4)) (st2 := [.int (pB (fitT (tk (rchS S r q w p k) (r + 4) q k w (p - k)) r (p - k)))]) rfl ce_X6_fits ml_X0_75 im_X6_fits se_X6_fits hs.2.2.2.2.1 rfl rfl rfl (by omega) (Nat.le_of_ble_eq_true rfl) (sp_X6_fits (S := (tk (rchS S r q w p k) (r + 4) q k w (p - k))) (n := p - k) hs.2.2.2.2 (by omega) (tk_sz (S := (rchS S r q w p k)) (r := r + 4) (q := q) (a := k) (w := w) (k := p - k)) (hok k hk1 h19).1) rfl ?_
      refine q_if_ne (pc := 46) 52 rfl (by decide) (fun h46 => ?_) (fun h46 => ?_)
      · refine q_aload_n (pc := 52) (j := 0) rfl rfl ?_
        refine q_get (pc := 53) (a := r) (v := .ref (r + 2)) rfl fl_X0_15 hs.1 rfl rfl ?_
        refine q_iload (pc := 56) (j := 4) rfl rfl ?_
        refine q_callS (pc := 58) (as := [.ref (r + 2), .int (nI k)]) (rest := []) (st2 := [.float ((tk (rchS S r q w p k) (r + 4) q k w (p - k)).2.1 (r + 2) k)]) rfl ce_X8_readFloat ml_X0_63 st_X8_readFloat rfl (by omega) (Nat.le_of_ble_eq_true rfl) (sp_readFloatN (k := k) hs.2.2.1 (by omega) (by decide)) rfl ?_
        refine q_aload_n (pc := 61) (j := 0) rfl rfl ?_
        refine q_get (pc := 62) (a := r) (v := .ref (r + 4)) rfl fl_X0_25 hs.1 rfl rfl ?_
        refine q_callV (pc := 65) (as := []) (rest := [.float ((tk (rchS S r q w p k) (r + 4) q k w (p - k)).2.1 (r + 2) k)]) (b := (r + 4)) (st2 := [.float (badT (tk (rchS S r q w p k) (r + 4) q k w (p - k)) r (p - k)), .float ((tk (rchS S r q w p k) (r + 4) q k w (p - k)).2.1 (r + 2) k)]) rfl ce_X6_badness ml_X0_79 im_X6_badness se_X6_badness hs.2.2.2.2.1 rfl rfl rfl (by omega) (Nat.le_of_ble_eq_true rfl) (sp_X6_badness (S := (tk (rchS S r q w p k) (r + 4) q k w (p - k))) (n := p - k) hs.2.2.2.2 (by omega) (tk_sz (S := (rchS S r q w p k)) (r := r + 4) (q := q) (a := k) (w := w) (k := p - k)) ((hok k hk1 h19).2 (pB_t h46)).1) rfl ?_
        refine q_fadd (pc := 68) rfl ((hok k hk1 h19).2 (pB_t h46)).2 ?_
        refine q_st (st2 := [.float (totT (tk (rchS S r q w p k) (r + 4) q k w (p - k)) r k (p - k))]) (by rw [(show FP.fadd ((tk (rchS S r q w p k) (r + 4) q k w (p - k)).2.1 (r + 2) k) (badT (tk (rchS S r q w p k) (r + 4) q k w (p - k)) r (p - k)) = (totT (tk (rchS S r q w p k) (r + 4) q k w (p - k)) r k (p - k)) from rfl)]) ?_
        refine q_fstore (pc := 69) (j := 5) [some (.ref r), some (.int (nI p)), some (.ref q), some (.int w), some (.int (nI k)), some (.float (totT (tk (rchS S r q w p k) (r + 4) q k w (p - k)) r k (p - k)))] rfl (by decide) rfl ?_
        refine q_aload_n (pc := 71) (j := 0) rfl rfl ?_
        refine q_get (pc := 72) (a := r) (v := .ref (r + 1)) rfl fl_X0_9 hs.1 rfl rfl ?_
        refine q_iload_n (pc := 75) (j := 1) rfl rfl ?_
        refine q_callS (pc := 76) (as := [.ref (r + 1), .int (nI p)]) (rest := []) (st2 := [.int ((tk (rchS S r q w p k) (r + 4) q k w (p - k)).1 (r + 1) p)]) rfl ce_X8_readInt ml_X0_59 st_X8_readInt rfl (by omega) (Nat.le_of_ble_eq_true rfl) (sp_readIntN (k := p) hs.2.1 (by omega) (by decide)) rfl ?_
        refine q_iconst (pc := 79) (-1) rfl (by decide) ?_
        refine q_icmp_eq (pc := 80) 97 rfl (by decide) (fun h80 => ?_) (fun h80 => ?_)
        · refine q_aload_n (pc := 97) (j := 0) rfl rfl ?_
          refine q_get (pc := 98) (a := r) (v := .ref (r + 1)) rfl fl_X0_9 hs.1 rfl rfl ?_
          refine q_iload_n (pc := 101) (j := 1) rfl rfl ?_
          refine q_iload (pc := 102) (j := 4) rfl rfl ?_
          refine q_callS (pc := 104) (as := [.ref (r + 1), .int (nI p), .int (nI k)]) (rest := []) (st2 := []) rfl ce_X8_writeInt ml_X0_41 st_X8_writeInt rfl (by omega) (Nat.le_of_ble_eq_true rfl) (sp_writeIntN (k := p) hs.2.1 (by omega) (by decide)) rfl ?_
          refine q_aload_n (pc := 107) (j := 0) rfl rfl ?_
          refine q_get (pc := 108) (a := r) (v := .ref (r + 2)) rfl fl_X0_15 hs.1 rfl rfl ?_
          refine q_iload_n (pc := 111) (j := 1) rfl rfl ?_
          refine q_fload (pc := 112) (j := 5) rfl rfl ?_
          refine q_callS (pc := 114) (as := [.ref (r + 2), .int (nI p), .float (totT (tk (rchS S r q w p k) (r + 4) q k w (p - k)) r k (p - k))]) (rest := []) (st2 := []) rfl ce_X8_writeFloat ml_X0_45 st_X8_writeFloat rfl (by omega) (Nat.le_of_ble_eq_true rfl) (sp_writeFloatN (k := p) hs.2.2.1 (by omega) (by decide)) rfl ?_
          refine q_iinc (pc := 117) (j := 4) (n := 1) (nI (k + 1)) [some (.ref r), some (.int (nI p)), some (.ref q), some (.int w), some (.int (nI (k + 1))), some (.float (totT (tk (rchS S r q w p k) (r + 4) q k w (p - k)) r k (p - k)))] rfl (by decide) rfl (nI_1 k) rfl ?_
          refine q_goto (pc := 120) 3 rfl (by decide) ?_
          exact q_S (show rst (rchS S r q w p k) r q w p k = (pSF (pSI (tk (rchS S r q w p k) (r + 4) q k w (p - k)) (r + 1) p (nI k)) (r + 2) p (totT (tk (rchS S r q w p k) (r + 4) q k w (p - k)) r k (p - k))) from by unfold rst; rw [if_neg h19, if_pos (pB_t h46), if_pos (Or.inl h80)]).symm (ih (k + 1) _ (by omega))
        · refine q_fload (pc := 83) (j := 5) rfl rfl ?_
          refine q_aload_n (pc := 85) (j := 0) rfl rfl ?_
          refine q_get (pc := 86) (a := r) (v := .ref (r + 2)) rfl fl_X0_15 hs.1 rfl rfl ?_
          refine q_iload_n (pc := 89) (j := 1) rfl rfl ?_
          refine q_callS (pc := 90) (as := [.ref (r + 2), .int (nI p)]) (rest := [.float (totT (tk (rchS S r q w p k) (r + 4) q k w (p - k)) r k (p - k))]) (st2 := [.float ((tk (rchS S r q w p k) (r + 4) q k w (p - k)).2.1 (r + 2) p), .float (totT (tk (rchS S r q w p k) (r + 4) q k w (p - k)) r k (p - k))]) rfl ce_X8_readFloat ml_X0_63 st_X8_readFloat rfl (by omega) (Nat.le_of_ble_eq_true rfl) (sp_readFloatN (k := p) hs.2.2.1 (by omega) (by decide)) rfl ?_
          refine q_fcmp (pc := 93) (op := .g) rfl ?_
          refine q_if_ge (pc := 94) 117 rfl (by decide) (fun h94 => ?_) (fun h94 => ?_)
          · refine q_iinc (pc := 117) (j := 4) (n := 1) (nI (k + 1)) [some (.ref r), some (.int (nI p)), some (.ref q), some (.int w), some (.int (nI (k + 1))), some (.float (totT (tk (rchS S r q w p k) (r + 4) q k w (p - k)) r k (p - k)))] rfl (by decide) rfl (nI_1 k) rfl ?_
            refine q_goto (pc := 120) 3 rfl (by decide) ?_
            exact q_S (show rst (rchS S r q w p k) r q w p k = (tk (rchS S r q w p k) (r + 4) q k w (p - k)) from by unfold rst; rw [if_neg h19, if_pos (pB_t h46), if_neg (fun q9 => q9.elim h80 (fun q9 => absurd (of_decide_eq_true q9) (Int32.not_lt.mpr h94)))]).symm (ih (k + 1) _ (by omega))
          · refine q_aload_n (pc := 97) (j := 0) rfl rfl ?_
            refine q_get (pc := 98) (a := r) (v := .ref (r + 1)) rfl fl_X0_9 hs.1 rfl rfl ?_
            refine q_iload_n (pc := 101) (j := 1) rfl rfl ?_
            refine q_iload (pc := 102) (j := 4) rfl rfl ?_
            refine q_callS (pc := 104) (as := [.ref (r + 1), .int (nI p), .int (nI k)]) (rest := []) (st2 := []) rfl ce_X8_writeInt ml_X0_41 st_X8_writeInt rfl (by omega) (Nat.le_of_ble_eq_true rfl) (sp_writeIntN (k := p) hs.2.1 (by omega) (by decide)) rfl ?_
            refine q_aload_n (pc := 107) (j := 0) rfl rfl ?_
            refine q_get (pc := 108) (a := r) (v := .ref (r + 2)) rfl fl_X0_15 hs.1 rfl rfl ?_
            refine q_iload_n (pc := 111) (j := 1) rfl rfl ?_
            refine q_fload (pc := 112) (j := 5) rfl rfl ?_
            refine q_callS (pc := 114) (as := [.ref (r + 2), .int (nI p), .float (totT (tk (rchS S r q w p k) (r + 4) q k w (p - k)) r k (p - k))]) (rest := []) (st2 := []) rfl ce_X8_writeFloat ml_X0_45 st_X8_writeFloat rfl (by omega) (Nat.le_of_ble_eq_true rfl) (sp_writeFloatN (k := p) hs.2.2.1 (by omega) (by decide)) rfl ?_
            refine q_iinc (pc := 117) (j := 4) (n := 1) (nI (k + 1)) [some (.ref r), some (.int (nI p)), some (.ref q), some (.int w), some (.int (nI (k + 1))), some (.float (totT (tk (rchS S r q w p k) (r + 4) q k w (p - k)) r k (p - k)))] rfl (by decide) rfl (nI_1 k) rfl ?_
            refine q_goto (pc := 120) 3 rfl (by decide) ?_
            exact q_S (show rst (rchS S r q w p k) r q w p k = (pSF (pSI (tk (rchS S r q w p k) (r + 4) q k w (p - k)) (r + 1) p (nI k)) (r + 2) p (totT (tk (rchS S r q w p k) (r + 4) q k w (p - k)) r k (p - k))) from by unfold rst; rw [if_neg h19, if_pos (pB_t h46), if_pos (Or.inr (show flt _ _ = true from decide_eq_true (Int32.not_le.mp h94)))]).symm (ih (k + 1) _ (by omega))
      · refine q_goto (pc := 49) 117 rfl (by decide) ?_
        refine q_iinc (pc := 117) (j := 4) (n := 1) (nI (k + 1)) [some (.ref r), some (.int (nI p)), some (.ref q), some (.int w), some (.int (nI (k + 1))), f] rfl (by decide) rfl (nI_1 k) rfl ?_
        refine q_goto (pc := 120) 3 rfl (by decide) ?_
        exact q_S (show rst (rchS S r q w p k) r q w p k = (tk (rchS S r q w p k) (r + 4) q k w (p - k)) from by unfold rst; rw [if_neg h19, if_neg (fun q9 => by rw [q9] at h46; exact absurd h46 (by decide))]).symm (ih (k + 1) _ (by omega))
    · refine q_goto (pc := 22) 117 rfl (by decide) ?_
      refine q_iinc (pc := 117) (j := 4) (n := 1) (nI (k + 1)) [some (.ref r), some (.int (nI p)), some (.ref q), some (.int w), some (.int (nI (k + 1))), f] rfl (by decide) rfl (nI_1 k) rfl ?_
      refine q_goto (pc := 120) 3 rfl (by decide) ?_
      exact q_S (show rst (rchS S r q w p k) r q w p k = (rchS S r q w p k) from by unfold rst; rw [if_pos h19]).symm (ih (k + 1) _ (by omega))
set_option maxRecDepth 100000 in
theorem sp_X0_reach {sh : List PSh} {S : PSt} {r q p : Nat} {w : Int32} (hs : isBe sh r) (hq : isSg sh q) (hqr : q + 2 ≤ r ∨ r + 11 ≤ q) (hp : p ≤ 32) (hp0 : 0 < p) (hdur : ∀ i, i < p → ¬ S.1 (q + 1) (5 * i + 0) = 2 → isDur (S.1 (q + 1) (5 * i + 1))) (hok : ∀ k, k < p → okR (rchS S r q w p k) r q w p k)  : pF mX0_reach 3 [.ref r, .int (nI p), .ref q, .int w] sh S (rchS S r q w p p) (none) := by
  refine pF.of (pG.of [some (.ref r), some (.int (nI p)), some (.ref q), some (.int w), none, none] (by decide) tk_X0_reach (Nat.le_of_ble_eq_true rfl) rfl (fun X => ?_))
  refine q_iconst (pc := 0) 0 rfl (by decide) ?_
  refine q_istore (pc := 1) (j := 4) [some (.ref r), some (.int (nI p)), some (.ref q), some (.int w), some (.int 0), none] rfl (by decide) rfl ?_
  refine lp_X0_reach (by decide) hs hq hqr hp hp0 hdur hok (fun f => ?_) p 0 _ (Nat.zero_add p)
  exact q_vret (pc := 123) rfl rfl ⟨rfl, rfl⟩
def isEndB (S : PSt) (q n k : Nat) : Bool := decide (k = n) || decide (S.1 (q + 1) (5 * (k - 1) + 0) = 2)
/-- the places 1 to k are done -/
def fdS (S : PSt) (r q n : Nat) (w : Int32) : Nat → PSt
  | 0 => pSF (pSI (pSI S r 5 0) (r + 1) 0 0) (r + 2) 0 FP.fconst0
  | k + 1 => if isEndB S q n (k + 1) = true then rchS (pSI (fdS S r q n w k) (r + 1) (k + 1) (-1)) r q w (k + 1) (k + 1) else pSI (fdS S r q n w k) (r + 1) (k + 1) (-1)
theorem fd_I {S : PSt} {r q n x : Nat} {w : Int32} (h0 : x ≠ r) (h1 : x ≠ r + 1) (h2 : x ≠ r + 4) (k : Nat) : (fdS S r q n w k).1 x = S.1 x := by
  induction k with
  | zero => funext j; simp [fdS, pSF, pSI, pU, h0, h1]
  | succ k ih =>
    have e : (pSI (fdS S r q n w k) (r + 1) (k + 1) (-1)).1 x = S.1 x := by rw [← ih]; funext j; simp [pSI, pU, h1]
    unfold fdS
    split
    · rw [rch_I h1 h2, e]
    · exact e
/-- behind the search: found or not, the total -/
def fd2 (S : PSt) (r q n : Nat) (w : Int32) : PSt := pSF (pSI (fdS S r q n w n) r 5 (pB (decide ((fdS S r q n w n).1 (r + 1) n ≠ -1)))) r 6 ((fdS S r q n w n).2.1 (r + 2) n)
set_option maxRecDepth 100000 in
theorem lp_X0_find {n0 : Nat} {X : Nat × (Nat → Int32)} {P : Option Value → PSt → Prop} {d : Nat} (hd9 : 4 ≤ d) {sh : List PSh} {S : PSt} {r q n : Nat} {w : Int32} (hs : isBe sh r) (hq : isSg sh q) (hqr : q + 2 ≤ r ∨ r + 11 ≤ q) (hn : n ≤ 32) (hdur : ∀ i, i < n → ¬ S.1 (q + 1) (5 * i + 0) = 2 → isDur (S.1 (q + 1) (5 * i + 1))) (hok : ∀ p k, p < n → k < p + 1 → isEndB S q n (p + 1) = true → okR (rchS (pSI (fdS S r q n w p) (r + 1) (p + 1) (-1)) r q w (p + 1) k) r q w (p + 1) k) (hex : pV mX0_find d n0 X sh P 80 [some (.ref r), some (.ref q), some (.int (nI n)), some (.int w), some (.int (nI (n + 1)))] [] (fdS S r q n w n)) : ∀ (m k : Nat), k + m = n → pV mX0_find d n0 X sh P 31 [some (.ref r), some (.ref q), some (.int (nI n)), some (.int w), some (.int (nI (k + 1)))] [] (fdS S r q n w k) := by
  intro m
  induction m with
  | zero =>
    intro k hk
    have hk : k = n := by omega
    subst hk
    refine q_iload (pc := 31) (j := 4) rfl rfl ?_
    refine q_iload_n (pc := 33) (j := 2) rfl rfl ?_
    exact q_icmp_gt (pc := 34) 80 rfl (by decide) (fun _ => hex) (fun h9 => absurd (nI_lt (by omega) (by omega)) h9)
  | succ m ih =>
    intro k hk
    have hk1 : k < n := by omega
    refine q_iload (pc := 31) (j := 4) rfl rfl ?_
    refine q_iload_n (pc := 33) (j := 2) rfl rfl ?_
    refine q_icmp_gt (pc := 34) 80 rfl (by decide) (fun h9 => absurd h9 (nI_nlt (by omega) (by omega))) (fun _ => ?_)
    refine q_aload_n (pc := 37) (j := 0) rfl rfl ?_
    refine q_get (pc := 38) (a := r) (v := .ref (r + 1)) rfl fl_X0_9 hs.1 rfl rfl ?_
    refine q_iload (pc := 41) (j := 4) rfl rfl ?_
    refine q_iconst (pc := 43) (-1) rfl (by decide) ?_
    refine q_callS (pc := 44) (as := [.ref (r + 1), .int (nI (k + 1)), .int (-1)]) (rest := []) (st2 := []) rfl ce_X8_writeInt ml_X0_41 st_X8_writeInt rfl (by omega) (Nat.le_of_ble_eq_true rfl) (sp_writeIntN (k := (k + 1)) hs.2.1 (by omega) (by decide)) rfl ?_
    refine q_iload (pc := 47) (j := 4) rfl rfl ?_
    refine q_iload_n (pc := 49) (j := 2) rfl rfl ?_
    refine q_icmp_eq (pc := 50) 66 rfl (by decide) (fun h50 => ?_) (fun h50 => ?_)
    · have hend : isEndB S q n (k + 1) = true := by first | (have h9 := (nI_eq (by omega) (by omega)).mp h50; simp [isEndB, h9]; done) | (rw [show (pSI (fdS S r q n w k) (r + 1) (k + 1) (-1)).1 (q + 1) = S.1 (q + 1) from (show _ = (fdS S r q n w k).1 (q + 1) from by funext j; simp [pSI, pU]; omega).trans (fd_I (by omega) (by omega) (by omega) k), show 5 * k + 0 = 5 * k from rfl] at h63; simp [isEndB]; exact Or.inr h63)
      refine q_aload_n (pc := 66) (j := 0) rfl rfl ?_
      refine q_iload (pc := 67) (j := 4) rfl rfl ?_
      refine q_aload_n (pc := 69) (j := 1) rfl rfl ?_
      refine q_iload_n (pc := 70) (j := 3) rfl rfl ?_
      refine q_callV (pc := 71) (as := [.int (nI (k + 1)), .ref q, .int w]) (rest := []) (b := r) (st2 := []) rfl ce_X0_reach ml_X0_55 im_X0_reach se_X0_reach hs.1 rfl rfl rfl (by omega) (Nat.le_of_ble_eq_true rfl) (sp_X0_reach (S := (pSI (fdS S r q n w k) (r + 1) (k + 1) (-1))) (p := k + 1) hs hq hqr (by omega) (by omega) (fun i hi => by rw [show (pSI (fdS S r q n w k) (r + 1) (k + 1) (-1)).1 (q + 1) = S.1 (q + 1) from (show _ = (fdS S r q n w k).1 (q + 1) from by funext j; simp [pSI, pU]; omega).trans (fd_I (by omega) (by omega) (by omega) k)]; exact hdur i (by omega)) (fun k9 h9 => hok k k9 hk1 h9 hend)) rfl ?_
      refine q_iinc (pc := 74) (j := 4) (n := 1) (nI (k + 1 + 1)) [some (.ref r), some (.ref q), some (.int (nI n)), some (.int w), some (.int (nI (k + 1 + 1)))] rfl (by decide) rfl (nI_1 (k + 1)) rfl ?_
      refine q_goto (pc := 77) 31 rfl (by decide) ?_
      exact q_S (show fdS S r q n w (k + 1) = (rchS (pSI (fdS S r q n w k) (r + 1) (k + 1) (-1)) r q w (k + 1) (k + 1)) from if_pos hend).symm (ih (k + 1) (by omega))
    · refine q_aload_n (pc := 53) (j := 1) rfl rfl ?_
      refine q_iload (pc := 54) (j := 4) rfl rfl ?_
      refine q_iconst (pc := 56) 1 rfl (by decide) ?_
      refine q_isub (pc := 57) rfl ?_
      refine q_st (st2 := [.int (nI k), .ref q]) (by rw [(show nI (k + 1) - 1 = nI k from pk_sub (a := k + 1) (b := 1) (by omega))]) ?_
      refine q_iconst (pc := 58) 0 rfl (by decide) ?_
      refine q_callV (pc := 59) (as := [.int (nI k), .int 0]) (rest := []) (b := q) (st2 := [.int ((pSI (fdS S r q n w k) (r + 1) (k + 1) (-1)).1 (q + 1) (5 * k + 0))]) rfl ce_X4_part ml_X0_49 im_X4_part se_X4_part hq.1 rfl rfl rfl (by omega) (Nat.le_of_ble_eq_true rfl) (sp_X4_part (c := k) (w := 0) hq (by omega) (by omega)) rfl ?_
      refine q_iconst (pc := 62) 2 rfl (by decide) ?_
      refine q_icmp_ne (pc := 63) 74 rfl (by decide) (fun h63 => ?_) (fun h63 => ?_)
      · have hnend : ¬ isEndB S q n (k + 1) = true := (by have h9 : ¬ k + 1 = n := fun q9 => h50 (by rw [q9]); rw [show (pSI (fdS S r q n w k) (r + 1) (k + 1) (-1)).1 (q + 1) = S.1 (q + 1) from (show _ = (fdS S r q n w k).1 (q + 1) from by funext j; simp [pSI, pU]; omega).trans (fd_I (by omega) (by omega) (by omega) k), show 5 * k + 0 = 5 * k from rfl] at h63; simp [isEndB, h9]; exact h63)
        refine q_iinc (pc := 74) (j := 4) (n := 1) (nI (k + 1 + 1)) [some (.ref r), some (.ref q), some (.int (nI n)), some (.int w), some (.int (nI (k + 1 + 1)))] rfl (by decide) rfl (nI_1 (k + 1)) rfl ?_
        refine q_goto (pc := 77) 31 rfl (by decide) ?_
        exact q_S (show fdS S r q n w (k + 1) = (pSI (fdS S r q n w k) (r + 1) (k + 1) (-1)) from if_neg hnend).symm (ih (k + 1) (by omega))
      · have hend : isEndB S q n (k + 1) = true := by first | (have h9 := (nI_eq (by omega) (by omega)).mp h50; simp [isEndB, h9]; done) | (rw [show (pSI (fdS S r q n w k) (r + 1) (k + 1) (-1)).1 (q + 1) = S.1 (q + 1) from (show _ = (fdS S r q n w k).1 (q + 1) from by funext j; simp [pSI, pU]; omega).trans (fd_I (by omega) (by omega) (by omega) k), show 5 * k + 0 = 5 * k from rfl] at h63; simp [isEndB]; exact Or.inr h63)
        refine q_aload_n (pc := 66) (j := 0) rfl rfl ?_
        refine q_iload (pc := 67) (j := 4) rfl rfl ?_
        refine q_aload_n (pc := 69) (j := 1) rfl rfl ?_
        refine q_iload_n (pc := 70) (j := 3) rfl rfl ?_
        refine q_callV (pc := 71) (as := [.int (nI (k + 1)), .ref q, .int w]) (rest := []) (b := r) (st2 := []) rfl ce_X0_reach ml_X0_55 im_X0_reach se_X0_reach hs.1 rfl rfl rfl (by omega) (Nat.le_of_ble_eq_true rfl) (sp_X0_reach (S := (pSI (fdS S r q n w k) (r + 1) (k + 1) (-1))) (p := k + 1) hs hq hqr (by omega) (by omega) (fun i hi => by rw [show (pSI (fdS S r q n w k) (r + 1) (k + 1) (-1)).1 (q + 1) = S.1 (q + 1) from (show _ = (fdS S r q n w k).1 (q + 1) from by funext j; simp [pSI, pU]; omega).trans (fd_I (by omega) (by omega) (by omega) k)]; exact hdur i (by omega)) (fun k9 h9 => hok k k9 hk1 h9 hend)) rfl ?_
        refine q_iinc (pc := 74) (j := 4) (n := 1) (nI (k + 1 + 1)) [some (.ref r), some (.ref q), some (.int (nI n)), some (.int w), some (.int (nI (k + 1 + 1)))] rfl (by decide) rfl (nI_1 (k + 1)) rfl ?_
        refine q_goto (pc := 77) 31 rfl (by decide) ?_
        exact q_S (show fdS S r q n w (k + 1) = (rchS (pSI (fdS S r q n w k) (r + 1) (k + 1) (-1)) r q w (k + 1) (k + 1)) from if_pos hend).symm (ih (k + 1) (by omega))
/-- L lines lead to the place p -/
def chN (S : PSt) (r : Nat) : Nat → Nat → Prop
  | 0, p => p = 0
  | L + 1, p => 0 < p ∧ ∃ f, f < p ∧ S.1 (r + 1) p = nI f ∧ chN S r L f
/-- the place behind k of the L lines that lead to p -/
def pos (S : PSt) (r : Nat) : Nat → Nat → Nat → Nat
  | 0, p, _ => p
  | L + 1, p, k => if k = L + 1 then p else pos S r L (S.1 (r + 1) p).toNatClampNeg k
theorem chN_le {S : PSt} {r : Nat} : ∀ (L p : Nat), chN S r L p → L ≤ p := by
  intro L
  induction L with
  | zero => intro p _; exact Nat.zero_le _
  | succ L ih => intro p h; obtain ⟨h1, f, h2, _, h3⟩ := h; have := ih f h3; omega
theorem pos_top {S : PSt} {r L p : Nat} : pos S r L p L = p := by cases L <;> simp [pos]
/-- the places of the lines from k on are told -/
def tb2 (S : PSt) (r L n k : Nat) : PSt := (fun c j => if c = r ∧ j = 4 then nI L else if c = r + 3 ∧ k ≤ j ∧ j ≤ L then nI (pos S r L n j) else S.1 c j, S.2)
theorem tb2_0 {S : PSt} {r L n : Nat} : pSI S r 4 (nI L) = tb2 S r L n (L + 1) := by
  unfold tb2 pSI pU
  refine Prod.ext (funext fun c => funext fun j => ?_) rfl
  dsimp only
  by_cases h : c = r ∧ j = 4
  · rw [if_pos h, if_pos h]
  · rw [if_neg h, if_neg h, if_neg (by omega)]
theorem tb2_s {S : PSt} {r L n k : Nat} (hk : k ≤ L) : pSI (tb2 S r L n (k + 1)) (r + 3) k (nI (pos S r L n k)) = tb2 S r L n k := by
  unfold tb2 pSI pU
  refine Prod.ext (funext fun c => funext fun j => ?_) rfl
  dsimp only
  by_cases hj : j = k
  · subst hj; (repeat' split) <;> first | rfl | (exfalso; omega)
  · (repeat' split) <;> first | rfl | (exfalso; omega)
def tbS (T : PSt) (r L n : Nat) : PSt := if T.1 r 5 = 0 then pSI T r 4 0 else tb2 T r L n 0
theorem pos_dn {S : PSt} {r L p k f : Nat} (hk : ¬ k = L + 1) (hf : S.1 (r + 1) p = nI f) (hb : f < 2 ^ 31) : pos S r (L + 1) p k = pos S r L f k := by
  show (if k = L + 1 then p else pos S r L (S.1 (r + 1) p).toNatClampNeg k) = _
  rw [if_neg hk, hf, nI_clamp hb]
/-- the places of a chain: that of k lines has k lines, and its forerunner stands there -/
theorem pos_chain {S : PSt} {r : Nat} : ∀ (m L p k : Nat), p < 2 ^ 31 → chN S r L p → k + m = L → chN S r k (pos S r L p k) ∧ pos S r L p k ≤ p := by
  intro m
  induction m with
  | zero =>
    intro L p k _ h hk
    have : k = L := by omega
    subst this
    rw [pos_top]
    exact ⟨h, Nat.le_refl _⟩
  | succ m ih =>
    intro L p k hp h hk
    cases L with
    | zero => omega
    | succ L =>
      obtain ⟨h1, f, h2, h3, h4⟩ := h
      rw [pos_dn (by omega) h3 (by omega)]
      have := ih L f k (by omega) h4 (by omega)
      exact ⟨this.1, by omega⟩
theorem pos_step {S : PSt} {r : Nat} : ∀ (m L p k : Nat), p < 2 ^ 31 → chN S r L p → k + 1 + m = L → S.1 (r + 1) (pos S r L p (k + 1)) = nI (pos S r L p k) := by
  intro m
  induction m with
  | zero =>
    intro L p k hp h hk
    have : L = k + 1 := by omega
    subst this
    obtain ⟨h1, f, h2, h3, h4⟩ := h
    rw [pos_top, h3, pos_dn (by omega) h3 (by omega), pos_top]
  | succ m ih =>
    intro L p k hp h hk
    cases L with
    | zero => omega
    | succ L =>
      obtain ⟨h1, f, h2, h3, h4⟩ := h
      rw [pos_dn (by omega) h3 (by omega), pos_dn (by omega) h3 (by omega)]
      exact ih L f k (by omega) h4 (by omega)
set_option maxRecDepth 100000 in
theorem lp_X0_traceA {n0 : Nat} {X : Nat × (Nat → Int32)} {P : Option Value → PSt → Prop} {d : Nat} (hd9 : 1 ≤ d) {sh : List PSh} {S : PSt} {r L n : Nat} (hs : isBe sh r) (hn : n ≤ 32) (hL : L ≤ 32) (hex : pV mX0_traceBack d n0 X sh P 50 [some (.ref r), some (.int (nI n)), some (.int 0), none] [] (pSI S r 4 (nI L))) : ∀ (m p k : Nat), k + m = L → p ≤ 32 → chN S r m p → pV mX0_traceBack d n0 X sh P 15 [some (.ref r), some (.int (nI n)), some (.int (nI p)), none] [] (pSI S r 4 (nI k)) := by
  intro m
  induction m with
  | zero =>
    intro p k hk hp hc
    have hk : k = L := by omega
    subst hk
    have hc : p = 0 := hc
    subst hc
    refine q_iload_n (pc := 15) (j := 2) rfl rfl ?_
    exact q_if_le (pc := 16) 50 rfl (by decide) (fun _ => hex) (fun h9 => absurd (Int32.le_refl _) h9)
  | succ m ih =>
    intro p k hk hp hc
    obtain ⟨hc1, f, hc2, hc3, hc4⟩ := hc
    have hk1 : k < 32 := by omega
    refine q_iload_n (pc := 15) (j := 2) rfl rfl ?_
    refine q_if_le (pc := 16) 50 rfl (by decide) (fun h9 => absurd h9 (nI_nle hc1 (by omega))) (fun _ => ?_)
    refine q_aload_n (pc := 19) (j := 0) rfl rfl ?_
    refine q_get (pc := 20) (a := r) (v := .int ((pSI S r 4 (nI k)).1 r 4)) rfl fl_X0_29 hs.1 rfl rfl ?_
    refine q_st (st2 := [.int (nI k)]) (by rw [show ((pSI S r 4 (nI k)).1 r 4) = nI k by simp [pSI, pU]]) ?_
    refine q_bipush (pc := 23) 32 rfl (by decide) ?_
    refine q_icmp_ge (pc := 25) 50 rfl (by decide) (fun h9 => absurd h9 (nI_ge (b := 32) hk1 (by decide))) (fun _ => ?_)
    refine q_aload_n (pc := 28) (j := 0) rfl rfl ?_
    refine q_dup (pc := 29) rfl rfl ?_
    refine q_get (pc := 30) (a := r) (v := .int ((pSI S r 4 (nI k)).1 r 4)) rfl fl_X0_29 hs.1 rfl rfl ?_
    refine q_st (st2 := [.int (nI k), .ref r]) (by rw [show ((pSI S r 4 (nI k)).1 r 4) = nI k by simp [pSI, pU]]) ?_
    refine q_iconst (pc := 33) 1 rfl (by decide) ?_
    refine q_iadd (pc := 34) rfl ?_
    refine q_st (st2 := [.int (nI (k + 1)), .ref r]) (by rw [nI_1 k]) ?_
    refine q_putI (pc := 35) (a := r) rfl fl_X0_29 hs.1 rfl (fun _ h9 => by cases h9; rfl) rfl rfl ?_
    refine q_S (show pSI (pSI S r 4 (nI k)) r 4 (nI (k + 1)) = pSI S r 4 (nI (k + 1)) from by unfold pSI pU; refine Prod.ext (funext fun c => funext fun j => ?_) rfl; dsimp only; split <;> simp_all) ?_
    refine q_aload_n (pc := 38) (j := 0) rfl rfl ?_
    refine q_get (pc := 39) (a := r) (v := .ref (r + 1)) rfl fl_X0_9 hs.1 rfl rfl ?_
    refine q_iload_n (pc := 42) (j := 2) rfl rfl ?_
    refine q_callS (pc := 43) (as := [.ref (r + 1), .int (nI p)]) (rest := []) (st2 := [.int ((pSI S r 4 (nI (k + 1))).1 (r + 1) p)]) rfl ce_X8_readInt ml_X0_59 st_X8_readInt rfl (by omega) (Nat.le_of_ble_eq_true rfl) (sp_readIntN (k := p) hs.2.1 (by omega) (by decide)) rfl ?_
    refine q_st (st2 := [.int (nI f)]) (by rw [show ((pSI S r 4 (nI (k + 1))).1 (r + 1) p) = nI f from (show _ = S.1 (r + 1) p by simp [pSI, pU]).trans hc3]) ?_
    refine q_istore_n (pc := 46) (j := 2) [some (.ref r), some (.int (nI n)), some (.int (nI f)), none] rfl (by decide) rfl ?_
    refine q_goto (pc := 47) 15 rfl (by decide) ?_
    exact ih f (k + 1) (by omega) (by omega) hc4
set_option maxRecDepth 100000 in
theorem lp_X0_traceB {n0 : Nat} {X : Nat × (Nat → Int32)} {P : Option Value → PSt → Prop} {d : Nat} (hd9 : 1 ≤ d) {sh : List PSh} {S : PSt} {r L n : Nat} (hs : isBe sh r) (hn : n ≤ 32) (hch : chN S r L n) (hex : ∀ y z : Int32, pV mX0_traceBack d n0 X sh P 85 [some (.ref r), some (.int (nI n)), some (.int y), some (.int z)] [] (tb2 S r L n 0)) : ∀ (k : Nat) (y : Int32), k ≤ L + 1 → (∀ k1, k = k1 + 1 → y = nI (pos S r L n k1)) → pV mX0_traceBack d n0 X sh P 57 [some (.ref r), some (.int (nI n)), some (.int y), some (.int (nI k + (-1)))] [] (tb2 S r L n k) := by
  intro k
  induction k with
  | zero =>
    intro y hk hy
    refine q_iload_n (pc := 57) (j := 3) rfl rfl ?_
    exact q_if_lt (pc := 58) 85 rfl (by decide) (fun _ => hex _ _) (fun h9 => absurd (by decide : (nI 0 + (-1)) < 0) h9)
  | succ k ih =>
    intro y hk hy
    have hLn : L ≤ n := chN_le _ _ hch
    have hy1 := hy k rfl
    have hpn := (pos_chain (L - k) L n k (by omega) hch (by omega)).2
    subst hy1
    refine q_L (L2 := [some (.ref r), some (.int (nI n)), some (.int (nI (pos S r L n k))), some (.int (nI k))]) (by rw [pk_m1]) ?_
    refine q_iload_n (pc := 57) (j := 3) rfl rfl ?_
    refine q_if_lt (pc := 58) 85 rfl (by decide) (fun h9 => absurd h9 (nI_pos (by omega))) (fun _ => ?_)
    refine q_aload_n (pc := 61) (j := 0) rfl rfl ?_
    refine q_get (pc := 62) (a := r) (v := .ref (r + 3)) rfl fl_X0_19 hs.1 rfl rfl ?_
    refine q_iload_n (pc := 65) (j := 3) rfl rfl ?_
    refine q_iload_n (pc := 66) (j := 2) rfl rfl ?_
    refine q_callS (pc := 67) (as := [.ref (r + 3), .int (nI k), .int (nI (pos S r L n k))]) (rest := []) (st2 := []) rfl ce_X8_writeInt ml_X0_41 st_X8_writeInt rfl (by omega) (Nat.le_of_ble_eq_true rfl) (sp_writeIntN (k := k) hs.2.2.2.1 (by omega) (by decide)) rfl ?_
    refine q_aload_n (pc := 70) (j := 0) rfl rfl ?_
    refine q_get (pc := 71) (a := r) (v := .ref (r + 1)) rfl fl_X0_9 hs.1 rfl rfl ?_
    refine q_iload_n (pc := 74) (j := 2) rfl rfl ?_
    refine q_callS (pc := 75) (as := [.ref (r + 1), .int (nI (pos S r L n k))]) (rest := []) (st2 := [.int ((pSI (tb2 S r L n (k + 1)) (r + 3) k (nI (pos S r L n k))).1 (r + 1) (pos S r L n k))]) rfl ce_X8_readInt ml_X0_59 st_X8_readInt rfl (by omega) (Nat.le_of_ble_eq_true rfl) (sp_readIntN (k := (pos S r L n k)) hs.2.1 (by omega) (by decide)) rfl ?_
    refine q_istore_n (pc := 78) (j := 2) [some (.ref r), some (.int (nI n)), some (.int ((pSI (tb2 S r L n (k + 1)) (r + 3) k (nI (pos S r L n k))).1 (r + 1) (pos S r L n k))), some (.int (nI k))] rfl (by decide) rfl ?_
    refine q_iinc (pc := 79) (j := 3) (n := (-1)) ((nI k) + (-1)) [some (.ref r), some (.int (nI n)), some (.int ((pSI (tb2 S r L n (k + 1)) (r + 3) k (nI (pos S r L n k))).1 (r + 1) (pos S r L n k))), some (.int ((nI k) + (-1)))] rfl (by decide) rfl rfl rfl ?_
    refine q_goto (pc := 82) 57 rfl (by decide) ?_
    exact q_S (tb2_s (by omega)) (ih _ (by omega) (fun k1 hk1 => by subst hk1; exact (show _ = S.1 (r + 1) (pos S r L n (k1 + 1)) by simp [pSI, pU, tb2]).trans (pos_step (L - (k1 + 1)) L n k1 (by omega) hch (by omega))))
set_option maxRecDepth 100000 in
theorem sp_X0_traceBack {sh : List PSh} {S : PSt} {r L n : Nat} (hs : isBe sh r) (hn : n ≤ 32) (hch : ¬ S.1 r 5 = 0 → chN S r L n) : pF mX0_traceBack 1 [.ref r, .int (nI n)] sh S (tbS S r L n) (none) := by
  refine pF.of (pG.of [some (.ref r), some (.int (nI n)), none, none] (by decide) tk_X0_traceBack (Nat.le_of_ble_eq_true rfl) rfl (fun X => ?_))
  refine q_aload_n (pc := 0) (j := 0) rfl rfl ?_
  refine q_iconst (pc := 1) 0 rfl (by decide) ?_
  refine q_putI (pc := 2) (a := r) rfl fl_X0_29 hs.1 rfl (fun _ h9 => by cases h9; rfl) rfl rfl ?_
  refine q_aload_n (pc := 5) (j := 0) rfl rfl ?_
  refine q_get (pc := 6) (a := r) (v := .int ((pSI S r 4 0).1 r 5)) rfl fl_X0_33 hs.1 rfl rfl ?_
  refine q_st (st2 := [.int (S.1 r 5)]) (by rw [show ((pSI S r 4 0).1 r 5) = S.1 r 5 by simp [pSI, pU]]) ?_
  refine q_if_ne (pc := 9) 13 rfl (by decide) (fun h9 => ?_) (fun h9 => ?_)
  · have hc := hch h9; have hLn : L ≤ n := chN_le _ _ hc
    refine q_iload_n (pc := 13) (j := 1) rfl rfl ?_
    refine q_istore_n (pc := 14) (j := 2) [some (.ref r), some (.int (nI n)), some (.int (nI n)), none] rfl (by decide) rfl ?_
    refine lp_X0_traceA (n := n) (by decide) hs hn (by omega) ?_ L n 0 (Nat.zero_add L) hn hc
    refine q_iload_n (pc := 50) (j := 1) rfl rfl ?_
    refine q_istore_n (pc := 51) (j := 2) [some (.ref r), some (.int (nI n)), some (.int (nI n)), none] rfl (by decide) rfl ?_
    refine q_S (tb2_0 (n := n)) ?_
    refine q_aload_n (pc := 52) (j := 0) rfl rfl ?_
    refine q_get (pc := 53) (a := r) (v := .int ((tb2 S r L n (L + 1)).1 r 4)) rfl fl_X0_29 hs.1 rfl rfl ?_
    refine q_istore_n (pc := 56) (j := 3) [some (.ref r), some (.int (nI n)), some (.int (nI n)), some (.int ((tb2 S r L n (L + 1)).1 r 4))] rfl (by decide) rfl ?_
    refine q_L (L2 := [some (.ref r), some (.int (nI n)), some (.int (nI n)), some (.int (nI (L + 1) + (-1)))]) (by rw [pk_m1, show (tb2 S r L n (L + 1)).1 r 4 = nI L by simp [tb2]]) (lp_X0_traceB (by decide) hs hn hc (fun y z => ?_) (L + 1) _ (Nat.le_refl _) (fun k1 hk1 => (by rw [show k1 = L by omega, pos_top])))
    exact q_vret (pc := 85) rfl rfl ⟨rfl, (if_neg h9).symm⟩
  · exact q_vret (pc := 12) rfl rfl ⟨rfl, (if_pos h9).symm⟩
set_option maxRecDepth 100000 in
theorem sp_X0_first {sh : List PSh} {S : PSt} {r x : Nat} (hs : isBe sh r) (hx : x < 33) : pF mX0_first 1 [.ref r, .int (nI x)] sh S S (some (.int (S.1 (r + 3) x))) := by
  refine pF.of (pG.of [some (.ref r), some (.int (nI x))] (by decide) tk_X0_first (Nat.le_of_ble_eq_true rfl) rfl (fun X => ?_))
  refine q_aload_n (pc := 0) (j := 0) rfl rfl ?_
  refine q_get (pc := 1) (a := r) (v := .ref (r + 3)) rfl fl_X0_19 hs.1 rfl rfl ?_
  refine q_iload_n (pc := 4) (j := 1) rfl rfl ?_
  refine q_callS (pc := 5) (as := [.ref (r + 3), .int (nI x)]) (rest := []) (st2 := [.int (S.1 (r + 3) x)]) rfl ce_X8_readInt ml_X0_59 st_X8_readInt rfl (by decide) (Nat.le_of_ble_eq_true rfl) (sp_readIntN (k := x) hs.2.2.2.1 (by omega) (by decide)) rfl ?_
  exact q_iret (pc := 8) rfl rfl ⟨rfl, rfl⟩
set_option maxRecDepth 100000 in
theorem sp_X0_last {sh : List PSh} {S : PSt} {r x : Nat} (hs : isBe sh r) (hx : x < 32) : pF mX0_last 1 [.ref r, .int (nI x)] sh S S (some (.int (S.1 (r + 3) (x + 1) - 1))) := by
  refine pF.of (pG.of [some (.ref r), some (.int (nI x))] (by decide) tk_X0_last (Nat.le_of_ble_eq_true rfl) rfl (fun X => ?_))
  refine q_aload_n (pc := 0) (j := 0) rfl rfl ?_
  refine q_get (pc := 1) (a := r) (v := .ref (r + 3)) rfl fl_X0_19 hs.1 rfl rfl ?_
  refine q_iload_n (pc := 4) (j := 1) rfl rfl ?_
  refine q_iconst (pc := 5) 1 rfl (by decide) ?_
  refine q_iadd (pc := 6) rfl ?_
  refine q_st (st2 := [.int (nI (x + 1)), .ref (r + 3)]) (by rw [nI_1 x]) ?_
  refine q_callS (pc := 7) (as := [.ref (r + 3), .int (nI (x + 1))]) (rest := []) (st2 := [.int (S.1 (r + 3) (x + 1))]) rfl ce_X8_readInt ml_X0_59 st_X8_readInt rfl (by decide) (Nat.le_of_ble_eq_true rfl) (sp_readIntN (k := (x + 1)) hs.2.2.2.1 (by omega) (by decide)) rfl ?_
  refine q_iconst (pc := 10) 1 rfl (by decide) ?_
  refine q_isub (pc := 11) rfl ?_
  exact q_iret (pc := 12) rfl rfl ⟨rfl, rfl⟩
/-- behind find -/
def fnS (S : PSt) (r q n : Nat) (w : Int32) (L : Nat) : PSt := tbS (fd2 S r q n w) r L n
set_option maxRecDepth 100000 in
theorem sp_X0_find {sh : List PSh} {S : PSt} {r q n : Nat} {w : Int32} {L : Nat} (hs : isBe sh r) (hq : isSg sh q) (hqr : q + 2 ≤ r ∨ r + 11 ≤ q) (hn : n ≤ 32) (hdur : ∀ i, i < n → ¬ S.1 (q + 1) (5 * i + 0) = 2 → isDur (S.1 (q + 1) (5 * i + 1))) (hok : ∀ p k, p < n → k < p + 1 → isEndB S q n (p + 1) = true → okR (rchS (pSI (fdS S r q n w p) (r + 1) (p + 1) (-1)) r q w (p + 1) k) r q w (p + 1) k) (hch : ¬ (fd2 S r q n w).1 r 5 = 0 → chN (fd2 S r q n w) r L n) : pF mX0_find 4 [.ref r, .ref q, .int (nI n), .int w] sh S (fnS S r q n w L) (none) := by
  refine pF.of (pG.of [some (.ref r), some (.ref q), some (.int (nI n)), some (.int w), none] (by decide) tk_X0_find (Nat.le_of_ble_eq_true rfl) rfl (fun X => ?_))
  refine q_aload_n (pc := 0) (j := 0) rfl rfl ?_
  refine q_iconst (pc := 1) 0 rfl (by decide) ?_
  refine q_putI (pc := 2) (a := r) rfl fl_X0_33 hs.1 rfl (fun _ h9 => by cases h9; rfl) rfl rfl ?_
  refine q_aload_n (pc := 5) (j := 1) rfl rfl ?_
  refine q_ifnonnull (pc := 6) 10 rfl (by decide) ?_
  refine q_aload_n (pc := 10) (j := 0) rfl rfl ?_
  refine q_get (pc := 11) (a := r) (v := .ref (r + 1)) rfl fl_X0_9 hs.1 rfl rfl ?_
  refine q_iconst (pc := 14) 0 rfl (by decide) ?_
  refine q_iconst (pc := 15) 0 rfl (by decide) ?_
  refine q_callS (pc := 16) (as := [.ref (r + 1), .int 0, .int 0]) (rest := []) (st2 := []) rfl ce_X8_writeInt ml_X0_41 st_X8_writeInt rfl (by decide) (Nat.le_of_ble_eq_true rfl) (sp_writeIntN (k := 0) hs.2.1 (by omega) (by decide)) rfl ?_
  refine q_aload_n (pc := 19) (j := 0) rfl rfl ?_
  refine q_get (pc := 20) (a := r) (v := .ref (r + 2)) rfl fl_X0_15 hs.1 rfl rfl ?_
  refine q_iconst (pc := 23) 0 rfl (by decide) ?_
  refine q_fconst0 (pc := 24) rfl ?_
  refine q_callS (pc := 25) (as := [.ref (r + 2), .int 0, .float FP.fconst0]) (rest := []) (st2 := []) rfl ce_X8_writeFloat ml_X0_45 st_X8_writeFloat rfl (by decide) (Nat.le_of_ble_eq_true rfl) (sp_writeFloatN (k := 0) hs.2.2.1 (by omega) (by decide)) rfl ?_
  refine q_iconst (pc := 28) 1 rfl (by decide) ?_
  refine q_istore (pc := 29) (j := 4) [some (.ref r), some (.ref q), some (.int (nI n)), some (.int w), some (.int 1)] rfl (by decide) rfl ?_
  refine lp_X0_find (by decide) hs hq hqr hn hdur hok ?_ n 0 (Nat.zero_add n)
  refine q_aload_n (pc := 80) (j := 0) rfl rfl ?_
  refine q_aload_n (pc := 81) (j := 0) rfl rfl ?_
  refine q_get (pc := 82) (a := r) (v := .ref (r + 1)) rfl fl_X0_9 hs.1 rfl rfl ?_
  refine q_iload_n (pc := 85) (j := 2) rfl rfl ?_
  refine q_callS (pc := 86) (as := [.ref (r + 1), .int (nI n)]) (rest := [.ref r]) (st2 := [.int ((fdS S r q n w n).1 (r + 1) n), .ref r]) rfl ce_X8_readInt ml_X0_59 st_X8_readInt rfl (by decide) (Nat.le_of_ble_eq_true rfl) (sp_readIntN (k := n) hs.2.1 (by omega) (by decide)) rfl ?_
  refine q_iconst (pc := 89) (-1) rfl (by decide) ?_
  refine q_join 98 [some (.ref r), some (.ref q), some (.int (nI n)), some (.int w), some (.int (nI (n + 1)))] [.int (pB (decide ((fdS S r q n w n).1 (r + 1) n ≠ -1))), .ref r] (fdS S r q n w n) ?_ (fun key90 => ?_)
  · refine q_putI (pc := 98) (a := r) rfl fl_X0_33 hs.1 rfl (fun _ h9 => by cases h9; rfl) (pB_nar _) (pB_fit _) ?_
    refine q_aload_n (pc := 101) (j := 0) rfl rfl ?_
    refine q_aload_n (pc := 102) (j := 0) rfl rfl ?_
    refine q_get (pc := 103) (a := r) (v := .ref (r + 2)) rfl fl_X0_15 hs.1 rfl rfl ?_
    refine q_iload_n (pc := 106) (j := 2) rfl rfl ?_
    refine q_callS (pc := 107) (as := [.ref (r + 2), .int (nI n)]) (rest := [.ref r]) (st2 := [.float ((pSI (fdS S r q n w n) r 5 (pB (decide ((fdS S r q n w n).1 (r + 1) n ≠ -1)))).2.1 (r + 2) n), .ref r]) rfl ce_X8_readFloat ml_X0_63 st_X8_readFloat rfl (by decide) (Nat.le_of_ble_eq_true rfl) (sp_readFloatN (k := n) hs.2.2.1 (by omega) (by decide)) rfl ?_
    refine q_putF (pc := 110) (a := r) rfl fl_X0_37 hs.1 rfl (fun _ h9 => by cases h9; rfl) rfl rfl ?_
    refine q_aload_n (pc := 113) (j := 0) rfl rfl ?_
    refine q_iload_n (pc := 114) (j := 2) rfl rfl ?_
    refine q_callV (pc := 115) (as := [.int (nI n)]) (rest := []) (b := r) (st2 := []) rfl ce_X0_traceBack ml_X0_67 im_X0_traceBack se_X0_traceBack hs.1 rfl rfl rfl (by decide) (Nat.le_of_ble_eq_true rfl) (sp_X0_traceBack (S := fd2 S r q n w) (L := L) hs hn hch) rfl ?_
    exact q_vret (pc := 118) rfl rfl ⟨rfl, rfl⟩
  · refine q_icmp_eq (pc := 90) 97 rfl (by decide) (fun h90 => ?_) (fun h90 => ?_)
    · refine q_iconst (pc := 97) 0 rfl (by decide) ?_
      exact q_st (by rw [show decide ((fdS S r q n w n).1 (r + 1) n ≠ -1) = false from decide_eq_false (fun q9 => q9 h90)]; rfl) key90
    · refine q_iconst (pc := 93) 1 rfl (by decide) ?_
      refine q_goto (pc := 94) 98 rfl (by decide) ?_
      exact q_st (by rw [show decide ((fdS S r q n w n).1 (r + 1) n ≠ -1) = true from decide_eq_true h90]; rfl) key90
