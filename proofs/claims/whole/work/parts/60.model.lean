/-! the model: sign: written by wip/whole/gen/c60.py -/
theorem rd_w {S : PSt} {g : Bool} {p j : Nat} {v : Int32} : pSI (rdM S g p) 88 j v = rdM (pSI S 88 j v) g p := by
  unfold rdM pSI pU
  refine Prod.ext (funext fun c => funext fun i => ?_) rfl
  dsimp only
  (repeat' split) <;> first | rfl | (exfalso; omega)
theorem rd_27 {S : PSt} {g : Bool} {p : Nat} {v : Int32} : pSI (rdM S g p) 70 27 v = rdM (pSI S 70 27 v) g p := by
  unfold rdM pSI pU
  refine Prod.ext (funext fun c => funext fun i => ?_) rfl
  dsimp only
  (repeat' split) <;> first | rfl | (exfalso; omega)
theorem sp_X9_takesT {sh : List PSh} {S : PSt} {z p : Nat} {b : Nat → Int32} {c : Int32} (hb : S.1 87 = b) (hm : isMo sh) (hz : S.1 70 23 = nI z) (hz1 : z ≤ 160) (hp : p ≤ 160) : pF mX9_takes 0 [.ref 70, .int c] sh (rdM S true p) (rdM S true (if nxB b z p c = true then p + 1 else p)) (some (.int (pB (nxB b z p c)))) := by
  subst hb
  have h := sp_X9_takes (g := true) (c := c) hm hz hz1 hp
  rw [Bool.true_and] at h
  exact h
theorem sp_X9_takesF {sh : List PSh} {S : PSt} {z p : Nat} {c : Int32} (hm : isMo sh) (hz : S.1 70 23 = nI z) (hz1 : z ≤ 160) (hp : p ≤ 160) : pF mX9_takes 0 [.ref 70, .int c] sh (rdM S false p) (rdM S false p) (some (.int 0)) := by
  have h := sp_X9_takes (g := false) (c := c) hm hz hz1 hp
  rw [Bool.false_and, if_neg (by decide)] at h
  exact h
theorem sp_X9_numB0 {sh : List PSh} {S : PSt} {z p : Nat} {b : Nat → Int32} {most : Int32} (hb : S.1 87 = b) (hm : isMo sh) (hz : S.1 70 23 = nI z) (hz1 : z ≤ 160) (hp : p ≤ 160) (hmo : 9 ≤ most.toInt ∧ most.toInt ≤ 64) : pG mX9_number 2 [.ref 70, .int 0, .int most] sh (rdM S true p) (fun r9 T9 => ∃ v, r9 = some (.int v) ∧ T9 = rdM S (decide (¬ (numF b z 0 most p).1 = -1)) (numF b z 0 most p).2 ∧ (¬ (numF b z 0 most p).1 = -1 → v = (numF b z 0 most p).1)) := by
  subst hb
  exact sp_X9_number0 hm hz hz1 hp hmo
theorem sp_X9_numB1 {sh : List PSh} {S : PSt} {z p : Nat} {b : Nat → Int32} {most : Int32} (hb : S.1 87 = b) (hm : isMo sh) (hz : S.1 70 23 = nI z) (hz1 : z ≤ 160) (hp : p ≤ 160) (hmo : 9 ≤ most.toInt ∧ most.toInt ≤ 64) : pG mX9_number 2 [.ref 70, .int 1, .int most] sh (rdM S true p) (fun r9 T9 => ∃ v, r9 = some (.int v) ∧ T9 = rdM S (decide (¬ (numF b z 1 most p).1 = -1)) (numF b z 1 most p).2 ∧ (¬ (numF b z 1 most p).1 = -1 → v = (numF b z 1 most p).1)) := by
  subst hb
  exact sp_X9_number1 hm hz hz1 hp hmo
/-- signs read before stay -/
def sgQ (S U : PSt) (m : Nat) : Prop := frM S U ∧ ∀ j, j < 5 * m → U.1 88 j = S.1 88 j
theorem sgQ_0 {S : PSt} {m : Nat} : sgQ S S m := ⟨fm_rf, fun _ _ => rfl⟩
theorem sgQ_w {S U : PSt} {m k : Nat} {v : Int32} (h : sgQ S U m) : sgQ S (pSI U 88 (5 * m + k) v) m := ⟨fm_tr h.1 (fm_I (by decide)), fun j hj => by rw [pSI_j (by omega)]; exact h.2 j hj⟩
theorem sgQ_27 {S U : PSt} {m : Nat} {v : Int32} (h : sgQ S U m) : sgQ S (pSI U 70 27 v) m := ⟨fm_tr h.1 (fm_I0 (by decide)), fun j hj => by rw [pSI_ne (by decide)]; exact h.2 j hj⟩
/-- a sign read lies at m -/
def sgE (U : PSt) (m : Nat) (q : Int32 × Int32 × Int32 × Nat) (a : Int32) : Prop := U.1 88 (5 * m + 0) = q.1 ∧ U.1 88 (5 * m + 1) = q.2.1 ∧ U.1 88 (5 * m + 2) = q.2.2.1 ∧ U.1 88 (5 * m + 4) = a
def sgP (S : PSt) (z m p : Nat) (T : PSt) : Prop :=
  (∀ f, sgF (S.1 87) z p = .inr f → ∃ U, T = rdM U false f ∧ sgQ S U m ∧ U.1 70 27 = nI (m + 1)) ∧
  (∀ q, sgF (S.1 87) z p = .inl q → ∃ U, T = rdM U true (q.2.2.2 + adF (S.1 87) z 9 q.2.2.2) ∧ sgQ S U m ∧ U.1 70 27 = nI (m + 1) ∧ sgE U m q (nI (adF (S.1 87) z 9 q.2.2.2)))
theorem sgP_r {S T U : PSt} {z m p f : Nat} (h : sgF (S.1 87) z p = .inr f) (hT : T = rdM U false f) (h1 : sgQ S U m) (h2 : U.1 70 27 = nI (m + 1)) : sgP S z m p T := by
  refine ⟨fun f2 hf => ?_, fun q hq => ?_⟩
  · rw [h] at hf; cases hf; exact ⟨U, hT, h1, h2⟩
  · rw [h] at hq; cases hq
theorem sgP_l {S T U : PSt} {z m p : Nat} {q : Int32 × Int32 × Int32 × Nat} (h : sgF (S.1 87) z p = .inl q) (hT : T = rdM U true (q.2.2.2 + adF (S.1 87) z 9 q.2.2.2)) (h1 : sgQ S U m) (h2 : U.1 70 27 = nI (m + 1)) (h3 : sgE U m q (nI (adF (S.1 87) z 9 q.2.2.2))) : sgP S z m p T := by
  refine ⟨fun f2 hf => ?_, fun q2 hq => ?_⟩
  · rw [h] at hf; cases hf
  · rw [h] at hq; cases hq; exact ⟨U, hT, h1, h2, h3⟩
theorem sx5 {m : Nat} : (5 : Int32) * nI m = nI (5 * m) := by rw [show (5 : Int32) = nI 5 from rfl, pk_mul]
set_option maxRecDepth 100000 in
theorem lp_X9_signA {n0 : Nat} {X : Nat × (Nat → Int32)} {P : Option Value → PSt → Prop} {d : Nat} (hd9 : 1 ≤ d) {sh : List PSh} (hm : isMo sh) {E : PSt} {b : Nat → Int32} {z m N9 P9 : Nat} (hb : E.1 87 = b) (hz : E.1 70 23 = nI z) (hz1 : z ≤ 160) {t : Int32} (hex : pV mX9_sign d n0 X sh P 206 [some (.ref 70), some (.int (nI (5 * m))), some (.int t), some (.int (nI N9))] [] (rdM E true P9)) : ∀ (k i p : Nat), i + k = 9 → p ≤ 160 → i + adF b z k p = N9 → p + adF b z k p = P9 → pV mX9_sign d n0 X sh P 185 [some (.ref 70), some (.int (nI (5 * m))), some (.int t), some (.int (nI i))] [] (rdM E true p) := by
  intro k
  induction k with
  | zero =>
    intro i p hk hp h1 h2
    have h0 : adF b z 0 p = 0 := rfl
    rw [h0] at h1 h2
    have h1 : i = N9 := by omega
    have h2 : p = P9 := by omega
    subst h1
    subst h2
    refine q_iload_n (pc := 185) (j := 3) rfl rfl ?_
    refine q_bipush (pc := 186) 9 rfl (by decide) ?_
    refine q_icmp_ge (pc := 188) 206 rfl (by decide) (fun _ => ?_) (fun h9 => absurd (nI_le (a := 9) (by omega) (by omega)) h9)
    exact hex
  | succ k ih =>
    intro i p hk hp h1 h2
    refine q_iload_n (pc := 185) (j := 3) rfl rfl ?_
    refine q_bipush (pc := 186) 9 rfl (by decide) ?_
    refine q_icmp_ge (pc := 188) 206 rfl (by decide) (fun h9 => absurd h9 (nI_ge (b := 9) (by omega) (by decide))) (fun _ => ?_)
    refine q_aload_n (pc := 191) (j := 0) rfl rfl ?_
    refine q_bipush (pc := 192) 39 rfl (by decide) ?_
    refine q_callV (pc := 194) (as := [.int 39]) (rest := []) (b := 70) (st2 := [.int (pB (nxB b z p 39))]) rfl ce_X9_takes ml_X9_277 im_X9_takes se_X9_takes hm.1 rfl rfl rfl (by omega) (Nat.le_of_ble_eq_true rfl) (sp_X9_takesT (S := E) (p := p) (b := b) hb hm hz hz1 (by omega)) rfl ?_
    rcases Bool.eq_false_or_eq_true (nxB b z p 39) with hq9 | hq9
    · refine q_st (st2 := [.int 1]) (by rw [hq9]; rfl) (q_S (S2 := (rdM E true (p + 1))) (by rw [hq9]; rfl) ?_)
      refine q_if_eq (pc := 197) 206 rfl (by decide) (fun h9 => absurd h9 (by decide : ¬ (1 : Int32) = 0)) (fun _ => ?_)
      refine q_iinc (pc := 200) (j := 3) (n := 1) (nI (i + 1)) [some (.ref 70), some (.int (nI (5 * m))), some (.int t), some (.int (nI (i + 1)))] rfl (by decide) rfl (nI_1 i) rfl ?_
      refine q_goto (pc := 203) 185 rfl (by decide) ?_
      have h0 : adF b z (k + 1) p = adF b z k (p + 1) + 1 := (by rw [adF, if_pos hq9]); exact ih (i + 1) (p + 1) (by omega) (by have := nx_in hq9; omega) (by omega) (by omega)
    · refine q_st (st2 := [.int 0]) (by rw [hq9]; rfl) (q_S (S2 := (rdM E true p)) (by rw [hq9]; rfl) ?_)
      refine q_if_eq (pc := 197) 206 rfl (by decide) (fun _ => ?_) (fun h9 => absurd (by decide : (0 : Int32) = 0) h9)
      have h0 : adF b z (k + 1) p = 0 := (by rw [adF, if_neg (show ¬ nxB b z p 39 = true by rw [hq9]; decide)]); rw [h0] at h1 h2; have h7 : i = N9 := (by omega); have h8 : p = P9 := (by omega); subst h7; subst h8; exact hex
set_option maxRecDepth 100000 in
set_option maxHeartbeats 2000000 in
theorem sp_X9_sign {sh : List PSh} {S : PSt} {z m p : Nat} (hm : isMo sh) (hz : S.1 70 23 = nI z) (hz1 : z ≤ 160) (hp : p ≤ z) (h27 : S.1 70 27 = nI m) (hm9 : m < 159) : pG mX9_sign 3 [.ref 70] sh (rdM S true p) (fun r9 T9 => r9 = none ∧ sgP S z m p T9) := by
  have hp1 := hp
  skip
  refine pG.of [some (.ref 70), none, none, none] (by decide) tk_X9_sign (Nat.le_of_ble_eq_true rfl) rfl (fun X => ?_)
  refine q_iconst (pc := 0) 5 rfl (by decide) ?_
  refine q_aload_n (pc := 1) (j := 0) rfl rfl ?_
  refine q_get (pc := 2) (a := 70) (v := .int ((rdM S true p).1 70 27)) rfl fl_X9_274 hm.1 rfl rfl ?_
  refine q_st (st2 := [.int (nI m), .int 5]) (by rw [(show ((rdM S true p).1 70 27) = nI m from (rd_j (by decide) (by decide)).trans h27)]) ?_
  refine q_imul (pc := 5) rfl ?_
  refine q_st (st2 := [.int (nI (5 * m))]) (by rw [sx5]) ?_
  refine q_istore_n (pc := 6) (j := 1) [some (.ref 70), some (.int (nI (5 * m))), none, none] rfl (by decide) rfl ?_
  refine q_aload_n (pc := 7) (j := 0) rfl rfl ?_
  refine q_get (pc := 8) (a := 70) (v := .ref 88) rfl fl_X9_63 hm.1 rfl rfl ?_
  refine q_iload_n (pc := 11) (j := 1) rfl rfl ?_
  refine q_iconst (pc := 12) 0 rfl (by decide) ?_
  refine q_iadd (pc := 13) rfl ?_
  refine q_st (st2 := [.int (nI (5 * m + 0)), .ref 88]) (by rw [(show nI (5 * m) + 0 = nI (5 * m + 0) from nI_add (5 * m) 0)]) ?_
  refine q_iconst (pc := 14) 2 rfl (by decide) ?_
  refine q_iast (pc := 15) (a := 88) (5 * m + 0) rfl hm.2.2.2.2.2.2.2.2.2.2.2.2.2.2.2.2.2.2.1 (vp_in_nI (by omega) (by decide)) (nI_clamp (by omega)) ?_
  refine q_S (S2 := (rdM (pSI S 88 (5 * m + 0) 2) true p)) rd_w ?_
  refine q_aload_n (pc := 16) (j := 0) rfl rfl ?_
  refine q_get (pc := 17) (a := 70) (v := .ref 88) rfl fl_X9_63 hm.1 rfl rfl ?_
  refine q_iload_n (pc := 20) (j := 1) rfl rfl ?_
  refine q_iconst (pc := 21) 1 rfl (by decide) ?_
  refine q_iadd (pc := 22) rfl ?_
  refine q_st (st2 := [.int (nI (5 * m + 1)), .ref 88]) (by rw [(show nI (5 * m) + 1 = nI (5 * m + 1) from nI_add (5 * m) 1)]) ?_
  refine q_iconst (pc := 23) 1 rfl (by decide) ?_
  refine q_iast (pc := 24) (a := 88) (5 * m + 1) rfl hm.2.2.2.2.2.2.2.2.2.2.2.2.2.2.2.2.2.2.1 (vp_in_nI (by omega) (by decide)) (nI_clamp (by omega)) ?_
  refine q_S (S2 := (rdM (pSI (pSI S 88 (5 * m + 0) 2) 88 (5 * m + 1) 1) true p)) rd_w ?_
  refine q_aload_n (pc := 25) (j := 0) rfl rfl ?_
  refine q_get (pc := 26) (a := 70) (v := .ref 88) rfl fl_X9_63 hm.1 rfl rfl ?_
  refine q_iload_n (pc := 29) (j := 1) rfl rfl ?_
  refine q_iconst (pc := 30) 2 rfl (by decide) ?_
  refine q_iadd (pc := 31) rfl ?_
  refine q_st (st2 := [.int (nI (5 * m + 2)), .ref 88]) (by rw [(show nI (5 * m) + 2 = nI (5 * m + 2) from nI_add (5 * m) 2)]) ?_
  refine q_iconst (pc := 32) 0 rfl (by decide) ?_
  refine q_iast (pc := 33) (a := 88) (5 * m + 2) rfl hm.2.2.2.2.2.2.2.2.2.2.2.2.2.2.2.2.2.2.1 (vp_in_nI (by omega) (by decide)) (nI_clamp (by omega)) ?_
  refine q_S (S2 := (rdM (pSI (pSI (pSI S 88 (5 * m + 0) 2) 88 (5 * m + 1) 1) 88 (5 * m + 2) 0) true p)) rd_w ?_
  refine q_aload_n (pc := 34) (j := 0) rfl rfl ?_
  refine q_get (pc := 35) (a := 70) (v := .ref 88) rfl fl_X9_63 hm.1 rfl rfl ?_
  refine q_iload_n (pc := 38) (j := 1) rfl rfl ?_
  refine q_iconst (pc := 39) 3 rfl (by decide) ?_
  refine q_iadd (pc := 40) rfl ?_
  refine q_st (st2 := [.int (nI (5 * m + 3)), .ref 88]) (by rw [(show nI (5 * m) + 3 = nI (5 * m + 3) from nI_add (5 * m) 3)]) ?_
  refine q_iconst (pc := 41) 2 rfl (by decide) ?_
  refine q_iast (pc := 42) (a := 88) (5 * m + 3) rfl hm.2.2.2.2.2.2.2.2.2.2.2.2.2.2.2.2.2.2.1 (vp_in_nI (by omega) (by decide)) (nI_clamp (by omega)) ?_
  refine q_S (S2 := (rdM (pSI (pSI (pSI (pSI S 88 (5 * m + 0) 2) 88 (5 * m + 1) 1) 88 (5 * m + 2) 0) 88 (5 * m + 3) 2) true p)) rd_w ?_
  refine q_aload_n (pc := 43) (j := 0) rfl rfl ?_
  refine q_bipush (pc := 44) 110 rfl (by decide) ?_
  refine q_callV (pc := 46) (as := [.int 110]) (rest := []) (b := 70) (st2 := [.int (pB (nxB (S.1 87) z p 110))]) rfl ce_X9_takes ml_X9_277 im_X9_takes se_X9_takes hm.1 rfl rfl rfl (by decide) (Nat.le_of_ble_eq_true rfl) (sp_X9_takesT (S := (pSI (pSI (pSI (pSI S 88 (5 * m + 0) 2) 88 (5 * m + 1) 1) 88 (5 * m + 2) 0) 88 (5 * m + 3) 2)) (p := p) (b := (S.1 87)) ((pSI_ne (by decide)).trans ((pSI_ne (by decide)).trans ((pSI_ne (by decide)).trans ((pSI_ne (by decide)).trans rfl)))) hm ((congrFun (pSI_ne (by decide)) 23).trans ((congrFun (pSI_ne (by decide)) 23).trans ((congrFun (pSI_ne (by decide)) 23).trans ((congrFun (pSI_ne (by decide)) 23).trans hz)))) hz1 (by omega)) rfl ?_
  rcases Bool.eq_false_or_eq_true (nxB (S.1 87) z p 110) with h1 | h1
  · refine q_st (st2 := [.int 1]) (by rw [h1]; rfl) (q_S (S2 := (rdM (pSI (pSI (pSI (pSI S 88 (5 * m + 0) 2) 88 (5 * m + 1) 1) 88 (5 * m + 2) 0) 88 (5 * m + 3) 2) true (p + 1))) (by rw [h1]; rfl) ?_); have hbh1 := nx_in h1
    refine q_istore_n (pc := 49) (j := 2) [some (.ref 70), some (.int (nI (5 * m))), some (.int 1), none] rfl (by decide) rfl ?_
    refine q_iload_n (pc := 50) (j := 2) rfl rfl ?_
    refine q_if_ne (pc := 51) 63 rfl (by decide) (fun _ => ?_) (fun h9 => absurd h9 (by decide : (1 : Int32) = 0 → False))
    refine q_aload_n (pc := 63) (j := 0) rfl rfl ?_
    refine q_get (pc := 64) (a := 70) (v := .ref 88) rfl fl_X9_63 hm.1 rfl rfl ?_
    refine q_iload_n (pc := 67) (j := 1) rfl rfl ?_
    refine q_iconst (pc := 68) 0 rfl (by decide) ?_
    refine q_iadd (pc := 69) rfl ?_
    refine q_st (st2 := [.int (nI (5 * m + 0)), .ref 88]) (by rw [(show nI (5 * m) + 0 = nI (5 * m + 0) from nI_add (5 * m) 0)]) ?_
    refine q_iload_n (pc := 70) (j := 2) rfl rfl ?_
    refine q_if_eq (pc := 71) 78 rfl (by decide) (fun h9 => absurd h9 (by decide : ¬ (1 : Int32) = 0)) (fun _ => ?_)
    refine q_iconst (pc := 74) 0 rfl (by decide) ?_
    refine q_goto (pc := 75) 79 rfl (by decide) ?_
    refine q_iast (pc := 79) (a := 88) (5 * m + 0) rfl hm.2.2.2.2.2.2.2.2.2.2.2.2.2.2.2.2.2.2.1 (vp_in_nI (by omega) (by decide)) (nI_clamp (by omega)) ?_
    refine q_S (S2 := (rdM (pSI (pSI (pSI (pSI (pSI S 88 (5 * m + 0) 2) 88 (5 * m + 1) 1) 88 (5 * m + 2) 0) 88 (5 * m + 3) 2) 88 (5 * m + 0) 0) true (p + 1))) rd_w ?_
    refine q_aload_n (pc := 80) (j := 0) rfl rfl ?_
    refine q_get (pc := 81) (a := 70) (v := .ref 88) rfl fl_X9_63 hm.1 rfl rfl ?_
    refine q_iload_n (pc := 84) (j := 1) rfl rfl ?_
    refine q_iconst (pc := 85) 1 rfl (by decide) ?_
    refine q_iadd (pc := 86) rfl ?_
    refine q_st (st2 := [.int (nI (5 * m + 1)), .ref 88]) (by rw [(show nI (5 * m) + 1 = nI (5 * m + 1) from nI_add (5 * m) 1)]) ?_
    refine q_aload_n (pc := 87) (j := 0) rfl rfl ?_
    refine q_iconst (pc := 88) 1 rfl (by decide) ?_
    refine q_bipush (pc := 89) 64 rfl (by decide) ?_
    refine q_callVG (pc := 91) (as := [.int 1, .int 64]) (rest := [.int (nI (5 * m + 1)), .ref 88]) (b := 70) rfl ce_X9_number ml_X9_280 im_X9_number se_X9_number hm.1 rfl rfl rfl (by decide) (Nat.le_of_ble_eq_true rfl) (sp_X9_numB1 (S := (pSI (pSI (pSI (pSI (pSI S 88 (5 * m + 0) 2) 88 (5 * m + 1) 1) 88 (5 * m + 2) 0) 88 (5 * m + 3) 2) 88 (5 * m + 0) 0)) (p := (p + 1)) (b := (S.1 87)) ((pSI_ne (by decide)).trans ((pSI_ne (by decide)).trans ((pSI_ne (by decide)).trans ((pSI_ne (by decide)).trans ((pSI_ne (by decide)).trans rfl))))) hm ((congrFun (pSI_ne (by decide)) 23).trans ((congrFun (pSI_ne (by decide)) 23).trans ((congrFun (pSI_ne (by decide)) 23).trans ((congrFun (pSI_ne (by decide)) 23).trans ((congrFun (pSI_ne (by decide)) 23).trans hz))))) hz1 (by omega) (by decide)) (fun r9 S9 h9 => ?_)
    obtain ⟨v1, hr9, hS9, hv1⟩ := h9
    subst hr9
    subst hS9
    rcases Bool.eq_false_or_eq_true (decide (¬ (numF (S.1 87) z 1 64 (p + 1)).1 = -1)) with h3 | h3
    · have hlh3 := numF_le (b := (S.1 87)) (z := z) (p := (p + 1)) (least := 1) (most := 64) (by omega); refine q_st (st2 := [.int ((numF (S.1 87) z 1 64 (p + 1)).1), .int (nI (5 * m + 1)), .ref 88]) (by rw [hv1 (of_decide_eq_true h3)]; rfl) (q_S (S2 := (rdM (pSI (pSI (pSI (pSI (pSI S 88 (5 * m + 0) 2) 88 (5 * m + 1) 1) 88 (5 * m + 2) 0) 88 (5 * m + 3) 2) 88 (5 * m + 0) 0) true (numF (S.1 87) z 1 64 (p + 1)).2)) (by rw [h3]) ?_)
      refine q_iast (pc := 94) (a := 88) (5 * m + 1) rfl hm.2.2.2.2.2.2.2.2.2.2.2.2.2.2.2.2.2.2.1 (vp_in_nI (by omega) (by decide)) (nI_clamp (by omega)) ?_
      refine q_S (S2 := (rdM (pSI (pSI (pSI (pSI (pSI (pSI S 88 (5 * m + 0) 2) 88 (5 * m + 1) 1) 88 (5 * m + 2) 0) 88 (5 * m + 3) 2) 88 (5 * m + 0) 0) 88 (5 * m + 1) ((numF (S.1 87) z 1 64 (p + 1)).1)) true (numF (S.1 87) z 1 64 (p + 1)).2)) rd_w ?_
      refine q_iload_n (pc := 95) (j := 2) rfl rfl ?_
      refine q_if_eq (pc := 96) 126 rfl (by decide) (fun h9 => absurd h9 (by decide : ¬ (1 : Int32) = 0)) (fun _ => ?_)
      refine q_aload_n (pc := 99) (j := 0) rfl rfl ?_
      refine q_bipush (pc := 100) 43 rfl (by decide) ?_
      refine q_callV (pc := 102) (as := [.int 43]) (rest := []) (b := 70) (st2 := [.int (pB (nxB (S.1 87) z ((numF (S.1 87) z 1 64 (p + 1)).2) 43))]) rfl ce_X9_takes ml_X9_277 im_X9_takes se_X9_takes hm.1 rfl rfl rfl (by decide) (Nat.le_of_ble_eq_true rfl) (sp_X9_takesT (S := (pSI (pSI (pSI (pSI (pSI (pSI S 88 (5 * m + 0) 2) 88 (5 * m + 1) 1) 88 (5 * m + 2) 0) 88 (5 * m + 3) 2) 88 (5 * m + 0) 0) 88 (5 * m + 1) ((numF (S.1 87) z 1 64 (p + 1)).1))) (p := (numF (S.1 87) z 1 64 (p + 1)).2) (b := (S.1 87)) ((pSI_ne (by decide)).trans ((pSI_ne (by decide)).trans ((pSI_ne (by decide)).trans ((pSI_ne (by decide)).trans ((pSI_ne (by decide)).trans ((pSI_ne (by decide)).trans rfl)))))) hm ((congrFun (pSI_ne (by decide)) 23).trans ((congrFun (pSI_ne (by decide)) 23).trans ((congrFun (pSI_ne (by decide)) 23).trans ((congrFun (pSI_ne (by decide)) 23).trans ((congrFun (pSI_ne (by decide)) 23).trans ((congrFun (pSI_ne (by decide)) 23).trans hz)))))) hz1 (by omega)) rfl ?_
      rcases Bool.eq_false_or_eq_true (nxB (S.1 87) z ((numF (S.1 87) z 1 64 (p + 1)).2) 43) with h4 | h4
      · refine q_st (st2 := [.int 1]) (by rw [h4]; rfl) (q_S (S2 := (rdM (pSI (pSI (pSI (pSI (pSI (pSI S 88 (5 * m + 0) 2) 88 (5 * m + 1) 1) 88 (5 * m + 2) 0) 88 (5 * m + 3) 2) 88 (5 * m + 0) 0) 88 (5 * m + 1) ((numF (S.1 87) z 1 64 (p + 1)).1)) true ((numF (S.1 87) z 1 64 (p + 1)).2 + 1))) (by rw [h4]; rfl) ?_); have hbh4 := nx_in h4
        refine q_if_eq (pc := 105) 126 rfl (by decide) (fun h9 => absurd h9 (by decide : ¬ (1 : Int32) = 0)) (fun _ => ?_)
        refine q_aload_n (pc := 108) (j := 0) rfl rfl ?_
        refine q_get (pc := 109) (a := 70) (v := .ref 88) rfl fl_X9_63 hm.1 rfl rfl ?_
        refine q_iload_n (pc := 112) (j := 1) rfl rfl ?_
        refine q_iconst (pc := 113) 2 rfl (by decide) ?_
        refine q_iadd (pc := 114) rfl ?_
        refine q_st (st2 := [.int (nI (5 * m + 2)), .ref 88]) (by rw [(show nI (5 * m) + 2 = nI (5 * m + 2) from nI_add (5 * m) 2)]) ?_
        refine q_aload_n (pc := 115) (j := 0) rfl rfl ?_
        refine q_iconst (pc := 116) 0 rfl (by decide) ?_
        refine q_bipush (pc := 117) 20 rfl (by decide) ?_
        refine q_callVG (pc := 119) (as := [.int 0, .int 20]) (rest := [.int (nI (5 * m + 2)), .ref 88]) (b := 70) rfl ce_X9_number ml_X9_280 im_X9_number se_X9_number hm.1 rfl rfl rfl (by decide) (Nat.le_of_ble_eq_true rfl) (sp_X9_numB0 (S := (pSI (pSI (pSI (pSI (pSI (pSI S 88 (5 * m + 0) 2) 88 (5 * m + 1) 1) 88 (5 * m + 2) 0) 88 (5 * m + 3) 2) 88 (5 * m + 0) 0) 88 (5 * m + 1) ((numF (S.1 87) z 1 64 (p + 1)).1))) (p := ((numF (S.1 87) z 1 64 (p + 1)).2 + 1)) (b := (S.1 87)) ((pSI_ne (by decide)).trans ((pSI_ne (by decide)).trans ((pSI_ne (by decide)).trans ((pSI_ne (by decide)).trans ((pSI_ne (by decide)).trans ((pSI_ne (by decide)).trans rfl)))))) hm ((congrFun (pSI_ne (by decide)) 23).trans ((congrFun (pSI_ne (by decide)) 23).trans ((congrFun (pSI_ne (by decide)) 23).trans ((congrFun (pSI_ne (by decide)) 23).trans ((congrFun (pSI_ne (by decide)) 23).trans ((congrFun (pSI_ne (by decide)) 23).trans hz)))))) hz1 (by omega) (by decide)) (fun r9 S9 h9 => ?_)
        obtain ⟨v2, hr9, hS9, hv2⟩ := h9
        subst hr9
        subst hS9
        rcases Bool.eq_false_or_eq_true (decide (¬ (numF (S.1 87) z 0 20 ((numF (S.1 87) z 1 64 (p + 1)).2 + 1)).1 = -1)) with h5 | h5
        · have hlh5 := numF_le (b := (S.1 87)) (z := z) (p := ((numF (S.1 87) z 1 64 (p + 1)).2 + 1)) (least := 0) (most := 20) (by omega); refine q_st (st2 := [.int ((numF (S.1 87) z 0 20 ((numF (S.1 87) z 1 64 (p + 1)).2 + 1)).1), .int (nI (5 * m + 2)), .ref 88]) (by rw [hv2 (of_decide_eq_true h5)]; rfl) (q_S (S2 := (rdM (pSI (pSI (pSI (pSI (pSI (pSI S 88 (5 * m + 0) 2) 88 (5 * m + 1) 1) 88 (5 * m + 2) 0) 88 (5 * m + 3) 2) 88 (5 * m + 0) 0) 88 (5 * m + 1) ((numF (S.1 87) z 1 64 (p + 1)).1)) true (numF (S.1 87) z 0 20 ((numF (S.1 87) z 1 64 (p + 1)).2 + 1)).2)) (by rw [h5]) ?_)
          refine q_iast (pc := 122) (a := 88) (5 * m + 2) rfl hm.2.2.2.2.2.2.2.2.2.2.2.2.2.2.2.2.2.2.1 (vp_in_nI (by omega) (by decide)) (nI_clamp (by omega)) ?_
          refine q_S (S2 := (rdM (pSI (pSI (pSI (pSI (pSI (pSI (pSI S 88 (5 * m + 0) 2) 88 (5 * m + 1) 1) 88 (5 * m + 2) 0) 88 (5 * m + 3) 2) 88 (5 * m + 0) 0) 88 (5 * m + 1) ((numF (S.1 87) z 1 64 (p + 1)).1)) 88 (5 * m + 2) ((numF (S.1 87) z 0 20 ((numF (S.1 87) z 1 64 (p + 1)).2 + 1)).1)) true (numF (S.1 87) z 0 20 ((numF (S.1 87) z 1 64 (p + 1)).2 + 1)).2)) rd_w ?_
          refine q_goto (pc := 123) 183 rfl (by decide) ?_
          refine q_iconst (pc := 183) 0 rfl (by decide) ?_
          refine q_istore_n (pc := 184) (j := 3) [some (.ref 70), some (.int (nI (5 * m))), some (.int 1), some (.int 0)] rfl (by decide) rfl ?_
          refine lp_X9_signA (E := (pSI (pSI (pSI (pSI (pSI (pSI (pSI S 88 (5 * m + 0) 2) 88 (5 * m + 1) 1) 88 (5 * m + 2) 0) 88 (5 * m + 3) 2) 88 (5 * m + 0) 0) 88 (5 * m + 1) ((numF (S.1 87) z 1 64 (p + 1)).1)) 88 (5 * m + 2) ((numF (S.1 87) z 0 20 ((numF (S.1 87) z 1 64 (p + 1)).2 + 1)).1))) (b := (S.1 87)) (z := z) (N9 := (adF (S.1 87) z 9 ((numF (S.1 87) z 0 20 ((numF (S.1 87) z 1 64 (p + 1)).2 + 1)).2))) (P9 := (numF (S.1 87) z 0 20 ((numF (S.1 87) z 1 64 (p + 1)).2 + 1)).2 + (adF (S.1 87) z 9 ((numF (S.1 87) z 0 20 ((numF (S.1 87) z 1 64 (p + 1)).2 + 1)).2))) (by decide) hm ((pSI_ne (by decide)).trans ((pSI_ne (by decide)).trans ((pSI_ne (by decide)).trans ((pSI_ne (by decide)).trans ((pSI_ne (by decide)).trans ((pSI_ne (by decide)).trans ((pSI_ne (by decide)).trans rfl))))))) ((congrFun (pSI_ne (by decide)) 23).trans ((congrFun (pSI_ne (by decide)) 23).trans ((congrFun (pSI_ne (by decide)) 23).trans ((congrFun (pSI_ne (by decide)) 23).trans ((congrFun (pSI_ne (by decide)) 23).trans ((congrFun (pSI_ne (by decide)) 23).trans ((congrFun (pSI_ne (by decide)) 23).trans hz))))))) hz1 ?_ 9 0 ((numF (S.1 87) z 0 20 ((numF (S.1 87) z 1 64 (p + 1)).2 + 1)).2) rfl (by omega) (Nat.zero_add _) rfl
          refine q_aload_n (pc := 206) (j := 0) rfl rfl ?_
          refine q_get (pc := 207) (a := 70) (v := .ref 88) rfl fl_X9_63 hm.1 rfl rfl ?_
          refine q_iload_n (pc := 210) (j := 1) rfl rfl ?_
          refine q_iconst (pc := 211) 4 rfl (by decide) ?_
          refine q_iadd (pc := 212) rfl ?_
          refine q_st (st2 := [.int (nI (5 * m + 4)), .ref 88]) (by rw [(show nI (5 * m) + 4 = nI (5 * m + 4) from nI_add (5 * m) 4)]) ?_
          refine q_iload_n (pc := 213) (j := 3) rfl rfl ?_
          refine q_iast (pc := 214) (a := 88) (5 * m + 4) rfl hm.2.2.2.2.2.2.2.2.2.2.2.2.2.2.2.2.2.2.1 (vp_in_nI (by omega) (by decide)) (nI_clamp (by omega)) ?_
          refine q_S (S2 := (rdM (pSI (pSI (pSI (pSI (pSI (pSI (pSI (pSI S 88 (5 * m + 0) 2) 88 (5 * m + 1) 1) 88 (5 * m + 2) 0) 88 (5 * m + 3) 2) 88 (5 * m + 0) 0) 88 (5 * m + 1) ((numF (S.1 87) z 1 64 (p + 1)).1)) 88 (5 * m + 2) ((numF (S.1 87) z 0 20 ((numF (S.1 87) z 1 64 (p + 1)).2 + 1)).1)) 88 (5 * m + 4) (nI (adF (S.1 87) z 9 ((numF (S.1 87) z 0 20 ((numF (S.1 87) z 1 64 (p + 1)).2 + 1)).2)))) true ((numF (S.1 87) z 0 20 ((numF (S.1 87) z 1 64 (p + 1)).2 + 1)).2 + (adF (S.1 87) z 9 ((numF (S.1 87) z 0 20 ((numF (S.1 87) z 1 64 (p + 1)).2 + 1)).2))))) rd_w ?_
          refine q_aload_n (pc := 215) (j := 0) rfl rfl ?_
          refine q_dup (pc := 216) rfl rfl ?_
          refine q_get (pc := 217) (a := 70) (v := .int ((rdM (pSI (pSI (pSI (pSI (pSI (pSI (pSI (pSI S 88 (5 * m + 0) 2) 88 (5 * m + 1) 1) 88 (5 * m + 2) 0) 88 (5 * m + 3) 2) 88 (5 * m + 0) 0) 88 (5 * m + 1) ((numF (S.1 87) z 1 64 (p + 1)).1)) 88 (5 * m + 2) ((numF (S.1 87) z 0 20 ((numF (S.1 87) z 1 64 (p + 1)).2 + 1)).1)) 88 (5 * m + 4) (nI (adF (S.1 87) z 9 ((numF (S.1 87) z 0 20 ((numF (S.1 87) z 1 64 (p + 1)).2 + 1)).2)))) true ((numF (S.1 87) z 0 20 ((numF (S.1 87) z 1 64 (p + 1)).2 + 1)).2 + (adF (S.1 87) z 9 ((numF (S.1 87) z 0 20 ((numF (S.1 87) z 1 64 (p + 1)).2 + 1)).2)))).1 70 27)) rfl fl_X9_274 hm.1 rfl rfl ?_
          refine q_st (st2 := [.int (nI m), .ref 70]) (by rw [(show ((rdM (pSI (pSI (pSI (pSI (pSI (pSI (pSI (pSI S 88 (5 * m + 0) 2) 88 (5 * m + 1) 1) 88 (5 * m + 2) 0) 88 (5 * m + 3) 2) 88 (5 * m + 0) 0) 88 (5 * m + 1) ((numF (S.1 87) z 1 64 (p + 1)).1)) 88 (5 * m + 2) ((numF (S.1 87) z 0 20 ((numF (S.1 87) z 1 64 (p + 1)).2 + 1)).1)) 88 (5 * m + 4) (nI (adF (S.1 87) z 9 ((numF (S.1 87) z 0 20 ((numF (S.1 87) z 1 64 (p + 1)).2 + 1)).2)))) true ((numF (S.1 87) z 0 20 ((numF (S.1 87) z 1 64 (p + 1)).2 + 1)).2 + (adF (S.1 87) z 9 ((numF (S.1 87) z 0 20 ((numF (S.1 87) z 1 64 (p + 1)).2 + 1)).2)))).1 70 27) = nI m from (rd_j (by decide) (by decide)).trans ((congrFun (pSI_ne (by decide)) 27).trans ((congrFun (pSI_ne (by decide)) 27).trans ((congrFun (pSI_ne (by decide)) 27).trans ((congrFun (pSI_ne (by decide)) 27).trans ((congrFun (pSI_ne (by decide)) 27).trans ((congrFun (pSI_ne (by decide)) 27).trans ((congrFun (pSI_ne (by decide)) 27).trans ((congrFun (pSI_ne (by decide)) 27).trans h27)))))))))]) ?_
          refine q_iconst (pc := 220) 1 rfl (by decide) ?_
          refine q_iadd (pc := 221) rfl ?_
          refine q_st (st2 := [.int (nI (m + 1)), .ref 70]) (by rw [nI_1 m]) ?_
          refine q_putI (pc := 222) (a := 70) rfl fl_X9_274 hm.1 rfl (fun _ h9 => by cases h9; rfl) rfl rfl ?_
          refine q_S (S2 := (rdM (pSI (pSI (pSI (pSI (pSI (pSI (pSI (pSI (pSI S 88 (5 * m + 0) 2) 88 (5 * m + 1) 1) 88 (5 * m + 2) 0) 88 (5 * m + 3) 2) 88 (5 * m + 0) 0) 88 (5 * m + 1) ((numF (S.1 87) z 1 64 (p + 1)).1)) 88 (5 * m + 2) ((numF (S.1 87) z 0 20 ((numF (S.1 87) z 1 64 (p + 1)).2 + 1)).1)) 88 (5 * m + 4) (nI (adF (S.1 87) z 9 ((numF (S.1 87) z 0 20 ((numF (S.1 87) z 1 64 (p + 1)).2 + 1)).2)))) 70 27 (nI (m + 1))) true ((numF (S.1 87) z 0 20 ((numF (S.1 87) z 1 64 (p + 1)).2 + 1)).2 + (adF (S.1 87) z 9 ((numF (S.1 87) z 0 20 ((numF (S.1 87) z 1 64 (p + 1)).2 + 1)).2))))) rd_27 ?_
          exact q_vret (pc := 225) rfl rfl ⟨rfl, sgP_l (show sgF (S.1 87) z p = .inl (0, (numF (S.1 87) z 1 64 (p + 1)).1, (numF (S.1 87) z 0 20 ((numF (S.1 87) z 1 64 (p + 1)).2 + 1)).1, (numF (S.1 87) z 0 20 ((numF (S.1 87) z 1 64 (p + 1)).2 + 1)).2) by rw [sgF, if_pos h1, if_neg (of_decide_eq_true h3), if_pos h4, if_neg (of_decide_eq_true h5)]) rfl (sgQ_27 (sgQ_w (sgQ_w (sgQ_w (sgQ_w (sgQ_w (sgQ_w (sgQ_w (sgQ_w sgQ_0))))))))) pSI_at (by simp [sgE, pSI, pU])⟩
        · have hlh5 := numF_le (b := (S.1 87)) (z := z) (p := ((numF (S.1 87) z 1 64 (p + 1)).2 + 1)) (least := 0) (most := 20) (by omega); refine q_S (S2 := (rdM (pSI (pSI (pSI (pSI (pSI (pSI S 88 (5 * m + 0) 2) 88 (5 * m + 1) 1) 88 (5 * m + 2) 0) 88 (5 * m + 3) 2) 88 (5 * m + 0) 0) 88 (5 * m + 1) ((numF (S.1 87) z 1 64 (p + 1)).1)) false (numF (S.1 87) z 0 20 ((numF (S.1 87) z 1 64 (p + 1)).2 + 1)).2)) (by rw [h5]) ?_
          refine q_iast (pc := 122) (a := 88) (5 * m + 2) rfl hm.2.2.2.2.2.2.2.2.2.2.2.2.2.2.2.2.2.2.1 (vp_in_nI (by omega) (by decide)) (nI_clamp (by omega)) ?_
          refine q_S (S2 := (rdM (pSI (pSI (pSI (pSI (pSI (pSI (pSI S 88 (5 * m + 0) 2) 88 (5 * m + 1) 1) 88 (5 * m + 2) 0) 88 (5 * m + 3) 2) 88 (5 * m + 0) 0) 88 (5 * m + 1) ((numF (S.1 87) z 1 64 (p + 1)).1)) 88 (5 * m + 2) v2) false (numF (S.1 87) z 0 20 ((numF (S.1 87) z 1 64 (p + 1)).2 + 1)).2)) rd_w ?_
          refine q_goto (pc := 123) 183 rfl (by decide) ?_
          refine q_iconst (pc := 183) 0 rfl (by decide) ?_
          refine q_istore_n (pc := 184) (j := 3) [some (.ref 70), some (.int (nI (5 * m))), some (.int 1), some (.int 0)] rfl (by decide) rfl ?_
          refine q_iload_n (pc := 185) (j := 3) rfl rfl ?_
          refine q_bipush (pc := 186) 9 rfl (by decide) ?_
          refine q_icmp_ge (pc := 188) 206 rfl (by decide) (fun h9 => absurd h9 (by decide : ¬ (9 : Int32) ≤ (0 : Int32))) (fun _ => ?_)
          refine q_aload_n (pc := 191) (j := 0) rfl rfl ?_
          refine q_bipush (pc := 192) 39 rfl (by decide) ?_
          refine q_callV (pc := 194) (as := [.int 39]) (rest := []) (b := 70) (st2 := [.int 0]) rfl ce_X9_takes ml_X9_277 im_X9_takes se_X9_takes hm.1 rfl rfl rfl (by decide) (Nat.le_of_ble_eq_true rfl) (sp_X9_takesF (S := (pSI (pSI (pSI (pSI (pSI (pSI (pSI S 88 (5 * m + 0) 2) 88 (5 * m + 1) 1) 88 (5 * m + 2) 0) 88 (5 * m + 3) 2) 88 (5 * m + 0) 0) 88 (5 * m + 1) ((numF (S.1 87) z 1 64 (p + 1)).1)) 88 (5 * m + 2) v2)) (p := (numF (S.1 87) z 0 20 ((numF (S.1 87) z 1 64 (p + 1)).2 + 1)).2) hm ((congrFun (pSI_ne (by decide)) 23).trans ((congrFun (pSI_ne (by decide)) 23).trans ((congrFun (pSI_ne (by decide)) 23).trans ((congrFun (pSI_ne (by decide)) 23).trans ((congrFun (pSI_ne (by decide)) 23).trans ((congrFun (pSI_ne (by decide)) 23).trans ((congrFun (pSI_ne (by decide)) 23).trans hz))))))) hz1 (by omega)) rfl ?_
          refine q_if_eq (pc := 197) 206 rfl (by decide) (fun _ => ?_) (fun h9 => absurd (by decide : (0 : Int32) = 0) h9)
          refine q_aload_n (pc := 206) (j := 0) rfl rfl ?_
          refine q_get (pc := 207) (a := 70) (v := .ref 88) rfl fl_X9_63 hm.1 rfl rfl ?_
          refine q_iload_n (pc := 210) (j := 1) rfl rfl ?_
          refine q_iconst (pc := 211) 4 rfl (by decide) ?_
          refine q_iadd (pc := 212) rfl ?_
          refine q_st (st2 := [.int (nI (5 * m + 4)), .ref 88]) (by rw [(show nI (5 * m) + 4 = nI (5 * m + 4) from nI_add (5 * m) 4)]) ?_
          refine q_iload_n (pc := 213) (j := 3) rfl rfl ?_
          refine q_iast (pc := 214) (a := 88) (5 * m + 4) rfl hm.2.2.2.2.2.2.2.2.2.2.2.2.2.2.2.2.2.2.1 (vp_in_nI (by omega) (by decide)) (nI_clamp (by omega)) ?_
          refine q_S (S2 := (rdM (pSI (pSI (pSI (pSI (pSI (pSI (pSI (pSI S 88 (5 * m + 0) 2) 88 (5 * m + 1) 1) 88 (5 * m + 2) 0) 88 (5 * m + 3) 2) 88 (5 * m + 0) 0) 88 (5 * m + 1) ((numF (S.1 87) z 1 64 (p + 1)).1)) 88 (5 * m + 2) v2) 88 (5 * m + 4) 0) false (numF (S.1 87) z 0 20 ((numF (S.1 87) z 1 64 (p + 1)).2 + 1)).2)) rd_w ?_
          refine q_aload_n (pc := 215) (j := 0) rfl rfl ?_
          refine q_dup (pc := 216) rfl rfl ?_
          refine q_get (pc := 217) (a := 70) (v := .int ((rdM (pSI (pSI (pSI (pSI (pSI (pSI (pSI (pSI S 88 (5 * m + 0) 2) 88 (5 * m + 1) 1) 88 (5 * m + 2) 0) 88 (5 * m + 3) 2) 88 (5 * m + 0) 0) 88 (5 * m + 1) ((numF (S.1 87) z 1 64 (p + 1)).1)) 88 (5 * m + 2) v2) 88 (5 * m + 4) 0) false (numF (S.1 87) z 0 20 ((numF (S.1 87) z 1 64 (p + 1)).2 + 1)).2).1 70 27)) rfl fl_X9_274 hm.1 rfl rfl ?_
          refine q_st (st2 := [.int (nI m), .ref 70]) (by rw [(show ((rdM (pSI (pSI (pSI (pSI (pSI (pSI (pSI (pSI S 88 (5 * m + 0) 2) 88 (5 * m + 1) 1) 88 (5 * m + 2) 0) 88 (5 * m + 3) 2) 88 (5 * m + 0) 0) 88 (5 * m + 1) ((numF (S.1 87) z 1 64 (p + 1)).1)) 88 (5 * m + 2) v2) 88 (5 * m + 4) 0) false (numF (S.1 87) z 0 20 ((numF (S.1 87) z 1 64 (p + 1)).2 + 1)).2).1 70 27) = nI m from (rd_j (by decide) (by decide)).trans ((congrFun (pSI_ne (by decide)) 27).trans ((congrFun (pSI_ne (by decide)) 27).trans ((congrFun (pSI_ne (by decide)) 27).trans ((congrFun (pSI_ne (by decide)) 27).trans ((congrFun (pSI_ne (by decide)) 27).trans ((congrFun (pSI_ne (by decide)) 27).trans ((congrFun (pSI_ne (by decide)) 27).trans ((congrFun (pSI_ne (by decide)) 27).trans h27)))))))))]) ?_
          refine q_iconst (pc := 220) 1 rfl (by decide) ?_
          refine q_iadd (pc := 221) rfl ?_
          refine q_st (st2 := [.int (nI (m + 1)), .ref 70]) (by rw [nI_1 m]) ?_
          refine q_putI (pc := 222) (a := 70) rfl fl_X9_274 hm.1 rfl (fun _ h9 => by cases h9; rfl) rfl rfl ?_
          refine q_S (S2 := (rdM (pSI (pSI (pSI (pSI (pSI (pSI (pSI (pSI (pSI S 88 (5 * m + 0) 2) 88 (5 * m + 1) 1) 88 (5 * m + 2) 0) 88 (5 * m + 3) 2) 88 (5 * m + 0) 0) 88 (5 * m + 1) ((numF (S.1 87) z 1 64 (p + 1)).1)) 88 (5 * m + 2) v2) 88 (5 * m + 4) 0) 70 27 (nI (m + 1))) false (numF (S.1 87) z 0 20 ((numF (S.1 87) z 1 64 (p + 1)).2 + 1)).2)) rd_27 ?_
          exact q_vret (pc := 225) rfl rfl ⟨rfl, sgP_r (show sgF (S.1 87) z p = .inr (numF (S.1 87) z 0 20 ((numF (S.1 87) z 1 64 (p + 1)).2 + 1)).2 by rw [sgF, if_pos h1, if_neg (of_decide_eq_true h3), if_pos h4, if_pos (Classical.not_not.mp (of_decide_eq_false h5))]) rfl (sgQ_27 (sgQ_w (sgQ_w (sgQ_w (sgQ_w (sgQ_w (sgQ_w (sgQ_w (sgQ_w sgQ_0))))))))) pSI_at⟩
      · refine q_st (st2 := [.int 0]) (by rw [h4]; rfl) (q_S (S2 := (rdM (pSI (pSI (pSI (pSI (pSI (pSI S 88 (5 * m + 0) 2) 88 (5 * m + 1) 1) 88 (5 * m + 2) 0) 88 (5 * m + 3) 2) 88 (5 * m + 0) 0) 88 (5 * m + 1) ((numF (S.1 87) z 1 64 (p + 1)).1)) true (numF (S.1 87) z 1 64 (p + 1)).2)) (by rw [h4]; rfl) ?_)
        refine q_if_eq (pc := 105) 126 rfl (by decide) (fun _ => ?_) (fun h9 => absurd (by decide : (0 : Int32) = 0) h9)
        refine q_iload_n (pc := 126) (j := 2) rfl rfl ?_
        refine q_if_eq (pc := 127) 183 rfl (by decide) (fun h9 => absurd h9 (by decide : ¬ (1 : Int32) = 0)) (fun _ => ?_)
        refine q_aload_n (pc := 130) (j := 0) rfl rfl ?_
        refine q_bipush (pc := 131) 45 rfl (by decide) ?_
        refine q_callV (pc := 133) (as := [.int 45]) (rest := []) (b := 70) (st2 := [.int (pB (nxB (S.1 87) z ((numF (S.1 87) z 1 64 (p + 1)).2) 45))]) rfl ce_X9_takes ml_X9_277 im_X9_takes se_X9_takes hm.1 rfl rfl rfl (by decide) (Nat.le_of_ble_eq_true rfl) (sp_X9_takesT (S := (pSI (pSI (pSI (pSI (pSI (pSI S 88 (5 * m + 0) 2) 88 (5 * m + 1) 1) 88 (5 * m + 2) 0) 88 (5 * m + 3) 2) 88 (5 * m + 0) 0) 88 (5 * m + 1) ((numF (S.1 87) z 1 64 (p + 1)).1))) (p := (numF (S.1 87) z 1 64 (p + 1)).2) (b := (S.1 87)) ((pSI_ne (by decide)).trans ((pSI_ne (by decide)).trans ((pSI_ne (by decide)).trans ((pSI_ne (by decide)).trans ((pSI_ne (by decide)).trans ((pSI_ne (by decide)).trans rfl)))))) hm ((congrFun (pSI_ne (by decide)) 23).trans ((congrFun (pSI_ne (by decide)) 23).trans ((congrFun (pSI_ne (by decide)) 23).trans ((congrFun (pSI_ne (by decide)) 23).trans ((congrFun (pSI_ne (by decide)) 23).trans ((congrFun (pSI_ne (by decide)) 23).trans hz)))))) hz1 (by omega)) rfl ?_
        rcases Bool.eq_false_or_eq_true (nxB (S.1 87) z ((numF (S.1 87) z 1 64 (p + 1)).2) 45) with h6 | h6
        · refine q_st (st2 := [.int 1]) (by rw [h6]; rfl) (q_S (S2 := (rdM (pSI (pSI (pSI (pSI (pSI (pSI S 88 (5 * m + 0) 2) 88 (5 * m + 1) 1) 88 (5 * m + 2) 0) 88 (5 * m + 3) 2) 88 (5 * m + 0) 0) 88 (5 * m + 1) ((numF (S.1 87) z 1 64 (p + 1)).1)) true ((numF (S.1 87) z 1 64 (p + 1)).2 + 1))) (by rw [h6]; rfl) ?_); have hbh6 := nx_in h6
          refine q_if_eq (pc := 136) 183 rfl (by decide) (fun h9 => absurd h9 (by decide : ¬ (1 : Int32) = 0)) (fun _ => ?_)
          refine q_aload_n (pc := 139) (j := 0) rfl rfl ?_
          refine q_get (pc := 140) (a := 70) (v := .ref 88) rfl fl_X9_63 hm.1 rfl rfl ?_
          refine q_iload_n (pc := 143) (j := 1) rfl rfl ?_
          refine q_iconst (pc := 144) 2 rfl (by decide) ?_
          refine q_iadd (pc := 145) rfl ?_
          refine q_st (st2 := [.int (nI (5 * m + 2)), .ref 88]) (by rw [(show nI (5 * m) + 2 = nI (5 * m + 2) from nI_add (5 * m) 2)]) ?_
          refine q_aload_n (pc := 146) (j := 0) rfl rfl ?_
          refine q_iconst (pc := 147) 1 rfl (by decide) ?_
          refine q_bipush (pc := 148) 12 rfl (by decide) ?_
          refine q_callVG (pc := 150) (as := [.int 1, .int 12]) (rest := [.int (nI (5 * m + 2)), .ref 88]) (b := 70) rfl ce_X9_number ml_X9_280 im_X9_number se_X9_number hm.1 rfl rfl rfl (by decide) (Nat.le_of_ble_eq_true rfl) (sp_X9_numB1 (S := (pSI (pSI (pSI (pSI (pSI (pSI S 88 (5 * m + 0) 2) 88 (5 * m + 1) 1) 88 (5 * m + 2) 0) 88 (5 * m + 3) 2) 88 (5 * m + 0) 0) 88 (5 * m + 1) ((numF (S.1 87) z 1 64 (p + 1)).1))) (p := ((numF (S.1 87) z 1 64 (p + 1)).2 + 1)) (b := (S.1 87)) ((pSI_ne (by decide)).trans ((pSI_ne (by decide)).trans ((pSI_ne (by decide)).trans ((pSI_ne (by decide)).trans ((pSI_ne (by decide)).trans ((pSI_ne (by decide)).trans rfl)))))) hm ((congrFun (pSI_ne (by decide)) 23).trans ((congrFun (pSI_ne (by decide)) 23).trans ((congrFun (pSI_ne (by decide)) 23).trans ((congrFun (pSI_ne (by decide)) 23).trans ((congrFun (pSI_ne (by decide)) 23).trans ((congrFun (pSI_ne (by decide)) 23).trans hz)))))) hz1 (by omega) (by decide)) (fun r9 S9 h9 => ?_)
          obtain ⟨v3, hr9, hS9, hv3⟩ := h9
          subst hr9
          subst hS9
          rcases Bool.eq_false_or_eq_true (decide (¬ (numF (S.1 87) z 1 12 ((numF (S.1 87) z 1 64 (p + 1)).2 + 1)).1 = -1)) with h7 | h7
          · have hlh7 := numF_le (b := (S.1 87)) (z := z) (p := ((numF (S.1 87) z 1 64 (p + 1)).2 + 1)) (least := 1) (most := 12) (by omega); refine q_st (st2 := [.int ((numF (S.1 87) z 1 12 ((numF (S.1 87) z 1 64 (p + 1)).2 + 1)).1), .int (nI (5 * m + 2)), .ref 88]) (by rw [hv3 (of_decide_eq_true h7)]; rfl) (q_S (S2 := (rdM (pSI (pSI (pSI (pSI (pSI (pSI S 88 (5 * m + 0) 2) 88 (5 * m + 1) 1) 88 (5 * m + 2) 0) 88 (5 * m + 3) 2) 88 (5 * m + 0) 0) 88 (5 * m + 1) ((numF (S.1 87) z 1 64 (p + 1)).1)) true (numF (S.1 87) z 1 12 ((numF (S.1 87) z 1 64 (p + 1)).2 + 1)).2)) (by rw [h7]) ?_)
            refine q_ineg (pc := 153) rfl ?_
            refine q_iast (pc := 154) (a := 88) (5 * m + 2) rfl hm.2.2.2.2.2.2.2.2.2.2.2.2.2.2.2.2.2.2.1 (vp_in_nI (by omega) (by decide)) (nI_clamp (by omega)) ?_
            refine q_S (S2 := (rdM (pSI (pSI (pSI (pSI (pSI (pSI (pSI S 88 (5 * m + 0) 2) 88 (5 * m + 1) 1) 88 (5 * m + 2) 0) 88 (5 * m + 3) 2) 88 (5 * m + 0) 0) 88 (5 * m + 1) ((numF (S.1 87) z 1 64 (p + 1)).1)) 88 (5 * m + 2) (-((numF (S.1 87) z 1 12 ((numF (S.1 87) z 1 64 (p + 1)).2 + 1)).1))) true (numF (S.1 87) z 1 12 ((numF (S.1 87) z 1 64 (p + 1)).2 + 1)).2)) rd_w ?_
            refine q_goto (pc := 155) 183 rfl (by decide) ?_
            refine q_iconst (pc := 183) 0 rfl (by decide) ?_
            refine q_istore_n (pc := 184) (j := 3) [some (.ref 70), some (.int (nI (5 * m))), some (.int 1), some (.int 0)] rfl (by decide) rfl ?_
            refine lp_X9_signA (E := (pSI (pSI (pSI (pSI (pSI (pSI (pSI S 88 (5 * m + 0) 2) 88 (5 * m + 1) 1) 88 (5 * m + 2) 0) 88 (5 * m + 3) 2) 88 (5 * m + 0) 0) 88 (5 * m + 1) ((numF (S.1 87) z 1 64 (p + 1)).1)) 88 (5 * m + 2) (-((numF (S.1 87) z 1 12 ((numF (S.1 87) z 1 64 (p + 1)).2 + 1)).1)))) (b := (S.1 87)) (z := z) (N9 := (adF (S.1 87) z 9 ((numF (S.1 87) z 1 12 ((numF (S.1 87) z 1 64 (p + 1)).2 + 1)).2))) (P9 := (numF (S.1 87) z 1 12 ((numF (S.1 87) z 1 64 (p + 1)).2 + 1)).2 + (adF (S.1 87) z 9 ((numF (S.1 87) z 1 12 ((numF (S.1 87) z 1 64 (p + 1)).2 + 1)).2))) (by decide) hm ((pSI_ne (by decide)).trans ((pSI_ne (by decide)).trans ((pSI_ne (by decide)).trans ((pSI_ne (by decide)).trans ((pSI_ne (by decide)).trans ((pSI_ne (by decide)).trans ((pSI_ne (by decide)).trans rfl))))))) ((congrFun (pSI_ne (by decide)) 23).trans ((congrFun (pSI_ne (by decide)) 23).trans ((congrFun (pSI_ne (by decide)) 23).trans ((congrFun (pSI_ne (by decide)) 23).trans ((congrFun (pSI_ne (by decide)) 23).trans ((congrFun (pSI_ne (by decide)) 23).trans ((congrFun (pSI_ne (by decide)) 23).trans hz))))))) hz1 ?_ 9 0 ((numF (S.1 87) z 1 12 ((numF (S.1 87) z 1 64 (p + 1)).2 + 1)).2) rfl (by omega) (Nat.zero_add _) rfl
            refine q_aload_n (pc := 206) (j := 0) rfl rfl ?_
            refine q_get (pc := 207) (a := 70) (v := .ref 88) rfl fl_X9_63 hm.1 rfl rfl ?_
            refine q_iload_n (pc := 210) (j := 1) rfl rfl ?_
            refine q_iconst (pc := 211) 4 rfl (by decide) ?_
            refine q_iadd (pc := 212) rfl ?_
            refine q_st (st2 := [.int (nI (5 * m + 4)), .ref 88]) (by rw [(show nI (5 * m) + 4 = nI (5 * m + 4) from nI_add (5 * m) 4)]) ?_
            refine q_iload_n (pc := 213) (j := 3) rfl rfl ?_
            refine q_iast (pc := 214) (a := 88) (5 * m + 4) rfl hm.2.2.2.2.2.2.2.2.2.2.2.2.2.2.2.2.2.2.1 (vp_in_nI (by omega) (by decide)) (nI_clamp (by omega)) ?_
            refine q_S (S2 := (rdM (pSI (pSI (pSI (pSI (pSI (pSI (pSI (pSI S 88 (5 * m + 0) 2) 88 (5 * m + 1) 1) 88 (5 * m + 2) 0) 88 (5 * m + 3) 2) 88 (5 * m + 0) 0) 88 (5 * m + 1) ((numF (S.1 87) z 1 64 (p + 1)).1)) 88 (5 * m + 2) (-((numF (S.1 87) z 1 12 ((numF (S.1 87) z 1 64 (p + 1)).2 + 1)).1))) 88 (5 * m + 4) (nI (adF (S.1 87) z 9 ((numF (S.1 87) z 1 12 ((numF (S.1 87) z 1 64 (p + 1)).2 + 1)).2)))) true ((numF (S.1 87) z 1 12 ((numF (S.1 87) z 1 64 (p + 1)).2 + 1)).2 + (adF (S.1 87) z 9 ((numF (S.1 87) z 1 12 ((numF (S.1 87) z 1 64 (p + 1)).2 + 1)).2))))) rd_w ?_
            refine q_aload_n (pc := 215) (j := 0) rfl rfl ?_
            refine q_dup (pc := 216) rfl rfl ?_
            refine q_get (pc := 217) (a := 70) (v := .int ((rdM (pSI (pSI (pSI (pSI (pSI (pSI (pSI (pSI S 88 (5 * m + 0) 2) 88 (5 * m + 1) 1) 88 (5 * m + 2) 0) 88 (5 * m + 3) 2) 88 (5 * m + 0) 0) 88 (5 * m + 1) ((numF (S.1 87) z 1 64 (p + 1)).1)) 88 (5 * m + 2) (-((numF (S.1 87) z 1 12 ((numF (S.1 87) z 1 64 (p + 1)).2 + 1)).1))) 88 (5 * m + 4) (nI (adF (S.1 87) z 9 ((numF (S.1 87) z 1 12 ((numF (S.1 87) z 1 64 (p + 1)).2 + 1)).2)))) true ((numF (S.1 87) z 1 12 ((numF (S.1 87) z 1 64 (p + 1)).2 + 1)).2 + (adF (S.1 87) z 9 ((numF (S.1 87) z 1 12 ((numF (S.1 87) z 1 64 (p + 1)).2 + 1)).2)))).1 70 27)) rfl fl_X9_274 hm.1 rfl rfl ?_
            refine q_st (st2 := [.int (nI m), .ref 70]) (by rw [(show ((rdM (pSI (pSI (pSI (pSI (pSI (pSI (pSI (pSI S 88 (5 * m + 0) 2) 88 (5 * m + 1) 1) 88 (5 * m + 2) 0) 88 (5 * m + 3) 2) 88 (5 * m + 0) 0) 88 (5 * m + 1) ((numF (S.1 87) z 1 64 (p + 1)).1)) 88 (5 * m + 2) (-((numF (S.1 87) z 1 12 ((numF (S.1 87) z 1 64 (p + 1)).2 + 1)).1))) 88 (5 * m + 4) (nI (adF (S.1 87) z 9 ((numF (S.1 87) z 1 12 ((numF (S.1 87) z 1 64 (p + 1)).2 + 1)).2)))) true ((numF (S.1 87) z 1 12 ((numF (S.1 87) z 1 64 (p + 1)).2 + 1)).2 + (adF (S.1 87) z 9 ((numF (S.1 87) z 1 12 ((numF (S.1 87) z 1 64 (p + 1)).2 + 1)).2)))).1 70 27) = nI m from (rd_j (by decide) (by decide)).trans ((congrFun (pSI_ne (by decide)) 27).trans ((congrFun (pSI_ne (by decide)) 27).trans ((congrFun (pSI_ne (by decide)) 27).trans ((congrFun (pSI_ne (by decide)) 27).trans ((congrFun (pSI_ne (by decide)) 27).trans ((congrFun (pSI_ne (by decide)) 27).trans ((congrFun (pSI_ne (by decide)) 27).trans ((congrFun (pSI_ne (by decide)) 27).trans h27)))))))))]) ?_
            refine q_iconst (pc := 220) 1 rfl (by decide) ?_
            refine q_iadd (pc := 221) rfl ?_
            refine q_st (st2 := [.int (nI (m + 1)), .ref 70]) (by rw [nI_1 m]) ?_
            refine q_putI (pc := 222) (a := 70) rfl fl_X9_274 hm.1 rfl (fun _ h9 => by cases h9; rfl) rfl rfl ?_
            refine q_S (S2 := (rdM (pSI (pSI (pSI (pSI (pSI (pSI (pSI (pSI (pSI S 88 (5 * m + 0) 2) 88 (5 * m + 1) 1) 88 (5 * m + 2) 0) 88 (5 * m + 3) 2) 88 (5 * m + 0) 0) 88 (5 * m + 1) ((numF (S.1 87) z 1 64 (p + 1)).1)) 88 (5 * m + 2) (-((numF (S.1 87) z 1 12 ((numF (S.1 87) z 1 64 (p + 1)).2 + 1)).1))) 88 (5 * m + 4) (nI (adF (S.1 87) z 9 ((numF (S.1 87) z 1 12 ((numF (S.1 87) z 1 64 (p + 1)).2 + 1)).2)))) 70 27 (nI (m + 1))) true ((numF (S.1 87) z 1 12 ((numF (S.1 87) z 1 64 (p + 1)).2 + 1)).2 + (adF (S.1 87) z 9 ((numF (S.1 87) z 1 12 ((numF (S.1 87) z 1 64 (p + 1)).2 + 1)).2))))) rd_27 ?_
            exact q_vret (pc := 225) rfl rfl ⟨rfl, sgP_l (show sgF (S.1 87) z p = .inl (0, (numF (S.1 87) z 1 64 (p + 1)).1, 0 - (numF (S.1 87) z 1 12 ((numF (S.1 87) z 1 64 (p + 1)).2 + 1)).1, (numF (S.1 87) z 1 12 ((numF (S.1 87) z 1 64 (p + 1)).2 + 1)).2) by rw [sgF, if_pos h1, if_neg (of_decide_eq_true h3), if_neg (show ¬ _ = true from by rw [h4]; decide), if_pos h6, if_neg (of_decide_eq_true h7)]) rfl (sgQ_27 (sgQ_w (sgQ_w (sgQ_w (sgQ_w (sgQ_w (sgQ_w (sgQ_w (sgQ_w sgQ_0))))))))) pSI_at (by simp [sgE, pSI, pU])⟩
          · have hlh7 := numF_le (b := (S.1 87)) (z := z) (p := ((numF (S.1 87) z 1 64 (p + 1)).2 + 1)) (least := 1) (most := 12) (by omega); refine q_S (S2 := (rdM (pSI (pSI (pSI (pSI (pSI (pSI S 88 (5 * m + 0) 2) 88 (5 * m + 1) 1) 88 (5 * m + 2) 0) 88 (5 * m + 3) 2) 88 (5 * m + 0) 0) 88 (5 * m + 1) ((numF (S.1 87) z 1 64 (p + 1)).1)) false (numF (S.1 87) z 1 12 ((numF (S.1 87) z 1 64 (p + 1)).2 + 1)).2)) (by rw [h7]) ?_
            refine q_ineg (pc := 153) rfl ?_
            refine q_iast (pc := 154) (a := 88) (5 * m + 2) rfl hm.2.2.2.2.2.2.2.2.2.2.2.2.2.2.2.2.2.2.1 (vp_in_nI (by omega) (by decide)) (nI_clamp (by omega)) ?_
            refine q_S (S2 := (rdM (pSI (pSI (pSI (pSI (pSI (pSI (pSI S 88 (5 * m + 0) 2) 88 (5 * m + 1) 1) 88 (5 * m + 2) 0) 88 (5 * m + 3) 2) 88 (5 * m + 0) 0) 88 (5 * m + 1) ((numF (S.1 87) z 1 64 (p + 1)).1)) 88 (5 * m + 2) (-v3)) false (numF (S.1 87) z 1 12 ((numF (S.1 87) z 1 64 (p + 1)).2 + 1)).2)) rd_w ?_
            refine q_goto (pc := 155) 183 rfl (by decide) ?_
            refine q_iconst (pc := 183) 0 rfl (by decide) ?_
            refine q_istore_n (pc := 184) (j := 3) [some (.ref 70), some (.int (nI (5 * m))), some (.int 1), some (.int 0)] rfl (by decide) rfl ?_
            refine q_iload_n (pc := 185) (j := 3) rfl rfl ?_
            refine q_bipush (pc := 186) 9 rfl (by decide) ?_
            refine q_icmp_ge (pc := 188) 206 rfl (by decide) (fun h9 => absurd h9 (by decide : ¬ (9 : Int32) ≤ (0 : Int32))) (fun _ => ?_)
            refine q_aload_n (pc := 191) (j := 0) rfl rfl ?_
            refine q_bipush (pc := 192) 39 rfl (by decide) ?_
            refine q_callV (pc := 194) (as := [.int 39]) (rest := []) (b := 70) (st2 := [.int 0]) rfl ce_X9_takes ml_X9_277 im_X9_takes se_X9_takes hm.1 rfl rfl rfl (by decide) (Nat.le_of_ble_eq_true rfl) (sp_X9_takesF (S := (pSI (pSI (pSI (pSI (pSI (pSI (pSI S 88 (5 * m + 0) 2) 88 (5 * m + 1) 1) 88 (5 * m + 2) 0) 88 (5 * m + 3) 2) 88 (5 * m + 0) 0) 88 (5 * m + 1) ((numF (S.1 87) z 1 64 (p + 1)).1)) 88 (5 * m + 2) (-v3))) (p := (numF (S.1 87) z 1 12 ((numF (S.1 87) z 1 64 (p + 1)).2 + 1)).2) hm ((congrFun (pSI_ne (by decide)) 23).trans ((congrFun (pSI_ne (by decide)) 23).trans ((congrFun (pSI_ne (by decide)) 23).trans ((congrFun (pSI_ne (by decide)) 23).trans ((congrFun (pSI_ne (by decide)) 23).trans ((congrFun (pSI_ne (by decide)) 23).trans ((congrFun (pSI_ne (by decide)) 23).trans hz))))))) hz1 (by omega)) rfl ?_
            refine q_if_eq (pc := 197) 206 rfl (by decide) (fun _ => ?_) (fun h9 => absurd (by decide : (0 : Int32) = 0) h9)
            refine q_aload_n (pc := 206) (j := 0) rfl rfl ?_
            refine q_get (pc := 207) (a := 70) (v := .ref 88) rfl fl_X9_63 hm.1 rfl rfl ?_
            refine q_iload_n (pc := 210) (j := 1) rfl rfl ?_
            refine q_iconst (pc := 211) 4 rfl (by decide) ?_
            refine q_iadd (pc := 212) rfl ?_
            refine q_st (st2 := [.int (nI (5 * m + 4)), .ref 88]) (by rw [(show nI (5 * m) + 4 = nI (5 * m + 4) from nI_add (5 * m) 4)]) ?_
            refine q_iload_n (pc := 213) (j := 3) rfl rfl ?_
            refine q_iast (pc := 214) (a := 88) (5 * m + 4) rfl hm.2.2.2.2.2.2.2.2.2.2.2.2.2.2.2.2.2.2.1 (vp_in_nI (by omega) (by decide)) (nI_clamp (by omega)) ?_
            refine q_S (S2 := (rdM (pSI (pSI (pSI (pSI (pSI (pSI (pSI (pSI S 88 (5 * m + 0) 2) 88 (5 * m + 1) 1) 88 (5 * m + 2) 0) 88 (5 * m + 3) 2) 88 (5 * m + 0) 0) 88 (5 * m + 1) ((numF (S.1 87) z 1 64 (p + 1)).1)) 88 (5 * m + 2) (-v3)) 88 (5 * m + 4) 0) false (numF (S.1 87) z 1 12 ((numF (S.1 87) z 1 64 (p + 1)).2 + 1)).2)) rd_w ?_
            refine q_aload_n (pc := 215) (j := 0) rfl rfl ?_
            refine q_dup (pc := 216) rfl rfl ?_
            refine q_get (pc := 217) (a := 70) (v := .int ((rdM (pSI (pSI (pSI (pSI (pSI (pSI (pSI (pSI S 88 (5 * m + 0) 2) 88 (5 * m + 1) 1) 88 (5 * m + 2) 0) 88 (5 * m + 3) 2) 88 (5 * m + 0) 0) 88 (5 * m + 1) ((numF (S.1 87) z 1 64 (p + 1)).1)) 88 (5 * m + 2) (-v3)) 88 (5 * m + 4) 0) false (numF (S.1 87) z 1 12 ((numF (S.1 87) z 1 64 (p + 1)).2 + 1)).2).1 70 27)) rfl fl_X9_274 hm.1 rfl rfl ?_
            refine q_st (st2 := [.int (nI m), .ref 70]) (by rw [(show ((rdM (pSI (pSI (pSI (pSI (pSI (pSI (pSI (pSI S 88 (5 * m + 0) 2) 88 (5 * m + 1) 1) 88 (5 * m + 2) 0) 88 (5 * m + 3) 2) 88 (5 * m + 0) 0) 88 (5 * m + 1) ((numF (S.1 87) z 1 64 (p + 1)).1)) 88 (5 * m + 2) (-v3)) 88 (5 * m + 4) 0) false (numF (S.1 87) z 1 12 ((numF (S.1 87) z 1 64 (p + 1)).2 + 1)).2).1 70 27) = nI m from (rd_j (by decide) (by decide)).trans ((congrFun (pSI_ne (by decide)) 27).trans ((congrFun (pSI_ne (by decide)) 27).trans ((congrFun (pSI_ne (by decide)) 27).trans ((congrFun (pSI_ne (by decide)) 27).trans ((congrFun (pSI_ne (by decide)) 27).trans ((congrFun (pSI_ne (by decide)) 27).trans ((congrFun (pSI_ne (by decide)) 27).trans ((congrFun (pSI_ne (by decide)) 27).trans h27)))))))))]) ?_
            refine q_iconst (pc := 220) 1 rfl (by decide) ?_
            refine q_iadd (pc := 221) rfl ?_
            refine q_st (st2 := [.int (nI (m + 1)), .ref 70]) (by rw [nI_1 m]) ?_
            refine q_putI (pc := 222) (a := 70) rfl fl_X9_274 hm.1 rfl (fun _ h9 => by cases h9; rfl) rfl rfl ?_
            refine q_S (S2 := (rdM (pSI (pSI (pSI (pSI (pSI (pSI (pSI (pSI (pSI S 88 (5 * m + 0) 2) 88 (5 * m + 1) 1) 88 (5 * m + 2) 0) 88 (5 * m + 3) 2) 88 (5 * m + 0) 0) 88 (5 * m + 1) ((numF (S.1 87) z 1 64 (p + 1)).1)) 88 (5 * m + 2) (-v3)) 88 (5 * m + 4) 0) 70 27 (nI (m + 1))) false (numF (S.1 87) z 1 12 ((numF (S.1 87) z 1 64 (p + 1)).2 + 1)).2)) rd_27 ?_
            exact q_vret (pc := 225) rfl rfl ⟨rfl, sgP_r (show sgF (S.1 87) z p = .inr (numF (S.1 87) z 1 12 ((numF (S.1 87) z 1 64 (p + 1)).2 + 1)).2 by rw [sgF, if_pos h1, if_neg (of_decide_eq_true h3), if_neg (show ¬ _ = true from by rw [h4]; decide), if_pos h6, if_pos (Classical.not_not.mp (of_decide_eq_false h7))]) rfl (sgQ_27 (sgQ_w (sgQ_w (sgQ_w (sgQ_w (sgQ_w (sgQ_w (sgQ_w (sgQ_w sgQ_0))))))))) pSI_at⟩
        · refine q_st (st2 := [.int 0]) (by rw [h6]; rfl) (q_S (S2 := (rdM (pSI (pSI (pSI (pSI (pSI (pSI S 88 (5 * m + 0) 2) 88 (5 * m + 1) 1) 88 (5 * m + 2) 0) 88 (5 * m + 3) 2) 88 (5 * m + 0) 0) 88 (5 * m + 1) ((numF (S.1 87) z 1 64 (p + 1)).1)) true (numF (S.1 87) z 1 64 (p + 1)).2)) (by rw [h6]; rfl) ?_)
          refine q_if_eq (pc := 136) 183 rfl (by decide) (fun _ => ?_) (fun h9 => absurd (by decide : (0 : Int32) = 0) h9)
          refine q_iconst (pc := 183) 0 rfl (by decide) ?_
          refine q_istore_n (pc := 184) (j := 3) [some (.ref 70), some (.int (nI (5 * m))), some (.int 1), some (.int 0)] rfl (by decide) rfl ?_
          refine lp_X9_signA (E := (pSI (pSI (pSI (pSI (pSI (pSI S 88 (5 * m + 0) 2) 88 (5 * m + 1) 1) 88 (5 * m + 2) 0) 88 (5 * m + 3) 2) 88 (5 * m + 0) 0) 88 (5 * m + 1) ((numF (S.1 87) z 1 64 (p + 1)).1))) (b := (S.1 87)) (z := z) (N9 := (adF (S.1 87) z 9 ((numF (S.1 87) z 1 64 (p + 1)).2))) (P9 := (numF (S.1 87) z 1 64 (p + 1)).2 + (adF (S.1 87) z 9 ((numF (S.1 87) z 1 64 (p + 1)).2))) (by decide) hm ((pSI_ne (by decide)).trans ((pSI_ne (by decide)).trans ((pSI_ne (by decide)).trans ((pSI_ne (by decide)).trans ((pSI_ne (by decide)).trans ((pSI_ne (by decide)).trans rfl)))))) ((congrFun (pSI_ne (by decide)) 23).trans ((congrFun (pSI_ne (by decide)) 23).trans ((congrFun (pSI_ne (by decide)) 23).trans ((congrFun (pSI_ne (by decide)) 23).trans ((congrFun (pSI_ne (by decide)) 23).trans ((congrFun (pSI_ne (by decide)) 23).trans hz)))))) hz1 ?_ 9 0 ((numF (S.1 87) z 1 64 (p + 1)).2) rfl (by omega) (Nat.zero_add _) rfl
          refine q_aload_n (pc := 206) (j := 0) rfl rfl ?_
          refine q_get (pc := 207) (a := 70) (v := .ref 88) rfl fl_X9_63 hm.1 rfl rfl ?_
          refine q_iload_n (pc := 210) (j := 1) rfl rfl ?_
          refine q_iconst (pc := 211) 4 rfl (by decide) ?_
          refine q_iadd (pc := 212) rfl ?_
          refine q_st (st2 := [.int (nI (5 * m + 4)), .ref 88]) (by rw [(show nI (5 * m) + 4 = nI (5 * m + 4) from nI_add (5 * m) 4)]) ?_
          refine q_iload_n (pc := 213) (j := 3) rfl rfl ?_
          refine q_iast (pc := 214) (a := 88) (5 * m + 4) rfl hm.2.2.2.2.2.2.2.2.2.2.2.2.2.2.2.2.2.2.1 (vp_in_nI (by omega) (by decide)) (nI_clamp (by omega)) ?_
          refine q_S (S2 := (rdM (pSI (pSI (pSI (pSI (pSI (pSI (pSI S 88 (5 * m + 0) 2) 88 (5 * m + 1) 1) 88 (5 * m + 2) 0) 88 (5 * m + 3) 2) 88 (5 * m + 0) 0) 88 (5 * m + 1) ((numF (S.1 87) z 1 64 (p + 1)).1)) 88 (5 * m + 4) (nI (adF (S.1 87) z 9 ((numF (S.1 87) z 1 64 (p + 1)).2)))) true ((numF (S.1 87) z 1 64 (p + 1)).2 + (adF (S.1 87) z 9 ((numF (S.1 87) z 1 64 (p + 1)).2))))) rd_w ?_
          refine q_aload_n (pc := 215) (j := 0) rfl rfl ?_
          refine q_dup (pc := 216) rfl rfl ?_
          refine q_get (pc := 217) (a := 70) (v := .int ((rdM (pSI (pSI (pSI (pSI (pSI (pSI (pSI S 88 (5 * m + 0) 2) 88 (5 * m + 1) 1) 88 (5 * m + 2) 0) 88 (5 * m + 3) 2) 88 (5 * m + 0) 0) 88 (5 * m + 1) ((numF (S.1 87) z 1 64 (p + 1)).1)) 88 (5 * m + 4) (nI (adF (S.1 87) z 9 ((numF (S.1 87) z 1 64 (p + 1)).2)))) true ((numF (S.1 87) z 1 64 (p + 1)).2 + (adF (S.1 87) z 9 ((numF (S.1 87) z 1 64 (p + 1)).2)))).1 70 27)) rfl fl_X9_274 hm.1 rfl rfl ?_
          refine q_st (st2 := [.int (nI m), .ref 70]) (by rw [(show ((rdM (pSI (pSI (pSI (pSI (pSI (pSI (pSI S 88 (5 * m + 0) 2) 88 (5 * m + 1) 1) 88 (5 * m + 2) 0) 88 (5 * m + 3) 2) 88 (5 * m + 0) 0) 88 (5 * m + 1) ((numF (S.1 87) z 1 64 (p + 1)).1)) 88 (5 * m + 4) (nI (adF (S.1 87) z 9 ((numF (S.1 87) z 1 64 (p + 1)).2)))) true ((numF (S.1 87) z 1 64 (p + 1)).2 + (adF (S.1 87) z 9 ((numF (S.1 87) z 1 64 (p + 1)).2)))).1 70 27) = nI m from (rd_j (by decide) (by decide)).trans ((congrFun (pSI_ne (by decide)) 27).trans ((congrFun (pSI_ne (by decide)) 27).trans ((congrFun (pSI_ne (by decide)) 27).trans ((congrFun (pSI_ne (by decide)) 27).trans ((congrFun (pSI_ne (by decide)) 27).trans ((congrFun (pSI_ne (by decide)) 27).trans ((congrFun (pSI_ne (by decide)) 27).trans h27))))))))]) ?_
          refine q_iconst (pc := 220) 1 rfl (by decide) ?_
          refine q_iadd (pc := 221) rfl ?_
          refine q_st (st2 := [.int (nI (m + 1)), .ref 70]) (by rw [nI_1 m]) ?_
          refine q_putI (pc := 222) (a := 70) rfl fl_X9_274 hm.1 rfl (fun _ h9 => by cases h9; rfl) rfl rfl ?_
          refine q_S (S2 := (rdM (pSI (pSI (pSI (pSI (pSI (pSI (pSI (pSI S 88 (5 * m + 0) 2) 88 (5 * m + 1) 1) 88 (5 * m + 2) 0) 88 (5 * m + 3) 2) 88 (5 * m + 0) 0) 88 (5 * m + 1) ((numF (S.1 87) z 1 64 (p + 1)).1)) 88 (5 * m + 4) (nI (adF (S.1 87) z 9 ((numF (S.1 87) z 1 64 (p + 1)).2)))) 70 27 (nI (m + 1))) true ((numF (S.1 87) z 1 64 (p + 1)).2 + (adF (S.1 87) z 9 ((numF (S.1 87) z 1 64 (p + 1)).2))))) rd_27 ?_
          exact q_vret (pc := 225) rfl rfl ⟨rfl, sgP_l (show sgF (S.1 87) z p = .inl (0, (numF (S.1 87) z 1 64 (p + 1)).1, 0, (numF (S.1 87) z 1 64 (p + 1)).2) by rw [sgF, if_pos h1, if_neg (of_decide_eq_true h3), if_neg (show ¬ _ = true from by rw [h4]; decide), if_neg (show ¬ _ = true from by rw [h6]; decide)]) rfl (sgQ_27 (sgQ_w (sgQ_w (sgQ_w (sgQ_w (sgQ_w (sgQ_w (sgQ_w sgQ_0)))))))) pSI_at (by simp [sgE, pSI, pU])⟩
    · have hlh3 := numF_le (b := (S.1 87)) (z := z) (p := (p + 1)) (least := 1) (most := 64) (by omega); refine q_S (S2 := (rdM (pSI (pSI (pSI (pSI (pSI S 88 (5 * m + 0) 2) 88 (5 * m + 1) 1) 88 (5 * m + 2) 0) 88 (5 * m + 3) 2) 88 (5 * m + 0) 0) false (numF (S.1 87) z 1 64 (p + 1)).2)) (by rw [h3]) ?_
      refine q_iast (pc := 94) (a := 88) (5 * m + 1) rfl hm.2.2.2.2.2.2.2.2.2.2.2.2.2.2.2.2.2.2.1 (vp_in_nI (by omega) (by decide)) (nI_clamp (by omega)) ?_
      refine q_S (S2 := (rdM (pSI (pSI (pSI (pSI (pSI (pSI S 88 (5 * m + 0) 2) 88 (5 * m + 1) 1) 88 (5 * m + 2) 0) 88 (5 * m + 3) 2) 88 (5 * m + 0) 0) 88 (5 * m + 1) v1) false (numF (S.1 87) z 1 64 (p + 1)).2)) rd_w ?_
      refine q_iload_n (pc := 95) (j := 2) rfl rfl ?_
      refine q_if_eq (pc := 96) 126 rfl (by decide) (fun h9 => absurd h9 (by decide : ¬ (1 : Int32) = 0)) (fun _ => ?_)
      refine q_aload_n (pc := 99) (j := 0) rfl rfl ?_
      refine q_bipush (pc := 100) 43 rfl (by decide) ?_
      refine q_callV (pc := 102) (as := [.int 43]) (rest := []) (b := 70) (st2 := [.int 0]) rfl ce_X9_takes ml_X9_277 im_X9_takes se_X9_takes hm.1 rfl rfl rfl (by decide) (Nat.le_of_ble_eq_true rfl) (sp_X9_takesF (S := (pSI (pSI (pSI (pSI (pSI (pSI S 88 (5 * m + 0) 2) 88 (5 * m + 1) 1) 88 (5 * m + 2) 0) 88 (5 * m + 3) 2) 88 (5 * m + 0) 0) 88 (5 * m + 1) v1)) (p := (numF (S.1 87) z 1 64 (p + 1)).2) hm ((congrFun (pSI_ne (by decide)) 23).trans ((congrFun (pSI_ne (by decide)) 23).trans ((congrFun (pSI_ne (by decide)) 23).trans ((congrFun (pSI_ne (by decide)) 23).trans ((congrFun (pSI_ne (by decide)) 23).trans ((congrFun (pSI_ne (by decide)) 23).trans hz)))))) hz1 (by omega)) rfl ?_
      refine q_if_eq (pc := 105) 126 rfl (by decide) (fun _ => ?_) (fun h9 => absurd (by decide : (0 : Int32) = 0) h9)
      refine q_iload_n (pc := 126) (j := 2) rfl rfl ?_
      refine q_if_eq (pc := 127) 183 rfl (by decide) (fun h9 => absurd h9 (by decide : ¬ (1 : Int32) = 0)) (fun _ => ?_)
      refine q_aload_n (pc := 130) (j := 0) rfl rfl ?_
      refine q_bipush (pc := 131) 45 rfl (by decide) ?_
      refine q_callV (pc := 133) (as := [.int 45]) (rest := []) (b := 70) (st2 := [.int 0]) rfl ce_X9_takes ml_X9_277 im_X9_takes se_X9_takes hm.1 rfl rfl rfl (by decide) (Nat.le_of_ble_eq_true rfl) (sp_X9_takesF (S := (pSI (pSI (pSI (pSI (pSI (pSI S 88 (5 * m + 0) 2) 88 (5 * m + 1) 1) 88 (5 * m + 2) 0) 88 (5 * m + 3) 2) 88 (5 * m + 0) 0) 88 (5 * m + 1) v1)) (p := (numF (S.1 87) z 1 64 (p + 1)).2) hm ((congrFun (pSI_ne (by decide)) 23).trans ((congrFun (pSI_ne (by decide)) 23).trans ((congrFun (pSI_ne (by decide)) 23).trans ((congrFun (pSI_ne (by decide)) 23).trans ((congrFun (pSI_ne (by decide)) 23).trans ((congrFun (pSI_ne (by decide)) 23).trans hz)))))) hz1 (by omega)) rfl ?_
      refine q_if_eq (pc := 136) 183 rfl (by decide) (fun _ => ?_) (fun h9 => absurd (by decide : (0 : Int32) = 0) h9)
      refine q_iconst (pc := 183) 0 rfl (by decide) ?_
      refine q_istore_n (pc := 184) (j := 3) [some (.ref 70), some (.int (nI (5 * m))), some (.int 1), some (.int 0)] rfl (by decide) rfl ?_
      refine q_iload_n (pc := 185) (j := 3) rfl rfl ?_
      refine q_bipush (pc := 186) 9 rfl (by decide) ?_
      refine q_icmp_ge (pc := 188) 206 rfl (by decide) (fun h9 => absurd h9 (by decide : ¬ (9 : Int32) ≤ (0 : Int32))) (fun _ => ?_)
      refine q_aload_n (pc := 191) (j := 0) rfl rfl ?_
      refine q_bipush (pc := 192) 39 rfl (by decide) ?_
      refine q_callV (pc := 194) (as := [.int 39]) (rest := []) (b := 70) (st2 := [.int 0]) rfl ce_X9_takes ml_X9_277 im_X9_takes se_X9_takes hm.1 rfl rfl rfl (by decide) (Nat.le_of_ble_eq_true rfl) (sp_X9_takesF (S := (pSI (pSI (pSI (pSI (pSI (pSI S 88 (5 * m + 0) 2) 88 (5 * m + 1) 1) 88 (5 * m + 2) 0) 88 (5 * m + 3) 2) 88 (5 * m + 0) 0) 88 (5 * m + 1) v1)) (p := (numF (S.1 87) z 1 64 (p + 1)).2) hm ((congrFun (pSI_ne (by decide)) 23).trans ((congrFun (pSI_ne (by decide)) 23).trans ((congrFun (pSI_ne (by decide)) 23).trans ((congrFun (pSI_ne (by decide)) 23).trans ((congrFun (pSI_ne (by decide)) 23).trans ((congrFun (pSI_ne (by decide)) 23).trans hz)))))) hz1 (by omega)) rfl ?_
      refine q_if_eq (pc := 197) 206 rfl (by decide) (fun _ => ?_) (fun h9 => absurd (by decide : (0 : Int32) = 0) h9)
      refine q_aload_n (pc := 206) (j := 0) rfl rfl ?_
      refine q_get (pc := 207) (a := 70) (v := .ref 88) rfl fl_X9_63 hm.1 rfl rfl ?_
      refine q_iload_n (pc := 210) (j := 1) rfl rfl ?_
      refine q_iconst (pc := 211) 4 rfl (by decide) ?_
      refine q_iadd (pc := 212) rfl ?_
      refine q_st (st2 := [.int (nI (5 * m + 4)), .ref 88]) (by rw [(show nI (5 * m) + 4 = nI (5 * m + 4) from nI_add (5 * m) 4)]) ?_
      refine q_iload_n (pc := 213) (j := 3) rfl rfl ?_
      refine q_iast (pc := 214) (a := 88) (5 * m + 4) rfl hm.2.2.2.2.2.2.2.2.2.2.2.2.2.2.2.2.2.2.1 (vp_in_nI (by omega) (by decide)) (nI_clamp (by omega)) ?_
      refine q_S (S2 := (rdM (pSI (pSI (pSI (pSI (pSI (pSI (pSI S 88 (5 * m + 0) 2) 88 (5 * m + 1) 1) 88 (5 * m + 2) 0) 88 (5 * m + 3) 2) 88 (5 * m + 0) 0) 88 (5 * m + 1) v1) 88 (5 * m + 4) 0) false (numF (S.1 87) z 1 64 (p + 1)).2)) rd_w ?_
      refine q_aload_n (pc := 215) (j := 0) rfl rfl ?_
      refine q_dup (pc := 216) rfl rfl ?_
      refine q_get (pc := 217) (a := 70) (v := .int ((rdM (pSI (pSI (pSI (pSI (pSI (pSI (pSI S 88 (5 * m + 0) 2) 88 (5 * m + 1) 1) 88 (5 * m + 2) 0) 88 (5 * m + 3) 2) 88 (5 * m + 0) 0) 88 (5 * m + 1) v1) 88 (5 * m + 4) 0) false (numF (S.1 87) z 1 64 (p + 1)).2).1 70 27)) rfl fl_X9_274 hm.1 rfl rfl ?_
      refine q_st (st2 := [.int (nI m), .ref 70]) (by rw [(show ((rdM (pSI (pSI (pSI (pSI (pSI (pSI (pSI S 88 (5 * m + 0) 2) 88 (5 * m + 1) 1) 88 (5 * m + 2) 0) 88 (5 * m + 3) 2) 88 (5 * m + 0) 0) 88 (5 * m + 1) v1) 88 (5 * m + 4) 0) false (numF (S.1 87) z 1 64 (p + 1)).2).1 70 27) = nI m from (rd_j (by decide) (by decide)).trans ((congrFun (pSI_ne (by decide)) 27).trans ((congrFun (pSI_ne (by decide)) 27).trans ((congrFun (pSI_ne (by decide)) 27).trans ((congrFun (pSI_ne (by decide)) 27).trans ((congrFun (pSI_ne (by decide)) 27).trans ((congrFun (pSI_ne (by decide)) 27).trans ((congrFun (pSI_ne (by decide)) 27).trans h27))))))))]) ?_
      refine q_iconst (pc := 220) 1 rfl (by decide) ?_
      refine q_iadd (pc := 221) rfl ?_
      refine q_st (st2 := [.int (nI (m + 1)), .ref 70]) (by rw [nI_1 m]) ?_
      refine q_putI (pc := 222) (a := 70) rfl fl_X9_274 hm.1 rfl (fun _ h9 => by cases h9; rfl) rfl rfl ?_
      refine q_S (S2 := (rdM (pSI (pSI (pSI (pSI (pSI (pSI (pSI (pSI S 88 (5 * m + 0) 2) 88 (5 * m + 1) 1) 88 (5 * m + 2) 0) 88 (5 * m + 3) 2) 88 (5 * m + 0) 0) 88 (5 * m + 1) v1) 88 (5 * m + 4) 0) 70 27 (nI (m + 1))) false (numF (S.1 87) z 1 64 (p + 1)).2)) rd_27 ?_
      exact q_vret (pc := 225) rfl rfl ⟨rfl, sgP_r (show sgF (S.1 87) z p = .inr (numF (S.1 87) z 1 64 (p + 1)).2 by rw [sgF, if_pos h1, if_pos (Classical.not_not.mp (of_decide_eq_false h3))]) rfl (sgQ_27 (sgQ_w (sgQ_w (sgQ_w (sgQ_w (sgQ_w (sgQ_w (sgQ_w sgQ_0)))))))) pSI_at⟩
  · refine q_st (st2 := [.int 0]) (by rw [h1]; rfl) (q_S (S2 := (rdM (pSI (pSI (pSI (pSI S 88 (5 * m + 0) 2) 88 (5 * m + 1) 1) 88 (5 * m + 2) 0) 88 (5 * m + 3) 2) true p)) (by rw [h1]; rfl) ?_)
    refine q_istore_n (pc := 49) (j := 2) [some (.ref 70), some (.int (nI (5 * m))), some (.int 0), none] rfl (by decide) rfl ?_
    refine q_iload_n (pc := 50) (j := 2) rfl rfl ?_
    refine q_if_ne (pc := 51) 63 rfl (by decide) (fun h9 => absurd h9 (by decide : ¬ ¬ (0 : Int32) = 0)) (fun _ => ?_)
    refine q_aload_n (pc := 54) (j := 0) rfl rfl ?_
    refine q_bipush (pc := 55) 114 rfl (by decide) ?_
    refine q_callV (pc := 57) (as := [.int 114]) (rest := []) (b := 70) (st2 := [.int (pB (nxB (S.1 87) z p 114))]) rfl ce_X9_takes ml_X9_277 im_X9_takes se_X9_takes hm.1 rfl rfl rfl (by decide) (Nat.le_of_ble_eq_true rfl) (sp_X9_takesT (S := (pSI (pSI (pSI (pSI S 88 (5 * m + 0) 2) 88 (5 * m + 1) 1) 88 (5 * m + 2) 0) 88 (5 * m + 3) 2)) (p := p) (b := (S.1 87)) ((pSI_ne (by decide)).trans ((pSI_ne (by decide)).trans ((pSI_ne (by decide)).trans ((pSI_ne (by decide)).trans rfl)))) hm ((congrFun (pSI_ne (by decide)) 23).trans ((congrFun (pSI_ne (by decide)) 23).trans ((congrFun (pSI_ne (by decide)) 23).trans ((congrFun (pSI_ne (by decide)) 23).trans hz)))) hz1 (by omega)) rfl ?_
    rcases Bool.eq_false_or_eq_true (nxB (S.1 87) z p 114) with h2 | h2
    · refine q_st (st2 := [.int 1]) (by rw [h2]; rfl) (q_S (S2 := (rdM (pSI (pSI (pSI (pSI S 88 (5 * m + 0) 2) 88 (5 * m + 1) 1) 88 (5 * m + 2) 0) 88 (5 * m + 3) 2) true (p + 1))) (by rw [h2]; rfl) ?_); have hbh2 := nx_in h2
      refine q_if_eq (pc := 60) 158 rfl (by decide) (fun h9 => absurd h9 (by decide : ¬ (1 : Int32) = 0)) (fun _ => ?_)
      refine q_aload_n (pc := 63) (j := 0) rfl rfl ?_
      refine q_get (pc := 64) (a := 70) (v := .ref 88) rfl fl_X9_63 hm.1 rfl rfl ?_
      refine q_iload_n (pc := 67) (j := 1) rfl rfl ?_
      refine q_iconst (pc := 68) 0 rfl (by decide) ?_
      refine q_iadd (pc := 69) rfl ?_
      refine q_st (st2 := [.int (nI (5 * m + 0)), .ref 88]) (by rw [(show nI (5 * m) + 0 = nI (5 * m + 0) from nI_add (5 * m) 0)]) ?_
      refine q_iload_n (pc := 70) (j := 2) rfl rfl ?_
      refine q_if_eq (pc := 71) 78 rfl (by decide) (fun _ => ?_) (fun h9 => absurd (by decide : (0 : Int32) = 0) h9)
      refine q_iconst (pc := 78) 1 rfl (by decide) ?_
      refine q_iast (pc := 79) (a := 88) (5 * m + 0) rfl hm.2.2.2.2.2.2.2.2.2.2.2.2.2.2.2.2.2.2.1 (vp_in_nI (by omega) (by decide)) (nI_clamp (by omega)) ?_
      refine q_S (S2 := (rdM (pSI (pSI (pSI (pSI (pSI S 88 (5 * m + 0) 2) 88 (5 * m + 1) 1) 88 (5 * m + 2) 0) 88 (5 * m + 3) 2) 88 (5 * m + 0) 1) true (p + 1))) rd_w ?_
      refine q_aload_n (pc := 80) (j := 0) rfl rfl ?_
      refine q_get (pc := 81) (a := 70) (v := .ref 88) rfl fl_X9_63 hm.1 rfl rfl ?_
      refine q_iload_n (pc := 84) (j := 1) rfl rfl ?_
      refine q_iconst (pc := 85) 1 rfl (by decide) ?_
      refine q_iadd (pc := 86) rfl ?_
      refine q_st (st2 := [.int (nI (5 * m + 1)), .ref 88]) (by rw [(show nI (5 * m) + 1 = nI (5 * m + 1) from nI_add (5 * m) 1)]) ?_
      refine q_aload_n (pc := 87) (j := 0) rfl rfl ?_
      refine q_iconst (pc := 88) 1 rfl (by decide) ?_
      refine q_bipush (pc := 89) 64 rfl (by decide) ?_
      refine q_callVG (pc := 91) (as := [.int 1, .int 64]) (rest := [.int (nI (5 * m + 1)), .ref 88]) (b := 70) rfl ce_X9_number ml_X9_280 im_X9_number se_X9_number hm.1 rfl rfl rfl (by decide) (Nat.le_of_ble_eq_true rfl) (sp_X9_numB1 (S := (pSI (pSI (pSI (pSI (pSI S 88 (5 * m + 0) 2) 88 (5 * m + 1) 1) 88 (5 * m + 2) 0) 88 (5 * m + 3) 2) 88 (5 * m + 0) 1)) (p := (p + 1)) (b := (S.1 87)) ((pSI_ne (by decide)).trans ((pSI_ne (by decide)).trans ((pSI_ne (by decide)).trans ((pSI_ne (by decide)).trans ((pSI_ne (by decide)).trans rfl))))) hm ((congrFun (pSI_ne (by decide)) 23).trans ((congrFun (pSI_ne (by decide)) 23).trans ((congrFun (pSI_ne (by decide)) 23).trans ((congrFun (pSI_ne (by decide)) 23).trans ((congrFun (pSI_ne (by decide)) 23).trans hz))))) hz1 (by omega) (by decide)) (fun r9 S9 h9 => ?_)
      obtain ⟨v1, hr9, hS9, hv1⟩ := h9
      subst hr9
      subst hS9
      rcases Bool.eq_false_or_eq_true (decide (¬ (numF (S.1 87) z 1 64 (p + 1)).1 = -1)) with h3 | h3
      · have hlh3 := numF_le (b := (S.1 87)) (z := z) (p := (p + 1)) (least := 1) (most := 64) (by omega); refine q_st (st2 := [.int ((numF (S.1 87) z 1 64 (p + 1)).1), .int (nI (5 * m + 1)), .ref 88]) (by rw [hv1 (of_decide_eq_true h3)]; rfl) (q_S (S2 := (rdM (pSI (pSI (pSI (pSI (pSI S 88 (5 * m + 0) 2) 88 (5 * m + 1) 1) 88 (5 * m + 2) 0) 88 (5 * m + 3) 2) 88 (5 * m + 0) 1) true (numF (S.1 87) z 1 64 (p + 1)).2)) (by rw [h3]) ?_)
        refine q_iast (pc := 94) (a := 88) (5 * m + 1) rfl hm.2.2.2.2.2.2.2.2.2.2.2.2.2.2.2.2.2.2.1 (vp_in_nI (by omega) (by decide)) (nI_clamp (by omega)) ?_
        refine q_S (S2 := (rdM (pSI (pSI (pSI (pSI (pSI (pSI S 88 (5 * m + 0) 2) 88 (5 * m + 1) 1) 88 (5 * m + 2) 0) 88 (5 * m + 3) 2) 88 (5 * m + 0) 1) 88 (5 * m + 1) ((numF (S.1 87) z 1 64 (p + 1)).1)) true (numF (S.1 87) z 1 64 (p + 1)).2)) rd_w ?_
        refine q_iload_n (pc := 95) (j := 2) rfl rfl ?_
        refine q_if_eq (pc := 96) 126 rfl (by decide) (fun _ => ?_) (fun h9 => absurd (by decide : (0 : Int32) = 0) h9)
        refine q_iload_n (pc := 126) (j := 2) rfl rfl ?_
        refine q_if_eq (pc := 127) 183 rfl (by decide) (fun _ => ?_) (fun h9 => absurd (by decide : (0 : Int32) = 0) h9)
        refine q_iconst (pc := 183) 0 rfl (by decide) ?_
        refine q_istore_n (pc := 184) (j := 3) [some (.ref 70), some (.int (nI (5 * m))), some (.int 0), some (.int 0)] rfl (by decide) rfl ?_
        refine lp_X9_signA (E := (pSI (pSI (pSI (pSI (pSI (pSI S 88 (5 * m + 0) 2) 88 (5 * m + 1) 1) 88 (5 * m + 2) 0) 88 (5 * m + 3) 2) 88 (5 * m + 0) 1) 88 (5 * m + 1) ((numF (S.1 87) z 1 64 (p + 1)).1))) (b := (S.1 87)) (z := z) (N9 := (adF (S.1 87) z 9 ((numF (S.1 87) z 1 64 (p + 1)).2))) (P9 := (numF (S.1 87) z 1 64 (p + 1)).2 + (adF (S.1 87) z 9 ((numF (S.1 87) z 1 64 (p + 1)).2))) (by decide) hm ((pSI_ne (by decide)).trans ((pSI_ne (by decide)).trans ((pSI_ne (by decide)).trans ((pSI_ne (by decide)).trans ((pSI_ne (by decide)).trans ((pSI_ne (by decide)).trans rfl)))))) ((congrFun (pSI_ne (by decide)) 23).trans ((congrFun (pSI_ne (by decide)) 23).trans ((congrFun (pSI_ne (by decide)) 23).trans ((congrFun (pSI_ne (by decide)) 23).trans ((congrFun (pSI_ne (by decide)) 23).trans ((congrFun (pSI_ne (by decide)) 23).trans hz)))))) hz1 ?_ 9 0 ((numF (S.1 87) z 1 64 (p + 1)).2) rfl (by omega) (Nat.zero_add _) rfl
        refine q_aload_n (pc := 206) (j := 0) rfl rfl ?_
        refine q_get (pc := 207) (a := 70) (v := .ref 88) rfl fl_X9_63 hm.1 rfl rfl ?_
        refine q_iload_n (pc := 210) (j := 1) rfl rfl ?_
        refine q_iconst (pc := 211) 4 rfl (by decide) ?_
        refine q_iadd (pc := 212) rfl ?_
        refine q_st (st2 := [.int (nI (5 * m + 4)), .ref 88]) (by rw [(show nI (5 * m) + 4 = nI (5 * m + 4) from nI_add (5 * m) 4)]) ?_
        refine q_iload_n (pc := 213) (j := 3) rfl rfl ?_
        refine q_iast (pc := 214) (a := 88) (5 * m + 4) rfl hm.2.2.2.2.2.2.2.2.2.2.2.2.2.2.2.2.2.2.1 (vp_in_nI (by omega) (by decide)) (nI_clamp (by omega)) ?_
        refine q_S (S2 := (rdM (pSI (pSI (pSI (pSI (pSI (pSI (pSI S 88 (5 * m + 0) 2) 88 (5 * m + 1) 1) 88 (5 * m + 2) 0) 88 (5 * m + 3) 2) 88 (5 * m + 0) 1) 88 (5 * m + 1) ((numF (S.1 87) z 1 64 (p + 1)).1)) 88 (5 * m + 4) (nI (adF (S.1 87) z 9 ((numF (S.1 87) z 1 64 (p + 1)).2)))) true ((numF (S.1 87) z 1 64 (p + 1)).2 + (adF (S.1 87) z 9 ((numF (S.1 87) z 1 64 (p + 1)).2))))) rd_w ?_
        refine q_aload_n (pc := 215) (j := 0) rfl rfl ?_
        refine q_dup (pc := 216) rfl rfl ?_
        refine q_get (pc := 217) (a := 70) (v := .int ((rdM (pSI (pSI (pSI (pSI (pSI (pSI (pSI S 88 (5 * m + 0) 2) 88 (5 * m + 1) 1) 88 (5 * m + 2) 0) 88 (5 * m + 3) 2) 88 (5 * m + 0) 1) 88 (5 * m + 1) ((numF (S.1 87) z 1 64 (p + 1)).1)) 88 (5 * m + 4) (nI (adF (S.1 87) z 9 ((numF (S.1 87) z 1 64 (p + 1)).2)))) true ((numF (S.1 87) z 1 64 (p + 1)).2 + (adF (S.1 87) z 9 ((numF (S.1 87) z 1 64 (p + 1)).2)))).1 70 27)) rfl fl_X9_274 hm.1 rfl rfl ?_
        refine q_st (st2 := [.int (nI m), .ref 70]) (by rw [(show ((rdM (pSI (pSI (pSI (pSI (pSI (pSI (pSI S 88 (5 * m + 0) 2) 88 (5 * m + 1) 1) 88 (5 * m + 2) 0) 88 (5 * m + 3) 2) 88 (5 * m + 0) 1) 88 (5 * m + 1) ((numF (S.1 87) z 1 64 (p + 1)).1)) 88 (5 * m + 4) (nI (adF (S.1 87) z 9 ((numF (S.1 87) z 1 64 (p + 1)).2)))) true ((numF (S.1 87) z 1 64 (p + 1)).2 + (adF (S.1 87) z 9 ((numF (S.1 87) z 1 64 (p + 1)).2)))).1 70 27) = nI m from (rd_j (by decide) (by decide)).trans ((congrFun (pSI_ne (by decide)) 27).trans ((congrFun (pSI_ne (by decide)) 27).trans ((congrFun (pSI_ne (by decide)) 27).trans ((congrFun (pSI_ne (by decide)) 27).trans ((congrFun (pSI_ne (by decide)) 27).trans ((congrFun (pSI_ne (by decide)) 27).trans ((congrFun (pSI_ne (by decide)) 27).trans h27))))))))]) ?_
        refine q_iconst (pc := 220) 1 rfl (by decide) ?_
        refine q_iadd (pc := 221) rfl ?_
        refine q_st (st2 := [.int (nI (m + 1)), .ref 70]) (by rw [nI_1 m]) ?_
        refine q_putI (pc := 222) (a := 70) rfl fl_X9_274 hm.1 rfl (fun _ h9 => by cases h9; rfl) rfl rfl ?_
        refine q_S (S2 := (rdM (pSI (pSI (pSI (pSI (pSI (pSI (pSI (pSI S 88 (5 * m + 0) 2) 88 (5 * m + 1) 1) 88 (5 * m + 2) 0) 88 (5 * m + 3) 2) 88 (5 * m + 0) 1) 88 (5 * m + 1) ((numF (S.1 87) z 1 64 (p + 1)).1)) 88 (5 * m + 4) (nI (adF (S.1 87) z 9 ((numF (S.1 87) z 1 64 (p + 1)).2)))) 70 27 (nI (m + 1))) true ((numF (S.1 87) z 1 64 (p + 1)).2 + (adF (S.1 87) z 9 ((numF (S.1 87) z 1 64 (p + 1)).2))))) rd_27 ?_
        exact q_vret (pc := 225) rfl rfl ⟨rfl, sgP_l (show sgF (S.1 87) z p = .inl (1, (numF (S.1 87) z 1 64 (p + 1)).1, 0, (numF (S.1 87) z 1 64 (p + 1)).2) by rw [sgF, if_neg (show ¬ _ = true from by rw [h1]; decide), if_pos h2, if_neg (of_decide_eq_true h3)]) rfl (sgQ_27 (sgQ_w (sgQ_w (sgQ_w (sgQ_w (sgQ_w (sgQ_w (sgQ_w sgQ_0)))))))) pSI_at (by simp [sgE, pSI, pU])⟩
      · have hlh3 := numF_le (b := (S.1 87)) (z := z) (p := (p + 1)) (least := 1) (most := 64) (by omega); refine q_S (S2 := (rdM (pSI (pSI (pSI (pSI (pSI S 88 (5 * m + 0) 2) 88 (5 * m + 1) 1) 88 (5 * m + 2) 0) 88 (5 * m + 3) 2) 88 (5 * m + 0) 1) false (numF (S.1 87) z 1 64 (p + 1)).2)) (by rw [h3]) ?_
        refine q_iast (pc := 94) (a := 88) (5 * m + 1) rfl hm.2.2.2.2.2.2.2.2.2.2.2.2.2.2.2.2.2.2.1 (vp_in_nI (by omega) (by decide)) (nI_clamp (by omega)) ?_
        refine q_S (S2 := (rdM (pSI (pSI (pSI (pSI (pSI (pSI S 88 (5 * m + 0) 2) 88 (5 * m + 1) 1) 88 (5 * m + 2) 0) 88 (5 * m + 3) 2) 88 (5 * m + 0) 1) 88 (5 * m + 1) v1) false (numF (S.1 87) z 1 64 (p + 1)).2)) rd_w ?_
        refine q_iload_n (pc := 95) (j := 2) rfl rfl ?_
        refine q_if_eq (pc := 96) 126 rfl (by decide) (fun _ => ?_) (fun h9 => absurd (by decide : (0 : Int32) = 0) h9)
        refine q_iload_n (pc := 126) (j := 2) rfl rfl ?_
        refine q_if_eq (pc := 127) 183 rfl (by decide) (fun _ => ?_) (fun h9 => absurd (by decide : (0 : Int32) = 0) h9)
        refine q_iconst (pc := 183) 0 rfl (by decide) ?_
        refine q_istore_n (pc := 184) (j := 3) [some (.ref 70), some (.int (nI (5 * m))), some (.int 0), some (.int 0)] rfl (by decide) rfl ?_
        refine q_iload_n (pc := 185) (j := 3) rfl rfl ?_
        refine q_bipush (pc := 186) 9 rfl (by decide) ?_
        refine q_icmp_ge (pc := 188) 206 rfl (by decide) (fun h9 => absurd h9 (by decide : ¬ (9 : Int32) ≤ (0 : Int32))) (fun _ => ?_)
        refine q_aload_n (pc := 191) (j := 0) rfl rfl ?_
        refine q_bipush (pc := 192) 39 rfl (by decide) ?_
        refine q_callV (pc := 194) (as := [.int 39]) (rest := []) (b := 70) (st2 := [.int 0]) rfl ce_X9_takes ml_X9_277 im_X9_takes se_X9_takes hm.1 rfl rfl rfl (by decide) (Nat.le_of_ble_eq_true rfl) (sp_X9_takesF (S := (pSI (pSI (pSI (pSI (pSI (pSI S 88 (5 * m + 0) 2) 88 (5 * m + 1) 1) 88 (5 * m + 2) 0) 88 (5 * m + 3) 2) 88 (5 * m + 0) 1) 88 (5 * m + 1) v1)) (p := (numF (S.1 87) z 1 64 (p + 1)).2) hm ((congrFun (pSI_ne (by decide)) 23).trans ((congrFun (pSI_ne (by decide)) 23).trans ((congrFun (pSI_ne (by decide)) 23).trans ((congrFun (pSI_ne (by decide)) 23).trans ((congrFun (pSI_ne (by decide)) 23).trans ((congrFun (pSI_ne (by decide)) 23).trans hz)))))) hz1 (by omega)) rfl ?_
        refine q_if_eq (pc := 197) 206 rfl (by decide) (fun _ => ?_) (fun h9 => absurd (by decide : (0 : Int32) = 0) h9)
        refine q_aload_n (pc := 206) (j := 0) rfl rfl ?_
        refine q_get (pc := 207) (a := 70) (v := .ref 88) rfl fl_X9_63 hm.1 rfl rfl ?_
        refine q_iload_n (pc := 210) (j := 1) rfl rfl ?_
        refine q_iconst (pc := 211) 4 rfl (by decide) ?_
        refine q_iadd (pc := 212) rfl ?_
        refine q_st (st2 := [.int (nI (5 * m + 4)), .ref 88]) (by rw [(show nI (5 * m) + 4 = nI (5 * m + 4) from nI_add (5 * m) 4)]) ?_
        refine q_iload_n (pc := 213) (j := 3) rfl rfl ?_
        refine q_iast (pc := 214) (a := 88) (5 * m + 4) rfl hm.2.2.2.2.2.2.2.2.2.2.2.2.2.2.2.2.2.2.1 (vp_in_nI (by omega) (by decide)) (nI_clamp (by omega)) ?_
        refine q_S (S2 := (rdM (pSI (pSI (pSI (pSI (pSI (pSI (pSI S 88 (5 * m + 0) 2) 88 (5 * m + 1) 1) 88 (5 * m + 2) 0) 88 (5 * m + 3) 2) 88 (5 * m + 0) 1) 88 (5 * m + 1) v1) 88 (5 * m + 4) 0) false (numF (S.1 87) z 1 64 (p + 1)).2)) rd_w ?_
        refine q_aload_n (pc := 215) (j := 0) rfl rfl ?_
        refine q_dup (pc := 216) rfl rfl ?_
        refine q_get (pc := 217) (a := 70) (v := .int ((rdM (pSI (pSI (pSI (pSI (pSI (pSI (pSI S 88 (5 * m + 0) 2) 88 (5 * m + 1) 1) 88 (5 * m + 2) 0) 88 (5 * m + 3) 2) 88 (5 * m + 0) 1) 88 (5 * m + 1) v1) 88 (5 * m + 4) 0) false (numF (S.1 87) z 1 64 (p + 1)).2).1 70 27)) rfl fl_X9_274 hm.1 rfl rfl ?_
        refine q_st (st2 := [.int (nI m), .ref 70]) (by rw [(show ((rdM (pSI (pSI (pSI (pSI (pSI (pSI (pSI S 88 (5 * m + 0) 2) 88 (5 * m + 1) 1) 88 (5 * m + 2) 0) 88 (5 * m + 3) 2) 88 (5 * m + 0) 1) 88 (5 * m + 1) v1) 88 (5 * m + 4) 0) false (numF (S.1 87) z 1 64 (p + 1)).2).1 70 27) = nI m from (rd_j (by decide) (by decide)).trans ((congrFun (pSI_ne (by decide)) 27).trans ((congrFun (pSI_ne (by decide)) 27).trans ((congrFun (pSI_ne (by decide)) 27).trans ((congrFun (pSI_ne (by decide)) 27).trans ((congrFun (pSI_ne (by decide)) 27).trans ((congrFun (pSI_ne (by decide)) 27).trans ((congrFun (pSI_ne (by decide)) 27).trans h27))))))))]) ?_
        refine q_iconst (pc := 220) 1 rfl (by decide) ?_
        refine q_iadd (pc := 221) rfl ?_
        refine q_st (st2 := [.int (nI (m + 1)), .ref 70]) (by rw [nI_1 m]) ?_
        refine q_putI (pc := 222) (a := 70) rfl fl_X9_274 hm.1 rfl (fun _ h9 => by cases h9; rfl) rfl rfl ?_
        refine q_S (S2 := (rdM (pSI (pSI (pSI (pSI (pSI (pSI (pSI (pSI S 88 (5 * m + 0) 2) 88 (5 * m + 1) 1) 88 (5 * m + 2) 0) 88 (5 * m + 3) 2) 88 (5 * m + 0) 1) 88 (5 * m + 1) v1) 88 (5 * m + 4) 0) 70 27 (nI (m + 1))) false (numF (S.1 87) z 1 64 (p + 1)).2)) rd_27 ?_
        exact q_vret (pc := 225) rfl rfl ⟨rfl, sgP_r (show sgF (S.1 87) z p = .inr (numF (S.1 87) z 1 64 (p + 1)).2 by rw [sgF, if_neg (show ¬ _ = true from by rw [h1]; decide), if_pos h2, if_pos (Classical.not_not.mp (of_decide_eq_false h3))]) rfl (sgQ_27 (sgQ_w (sgQ_w (sgQ_w (sgQ_w (sgQ_w (sgQ_w (sgQ_w sgQ_0)))))))) pSI_at⟩
    · refine q_st (st2 := [.int 0]) (by rw [h2]; rfl) (q_S (S2 := (rdM (pSI (pSI (pSI (pSI S 88 (5 * m + 0) 2) 88 (5 * m + 1) 1) 88 (5 * m + 2) 0) 88 (5 * m + 3) 2) true p)) (by rw [h2]; rfl) ?_)
      refine q_if_eq (pc := 60) 158 rfl (by decide) (fun _ => ?_) (fun h9 => absurd (by decide : (0 : Int32) = 0) h9)
      refine q_aload_n (pc := 158) (j := 0) rfl rfl ?_
      refine q_aload_n (pc := 159) (j := 0) rfl rfl ?_
      refine q_get (pc := 160) (a := 70) (v := .int ((rdM (pSI (pSI (pSI (pSI S 88 (5 * m + 0) 2) 88 (5 * m + 1) 1) 88 (5 * m + 2) 0) 88 (5 * m + 3) 2) true p).1 70 25)) rfl fl_X9_260 hm.1 rfl rfl ?_
      refine q_st (st2 := [.int 1, .ref 70]) (by rw [(show ((rdM (pSI (pSI (pSI (pSI S 88 (5 * m + 0) 2) 88 (5 * m + 1) 1) 88 (5 * m + 2) 0) 88 (5 * m + 3) 2) true p).1 70 25) = (1 : Int32) from rd_g)]) ?_
      refine q_if_eq (pc := 163) 179 rfl (by decide) (fun h9 => absurd h9 (by decide : ¬ (1 : Int32) = 0)) (fun _ => ?_)
      refine q_aload_n (pc := 166) (j := 0) rfl rfl ?_
      refine q_bipush (pc := 167) 98 rfl (by decide) ?_
      refine q_callV (pc := 169) (as := [.int 98]) (rest := [.ref 70]) (b := 70) (st2 := [.int (pB (nxB (S.1 87) z p 98)), .ref 70]) rfl ce_X9_takes ml_X9_277 im_X9_takes se_X9_takes hm.1 rfl rfl rfl (by decide) (Nat.le_of_ble_eq_true rfl) (sp_X9_takesT (S := (pSI (pSI (pSI (pSI S 88 (5 * m + 0) 2) 88 (5 * m + 1) 1) 88 (5 * m + 2) 0) 88 (5 * m + 3) 2)) (p := p) (b := (S.1 87)) ((pSI_ne (by decide)).trans ((pSI_ne (by decide)).trans ((pSI_ne (by decide)).trans ((pSI_ne (by decide)).trans rfl)))) hm ((congrFun (pSI_ne (by decide)) 23).trans ((congrFun (pSI_ne (by decide)) 23).trans ((congrFun (pSI_ne (by decide)) 23).trans ((congrFun (pSI_ne (by decide)) 23).trans hz)))) hz1 (by omega)) rfl ?_
      rcases Bool.eq_false_or_eq_true (nxB (S.1 87) z p 98) with h8 | h8
      · refine q_st (st2 := [.int 1, .ref 70]) (by rw [h8]; rfl) (q_S (S2 := (rdM (pSI (pSI (pSI (pSI S 88 (5 * m + 0) 2) 88 (5 * m + 1) 1) 88 (5 * m + 2) 0) 88 (5 * m + 3) 2) true (p + 1))) (by rw [h8]; rfl) ?_); have hbh8 := nx_in h8
        refine q_if_eq (pc := 172) 179 rfl (by decide) (fun h9 => absurd h9 (by decide : ¬ (1 : Int32) = 0)) (fun _ => ?_)
        refine q_iconst (pc := 175) 1 rfl (by decide) ?_
        refine q_goto (pc := 176) 180 rfl (by decide) ?_
        refine q_putI (pc := 180) (a := 70) rfl fl_X9_260 hm.1 rfl (fun _ h9 => by cases h9; rfl) rfl rfl ?_
        refine q_S (S2 := (rdM (pSI (pSI (pSI (pSI S 88 (5 * m + 0) 2) 88 (5 * m + 1) 1) 88 (5 * m + 2) 0) 88 (5 * m + 3) 2) true (p + 1))) (rd_sg (h := true)) ?_
        refine q_iconst (pc := 183) 0 rfl (by decide) ?_
        refine q_istore_n (pc := 184) (j := 3) [some (.ref 70), some (.int (nI (5 * m))), some (.int 0), some (.int 0)] rfl (by decide) rfl ?_
        refine lp_X9_signA (E := (pSI (pSI (pSI (pSI S 88 (5 * m + 0) 2) 88 (5 * m + 1) 1) 88 (5 * m + 2) 0) 88 (5 * m + 3) 2)) (b := (S.1 87)) (z := z) (N9 := (adF (S.1 87) z 9 (p + 1))) (P9 := (p + 1) + (adF (S.1 87) z 9 (p + 1))) (by decide) hm ((pSI_ne (by decide)).trans ((pSI_ne (by decide)).trans ((pSI_ne (by decide)).trans ((pSI_ne (by decide)).trans rfl)))) ((congrFun (pSI_ne (by decide)) 23).trans ((congrFun (pSI_ne (by decide)) 23).trans ((congrFun (pSI_ne (by decide)) 23).trans ((congrFun (pSI_ne (by decide)) 23).trans hz)))) hz1 ?_ 9 0 (p + 1) rfl (by omega) (Nat.zero_add _) rfl
        refine q_aload_n (pc := 206) (j := 0) rfl rfl ?_
        refine q_get (pc := 207) (a := 70) (v := .ref 88) rfl fl_X9_63 hm.1 rfl rfl ?_
        refine q_iload_n (pc := 210) (j := 1) rfl rfl ?_
        refine q_iconst (pc := 211) 4 rfl (by decide) ?_
        refine q_iadd (pc := 212) rfl ?_
        refine q_st (st2 := [.int (nI (5 * m + 4)), .ref 88]) (by rw [(show nI (5 * m) + 4 = nI (5 * m + 4) from nI_add (5 * m) 4)]) ?_
        refine q_iload_n (pc := 213) (j := 3) rfl rfl ?_
        refine q_iast (pc := 214) (a := 88) (5 * m + 4) rfl hm.2.2.2.2.2.2.2.2.2.2.2.2.2.2.2.2.2.2.1 (vp_in_nI (by omega) (by decide)) (nI_clamp (by omega)) ?_
        refine q_S (S2 := (rdM (pSI (pSI (pSI (pSI (pSI S 88 (5 * m + 0) 2) 88 (5 * m + 1) 1) 88 (5 * m + 2) 0) 88 (5 * m + 3) 2) 88 (5 * m + 4) (nI (adF (S.1 87) z 9 (p + 1)))) true ((p + 1) + (adF (S.1 87) z 9 (p + 1))))) rd_w ?_
        refine q_aload_n (pc := 215) (j := 0) rfl rfl ?_
        refine q_dup (pc := 216) rfl rfl ?_
        refine q_get (pc := 217) (a := 70) (v := .int ((rdM (pSI (pSI (pSI (pSI (pSI S 88 (5 * m + 0) 2) 88 (5 * m + 1) 1) 88 (5 * m + 2) 0) 88 (5 * m + 3) 2) 88 (5 * m + 4) (nI (adF (S.1 87) z 9 (p + 1)))) true ((p + 1) + (adF (S.1 87) z 9 (p + 1)))).1 70 27)) rfl fl_X9_274 hm.1 rfl rfl ?_
        refine q_st (st2 := [.int (nI m), .ref 70]) (by rw [(show ((rdM (pSI (pSI (pSI (pSI (pSI S 88 (5 * m + 0) 2) 88 (5 * m + 1) 1) 88 (5 * m + 2) 0) 88 (5 * m + 3) 2) 88 (5 * m + 4) (nI (adF (S.1 87) z 9 (p + 1)))) true ((p + 1) + (adF (S.1 87) z 9 (p + 1)))).1 70 27) = nI m from (rd_j (by decide) (by decide)).trans ((congrFun (pSI_ne (by decide)) 27).trans ((congrFun (pSI_ne (by decide)) 27).trans ((congrFun (pSI_ne (by decide)) 27).trans ((congrFun (pSI_ne (by decide)) 27).trans ((congrFun (pSI_ne (by decide)) 27).trans h27))))))]) ?_
        refine q_iconst (pc := 220) 1 rfl (by decide) ?_
        refine q_iadd (pc := 221) rfl ?_
        refine q_st (st2 := [.int (nI (m + 1)), .ref 70]) (by rw [nI_1 m]) ?_
        refine q_putI (pc := 222) (a := 70) rfl fl_X9_274 hm.1 rfl (fun _ h9 => by cases h9; rfl) rfl rfl ?_
        refine q_S (S2 := (rdM (pSI (pSI (pSI (pSI (pSI (pSI S 88 (5 * m + 0) 2) 88 (5 * m + 1) 1) 88 (5 * m + 2) 0) 88 (5 * m + 3) 2) 88 (5 * m + 4) (nI (adF (S.1 87) z 9 (p + 1)))) 70 27 (nI (m + 1))) true ((p + 1) + (adF (S.1 87) z 9 (p + 1))))) rd_27 ?_
        exact q_vret (pc := 225) rfl rfl ⟨rfl, sgP_l (show sgF (S.1 87) z p = .inl (2, 1, 0, p + 1) by rw [sgF, if_neg (show ¬ _ = true from by rw [h1]; decide), if_neg (show ¬ _ = true from by rw [h2]; decide), if_pos h8]) rfl (sgQ_27 (sgQ_w (sgQ_w (sgQ_w (sgQ_w (sgQ_w sgQ_0)))))) pSI_at (by simp [sgE, pSI, pU])⟩
      · refine q_st (st2 := [.int 0, .ref 70]) (by rw [h8]; rfl) (q_S (S2 := (rdM (pSI (pSI (pSI (pSI S 88 (5 * m + 0) 2) 88 (5 * m + 1) 1) 88 (5 * m + 2) 0) 88 (5 * m + 3) 2) true p)) (by rw [h8]; rfl) ?_)
        refine q_if_eq (pc := 172) 179 rfl (by decide) (fun _ => ?_) (fun h9 => absurd (by decide : (0 : Int32) = 0) h9)
        refine q_iconst (pc := 179) 0 rfl (by decide) ?_
        refine q_putI (pc := 180) (a := 70) rfl fl_X9_260 hm.1 rfl (fun _ h9 => by cases h9; rfl) rfl rfl ?_
        refine q_S (S2 := (rdM (pSI (pSI (pSI (pSI S 88 (5 * m + 0) 2) 88 (5 * m + 1) 1) 88 (5 * m + 2) 0) 88 (5 * m + 3) 2) false p)) (rd_sg (h := false)) ?_
        refine q_iconst (pc := 183) 0 rfl (by decide) ?_
        refine q_istore_n (pc := 184) (j := 3) [some (.ref 70), some (.int (nI (5 * m))), some (.int 0), some (.int 0)] rfl (by decide) rfl ?_
        refine q_iload_n (pc := 185) (j := 3) rfl rfl ?_
        refine q_bipush (pc := 186) 9 rfl (by decide) ?_
        refine q_icmp_ge (pc := 188) 206 rfl (by decide) (fun h9 => absurd h9 (by decide : ¬ (9 : Int32) ≤ (0 : Int32))) (fun _ => ?_)
        refine q_aload_n (pc := 191) (j := 0) rfl rfl ?_
        refine q_bipush (pc := 192) 39 rfl (by decide) ?_
        refine q_callV (pc := 194) (as := [.int 39]) (rest := []) (b := 70) (st2 := [.int 0]) rfl ce_X9_takes ml_X9_277 im_X9_takes se_X9_takes hm.1 rfl rfl rfl (by decide) (Nat.le_of_ble_eq_true rfl) (sp_X9_takesF (S := (pSI (pSI (pSI (pSI S 88 (5 * m + 0) 2) 88 (5 * m + 1) 1) 88 (5 * m + 2) 0) 88 (5 * m + 3) 2)) (p := p) hm ((congrFun (pSI_ne (by decide)) 23).trans ((congrFun (pSI_ne (by decide)) 23).trans ((congrFun (pSI_ne (by decide)) 23).trans ((congrFun (pSI_ne (by decide)) 23).trans hz)))) hz1 (by omega)) rfl ?_
        refine q_if_eq (pc := 197) 206 rfl (by decide) (fun _ => ?_) (fun h9 => absurd (by decide : (0 : Int32) = 0) h9)
        refine q_aload_n (pc := 206) (j := 0) rfl rfl ?_
        refine q_get (pc := 207) (a := 70) (v := .ref 88) rfl fl_X9_63 hm.1 rfl rfl ?_
        refine q_iload_n (pc := 210) (j := 1) rfl rfl ?_
        refine q_iconst (pc := 211) 4 rfl (by decide) ?_
        refine q_iadd (pc := 212) rfl ?_
        refine q_st (st2 := [.int (nI (5 * m + 4)), .ref 88]) (by rw [(show nI (5 * m) + 4 = nI (5 * m + 4) from nI_add (5 * m) 4)]) ?_
        refine q_iload_n (pc := 213) (j := 3) rfl rfl ?_
        refine q_iast (pc := 214) (a := 88) (5 * m + 4) rfl hm.2.2.2.2.2.2.2.2.2.2.2.2.2.2.2.2.2.2.1 (vp_in_nI (by omega) (by decide)) (nI_clamp (by omega)) ?_
        refine q_S (S2 := (rdM (pSI (pSI (pSI (pSI (pSI S 88 (5 * m + 0) 2) 88 (5 * m + 1) 1) 88 (5 * m + 2) 0) 88 (5 * m + 3) 2) 88 (5 * m + 4) 0) false p)) rd_w ?_
        refine q_aload_n (pc := 215) (j := 0) rfl rfl ?_
        refine q_dup (pc := 216) rfl rfl ?_
        refine q_get (pc := 217) (a := 70) (v := .int ((rdM (pSI (pSI (pSI (pSI (pSI S 88 (5 * m + 0) 2) 88 (5 * m + 1) 1) 88 (5 * m + 2) 0) 88 (5 * m + 3) 2) 88 (5 * m + 4) 0) false p).1 70 27)) rfl fl_X9_274 hm.1 rfl rfl ?_
        refine q_st (st2 := [.int (nI m), .ref 70]) (by rw [(show ((rdM (pSI (pSI (pSI (pSI (pSI S 88 (5 * m + 0) 2) 88 (5 * m + 1) 1) 88 (5 * m + 2) 0) 88 (5 * m + 3) 2) 88 (5 * m + 4) 0) false p).1 70 27) = nI m from (rd_j (by decide) (by decide)).trans ((congrFun (pSI_ne (by decide)) 27).trans ((congrFun (pSI_ne (by decide)) 27).trans ((congrFun (pSI_ne (by decide)) 27).trans ((congrFun (pSI_ne (by decide)) 27).trans ((congrFun (pSI_ne (by decide)) 27).trans h27))))))]) ?_
        refine q_iconst (pc := 220) 1 rfl (by decide) ?_
        refine q_iadd (pc := 221) rfl ?_
        refine q_st (st2 := [.int (nI (m + 1)), .ref 70]) (by rw [nI_1 m]) ?_
        refine q_putI (pc := 222) (a := 70) rfl fl_X9_274 hm.1 rfl (fun _ h9 => by cases h9; rfl) rfl rfl ?_
        refine q_S (S2 := (rdM (pSI (pSI (pSI (pSI (pSI (pSI S 88 (5 * m + 0) 2) 88 (5 * m + 1) 1) 88 (5 * m + 2) 0) 88 (5 * m + 3) 2) 88 (5 * m + 4) 0) 70 27 (nI (m + 1))) false p)) rd_27 ?_
        exact q_vret (pc := 225) rfl rfl ⟨rfl, sgP_r (show sgF (S.1 87) z p = .inr p by rw [sgF, if_neg (show ¬ _ = true from by rw [h1]; decide), if_neg (show ¬ _ = true from by rw [h2]; decide), if_neg (show ¬ _ = true from by rw [h8]; decide)]) rfl (sgQ_27 (sgQ_w (sgQ_w (sgQ_w (sgQ_w (sgQ_w sgQ_0)))))) pSI_at⟩
