/-! the law's apart: written by wip/p37/gen/c52.py -/
def sm100 (x : Int32) : Prop := -100 ≤ x.toInt ∧ x.toInt ≤ 100
theorem sm_mx {x y : Int32} (hx : sm100 x) (hy : sm100 y) : sm100 (mxI x y) := by unfold mxI; split <;> assumption
theorem sm_mn {x y : Int32} (hx : sm100 x) (hy : sm100 y) : sm100 (mnI x y) := by unfold mnI; split <;> assumption
theorem i_add {x y : Int32} (h : -1000000 ≤ x.toInt ∧ x.toInt ≤ 1000000) (h2 : -1000000 ≤ y.toInt ∧ y.toInt ≤ 1000000) : (x + y).toInt = x.toInt + y.toInt := by
  rw [Int32.toInt_add, Int.bmod_eq_of_le (by omega) (by omega)]
theorem i_sub {x y : Int32} (h : -1000000 ≤ x.toInt ∧ x.toInt ≤ 1000000) (h2 : -1000000 ≤ y.toInt ∧ y.toInt ≤ 1000000) : (x - y).toInt = x.toInt - y.toInt := by
  rw [Int32.toInt_sub, Int.bmod_eq_of_le (by omega) (by omega)]
theorem i_c : (7 : Int32).toInt = 7 ∧ (1 : Int32).toInt = 1 ∧ (3 : Int32).toInt = 3 ∧ (4 : Int32).toInt = 4 ∧ (-3 : Int32).toInt = -3 ∧ (-4 : Int32).toInt = -4 ∧ (0 : Int32).toInt = 0 ∧ (2 : Int32).toInt = 2 ∧ (6 : Int32).toInt = 6 := by decide
theorem top_b {g : Nat → Int32} {i : Nat} (h : okC g i) : -20 ≤ (topG g i).toInt ∧ (topG g i).toInt ≤ 40 := by
  obtain ⟨h1, h2, ⟨h3, h3'⟩, h4, ⟨h5, h6⟩⟩ := h
  have ⟨c7, c1, c3, c4, _, _, c0, _, _⟩ := i_c
  have e9 : (g (5 * i + 4)).toInt ≤ 9 := by omega
  unfold topG topV
  split
  · split
    · rw [i_add (by rw [i_add (by omega) (by omega)]; omega) (by omega), i_add (by omega) (by omega)]; omega
    · rw [i_add (by rw [i_add (by omega) (by omega)]; omega) (by omega), i_add (by omega) (by omega)]; omega
  · split
    · rw [i_add (by omega) (by omega)]; omega
    · rw [i_add (by omega) (by omega)]; omega
theorem bot_b {g : Nat → Int32} {i : Nat} (h : okC g i) : -20 ≤ (botG g i).toInt ∧ (botG g i).toInt ≤ 20 := by
  obtain ⟨h1, h2, ⟨h3, h3'⟩, h4, ⟨h5, h6⟩⟩ := h
  have ⟨c7, c1, c3, c4, n3, n4, c0, _, _⟩ := i_c
  unfold botG botV
  split
  · split
    · rw [i_sub (by omega) (by omega)]; omega
    · rw [i_sub (by omega) (by omega)]; omega
  · split
    · omega
    · omega
theorem sk_b {g : Nat → Int32} {w : Int32} {a n N x : Nat} (hg : okG g N) (han : a + n ≤ N) : ∀ k, k ≤ n → (skV g w a n k x).1 = true → sm100 (skV g w a n k x).2.1 ∧ sm100 (skV g w a n k x).2.2 := by
  intro k
  induction k with
  | zero => intro _ h; exact absurd (show false = true from h) (by decide)
  | succ k ih =>
    intro hk h
    have ht := top_b (hg (a + k) (by omega))
    have hb := bot_b (hg (a + k) (by omega))
    have t1 : sm100 (topG g (a + k)) := ⟨by omega, by omega⟩
    have t2 : sm100 (botG g (a + k)) := ⟨by omega, by omega⟩
    unfold skV at h ⊢
    by_cases hc : (cellV g w a n k).toInt.toNat ≤ x ∧ x < (inkE (cellV g w a n k) (g (5 * (a + k) + 3))).toInt.toNat
    · rw [if_pos hc]
      by_cases h2 : (skV g w a n k x).1 = true
      · have h3 := ih (by omega) h2
        show sm100 (if (skV g w a n k x).1 = true then mxI (topG g (a + k)) (skV g w a n k x).2.1 else topG g (a + k)) ∧ sm100 (if (skV g w a n k x).1 = true then mnI (botG g (a + k)) (skV g w a n k x).2.2 else botG g (a + k))
        rw [if_pos h2, if_pos h2]
        exact ⟨sm_mx t1 h3.1, sm_mn t2 h3.2⟩
      · show sm100 (if (skV g w a n k x).1 = true then mxI (topG g (a + k)) (skV g w a n k x).2.1 else topG g (a + k)) ∧ sm100 (if (skV g w a n k x).1 = true then mnI (botG g (a + k)) (skV g w a n k x).2.2 else botG g (a + k))
        rw [if_neg h2, if_neg h2]
        exact ⟨t1, t2⟩
    · rw [if_neg hc] at h ⊢
      exact ih (by omega) h
theorem sm_ne {x : Int32} (h : sm100 x) : ¬ x = -2147483002 := fun q => by
  have := h.1
  rw [q] at this
  exact absurd this (by decide)
theorem sky_iff {g : Nat → Int32} {w : Int32} {a n N x : Nat} {lower : Bool} (hg : okG g N) (han : a + n ≤ N) : (skyA g w a n lower x = -2147483002 ↔ ¬ (skV g w a n n x).1 = true) ∧ ((skV g w a n n x).1 = true → skyA g w a n lower x = if lower = true then (skV g w a n n x).2.2 else (skV g w a n n x).2.1) := by
  unfold skyA skyV
  by_cases h : (skV g w a n n x).1 = true
  · rw [if_pos h]
    refine ⟨⟨fun q => ?_, fun q => absurd h q⟩, fun _ => rfl⟩
    have h2 := sk_b (w := w) (x := x) hg han n (Nat.le_refl n) h
    exfalso
    cases lower with
    | true => exact sm_ne h2.2 q
    | false => exact sm_ne h2.1 q
  · rw [if_neg h]
    exact ⟨⟨fun _ => h, fun _ => rfl⟩, fun q => absurd q h⟩
theorem ds_no {s1 s2 : Nat → Bool × Int32 × Int32} {k : Nat} (h : ¬ ((s1 k).1 = true ∧ (s2 k).1 = true)) : dsV s1 s2 (k + 1) = dsV s1 s2 k := by
  rw [dsV, if_neg h]
theorem ds_up {s1 s2 : Nat → Bool × Int32 × Int32} {k : Nat} (h : (s1 k).1 = true ∧ (s2 k).1 = true) : dsV s1 s2 (k + 1) = mxI (dsV s1 s2 k) ((s2 k).2.1 - (s1 k).2.2 + 2) := by
  rw [dsV, if_pos h]
set_option maxRecDepth 100000 in
theorem lp_L_apart {n0 : Nat} {X : Nat × (Nat → Int32)} {P : Option Value → PSt → Prop} {d : Nat} (hd9 : 8 ≤ d) {sh : List PSh} {S : PSt} {N : Nat} (he : isLw sh) (hi : cIv S N) {a m c l : Nat} (hb : a + m < N) (hd : c + l < N) {v : Int32}  (hex : ∀ f8 f9 T, frL S T → pV mL_apart d n0 X sh P 77 [some (.ref 0), some (.int (nI a)), some (.int (nI (a + m))), some (.int (nI c)), some (.int (nI (c + l))), some (.int v), some (.int (dsV (skV (S.1 3) (S.1 1 2) a (m + 1) (m + 1)) (skV (S.1 3) (S.1 1 2) c (l + 1) (l + 1)) 400)), some (.int (nI 400)), f8, f9] [] T) : ∀ (m9 k : Nat) (f8 : Option Value) (f9 : Option Value) (T : PSt), k + m9 = 400 → frL S T → pV mL_apart d n0 X sh P 7 [some (.ref 0), some (.int (nI a)), some (.int (nI (a + m))), some (.int (nI c)), some (.int (nI (c + l))), some (.int v), some (.int (dsV (skV (S.1 3) (S.1 1 2) a (m + 1) (m + 1)) (skV (S.1 3) (S.1 1 2) c (l + 1) (l + 1)) k)), some (.int (nI k)), f8, f9] [] T := by
  intro m9
  induction m9 with
  | zero =>
    intro k f8 f9 T hk hf
    have hk9 : 400 = k := by omega
    subst hk9
    refine q_iload (pc := 7) (j := 7) rfl rfl ?_
    refine q_sipush (pc := 9) 400 rfl (by decide) ?_
    refine q_icmp_ge (pc := 12) 77 rfl (by decide) (fun _ => ?_) (fun h9 => absurd (Int32.le_refl _) h9)
    exact hex _ _ _ hf
  | succ m9 ih =>
    intro k f8 f9 T hk hf
    have hk1 : k < 400 := by omega
    have hk2 : k < 400 := hk1
    refine q_iload (pc := 7) (j := 7) rfl rfl ?_
    refine q_sipush (pc := 9) 400 rfl (by decide) ?_
    refine q_icmp_ge (pc := 12) 77 rfl (by decide) (fun h9 => absurd h9 (nI_ge (b := 400) hk1 (by decide))) (fun _ => ?_)
    refine q_aload_n (pc := 15) (j := 0) rfl rfl ?_
    refine q_iload_n (pc := 16) (j := 1) rfl rfl ?_
    refine q_iload_n (pc := 17) (j := 2) rfl rfl ?_
    refine q_iconst (pc := 18) 1 rfl (by decide) ?_
    refine q_iload (pc := 19) (j := 7) rfl rfl ?_
    refine q_callVG (pc := 21) (as := [.int (nI a), .int (nI (a + m)), .int 1, .int (nI k)]) (rest := []) (b := 0) rfl ce_X8_sky ml_L_93 im_X8_sky se_X8_sky he.1.1 rfl rfl rfl (by omega) (Nat.le_of_ble_eq_true rfl) (sp_X8_sky he.1 (fl_iv hi hf)) (fun r9 S9 h9 => ?_)
    obtain ⟨rfl, hf⟩ := rk_sky (lower := true) hi hf (a := a) (m := m) (x := k) (by omega) (by omega) h9
    refine q_istore (pc := 24) (j := 8) [some (.ref 0), some (.int (nI a)), some (.int (nI (a + m))), some (.int (nI c)), some (.int (nI (c + l))), some (.int v), some (.int (dsV (skV (S.1 3) (S.1 1 2) a (m + 1) (m + 1)) (skV (S.1 3) (S.1 1 2) c (l + 1) (l + 1)) k)), some (.int (nI k)), some (.int (skyA (S.1 3) (S.1 1 2) a (m + 1) true k)), f9] rfl (by decide) rfl ?_
    refine q_iload (pc := 26) (j := 8) rfl rfl ?_
    refine q_ldc (pc := 28) (v := (-2147483002)) rfl kc_L_71 ?_
    refine q_icmp_ne (pc := 30) 38 rfl (by decide) (fun h30 => ?_) (fun h30 => ?_)
    · refine q_aload_n (pc := 38) (j := 0) rfl rfl ?_
      refine q_iload_n (pc := 39) (j := 3) rfl rfl ?_
      refine q_iload (pc := 40) (j := 4) rfl rfl ?_
      refine q_iconst (pc := 42) 0 rfl (by decide) ?_
      refine q_iload (pc := 43) (j := 7) rfl rfl ?_
      refine q_callVG (pc := 45) (as := [.int (nI c), .int (nI (c + l)), .int 0, .int (nI k)]) (rest := []) (b := 0) rfl ce_X8_sky ml_L_93 im_X8_sky se_X8_sky he.1.1 rfl rfl rfl (by omega) (Nat.le_of_ble_eq_true rfl) (sp_X8_sky he.1 (fl_iv hi hf)) (fun r9 S9 h9 => ?_)
      obtain ⟨rfl, hf⟩ := rk_sky (lower := false) hi hf (a := c) (m := l) (x := k) (by omega) (by omega) h9
      refine q_istore (pc := 48) (j := 9) [some (.ref 0), some (.int (nI a)), some (.int (nI (a + m))), some (.int (nI c)), some (.int (nI (c + l))), some (.int v), some (.int (dsV (skV (S.1 3) (S.1 1 2) a (m + 1) (m + 1)) (skV (S.1 3) (S.1 1 2) c (l + 1) (l + 1)) k)), some (.int (nI k)), some (.int (skyA (S.1 3) (S.1 1 2) a (m + 1) true k)), some (.int (skyA (S.1 3) (S.1 1 2) c (l + 1) false k))] rfl (by decide) rfl ?_
      refine q_iload (pc := 50) (j := 9) rfl rfl ?_
      refine q_ldc (pc := 52) (v := (-2147483002)) rfl kc_L_71 ?_
      refine q_icmp_eq (pc := 54) 71 rfl (by decide) (fun h54 => ?_) (fun h54 => ?_)
      · refine q_iinc (pc := 71) (j := 7) (n := 1) (nI (k + 1)) [some (.ref 0), some (.int (nI a)), some (.int (nI (a + m))), some (.int (nI c)), some (.int (nI (c + l))), some (.int v), some (.int (dsV (skV (S.1 3) (S.1 1 2) a (m + 1) (m + 1)) (skV (S.1 3) (S.1 1 2) c (l + 1) (l + 1)) k)), some (.int (nI (k + 1))), some (.int (skyA (S.1 3) (S.1 1 2) a (m + 1) true k)), some (.int (skyA (S.1 3) (S.1 1 2) c (l + 1) false k))] rfl (by decide) rfl (nI_1 k) rfl ?_
        refine q_goto (pc := 74) 7 rfl (by decide) ?_
        exact q_L (by rw [ds_no (fun q9 => (sky_iff (w := S.1 1 2) (x := k) (lower := false) hi.2.2.1 (show c + (l + 1) ≤ N by omega)).1.mp h54 q9.2)]) (ih (k + 1) (some (.int (skyA (S.1 3) (S.1 1 2) a (m + 1) true k))) (some (.int (skyA (S.1 3) (S.1 1 2) c (l + 1) false k))) S9 (by omega) hf)
      · refine q_iload (pc := 57) (j := 6) rfl rfl ?_
        refine q_iload (pc := 59) (j := 9) rfl rfl ?_
        refine q_iload (pc := 61) (j := 8) rfl rfl ?_
        refine q_isub (pc := 63) rfl ?_
        refine q_iconst (pc := 64) 2 rfl (by decide) ?_
        refine q_iadd (pc := 65) rfl ?_
        refine q_max (pc := 66) rfl ml_L_96 (by omega) (Nat.le_of_ble_eq_true rfl) ?_
        refine q_istore (pc := 69) (j := 6) [some (.ref 0), some (.int (nI a)), some (.int (nI (a + m))), some (.int (nI c)), some (.int (nI (c + l))), some (.int v), some (.int (if (dsV (skV (S.1 3) (S.1 1 2) a (m + 1) (m + 1)) (skV (S.1 3) (S.1 1 2) c (l + 1) (l + 1)) k) < (((skyA (S.1 3) (S.1 1 2) c (l + 1) false k) - (skyA (S.1 3) (S.1 1 2) a (m + 1) true k)) + 2) then (((skyA (S.1 3) (S.1 1 2) c (l + 1) false k) - (skyA (S.1 3) (S.1 1 2) a (m + 1) true k)) + 2) else (dsV (skV (S.1 3) (S.1 1 2) a (m + 1) (m + 1)) (skV (S.1 3) (S.1 1 2) c (l + 1) (l + 1)) k))), some (.int (nI k)), some (.int (skyA (S.1 3) (S.1 1 2) a (m + 1) true k)), some (.int (skyA (S.1 3) (S.1 1 2) c (l + 1) false k))] rfl (by decide) rfl ?_
        refine q_iinc (pc := 71) (j := 7) (n := 1) (nI (k + 1)) [some (.ref 0), some (.int (nI a)), some (.int (nI (a + m))), some (.int (nI c)), some (.int (nI (c + l))), some (.int v), some (.int (if (dsV (skV (S.1 3) (S.1 1 2) a (m + 1) (m + 1)) (skV (S.1 3) (S.1 1 2) c (l + 1) (l + 1)) k) < (((skyA (S.1 3) (S.1 1 2) c (l + 1) false k) - (skyA (S.1 3) (S.1 1 2) a (m + 1) true k)) + 2) then (((skyA (S.1 3) (S.1 1 2) c (l + 1) false k) - (skyA (S.1 3) (S.1 1 2) a (m + 1) true k)) + 2) else (dsV (skV (S.1 3) (S.1 1 2) a (m + 1) (m + 1)) (skV (S.1 3) (S.1 1 2) c (l + 1) (l + 1)) k))), some (.int (nI (k + 1))), some (.int (skyA (S.1 3) (S.1 1 2) a (m + 1) true k)), some (.int (skyA (S.1 3) (S.1 1 2) c (l + 1) false k))] rfl (by decide) rfl (nI_1 k) rfl ?_
        refine q_goto (pc := 74) 7 rfl (by decide) ?_
        exact q_L (by rw [ds_up ⟨Classical.not_not.mp (mt (sky_iff (w := S.1 1 2) (x := k) (lower := true) hi.2.2.1 (show a + (m + 1) ≤ N by omega)).1.mpr h30), Classical.not_not.mp (mt (sky_iff (w := S.1 1 2) (x := k) (lower := false) hi.2.2.1 (show c + (l + 1) ≤ N by omega)).1.mpr h54)⟩, (sky_iff (w := S.1 1 2) (x := k) (lower := true) hi.2.2.1 (show a + (m + 1) ≤ N by omega)).2 (Classical.not_not.mp (mt (sky_iff (w := S.1 1 2) (x := k) (lower := true) hi.2.2.1 (show a + (m + 1) ≤ N by omega)).1.mpr h30)), (sky_iff (w := S.1 1 2) (x := k) (lower := false) hi.2.2.1 (show c + (l + 1) ≤ N by omega)).2 (Classical.not_not.mp (mt (sky_iff (w := S.1 1 2) (x := k) (lower := false) hi.2.2.1 (show c + (l + 1) ≤ N by omega)).1.mpr h54))]; rfl) (ih (k + 1) (some (.int (skyA (S.1 3) (S.1 1 2) a (m + 1) true k))) (some (.int (skyA (S.1 3) (S.1 1 2) c (l + 1) false k))) S9 (by omega) hf)
    · refine q_ldc (pc := 33) (v := (-2147483002)) rfl kc_L_71 ?_
      refine q_goto (pc := 35) 48 rfl (by decide) ?_
      refine q_istore (pc := 48) (j := 9) [some (.ref 0), some (.int (nI a)), some (.int (nI (a + m))), some (.int (nI c)), some (.int (nI (c + l))), some (.int v), some (.int (dsV (skV (S.1 3) (S.1 1 2) a (m + 1) (m + 1)) (skV (S.1 3) (S.1 1 2) c (l + 1) (l + 1)) k)), some (.int (nI k)), some (.int (skyA (S.1 3) (S.1 1 2) a (m + 1) true k)), some (.int (-2147483002))] rfl (by decide) rfl ?_
      refine q_iload (pc := 50) (j := 9) rfl rfl ?_
      refine q_ldc (pc := 52) (v := (-2147483002)) rfl kc_L_71 ?_
      refine q_icmp_eq (pc := 54) 71 rfl (by decide) (fun _ => ?_) (fun h9 => absurd (by decide : ((-2147483002) : Int32) = (-2147483002)) h9)
      refine q_iinc (pc := 71) (j := 7) (n := 1) (nI (k + 1)) [some (.ref 0), some (.int (nI a)), some (.int (nI (a + m))), some (.int (nI c)), some (.int (nI (c + l))), some (.int v), some (.int (dsV (skV (S.1 3) (S.1 1 2) a (m + 1) (m + 1)) (skV (S.1 3) (S.1 1 2) c (l + 1) (l + 1)) k)), some (.int (nI (k + 1))), some (.int (skyA (S.1 3) (S.1 1 2) a (m + 1) true k)), some (.int (-2147483002))] rfl (by decide) rfl (nI_1 k) rfl ?_
      refine q_goto (pc := 74) 7 rfl (by decide) ?_
      exact q_L (by rw [ds_no (fun q9 => (sky_iff (w := S.1 1 2) (x := k) (lower := true) hi.2.2.1 (show a + (m + 1) ≤ N by omega)).1.mp h30 q9.1)]) (ih (k + 1) (some (.int (skyA (S.1 3) (S.1 1 2) a (m + 1) true k))) (some (.int (-2147483002))) S9 (by omega) hf)
set_option maxRecDepth 100000 in
theorem sp_L_apart {sh : List PSh} {S : PSt} {N : Nat} (he : isLw sh) (hi : cIv S N) {a m c l : Nat} (hb : a + m < N) (hd : c + l < N) {T0 : PSt} (hf : frL S T0) {v : Int32} (hv : v = (apV (S.1 3) (S.1 1 2) a (m + 1) c (l + 1))) : pG mL_apart 8 [.ref 0, .int (nI a), .int (nI (a + m)), .int (nI c), .int (nI (c + l)), .int v] sh T0 (fun r U => r = some (.int 1) ∧ frL S U) := by
  refine pG.of [some (.ref 0), some (.int (nI a)), some (.int (nI (a + m))), some (.int (nI c)), some (.int (nI (c + l))), some (.int v), none, none, none, none] (by decide) tk_L_apart (Nat.le_of_ble_eq_true rfl) rfl (fun X => ?_)
  refine q_bipush (pc := 0) 8 rfl (by decide) ?_
  refine q_istore (pc := 2) (j := 6) [some (.ref 0), some (.int (nI a)), some (.int (nI (a + m))), some (.int (nI c)), some (.int (nI (c + l))), some (.int v), some (.int 8), none, none, none] rfl (by decide) rfl ?_
  refine q_iconst (pc := 4) 0 rfl (by decide) ?_
  refine q_istore (pc := 5) (j := 7) [some (.ref 0), some (.int (nI a)), some (.int (nI (a + m))), some (.int (nI c)), some (.int (nI (c + l))), some (.int v), some (.int 8), some (.int 0), none, none] rfl (by decide) rfl ?_
  refine lp_L_apart (by decide) he hi hb hd (fun f8 f9 T hf => ?_) 400 0 _ _ _ (Nat.zero_add _) hf
  refine q_iload (pc := 77) (j := 6) rfl rfl ?_
  refine q_iload (pc := 79) (j := 5) rfl rfl ?_
  refine q_icmp_ne (pc := 81) 88 rfl (by decide) (fun h9 => absurd h9 (fun q9 => q9 hv.symm)) (fun _ => ?_)
  refine q_iconst (pc := 84) 1 rfl (by decide) ?_
  refine q_goto (pc := 85) 89 rfl (by decide) ?_
  exact q_zret (pc := 89) rfl rfl rfl ⟨rfl, hf⟩
