/-! the law's columns: written by wip/p37/gen/c78.py -/
theorem q_cut {M : PM} {d n0 : Nat} {X : Nat × (Nat → Int32)} {sh : List PSh} {P : Option Value → PSt → Prop} {pc : Nat} {L : PL} {st : List Value} {S : PSt} {D : Int32 → Prop} (pc2 : Nat) (L2 : PL) (st2 : Int32 → List Value) (S2 : PSt) (k : ∀ v, D v → pV M d n0 X sh P pc2 L2 (st2 v) S2) (f : (∀ v, D v → pV M d n0 X sh P pc2 L2 (st2 v) S2) → pV M d n0 X sh P pc L st S) : pV M d n0 X sh P pc L st S := f k
theorem fl_I {S T : PSt} {c i : Nat} {v : Int32} (h : frL S T) : frL (pSI S c i v) (pSI T c i v) := by
  intro x hx h69
  obtain ⟨a1, a2, a3, a4⟩ := h x hx h69
  refine ⟨?_, a2, a3, a4⟩
  funext j
  show (if x = c ∧ j = i then v else T.1 x j) = (if x = c ∧ j = i then v else S.1 x j)
  rw [congrFun a1 j]
def clA (B : PSt) (c : Nat) (kd du : Int32) : PSt := pSI (ly5 B 3 c kd du 0 2 0) 1 1 (nI (c + 1))
def clB (B : PSt) (c : Nat) (kd du sp wd ad : Int32) : PSt := pSI (pSI (pSI (pSI (pSI B 70 (2 + 5 * c) kd) 70 (2 + 5 * c + 1) du) 70 (2 + 5 * c + 2) sp) 70 (2 + 5 * c + 3) wd) 70 (2 + 5 * c + 4) ad
def clC (B : PSt) (c : Nat) (sp wd ad : Int32) : PSt := pSI (pSI (pSI B 3 (5 * c + 2) sp) 3 (5 * c + 3) wd) 3 (5 * c + 4) ad
/-- what is told of the columns so far -/
def colI (S : PSt) (c : Nat) (B : PSt) : Prop := cIv B c ∧ (∀ j, j < 5 * c → B.1 70 (2 + j) = B.1 3 j) ∧ B.1 70 1 = S.1 70 1 ∧ B.1 1 2 = S.1 1 2 ∧ B.2 = S.2 ∧ ∀ x, x ≠ 1 → x ≠ 3 → x ≠ 70 → B.1 x = S.1 x
section COL
variable {S B T U : PSt} {c : Nat} {kd du sp wd ad : Int32} {r9 : Option Value}
theorem clA_3 {j : Nat} : (clA B c kd du).1 3 j = if j = 5 * c + 4 then 0 else if j = 5 * c + 3 then 2 else if j = 5 * c + 2 then 0 else if j = 5 * c + 1 then du else if j = 5 * c + 0 then kd else B.1 3 j := by
  simp [clA, ly5, pSI, pU]
theorem clA_o {x : Nat} (h1 : x ≠ 1) (h3 : x ≠ 3) : (clA B c kd du).1 x = B.1 x := by
  unfold clA ly5
  rw [pSI_ne h1, pSI_ne h3, pSI_ne h3, pSI_ne h3, pSI_ne h3, pSI_ne h3]
theorem clA_1 : (clA B c kd du).1 1 1 = nI (c + 1) ∧ (clA B c kd du).1 1 2 = B.1 1 2 := by
  refine ⟨pSI_at, ?_⟩
  simp [clA, ly5, pSI, pU]
theorem clA_iv (hi : cIv B c) (hc : c < 20) (hk : pAl 0 kd = true) (hd : pAl 1 du = true) : cIv (clA B c kd du) (c + 1) := by
  refine ⟨clA_1.1, by omega, fun i hi9 => ?_, by rw [clA_1.2]; exact hi.2.2.2⟩
  unfold okC
  rw [clA_3, clA_3, clA_3, clA_3, clA_3]
  by_cases e : i = c
  · subst e
    rw [if_neg (by omega), if_neg (by omega), if_neg (by omega), if_neg (by omega), if_pos rfl, if_neg (by omega), if_neg (by omega), if_neg (by omega), if_pos rfl, if_neg (by omega), if_neg (by omega), if_pos rfl, if_neg (by omega), if_pos rfl, if_pos rfl]
    have hk := of_decide_eq_true hk
    rw [show (pLeast 0).toInt = 0 by decide, show (pMost 0).toInt = 2 by decide] at hk
    refine ⟨?_, isDur_al hd, by decide, by decide, by decide⟩
    rcases (show kd.toInt = 0 ∨ kd.toInt = 1 ∨ kd.toInt = 2 by omega) with h | h | h
    · exact Or.inl (Int32.toInt_inj.mp (by rw [h]; rfl))
    · exact Or.inr (Or.inl (Int32.toInt_inj.mp (by rw [h]; rfl)))
    · exact Or.inr (Or.inr (Int32.toInt_inj.mp (by rw [h]; rfl)))
  · rw [if_neg (by omega), if_neg (by omega), if_neg (by omega), if_neg (by omega), if_neg (by omega), if_neg (by omega), if_neg (by omega), if_neg (by omega), if_neg (by omega), if_neg (by omega), if_neg (by omega), if_neg (by omega), if_neg (by omega), if_neg (by omega), if_neg (by omega), if_neg (by omega), if_neg (by omega), if_neg (by omega), if_neg (by omega), if_neg (by omega), if_neg (by omega), if_neg (by omega), if_neg (by omega), if_neg (by omega), if_neg (by omega)]
    exact hi.2.2.1 i (by omega)
theorem clB_o {x : Nat} (h : x ≠ 70) : (clB B c kd du sp wd ad).1 x = B.1 x := by
  unfold clB
  rw [pSI_ne h, pSI_ne h, pSI_ne h, pSI_ne h, pSI_ne h]
theorem clB_iv {N : Nat} (hi : cIv B N) : cIv (clB B c kd du sp wd ad) N := by
  unfold cIv
  rw [clB_o (by decide), clB_o (by decide)]
  exact hi
theorem clB_70 {j : Nat} : (clB B c kd du sp wd ad).1 70 j = if j = 2 + 5 * c + 4 then ad else if j = 2 + 5 * c + 3 then wd else if j = 2 + 5 * c + 2 then sp else if j = 2 + 5 * c + 1 then du else if j = 2 + 5 * c then kd else B.1 70 j := by
  simp [clB, pSI, pU]
theorem clC_3 {j : Nat} : (clC B c sp wd ad).1 3 j = if j = 5 * c + 4 then ad else if j = 5 * c + 3 then wd else if j = 5 * c + 2 then sp else B.1 3 j := by
  simp [clC, pSI, pU]
theorem clC_o {x : Nat} (h : x ≠ 3) : (clC B c sp wd ad).1 x = B.1 x := by
  unfold clC
  rw [pSI_ne h, pSI_ne h, pSI_ne h]
theorem col_up (h : colI S c B) (hc : c < 20) (hk : pAl 0 kd = true) (hd : pAl 1 du = true) (h2 : pAl 2 sp = true) (h3 : pAl 3 wd = true) (h4 : pAl 4 ad = true) : colI S (c + 1) (clC (clB (clA B c kd du) c kd du sp wd ad) c sp wd ad) := by
  obtain ⟨a1, a2, a3, a4, a5, a6⟩ := h
  refine ⟨cIv_set (u := 4) (cIv_set (u := 3) (cIv_set (u := 2) (clB_iv (clA_iv a1 hc hk hd)) (by omega) (by decide) (by decide) h2) (by omega) (by decide) (by decide) h3) (by omega) (by decide) (by decide) h4, fun j hj => ?_, ?_, ?_, a5, fun x x1 x3 x70 => ?_⟩
  · rw [clC_3, clC_o (by decide), clB_70, clB_o (by decide), clA_3, clA_o (by decide) (by decide)]
    by_cases e4 : j = 5 * c + 4
    · rw [if_pos (by omega), if_pos e4]
    · rw [if_neg (by omega), if_neg e4]
      by_cases e3 : j = 5 * c + 3
      · rw [if_pos (by omega), if_pos e3]
      · rw [if_neg (by omega), if_neg e3]
        by_cases e2 : j = 5 * c + 2
        · rw [if_pos (by omega), if_pos e2]
        · rw [if_neg (by omega), if_neg e2, if_neg e4, if_neg e3, if_neg e2]
          by_cases e1 : j = 5 * c + 1
          · rw [if_pos (by omega), if_pos e1]
          · rw [if_neg (by omega), if_neg e1]
            by_cases e0 : j = 5 * c + 0
            · rw [if_pos (by omega), if_pos e0]
            · rw [if_neg (by omega), if_neg e0]
              exact a2 j (by omega)
  · rw [clC_o (by decide), clB_70, if_neg (by omega), if_neg (by omega), if_neg (by omega), if_neg (by omega), if_neg (by omega), clA_o (by decide) (by decide)]
    exact a3
  · rw [clC_o (by decide), clB_o (by decide), clA_1.2]
    exact a4
  · rw [clC_o x3, clB_o x70, clA_o x1 x3]
    exact a6 x x1 x3 x70
theorem rd_add (hi : cIv B c) (h : frL B T) (hc : c < 20) (hk : pAl 0 kd = true) (hd : pAl 1 du = true) (hp : pA (oAdd c kd du) T (pSI (ly5 T 3 c kd du 0 2 0) 1 1 (nI (c + 1))) r9 U) : r9 = some (.int (nI c)) ∧ frL (clA B c kd du) U := by
  rw [oAdd, if_pos hk, if_pos hd, if_neg (by omega)] at hp
  refine ⟨hp.1, ?_⟩
  have h2 := hp.2
  rw [if_pos rfl] at h2
  unfold clA
  exact fl_tr (fl_I (fl_I (fl_I (fl_I (fl_I (fl_I h)))))) (fl_fr h2)
theorem rd_drop {N : Nat} (h : frL B T) (h0 : 0 < N) (hp : pA (oDrop N) T (pSI T 1 1 (nI (N - 1))) r9 U) : r9 = some (.int (nI (N - 1))) ∧ frL (pSI B 1 1 (nI (N - 1))) U := by
  rw [oDrop, if_neg (by omega)] at hp
  refine ⟨hp.1, ?_⟩
  have h2 := hp.2
  rw [if_pos rfl] at h2
  exact fl_tr (fl_I h) (fl_fr h2)
theorem rd_cnt0 {N z : Nat} (h : frL B T) (hp : pA (oCount (T.1 3) (T.1 1 2) N z (T.1 6) (T.1 7) (T.1 5) 0) T T r9 U) : r9 = some (.int (nI N)) ∧ frL B U := rd_ok h hp rfl
theorem drop_iv {N : Nat} (hi : cIv B N) (h0 : 0 < N) : cIv (pSI B 1 1 (nI (N - 1))) (N - 1) := by
  refine ⟨pSI_at, by have := hi.2.1; omega, ?_, ?_⟩
  · rw [pSI_ne (by decide)]
    exact fun i hi9 => hi.2.2.1 i (by omega)
  · rw [pSI_j (by decide)]
    exact hi.2.2.2
theorem fl_tp {S T : PSt} {z : Nat} (h : frL S T) (ht : cTp S z) : cTp T z := by
  unfold cTp at ht ⊢
  rw [(h 61 (by omega) (by omega)).1]
  exact ht
theorem and7 (v : Int32) : ∃ k, k < 8 ∧ v &&& 7 = nI k := by
  refine ⟨v.toBitVec.toNat % 8, Nat.mod_lt _ (by decide), ?_⟩
  apply Int32.toBitVec_inj.mp
  rw [Int32.toBitVec_and]
  apply BitVec.eq_of_toNat_eq
  rw [BitVec.toNat_and]
  show v.toBitVec.toNat &&& 7 = _
  rw [show (7 : Nat) = 2 ^ 3 - 1 from rfl, Nat.and_two_pow_sub_one_eq_mod]
  show _ = (BitVec.ofNat 32 (v.toBitVec.toNat % 8)).toNat
  rw [BitVec.toNat_ofNat]
  have := Nat.mod_lt v.toBitVec.toNat (show 0 < 8 by decide)
  show v.toBitVec.toNat % 8 = v.toBitVec.toNat % 8 % 2 ^ 32
  omega
theorem du_1 (v : Int32) : pAl 1 (1 <<< ((v &&& 7) - (v &&& 7) / 7 * 7 &&& 31)) = true := by
  obtain ⟨k, hk, e⟩ := and7 v
  rw [e]
  exact (show ∀ k, k < 8 → pAl 1 (1 <<< (nI k - nI k / 7 * 7 &&& 31)) = true by decide) k hk
theorem du_2 (v : Int32) : pAl 1 (1 + modI v 64) = true := by
  obtain ⟨d, hd, e⟩ := modI_rng (v := v) (n := 64) (by decide) (by decide)
  have e : modI v 64 = nI d := e
  rw [e]
  exact (al_dur d hd).1
theorem sp_1 (v : Int32) : pAl 2 (modI v 33 - 12) = true := by
  obtain ⟨d, hd, e⟩ := modI_rng (v := v) (n := 33) (by decide) (by decide)
  have e : modI v 33 = nI d := e
  rw [e]
  exact al_step d hd
theorem wd_1 (v : Int32) : pAl 3 (1 + modI v 5 + 6) = true ∧ pAl 3 (1 + modI v 5 + 0) = true := by
  obtain ⟨d, hd, e⟩ := modI_rng (v := v) (n := 5) (by decide) (by decide)
  have e : modI v 5 = nI d := e
  rw [e]
  exact (show ∀ d, d < 5 → (pAl 3 (1 + nI d + 6) = true ∧ pAl 3 (1 + nI d + 0) = true) by decide) d hd
theorem ad_1 (v : Int32) : pAl 4 (modI v 10) = true := by
  obtain ⟨d, hd, e⟩ := modI_rng (v := v) (n := 10) (by decide) (by decide)
  have e : modI v 10 = nI d := e
  rw [e]
  exact (show ∀ d, d < 10 → pAl 4 (nI d) = true by decide) d hd
end COL
/-- but for the count of columns all is as it was -/
def drF (S B : PSt) : Prop := B.1 1 2 = S.1 1 2 ∧ B.2 = S.2 ∧ ∀ x, x ≠ 1 → B.1 x = S.1 x
theorem drop_fr {S B : PSt} {v : Int32} (h : drF S B) : drF S (pSI B 1 1 v) := ⟨(pSI_j (by decide)).trans h.1, h.2.1, fun x hx => (pSI_ne hx).trans (h.2.2 x hx)⟩
set_option maxRecDepth 100000 in
theorem lp_L_columnsA {n0 : Nat} {X : Nat × (Nat → Int32)} {P : Option Value → PSt → Prop} {d : Nat} (hd9 : 5 ≤ d) {sh : List PSh} {S : PSt} (he : isLw sh) {at9 n z : Nat} (hex : ∀ B T, cIv B 0 → drF S B → frL B T → pV mL_columns d n0 X sh P 17 [some (.ref 0), some (.ref 70), some (.ref 1000), some (.int (nI at9)), some (.int (nI n)), some (.int 4), none, none, none, none, none] [] T) : ∀ (m9 N : Nat) (B T : PSt), N ≤ m9 → cIv B N → drF S B → cTp B z → frL B T → pV mL_columns d n0 X sh P 0 [some (.ref 0), some (.ref 70), some (.ref 1000), some (.int (nI at9)), some (.int (nI n)), some (.int 4), none, none, none, none, none] [] T := by
  intro m9
  induction m9 with
  | zero =>
    intro N B T hN hi hfr ht hf
    have hz : N = 0 := by omega
    refine q_aload_n (pc := 0) (j := 0) rfl rfl ?_
    refine q_iconst (pc := 1) 0 rfl (by decide) ?_
    refine q_callVG (pc := 2) (as := [.int 0]) (rest := []) (b := 0) rfl ce_X8_count ml_L_9 im_X8_count se_X8_count he.1.1 rfl rfl rfl (by omega) (Nat.le_of_ble_eq_true rfl) (sp_X8_count he.1 (fl_iv hi hf) (fl_tp hf ht)) (fun r9 S9 h9 => ?_)
    obtain ⟨rfl, hf⟩ := rd_cnt0 hf h9
    refine q_if_le (pc := 5) 17 rfl (by decide) (fun _ => ?_) (fun h9 => absurd (by rw [hz]; decide) h9)
    exact hex _ _ (by rw [hz] at hi; exact hi) hfr hf
  | succ m9 ih =>
    intro N B T hN hi hfr ht hf
    by_cases hz : N = 0
    · refine q_aload_n (pc := 0) (j := 0) rfl rfl ?_
      refine q_iconst (pc := 1) 0 rfl (by decide) ?_
      refine q_callVG (pc := 2) (as := [.int 0]) (rest := []) (b := 0) rfl ce_X8_count ml_L_9 im_X8_count se_X8_count he.1.1 rfl rfl rfl (by omega) (Nat.le_of_ble_eq_true rfl) (sp_X8_count he.1 (fl_iv hi hf) (fl_tp hf ht)) (fun r9 S9 h9 => ?_)
      obtain ⟨rfl, hf⟩ := rd_cnt0 hf h9
      refine q_if_le (pc := 5) 17 rfl (by decide) (fun _ => ?_) (fun h9 => absurd (by rw [hz]; decide) h9)
      exact hex _ _ (by rw [hz] at hi; exact hi) hfr hf
    · refine q_aload_n (pc := 0) (j := 0) rfl rfl ?_
      refine q_iconst (pc := 1) 0 rfl (by decide) ?_
      refine q_callVG (pc := 2) (as := [.int 0]) (rest := []) (b := 0) rfl ce_X8_count ml_L_9 im_X8_count se_X8_count he.1.1 rfl rfl rfl (by omega) (Nat.le_of_ble_eq_true rfl) (sp_X8_count he.1 (fl_iv hi hf) (fl_tp hf ht)) (fun r9 S9 h9 => ?_)
      obtain ⟨rfl, hf⟩ := rd_cnt0 hf h9
      refine q_if_le (pc := 5) 17 rfl (by decide) (fun h9 => absurd h9 (nI_nle (by omega) (by have := hi.2.1; omega))) (fun _ => ?_)
      refine q_aload_n (pc := 8) (j := 0) rfl rfl ?_
      refine q_callVG (pc := 9) (as := []) (rest := []) (b := 0) rfl ce_X8_drop ml_L_15 im_X8_drop se_X8_drop he.1.1 rfl rfl rfl (by omega) (Nat.le_of_ble_eq_true rfl) (sp_X8_drop he.1 (fl_iv hi hf)) (fun r9 S9 h9 => ?_)
      obtain ⟨rfl, hf⟩ := rd_drop hf (by omega) h9
      refine q_if_ge (pc := 12) 0 rfl (by decide) (fun _ => ?_) (fun h9 => absurd (nI_pos' (by have := hi.2.1; omega)) h9)
      exact ih (N - 1) (pSI B 1 1 (nI (N - 1))) _ (by omega) (drop_iv hi (by omega)) (drop_fr hfr) (by unfold cTp at ht ⊢; rw [pSI_ne (by decide)]; exact ht) hf
set_option maxRecDepth 100000 in
theorem lp_L_columnsB {n0 : Nat} {X : Nat × (Nat → Int32)} {P : Option Value → PSt → Prop} {d : Nat} (hd9 : 3 ≤ d) (hX : X.1 ≤ 260) {sh : List PSh} {S : PSt} (he : isLw sh) {at9 n : Nat} (hat : at9 < 100) (hn : n ≤ 20)  (hex : ∀ f7 f8 f9 f10 B T, colI S n B → frL B T → pV mL_columns d n0 X sh P 285 [some (.ref 0), some (.ref 70), some (.ref 1000), some (.int (nI at9)), some (.int (nI n)), some (.int 4), some (.int (nI n)), f7, f8, f9, f10] [] T) : ∀ (m9 k : Nat) (f7 : Option Value) (f8 : Option Value) (f9 : Option Value) (f10 : Option Value) (B : PSt) (T : PSt), k + m9 = n → colI S k B → frL B T → pV mL_columns d n0 X sh P 20 [some (.ref 0), some (.ref 70), some (.ref 1000), some (.int (nI at9)), some (.int (nI n)), some (.int 4), some (.int (nI k)), f7, f8, f9, f10] [] T := by
  intro m9
  induction m9 with
  | zero =>
    intro k f7 f8 f9 f10 B T hk hI hf
    have hk9 : n = k := by omega
    subst hk9
    refine q_iload (pc := 20) (j := 6) rfl rfl ?_
    refine q_iload (pc := 22) (j := 4) rfl rfl ?_
    refine q_icmp_ge (pc := 24) 285 rfl (by decide) (fun _ => ?_) (fun h9 => absurd (Int32.le_refl _) h9)
    exact hex _ _ _ _ _ _ hI hf
  | succ m9 ih =>
    intro k f7 f8 f9 f10 B T hk hI hf
    have hk1 : k < n := by omega
    have hk2 : k < n := hk1
    refine q_iload (pc := 20) (j := 6) rfl rfl ?_
    refine q_iload (pc := 22) (j := 4) rfl rfl ?_
    refine q_icmp_ge (pc := 24) 285 rfl (by decide) (fun h9 => absurd h9 (nI_ge hk1 (by omega))) (fun _ => ?_)
    refine q_aload_n (pc := 27) (j := 2) rfl rfl ?_
    refine q_iload_n (pc := 28) (j := 3) rfl rfl ?_
    refine q_iload (pc := 29) (j := 6) rfl rfl ?_
    refine q_iadd (pc := 31) rfl ?_
    refine q_st (st2 := [.int (nI (at9 + k)), .ref 1000]) (by rw [nI_add]; try rfl) ?_
    refine q_callSX (pc := 32) (as := [.ref 1000, .int (nI (at9 + k))]) (rest := []) rfl ce_L_cell ml_L_19 st_L_cell rfl (by omega) (Nat.le_of_ble_eq_true rfl) (sp_L_cell hX (i := at9 + k) (by omega)) (fun r9 S9 h9 => ?_)
    obtain ⟨rfl, hS9⟩ := h9
    have hf : frL B S9 := (by rw [hS9]; exact hf)
    refine q_istore (pc := 35) (j := 7) [some (.ref 0), some (.ref 70), some (.ref 1000), some (.int (nI at9)), some (.int (nI n)), some (.int 4), some (.int (nI k)), some (.int (celI X (at9 + k))), f8, f9, f10] rfl (by decide) rfl ?_
    refine q_cut (D := fun kd => pAl 0 kd = true) 65 [some (.ref 0), some (.ref 70), some (.ref 1000), some (.int (nI at9)), some (.int (nI n)), some (.int 4), some (.int (nI k)), some (.int (celI X (at9 + k))), f8, f9, f10] (fun kd => [.int kd]) S9 (fun kd hkd => ?_) (fun key37 => ?_)
    · refine q_istore (pc := 65) (j := 8) [some (.ref 0), some (.ref 70), some (.ref 1000), some (.int (nI at9)), some (.int (nI n)), some (.int 4), some (.int (nI k)), some (.int (celI X (at9 + k))), some (.int kd), f9, f10] rfl (by decide) rfl ?_
      refine q_cut (D := fun du => pAl 1 du = true) 105 [some (.ref 0), some (.ref 70), some (.ref 1000), some (.int (nI at9)), some (.int (nI n)), some (.int 4), some (.int (nI k)), some (.int (celI X (at9 + k))), some (.int kd), f9, f10] (fun du => [.int du]) S9 (fun du hdu => ?_) (fun key67 => ?_)
      · refine q_istore (pc := 105) (j := 9) [some (.ref 0), some (.ref 70), some (.ref 1000), some (.int (nI at9)), some (.int (nI n)), some (.int 4), some (.int (nI k)), some (.int (celI X (at9 + k))), some (.int kd), some (.int du), f10] rfl (by decide) rfl ?_
        refine q_aload_n (pc := 107) (j := 0) rfl rfl ?_
        refine q_iload (pc := 108) (j := 8) rfl rfl ?_
        refine q_iload (pc := 110) (j := 9) rfl rfl ?_
        refine q_callVG (pc := 112) (as := [.int kd, .int du]) (rest := []) (b := 0) rfl ce_X8_add ml_L_27 im_X8_add se_X8_add he.1.1 rfl rfl rfl (by omega) (Nat.le_of_ble_eq_true rfl) (sp_X8_add he.1 (fl_iv hI.1 hf)) (fun r9 S9 h9 => ?_)
        obtain ⟨rfl, hf⟩ := rd_add hI.1 hf (by omega) hkd hdu h9
        refine q_iload (pc := 115) (j := 6) rfl rfl ?_
        refine q_icmp_eq (pc := 117) 122 rfl (by decide) (fun _ => ?_) (fun h9 => absurd rfl h9)
        refine q_iconst (pc := 122) 2 rfl (by decide) ?_
        refine q_iconst (pc := 123) 5 rfl (by decide) ?_
        refine q_iload (pc := 124) (j := 6) rfl rfl ?_
        refine q_imul (pc := 126) rfl ?_
        refine q_iadd (pc := 127) rfl ?_
        refine q_st (st2 := [.int (nI (2 + 5 * k))]) (by rw [e25 k]; try rfl) ?_
        refine q_istore (pc := 128) (j := 10) [some (.ref 0), some (.ref 70), some (.ref 1000), some (.int (nI at9)), some (.int (nI n)), some (.int 4), some (.int (nI k)), some (.int (celI X (at9 + k))), some (.int kd), some (.int du), some (.int (nI (2 + 5 * k)))] rfl (by decide) rfl ?_
        refine q_aload_n (pc := 130) (j := 1) rfl rfl ?_
        refine q_iload (pc := 131) (j := 10) rfl rfl ?_
        refine q_iload (pc := 133) (j := 8) rfl rfl ?_
        refine q_iast (pc := 135) (a := 70) (2 + 5 * k) rfl he.2 (vp_in_nI (by omega) (by decide)) (nI_clamp (by omega)) ?_
        refine q_aload_n (pc := 136) (j := 1) rfl rfl ?_
        refine q_iload (pc := 137) (j := 10) rfl rfl ?_
        refine q_iconst (pc := 139) 1 rfl (by decide) ?_
        refine q_iadd (pc := 140) rfl ?_
        refine q_st (st2 := [.int (nI (2 + 5 * k + 1)), .ref 70]) (by rw [show nI (2 + 5 * k) + 1 = nI (2 + 5 * k + 1) from nI_add (2 + 5 * k) 1]; try rfl) ?_
        refine q_iload (pc := 141) (j := 9) rfl rfl ?_
        refine q_iast (pc := 143) (a := 70) (2 + 5 * k + 1) rfl he.2 (vp_in_nI (by omega) (by decide)) (nI_clamp (by omega)) ?_
        refine q_aload_n (pc := 144) (j := 1) rfl rfl ?_
        refine q_iload (pc := 145) (j := 10) rfl rfl ?_
        refine q_iconst (pc := 147) 2 rfl (by decide) ?_
        refine q_iadd (pc := 148) rfl ?_
        refine q_st (st2 := [.int (nI (2 + 5 * k + 2)), .ref 70]) (by rw [show nI (2 + 5 * k) + 2 = nI (2 + 5 * k + 2) from nI_add (2 + 5 * k) 2]; try rfl) ?_
        refine q_iload (pc := 149) (j := 7) rfl rfl ?_
        refine q_bipush (pc := 151) 13 rfl (by decide) ?_
        refine q_ishr (pc := 153) rfl ?_
        refine q_bipush (pc := 154) 33 rfl (by decide) ?_
        refine q_callS (pc := 156) (as := [.int ((celI X (at9 + k)) >>> (13 &&& 31)), .int 33]) (rest := [.int (nI (2 + 5 * k + 2)), .ref 70]) (st2 := [.int (modI ((celI X (at9 + k)) >>> (13 &&& 31)) 33), .int (nI (2 + 5 * k + 2)), .ref 70]) rfl ce_L_mod ml_L_23 st_L_mod rfl (by omega) (Nat.le_of_ble_eq_true rfl) (sp_L_mod (by decide)) rfl ?_
        refine q_bipush (pc := 159) 12 rfl (by decide) ?_
        refine q_isub (pc := 161) rfl ?_
        obtain ⟨sp, hspe⟩ : ∃ v, ((modI ((celI X (at9 + k)) >>> (13 &&& 31)) 33) - 12) = v := ⟨_, rfl⟩; have hsp : pAl 2 sp = true := (by rw [← hspe]; exact sp_1 _); refine q_st (st2 := [.int sp, .int (nI (2 + 5 * k + 2)), .ref 70]) (by rw [hspe]) ?_
        refine q_iast (pc := 162) (a := 70) (2 + 5 * k + 2) rfl he.2 (vp_in_nI (by omega) (by decide)) (nI_clamp (by omega)) ?_
        refine q_aload_n (pc := 163) (j := 1) rfl rfl ?_
        refine q_iload (pc := 164) (j := 10) rfl rfl ?_
        refine q_iconst (pc := 166) 3 rfl (by decide) ?_
        refine q_iadd (pc := 167) rfl ?_
        refine q_st (st2 := [.int (nI (2 + 5 * k + 3)), .ref 70]) (by rw [show nI (2 + 5 * k) + 3 = nI (2 + 5 * k + 3) from nI_add (2 + 5 * k) 3]; try rfl) ?_
        refine q_iconst (pc := 168) 1 rfl (by decide) ?_
        refine q_iload (pc := 169) (j := 7) rfl rfl ?_
        refine q_bipush (pc := 171) 19 rfl (by decide) ?_
        refine q_ishr (pc := 173) rfl ?_
        refine q_iconst (pc := 174) 5 rfl (by decide) ?_
        refine q_callS (pc := 175) (as := [.int ((celI X (at9 + k)) >>> (19 &&& 31)), .int 5]) (rest := [.int 1, .int (nI (2 + 5 * k + 3)), .ref 70]) (st2 := [.int (modI ((celI X (at9 + k)) >>> (19 &&& 31)) 5), .int 1, .int (nI (2 + 5 * k + 3)), .ref 70]) rfl ce_L_mod ml_L_23 st_L_mod rfl (by omega) (Nat.le_of_ble_eq_true rfl) (sp_L_mod (by decide)) rfl ?_
        refine q_iadd (pc := 178) rfl ?_
        refine q_cut (D := fun wd => pAl 3 wd = true) 197 [some (.ref 0), some (.ref 70), some (.ref 1000), some (.int (nI at9)), some (.int (nI n)), some (.int 4), some (.int (nI k)), some (.int (celI X (at9 + k))), some (.int kd), some (.int du), some (.int (nI (2 + 5 * k)))] (fun wd => [.int wd, .int (nI (2 + 5 * k + 3)), .ref 70]) (pSI (pSI (pSI S9 70 (2 + 5 * k) kd) 70 (2 + 5 * k + 1) du) 70 (2 + 5 * k + 2) sp) (fun wd hwd => ?_) (fun key179 => ?_)
        · refine q_iast (pc := 197) (a := 70) (2 + 5 * k + 3) rfl he.2 (vp_in_nI (by omega) (by decide)) (nI_clamp (by omega)) ?_
          refine q_aload_n (pc := 198) (j := 1) rfl rfl ?_
          refine q_iload (pc := 199) (j := 10) rfl rfl ?_
          refine q_iconst (pc := 201) 4 rfl (by decide) ?_
          refine q_iadd (pc := 202) rfl ?_
          refine q_st (st2 := [.int (nI (2 + 5 * k + 4)), .ref 70]) (by rw [show nI (2 + 5 * k) + 4 = nI (2 + 5 * k + 4) from nI_add (2 + 5 * k) 4]; try rfl) ?_
          refine q_cut (D := fun ad => pAl 4 ad = true) 227 [some (.ref 0), some (.ref 70), some (.ref 1000), some (.int (nI at9)), some (.int (nI n)), some (.int 4), some (.int (nI k)), some (.int (celI X (at9 + k))), some (.int kd), some (.int du), some (.int (nI (2 + 5 * k)))] (fun ad => [.int ad, .int (nI (2 + 5 * k + 4)), .ref 70]) (pSI (pSI (pSI (pSI S9 70 (2 + 5 * k) kd) 70 (2 + 5 * k + 1) du) 70 (2 + 5 * k + 2) sp) 70 (2 + 5 * k + 3) wd) (fun ad had => ?_) (fun key203 => ?_)
          · refine q_iast (pc := 227) (a := 70) (2 + 5 * k + 4) rfl he.2 (vp_in_nI (by omega) (by decide)) (nI_clamp (by omega)) ?_
            have hf : frL (clB (clA B k kd du) k kd du sp wd ad) _ := fl_I (fl_I (fl_I (fl_I (fl_I hf)))); have hiB : cIv (clB (clA B k kd du) k kd du sp wd ad) (k + 1) := clB_iv (clA_iv hI.1 (by omega) hkd hdu); have hi2 : cIv (pSI (clB (clA B k kd du) k kd du sp wd ad) 3 (5 * k + 2) sp) (k + 1) := cIv_set hiB (by omega) (by decide) (by decide) hsp; have hi3 : cIv (pSI (pSI (clB (clA B k kd du) k kd du sp wd ad) 3 (5 * k + 2) sp) 3 (5 * k + 3) wd) (k + 1) := cIv_set hi2 (by omega) (by decide) (by decide) hwd
            refine q_aload_n (pc := 228) (j := 0) rfl rfl ?_
            refine q_iload (pc := 229) (j := 6) rfl rfl ?_
            refine q_iconst (pc := 231) 2 rfl (by decide) ?_
            refine q_aload_n (pc := 232) (j := 1) rfl rfl ?_
            refine q_iload (pc := 233) (j := 10) rfl rfl ?_
            refine q_iconst (pc := 235) 2 rfl (by decide) ?_
            refine q_iadd (pc := 236) rfl ?_
            refine q_st (st2 := [.int (nI (2 + 5 * k + 2)), .ref 70, .int 2, .int (nI k), .ref 0]) (by rw [show nI (2 + 5 * k) + 2 = nI (2 + 5 * k + 2) from nI_add (2 + 5 * k) 2]; try rfl) ?_
            refine q_iald (pc := 237) (a := 70) (2 + 5 * k + 2) rfl he.2 (vp_in_nI (by omega) (by decide)) (nI_clamp (by omega)) ?_
            refine q_st (st2 := [.int sp, .int 2, .int (nI k), .ref 0]) (by rw [show ((pSI (pSI (pSI (pSI (pSI S9 70 (2 + 5 * k) kd) 70 (2 + 5 * k + 1) du) 70 (2 + 5 * k + 2) sp) 70 (2 + 5 * k + 3) wd) 70 (2 + 5 * k + 4) ad).1 70 (2 + 5 * k + 2)) = sp from (congrFun (fl_g hf).2.2 _).trans (by rw [clB_70, if_neg (by omega), if_neg (by omega), if_pos rfl])]; try rfl) ?_
            refine q_callVG (pc := 238) (as := [.int (nI k), .int 2, .int sp]) (rest := []) (b := 0) rfl ce_X8_set ml_L_30 im_X8_set se_X8_set he.1.1 rfl rfl rfl (by omega) (Nat.le_of_ble_eq_true rfl) (sp_X8_set he.1 (fl_iv hiB hf)) (fun r9 S9 h9 => ?_)
            obtain ⟨rfl, hf⟩ := rd_set hiB hf (c := k) (u := 2) (by omega) (by decide) hsp h9
            refine q_if_ne (pc := 241) 277 rfl (by decide) (fun h9 => absurd h9 (fun q9 => q9 (by rw [clB_o (by decide), clA_3, if_neg (by omega), if_neg (by omega), if_pos rfl]))) (fun _ => ?_)
            refine q_aload_n (pc := 244) (j := 0) rfl rfl ?_
            refine q_iload (pc := 245) (j := 6) rfl rfl ?_
            refine q_iconst (pc := 247) 3 rfl (by decide) ?_
            refine q_aload_n (pc := 248) (j := 1) rfl rfl ?_
            refine q_iload (pc := 249) (j := 10) rfl rfl ?_
            refine q_iconst (pc := 251) 3 rfl (by decide) ?_
            refine q_iadd (pc := 252) rfl ?_
            refine q_st (st2 := [.int (nI (2 + 5 * k + 3)), .ref 70, .int 3, .int (nI k), .ref 0]) (by rw [show nI (2 + 5 * k) + 3 = nI (2 + 5 * k + 3) from nI_add (2 + 5 * k) 3]; try rfl) ?_
            refine q_iald (pc := 253) (a := 70) (2 + 5 * k + 3) rfl he.2 (vp_in_nI (by omega) (by decide)) (nI_clamp (by omega)) ?_
            refine q_st (st2 := [.int wd, .int 3, .int (nI k), .ref 0]) (by rw [show (S9.1 70 (2 + 5 * k + 3)) = wd from (congrFun (fl_g hf).2.2 _).trans (by rw [pSI_ne (by decide), clB_70, if_neg (by omega), if_pos rfl])]; try rfl) ?_
            refine q_callVG (pc := 254) (as := [.int (nI k), .int 3, .int wd]) (rest := []) (b := 0) rfl ce_X8_set ml_L_30 im_X8_set se_X8_set he.1.1 rfl rfl rfl (by omega) (Nat.le_of_ble_eq_true rfl) (sp_X8_set he.1 (fl_iv hi2 hf)) (fun r9 S9 h9 => ?_)
            obtain ⟨rfl, hf⟩ := rd_set hi2 hf (c := k) (u := 3) (by omega) (by decide) hwd h9
            refine q_iconst (pc := 257) 2 rfl (by decide) ?_
            refine q_icmp_ne (pc := 258) 277 rfl (by decide) (fun h9 => absurd h9 (fun q9 => q9 (by rw [pSI_j (by omega), clB_o (by decide), clA_3, if_neg (by omega), if_pos rfl]))) (fun _ => ?_)
            refine q_aload_n (pc := 261) (j := 0) rfl rfl ?_
            refine q_iload (pc := 262) (j := 6) rfl rfl ?_
            refine q_iconst (pc := 264) 4 rfl (by decide) ?_
            refine q_aload_n (pc := 265) (j := 1) rfl rfl ?_
            refine q_iload (pc := 266) (j := 10) rfl rfl ?_
            refine q_iconst (pc := 268) 4 rfl (by decide) ?_
            refine q_iadd (pc := 269) rfl ?_
            refine q_st (st2 := [.int (nI (2 + 5 * k + 4)), .ref 70, .int 4, .int (nI k), .ref 0]) (by rw [show nI (2 + 5 * k) + 4 = nI (2 + 5 * k + 4) from nI_add (2 + 5 * k) 4]; try rfl) ?_
            refine q_iald (pc := 270) (a := 70) (2 + 5 * k + 4) rfl he.2 (vp_in_nI (by omega) (by decide)) (nI_clamp (by omega)) ?_
            refine q_st (st2 := [.int ad, .int 4, .int (nI k), .ref 0]) (by rw [show (S9.1 70 (2 + 5 * k + 4)) = ad from (congrFun (fl_g hf).2.2 _).trans (by rw [pSI_ne (by decide), pSI_ne (by decide), clB_70, if_pos rfl])]; try rfl) ?_
            refine q_callVG (pc := 271) (as := [.int (nI k), .int 4, .int ad]) (rest := []) (b := 0) rfl ce_X8_set ml_L_30 im_X8_set se_X8_set he.1.1 rfl rfl rfl (by omega) (Nat.le_of_ble_eq_true rfl) (sp_X8_set he.1 (fl_iv hi3 hf)) (fun r9 S9 h9 => ?_)
            obtain ⟨rfl, hf⟩ := rd_set hi3 hf (c := k) (u := 4) (by omega) (by decide) had h9
            refine q_if_eq (pc := 274) 279 rfl (by decide) (fun _ => ?_) (fun h9 => absurd (by rw [pSI_j (by omega), pSI_j (by omega), clB_o (by decide), clA_3, if_pos rfl]) h9)
            refine q_iinc (pc := 279) (j := 6) (n := 1) (nI (k + 1)) [some (.ref 0), some (.ref 70), some (.ref 1000), some (.int (nI at9)), some (.int (nI n)), some (.int 4), some (.int (nI (k + 1))), some (.int (celI X (at9 + k))), some (.int kd), some (.int du), some (.int (nI (2 + 5 * k)))] rfl (by decide) rfl (nI_1 k) rfl ?_
            refine q_goto (pc := 282) 20 rfl (by decide) ?_
            exact ih (k + 1) (some (.int (celI X (at9 + k)))) (some (.int kd)) (some (.int du)) (some (.int (nI (2 + 5 * k)))) (clC (clB (clA B k kd du) k kd du sp wd ad) k sp wd ad) S9 (by omega) (col_up hI (by omega) hkd hdu hsp hwd had) hf
          · refine q_iload (pc := 203) (j := 7) rfl rfl ?_
            refine q_bipush (pc := 205) 25 rfl (by decide) ?_
            refine q_ishr (pc := 207) rfl ?_
            refine q_iconst (pc := 208) 3 rfl (by decide) ?_
            refine q_iand (pc := 209) rfl ?_
            refine q_if_ne (pc := 210) 226 rfl (by decide) (fun h210 => ?_) (fun h210 => ?_)
            · refine q_iconst (pc := 226) 0 rfl (by decide) ?_
              exact key203 _ ((by decide : pAl 4 0 = true))
            · refine q_iload (pc := 213) (j := 7) rfl rfl ?_
              refine q_bipush (pc := 215) 27 rfl (by decide) ?_
              refine q_ishr (pc := 217) rfl ?_
              refine q_bipush (pc := 218) 10 rfl (by decide) ?_
              refine q_callS (pc := 220) (as := [.int ((celI X (at9 + k)) >>> (27 &&& 31)), .int 10]) (rest := [.int (nI (2 + 5 * k + 4)), .ref 70]) (st2 := [.int (modI ((celI X (at9 + k)) >>> (27 &&& 31)) 10), .int (nI (2 + 5 * k + 4)), .ref 70]) rfl ce_L_mod ml_L_23 st_L_mod rfl (by omega) (Nat.le_of_ble_eq_true rfl) (sp_L_mod (by decide)) rfl ?_
              refine q_goto (pc := 223) 227 rfl (by decide) ?_
              exact key203 _ (ad_1 _)
        · refine q_iload (pc := 179) (j := 7) rfl rfl ?_
          refine q_bipush (pc := 181) 22 rfl (by decide) ?_
          refine q_ishr (pc := 183) rfl ?_
          refine q_bipush (pc := 184) 7 rfl (by decide) ?_
          refine q_iand (pc := 186) rfl ?_
          refine q_if_ne (pc := 187) 195 rfl (by decide) (fun h187 => ?_) (fun h187 => ?_)
          · refine q_iconst (pc := 195) 0 rfl (by decide) ?_
            refine q_iadd (pc := 196) rfl ?_
            exact key179 _ ((wd_1 _).2)
          · refine q_bipush (pc := 190) 6 rfl (by decide) ?_
            refine q_goto (pc := 192) 196 rfl (by decide) ?_
            refine q_iadd (pc := 196) rfl ?_
            exact key179 _ ((wd_1 _).1)
      · refine q_iload (pc := 67) (j := 7) rfl rfl ?_
        refine q_bipush (pc := 69) 6 rfl (by decide) ?_
        refine q_ishr (pc := 71) rfl ?_
        refine q_iconst (pc := 72) 1 rfl (by decide) ?_
        refine q_iand (pc := 73) rfl ?_
        refine q_if_ne (pc := 74) 93 rfl (by decide) (fun h74 => ?_) (fun h74 => ?_)
        · refine q_iconst (pc := 93) 1 rfl (by decide) ?_
          refine q_iload (pc := 94) (j := 7) rfl rfl ?_
          refine q_bipush (pc := 96) 7 rfl (by decide) ?_
          refine q_ishr (pc := 98) rfl ?_
          refine q_bipush (pc := 99) 64 rfl (by decide) ?_
          refine q_callS (pc := 101) (as := [.int ((celI X (at9 + k)) >>> (7 &&& 31)), .int 64]) (rest := [.int 1]) (st2 := [.int (modI ((celI X (at9 + k)) >>> (7 &&& 31)) 64), .int 1]) rfl ce_L_mod ml_L_23 st_L_mod rfl (by omega) (Nat.le_of_ble_eq_true rfl) (sp_L_mod (by decide)) rfl ?_
          refine q_iadd (pc := 104) rfl ?_
          exact key67 _ (du_2 _)
        · refine q_iconst (pc := 77) 1 rfl (by decide) ?_
          refine q_iload (pc := 78) (j := 7) rfl rfl ?_
          refine q_bipush (pc := 80) 7 rfl (by decide) ?_
          refine q_ishr (pc := 82) rfl ?_
          refine q_bipush (pc := 83) 7 rfl (by decide) ?_
          refine q_iand (pc := 85) rfl ?_
          refine q_bipush (pc := 86) 7 rfl (by decide) ?_
          refine q_irem (pc := 88) rfl (by decide) ?_
          refine q_ishl (pc := 89) rfl ?_
          refine q_goto (pc := 90) 105 rfl (by decide) ?_
          exact key67 _ (du_1 _)
    · refine q_iload (pc := 37) (j := 7) rfl rfl ?_
      refine q_bipush (pc := 39) 15 rfl (by decide) ?_
      refine q_iand (pc := 41) rfl ?_
      refine q_iload (pc := 42) (j := 5) rfl rfl ?_
      refine q_icmp_ge (pc := 44) 51 rfl (by decide) (fun h44 => ?_) (fun h44 => ?_)
      · refine q_iload (pc := 51) (j := 7) rfl rfl ?_
        refine q_iconst (pc := 53) 4 rfl (by decide) ?_
        refine q_ishr (pc := 54) rfl ?_
        refine q_iconst (pc := 55) 3 rfl (by decide) ?_
        refine q_iand (pc := 56) rfl ?_
        refine q_if_ne (pc := 57) 64 rfl (by decide) (fun h57 => ?_) (fun h57 => ?_)
        · refine q_iconst (pc := 64) 0 rfl (by decide) ?_
          exact key37 _ (by decide : pAl 0 0 = true)
        · refine q_iconst (pc := 60) 1 rfl (by decide) ?_
          refine q_goto (pc := 61) 65 rfl (by decide) ?_
          exact key37 _ (by decide : pAl 0 1 = true)
      · refine q_iconst (pc := 47) 2 rfl (by decide) ?_
        refine q_goto (pc := 48) 65 rfl (by decide) ?_
        exact key37 _ (by decide : pAl 0 2 = true)
theorem col_0 {S B : PSt} (hi : cIv B 0) (h : drF S B) : colI S 0 B := ⟨hi, fun j hj => absurd hj (by omega), congrFun (h.2.2 70 (by decide)) 1, h.1, h.2.1, fun x h1 _ _ => h.2.2 x h1⟩
set_option maxRecDepth 100000 in
theorem sp_L_columns {X : Nat × (Nat → Int32)} (hX : X.1 ≤ 260) {sh : List PSh} {S : PSt} (he : isLw sh) {N z at9 n : Nat} (hat : at9 < 100) (hn : n ≤ 20) (hi : cIv S N) (ht : cTp S z) {T0 : PSt} (hf : frL S T0) : pGX X mL_columns 5 [.ref 0, .ref 70, .ref 1000, .int (nI at9), .int (nI n), .int 4] sh T0 (fun r U => r = some (.int 1) ∧ ∃ B, colI S n B ∧ frL (pSI B 70 0 (nI n)) U) := by
  refine pGX.of [some (.ref 0), some (.ref 70), some (.ref 1000), some (.int (nI at9)), some (.int (nI n)), some (.int 4), none, none, none, none, none] (by decide) tk_L_columns (Nat.le_of_ble_eq_true rfl) rfl ?_
  refine lp_L_columnsA (z := z) (by decide) he (fun B T hi hfr hf => ?_) N N S _ (Nat.le_refl _) hi ⟨rfl, rfl, fun _ _ => rfl⟩ ht hf
  refine q_iconst (pc := 17) 0 rfl (by decide) ?_
  refine q_istore (pc := 18) (j := 6) [some (.ref 0), some (.ref 70), some (.ref 1000), some (.int (nI at9)), some (.int (nI n)), some (.int 4), some (.int 0), none, none, none, none] rfl (by decide) rfl ?_
  refine lp_L_columnsB (S := S) (by decide) hX he hat hn (fun f7 f8 f9 f10 B T hI hf => ?_) n 0 none none none none B _ (Nat.zero_add _) (col_0 hi hfr) hf
  refine q_aload_n (pc := 285) (j := 1) rfl rfl ?_
  refine q_iconst (pc := 286) 0 rfl (by decide) ?_
  refine q_iload (pc := 287) (j := 4) rfl rfl ?_
  refine q_iast (pc := 289) (a := 70) 0 rfl he.2 (vp_in_nI (n := 0) (by decide) (by decide)) rfl ?_
  refine q_iconst (pc := 290) 1 rfl (by decide) ?_
  exact q_zret (pc := 291) rfl rfl rfl ⟨rfl, B, hI, fl_I hf⟩
