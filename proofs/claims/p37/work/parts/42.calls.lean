/-! the class's calls: texts, shelves, sheets, images, what is told: written by wip/whole/gen/c42.py -/
theorem hn_of {k z i : Int32} {m : Nat} (hz : z.toInt ≤ m) (h : hnB k z i = true) : ∃ j, i = nI j ∧ j < m ∧ ¬ k = -1 := by
  have h := of_decide_eq_true h
  exact ⟨i.toInt.toNat, nI_of0 h.2.1, by omega, h.1⟩
/-- shelves, sheets as they may be -/
def cSh (S : PSt) : Prop := ∀ s, s < 3 → (S.1 7 s).toInt ≤ 12
def okN (q : Int32) (m : Int64) : Prop := (q = 0 → ∃ x, sF x ∧ m = x.toInt32.toInt64) ∧ (q = 1 → ∃ x, sD x ∧ m = x.toInt64)
def cSs (S : PSt) : Prop := ∀ s, s < 4 → (S.1 67 s).toInt ≤ 40 ∧ (S.1 66 s = -1 ∨ S.1 66 s = 0 ∨ S.1 66 s = 1 ∨ S.1 66 s = 2 ∨ S.1 66 s = 3) ∧ (∀ i, i < 40 → okN (S.1 66 s) (S.2.2.1 68 (40 * s + i)))
/-- an answer (a long), and contents but for what is free -/
def pAL (e : Nat × Int64) (S U : PSt) : Option Value → PSt → Prop := fun r T => r = some (.long (ansL e.1 e.2)) ∧ fr 15 61 (if e.1 = 0 then U else rfS S e.1) T
theorem pAL_ok {e : Nat × Int64} {S U T : PSt} {v : Int64} (h : e = (0, v)) (hf : fr 15 61 U T) : pAL e S U (some (.long v)) T := by
  rw [h]
  exact ⟨rfl, hf⟩
theorem pAL_no {e : Nat × Int64} {S U T : PSt} {k : Nat} (h : e = (k + 1, 0)) (hf : fr 15 61 (rfS S (k + 1)) T) : pAL e S U (some (.long (-9000000000000000000 - (nI (k + 1)).toInt64))) T := by
  rw [h]
  exact ⟨rfl, hf⟩
def cTp (S : PSt) (z : Nat) : Prop := S.1 61 1 = nI z ∧ z ≤ 160
set_option maxRecDepth 100000 in
theorem sp_X8_feed {sh : List PSh} {S : PSt} (he : isEl sh) {z : Nat} {b : Int32} (htp : cTp S z) : pG mX8_feed 2 [.ref 0, .int b] sh S (pA (oFeed z b) S (pSI (pSI S 62 z b) 61 1 (nI (z + 1)))) := by
  refine pG.of [some (.ref 0), some (.int b)] (by decide) tk_X8_feed (Nat.le_of_ble_eq_true rfl) rfl (fun X => ?_)
  refine q_iload_n (pc := 0) (j := 1) rfl rfl ?_
  refine q_iconst (pc := 1) 0 rfl (by decide) ?_
  refine q_sipush (pc := 2) 255 rfl (by decide) ?_
  refine q_callS (pc := 5) (as := [.int b, .int 0, .int 255]) (rest := []) (st2 := [.int (pB (pWi b 0 255))]) rfl ce_X8_isWithin ml_X8_101 st_X8_isWithin rfl (by decide) (Nat.le_of_ble_eq_true rfl) (sp_X8_isWithin) rfl ?_
  refine q_if_ne (pc := 8) 17 rfl (by decide) (fun h8 => ?_) (fun h8 => ?_)
  · refine q_aload_n (pc := 17) (j := 0) rfl rfl ?_
    refine q_get (pc := 18) (a := 0) (v := .ref 61) rfl fl_X8_63 he.1 rfl rfl ?_
    refine q_get (pc := 21) (a := 61) (v := .int (S.1 61 1)) rfl fl_X8_241 he.2.2.2.2.2.2.2.2.2.2.1.1 rfl rfl ?_
    have hz2 := htp.2
    refine q_st (st2 := [.int (nI z)]) (by rw [(show (S.1 61 1) = nI z from htp.1)]) ?_
    refine q_sipush (pc := 24) 160 rfl (by decide) ?_
    refine q_icmp_lt (pc := 27) 36 rfl (by decide) (fun h27 => ?_) (fun h27 => ?_)
    · have hz3 : z < 160 := (nI_ltI (a := z) (b := 160) (by omega) (by decide)).mp h27
      refine q_aload_n (pc := 36) (j := 0) rfl rfl ?_
      refine q_get (pc := 37) (a := 0) (v := .ref 61) rfl fl_X8_63 he.1 rfl rfl ?_
      refine q_iload_n (pc := 40) (j := 1) rfl rfl ?_
      refine q_callV (pc := 41) (as := [.int b]) (rest := []) (b := 61) (st2 := []) rfl ce_X7_append ml_X8_244 im_X7_append se_X7_append he.2.2.2.2.2.2.2.2.2.2.1.1 rfl rfl rfl (by decide) (Nat.le_of_ble_eq_true rfl) (sp_X7_append (z := z) he.2.2.2.2.2.2.2.2.2.2.1 htp.1 hz3) rfl ?_
      refine q_aload_n (pc := 44) (j := 0) rfl rfl ?_
      refine q_get (pc := 45) (a := 0) (v := .ref 61) rfl fl_X8_63 he.1 rfl rfl ?_
      refine q_get (pc := 48) (a := 61) (v := .int ((pSI (pSI S 62 z b) 61 1 (nI (z + 1))).1 61 1)) rfl fl_X8_241 he.2.2.2.2.2.2.2.2.2.2.1.1 rfl rfl ?_
      refine q_st (st2 := [.int (nI (z + 1))]) (by rw [show ((pSI (pSI S 62 z b) 61 1 (nI (z + 1))).1 61 1) = nI (z + 1) by simp [pSI, pU]]) ?_
      exact q_iret (pc := 51) rfl rfl (pA_ok (by rw [oFeed, if_pos (pB_t h8), if_neg (by omega)]) fr_rf)
    · refine q_aload_n (pc := 30) (j := 0) rfl rfl ?_
      refine q_iconst (pc := 31) 4 rfl (by decide) ?_
      refine q_callV (pc := 32) (as := [.int 4]) (rest := []) (b := 0) (st2 := [.int (-2147483000 - nI 4)]) rfl ce_X8_refuse ml_X8_82 im_X8_refuse se_X8_refuse he.1 rfl rfl rfl (by decide) (Nat.le_of_ble_eq_true rfl) (sp_X8_refuse (e := 4) he (by decide)) rfl ?_
      exact q_iret (pc := 35) rfl rfl (pA_no (k := 3) (by rw [oFeed, if_pos (pB_t h8), if_pos (by have h9 := mt (nI_ltI (a := z) (b := 160) (by omega) (by decide)).mpr h27; have h8 := htp.2; omega)]) fr_rf)
  · refine q_aload_n (pc := 11) (j := 0) rfl rfl ?_
    refine q_iconst (pc := 12) 1 rfl (by decide) ?_
    refine q_callV (pc := 13) (as := [.int 1]) (rest := []) (b := 0) (st2 := [.int (-2147483000 - nI 1)]) rfl ce_X8_refuse ml_X8_82 im_X8_refuse se_X8_refuse he.1 rfl rfl rfl (by decide) (Nat.le_of_ble_eq_true rfl) (sp_X8_refuse (e := 1) he (by decide)) rfl ?_
    exact q_iret (pc := 16) rfl rfl (pA_no (k := 0) (by rw [oFeed, if_neg (show ¬ _ = true from by rw [pB_f h8]; decide)]) fr_rf)
/-- contents but for what is free, the read tape's places too -/
def fk (S T : PSt) : Prop := (∀ x, x < 15 ∨ x = 62 ∨ 65 ≤ x → T.1 x = S.1 x) ∧ T.1 61 1 = S.1 61 1 ∧ (∀ x, x < 15 ∨ 61 ≤ x → T.2.1 x = S.2.1 x ∧ T.2.2.1 x = S.2.2.1 x ∧ T.2.2.2 x = S.2.2.2 x)
theorem fk_fr {S T : PSt} (h : fr 15 61 S T) : fk S T := ⟨fun x hx => (h x (by omega)).1, by rw [(h 61 (by omega)).1], fun x hx => (h x hx).2⟩
theorem fk_mu {S T : PSt} (h : muK S T 61) : fk S T := ⟨fun x hx => h.1 x (by omega) (by omega), h.2.1 1 (by decide) (by decide), fun x _ => by rw [h.2.2]; exact ⟨rfl, rfl, rfl⟩⟩
theorem fk_tr {S T U : PSt} (h1 : fk S T) (h2 : fk T U) : fk S U := ⟨fun x hx => (h2.1 x hx).trans (h1.1 x hx), h2.2.1.trans h1.2.1, fun x hx => ⟨(h2.2.2 x hx).1.trans (h1.2.2 x hx).1, (h2.2.2 x hx).2.1.trans (h1.2.2 x hx).2.1, (h2.2.2 x hx).2.2.trans (h1.2.2 x hx).2.2⟩⟩
theorem fk_I {S T : PSt} {k j : Nat} {v : Int32} (h : fk S T) : fk (pSI S k j v) (pSI T k j v) := by
  refine ⟨fun x hx => ?_, ?_, h.2.2⟩
  · funext i
    show pU T.1 k j v x i = pU S.1 k j v x i
    unfold pU
    rw [h.1 x hx]
  · show pU T.1 k j v 61 1 = pU S.1 k j v 61 1
    unfold pU
    rw [h.2.1]
theorem fk_rf {S : PSt} : fk S S := fk_fr fr_rf
/-- what music leaves: the columns as told -/
def muO (S T : PSt) (R : Int32 × List PSg) : Prop :=
  if R.1 = -1 then
    (if 32 < R.2.length then fk (rfS S 4) T
     else (∃ g : Nat → Int32, fk (fun x j => if x = 3 then g j else if x = 1 ∧ j = 1 then nI R.2.length else if x = 61 ∧ j = 1 then 0 else S.1 x j, S.2) T ∧ (∀ i q, R.2[i]? = some q → g (5 * i + 0) = q.1 ∧ g (5 * i + 1) = q.2.1 ∧ g (5 * i + 2) = q.2.2.1 ∧ g (5 * i + 3) = 2 ∧ g (5 * i + 4) = q.2.2.2)))
  else fk (pSI S 61 1 0) T
theorem mu_ini {S : PSt} {z : Nat} : (muS 61 z 160 (pSI S 61 3 0) 0 0).1 = (muP (S.1 62) z 160 0).1 ∧ muK S (muS 61 z 160 (pSI S 61 3 0) 0 0).2 61 ∧ (muS 61 z 160 (pSI S 61 3 0) 0 0).2.1 61 3 = nI (muP (S.1 62) z 160 0).2.length ∧ muL (muS 61 z 160 (pSI S 61 3 0) 0 0).2 61 0 (muP (S.1 62) z 160 0).2 := by
  have h := muS_P (r := 61) (z := z) 160 (pSI S 61 3 0) 0 0 (by simp [pSI, pU]; rfl)
  have e : (pSI S 61 3 0).1 (61 + 1) = S.1 62 := (pU_ne (by decide) : pU S.1 61 3 0 62 = S.1 62)
  rw [e, Nat.zero_add] at h
  exact ⟨h.1, muK_tr (T := pSI S 61 3 0) ⟨fun x h1 _ => (pU_ne h1 : pU S.1 61 3 0 x = S.1 x), fun j h1 _ => by simp [pSI, pU, h1], rfl⟩ h.2.1, h.2.2.1, h.2.2.2.1⟩
theorem muP_len {b : Nat → Int32} {z : Nat} : ∀ (k p : Nat), (muP b z k p).2.length ≤ k := by
  intro k
  induction k with
  | zero => intro p; exact Nat.le_refl _
  | succ k ih =>
    intro p
    unfold muP
    split
    · exact Nat.zero_le _
    · split
      · simp
      · split
        · simp only [List.length_cons]
          exact Nat.succ_le_succ (ih _)
        · simp
theorem fk_rfS {S T : PSt} {e : Nat} (h : fk S T) : fk (rfS S e) (rfS T e) := by
  unfold rfS
  rw [h.1 69 (by omega)]
  exact fk_I h
theorem mu_end {S M : PSt} {R : Int32 × List PSg} (hmu : True ∧ muK S M 61 ∧ M.1 61 3 = nI R.2.length ∧ muL M 61 0 R.2) (hl : R.2.length ≤ 32) :
    ∃ g : Nat → Int32, fk (fun x j => if x = 3 then g j else if x = 1 ∧ j = 1 then nI R.2.length else if x = 61 ∧ j = 1 then 0 else S.1 x j, S.2) (pSI (cpI (pSI M 61 1 0) 64 3 180) 1 1 (nI R.2.length)) ∧ (∀ i q, R.2[i]? = some q → g (5 * i + 0) = q.1 ∧ g (5 * i + 1) = q.2.1 ∧ g (5 * i + 2) = q.2.2.1 ∧ g (5 * i + 3) = 2 ∧ g (5 * i + 4) = q.2.2.2) := by
  obtain ⟨_, hk, h3, hL⟩ := hmu
  refine ⟨(pSI (cpI (pSI M 61 1 0) 64 3 180) 1 1 (nI R.2.length)).1 3, ⟨fun x hx => ?_, ?_, fun x hx => ?_⟩, fun i q hq => ?_⟩
  · funext j
    by_cases e3 : x = 3
    · subst e3; simp
    · have hne : x ≠ 61 ∧ x ≠ 64 := by omega
      have := congrFun (hk.1 x hne.1 hne.2) j
      simp [pSI, pU, cpI, e3, hne.1, this]
  · simp [pSI, pU, cpI]
  · show (M.2.1 x = S.2.1 x ∧ M.2.2.1 x = S.2.2.1 x ∧ M.2.2.2 x = S.2.2.2 x)
    rw [hk.2.2]
    exact ⟨rfl, rfl, rfl⟩
  · have hi : i < 32 := by have := (List.getElem?_eq_some_iff.mp hq).1; omega
    have h := hL i q hq (by omega)
    rw [Nat.zero_add] at h
    have e : ∀ j, j < 180 → (pSI (cpI (pSI M 61 1 0) 64 3 180) 1 1 (nI R.2.length)).1 3 j = M.1 64 j := fun j hj => by simp [pSI, pU, cpI, hj]
    rw [e _ (by omega), e _ (by omega), e _ (by omega), e _ (by omega), e _ (by omega)]
    exact h
set_option maxRecDepth 100000 in
theorem sp_X8_music {sh : List PSh} {S : PSt} (he : isEl sh) {z : Nat} (htp : cTp S z) : pG mX8_music 6 [.ref 0] sh S (fun r T => r = some (.int (ansE (oMusic (muP (S.1 62) z 160 0)).1 (oMusic (muP (S.1 62) z 160 0)).2)) ∧ muO S T (muP (S.1 62) z 160 0)) := by
  refine pG.of [some (.ref 0), none] (by decide) tk_X8_music (Nat.le_of_ble_eq_true rfl) rfl (fun X => ?_)
  refine q_aload_n (pc := 0) (j := 0) rfl rfl ?_
  refine q_get (pc := 1) (a := 0) (v := .ref 61) rfl fl_X8_63 he.1 rfl rfl ?_
  refine q_callV (pc := 4) (as := []) (rest := []) (b := 61) (st2 := [.int ((muS 61 z 160 (pSI S 61 3 0) 0 0).1)]) rfl ce_X7_readMusic ml_X8_248 im_X7_readMusic se_X7_readMusic he.2.2.2.2.2.2.2.2.2.2.1.1 rfl rfl rfl (by decide) (Nat.le_of_ble_eq_true rfl) (sp_X7_readMusic (r := 61) (z := z) he.2.2.2.2.2.2.2.2.2.2.1 htp.1 htp.2) rfl ?_
  refine q_istore_n (pc := 7) (j := 1) [some (.ref 0), some (.int ((muS 61 z 160 (pSI S 61 3 0) 0 0).1))] rfl (by decide) rfl ?_
  have hmu := mu_ini (S := S) (z := z)
  refine q_iload_n (pc := 8) (j := 1) rfl rfl ?_
  refine q_iconst (pc := 9) (-1) rfl (by decide) ?_
  refine q_icmp_eq (pc := 10) 26 rfl (by decide) (fun h10 => ?_) (fun h10 => ?_)
  · have hm1 : (muP (S.1 62) z 160 0).1 = -1 := (by rw [← hmu.1]; exact h10)
    refine q_aload_n (pc := 26) (j := 0) rfl rfl ?_
    refine q_get (pc := 27) (a := 0) (v := .ref 61) rfl fl_X8_63 he.1 rfl rfl ?_
    refine q_get (pc := 30) (a := 61) (v := .int (((muS 61 z 160 (pSI S 61 3 0) 0 0).2).1 61 3)) rfl fl_X8_251 he.2.2.2.2.2.2.2.2.2.2.1.1 rfl rfl ?_
    refine q_st (st2 := [.int (nI (muP (S.1 62) z 160 0).2.length)]) (by rw [(show (((muS 61 z 160 (pSI S 61 3 0) 0 0).2).1 61 3) = nI (muP (S.1 62) z 160 0).2.length from hmu.2.2.1)]) ?_
    refine q_bipush (pc := 33) 32 rfl (by decide) ?_
    refine q_icmp_le (pc := 35) 44 rfl (by decide) (fun h35 => ?_) (fun h35 => ?_)
    · have hm3 : (muP (S.1 62) z 160 0).2.length ≤ 32 := (nI_leI (a := (muP (S.1 62) z 160 0).2.length) (b := 32) (by have := muP_len (b := S.1 62) (z := z) 160 0; omega) (by decide)).mp h35; have hm2 : ¬ 32 < (muP (S.1 62) z 160 0).2.length := (by omega)
      refine q_aload_n (pc := 44) (j := 0) rfl rfl ?_
      refine q_get (pc := 45) (a := 0) (v := .ref 61) rfl fl_X8_63 he.1 rfl rfl ?_
      refine q_iconst (pc := 48) 0 rfl (by decide) ?_
      refine q_putI (pc := 49) (a := 61) rfl fl_X8_241 he.2.2.2.2.2.2.2.2.2.2.1.1 rfl (fun _ h9 => by cases h9; rfl) rfl rfl ?_
      refine q_aload_n (pc := 52) (j := 0) rfl rfl ?_
      refine q_get (pc := 53) (a := 0) (v := .ref 1) rfl fl_X8_10 he.1 rfl rfl ?_
      refine q_get (pc := 56) (a := 1) (v := .ref 2) rfl fl_X8_90 he.2.1.1 rfl rfl ?_
      refine q_aload_n (pc := 59) (j := 0) rfl rfl ?_
      refine q_get (pc := 60) (a := 0) (v := .ref 61) rfl fl_X8_63 he.1 rfl rfl ?_
      refine q_get (pc := 63) (a := 61) (v := .ref 63) rfl fl_X8_254 he.2.2.2.2.2.2.2.2.2.2.1.1 rfl rfl ?_
      refine q_callV (pc := 66) (as := [.ref 63]) (rest := []) (b := 2) (st2 := []) rfl ce_X4_become ml_X8_207 im_X4_become se_X4_become he.2.1.2.1.1 rfl rfl rfl (by decide) (Nat.le_of_ble_eq_true rfl) (sp_X4_become he.2.1.2.1 he.2.2.2.2.2.2.2.2.2.2.1.2.2 (by omega)) rfl ?_
      refine q_aload_n (pc := 69) (j := 0) rfl rfl ?_
      refine q_get (pc := 70) (a := 0) (v := .ref 1) rfl fl_X8_10 he.1 rfl rfl ?_
      refine q_aload_n (pc := 73) (j := 0) rfl rfl ?_
      refine q_get (pc := 74) (a := 0) (v := .ref 61) rfl fl_X8_63 he.1 rfl rfl ?_
      refine q_get (pc := 77) (a := 61) (v := .int ((cpI (pSI ((muS 61 z 160 (pSI S 61 3 0) 0 0).2) 61 1 0) 64 3 180).1 61 3)) rfl fl_X8_251 he.2.2.2.2.2.2.2.2.2.2.1.1 rfl rfl ?_
      refine q_st (st2 := [.int (nI (muP (S.1 62) z 160 0).2.length), .ref 1]) (by rw [(show ((cpI (pSI ((muS 61 z 160 (pSI S 61 3 0) 0 0).2) 61 1 0) 64 3 180).1 61 3) = nI (muP (S.1 62) z 160 0).2.length from (by simp [pSI, pU, cpI]; exact hmu.2.2.1))]) ?_
      refine q_putI (pc := 80) (a := 1) rfl fl_X8_86 he.2.1.1 rfl (fun _ h9 => by cases h9; rfl) rfl rfl ?_
      refine q_aload_n (pc := 83) (j := 0) rfl rfl ?_
      refine q_get (pc := 84) (a := 0) (v := .ref 1) rfl fl_X8_10 he.1 rfl rfl ?_
      refine q_get (pc := 87) (a := 1) (v := .int ((pSI (cpI (pSI ((muS 61 z 160 (pSI S 61 3 0) 0 0).2) 61 1 0) 64 3 180) 1 1 (nI (muP (S.1 62) z 160 0).2.length)).1 1 1)) rfl fl_X8_86 he.2.1.1 rfl rfl ?_
      refine q_st (st2 := [.int (nI (muP (S.1 62) z 160 0).2.length)]) (by rw [(show ((pSI (cpI (pSI ((muS 61 z 160 (pSI S 61 3 0) 0 0).2) 61 1 0) 64 3 180) 1 1 (nI (muP (S.1 62) z 160 0).2.length)).1 1 1) = nI (muP (S.1 62) z 160 0).2.length by simp [pSI, pU])]) ?_
      exact q_iret (pc := 90) rfl rfl ⟨congrArg (fun v => some (Value.int v)) (by rw [oMusic, if_pos hm1, if_neg hm2]; rfl), (by rw [muO, if_pos hm1, if_neg hm2]; exact mu_end ⟨trivial, hmu.2⟩ hm3)⟩
    · have hm2 : 32 < (muP (S.1 62) z 160 0).2.length := (by have h9 := mt (nI_leI (a := (muP (S.1 62) z 160 0).2.length) (b := 32) (by have := muP_len (b := S.1 62) (z := z) 160 0; omega) (by decide)).mpr h35; omega)
      refine q_aload_n (pc := 38) (j := 0) rfl rfl ?_
      refine q_iconst (pc := 39) 4 rfl (by decide) ?_
      refine q_callV (pc := 40) (as := [.int 4]) (rest := []) (b := 0) (st2 := [.int (-2147483000 - nI 4)]) rfl ce_X8_refuse ml_X8_82 im_X8_refuse se_X8_refuse he.1 rfl rfl rfl (by decide) (Nat.le_of_ble_eq_true rfl) (sp_X8_refuse (e := 4) he (by decide)) rfl ?_
      exact q_iret (pc := 43) rfl rfl ⟨congrArg (fun v => some (Value.int v)) (by rw [oMusic, if_pos hm1, if_pos hm2]; rfl), (by rw [muO, if_pos hm1, if_pos hm2]; exact fk_rfS (fk_mu hmu.2.1))⟩
  · have hm1 : ¬ (muP (S.1 62) z 160 0).1 = -1 := (by rw [← hmu.1]; exact h10)
    refine q_aload_n (pc := 13) (j := 0) rfl rfl ?_
    refine q_get (pc := 14) (a := 0) (v := .ref 61) rfl fl_X8_63 he.1 rfl rfl ?_
    refine q_iconst (pc := 17) 0 rfl (by decide) ?_
    refine q_putI (pc := 18) (a := 61) rfl fl_X8_241 he.2.2.2.2.2.2.2.2.2.2.1.1 rfl (fun _ h9 => by cases h9; rfl) rfl rfl ?_
    refine q_bipush (pc := 21) (-10) rfl (by decide) ?_
    refine q_iload_n (pc := 23) (j := 1) rfl rfl ?_
    refine q_isub (pc := 24) rfl ?_
    exact q_iret (pc := 25) rfl rfl ⟨congrArg (fun v => some (Value.int v)) (by rw [oMusic, if_neg hm1, hmu.1]; rfl), (by rw [muO, if_neg hm1]; exact fk_I (fk_mu hmu.2.1))⟩
set_option maxRecDepth 100000 in
theorem sp_X8_shelf {sh : List PSh} {S : PSt} (he : isEl sh) {s kind n : Int32}  : pG mX8_shelf 4 [.ref 0, .int s, .int kind, .int n] sh S (pA (oShelf s kind n) S (clr S 1 (tN s) kind n 12)) := by
  refine pG.of [some (.ref 0), some (.int s), some (.int kind), some (.int n), none] (by decide) tk_X8_shelf (Nat.le_of_ble_eq_true rfl) rfl (fun X => ?_)
  refine q_iload_n (pc := 0) (j := 2) rfl rfl ?_
  refine q_iconst (pc := 1) (-1) rfl (by decide) ?_
  refine q_join 18 [some (.ref 0), some (.int s), some (.int kind), some (.int n), none] [.int (pB (decide (kind = -1 ∨ pAl 0 kind = true)))] S ?_ (fun key2 => ?_)
  · refine q_istore (pc := 18) (j := 4) [some (.ref 0), some (.int s), some (.int kind), some (.int n), some (.int (pB (decide (kind = -1 ∨ pAl 0 kind = true))))] rfl (by decide) rfl ?_
    refine q_iload_n (pc := 20) (j := 1) rfl rfl ?_
    refine q_iconst (pc := 21) 0 rfl (by decide) ?_
    refine q_iconst (pc := 22) 2 rfl (by decide) ?_
    refine q_callS (pc := 23) (as := [.int s, .int 0, .int 2]) (rest := []) (st2 := [.int (pB (pWi s 0 2))]) rfl ce_X8_isWithin ml_X8_101 st_X8_isWithin rfl (by decide) (Nat.le_of_ble_eq_true rfl) (sp_X8_isWithin) rfl ?_
    refine q_if_eq (pc := 26) 44 rfl (by decide) (fun h26 => ?_) (fun h26 => ?_)
    · refine q_aload_n (pc := 44) (j := 0) rfl rfl ?_
      refine q_iconst (pc := 45) 1 rfl (by decide) ?_
      refine q_callV (pc := 46) (as := [.int 1]) (rest := []) (b := 0) (st2 := [.int (-2147483000 - nI 1)]) rfl ce_X8_refuse ml_X8_82 im_X8_refuse se_X8_refuse he.1 rfl rfl rfl (by decide) (Nat.le_of_ble_eq_true rfl) (sp_X8_refuse (e := 1) he (by decide)) rfl ?_
      exact q_iret (pc := 49) rfl rfl (pA_no (k := 0) (by rw [oShelf, if_neg (show ¬ _ = true from by rw [pB_f h26]; decide)]) fr_rf)
    · refine q_iload (pc := 29) (j := 4) rfl rfl ?_
      refine q_if_eq (pc := 31) 44 rfl (by decide) (fun h31 => ?_) (fun h31 => ?_)
      · refine q_aload_n (pc := 44) (j := 0) rfl rfl ?_
        refine q_iconst (pc := 45) 1 rfl (by decide) ?_
        refine q_callV (pc := 46) (as := [.int 1]) (rest := []) (b := 0) (st2 := [.int (-2147483000 - nI 1)]) rfl ce_X8_refuse ml_X8_82 im_X8_refuse se_X8_refuse he.1 rfl rfl rfl (by decide) (Nat.le_of_ble_eq_true rfl) (sp_X8_refuse (e := 1) he (by decide)) rfl ?_
        exact q_iret (pc := 49) rfl rfl (pA_no (k := 0) (by rw [oShelf, if_pos (pB_t h26), if_neg (of_decide_eq_false (pB_f h31))]) fr_rf)
      · refine q_iload_n (pc := 34) (j := 3) rfl rfl ?_
        refine q_iconst (pc := 35) 0 rfl (by decide) ?_
        refine q_bipush (pc := 36) 12 rfl (by decide) ?_
        refine q_callS (pc := 38) (as := [.int n, .int 0, .int 12]) (rest := []) (st2 := [.int (pB (pWi n 0 12))]) rfl ce_X8_isWithin ml_X8_101 st_X8_isWithin rfl (by decide) (Nat.le_of_ble_eq_true rfl) (sp_X8_isWithin) rfl ?_
        refine q_if_ne (pc := 41) 50 rfl (by decide) (fun h41 => ?_) (fun h41 => ?_)
        · obtain ⟨u, hu, rfl⟩ := pWi_of (m := 2) (by decide) (by decide) (pB_t h26)
          refine q_aload_n (pc := 50) (j := 0) rfl rfl ?_
          refine q_get (pc := 51) (a := 0) (v := .ref 1) rfl fl_X8_10 he.1 rfl rfl ?_
          refine q_iload_n (pc := 54) (j := 1) rfl rfl ?_
          refine q_iload_n (pc := 55) (j := 2) rfl rfl ?_
          refine q_iload_n (pc := 56) (j := 3) rfl rfl ?_
          refine q_callV (pc := 57) (as := [.int (nI u), .int kind, .int n]) (rest := []) (b := 1) (st2 := []) rfl ce_X1_clearShelf ml_X8_257 im_X1_clearShelf se_X1_clearShelf he.2.1.1 rfl rfl rfl (by decide) (Nat.le_of_ble_eq_true rfl) (sp_X1_clearShelf (s := u) he.2.1 (by omega)) rfl ?_
          refine q_iconst (pc := 60) 1 rfl (by decide) ?_
          exact q_iret (pc := 61) rfl rfl (pA_ok (by rw [oShelf, if_pos (pB_t h26), if_pos (of_decide_eq_true (pB_t h31)), if_pos (pB_t h41)]) (by rw [tN_nI (show u < 2 ^ 31 by omega)]; exact fr_rf))
        · refine q_aload_n (pc := 44) (j := 0) rfl rfl ?_
          refine q_iconst (pc := 45) 1 rfl (by decide) ?_
          refine q_callV (pc := 46) (as := [.int 1]) (rest := []) (b := 0) (st2 := [.int (-2147483000 - nI 1)]) rfl ce_X8_refuse ml_X8_82 im_X8_refuse se_X8_refuse he.1 rfl rfl rfl (by decide) (Nat.le_of_ble_eq_true rfl) (sp_X8_refuse (e := 1) he (by decide)) rfl ?_
          exact q_iret (pc := 49) rfl rfl (pA_no (k := 0) (by rw [oShelf, if_pos (pB_t h26), if_pos (of_decide_eq_true (pB_t h31)), if_neg (show ¬ _ = true from by rw [pB_f h41]; decide)]) fr_rf)
  · refine q_icmp_eq (pc := 2) 13 rfl (by decide) (fun h2 => ?_) (fun h2 => ?_)
    · refine q_iconst (pc := 13) 1 rfl (by decide) ?_
      refine q_goto (pc := 14) 18 rfl (by decide) ?_
      exact q_st (by rw [decide_eq_true (show kind = -1 ∨ pAl 0 kind = true from Or.inl h2)]; rfl) key2
    · refine q_iconst (pc := 5) 0 rfl (by decide) ?_
      refine q_iload_n (pc := 6) (j := 2) rfl rfl ?_
      refine q_callS (pc := 7) (as := [.int 0, .int kind]) (rest := []) (st2 := [.int (pB (pAl 0 kind))]) rfl ce_X8_isAllowed ml_X8_78 st_X8_isAllowed rfl (by decide) (Nat.le_of_ble_eq_true rfl) (sp_X8_isAllowed) rfl ?_
      refine q_if_eq (pc := 10) 17 rfl (by decide) (fun h10 => ?_) (fun h10 => ?_)
      · refine q_iconst (pc := 17) 0 rfl (by decide) ?_
        exact q_st (by rw [decide_eq_false (show ¬ (kind = -1 ∨ pAl 0 kind = true) from fun q9 => q9.elim (fun q9 => h2 q9) (fun q9 => by rw [q9] at h10; exact absurd h10 (by decide)))]; rfl) key2
      · refine q_iconst (pc := 13) 1 rfl (by decide) ?_
        refine q_goto (pc := 14) 18 rfl (by decide) ?_
        exact q_st (by rw [decide_eq_true (show kind = -1 ∨ pAl 0 kind = true from Or.inr (pB_t h10))]; rfl) key2
set_option maxRecDepth 100000 in
theorem sp_X8_store {sh : List PSh} {S : PSt} (he : isEl sh) {N : Nat} (hi : cIv S N) (hsh : cSh S) {s i c : Int32}  : pG mX8_store 3 [.ref 0, .int s, .int i, .int c] sh S (pA (oStore (S.1 6) (S.1 7) (S.1 3) N s i c) S (cpS S 5 (plN s i) 3 (tN c) 5)) := by
  obtain ⟨hN, hN2, hg, hw⟩ := hi
  refine pG.of [some (.ref 0), some (.int s), some (.int i), some (.int c)] (by decide) tk_X8_store (Nat.le_of_ble_eq_true rfl) rfl (fun X => ?_)
  refine q_iload_n (pc := 0) (j := 1) rfl rfl ?_
  refine q_iconst (pc := 1) 0 rfl (by decide) ?_
  refine q_iconst (pc := 2) 2 rfl (by decide) ?_
  refine q_callS (pc := 3) (as := [.int s, .int 0, .int 2]) (rest := []) (st2 := [.int (pB (pWi s 0 2))]) rfl ce_X8_isWithin ml_X8_101 st_X8_isWithin rfl (by decide) (Nat.le_of_ble_eq_true rfl) (sp_X8_isWithin) rfl ?_
  refine q_if_eq (pc := 6) 17 rfl (by decide) (fun h6 => ?_) (fun h6 => ?_)
  · refine q_aload_n (pc := 17) (j := 0) rfl rfl ?_
    refine q_iconst (pc := 18) 1 rfl (by decide) ?_
    refine q_callV (pc := 19) (as := [.int 1]) (rest := []) (b := 0) (st2 := [.int (-2147483000 - nI 1)]) rfl ce_X8_refuse ml_X8_82 im_X8_refuse se_X8_refuse he.1 rfl rfl rfl (by decide) (Nat.le_of_ble_eq_true rfl) (sp_X8_refuse (e := 1) he (by decide)) rfl ?_
    exact q_iret (pc := 22) rfl rfl (pA_no (k := 0) (by rw [oStore, if_neg (show ¬ _ = true from by rw [pB_f h6]; decide)]) fr_rf)
  · refine q_aload_n (pc := 9) (j := 0) rfl rfl ?_
    refine q_iload_n (pc := 10) (j := 3) rfl rfl ?_
    refine q_callV (pc := 11) (as := [.int c]) (rest := []) (b := 0) (st2 := [.int (pB (isCoB N c))]) rfl ce_X8_isColumn ml_X8_97 im_X8_isColumn se_X8_isColumn he.1 rfl rfl rfl (by decide) (Nat.le_of_ble_eq_true rfl) (sp_X8_isColumn he hN hN2) rfl ?_
    refine q_if_ne (pc := 14) 23 rfl (by decide) (fun h14 => ?_) (fun h14 => ?_)
    · obtain ⟨u, hu, rfl⟩ := pWi_of (m := 2) (by decide) (by decide) (pB_t h6); obtain ⟨x, rfl, hxN⟩ := isCo_of hN2 (pB_t h14)
      refine q_aload_n (pc := 23) (j := 0) rfl rfl ?_
      refine q_get (pc := 24) (a := 0) (v := .ref 1) rfl fl_X8_10 he.1 rfl rfl ?_
      refine q_iload_n (pc := 27) (j := 1) rfl rfl ?_
      refine q_iload_n (pc := 28) (j := 2) rfl rfl ?_
      refine q_callV (pc := 29) (as := [.int (nI u), .int i]) (rest := []) (b := 1) (st2 := [.int (pB (hasPl S 1 u i))]) rfl ce_X1_hasPlace ml_X8_260 im_X1_hasPlace se_X1_hasPlace he.2.1.1 rfl rfl rfl (by decide) (Nat.le_of_ble_eq_true rfl) (sp_X1_hasPlace (s := u) he.2.1 (by omega)) rfl ?_
      refine q_st (st2 := [.int (pB (hnB (S.1 6 u) (S.1 7 u) i))]) (by rw [(show (pB (hasPl S 1 u i)) = pB (hnB (S.1 6 u) (S.1 7 u) i) from rfl)]) ?_
      refine q_if_ne (pc := 32) 42 rfl (by decide) (fun h32 => ?_) (fun h32 => ?_)
      · obtain ⟨y, rfl, hy, hky⟩ := hn_of (m := 12) (hsh u (by omega)) (pB_t h32)
        refine q_aload_n (pc := 42) (j := 0) rfl rfl ?_
        refine q_get (pc := 43) (a := 0) (v := .ref 1) rfl fl_X8_10 he.1 rfl rfl ?_
        refine q_iload_n (pc := 46) (j := 1) rfl rfl ?_
        refine q_callV (pc := 47) (as := [.int (nI u)]) (rest := []) (b := 1) (st2 := [.int (S.1 6 u)]) rfl ce_X1_shelfKind ml_X8_263 im_X1_shelfKind se_X1_shelfKind he.2.1.1 rfl rfl rfl (by decide) (Nat.le_of_ble_eq_true rfl) (sp_X1_shelfKind (s := u) he.2.1 (by omega)) rfl ?_
        refine q_aload_n (pc := 50) (j := 0) rfl rfl ?_
        refine q_get (pc := 51) (a := 0) (v := .ref 1) rfl fl_X8_10 he.1 rfl rfl ?_
        refine q_get (pc := 54) (a := 1) (v := .ref 2) rfl fl_X8_90 he.2.1.1 rfl rfl ?_
        refine q_iload_n (pc := 57) (j := 3) rfl rfl ?_
        refine q_iconst (pc := 58) 0 rfl (by decide) ?_
        refine q_callV (pc := 59) (as := [.int (nI x), .int 0]) (rest := [.int (S.1 6 u)]) (b := 2) (st2 := [.int (S.1 3 (5 * x + 0)), .int (S.1 6 u)]) rfl ce_X4_part ml_X8_105 im_X4_part se_X4_part he.2.1.2.1.1 rfl rfl rfl (by decide) (Nat.le_of_ble_eq_true rfl) (sp_X4_part (c := x) (w := 0) he.2.1.2.1 (by omega) (by omega)) rfl ?_
        refine q_icmp_eq (pc := 62) 71 rfl (by decide) (fun h62 => ?_) (fun h62 => ?_)
        · refine q_aload_n (pc := 71) (j := 0) rfl rfl ?_
          refine q_get (pc := 72) (a := 0) (v := .ref 1) rfl fl_X8_10 he.1 rfl rfl ?_
          refine q_get (pc := 75) (a := 1) (v := .ref 4) rfl fl_X8_266 he.2.1.1 rfl rfl ?_
          refine q_iload_n (pc := 78) (j := 1) rfl rfl ?_
          refine q_iload_n (pc := 79) (j := 2) rfl rfl ?_
          refine q_callS (pc := 80) (as := [.int (nI u), .int (nI y)]) (rest := [.ref 4]) (st2 := [.int (nI (12 * u + y)), .ref 4]) rfl ce_X1_place ml_X8_269 st_X1_place rfl (by decide) (Nat.le_of_ble_eq_true rfl) (sp_X1_place (s := u) (i := y)) rfl ?_
          refine q_aload_n (pc := 83) (j := 0) rfl rfl ?_
          refine q_get (pc := 84) (a := 0) (v := .ref 1) rfl fl_X8_10 he.1 rfl rfl ?_
          refine q_get (pc := 87) (a := 1) (v := .ref 2) rfl fl_X8_90 he.2.1.1 rfl rfl ?_
          refine q_iload_n (pc := 90) (j := 3) rfl rfl ?_
          refine q_callV (pc := 91) (as := [.int (nI (12 * u + y)), .ref 2, .int (nI x)]) (rest := []) (b := 4) (st2 := []) rfl ce_X4_copySign ml_X8_271 im_X4_copySign se_X4_copySign he.2.1.2.2.1.1 rfl rfl rfl (by decide) (Nat.le_of_ble_eq_true rfl) (sp_X4_copySign (c := (12 * u + y)) (q := x) he.2.1.2.2.1 he.2.1.2.1 (by omega) (by omega) (by omega)) rfl ?_
          refine q_iconst (pc := 94) 1 rfl (by decide) ?_
          exact q_iret (pc := 95) rfl rfl (pA_ok (by rw [oStore, if_pos (pB_t h6), if_pos (pB_t h14), tN_nI (show u < 2 ^ 31 by omega), if_pos (pB_t h32), tN_nI (show x < 2 ^ 31 by omega), if_pos h62]) (by rw [plN, tN_nI (show u < 2 ^ 31 by omega), tN_nI (show y < 2 ^ 31 by omega), tN_nI (show x < 2 ^ 31 by omega)]; exact fr_rf))
        · refine q_aload_n (pc := 65) (j := 0) rfl rfl ?_
          refine q_iconst (pc := 66) 5 rfl (by decide) ?_
          refine q_callV (pc := 67) (as := [.int 5]) (rest := []) (b := 0) (st2 := [.int (-2147483000 - nI 5)]) rfl ce_X8_refuse ml_X8_82 im_X8_refuse se_X8_refuse he.1 rfl rfl rfl (by decide) (Nat.le_of_ble_eq_true rfl) (sp_X8_refuse (e := 5) he (by decide)) rfl ?_
          exact q_iret (pc := 70) rfl rfl (pA_no (k := 4) (by rw [oStore, if_pos (pB_t h6), if_pos (pB_t h14), tN_nI (show u < 2 ^ 31 by omega), if_pos (pB_t h32), tN_nI (show x < 2 ^ 31 by omega), if_neg h62]) fr_rf)
      · refine q_aload_n (pc := 35) (j := 0) rfl rfl ?_
        refine q_bipush (pc := 36) 7 rfl (by decide) ?_
        refine q_callV (pc := 38) (as := [.int 7]) (rest := []) (b := 0) (st2 := [.int (-2147483000 - nI 7)]) rfl ce_X8_refuse ml_X8_82 im_X8_refuse se_X8_refuse he.1 rfl rfl rfl (by decide) (Nat.le_of_ble_eq_true rfl) (sp_X8_refuse (e := 7) he (by decide)) rfl ?_
        exact q_iret (pc := 41) rfl rfl (pA_no (k := 6) (by rw [oStore, if_pos (pB_t h6), if_pos (pB_t h14), tN_nI (show u < 2 ^ 31 by omega), if_neg (show ¬ _ = true from by rw [pB_f h32]; decide)]) fr_rf)
    · refine q_aload_n (pc := 17) (j := 0) rfl rfl ?_
      refine q_iconst (pc := 18) 1 rfl (by decide) ?_
      refine q_callV (pc := 19) (as := [.int 1]) (rest := []) (b := 0) (st2 := [.int (-2147483000 - nI 1)]) rfl ce_X8_refuse ml_X8_82 im_X8_refuse se_X8_refuse he.1 rfl rfl rfl (by decide) (Nat.le_of_ble_eq_true rfl) (sp_X8_refuse (e := 1) he (by decide)) rfl ?_
      exact q_iret (pc := 22) rfl rfl (pA_no (k := 0) (by rw [oStore, if_pos (pB_t h6), if_neg (show ¬ _ = true from by rw [pB_f h14]; decide)]) fr_rf)
set_option maxRecDepth 100000 in
theorem sp_X8_fetch {sh : List PSh} {S : PSt} (he : isEl sh) {N : Nat} (hi : cIv S N) (hsh : cSh S) {s i what : Int32}  : pG mX8_fetch 3 [.ref 0, .int s, .int i, .int what] sh S (pA (oFetch (S.1 6) (S.1 7) (S.1 5) s i what) S S) := by
  obtain ⟨hN, hN2, hg, hw⟩ := hi
  refine pG.of [some (.ref 0), some (.int s), some (.int i), some (.int what), none] (by decide) tk_X8_fetch (Nat.le_of_ble_eq_true rfl) rfl (fun X => ?_)
  refine q_iload_n (pc := 0) (j := 1) rfl rfl ?_
  refine q_iconst (pc := 1) 0 rfl (by decide) ?_
  refine q_iconst (pc := 2) 2 rfl (by decide) ?_
  refine q_callS (pc := 3) (as := [.int s, .int 0, .int 2]) (rest := []) (st2 := [.int (pB (pWi s 0 2))]) rfl ce_X8_isWithin ml_X8_101 st_X8_isWithin rfl (by decide) (Nat.le_of_ble_eq_true rfl) (sp_X8_isWithin) rfl ?_
  refine q_if_eq (pc := 6) 18 rfl (by decide) (fun h6 => ?_) (fun h6 => ?_)
  · refine q_aload_n (pc := 18) (j := 0) rfl rfl ?_
    refine q_iconst (pc := 19) 1 rfl (by decide) ?_
    refine q_callV (pc := 20) (as := [.int 1]) (rest := []) (b := 0) (st2 := [.int (-2147483000 - nI 1)]) rfl ce_X8_refuse ml_X8_82 im_X8_refuse se_X8_refuse he.1 rfl rfl rfl (by decide) (Nat.le_of_ble_eq_true rfl) (sp_X8_refuse (e := 1) he (by decide)) rfl ?_
    exact q_iret (pc := 23) rfl rfl (pA_no (k := 0) (by rw [oFetch, if_neg (show ¬ _ = true from by rw [pB_f h6]; decide)]) fr_rf)
  · refine q_iload_n (pc := 9) (j := 3) rfl rfl ?_
    refine q_iconst (pc := 10) 0 rfl (by decide) ?_
    refine q_iconst (pc := 11) 3 rfl (by decide) ?_
    refine q_callS (pc := 12) (as := [.int what, .int 0, .int 3]) (rest := []) (st2 := [.int (pB (pWi what 0 3))]) rfl ce_X8_isWithin ml_X8_101 st_X8_isWithin rfl (by decide) (Nat.le_of_ble_eq_true rfl) (sp_X8_isWithin) rfl ?_
    refine q_if_ne (pc := 15) 24 rfl (by decide) (fun h15 => ?_) (fun h15 => ?_)
    · obtain ⟨u, hu, rfl⟩ := pWi_of (m := 2) (by decide) (by decide) (pB_t h6); obtain ⟨v, hv, rfl⟩ := pWi_of (m := 3) (by decide) (by decide) (pB_t h15)
      refine q_aload_n (pc := 24) (j := 0) rfl rfl ?_
      refine q_get (pc := 25) (a := 0) (v := .ref 1) rfl fl_X8_10 he.1 rfl rfl ?_
      refine q_iload_n (pc := 28) (j := 1) rfl rfl ?_
      refine q_iload_n (pc := 29) (j := 2) rfl rfl ?_
      refine q_callV (pc := 30) (as := [.int (nI u), .int i]) (rest := []) (b := 1) (st2 := [.int (pB (hasPl S 1 u i))]) rfl ce_X1_hasPlace ml_X8_260 im_X1_hasPlace se_X1_hasPlace he.2.1.1 rfl rfl rfl (by decide) (Nat.le_of_ble_eq_true rfl) (sp_X1_hasPlace (s := u) he.2.1 (by omega)) rfl ?_
      refine q_st (st2 := [.int (pB (hnB (S.1 6 u) (S.1 7 u) i))]) (by rw [(show (pB (hasPl S 1 u i)) = pB (hnB (S.1 6 u) (S.1 7 u) i) from rfl)]) ?_
      refine q_if_ne (pc := 33) 43 rfl (by decide) (fun h33 => ?_) (fun h33 => ?_)
      · obtain ⟨y, rfl, hy, hky⟩ := hn_of (m := 12) (hsh u (by omega)) (pB_t h33)
        refine q_iload_n (pc := 43) (j := 1) rfl rfl ?_
        refine q_iload_n (pc := 44) (j := 2) rfl rfl ?_
        refine q_callS (pc := 45) (as := [.int (nI u), .int (nI y)]) (rest := []) (st2 := [.int (nI (12 * u + y))]) rfl ce_X1_place ml_X8_269 st_X1_place rfl (by decide) (Nat.le_of_ble_eq_true rfl) (sp_X1_place (s := u) (i := y)) rfl ?_
        refine q_istore (pc := 48) (j := 4) [some (.ref 0), some (.int (nI u)), some (.int (nI y)), some (.int (nI v)), some (.int (nI (12 * u + y)))] rfl (by decide) rfl ?_
        refine q_aload_n (pc := 50) (j := 0) rfl rfl ?_
        refine q_get (pc := 51) (a := 0) (v := .ref 1) rfl fl_X8_10 he.1 rfl rfl ?_
        refine q_get (pc := 54) (a := 1) (v := .ref 4) rfl fl_X8_266 he.2.1.1 rfl rfl ?_
        refine q_iload (pc := 57) (j := 4) rfl rfl ?_
        refine q_callV (pc := 59) (as := [.int (nI (12 * u + y))]) (rest := []) (b := 4) (st2 := [.int (pB (decide (S.1 5 (5 * (12 * u + y)) = -1)))]) rfl ce_X4_isMissing ml_X8_275 im_X4_isMissing se_X4_isMissing he.2.1.2.2.1.1 rfl rfl rfl (by decide) (Nat.le_of_ble_eq_true rfl) (sp_X4_isMissing (c := (12 * u + y)) he.2.1.2.2.1 (by omega)) rfl ?_
        refine q_if_eq (pc := 62) 71 rfl (by decide) (fun h62 => ?_) (fun h62 => ?_)
        · refine q_iload_n (pc := 71) (j := 3) rfl rfl ?_
          refine q_iconst (pc := 72) 3 rfl (by decide) ?_
          refine q_icmp_ne (pc := 73) 91 rfl (by decide) (fun h73 => ?_) (fun h73 => ?_)
          · have hv3 : v < 3 := (by have h9 : ¬ v = 3 := fun q9 => h73 (by rw [q9]; rfl); omega)
            refine q_aload_n (pc := 91) (j := 0) rfl rfl ?_
            refine q_get (pc := 92) (a := 0) (v := .ref 1) rfl fl_X8_10 he.1 rfl rfl ?_
            refine q_get (pc := 95) (a := 1) (v := .ref 4) rfl fl_X8_266 he.2.1.1 rfl rfl ?_
            refine q_iload (pc := 98) (j := 4) rfl rfl ?_
            refine q_iload_n (pc := 100) (j := 3) rfl rfl ?_
            refine q_callV (pc := 101) (as := [.int (nI (12 * u + y)), .int (nI v)]) (rest := []) (b := 4) (st2 := [.int (S.1 5 (5 * (12 * u + y) + v))]) rfl ce_X4_part ml_X8_105 im_X4_part se_X4_part he.2.1.2.2.1.1 rfl rfl rfl (by decide) (Nat.le_of_ble_eq_true rfl) (sp_X4_part (c := (12 * u + y)) (w := v) he.2.1.2.2.1 (by omega) (by omega)) rfl ?_
            exact q_iret (pc := 104) rfl rfl (pA_ok (by rw [oFetch, if_pos (pB_t h6), if_pos (pB_t h15), tN_nI (show u < 2 ^ 31 by omega), if_pos (pB_t h33), plN, tN_nI (show u < 2 ^ 31 by omega), tN_nI (show y < 2 ^ 31 by omega), if_neg (of_decide_eq_false (pB_f h62)), if_neg h73, tN_nI (show v < 2 ^ 31 by omega)]) fr_rf)
          · refine q_aload_n (pc := 76) (j := 0) rfl rfl ?_
            refine q_get (pc := 77) (a := 0) (v := .ref 1) rfl fl_X8_10 he.1 rfl rfl ?_
            refine q_get (pc := 80) (a := 1) (v := .ref 4) rfl fl_X8_266 he.2.1.1 rfl rfl ?_
            refine q_iload (pc := 83) (j := 4) rfl rfl ?_
            refine q_callV (pc := 85) (as := [.int (nI (12 * u + y))]) (rest := []) (b := 4) (st2 := [.int (topV (S.1 5 (5 * (12 * u + y) + 0)) (S.1 5 (5 * (12 * u + y) + 2)) (S.1 5 (5 * (12 * u + y) + 4)))]) rfl ce_X4_top ml_X8_113 im_X4_top se_X4_top he.2.1.2.2.1.1 rfl rfl rfl (by decide) (Nat.le_of_ble_eq_true rfl) (sp_X4_top (c := (12 * u + y)) he.2.1.2.2.1 (by omega)) rfl ?_
            refine q_goto (pc := 88) 104 rfl (by decide) ?_
            exact q_iret (pc := 104) rfl rfl (pA_ok (by rw [oFetch, if_pos (pB_t h6), if_pos (pB_t h15), tN_nI (show u < 2 ^ 31 by omega), if_pos (pB_t h33), plN, tN_nI (show u < 2 ^ 31 by omega), tN_nI (show y < 2 ^ 31 by omega), if_neg (of_decide_eq_false (pB_f h62)), if_pos h73]; rfl) fr_rf)
        · refine q_aload_n (pc := 65) (j := 0) rfl rfl ?_
          refine q_iconst (pc := 66) 2 rfl (by decide) ?_
          refine q_callV (pc := 67) (as := [.int 2]) (rest := []) (b := 0) (st2 := [.int (-2147483000 - nI 2)]) rfl ce_X8_refuse ml_X8_82 im_X8_refuse se_X8_refuse he.1 rfl rfl rfl (by decide) (Nat.le_of_ble_eq_true rfl) (sp_X8_refuse (e := 2) he (by decide)) rfl ?_
          exact q_iret (pc := 70) rfl rfl (pA_no (k := 1) (by rw [oFetch, if_pos (pB_t h6), if_pos (pB_t h15), tN_nI (show u < 2 ^ 31 by omega), if_pos (pB_t h33), plN, tN_nI (show u < 2 ^ 31 by omega), tN_nI (show y < 2 ^ 31 by omega), if_pos (of_decide_eq_true (pB_t h62))]) fr_rf)
      · refine q_aload_n (pc := 36) (j := 0) rfl rfl ?_
        refine q_bipush (pc := 37) 7 rfl (by decide) ?_
        refine q_callV (pc := 39) (as := [.int 7]) (rest := []) (b := 0) (st2 := [.int (-2147483000 - nI 7)]) rfl ce_X8_refuse ml_X8_82 im_X8_refuse se_X8_refuse he.1 rfl rfl rfl (by decide) (Nat.le_of_ble_eq_true rfl) (sp_X8_refuse (e := 7) he (by decide)) rfl ?_
        exact q_iret (pc := 42) rfl rfl (pA_no (k := 6) (by rw [oFetch, if_pos (pB_t h6), if_pos (pB_t h15), tN_nI (show u < 2 ^ 31 by omega), if_neg (show ¬ _ = true from by rw [pB_f h33]; decide)]) fr_rf)
    · refine q_aload_n (pc := 18) (j := 0) rfl rfl ?_
      refine q_iconst (pc := 19) 1 rfl (by decide) ?_
      refine q_callV (pc := 20) (as := [.int 1]) (rest := []) (b := 0) (st2 := [.int (-2147483000 - nI 1)]) rfl ce_X8_refuse ml_X8_82 im_X8_refuse se_X8_refuse he.1 rfl rfl rfl (by decide) (Nat.le_of_ble_eq_true rfl) (sp_X8_refuse (e := 1) he (by decide)) rfl ?_
      exact q_iret (pc := 23) rfl rfl (pA_no (k := 0) (by rw [oFetch, if_pos (pB_t h6), if_neg (show ¬ _ = true from by rw [pB_f h15]; decide)]) fr_rf)
theorem nou32 {x : UInt32} (h : sF x) (h0 : decide (Op.cmpValue (FP.dcmp (szF 0 x.toInt32.toInt64) FP.dconst0) .l = 0) = false) : (fz x).natAbs ≠ 0 := by
  rw [no32 h] at h0
  exact of_decide_eq_false h0
theorem nou64 {x : UInt64} (h : sD x) (h0 : decide (Op.cmpValue (FP.dcmp (szF 1 x.toInt64) FP.dconst0) .l = 0) = false) : (dz x).natAbs ≠ 0 := by
  rw [no64 h] at h0
  exact of_decide_eq_false h0
theorem hn_lay {q r : Int32} {k : Nat} (hk : k < 2 ^ 31) (hq : ¬ q = -1) : hnB q r (nI k) = decide (k < r.toInt.toNat) := by
  unfold hnB
  rw [nI_toInt hk]
  exact decide_eq_decide.mpr ⟨fun h => by omega, fun h => ⟨hq, by omega, by omega⟩⟩
theorem ly_I {S : PSt} {s k : Nat} {q : Int32} {f : Nat → UInt32} : (lyS S s q f k).1 = S.1 ∧ (lyS S s q f k).2.1 = S.2.1 := ⟨rfl, rfl⟩
theorem ly_fr {S : PSt} {u x n k : Nat} {f : Nat → UInt32} : fr 15 61 (lyS S u (S.1 66 u) f k) (lyS (stl S 15 2 x (S.1 1 2) n) u ((stl S 15 2 x (S.1 1 2) n).1 66 u) f k) := by
  intro c hc
  have h := (fr_stl (S := S) (r := 15) (q := 2) (a := x) (n := n) (w := S.1 1 2)) c (by omega)
  have h66 := (fr_stl (S := S) (r := 15) (q := 2) (a := x) (n := n) (w := S.1 1 2)) 66 (by omega)
  refine ⟨h.1, h.2.1, ?_, h.2.2.2⟩
  unfold lyS
  dsimp only
  rw [h66.1, h.2.2.1]
set_option maxRecDepth 100000 in
theorem sp_X8_image {sh : List PSh} {S : PSt} (he : isEl sh) {N : Nat} (hN : S.1 1 1 = nI N)  : pG mX8_image 3 [.ref 0] sh S (pA ((0, nI N)) S (pSI (pgB S 8 1) 0 2 1)) := by
  refine pG.of [some (.ref 0)] (by decide) tk_X8_image (Nat.le_of_ble_eq_true rfl) rfl (fun X => ?_)
  refine q_aload_n (pc := 0) (j := 0) rfl rfl ?_
  refine q_get (pc := 1) (a := 0) (v := .ref 8) rfl fl_X8_16 he.1 rfl rfl ?_
  refine q_aload_n (pc := 4) (j := 0) rfl rfl ?_
  refine q_get (pc := 5) (a := 0) (v := .ref 1) rfl fl_X8_10 he.1 rfl rfl ?_
  refine q_callV (pc := 8) (as := [.ref 1]) (rest := []) (b := 8) (st2 := []) rfl ce_X1_become ml_X8_312 im_X1_become se_X1_become he.2.2.1.1 rfl rfl rfl (by decide) (Nat.le_of_ble_eq_true rfl) (sp_X1_become he.2.2.1 he.2.1 (by omega)) rfl ?_
  refine q_aload_n (pc := 11) (j := 0) rfl rfl ?_
  refine q_iconst (pc := 12) 1 rfl (by decide) ?_
  refine q_putI (pc := 13) (a := 0) rfl fl_X8_19 he.1 rfl (fun _ h9 => by cases h9; rfl) rfl rfl ?_
  refine q_aload_n (pc := 16) (j := 0) rfl rfl ?_
  refine q_get (pc := 17) (a := 0) (v := .ref 8) rfl fl_X8_16 he.1 rfl rfl ?_
  refine q_get (pc := 20) (a := 8) (v := .int ((pSI (pgB S 8 1) 0 2 1).1 8 1)) rfl fl_X8_86 he.2.2.1.1 rfl rfl ?_
  refine q_st (st2 := [.int (nI N)]) (by rw [(show ((pSI (pgB S 8 1) 0 2 1).1 8 1) = nI N from (by simp [pgB, pSI, pU, cpI]; exact hN))]) ?_
  exact q_iret (pc := 23) rfl rfl (pA_ok rfl fr_rf)
set_option maxRecDepth 100000 in
theorem sp_X8_restore {sh : List PSh} {S : PSt} (he : isEl sh) {N : Nat} (hN : ¬ S.1 0 2 = 0 → S.1 8 1 = nI N)  : pG mX8_restore 3 [.ref 0] sh S (pA (if S.1 0 2 = 0 then (2, 0) else (0, nI N)) S (pgB S 1 8)) := by
  refine pG.of [some (.ref 0)] (by decide) tk_X8_restore (Nat.le_of_ble_eq_true rfl) rfl (fun X => ?_)
  refine q_aload_n (pc := 0) (j := 0) rfl rfl ?_
  refine q_get (pc := 1) (a := 0) (v := .int (S.1 0 2)) rfl fl_X8_19 he.1 rfl rfl ?_
  refine q_if_ne (pc := 4) 13 rfl (by decide) (fun h4 => ?_) (fun h4 => ?_)
  · refine q_aload_n (pc := 13) (j := 0) rfl rfl ?_
    refine q_get (pc := 14) (a := 0) (v := .ref 1) rfl fl_X8_10 he.1 rfl rfl ?_
    refine q_aload_n (pc := 17) (j := 0) rfl rfl ?_
    refine q_get (pc := 18) (a := 0) (v := .ref 8) rfl fl_X8_16 he.1 rfl rfl ?_
    refine q_callV (pc := 21) (as := [.ref 8]) (rest := []) (b := 1) (st2 := []) rfl ce_X1_become ml_X8_312 im_X1_become se_X1_become he.2.1.1 rfl rfl rfl (by decide) (Nat.le_of_ble_eq_true rfl) (sp_X1_become he.2.1 he.2.2.1 (by omega)) rfl ?_
    refine q_aload_n (pc := 24) (j := 0) rfl rfl ?_
    refine q_get (pc := 25) (a := 0) (v := .ref 1) rfl fl_X8_10 he.1 rfl rfl ?_
    refine q_get (pc := 28) (a := 1) (v := .int ((pgB S 1 8).1 1 1)) rfl fl_X8_86 he.2.1.1 rfl rfl ?_
    refine q_st (st2 := [.int (nI N)]) (by rw [(show ((pgB S 1 8).1 1 1) = nI N from (by simp [pgB, pSI, pU, cpI]; exact hN h4))]) ?_
    exact q_iret (pc := 31) rfl rfl (pA_ok (by rw [if_neg h4]) fr_rf)
  · refine q_aload_n (pc := 7) (j := 0) rfl rfl ?_
    refine q_iconst (pc := 8) 2 rfl (by decide) ?_
    refine q_callV (pc := 9) (as := [.int 2]) (rest := []) (b := 0) (st2 := [.int (-2147483000 - nI 2)]) rfl ce_X8_refuse ml_X8_82 im_X8_refuse se_X8_refuse he.1 rfl rfl rfl (by decide) (Nat.le_of_ble_eq_true rfl) (sp_X8_refuse (e := 2) he (by decide)) rfl ?_
    exact q_iret (pc := 12) rfl rfl (pA_no (k := 1) (by rw [if_pos h4]) fr_rf)
theorem sw_out6 {x : Int32} (h0 : ¬ x = 0) (h1 : ¬ x = 1) (h2 : ¬ x = 2) (h3 : ¬ x = 3) (h4 : ¬ x = 4) (h5 : ¬ x = 5) : x.toInt < 0 ∨ 5 < x.toInt := by
  have a0 : x.toInt ≠ 0 := fun q => h0 (Int32.toInt_inj.mp (by rw [q]; rfl))
  have a1 : x.toInt ≠ 1 := fun q => h1 (Int32.toInt_inj.mp (by rw [q]; rfl))
  have a2 : x.toInt ≠ 2 := fun q => h2 (Int32.toInt_inj.mp (by rw [q]; rfl))
  have a3 : x.toInt ≠ 3 := fun q => h3 (Int32.toInt_inj.mp (by rw [q]; rfl))
  have a4 : x.toInt ≠ 4 := fun q => h4 (Int32.toInt_inj.mp (by rw [q]; rfl))
  have a5 : x.toInt ≠ 5 := fun q => h5 (Int32.toInt_inj.mp (by rw [q]; rfl))
  omega
set_option maxRecDepth 100000 in
theorem sp_X8_count {sh : List PSh} {S : PSt} (he : isEl sh) {N z : Nat} {what : Int32} (hi : cIv S N) (htp : cTp S z)  : pG mX8_count 4 [.ref 0, .int what] sh S (pA (oCount (S.1 3) (S.1 1 2) N z (S.1 6) (S.1 7) (S.1 5) what) S S) := by
  obtain ⟨hN, hN2, hg, hw⟩ := hi
  refine pG.of [some (.ref 0), some (.int what)] (by decide) tk_X8_count (Nat.le_of_ble_eq_true rfl) rfl (fun X => ?_)
  refine q_iload_n (pc := 0) (j := 1) rfl rfl ?_
  rcases Classical.em (what = (0 : Int32)) with hc1_0 | hc1_0
  · refine q_tableIn (pc := 1) (off := 39) 40 rfl (by rw [hc1_0]; decide) (by rw [hc1_0]; decide) (by rw [hc1_0]; decide) (by decide) ?_
    refine q_aload_n (pc := 40) (j := 0) rfl rfl ?_
    refine q_get (pc := 41) (a := 0) (v := .ref 1) rfl fl_X8_10 he.1 rfl rfl ?_
    refine q_get (pc := 44) (a := 1) (v := .int (S.1 1 1)) rfl fl_X8_86 he.2.1.1 rfl rfl ?_
    refine q_st (st2 := [.int (nI N)]) (by rw [(show (S.1 1 1) = nI N from hN)]) ?_
    exact q_iret (pc := 47) rfl rfl (pA_ok (by rw [oCount, if_pos hc1_0]) fr_rf)
  · skip
    rcases Classical.em (what = (1 : Int32)) with hc1_1 | hc1_1
    · refine q_tableIn (pc := 1) (off := 47) 48 rfl (by rw [hc1_1]; decide) (by rw [hc1_1]; decide) (by rw [hc1_1]; decide) (by decide) ?_
      refine q_aload_n (pc := 48) (j := 0) rfl rfl ?_
      refine q_get (pc := 49) (a := 0) (v := .ref 1) rfl fl_X8_10 he.1 rfl rfl ?_
      refine q_get (pc := 52) (a := 1) (v := .int (S.1 1 2)) rfl fl_X8_134 he.2.1.1 rfl rfl ?_
      exact q_iret (pc := 55) rfl rfl (pA_ok (by rw [oCount, if_neg hc1_0, if_pos hc1_1]) fr_rf)
    · skip
      rcases Classical.em (what = (2 : Int32)) with hc1_2 | hc1_2
      · refine q_tableIn (pc := 1) (off := 55) 56 rfl (by rw [hc1_2]; decide) (by rw [hc1_2]; decide) (by rw [hc1_2]; decide) (by decide) ?_
        refine q_aload_n (pc := 56) (j := 0) rfl rfl ?_
        refine q_get (pc := 57) (a := 0) (v := .ref 61) rfl fl_X8_63 he.1 rfl rfl ?_
        refine q_get (pc := 60) (a := 61) (v := .int (S.1 61 1)) rfl fl_X8_241 he.2.2.2.2.2.2.2.2.2.2.1.1 rfl rfl ?_
        refine q_st (st2 := [.int (nI z)]) (by rw [(show (S.1 61 1) = nI z from htp.1)]) ?_
        exact q_iret (pc := 63) rfl rfl (pA_ok (by rw [oCount, if_neg hc1_0, if_neg hc1_1, if_pos hc1_2]) fr_rf)
      · skip
        rcases Classical.em (what = (3 : Int32)) with hc1_3 | hc1_3
        · refine q_tableIn (pc := 1) (off := 63) 64 rfl (by rw [hc1_3]; decide) (by rw [hc1_3]; decide) (by rw [hc1_3]; decide) (by decide) ?_
          refine q_aload_n (pc := 64) (j := 0) rfl rfl ?_
          refine q_callV (pc := 65) (as := []) (rest := []) (b := 0) (st2 := [.int (nI (cntN (S.1 3) N))]) rfl ce_X8_countNotes ml_X8_315 im_X8_countNotes se_X8_countNotes he.1 rfl rfl rfl (by decide) (Nat.le_of_ble_eq_true rfl) (sp_X8_countNotes he hN hN2) rfl ?_
          exact q_iret (pc := 68) rfl rfl (pA_ok (by rw [oCount, if_neg hc1_0, if_neg hc1_1, if_neg hc1_2, if_pos hc1_3]) fr_rf)
        · skip
          rcases Classical.em (what = (4 : Int32)) with hc1_4 | hc1_4
          · refine q_tableIn (pc := 1) (off := 68) 69 rfl (by rw [hc1_4]; decide) (by rw [hc1_4]; decide) (by rw [hc1_4]; decide) (by decide) ?_
            refine q_aload_n (pc := 69) (j := 0) rfl rfl ?_
            refine q_callV (pc := 70) (as := []) (rest := []) (b := 0) (st2 := [.int (sumD (S.1 3) N)]) rfl ce_X8_sumDurations ml_X8_318 im_X8_sumDurations se_X8_sumDurations he.1 rfl rfl rfl (by decide) (Nat.le_of_ble_eq_true rfl) (sp_X8_sumDurations he hN hN2) rfl ?_
            exact q_iret (pc := 73) rfl rfl (pA_ok (by rw [oCount, if_neg hc1_0, if_neg hc1_1, if_neg hc1_2, if_neg hc1_3, if_pos hc1_4]) fr_rf)
          · skip
            rcases Classical.em (what = (5 : Int32)) with hc1_5 | hc1_5
            · refine q_tableIn (pc := 1) (off := 73) 74 rfl (by rw [hc1_5]; decide) (by rw [hc1_5]; decide) (by rw [hc1_5]; decide) (by decide) ?_
              refine q_aload_n (pc := 74) (j := 0) rfl rfl ?_
              refine q_get (pc := 75) (a := 0) (v := .ref 1) rfl fl_X8_10 he.1 rfl rfl ?_
              refine q_callV (pc := 78) (as := []) (rest := []) (b := 1) (st2 := [.int (nI (cnT S 1 3))]) rfl ce_X1_countOnShelves ml_X8_321 im_X1_countOnShelves se_X1_countOnShelves he.2.1.1 rfl rfl rfl (by decide) (Nat.le_of_ble_eq_true rfl) (sp_X1_countOnShelves he.2.1) rfl ?_
              refine q_st (st2 := [.int (nI (cnA (S.1 6) (S.1 7) (S.1 5) 3))]) (by rw [(show (nI (cnT S 1 3)) = _ from congrArg nI (cnT_A 3))]) ?_
              exact q_iret (pc := 81) rfl rfl (pA_ok (by rw [oCount, if_neg hc1_0, if_neg hc1_1, if_neg hc1_2, if_neg hc1_3, if_neg hc1_4, if_pos hc1_5]) fr_rf)
            · skip
              refine q_tableOut (pc := 1) 82 rfl (sw_out6 hc1_0 hc1_1 hc1_2 hc1_3 hc1_4 hc1_5) (by decide) ?_
              refine q_aload_n (pc := 82) (j := 0) rfl rfl ?_
              refine q_iconst (pc := 83) 1 rfl (by decide) ?_
              refine q_callV (pc := 84) (as := [.int 1]) (rest := []) (b := 0) (st2 := [.int (-2147483000 - nI 1)]) rfl ce_X8_refuse ml_X8_82 im_X8_refuse se_X8_refuse he.1 rfl rfl rfl (by decide) (Nat.le_of_ble_eq_true rfl) (sp_X8_refuse (e := 1) he (by decide)) rfl ?_
              exact q_iret (pc := 87) rfl rfl (pA_no (k := 0) (by rw [oCount, if_neg hc1_0, if_neg hc1_1, if_neg hc1_2, if_neg hc1_3, if_neg hc1_4, if_neg hc1_5]) fr_rf)