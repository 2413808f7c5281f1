/-! the model: its cells, helpers, columns: written by wip/whole/gen/c43.py -/
def isMo (sh : List PSh) : Prop := sh[70]? = some (.inr (8, [71 + 3, 72 + 3, 0, 73 + 3, 1, 0, 74 + 3, 75 + 3, 76 + 3, 1, 77 + 3, 78 + 3, 79 + 3, 80 + 3, 81 + 3, 0, 82 + 3, 83 + 3, 0, 84 + 3, 85 + 3, 86 + 3, 87 + 3, 0, 0, 0, 88 + 3, 0, 89 + 3, 90 + 3, 91 + 3, 92 + 3, 93 + 3])) ∧ sh[71]? = some (.inl (0, 348)) ∧ sh[72]? = some (.inl (0, 348)) ∧ sh[73]? = some (.inl (0, 8)) ∧ sh[74]? = some (.inl (2, 32)) ∧ sh[75]? = some (.inl (1, 32)) ∧ sh[76]? = some (.inl (1, 32)) ∧ sh[77]? = some (.inl (0, 400)) ∧ sh[78]? = some (.inl (0, 400)) ∧ sh[79]? = some (.inl (0, 400)) ∧ sh[80]? = some (.inl (1, 33)) ∧ sh[81]? = some (.inl (0, 33)) ∧ sh[82]? = some (.inl (0, 33)) ∧ sh[83]? = some (.inl (0, 33)) ∧ sh[84]? = some (.inl (0, 33)) ∧ sh[85]? = some (.inl (0, 33)) ∧ sh[86]? = some (.inl (1, 32)) ∧ sh[87]? = some (.inl (0, 160)) ∧ sh[88]? = some (.inl (0, 800)) ∧ sh[89]? = some (.inl (0, 4)) ∧ sh[90]? = some (.inl (0, 4)) ∧ sh[91]? = some (.inl (1, 160)) ∧ sh[92]? = some (.inl (4, 160)) ∧ sh[93]? = some (.inl (0, 160))
/-- the model's columns; an error told -/
def mG (S : PSt) (j : Nat) : Int32 := S.1 71 (2 + j)
def rfM (S : PSt) (e : Nat) : PSt := pSI S 73 e (S.1 73 e + 1)
/-- contents but for what the model writes on anew -/
def frM (S T : PSt) : Prop := (∀ c, c ≠ 70 → (c < 74 ∨ c = 87 ∨ 89 ≤ c) → T.1 c = S.1 c ∧ T.2.1 c = S.2.1 c ∧ T.2.2.1 c = S.2.2.1 c ∧ T.2.2.2 c = S.2.2.2 c) ∧ T.1 70 2 = S.1 70 2 ∧ T.1 70 23 = S.1 70 23
theorem fm_rf {S : PSt} : frM S S := ⟨fun _ _ _ => ⟨rfl, rfl, rfl, rfl⟩, rfl, rfl⟩
theorem fm_tr {S T U : PSt} (h1 : frM S T) (h2 : frM T U) : frM S U := ⟨fun c a b => ⟨(h2.1 c a b).1.trans (h1.1 c a b).1, (h2.1 c a b).2.1.trans (h1.1 c a b).2.1, (h2.1 c a b).2.2.1.trans (h1.1 c a b).2.2.1, (h2.1 c a b).2.2.2.trans (h1.1 c a b).2.2.2⟩, h2.2.1.trans h1.2.1, h2.2.2.trans h1.2.2⟩
theorem fm_I {S : PSt} {k j : Nat} {v : Int32} (h : 74 ≤ k ∧ k ≤ 88 ∧ k ≠ 87) : frM S (pSI S k j v) := ⟨fun c _ hc => ⟨pU_ne (by omega), rfl, rfl, rfl⟩, by rw [show (pSI S k j v).1 70 = S.1 70 from pU_ne (by omega)], by rw [show (pSI S k j v).1 70 = S.1 70 from pU_ne (by omega)]⟩
theorem fm_I0 {S : PSt} {j : Nat} {v : Int32} (h : j ≠ 2 ∧ j ≠ 23) : frM S (pSI S 70 j v) := ⟨fun c h1 _ => ⟨pU_ne h1, rfl, rfl, rfl⟩, by simp [pSI, pU, h.1.symm], by simp [pSI, pU, h.2.symm]⟩
theorem fm_F {S : PSt} {k j : Nat} {v : UInt32} (h : 70 ≤ k ∧ k ≤ 88 ∧ k ≠ 87 ∧ (k = 70 ∨ 74 ≤ k)) : frM S (pSF S k j v) := ⟨fun c h1 hc => ⟨rfl, pU_ne (by omega), rfl, rfl⟩, rfl, rfl⟩
theorem fm_mG {S T : PSt} (h : frM S T) : mG T = mG S := by funext j; unfold mG; rw [(h.1 71 (by omega) (by omega)).1]
theorem fm_w {S T : PSt} (h : frM S T) {j : Nat} : T.1 71 j = S.1 71 j := by rw [(h.1 71 (by omega) (by omega)).1]
/-- a model's answer -/
def mA (e : POut) (S U : PSt) : Option Value → PSt → Prop := fun r T => r = some (.int (ansE e.1 e.2)) ∧ frM (if e.1 = 0 then U else rfM S e.1) T
theorem mA_ok {e : POut} {S U T : PSt} {v : Int32} (h : e = (0, v)) (hf : frM U T) : mA e S U (some (.int v)) T := by
  rw [h]
  exact ⟨rfl, hf⟩
theorem mA_no {e : POut} {S U T : PSt} {k : Nat} (h : e = (k + 1, 0)) (hf : frM (rfM S (k + 1)) T) : mA e S U (some (.int (-2147483000 - nI (k + 1)))) T := by
  rw [h]
  exact ⟨rfl, hf⟩
/-- as they may be -/
def mIv (S : PSt) (N : Nat) : Prop := S.1 71 0 = nI N ∧ N ≤ 32 ∧ okG (mG S) N ∧ okWd (S.1 71 1)
theorem q_rawF {M : PM} {d n0 : Nat} {X : Nat × (Nat → Int32)} {sh : List PSh} {P : Option Value → PSt → Prop} {pc : Nat} {L : PL} {st : List Value} {S : PSt} {idx : Nat} {x : UInt32} (hi : pLook M.2.2.2.2 pc = some (.invokestatic idx, 3)) (h1 : Cond.methodLink M.1.cls idx ⟨"java/lang/Float", "floatToRawIntBits", "(F)I"⟩ ∈ pGood) (hd : 1 ≤ d) (hcat : (st.map fun v => v.category).sum ≤ 8) (k : pV M d n0 X sh P (pc + 3) L (.int x.toInt32 :: st) S) : pV M d n0 X sh P pc L (.float x :: st) S :=
  pr_rawF hi h1 na_floatToRawIntBits st_java_lang_Float_floatToRawIntBits in_Jxf58ca hd hcat k
theorem q_rawD {M : PM} {d n0 : Nat} {X : Nat × (Nat → Int32)} {sh : List PSh} {P : Option Value → PSt → Prop} {pc : Nat} {L : PL} {st : List Value} {S : PSt} {idx : Nat} {x : UInt64} (hi : pLook M.2.2.2.2 pc = some (.invokestatic idx, 3)) (h1 : Cond.methodLink M.1.cls idx ⟨"java/lang/Double", "doubleToRawLongBits", "(D)J"⟩ ∈ pGood) (hd : 1 ≤ d) (hcat : (st.map fun v => v.category).sum ≤ 8) (k : pV M d n0 X sh P (pc + 3) L (.long x.toInt64 :: st) S) : pV M d n0 X sh P pc L (.double x :: st) S :=
  pr_rawD hi h1 na_doubleToRawLongBits st_java_lang_Double_doubleToRawLongBits in_Jxe99ae hd hcat k
theorem cmp_self {x : UInt32} (h : vf_n32 x) : Op.cmpValue (FP.fcmp x x) .l = 0 := by
  rw [show FP.fcmp x x = some (compare (fz x) (fz x)) from FP.Core.fcmp_zval (nn_ne h) (nn_ne h), FP.Core.compare_eq_iff _ _ |>.mpr rfl]; rfl
theorem dnn_ne {x : UInt64} (h : vf_n64 x) : FP.Core.val64 x ≠ .nan := (FP.Core.ne_nan x).mpr ((dnn_iff x).mp h)
theorem dcmp_self {x : UInt64} (h : vf_n64 x) : Op.cmpValue (FP.dcmp x x) .l = 0 := by
  rw [show FP.dcmp x x = some (compare (dz x) (dz x)) from FP.Core.dcmp_zval (dnn_ne h) (dnn_ne h), FP.Core.compare_eq_iff _ _ |>.mpr rfl]; rfl
/-- a is from b to c -/
def inL (a b c : Int64) : Bool := decide (b ≤ a ∧ a ≤ c)
theorem inW {a b c : Int64} {v l m : Int32} (ha : a.toInt = v.toInt) (hb : b.toInt = l.toInt) (hc : c.toInt = m.toInt) : inL a b c = pWi v l m := by
  unfold inL pWi
  exact decide_eq_decide.mpr (by rw [Int64.le_iff_toInt_le, Int64.le_iff_toInt_le, ha, hb, hc])
theorem co_w {N : Nat} {c : Int32} (hN : N ≤ 32) : pWi c 0 (nI N - 1) = isCoB N c := by
  unfold pWi isCoB
  have e : (nI N - 1).toInt = (N : Int) - 1 := pk_sub_toInt (a := N) (b := 1) (by omega) (by decide)
  rw [e]
  exact decide_eq_decide.mpr ⟨fun h => ⟨h.1, by have := h.2; omega⟩, fun h => ⟨h.1, by have := h.2; omega⟩⟩
theorem m_ix {c i : Nat} : (2 : Int32) + 5 * nI c + nI i = nI (2 + (5 * c + i)) := by
  rw [show (2 : Int32) = nI 2 from rfl, show (5 : Int32) = nI 5 from rfl, pk_mul, nI_add, nI_add, Nat.add_assoc]
theorem m_er {e : Nat} {v : Int32} (h8 : e < 8) (hv : v = -2147483000 - nI e) : -2147483000 - v = nI e := by
  rw [hv]
  exact (by decide : ∀ e, e < 8 → (-2147483000 : Int32) - (-2147483000 - nI e) = nI e) e h8
theorem and_no {α : Type} {a b : Bool} {A B : α} (h : (a && b) = false) : (if a = true then (if b = true then A else B) else B) = B := by
  cases a <;> cases b <;> first | rfl | cases h
theorem and_ok {α : Type} {a b : Bool} {A B : α} (h : (a && b) = true) : (if a = true then (if b = true then A else B) else B) = A := by
  cases a <;> cases b <;> first | rfl | cases h
theorem pSpec.ofF {M : PM} {d mc ms : Nat} {av : List Value} {X : Nat × (Nat → Int32)} {sh : List PSh} {S : PSt} {Q : PQ} (hy : plainFor M.1 = true) (hT : pTabOk M.2.1 M.2.2.2.2 = true) (ha : (pArgs av).length ≤ M.2.2.1)
    (h : pWP M d mc ms sh.length X Q 0 (pL0 M.2.2.1 av) [] 0 0 sh S) : pSpec M d mc ms av X sh S Q := by
  intro h1000 hok l D tc ad sz
  refine Free.MetFree.of_bodySF (code := M.2.1) (maxLocals := M.2.2.1) (ret := M.2.2.2.1) hy ?_ ?_
  · intro args s m h9 hn
    obtain ⟨meth, c, h1, h2, h3, h4, h5, h6, -, -⟩ := Cond.code_spec hn (atoms_spec (ws := pWs M) h9 _ List.mem_cons_self)
    exact ⟨meth, c, h1, h2, h3, h4, h5, h6⟩
  · intro p e s m args below meth c s₁ B hml hv _
    have key : W p l e (headSpec (pWs M) (pRoom d mc ms)).room s m args below meth c s.heap [] 0 0 (MQ below (pQc (va_A (pW tc ad sh S) sz) D tc ad sh.length Q) args s mc ms (va_A (pW tc ad sh S) sz)) (entryFrame m args M.2.2.1) := by
      obtain ⟨rfl, hsz, hP, hK, hD0, hO⟩ := hv
      have hts := atoms_spec (ws := pWs M) B.pre
      subst hsz
      rw [lg_entry_eq]
      have hl := lv_entry (av.map (pTr ad)) (n := M.2.2.1) (by rw [pArgs_len]; exact ha)
      have hC : pCtx M p s m (av.map (pTr ad)).toArray meth c := ⟨B.exec, B.bytes, hml, B.returns, findClass_of_methodNamed B.named, B.notSynchronized, fun hi => (name_of_methodNamed B.named B.method).1.trans hi, fun w hw => hts w (List.mem_cons_of_mem _ hw)⟩
      refine h p l e _ s m _ below meth c D tc ad (va_A (pW tc ad sh S) s.heap.size) hT hC ⟨Nat.le_refl _, Nat.le_refl _, Nat.le_refl _, Nat.le_refl _⟩ hK hO (fun q hq => Or.inr hq) ad s.heap [] _ ⟨fun _ _ => rfl, Nat.le_refl _, h1000, hok, hP, hD0.self, va_S.rf, ?_⟩
      refine ⟨hl.1, hl.2.1, fun q hq => hl.2.2 q ?_⟩
      obtain ⟨j, w⟩ := q
      obtain ⟨v, h1, rfl⟩ := pAs_mem.mp hq
      have h2 : (pArgs av)[j]? = some (some v) := by
        unfold pL0 at h1
        by_cases hj : j < (pArgs av).length
        · rw [List.getElem?_append_left hj] at h1; exact h1
        · rw [List.getElem?_append_right (by omega), List.getElem?_replicate] at h1
          split at h1 <;> cases h1
      have h3 := pArgs_in ad av 0 j v h2
      rwa [Nat.zero_add] at h3
    obtain ⟨t, a1, o, b1, b2, b3⟩ := key s₁ (by rw [B.state]; rfl) (Stand.of_body B)
    exact ⟨t, o, a1, b1, b2, ⟨b3.1, b3.2⟩⟩
theorem pG.ofF {M : PM} {d : Nat} {av : List Value} {sh : List PSh} {S : PSt} {P : Option Value → PSt → Prop} (L0 : PL) (hy : plainFor M.1 = true) (hT : pTabOk M.2.1 M.2.2.2.2 = true) (ha : (pArgs av).length ≤ M.2.2.1) (hL : pL0 M.2.2.1 av = L0)
    (h : ∀ X, pV M d sh.length X sh P 0 L0 [] S) : pG M d av sh S P := fun X => pSpec.ofF hy hT ha (by rw [hL]; exact h X)
set_option maxRecDepth 100000 in
theorem sp_isNaNF {sh : List PSh} {S : PSt} {x : UInt32} (hx : vf_n32 x) : pF mJxf58ca_isNaN_12338 0 [.float x] sh S S (some (.int 0)) := by
  refine pF.of (pG.ofF [some (.float x)] (by decide +kernel) tk_Jxf58ca_isNaN_12338 (Nat.le_of_ble_eq_true rfl) rfl (fun X => ?_))
  refine q_fload_n (pc := 0) (j := 0) rfl rfl ?_
  refine q_fload_n (pc := 1) (j := 0) rfl rfl ?_
  refine q_fcmp (pc := 2) (op := .l) rfl ?_
  refine q_if_eq (pc := 3) 10 rfl (by decide) (fun _ => ?_) (fun h9 => absurd (cmp_self hx) h9)
  refine q_iconst (pc := 10) 0 rfl (by decide) ?_
  exact q_zret (pc := 11) rfl rfl rfl ⟨rfl, rfl⟩
set_option maxRecDepth 100000 in
theorem sp_fbits {sh : List PSh} {S : PSt} {x : UInt32} (hx : vf_n32 x) : pF mJxf58ca_floatToIntBits_5c35a 1 [.float x] sh S S (some (.int x.toInt32)) := by
  refine pF.of (pG.ofF [some (.float x)] (by decide +kernel) tk_Jxf58ca_floatToIntBits_5c35a (Nat.le_of_ble_eq_true rfl) rfl (fun X => ?_))
  refine q_fload_n (pc := 0) (j := 0) rfl rfl ?_
  refine q_callS (pc := 1) (as := [.float x]) (rest := []) (st2 := [.int 0]) rfl ce_Jxf58ca_isNaN_12338 ml_Jxf58ca_59 st_Jxf58ca_isNaN_12338 rfl (by decide) (Nat.le_of_ble_eq_true rfl) (sp_isNaNF hx) rfl ?_
  refine q_if_ne (pc := 4) 12 rfl (by decide) (fun h9 => absurd h9 (by decide : ¬ ¬ (0 : Int32) = 0)) (fun _ => ?_)
  refine q_fload_n (pc := 7) (j := 0) rfl rfl ?_
  refine q_rawF (pc := 8) rfl ml_Jxf58ca_74 (by decide) (Nat.le_of_ble_eq_true rfl) ?_
  exact q_iret (pc := 11) rfl rfl ⟨rfl, rfl⟩
set_option maxRecDepth 100000 in
theorem sp_isNaND {sh : List PSh} {S : PSt} {x : UInt64} (hx : vf_n64 x) : pF mJxe99ae_isNaN_b9ae7 0 [.double x] sh S S (some (.int 0)) := by
  refine pF.of (pG.of [some (.double x), none] (by decide) tk_Jxe99ae_isNaN_b9ae7 (Nat.le_of_ble_eq_true rfl) rfl (fun X => ?_))
  refine q_dload_n (pc := 0) (j := 0) rfl rfl ?_
  refine q_dload_n (pc := 1) (j := 0) rfl rfl ?_
  refine q_dcmp (pc := 2) (op := .l) rfl ?_
  refine q_if_eq (pc := 3) 10 rfl (by decide) (fun _ => ?_) (fun h9 => absurd (dcmp_self hx) h9)
  refine q_iconst (pc := 10) 0 rfl (by decide) ?_
  exact q_zret (pc := 11) rfl rfl rfl ⟨rfl, rfl⟩
set_option maxRecDepth 100000 in
theorem sp_dbits {sh : List PSh} {S : PSt} {x : UInt64} (hx : vf_n64 x) : pF mJxe99ae_doubleToLongBits_ccdee 1 [.double x] sh S S (some (.long x.toInt64)) := by
  refine pF.of (pG.of [some (.double x), none] (by decide) tk_Jxe99ae_doubleToLongBits_ccdee (Nat.le_of_ble_eq_true rfl) rfl (fun X => ?_))
  refine q_dload_n (pc := 0) (j := 0) rfl rfl ?_
  refine q_callS (pc := 1) (as := [.double x]) (rest := []) (st2 := [.int 0]) rfl ce_Jxe99ae_isNaN_b9ae7 ml_Jxe99ae_122 st_Jxe99ae_isNaN_b9ae7 rfl (by decide) (Nat.le_of_ble_eq_true rfl) (sp_isNaND hx) rfl ?_
  refine q_if_ne (pc := 4) 12 rfl (by decide) (fun h9 => absurd h9 (by decide : ¬ ¬ (0 : Int32) = 0)) (fun _ => ?_)
  refine q_dload_n (pc := 7) (j := 0) rfl rfl ?_
  refine q_rawD (pc := 8) rfl ml_Jxe99ae_134 (by decide) (Nat.le_of_ble_eq_true rfl) ?_
  exact q_lret (pc := 11) rfl rfl ⟨rfl, rfl⟩
set_option maxRecDepth 100000 in
theorem sp_X9_in {sh : List PSh} {S : PSt} {a b c : Int64} : pF mX9_in 0 [.long a, .long b, .long c] sh S S (some (.int (pB (inL a b c)))) := by
  refine pF.of (pG.of [some (.long a), none, some (.long b), none, some (.long c), none] (by decide) tk_X9_in (Nat.le_of_ble_eq_true rfl) rfl (fun X => ?_))
  refine q_lload_n (pc := 0) (j := 0) rfl rfl ?_
  refine q_lload_n (pc := 1) (j := 2) rfl rfl ?_
  refine q_lcmp (pc := 2) rfl ?_
  refine q_if_lt (pc := 3) 17 rfl (by decide) (fun h3 => ?_) (fun h3 => ?_)
  · refine q_iconst (pc := 17) 0 rfl (by decide) ?_
    exact q_zret (pc := 18) rfl rfl rfl ⟨congrArg (fun v => some (Value.int v)) (by first | (rw [inL, decide_eq_true ⟨Int64.not_lt.mp (fun q9 => h3 ((lg_cmp_lt _ _).mpr q9)), Int64.not_lt.mp (fun q9 => h10 ((lg_cmp_gt _ _).mpr q9))⟩]; rfl) | (rw [inL, decide_eq_false (fun q9 => absurd q9.1 (Int64.not_le.mpr ((lg_cmp_lt _ _).mp h3)))]; rfl) | (rw [inL, decide_eq_false (fun q9 => absurd q9.2 (Int64.not_le.mpr ((lg_cmp_gt _ _).mp h10)))]; rfl)), rfl⟩
  · refine q_lload_n (pc := 6) (j := 0) rfl rfl ?_
    refine q_lload (pc := 7) (j := 4) rfl rfl ?_
    refine q_lcmp (pc := 9) rfl ?_
    refine q_if_gt (pc := 10) 17 rfl (by decide) (fun h10 => ?_) (fun h10 => ?_)
    · refine q_iconst (pc := 17) 0 rfl (by decide) ?_
      exact q_zret (pc := 18) rfl rfl rfl ⟨congrArg (fun v => some (Value.int v)) (by first | (rw [inL, decide_eq_true ⟨Int64.not_lt.mp (fun q9 => h3 ((lg_cmp_lt _ _).mpr q9)), Int64.not_lt.mp (fun q9 => h10 ((lg_cmp_gt _ _).mpr q9))⟩]; rfl) | (rw [inL, decide_eq_false (fun q9 => absurd q9.1 (Int64.not_le.mpr ((lg_cmp_lt _ _).mp h3)))]; rfl) | (rw [inL, decide_eq_false (fun q9 => absurd q9.2 (Int64.not_le.mpr ((lg_cmp_gt _ _).mp h10)))]; rfl)), rfl⟩
    · refine q_iconst (pc := 13) 1 rfl (by decide) ?_
      refine q_goto (pc := 14) 18 rfl (by decide) ?_
      exact q_zret (pc := 18) rfl rfl rfl ⟨congrArg (fun v => some (Value.int v)) (by first | (rw [inL, decide_eq_true ⟨Int64.not_lt.mp (fun q9 => h3 ((lg_cmp_lt _ _).mpr q9)), Int64.not_lt.mp (fun q9 => h10 ((lg_cmp_gt _ _).mpr q9))⟩]; rfl) | (rw [inL, decide_eq_false (fun q9 => absurd q9.1 (Int64.not_le.mpr ((lg_cmp_lt _ _).mp h3)))]; rfl) | (rw [inL, decide_eq_false (fun q9 => absurd q9.2 (Int64.not_le.mpr ((lg_cmp_gt _ _).mp h10)))]; rfl)), rfl⟩
theorem sp_X9_inW {sh : List PSh} {S : PSt} {a b c : Int64} {v l m : Int32} (ha : a.toInt = v.toInt) (hb : b.toInt = l.toInt) (hc : c.toInt = m.toInt) : pF mX9_in 0 [.long a, .long b, .long c] sh S S (some (.int (pB (pWi v l m)))) := by
  rw [← inW ha hb hc]
  exact sp_X9_in
set_option maxRecDepth 100000 in
theorem sp_X9_errs {sh : List PSh} {S : PSt} (hm : isMo sh) {e : Nat} {v : Int32} (h8 : e < 8) (hv : v = -2147483000 - nI e) : pF mX9_errs 0 [.ref 70, .int v] sh S (rfM S e) (some (.int (-2147483000 - nI e))) := by
  refine pF.of (pG.of [some (.ref 70), some (.int v)] (by decide) tk_X9_errs (Nat.le_of_ble_eq_true rfl) rfl (fun X => ?_))
  refine q_aload_n (pc := 0) (j := 0) rfl rfl ?_
  refine q_get (pc := 1) (a := 70) (v := .ref 73) rfl fl_X9_16 hm.1 rfl rfl ?_
  refine q_ldc (pc := 4) (v := (-2147483000)) rfl kc_X9_82 ?_
  refine q_iload_n (pc := 6) (j := 1) rfl rfl ?_
  refine q_isub (pc := 7) rfl ?_
  refine q_st (st2 := [.int (nI e), .ref 73]) (by rw [m_er h8 hv]) ?_
  refine q_dup2 (pc := 8) rfl rfl rfl ?_
  refine q_iald (pc := 9) (a := 73) e rfl hm.2.2.2.1 (vp_in_nI (by omega) (by decide)) (nI_clamp (by omega)) ?_
  refine q_iconst (pc := 10) 1 rfl (by decide) ?_
  refine q_iadd (pc := 11) rfl ?_
  refine q_iast (pc := 12) (a := 73) e rfl hm.2.2.2.1 (vp_in_nI (by omega) (by decide)) (nI_clamp (by omega)) ?_
  refine q_iload_n (pc := 13) (j := 1) rfl rfl ?_
  exact q_iret (pc := 14) rfl rfl ⟨congrArg (fun v => some (Value.int v)) hv, rfl⟩
set_option maxRecDepth 100000 in
theorem sp_X9_errsLong {sh : List PSh} {S : PSt} (hm : isMo sh) {e : Nat} {v : Int32} (h8 : e < 8) (hv : v = -2147483000 - nI e) (hw : -9000000000000000000 + (v - -2147483000).toInt64 = -9000000000000000000 - (nI e).toInt64) : pF mX9_errsLong 0 [.ref 70, .int v] sh S (rfM S e) (some (.long (-9000000000000000000 - (nI e).toInt64))) := by
  refine pF.of (pG.of [some (.ref 70), some (.int v)] (by decide) tk_X9_errsLong (Nat.le_of_ble_eq_true rfl) rfl (fun X => ?_))
  refine q_aload_n (pc := 0) (j := 0) rfl rfl ?_
  refine q_get (pc := 1) (a := 70) (v := .ref 73) rfl fl_X9_16 hm.1 rfl rfl ?_
  refine q_ldc (pc := 4) (v := (-2147483000)) rfl kc_X9_82 ?_
  refine q_iload_n (pc := 6) (j := 1) rfl rfl ?_
  refine q_isub (pc := 7) rfl ?_
  refine q_st (st2 := [.int (nI e), .ref 73]) (by rw [m_er h8 hv]) ?_
  refine q_dup2 (pc := 8) rfl rfl rfl ?_
  refine q_iald (pc := 9) (a := 73) e rfl hm.2.2.2.1 (vp_in_nI (by omega) (by decide)) (nI_clamp (by omega)) ?_
  refine q_iconst (pc := 10) 1 rfl (by decide) ?_
  refine q_iadd (pc := 11) rfl ?_
  refine q_iast (pc := 12) (a := 73) e rfl hm.2.2.2.1 (vp_in_nI (by omega) (by decide)) (nI_clamp (by omega)) ?_
  refine q_ldc2 (pc := 13) (v := (-9000000000000000000)) rfl kc_X9_83 ?_
  refine q_iload_n (pc := 16) (j := 1) rfl rfl ?_
  refine q_ldc (pc := 17) (v := (-2147483000)) rfl kc_X9_82 ?_
  refine q_isub (pc := 19) rfl ?_
  refine q_i2l (pc := 20) rfl ?_
  refine q_ladd (pc := 21) rfl ?_
  exact q_lret (pc := 22) rfl rfl ⟨congrArg (fun v => some (Value.long v)) hw, rfl⟩
set_option maxRecDepth 100000 in
theorem sp_X9_its {sh : List PSh} {S : PSt} (hm : isMo sh) {c i : Nat} (hc : c < 32) (hi : i < 5) : pF mX9_its 0 [.ref 70, .int (nI c), .int (nI i)] sh S S (some (.int (mG S (5 * c + i)))) := by
  refine pF.of (pG.of [some (.ref 70), some (.int (nI c)), some (.int (nI i))] (by decide) tk_X9_its (Nat.le_of_ble_eq_true rfl) rfl (fun X => ?_))
  refine q_aload_n (pc := 0) (j := 0) rfl rfl ?_
  refine q_get (pc := 1) (a := 70) (v := .ref 71) rfl fl_X9_9 hm.1 rfl rfl ?_
  refine q_iconst (pc := 4) 2 rfl (by decide) ?_
  refine q_iconst (pc := 5) 5 rfl (by decide) ?_
  refine q_iload_n (pc := 6) (j := 1) rfl rfl ?_
  refine q_imul (pc := 7) rfl ?_
  refine q_iadd (pc := 8) rfl ?_
  refine q_iload_n (pc := 9) (j := 2) rfl rfl ?_
  refine q_iadd (pc := 10) rfl ?_
  refine q_st (st2 := [.int (nI (2 + (5 * c + i))), .ref 71]) (by rw [m_ix]) ?_
  refine q_iald (pc := 11) (a := 71) (2 + (5 * c + i)) rfl hm.2.1 (vp_in_nI (by omega) (by decide)) (nI_clamp (by omega)) ?_
  exact q_iret (pc := 12) rfl rfl ⟨rfl, rfl⟩
set_option maxRecDepth 100000 in
theorem sp_X9_sets {sh : List PSh} {S : PSt} (hm : isMo sh) {c i : Nat} {v : Int32} (hc : c < 32) (hi : i < 5) : pF mX9_sets 0 [.ref 70, .int (nI c), .int (nI i), .int v] sh S (pSI S 71 (2 + (5 * c + i)) v) (none) := by
  refine pF.of (pG.of [some (.ref 70), some (.int (nI c)), some (.int (nI i)), some (.int v)] (by decide) tk_X9_sets (Nat.le_of_ble_eq_true rfl) rfl (fun X => ?_))
  refine q_aload_n (pc := 0) (j := 0) rfl rfl ?_
  refine q_get (pc := 1) (a := 70) (v := .ref 71) rfl fl_X9_9 hm.1 rfl rfl ?_
  refine q_iconst (pc := 4) 2 rfl (by decide) ?_
  refine q_iconst (pc := 5) 5 rfl (by decide) ?_
  refine q_iload_n (pc := 6) (j := 1) rfl rfl ?_
  refine q_imul (pc := 7) rfl ?_
  refine q_iadd (pc := 8) rfl ?_
  refine q_iload_n (pc := 9) (j := 2) rfl rfl ?_
  refine q_iadd (pc := 10) rfl ?_
  refine q_st (st2 := [.int (nI (2 + (5 * c + i))), .ref 71]) (by rw [m_ix]) ?_
  refine q_iload_n (pc := 11) (j := 3) rfl rfl ?_
  refine q_iast (pc := 12) (a := 71) (2 + (5 * c + i)) rfl hm.2.1 (vp_in_nI (by omega) (by decide)) (nI_clamp (by omega)) ?_
  exact q_vret (pc := 13) rfl rfl ⟨rfl, rfl⟩
set_option maxRecDepth 100000 in
theorem sp_X9_isColumn {sh : List PSh} {S : PSt} {N : Nat} (hm : isMo sh) (hN : S.1 71 0 = nI N) (hN2 : N ≤ 32) {c : Int32} : pF mX9_isColumn 1 [.ref 70, .int c] sh S S (some (.int (pB (isCoB N c)))) := by
  refine pF.of (pG.of [some (.ref 70), some (.int c)] (by decide) tk_X9_isColumn (Nat.le_of_ble_eq_true rfl) rfl (fun X => ?_))
  refine q_iload_n (pc := 0) (j := 1) rfl rfl ?_
  refine q_i2l (pc := 1) rfl ?_
  refine q_lconst (pc := 2) 0 rfl (by decide) ?_
  refine q_aload_n (pc := 3) (j := 0) rfl rfl ?_
  refine q_get (pc := 4) (a := 70) (v := .ref 71) rfl fl_X9_9 hm.1 rfl rfl ?_
  refine q_iconst (pc := 7) 0 rfl (by decide) ?_
  refine q_iald (pc := 8) (a := 71) 0 rfl hm.2.1 (vp_in_nI (n := 0) (by decide) (by decide)) rfl ?_
  refine q_st (st2 := [.int (nI N), .long 0, .long (c.toInt64)]) (by rw [(show (S.1 71 0) = nI N from hN)]) ?_
  refine q_iconst (pc := 9) 1 rfl (by decide) ?_
  refine q_isub (pc := 10) rfl ?_
  refine q_i2l (pc := 11) rfl ?_
  refine q_callS (pc := 12) (as := [.long (c.toInt64), .long 0, .long (((nI N) - 1).toInt64)]) (rest := []) (st2 := [.int (pB (pWi c 0 ((nI N) - 1)))]) rfl ce_X9_in ml_X9_85 st_X9_in rfl (by decide) (Nat.le_of_ble_eq_true rfl) (sp_X9_inW (v := c) (l := 0) (m := ((nI N) - 1)) (Int32.toInt_toInt64 _) (by decide) (Int32.toInt_toInt64 _)) rfl ?_
  exact q_zret (pc := 15) rfl rfl (pB_nar _) ⟨congrArg (fun v => some (Value.int v)) (by rw [co_w hN2]), rfl⟩
set_option maxRecDepth 100000 in
theorem sp_X9_isStretch {sh : List PSh} {S : PSt} {N : Nat} (hm : isMo sh) (hN : S.1 71 0 = nI N) (hN2 : N ≤ 32) {a b : Int32} : pF mX9_isStretch 0 [.ref 70, .int a, .int b] sh S S (some (.int (pB (isStB N a b)))) := by
  refine pF.of (pG.of [some (.ref 70), some (.int a), some (.int b)] (by decide) tk_X9_isStretch (Nat.le_of_ble_eq_true rfl) rfl (fun X => ?_))
  refine q_iload_n (pc := 0) (j := 1) rfl rfl ?_
  refine q_if_lt (pc := 1) 23 rfl (by decide) (fun h1 => ?_) (fun h1 => ?_)
  · refine q_iconst (pc := 23) 0 rfl (by decide) ?_
    exact q_zret (pc := 24) rfl rfl rfl ⟨congrArg (fun v => some (Value.int v)) (by first | exact st_a h1 | exact st_b h6 | exact st_c hN2 h16 | exact st_d hN2 h1 h6 h16), rfl⟩
  · refine q_iload_n (pc := 4) (j := 1) rfl rfl ?_
    refine q_iload_n (pc := 5) (j := 2) rfl rfl ?_
    refine q_icmp_gt (pc := 6) 23 rfl (by decide) (fun h6 => ?_) (fun h6 => ?_)
    · refine q_iconst (pc := 23) 0 rfl (by decide) ?_
      exact q_zret (pc := 24) rfl rfl rfl ⟨congrArg (fun v => some (Value.int v)) (by first | exact st_a h1 | exact st_b h6 | exact st_c hN2 h16 | exact st_d hN2 h1 h6 h16), rfl⟩
    · refine q_iload_n (pc := 9) (j := 2) rfl rfl ?_
      refine q_aload_n (pc := 10) (j := 0) rfl rfl ?_
      refine q_get (pc := 11) (a := 70) (v := .ref 71) rfl fl_X9_9 hm.1 rfl rfl ?_
      refine q_iconst (pc := 14) 0 rfl (by decide) ?_
      refine q_iald (pc := 15) (a := 71) 0 rfl hm.2.1 (vp_in_nI (n := 0) (by decide) (by decide)) rfl ?_
      refine q_st (st2 := [.int (nI N), .int b]) (by rw [(show (S.1 71 0) = nI N from hN)]) ?_
      refine q_icmp_ge (pc := 16) 23 rfl (by decide) (fun h16 => ?_) (fun h16 => ?_)
      · refine q_iconst (pc := 23) 0 rfl (by decide) ?_
        exact q_zret (pc := 24) rfl rfl rfl ⟨congrArg (fun v => some (Value.int v)) (by first | exact st_a h1 | exact st_b h6 | exact st_c hN2 h16 | exact st_d hN2 h1 h6 h16), rfl⟩
      · refine q_iconst (pc := 19) 1 rfl (by decide) ?_
        refine q_goto (pc := 20) 24 rfl (by decide) ?_
        exact q_zret (pc := 24) rfl rfl rfl ⟨congrArg (fun v => some (Value.int v)) (by first | exact st_a h1 | exact st_b h6 | exact st_c hN2 h16 | exact st_d hN2 h1 h6 h16), rfl⟩
theorem sw_out5 {x : Int32} (h0 : ¬ x = 0) (h1 : ¬ x = 1) (h2 : ¬ x = 2) (h3 : ¬ x = 3) (h4 : ¬ x = 4) : x.toInt < 0 ∨ 4 < x.toInt := by
  have a0 : x.toInt ≠ 0 := fun q => h0 (Int32.toInt_inj.mp (by rw [q]; rfl))
  have a1 : x.toInt ≠ 1 := fun q => h1 (Int32.toInt_inj.mp (by rw [q]; rfl))
  have a2 : x.toInt ≠ 2 := fun q => h2 (Int32.toInt_inj.mp (by rw [q]; rfl))
  have a3 : x.toInt ≠ 3 := fun q => h3 (Int32.toInt_inj.mp (by rw [q]; rfl))
  have a4 : x.toInt ≠ 4 := fun q => h4 (Int32.toInt_inj.mp (by rw [q]; rfl))
  omega
theorem may_out {x v : Int32} (h0 : ¬ x = 0) (h1 : ¬ x = 1) (h2 : ¬ x = 2) (h3 : ¬ x = 3) (h4 : ¬ x = 4) : 0 = pB (pWi x 0 4 && pAl x v) := by
  have h := sw_out5 h0 h1 h2 h3 h4
  rw [show pWi x 0 4 = false from decide_eq_false (fun q => by
    have e0 : (0 : Int32).toInt = 0 := rfl
    have e4 : (4 : Int32).toInt = 4 := rfl
    omega)]
  rfl
set_option maxRecDepth 100000 in
theorem sp_X9_mayBe {sh : List PSh} {S : PSt} {x v : Int32} : pF mX9_mayBe 1 [.int x, .int v] sh S S (some (.int (pB (pWi x 0 4 && pAl x v)))) := by
  refine pF.of (pG.of [some (.int x), some (.int v)] (by decide) tk_X9_mayBe (Nat.le_of_ble_eq_true rfl) rfl (fun X => ?_))
  refine q_iload_n (pc := 0) (j := 0) rfl rfl ?_
  rcases Classical.em (x = (0 : Int32)) with hc1_0 | hc1_0
  · refine q_tableIn (pc := 1) (off := 35) 36 rfl (by rw [hc1_0]; decide) (by rw [hc1_0]; decide) (by rw [hc1_0]; decide) (by decide) ?_
    refine q_iload_n (pc := 36) (j := 1) rfl rfl ?_
    refine q_i2l (pc := 37) rfl ?_
    refine q_lconst (pc := 38) 0 rfl (by decide) ?_
    refine q_ldc2 (pc := 39) (v := 2) rfl kc_X9_89 ?_
    refine q_callS (pc := 42) (as := [.long (v.toInt64), .long 0, .long 2]) (rest := []) (st2 := [.int (pB (pWi v 0 2))]) rfl ce_X9_in ml_X9_85 st_X9_in rfl (by decide) (Nat.le_of_ble_eq_true rfl) (sp_X9_inW (v := v) (l := 0) (m := 2) (Int32.toInt_toInt64 _) (by decide) (by decide)) rfl ?_
    exact q_zret (pc := 45) rfl rfl (pB_nar _) ⟨congrArg (fun v => some (Value.int v)) (by first | exact may_out hc1_0 hc1_1 hc1_2 hc1_3 hc1_4 | (rw [hc1_0]; rfl)), rfl⟩
  · skip
    rcases Classical.em (x = (1 : Int32)) with hc1_1 | hc1_1
    · refine q_tableIn (pc := 1) (off := 45) 46 rfl (by rw [hc1_1]; decide) (by rw [hc1_1]; decide) (by rw [hc1_1]; decide) (by decide) ?_
      refine q_iload_n (pc := 46) (j := 1) rfl rfl ?_
      refine q_i2l (pc := 47) rfl ?_
      refine q_lconst (pc := 48) 1 rfl (by decide) ?_
      refine q_ldc2 (pc := 49) (v := 64) rfl kc_X9_91 ?_
      refine q_callS (pc := 52) (as := [.long (v.toInt64), .long 1, .long 64]) (rest := []) (st2 := [.int (pB (pWi v 1 64))]) rfl ce_X9_in ml_X9_85 st_X9_in rfl (by decide) (Nat.le_of_ble_eq_true rfl) (sp_X9_inW (v := v) (l := 1) (m := 64) (Int32.toInt_toInt64 _) (by decide) (by decide)) rfl ?_
      exact q_zret (pc := 55) rfl rfl (pB_nar _) ⟨congrArg (fun v => some (Value.int v)) (by first | exact may_out hc1_0 hc1_1 hc1_2 hc1_3 hc1_4 | (rw [hc1_1]; rfl)), rfl⟩
    · skip
      rcases Classical.em (x = (2 : Int32)) with hc1_2 | hc1_2
      · refine q_tableIn (pc := 1) (off := 55) 56 rfl (by rw [hc1_2]; decide) (by rw [hc1_2]; decide) (by rw [hc1_2]; decide) (by decide) ?_
        refine q_iload_n (pc := 56) (j := 1) rfl rfl ?_
        refine q_i2l (pc := 57) rfl ?_
        refine q_ldc2 (pc := 58) (v := (-12)) rfl kc_X9_93 ?_
        refine q_ldc2 (pc := 61) (v := 20) rfl kc_X9_95 ?_
        refine q_callS (pc := 64) (as := [.long (v.toInt64), .long (-12), .long 20]) (rest := []) (st2 := [.int (pB (pWi v (-12) 20))]) rfl ce_X9_in ml_X9_85 st_X9_in rfl (by decide) (Nat.le_of_ble_eq_true rfl) (sp_X9_inW (v := v) (l := (-12)) (m := 20) (Int32.toInt_toInt64 _) (by decide) (by decide)) rfl ?_
        exact q_zret (pc := 67) rfl rfl (pB_nar _) ⟨congrArg (fun v => some (Value.int v)) (by first | exact may_out hc1_0 hc1_1 hc1_2 hc1_3 hc1_4 | (rw [hc1_2]; rfl)), rfl⟩
      · skip
        rcases Classical.em (x = (3 : Int32)) with hc1_3 | hc1_3
        · refine q_tableIn (pc := 1) (off := 67) 68 rfl (by rw [hc1_3]; decide) (by rw [hc1_3]; decide) (by rw [hc1_3]; decide) (by decide) ?_
          refine q_iload_n (pc := 68) (j := 1) rfl rfl ?_
          refine q_i2l (pc := 69) rfl ?_
          refine q_lconst (pc := 70) 1 rfl (by decide) ?_
          refine q_ldc2 (pc := 71) (v := 12) rfl kc_X9_97 ?_
          refine q_callS (pc := 74) (as := [.long (v.toInt64), .long 1, .long 12]) (rest := []) (st2 := [.int (pB (pWi v 1 12))]) rfl ce_X9_in ml_X9_85 st_X9_in rfl (by decide) (Nat.le_of_ble_eq_true rfl) (sp_X9_inW (v := v) (l := 1) (m := 12) (Int32.toInt_toInt64 _) (by decide) (by decide)) rfl ?_
          exact q_zret (pc := 77) rfl rfl (pB_nar _) ⟨congrArg (fun v => some (Value.int v)) (by first | exact may_out hc1_0 hc1_1 hc1_2 hc1_3 hc1_4 | (rw [hc1_3]; rfl)), rfl⟩
        · skip
          rcases Classical.em (x = (4 : Int32)) with hc1_4 | hc1_4
          · refine q_tableIn (pc := 1) (off := 77) 78 rfl (by rw [hc1_4]; decide) (by rw [hc1_4]; decide) (by rw [hc1_4]; decide) (by decide) ?_
            refine q_iload_n (pc := 78) (j := 1) rfl rfl ?_
            refine q_i2l (pc := 79) rfl ?_
            refine q_lconst (pc := 80) 0 rfl (by decide) ?_
            refine q_ldc2 (pc := 81) (v := 9) rfl kc_X9_99 ?_
            refine q_callS (pc := 84) (as := [.long (v.toInt64), .long 0, .long 9]) (rest := []) (st2 := [.int (pB (pWi v 0 9))]) rfl ce_X9_in ml_X9_85 st_X9_in rfl (by decide) (Nat.le_of_ble_eq_true rfl) (sp_X9_inW (v := v) (l := 0) (m := 9) (Int32.toInt_toInt64 _) (by decide) (by decide)) rfl ?_
            exact q_zret (pc := 87) rfl rfl (pB_nar _) ⟨congrArg (fun v => some (Value.int v)) (by first | exact may_out hc1_0 hc1_1 hc1_2 hc1_3 hc1_4 | (rw [hc1_4]; rfl)), rfl⟩
          · skip
            refine q_tableOut (pc := 1) 88 rfl (sw_out5 hc1_0 hc1_1 hc1_2 hc1_3 hc1_4) (by decide) ?_
            refine q_iconst (pc := 88) 0 rfl (by decide) ?_
            exact q_zret (pc := 89) rfl rfl rfl ⟨congrArg (fun v => some (Value.int v)) (by first | exact may_out hc1_0 hc1_1 hc1_2 hc1_3 hc1_4 | (rw [hc1_0]; rfl)), rfl⟩
theorem sp_X9_mayBeL {sh : List PSh} {S : PSt} {x v : Int32} (hx : pWi x 0 4 = true) : pF mX9_mayBe 1 [.int x, .int v] sh S S (some (.int (pB (pAl x v)))) := by
  have h := sp_X9_mayBe (sh := sh) (S := S) (x := x) (v := v)
  rw [hx, Bool.true_and] at h
  exact h
