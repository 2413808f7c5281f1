/-! the library's methods that the law calls: bits of floats, absolute values, the lesser of two floats, a text's length and letters -/
theorem q_rawF {M : PM} {d n0 : Nat} {X : Nat × (Nat → Int32)} {sh : List PSh} {P : Option Value → PSt → Prop} {pc : Nat} {L : PL} {st : List Value} {S : PSt} {idx : Nat} {x : UInt32} (hi : pLook M.2.2.2.2 pc = some (.invokestatic idx, 3)) (h1 : Cond.methodLink M.1.cls idx ⟨"java/lang/Float", "floatToRawIntBits", "(F)I"⟩ ∈ pGood) (hd : 1 ≤ d) (hcat : (st.map fun v => v.category).sum ≤ 8) (k : pV M d n0 X sh P (pc + 3) L (.int x.toInt32 :: st) S) : pV M d n0 X sh P pc L (.float x :: st) S :=
  pr_rawF hi h1 na_floatToRawIntBits st_java_lang_Float_floatToRawIntBits in_Jxf58ca hd hcat k
theorem q_i2fc {M : PM} {d n0 : Nat} {X : Nat × (Nat → Int32)} {sh : List PSh} {P : Option Value → PSt → Prop} {pc : Nat} {L : PL} {st : List Value} {S : PSt} {idx : Nat} {b : Int32} (hi : pLook M.2.2.2.2 pc = some (.invokestatic idx, 3)) (h1 : Cond.methodLink M.1.cls idx ⟨"java/lang/Float", "intBitsToFloat", "(I)F"⟩ ∈ pGood) (hd : 1 ≤ d) (hcat : (st.map fun v => v.category).sum ≤ 8) (hb : vn_sni2f b = false) (k : pV M d n0 X sh P (pc + 3) L (.float b.toUInt32 :: st) S) : pV M d n0 X sh P pc L (.int b :: st) S :=
  q_i2fb hi h1 na_intBitsToFloat st_java_lang_Float_intBitsToFloat in_Jxf58ca hd hcat hb k
theorem cmp_self {x : UInt32} (h : vf_n32 x) : Op.cmpValue (FP.fcmp x x) .l = 0 := by
  rw [show FP.fcmp x x = some (compare (fz x) (fz x)) from FP.Core.fcmp_zval (nn_ne h) (nn_ne h), FP.Core.compare_eq_iff _ _ |>.mpr rfl]; rfl
theorem pSpec.ofF {M : PM} {d mc ms : Nat} {av : List Value} {X : Nat × (Nat → Int32)} {sh : List PSh} {S : PSt} {Q : PQ} (hy : plainFor M.1 = true) (hT : pTabOk M.2.1 M.2.2.2.2 = true) (ha : (pArgs av).length ≤ M.2.2.1)
    (h : pWP M d mc ms sh.length X Q 0 (pL0 M.2.2.1 av) [] 0 0 sh S) : pSpec M d mc ms av X sh S Q := by
  intro h1000 hok l D tc ad sz
  refine Free.MetFree.of_bodySF (code := M.2.1) (maxLocals := M.2.2.1) (ret := M.2.2.2.1) hy ?_ ?_
  · intro args s m h9 hn
    obtain ⟨meth, c, h1, h2, h3, h4, h5, h6, -, -⟩ := Cond.code_spec hn (atoms_spec (ws := pWs M) h9 _ List.mem_cons_self)
    exact ⟨meth, c, h1, h2, h3, h4, h5, h6⟩
  · intro p e s m args below meth c s₁ B hml hv _
    have key : W p l e (headSpec (pWs M) (pRoom d mc ms)).room s m args below meth c s.heap [] 0 0 (MQ below (pQc (va_A (pW tc ad sh S) sz) D tc ad sh.length Q) args s mc ms (va_A (pW tc ad sh S) sz)) (entryFrame m args M.2.2.1) := by
      obtain ⟨rfl, hsz, hP, hK, hD0, hO⟩ := hv
      have hts := atoms_spec (ws := pWs M) B.pre
      subst hsz
      rw [lg_entry_eq]
      have hl := lv_entry (av.map (pTr ad)) (n := M.2.2.1) (by rw [pArgs_len]; exact ha)
      have hC : pCtx M p s m (av.map (pTr ad)).toArray meth c := ⟨B.exec, B.bytes, hml, B.returns, findClass_of_methodNamed B.named, B.notSynchronized, fun hi => (name_of_methodNamed B.named B.method).1.trans hi, fun w hw => hts w (List.mem_cons_of_mem _ hw)⟩
      refine h p l e _ s m _ below meth c D tc ad (va_A (pW tc ad sh S) s.heap.size) hT hC ⟨Nat.le_refl _, Nat.le_refl _, Nat.le_refl _, Nat.le_refl _⟩ hK hO (fun q hq => Or.inr hq) ad s.heap [] _ ⟨fun _ _ => rfl, Nat.le_refl _, h1000, hok, hP, hD0.self, va_S.rf, ?_⟩
      refine ⟨hl.1, hl.2.1, fun q hq => hl.2.2 q ?_⟩
      obtain ⟨j, w⟩ := q
      obtain ⟨v, h1, rfl⟩ := pAs_mem.mp hq
      have h2 : (pArgs av)[j]? = some (some v) := by
        unfold pL0 at h1
        by_cases hj : j < (pArgs av).length
        · rw [List.getElem?_append_left hj] at h1; exact h1
        · rw [List.getElem?_append_right (by omega), List.getElem?_replicate] at h1
          split at h1 <;> cases h1
      have h3 := pArgs_in ad av 0 j v h2
      rwa [Nat.zero_add] at h3
    obtain ⟨t, a1, o, b1, b2, b3⟩ := key s₁ (by rw [B.state]; rfl) (Stand.of_body B)
    exact ⟨t, o, a1, b1, b2, ⟨b3.1, b3.2⟩⟩
theorem pG.ofF {M : PM} {d : Nat} {av : List Value} {sh : List PSh} {S : PSt} {P : Option Value → PSt → Prop} (L0 : PL) (hy : plainFor M.1 = true) (hT : pTabOk M.2.1 M.2.2.2.2 = true) (ha : (pArgs av).length ≤ M.2.2.1) (hL : pL0 M.2.2.1 av = L0)
    (h : ∀ X, pV M d sh.length X sh P 0 L0 [] S) : pG M d av sh S P := fun X => pSpec.ofF hy hT ha (by rw [hL]; exact h X)
set_option maxRecDepth 100000 in
theorem sp_isNaNF {sh : List PSh} {S : PSt} {x : UInt32} (hx : vf_n32 x) : pF mJxf58ca_isNaN_12338 0 [.float x] sh S S (some (.int 0)) := by
  refine pF.of (pG.ofF [some (.float x)] (by decide +kernel) tk_Jxf58ca_isNaN_12338 (Nat.le_of_ble_eq_true rfl) rfl (fun X => ?_))
  refine q_fload_n (pc := 0) (j := 0) rfl rfl ?_
  refine q_fload_n (pc := 1) (j := 0) rfl rfl ?_
  refine q_fcmp (pc := 2) (op := .l) rfl ?_
  refine q_if_eq (pc := 3) 10 rfl (by decide) (fun _ => ?_) (fun h9 => absurd (cmp_self hx) h9)
  refine q_iconst (pc := 10) 0 rfl (by decide) ?_
  exact q_zret (pc := 11) rfl rfl rfl ⟨rfl, rfl⟩
set_option maxRecDepth 100000 in
theorem sp_fbits {sh : List PSh} {S : PSt} {x : UInt32} (hx : vf_n32 x) : pF mJxf58ca_floatToIntBits_5c35a 1 [.float x] sh S S (some (.int x.toInt32)) := by
  refine pF.of (pG.ofF [some (.float x)] (by decide +kernel) tk_Jxf58ca_floatToIntBits_5c35a (Nat.le_of_ble_eq_true rfl) rfl (fun X => ?_))
  refine q_fload_n (pc := 0) (j := 0) rfl rfl ?_
  refine q_callS (pc := 1) (as := [.float x]) (rest := []) (st2 := [.int 0]) rfl ce_Jxf58ca_isNaN_12338 ml_Jxf58ca_59 st_Jxf58ca_isNaN_12338 rfl (by decide) (Nat.le_of_ble_eq_true rfl) (sp_isNaNF hx) rfl ?_
  refine q_if_ne (pc := 4) 12 rfl (by decide) (fun h9 => absurd h9 (by decide : ¬ ¬ (0 : Int32) = 0)) (fun _ => ?_)
  refine q_fload_n (pc := 7) (j := 0) rfl rfl ?_
  refine q_rawF (pc := 8) rfl ml_Jxf58ca_74 (by decide) (Nat.le_of_ble_eq_true rfl) ?_
  exact q_iret (pc := 11) rfl rfl ⟨rfl, rfl⟩
theorem q_tret {M : PM} {d n0 : Nat} {X : Nat × (Nat → Int32)} {sh : List PSh} {P : Option Value → PSt → Prop} {pc : Nat} {L : PL} {S : PSt} {x : Int32} (ty : FieldType) (hi : pLook M.2.2.2.2 pc = some (.ireturn, 1)) (hr : M.2.2.2.1 = some ty) (hn : narrow ty (.int x) = .int x) (hq : P (some (.int x)) S) : pV M d n0 X sh P pc L [.int x] S := pr_zret hi hr hn ⟨Nat.le_refl _, Nat.le_refl _⟩ ⟨rfl, hq⟩
set_option maxRecDepth 100000 in
theorem sp_coder {sh : List PSh} {S : PSt} : pF mJ0_coder_7d493 0 [.ref 1003] sh S S (some (.int 0)) := by
  refine pF.of (pG.of [some (.ref 1003)] (by decide) tk_J0_coder_7d493 (Nat.le_of_ble_eq_true rfl) rfl (fun X => ?_))
  refine q_getsCS (pc := 0) rfl fl_J0_38 ?_
  refine q_if_eq (pc := 3) 13 rfl (by decide) (fun h9 => absurd h9 (by decide)) (fun _ => ?_)
  refine q_aload_n (pc := 6) (j := 0) rfl rfl ?_
  refine q_strC (pc := 7) rfl fl_J0_15 ?_
  refine q_goto (pc := 10) 14 rfl (by decide) ?_
  exact q_tret (pc := 14) .byte rfl rfl rfl ⟨rfl, rfl⟩
set_option maxRecDepth 100000 in
theorem sp_isLatin1 {sh : List PSh} {S : PSt} : pF mJ0_isLatin1_aae02 0 [.ref 1003] sh S S (some (.int 1)) := by
  refine pF.of (pG.of [some (.ref 1003)] (by decide) tk_J0_isLatin1_aae02 (Nat.le_of_ble_eq_true rfl) rfl (fun X => ?_))
  refine q_getsCS (pc := 0) rfl fl_J0_38 ?_
  refine q_if_eq (pc := 3) 17 rfl (by decide) (fun h9 => absurd h9 (by decide)) (fun _ => ?_)
  refine q_aload_n (pc := 6) (j := 0) rfl rfl ?_
  refine q_strC (pc := 7) rfl fl_J0_15 ?_
  refine q_if_ne (pc := 10) 17 rfl (by decide) (fun h9 => absurd rfl h9) (fun _ => ?_)
  refine q_iconst (pc := 13) 1 rfl (by decide) ?_
  refine q_goto (pc := 14) 18 rfl (by decide) ?_
  exact q_zret (pc := 18) rfl rfl rfl ⟨rfl, rfl⟩
set_option maxRecDepth 100000 in
theorem sp_strLen {sh : List PSh} {S : PSt} : pF mJ0_length_8abf5 1 [.ref 1003] sh S S (some (.int 11)) := by
  refine pF.of (pG.of [some (.ref 1003)] (by decide) tk_J0_length_8abf5 (Nat.le_of_ble_eq_true rfl) rfl (fun X => ?_))
  refine q_aload_n (pc := 0) (j := 0) rfl rfl ?_
  refine q_strV (pc := 1) rfl fl_J0_9 ?_
  refine q_lenB (pc := 4) rfl ?_
  refine q_aload_n (pc := 5) (j := 0) rfl rfl ?_
  refine q_callT (pc := 6) (as := []) (rest := [.int 11]) (st2 := [.int 0, .int 11]) rfl ce_J0_coder_7d493 ml_J0_335 im_J0_coder_7d493 se_J0_coder_7d493 rfl rfl (by decide) (Nat.le_of_ble_eq_true rfl) sp_coder rfl ?_
  refine q_ishr (pc := 9) rfl ?_
  exact q_iret (pc := 10) rfl rfl ⟨by decide, rfl⟩
set_option maxRecDepth 100000 in
theorem sp_preIx {sh : List PSh} {S : PSt} {i n : Int32} {v : Value} (hv : v = .null ∨ v = .ref 1005) (h1 : ¬ i < 0) (h2 : i < n) : pF mJ3_checkIndex_8e157 0 [.int i, .int n, v] sh S S (some (.int i)) := by
  have key : ∀ (X : Nat × (Nat → Int32)) (L : PL), pLd L 0 = some (.int i) → pLd L 1 = some (.int n) → pV mJ3_checkIndex_8e157 0 sh.length X sh (fun r2 T => r2 = some (.int i) ∧ T = S) 0 L [] S := by
    intro X L e1 e2
    refine q_iload_n (pc := 0) (j := 0) rfl e1 ?_
    refine q_if_lt (pc := 1) 9 rfl (by decide) (fun h9 => absurd h9 h1) (fun _ => ?_)
    refine q_iload_n (pc := 4) (j := 0) rfl e1 ?_
    refine q_iload_n (pc := 5) (j := 1) rfl e2 ?_
    refine q_icmp_lt (pc := 6) 16 rfl (by decide) (fun _ => ?_) (fun h9 => absurd h2 h9)
    refine q_iload_n (pc := 16) (j := 0) rfl e1 ?_
    exact q_iret (pc := 17) rfl rfl ⟨rfl, rfl⟩
  rcases hv with rfl | rfl
  · exact pF.of (pG.of [some (.int i), some (.int n), some .null] (by decide) tk_J3_checkIndex_8e157 (Nat.le_of_ble_eq_true rfl) rfl (fun X => key X _ rfl rfl))
  · exact pF.of (pG.of [some (.int i), some (.int n), some (.ref 1005)] (by decide) tk_J3_checkIndex_8e157 (Nat.le_of_ble_eq_true rfl) rfl (fun X => key X _ rfl rfl))
set_option maxRecDepth 100000 in
theorem sp_strIx {sh : List PSh} {S : PSt} {i n : Int32} (h1 : ¬ i < 0) (h2 : i < n) : pF mJ0_checkIndex_df160 1 [.int i, .int n] sh S S none := by
  refine pF.of (pG.of [some (.int i), some (.int n)] (by decide) tk_J0_checkIndex_df160 (Nat.le_of_ble_eq_true rfl) rfl (fun X => ?_))
  refine q_iload_n (pc := 0) (j := 0) rfl rfl ?_
  refine q_iload_n (pc := 1) (j := 1) rfl rfl ?_
  refine q_getsFm (pc := 2) rfl fl_J0_1053 ?_ ?_
  · refine q_callS (pc := 5) (as := [.int i, .int n, .null]) (rest := []) (st2 := [.int i]) rfl ce_J3_checkIndex_8e157 ml_J0_1059 st_J3_checkIndex_8e157 rfl (by decide) (Nat.le_of_ble_eq_true rfl) (sp_preIx (Or.inl rfl) h1 h2) rfl ?_
    refine q_pop (pc := 8) rfl rfl ?_
    exact q_vret (pc := 9) rfl rfl ⟨rfl, rfl⟩
  · refine q_callS (pc := 5) (as := [.int i, .int n, .ref 1005]) (rest := []) (st2 := [.int i]) rfl ce_J3_checkIndex_8e157 ml_J0_1059 st_J3_checkIndex_8e157 rfl (by decide) (Nat.le_of_ble_eq_true rfl) (sp_preIx (Or.inr rfl) h1 h2) rfl ?_
    refine q_pop (pc := 8) rfl rfl ?_
    exact q_vret (pc := 9) rfl rfl ⟨rfl, rfl⟩
theorem txt_c : ∀ k, k < 11 → ((pTx.getD k 0 &&& 255).toUInt32 % 65536).toInt32 = pTx.getD k 0 ∧ narrow .char (.int (pTx.getD k 0)) = .int (pTx.getD k 0) := by decide
set_option maxRecDepth 100000 in
theorem sp_latAt {sh : List PSh} {S : PSt} {k : Nat} (hk : k < 11) : pF mJ1_charAt_3b067 2 [.ref 1004, .int (nI k)] sh S S (some (.int (pTx.getD k 0))) := by
  refine pF.of (pG.of [some (.ref 1004), some (.int (nI k))] (by decide) tk_J1_charAt_3b067 (Nat.le_of_ble_eq_true rfl) rfl (fun X => ?_))
  refine q_iload_n (pc := 0) (j := 1) rfl rfl ?_
  refine q_aload_n (pc := 1) (j := 0) rfl rfl ?_
  refine q_lenB (pc := 2) rfl ?_
  refine q_callS (pc := 3) (as := [.int (nI k), .int 11]) (rest := []) (st2 := []) rfl ce_J0_checkIndex_df160 ml_J1_9 st_J0_checkIndex_df160 rfl (by decide) (Nat.le_of_ble_eq_true rfl) (sp_strIx (nI_pos (by omega)) (nI_lt (a := k) (b := 11) hk (by decide))) rfl ?_
  refine q_aload_n (pc := 6) (j := 0) rfl rfl ?_
  refine q_iload_n (pc := 7) (j := 1) rfl rfl ?_
  refine q_baldB (pc := 8) rfl (nI_in hk (by decide)) ?_
  rw [nI_clamp (show k < 2 ^ 31 by omega)]
  refine q_sipush (pc := 9) 255 rfl (by decide) ?_
  refine q_iand (pc := 12) rfl ?_
  refine q_i2c (pc := 13) rfl (txt_c k hk).1 ?_
  exact q_tret (pc := 14) .char rfl rfl (txt_c k hk).2 ⟨rfl, rfl⟩
set_option maxRecDepth 100000 in
theorem sp_charAt {sh : List PSh} {S : PSt} {k : Nat} (hk : k < 11) : pF mJ0_charAt_5068e 3 [.ref 1003, .int (nI k)] sh S S (some (.int (pTx.getD k 0))) := by
  refine pF.of (pG.of [some (.ref 1003), some (.int (nI k))] (by decide) tk_J0_charAt_5068e (Nat.le_of_ble_eq_true rfl) rfl (fun X => ?_))
  refine q_aload_n (pc := 0) (j := 0) rfl rfl ?_
  refine q_callT (pc := 1) (as := []) (rest := []) (st2 := [.int 1]) rfl ce_J0_isLatin1_aae02 ml_J0_492 im_J0_isLatin1_aae02 se_J0_isLatin1_aae02 rfl rfl (by decide) (Nat.le_of_ble_eq_true rfl) sp_isLatin1 rfl ?_
  refine q_if_eq (pc := 4) 16 rfl (by decide) (fun h9 => absurd h9 (by decide)) (fun _ => ?_)
  refine q_aload_n (pc := 7) (j := 0) rfl rfl ?_
  refine q_strV (pc := 8) rfl fl_J0_9 ?_
  refine q_iload_n (pc := 11) (j := 1) rfl rfl ?_
  refine q_callS (pc := 12) (as := [.ref 1004, .int (nI k)]) (rest := []) (st2 := [.int (pTx.getD k 0)]) rfl ce_J1_charAt_3b067 ml_J0_495 st_J1_charAt_3b067 rfl (by decide) (Nat.le_of_ble_eq_true rfl) (sp_latAt hk) rfl ?_
  exact q_tret (pc := 15) .char rfl rfl (txt_c k hk).2 ⟨rfl, rfl⟩
/-! the law's small methods: written by hand -/
def modI (v n : Int32) : Int32 := if v - v / n * n < 0 then v - v / n * n + n else v - v / n * n
set_option maxRecDepth 100000 in
theorem sp_L_mod {sh : List PSh} {S : PSt} {v n : Int32} (hn : ¬ n = 0) : pF mL_mod 0 [.int v, .int n] sh S S (some (.int (modI v n))) := by
  refine pF.of (pG.of [some (.int v), some (.int n), none] (by decide) tk_L_mod (Nat.le_of_ble_eq_true rfl) rfl (fun X => ?_))
  refine q_iload_n (pc := 0) (j := 0) rfl rfl ?_
  refine q_iload_n (pc := 1) (j := 1) rfl rfl ?_
  refine q_irem (pc := 2) rfl hn ?_
  refine q_istore_n (pc := 3) (j := 2) [some (.int v), some (.int n), some (.int (v - v / n * n))] rfl (by decide) rfl ?_
  refine q_iload_n (pc := 4) (j := 2) rfl rfl ?_
  refine q_if_ge (pc := 5) 14 rfl (by decide) (fun h => ?_) (fun h => ?_)
  · refine q_iload_n (pc := 14) (j := 2) rfl rfl ?_
    exact q_iret (pc := 15) rfl rfl ⟨by rw [modI, if_neg (Int32.not_lt.mpr h)], rfl⟩
  · refine q_iload_n (pc := 8) (j := 2) rfl rfl ?_
    refine q_iload_n (pc := 9) (j := 1) rfl rfl ?_
    refine q_iadd (pc := 10) rfl ?_
    refine q_goto (pc := 11) 15 rfl (by decide) ?_
    exact q_iret (pc := 15) rfl rfl ⟨by rw [modI, if_pos (Int32.not_le.mp h)], rfl⟩
theorem rem_t {v : Int32} {n : Nat} (h0 : 0 < n) (hn : n < 2 ^ 30) : (v - v / nI n * nI n).toInt = v.toInt.tmod (n : Int) ∧ -(n : Int) < v.toInt.tmod (n : Int) ∧ v.toInt.tmod (n : Int) < (n : Int) := by
  have hN : (nI n).toInt = n := nI_toInt (by omega)
  have hp : (0 : Int) < (n : Int) := by omega
  have h1 := Int.tmod_lt_of_pos v.toInt hp
  have h2 := Int.lt_tmod_of_pos v.toInt hp
  have h3 := Int.tmod_add_tdiv_mul v.toInt (n : Int)
  refine ⟨?_, h2, h1⟩
  rw [Int32.toInt_sub, Int32.toInt_mul, Int32.toInt_div, hN, Int.bmod_mul_bmod, Int.sub_bmod_bmod, show v.toInt - v.toInt.tdiv (n : Int) * (n : Int) = v.toInt.tmod (n : Int) by omega]
  exact Int.bmod_eq_of_le (by omega) (by omega)
theorem modI_rng {v : Int32} {n : Nat} (h0 : 0 < n) (hn : n < 2 ^ 30) : ∃ u, u < n ∧ modI v (nI n) = nI u := by
  have hN : (nI n).toInt = n := nI_toInt (by omega)
  obtain ⟨h1, h2, h3⟩ := rem_t (v := v) h0 hn
  unfold modI
  generalize hq : v - v / nI n * nI n = q
  have hq2 : q.toInt = v.toInt.tmod (n : Int) := by rw [← hq]; exact (rem_t (v := v) h0 hn).1
  by_cases hs : q < 0
  · rw [if_pos hs]
    rw [Int32.lt_iff_toInt_lt, show (0 : Int32).toInt = 0 from rfl] at hs
    have h5 : (q + nI n).toInt = q.toInt + n := by rw [Int32.toInt_add, hN]; exact Int.bmod_eq_of_le (by omega) (by omega)
    refine ⟨(q + nI n).toInt.toNat, by omega, ?_⟩
    apply Int32.toInt_inj.mp
    rw [nI_toInt (by omega)]
    omega
  · rw [if_neg hs]
    rw [Int32.lt_iff_toInt_lt, show (0 : Int32).toInt = 0 from rfl] at hs
    refine ⟨q.toInt.toNat, by omega, ?_⟩
    apply Int32.toInt_inj.mp
    rw [nI_toInt (by omega)]
    omega
set_option maxRecDepth 100000 in
theorem sp_L_f {sh : List PSh} {S : PSt} {x : UInt32} (hx : vn_sni2f x.toInt32 = false) : pF mL_f 1 [.int x.toInt32] sh S S (some (.float x)) := by
  refine pF.of (pG.of [some (.int x.toInt32)] (by decide) tk_L_f (Nat.le_of_ble_eq_true rfl) rfl (fun X => ?_))
  refine q_iload_n (pc := 0) (j := 0) rfl rfl ?_
  refine q_i2fc (pc := 1) rfl ml_L_34 (by decide) (Nat.le_of_ble_eq_true rfl) hx ?_
  exact q_fret (pc := 4) rfl rfl ⟨by simp, rfl⟩
def celI (X : Nat × (Nat → Int32)) (i : Nat) : Int32 := if i < X.1 then X.2 i else 0
