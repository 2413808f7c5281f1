/-! further rules: shifts, bits of floats, the text of music -/
section PMORE
variable {M : PM} {d mc ms n0 : Nat} {X : Nat × (Nat → Int32)} {Q : PQ} {pc : Nat} {L : PL} {st : List Value} {kc ks : Nat} {sh : List PSh} {S : PSt}
theorem pr_ishr {x y : Int32} (hi : pLook M.2.2.2.2 pc = some (.ishr, 1)) (k : pWP M d mc ms n0 X Q (pc + 1) L (.int (x >>> (y &&& 31)) :: st) kc ks sh S) : pWP M d mc ms n0 X Q pc L (.int y :: .int x :: st) kc ks sh S := by
  intro p l e R s m args below meth c D tc ad0 A hT hC hR hK hO hA ad H locs ls hN
  exact lv_ishr hC.1 hC.2.1 (pLook_ok hT hi) (k p l e R s m args below meth c D tc ad0 A hT hC hR hK hO hA ad H locs ls hN)
theorem pr_i2c {x v : Int32} (hi : pLook M.2.2.2.2 pc = some (.i2c, 1)) (hv : (x.toUInt32 % 65536).toInt32 = v) (k : pWP M d mc ms n0 X Q (pc + 1) L (.int v :: st) kc ks sh S) : pWP M d mc ms n0 X Q pc L (.int x :: st) kc ks sh S := by
  intro p l e R s m args below meth c D tc ad0 A hT hC hR hK hO hA ad H locs ls hN
  exact lv_i2c hC.1 hC.2.1 (pLook_ok hT hi) hv (k p l e R s m args below meth c D tc ad0 A hT hC hR hK hO hA ad H locs ls hN)
theorem pr_i2fb {idx : Nat} {b : Int32} (hi : pLook M.2.2.2.2 pc = some (.invokestatic idx, 3)) (h1 : Cond.methodLink M.1.cls idx ⟨"java/lang/Float", "intBitsToFloat", "(I)F"⟩ ∈ pGood) (h2 : Cond.native ⟨"java/lang/Float", "intBitsToFloat", "(I)F"⟩ ∈ pGood) (h3 : Cond.static ⟨"java/lang/Float", "intBitsToFloat", "(I)F"⟩ ∈ pGood) (h4 : Cond.initialized "java/lang/Float" ∈ pGood) (hd : 1 ≤ d) (hcat : (st.map fun v => v.category).sum ≤ 8) (hb : vn_sni2f b = false) (k : pWP M d mc ms n0 X Q (pc + 3) L (.float b.toUInt32 :: st) kc ks sh S) : pWP M d mc ms n0 X Q pc L (.int b :: st) kc ks sh S := by
  intro p l e R s m args below meth c D tc ad0 A hT hC hR hK hO hA ad H locs ls hN
  have hts := hC.2.2.2.2.2.2.2
  have hr := hR.1
  have hr2 := hR.2.1
  have hc9 := pCat (ad := ad) hcat
  exact vn_i2f hC.1 hC.2.1 (hC.2.2.1.trans hN.ls.1.symm) hC.2.2.2.2.1 (hts _ h1) (hts _ h2) (hts _ h3) (hts _ h4) hb (by omega) (by omega) (pLook_ok hT hi) (k p l e R s m args below meth c D tc ad0 A hT hC hR hK hO hA ad H locs ls hN)
theorem pr_ldcS (hi : pLook M.2.2.2.2 pc = some (.ldc 156, 2)) (hc : M.1.cls = "EngravedLinesLaw") (k : pWP M d mc ms n0 X Q (pc + 2) L (.ref 1003 :: st) kc ks sh S) : pWP M d mc ms n0 X Q pc L (st) kc ks sh S := by
  intro p l e R s m args below meth c D tc ad0 A hT hC hR hK hO hA ad H locs ls hN
  have ea : ∀ k, 1000 ≤ k → ad k = ad0 k := fun k hk => hN.1 k (fun q => by have := hN.2.2.1; omega)
  have hZ := hO.2.2.2.2.1
  rw [← ea 1003 (by omega)] at hZ
  exact va_ldcS hC.1 hC.2.1 (by rw [← hc]; exact hC.2.2.2.2.1) hZ (pLook_ok hT hi) (k p l e R s m args below meth c D tc ad0 A hT hC hR hK hO hA ad H locs ls hN)
theorem pr_strV {idx : Nat} (hi : pLook M.2.2.2.2 pc = some (.getfield idx, 3)) (hc : Cond.fieldLink M.1.cls idx "java/lang/String" "value" "[B" ∈ pGood) (k : pWP M d mc ms n0 X Q (pc + 3) L (.ref 1004 :: st) kc ks sh S) : pWP M d mc ms n0 X Q pc L (.ref 1003 :: st) kc ks sh S := by
  intro p l e R s m args below meth c D tc ad0 A hT hC hR hK hO hA ad H locs ls hN
  have ea : ∀ k, 1000 ≤ k → ad k = ad0 k := fun k hk => hN.1 k (fun q => by have := hN.2.2.1; omega)
  have hE := (hO.2.2.2.1.1 0 (by decide)).2.2.1
  dsimp only at hE
  rw [← ea 1003 (by omega), ← ea 1004 (by omega)] at hE
  exact vk_getf hC.1 hC.2.1 hE hN.hS hC.2.2.2.2.1 (hC.2.2.2.2.2.2.2 _ hc) (fun _ h9 => h9) (pLook_ok hT hi) (k p l e R s m args below meth c D tc ad0 A hT hC hR hK hO hA ad H locs ls hN)
theorem pr_strC {idx : Nat} (hi : pLook M.2.2.2.2 pc = some (.getfield idx, 3)) (hc : Cond.fieldLink M.1.cls idx "java/lang/String" "coder" "B" ∈ pGood) (k : pWP M d mc ms n0 X Q (pc + 3) L (.int 0 :: st) kc ks sh S) : pWP M d mc ms n0 X Q pc L (.ref 1003 :: st) kc ks sh S := by
  intro p l e R s m args below meth c D tc ad0 A hT hC hR hK hO hA ad H locs ls hN
  have ea : ∀ k, 1000 ≤ k → ad k = ad0 k := fun k hk => hN.1 k (fun q => by have := hN.2.2.1; omega)
  have hE := (hO.2.2.2.1.1 0 (by decide)).2.1
  dsimp only at hE
  rw [← ea 1003 (by omega)] at hE
  exact vk_getf hC.1 hC.2.1 hE hN.hS hC.2.2.2.2.1 (hC.2.2.2.2.2.2.2 _ hc) (fun _ h9 => h9) (pLook_ok hT hi) (k p l e R s m args below meth c D tc ad0 A hT hC hR hK hO hA ad H locs ls hN)
theorem pr_getsCS {idx : Nat} (hi : pLook M.2.2.2.2 pc = some (.getstatic idx, 3)) (hc : Cond.fieldLink M.1.cls idx "java/lang/String" "COMPACT_STRINGS" "Z" ∈ pGood) (k : pWP M d mc ms n0 X Q (pc + 3) L (.int 1 :: st) kc ks sh S) : pWP M d mc ms n0 X Q pc L (st) kc ks sh S := by
  intro p l e R s m args below meth c D tc ad0 A hT hC hR hK hO hA ad H locs ls hN
  exact va_gets hC.1 hC.2.1 hO.2.2.2.2.2.1 hN.hS hC.2.2.2.2.1 (hC.2.2.2.2.2.2.2 _ hc) (fun _ h9 => h9) (pLook_ok hT hi) (k p l e R s m args below meth c D tc ad0 A hT hC hR hK hO hA ad H locs ls hN)
theorem pr_lenB (hi : pLook M.2.2.2.2 pc = some (.arraylength, 1)) (k : pWP M d mc ms n0 X Q (pc + 1) L (.int 11 :: st) kc ks sh S) : pWP M d mc ms n0 X Q pc L (.ref 1004 :: st) kc ks sh S := by
  intro p l e R s m args below meth c D tc ad0 A hT hC hR hK hO hA ad H locs ls hN
  have ea : ∀ k, 1000 ≤ k → ad k = ad0 k := fun k hk => hN.1 k (fun q => by have := hN.2.2.1; omega)
  have hE := (hO.2.2.2.1.1 0 (by decide)).2.2.2
  dsimp only at hE
  rw [← ea 1004 (by omega)] at hE
  exact va_tlen hC.1 hC.2.1 hE hN.hS (v := 11) (by decide) (pLook_ok hT hi) (k p l e R s m args below meth c D tc ad0 A hT hC hR hK hO hA ad H locs ls hN)
theorem pr_baldB {i : Int32} (hi : pLook M.2.2.2.2 pc = some (.baload, 1)) (hin : vp_in i 11) (k : pWP M d mc ms n0 X Q (pc + 1) L (.int (pTx.getD i.toNatClampNeg 0) :: st) kc ks sh S) : pWP M d mc ms n0 X Q pc L (.int i :: .ref 1004 :: st) kc ks sh S := by
  intro p l e R s m args below meth c D tc ad0 A hT hC hR hK hO hA ad H locs ls hN
  have ea : ∀ k, 1000 ≤ k → ad k = ad0 k := fun k hk => hN.1 k (fun q => by have := hN.2.2.1; omega)
  have hE := (hO.2.2.2.1.1 0 (by decide)).2.2.2
  dsimp only at hE
  rw [← ea 1004 (by omega)] at hE
  exact va_tb hC.1 hC.2.1 hE hN.hS hin rfl (pLook_ok hT hi) (k p l e R s m args below meth c D tc ad0 A hT hC hR hK hO hA ad H locs ls hN)
theorem pr_getsFm {idx : Nat} (hi : pLook M.2.2.2.2 pc = some (.getstatic idx, 3)) (hc : Cond.fieldLink M.1.cls idx "jdk/internal/util/Preconditions" "SIOOBE_FORMATTER" "Ljava/util/function/BiFunction;" ∈ pGood) (k1 : pWP M d mc ms n0 X Q (pc + 3) L (.null :: st) kc ks sh S) (k2 : pWP M d mc ms n0 X Q (pc + 3) L (.ref 1005 :: st) kc ks sh S) : pWP M d mc ms n0 X Q pc L st kc ks sh S := by
  intro p l e R s m args below meth c D tc ad0 A hT hC hR hK hO hA ad H locs ls hN
  have ea : ∀ k, 1000 ≤ k → ad k = ad0 k := fun k hk => hN.1 k (fun q => by have := hN.2.2.1; omega)
  rcases hO.2.2.2.2.2.2 with hZ | hZ
  · exact va_gets hC.1 hC.2.1 hZ hN.hS hC.2.2.2.2.1 (hC.2.2.2.2.2.2.2 _ hc) (fun _ h9 => h9) (pLook_ok hT hi) (k1 p l e R s m args below meth c D tc ad0 A hT hC hR hK hO hA ad H locs ls hN)
  · rw [← ea 1005 (by omega)] at hZ
    exact va_gets hC.1 hC.2.1 hZ hN.hS hC.2.2.2.2.1 (hC.2.2.2.2.2.2.2 _ hc) (fun _ h9 => h9) (pLook_ok hT hi) (k2 p l e R s m args below meth c D tc ad0 A hT hC hR hK hO hA ad H locs ls hN)
end PMORE
section PTEXT
variable {M M1 : PM} {d d1 mc ms n0 : Nat} {X : Nat × (Nat → Int32)} {Q Q1 : PQ} {pc : Nat} {L : PL} {rest : List Value} {kc ks mc1 ms1 : Nat} {sh : List PSh} {S : PSt} {idx n : Nat} {as : List Value}
/-- a call of the text's method -/
theorem pr_callT (hi : pLook M.2.2.2.2 pc = some (.invokevirtual idx, 3)) (hce : pCallee M1 n) (hml : pML M.1.cls idx M1) (hin : Cond.instanceMethod M1.1 ∈ pGood) (hse : Cond.selects M1.1.cls M1.1 M1.1 ∈ pGood) (hqc : M1.1.cls = "java/lang/String") (hn : as.length = n) (hd : d1 + 1 ≤ d) (hcat : (rest.map fun v => v.category).sum ≤ 8) (hm : kc + mc1 ≤ mc ∧ ks + ms1 ≤ ms)
    (hsp : pSpec M1 d1 mc1 ms1 (.ref 1003 :: as) X sh S Q1)
    (hsame : ∀ r sh2 S2, Q1 r sh2 S2 → (∀ ad ad2 : Nat → Nat, (∀ k, ¬ (sh.length ≤ k ∧ k < sh2.length) → ad2 k = ad k) → rest.map (pTr ad2) = rest.map (pTr ad) ∧ ∀ (j : Nat) (v : Value), L[j]? = some (some v) → pTr ad2 v = pTr ad v))
    (k : ∀ r sh2 S2, Q1 r sh2 S2 → pWP M d mc ms n0 X Q (pc + 3) L (r.toList ++ rest) (kc + mc1) (ks + ms1) sh2 S2) : pWP M d mc ms n0 X Q pc L (as.reverse ++ .ref 1003 :: rest) kc ks sh S := by
  intro p l e R s m args below meth c D tc ad0 A hT hC hR hK hO hA ad H locs ls hN
  have hts := hC.2.2.2.2.2.2.2
  have hM := hsp hN.2.2.1 hN.2.2.2.1 l D tc ad H.size
  have hfix : CallFix p m c M.2.1 M.2.2.1 s args pGood M.1.cls := ⟨hC.1, hC.2.1, hC.2.2.1, hC.2.2.2.2.1, hts⟩
  have hRm : (pRoom d1 mc1 ms1).frames + 1 ≤ R.frames ∧ 8 + (M1.2.2.1 + 11) + (pRoom d1 mc1 ms1).locals ≤ R.locals := by
    refine ⟨Nat.le_trans hd hR.1, ?_⟩
    show 8 + (M1.2.2.1 + 11) + 39 * d1 ≤ R.locals
    have h20 := hce.2.2.2
    have := hR.2.1
    omega
  have hstk : (as.reverse ++ .ref 1003 :: rest).map (pTr ad) = (as.map (pTr ad)).reverse ++ .ref (ad 1003) :: rest.map (pTr ad) := by rw [List.map_append, List.map_reverse]; rfl
  have hf : kc + mc1 ≤ R.cells ∧ ks + ms1 ≤ R.slots := ⟨Nat.le_trans hm.1 hR.2.2.1, Nat.le_trans hm.2 hR.2.2.2⟩
  have hlen : (as.map (pTr ad)).length = n := by rw [List.length_map]; exact hn
  have hpv : PreV s H M1.1.cls (ad 1003) (pPc (.ref 1003 :: as) D tc ad X sh S H.size) (as.map (pTr ad)) := ⟨pPc_blind, by rw [hqc, hN.1 1003 (fun q => by have := hN.2.2.1; omega)]; exact vk_recv (adK := fun _ => ad0 1003) (adV := fun _ => ad0 1004) hO.2.2.2.1 (i := 0) (by decide) hN.hS, pPc_at (av := .ref 1003 :: as) hN hK hO hA⟩
  rcases hml with hml | ⟨host, hml⟩
  · exact pr_back hT hC hR hK hO hA hN (va_runV hfix hM ⟨callB_of n hts (pWs_good hce) rfl rfl rfl (hts _ hce.2.2.1) (hts _ hml) hce.1 hRm, hts _ hin, hts _ hse⟩ hpv rfl hlen hN.ls.1 hstk (lv_room (pCat hcat)) (pLook_ok hT hi) hf) (fun r sh2 S2 h ad2 ha => hsame r sh2 S2 h ad ad2 ha) k
  · exact pr_back hT hC hR hK hO hA hN (va_runVN hfix hM ⟨va_cnB n hts (pWs_good hce) rfl rfl rfl (hK.2 _ hml) (hts _ hce.2.2.1) hce.1 hRm, hts _ hin, hts _ hse⟩ hpv rfl hlen hN.ls.1 hstk (lv_room (pCat hcat)) (pLook_ok hT hi) hf) (fun r sh2 S2 h ad2 ha => hsame r sh2 S2 h ad ad2 ha) k
end PTEXT
