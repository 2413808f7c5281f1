/-! the law's cases: written by wip/whole/gen/c78.py -/
def mLt (t : pTab) : PM := (yL_law, cL_law, 4, ret, t)
def lQ : PQ := fun r _ _ => r = some (.int 1)
def pY (t : pTab) (X : Nat × (Nat → Int32)) (sh : List PSh) (pc : Nat) (L : PL) (st : List Value) (S : PSt) : Prop := pWP (mLt t) 10 94 8604 0 X lQ pc L st 94 8604 sh S
def lL (i : Nat) : PL := [some (.ref 1000), some (.ref 0), some (.ref 70), some (.int (nI i))]
theorem pr_tab {t t2 : pTab} {d mc ms n0 kc ks : Nat} {X : Nat × (Nat → Int32)} {Q : PQ} {pc : Nat} {L : PL} {st : List Value} {sh : List PSh} {S : PSt} (h : pTabOk cL_law t2 = true) (k : pWP (mLt t2) d mc ms n0 X Q pc L st kc ks sh S) : pWP (mLt t) d mc ms n0 X Q pc L st kc ks sh S :=
  fun p l e R s m args below meth c D tc ad0 A _ hC hR hK hO hA ad H locs ls hN => k p l e R s m args below meth c D tc ad0 A h hC hR hK hO hA ad H locs ls hN
theorem vp_nI {m n : Nat} (h : m < n) (hn : n < 2 ^ 31) : vp_in (nI m) n := by
  intro q
  rcases q with q | q
  · have := i_lt0 q
    rw [nI_toInt (by omega)] at this
    omega
  · rw [show (nI m).toNatClampNeg = m from nI_clamp (by omega)] at q
    omega
section LAW
variable {t : pTab} {X : Nat × (Nat → Int32)} {sh : List PSh} {pc : Nat} {L : PL} {st : List Value} {S : PSt}
theorem l_st (st2 : List Value) (h : st = st2) (k : pY t X sh pc L st2 S) : pY t X sh pc L st S := by subst h; exact k
theorem la_arg {i k : Nat} {kk : Int} (h0 : pLook t pc = some (.aload_n 0, 1)) (h1 : pLook t (pc + 1) = some (.iload_n 3, 1)) (h2 : pLook t (pc + 1 + 1) = some (.iconst kk, 1)) (h3 : pLook t (pc + 1 + 1 + 1) = some (.iadd, 1)) (h4 : pLook t (pc + 1 + 1 + 1 + 1) = some (.iaload, 1)) (hk : Int32.ofInt kk = nI k) (hi : i + k < X.1) (hx : X.1 < 2 ^ 31) (K : pY t X sh (pc + 5) (lL i) (.int (X.2 (i + k)) :: st) S) : pY t X sh pc (lL i) st S := by
  unfold pY
  refine pr_aload_n (j := 0) h0 rfl ?_
  refine pr_iload_n (j := 3) h1 rfl ?_
  refine pr_iconst h2 ?_
  refine pr_iadd h3 ?_
  rw [hk, nI_add]
  refine pr_ialdR (j := 0) (by decide) h4 (vp_nI hi hx) ?_
  rw [show (nI (i + k)).toNatClampNeg = i + k from nI_clamp (by omega)]
  exact K
theorem l_call {M1 : PM} {d1 idx n b cI : Nat} {fs : List Nat} {qc : vw_C} {P1 : Option Value → PSt → Prop} (as rest : List Value) (hi : pLook t pc = some (.invokevirtual idx, 3)) (hce : pCallee M1 n) (hml : pML RL idx M1) (hin : Cond.instanceMethod M1.1 ∈ pGood) (hse : Cond.selects M1.1.cls M1.1 M1.1 ∈ pGood) (hb : sh[b]? = some (.inr (cI, fs))) (hcl : vwCl[cI]? = some qc) (hqc : qc.1 = M1.1.cls) (hn : as.length = n) (hd : d1 + 1 ≤ 10) (hcat : (rest.map fun v => v.category).sum ≤ 8) (hsp : pG M1 d1 (.ref b :: as) sh S P1) (k : ∀ (r : Option Value) (S2 : PSt), P1 r S2 → pY t X sh (pc + 3) L (r.toList ++ rest) S2) : pY t X sh pc L (as.reverse ++ .ref b :: rest) S := by
  exact pr_callV hi hce hml hin hse hb hcl hqc hn hd hcat ⟨Nat.le_refl _, Nat.le_refl _⟩ (hsp X) (fun r sh2 T h => pSame0 (by rw [h.1])) (fun r sh2 T h => by obtain ⟨rfl, h⟩ := h; exact k r T h)
theorem l_aload {j : Fin 4} {x : Nat} (hi : pLook t pc = some (.aload_n j, 1)) (hl : pLd L (j : Nat) = some (.ref x)) (k : pY t X sh (pc + 1) L (.ref x :: st) S) : pY t X sh pc L st S := pr_aload_n hi hl k
theorem l_eq {v : Int32} {off : Int} (tgt : Nat) (hi : pLook t pc = some (.if_icmp .eq off, 3)) (ht : (pc : Int) + off = (tgt : Int)) (k : pY t X sh tgt L st S) : pY t X sh pc L (.int v :: .int v :: st) S := pr_icmp_eq tgt hi ht (fun _ => k) (fun h => absurd rfl h)
theorem l_leq {v : Int64} {off : Int} (tgt : Nat) (hi : pLook t pc = some (.lcmp, 1)) (hi2 : pLook t (pc + 1) = some (.ifCond .eq off, 3)) (ht : ((pc + 1 : Nat) : Int) + off = (tgt : Int)) (k : pY t X sh tgt L st S) : pY t X sh pc L (.long v :: .long v :: st) S := by
  refine pr_lcmp hi (pr_if_eq tgt hi2 ht (fun _ => k) (fun h => absurd ?_ h))
  unfold lg_cmp
  simp
theorem l_i2l {x : Int32} (hi : pLook t pc = some (.i2l, 1)) (k : pY t X sh (pc + 1) L (.long x.toInt64 :: st) S) : pY t X sh pc L (.int x :: st) S := pr_i2l hi k
theorem l_bipush {n : Int} (v : Int32) (hi : pLook t pc = some (.bipush n, 2)) (hv : (Int8.ofInt n).toInt32 = v) (k : pY t X sh (pc + 2) L (.int v :: st) S) : pY t X sh pc L st S := c_bipush v hi hv k
theorem l_lshl {x : Int64} {y : Int32} (hi : pLook t pc = some (.lshl, 1)) (k : pY t X sh (pc + 1) L (.long (x <<< (y.toInt64 &&& 63)) :: st) S) : pY t X sh pc L (.int y :: .long x :: st) S := pr_lshl hi k
theorem l_land {x y : Int64} (hi : pLook t pc = some (.land, 1)) (k : pY t X sh (pc + 1) L (.long (x &&& y) :: st) S) : pY t X sh pc L (.long y :: .long x :: st) S := pr_land hi k
theorem l_lor {x y : Int64} (hi : pLook t pc = some (.lor, 1)) (k : pY t X sh (pc + 1) L (.long (x ||| y) :: st) S) : pY t X sh pc L (.long y :: .long x :: st) S := pr_lor hi k
theorem l_ldc2 {idx : Nat} {v : Int64} (hi : pLook t pc = some (.ldc2_w idx, 3)) (hc : Cond.constantLong RL idx v ∈ pGood) (k : pY t X sh (pc + 3) L (.long v :: st) S) : pY t X sh pc L st S := pr_ldc2 hi hc k
end LAW
def tbLt : pTab := [(1357, .iinc 3 6, 3), (1360, .goto (-1342), 3), (1363, .iconst 1, 1), (1364, .ireturn, 1)]
theorem tbLt_ok : pTabOk cL_law tbLt = true := by decide +kernel
def tbLc_0 : pTab := [(184, .aload_n 1, 1), (185, .aload_n 0, 1), (186, .iload_n 3, 1), (187, .iconst 1, 1), (188, .iadd, 1), (189, .iaload, 1), (190, .aload_n 0, 1), (191, .iload_n 3, 1), (192, .iconst 2, 1), (193, .iadd, 1), (194, .iaload, 1), (195, .invokevirtual 13, 3), (198, .aload_n 2, 1), (199, .aload_n 0, 1), (200, .iload_n 3, 1), (201, .iconst 1, 1), (202, .iadd, 1), (203, .iaload, 1), (204, .aload_n 0, 1), (205, .iload_n 3, 1), (206, .iconst 2, 1), (207, .iadd, 1), (208, .iaload, 1), (209, .invokevirtual 17, 3), (212, .if_icmp .eq 1145, 3), (215, .iconst 0, 1), (216, .ireturn, 1)]
theorem tbLc_0_ok : pTabOk cL_law tbLc_0 = true := by decide +kernel
set_option maxRecDepth 100000 in
theorem lc_0 {X : Nat × (Nat → Int32)} {sh : List PSh} {S : PSt} {i : Nat} (he : isEl sh) (hm : isMo sh) (h : rel S S) (hi : i + 6 ≤ X.1) (hx : X.1 < 2 ^ 31) (k : ∀ T, rel T T → pY tbLt X sh 1357 (lL i) [] T) : pY tbLc_0 X sh 184 (lL i) [] S := by
  obtain ⟨N, z, h⟩ := h
  refine l_aload (pc := 184) (j := 1) rfl rfl ?_
  refine la_arg (pc := 185) (k := 1) rfl rfl rfl rfl rfl (by decide) (by omega) hx ?_
  refine la_arg (pc := 190) (k := 2) rfl rfl rfl rfl rfl (by decide) (by omega) hx ?_
  obtain ⟨P1, g1, h2⟩ := tw_add he hm h (k := (X.2 (i + 1))) (d := (X.2 (i + 2)))
  refine l_call (pc := 195) (as := [.int (X.2 (i + 1)), .int (X.2 (i + 2))]) (rest := []) (b := 0) rfl ce_X8_add ml_L_13 im_X8_add se_X8_add he.1 rfl rfl rfl (by decide) (Nat.le_of_ble_eq_true rfl) g1 (fun r T hr => ?_)
  obtain ⟨v, rfl, P2, g2, h3⟩ := h2 r T hr
  refine l_st [.int v] rfl ?_
  refine l_aload (pc := 198) (j := 2) rfl rfl ?_
  refine la_arg (pc := 199) (k := 1) rfl rfl rfl rfl rfl (by decide) (by omega) hx ?_
  refine la_arg (pc := 204) (k := 2) rfl rfl rfl rfl rfl (by decide) (by omega) hx ?_
  refine l_call (pc := 209) (as := [.int (X.2 (i + 1)), .int (X.2 (i + 2))]) (rest := [.int v]) (b := 70) rfl ce_X9_add ml_L_17 im_X9_add se_X9_add hm.1 rfl rfl rfl (by decide) (Nat.le_of_ble_eq_true rfl) g2 (fun r2 T2 hr2 => ?_)
  obtain ⟨rfl, h4⟩ := h3 r2 T2 hr2
  refine l_st [.int v, .int v] rfl ?_
  refine l_eq (pc := 212) 1357 rfl (by decide) ?_
  exact pr_tab tbLt_ok (k T2 h4)
def tbLc_1 : pTab := [(217, .aload_n 1, 1), (218, .invokevirtual 18, 3), (221, .aload_n 2, 1), (222, .invokevirtual 22, 3), (225, .if_icmp .eq 1132, 3), (228, .iconst 0, 1), (229, .ireturn, 1)]
theorem tbLc_1_ok : pTabOk cL_law tbLc_1 = true := by decide +kernel
set_option maxRecDepth 100000 in
theorem lc_1 {X : Nat × (Nat → Int32)} {sh : List PSh} {S : PSt} {i : Nat} (he : isEl sh) (hm : isMo sh) (h : rel S S) (hi : i + 6 ≤ X.1) (hx : X.1 < 2 ^ 31) (k : ∀ T, rel T T → pY tbLt X sh 1357 (lL i) [] T) : pY tbLc_1 X sh 217 (lL i) [] S := by
  obtain ⟨N, z, h⟩ := h
  refine l_aload (pc := 217) (j := 1) rfl rfl ?_
  obtain ⟨P1, g1, h2⟩ := tw_drop he hm h
  refine l_call (pc := 218) (as := []) (rest := []) (b := 0) rfl ce_X8_drop ml_L_18 im_X8_drop se_X8_drop he.1 rfl rfl rfl (by decide) (Nat.le_of_ble_eq_true rfl) g1 (fun r T hr => ?_)
  obtain ⟨v, rfl, P2, g2, h3⟩ := h2 r T hr
  refine l_st [.int v] rfl ?_
  refine l_aload (pc := 221) (j := 2) rfl rfl ?_
  refine l_call (pc := 222) (as := []) (rest := [.int v]) (b := 70) rfl ce_X9_drop ml_L_22 im_X9_drop se_X9_drop hm.1 rfl rfl rfl (by decide) (Nat.le_of_ble_eq_true rfl) g2 (fun r2 T2 hr2 => ?_)
  obtain ⟨rfl, h4⟩ := h3 r2 T2 hr2
  refine l_st [.int v, .int v] rfl ?_
  refine l_eq (pc := 225) 1357 rfl (by decide) ?_
  exact pr_tab tbLt_ok (k T2 h4)
def tbLc_2 : pTab := [(230, .aload_n 1, 1), (231, .aload_n 0, 1), (232, .iload_n 3, 1), (233, .iconst 1, 1), (234, .iadd, 1), (235, .iaload, 1), (236, .aload_n 0, 1), (237, .iload_n 3, 1), (238, .iconst 2, 1), (239, .iadd, 1), (240, .iaload, 1), (241, .aload_n 0, 1), (242, .iload_n 3, 1), (243, .iconst 3, 1), (244, .iadd, 1), (245, .iaload, 1), (246, .invokevirtual 23, 3), (249, .aload_n 2, 1), (250, .aload_n 0, 1), (251, .iload_n 3, 1), (252, .iconst 1, 1), (253, .iadd, 1), (254, .iaload, 1), (255, .aload_n 0, 1), (256, .iload_n 3, 1), (257, .iconst 2, 1), (258, .iadd, 1), (259, .iaload, 1), (260, .aload_n 0, 1), (261, .iload_n 3, 1), (262, .iconst 3, 1), (263, .iadd, 1), (264, .iaload, 1), (265, .invokevirtual 27, 3), (268, .if_icmp .eq 1089, 3), (271, .iconst 0, 1), (272, .ireturn, 1)]
theorem tbLc_2_ok : pTabOk cL_law tbLc_2 = true := by decide +kernel
set_option maxRecDepth 100000 in
theorem lc_2 {X : Nat × (Nat → Int32)} {sh : List PSh} {S : PSt} {i : Nat} (he : isEl sh) (hm : isMo sh) (h : rel S S) (hi : i + 6 ≤ X.1) (hx : X.1 < 2 ^ 31) (k : ∀ T, rel T T → pY tbLt X sh 1357 (lL i) [] T) : pY tbLc_2 X sh 230 (lL i) [] S := by
  obtain ⟨N, z, h⟩ := h
  refine l_aload (pc := 230) (j := 1) rfl rfl ?_
  refine la_arg (pc := 231) (k := 1) rfl rfl rfl rfl rfl (by decide) (by omega) hx ?_
  refine la_arg (pc := 236) (k := 2) rfl rfl rfl rfl rfl (by decide) (by omega) hx ?_
  refine la_arg (pc := 241) (k := 3) rfl rfl rfl rfl rfl (by decide) (by omega) hx ?_
  obtain ⟨P1, g1, h2⟩ := tw_set he hm h (c := (X.2 (i + 1))) (what := (X.2 (i + 2))) (v := (X.2 (i + 3)))
  refine l_call (pc := 246) (as := [.int (X.2 (i + 1)), .int (X.2 (i + 2)), .int (X.2 (i + 3))]) (rest := []) (b := 0) rfl ce_X8_set ml_L_23 im_X8_set se_X8_set he.1 rfl rfl rfl (by decide) (Nat.le_of_ble_eq_true rfl) g1 (fun r T hr => ?_)
  obtain ⟨v, rfl, P2, g2, h3⟩ := h2 r T hr
  refine l_st [.int v] rfl ?_
  refine l_aload (pc := 249) (j := 2) rfl rfl ?_
  refine la_arg (pc := 250) (k := 1) rfl rfl rfl rfl rfl (by decide) (by omega) hx ?_
  refine la_arg (pc := 255) (k := 2) rfl rfl rfl rfl rfl (by decide) (by omega) hx ?_
  refine la_arg (pc := 260) (k := 3) rfl rfl rfl rfl rfl (by decide) (by omega) hx ?_
  refine l_call (pc := 265) (as := [.int (X.2 (i + 1)), .int (X.2 (i + 2)), .int (X.2 (i + 3))]) (rest := [.int v]) (b := 70) rfl ce_X9_set ml_L_27 im_X9_set se_X9_set hm.1 rfl rfl rfl (by decide) (Nat.le_of_ble_eq_true rfl) g2 (fun r2 T2 hr2 => ?_)
  obtain ⟨rfl, h4⟩ := h3 r2 T2 hr2
  refine l_st [.int v, .int v] rfl ?_
  refine l_eq (pc := 268) 1357 rfl (by decide) ?_
  exact pr_tab tbLt_ok (k T2 h4)
def tbLc_3 : pTab := [(273, .aload_n 1, 1), (274, .aload_n 0, 1), (275, .iload_n 3, 1), (276, .iconst 1, 1), (277, .iadd, 1), (278, .iaload, 1), (279, .aload_n 0, 1), (280, .iload_n 3, 1), (281, .iconst 2, 1), (282, .iadd, 1), (283, .iaload, 1), (284, .invokevirtual 28, 3), (287, .aload_n 2, 1), (288, .aload_n 0, 1), (289, .iload_n 3, 1), (290, .iconst 1, 1), (291, .iadd, 1), (292, .iaload, 1), (293, .aload_n 0, 1), (294, .iload_n 3, 1), (295, .iconst 2, 1), (296, .iadd, 1), (297, .iaload, 1), (298, .invokevirtual 31, 3), (301, .if_icmp .eq 1056, 3), (304, .iconst 0, 1), (305, .ireturn, 1)]
theorem tbLc_3_ok : pTabOk cL_law tbLc_3 = true := by decide +kernel
set_option maxRecDepth 100000 in
theorem lc_3 {X : Nat × (Nat → Int32)} {sh : List PSh} {S : PSt} {i : Nat} (he : isEl sh) (hm : isMo sh) (h : rel S S) (hi : i + 6 ≤ X.1) (hx : X.1 < 2 ^ 31) (k : ∀ T, rel T T → pY tbLt X sh 1357 (lL i) [] T) : pY tbLc_3 X sh 273 (lL i) [] S := by
  obtain ⟨N, z, h⟩ := h
  refine l_aload (pc := 273) (j := 1) rfl rfl ?_
  refine la_arg (pc := 274) (k := 1) rfl rfl rfl rfl rfl (by decide) (by omega) hx ?_
  refine la_arg (pc := 279) (k := 2) rfl rfl rfl rfl rfl (by decide) (by omega) hx ?_
  obtain ⟨P1, g1, h2⟩ := tw_of he hm h (c := (X.2 (i + 1))) (what := (X.2 (i + 2)))
  refine l_call (pc := 284) (as := [.int (X.2 (i + 1)), .int (X.2 (i + 2))]) (rest := []) (b := 0) rfl ce_X8_of ml_L_28 im_X8_of se_X8_of he.1 rfl rfl rfl (by decide) (Nat.le_of_ble_eq_true rfl) g1 (fun r T hr => ?_)
  obtain ⟨v, rfl, P2, g2, h3⟩ := h2 r T hr
  refine l_st [.int v] rfl ?_
  refine l_aload (pc := 287) (j := 2) rfl rfl ?_
  refine la_arg (pc := 288) (k := 1) rfl rfl rfl rfl rfl (by decide) (by omega) hx ?_
  refine la_arg (pc := 293) (k := 2) rfl rfl rfl rfl rfl (by decide) (by omega) hx ?_
  refine l_call (pc := 298) (as := [.int (X.2 (i + 1)), .int (X.2 (i + 2))]) (rest := [.int v]) (b := 70) rfl ce_X9_of ml_L_31 im_X9_of se_X9_of hm.1 rfl rfl rfl (by decide) (Nat.le_of_ble_eq_true rfl) g2 (fun r2 T2 hr2 => ?_)
  obtain ⟨rfl, h4⟩ := h3 r2 T2 hr2
  refine l_st [.int v, .int v] rfl ?_
  refine l_eq (pc := 301) 1357 rfl (by decide) ?_
  exact pr_tab tbLt_ok (k T2 h4)
def tbLc_4 : pTab := [(306, .aload_n 1, 1), (307, .aload_n 0, 1), (308, .iload_n 3, 1), (309, .iconst 1, 1), (310, .iadd, 1), (311, .iaload, 1), (312, .aload_n 0, 1), (313, .iload_n 3, 1), (314, .iconst 2, 1), (315, .iadd, 1), (316, .iaload, 1), (317, .invokevirtual 32, 3), (320, .aload_n 2, 1), (321, .aload_n 0, 1), (322, .iload_n 3, 1), (323, .iconst 1, 1), (324, .iadd, 1), (325, .iaload, 1), (326, .aload_n 0, 1), (327, .iload_n 3, 1), (328, .iconst 2, 1), (329, .iadd, 1), (330, .iaload, 1), (331, .invokevirtual 35, 3), (334, .if_icmp .eq 1023, 3), (337, .iconst 0, 1), (338, .ireturn, 1)]
theorem tbLc_4_ok : pTabOk cL_law tbLc_4 = true := by decide +kernel
set_option maxRecDepth 100000 in
theorem lc_4 {X : Nat × (Nat → Int32)} {sh : List PSh} {S : PSt} {i : Nat} (he : isEl sh) (hm : isMo sh) (h : rel S S) (hi : i + 6 ≤ X.1) (hx : X.1 < 2 ^ 31) (k : ∀ T, rel T T → pY tbLt X sh 1357 (lL i) [] T) : pY tbLc_4 X sh 306 (lL i) [] S := by
  obtain ⟨N, z, h⟩ := h
  refine l_aload (pc := 306) (j := 1) rfl rfl ?_
  refine la_arg (pc := 307) (k := 1) rfl rfl rfl rfl rfl (by decide) (by omega) hx ?_
  refine la_arg (pc := 312) (k := 2) rfl rfl rfl rfl rfl (by decide) (by omega) hx ?_
  obtain ⟨P1, g1, h2⟩ := tw_spring he hm h (c := (X.2 (i + 1))) (what := (X.2 (i + 2)))
  refine l_call (pc := 317) (as := [.int (X.2 (i + 1)), .int (X.2 (i + 2))]) (rest := []) (b := 0) rfl ce_X8_spring ml_L_32 im_X8_spring se_X8_spring he.1 rfl rfl rfl (by decide) (Nat.le_of_ble_eq_true rfl) g1 (fun r T hr => ?_)
  obtain ⟨v, rfl, P2, g2, h3⟩ := h2 r T hr
  refine l_st [.int v] rfl ?_
  refine l_aload (pc := 320) (j := 2) rfl rfl ?_
  refine la_arg (pc := 321) (k := 1) rfl rfl rfl rfl rfl (by decide) (by omega) hx ?_
  refine la_arg (pc := 326) (k := 2) rfl rfl rfl rfl rfl (by decide) (by omega) hx ?_
  refine l_call (pc := 331) (as := [.int (X.2 (i + 1)), .int (X.2 (i + 2))]) (rest := [.int v]) (b := 70) rfl ce_X9_spring ml_L_35 im_X9_spring se_X9_spring hm.1 rfl rfl rfl (by decide) (Nat.le_of_ble_eq_true rfl) g2 (fun r2 T2 hr2 => ?_)
  obtain ⟨rfl, h4⟩ := h3 r2 T2 hr2
  refine l_st [.int v, .int v] rfl ?_
  refine l_eq (pc := 334) 1357 rfl (by decide) ?_
  exact pr_tab tbLt_ok (k T2 h4)
def tbLc_5 : pTab := [(339, .aload_n 1, 1), (340, .aload_n 0, 1), (341, .iload_n 3, 1), (342, .iconst 1, 1), (343, .iadd, 1), (344, .iaload, 1), (345, .invokevirtual 36, 3), (348, .aload_n 2, 1), (349, .aload_n 0, 1), (350, .iload_n 3, 1), (351, .iconst 1, 1), (352, .iadd, 1), (353, .iaload, 1), (354, .invokevirtual 40, 3), (357, .if_icmp .eq 1000, 3), (360, .iconst 0, 1), (361, .ireturn, 1)]
theorem tbLc_5_ok : pTabOk cL_law tbLc_5 = true := by decide +kernel
set_option maxRecDepth 100000 in
theorem lc_5 {X : Nat × (Nat → Int32)} {sh : List PSh} {S : PSt} {i : Nat} (he : isEl sh) (hm : isMo sh) (h : rel S S) (hi : i + 6 ≤ X.1) (hx : X.1 < 2 ^ 31) (k : ∀ T, rel T T → pY tbLt X sh 1357 (lL i) [] T) : pY tbLc_5 X sh 339 (lL i) [] S := by
  obtain ⟨N, z, h⟩ := h
  refine l_aload (pc := 339) (j := 1) rfl rfl ?_
  refine la_arg (pc := 340) (k := 1) rfl rfl rfl rfl rfl (by decide) (by omega) hx ?_
  obtain ⟨P1, g1, h2⟩ := tw_width he hm h (v := (X.2 (i + 1)))
  refine l_call (pc := 345) (as := [.int (X.2 (i + 1))]) (rest := []) (b := 0) rfl ce_X8_width ml_L_36 im_X8_width se_X8_width he.1 rfl rfl rfl (by decide) (Nat.le_of_ble_eq_true rfl) g1 (fun r T hr => ?_)
  obtain ⟨v, rfl, P2, g2, h3⟩ := h2 r T hr
  refine l_st [.int v] rfl ?_
  refine l_aload (pc := 348) (j := 2) rfl rfl ?_
  refine la_arg (pc := 349) (k := 1) rfl rfl rfl rfl rfl (by decide) (by omega) hx ?_
  refine l_call (pc := 354) (as := [.int (X.2 (i + 1))]) (rest := [.int v]) (b := 70) rfl ce_X9_width ml_L_40 im_X9_width se_X9_width hm.1 rfl rfl rfl (by decide) (Nat.le_of_ble_eq_true rfl) g2 (fun r2 T2 hr2 => ?_)
  obtain ⟨rfl, h4⟩ := h3 r2 T2 hr2
  refine l_st [.int v, .int v] rfl ?_
  refine l_eq (pc := 357) 1357 rfl (by decide) ?_
  exact pr_tab tbLt_ok (k T2 h4)
def tbLc_6 : pTab := [(362, .aload_n 1, 1), (363, .aload_n 0, 1), (364, .iload_n 3, 1), (365, .iconst 1, 1), (366, .iadd, 1), (367, .iaload, 1), (368, .aload_n 0, 1), (369, .iload_n 3, 1), (370, .iconst 2, 1), (371, .iadd, 1), (372, .iaload, 1), (373, .invokevirtual 41, 3), (376, .aload_n 2, 1), (377, .aload_n 0, 1), (378, .iload_n 3, 1), (379, .iconst 1, 1), (380, .iadd, 1), (381, .iaload, 1), (382, .aload_n 0, 1), (383, .iload_n 3, 1), (384, .iconst 2, 1), (385, .iadd, 1), (386, .iaload, 1), (387, .invokevirtual 44, 3), (390, .if_icmp .eq 967, 3), (393, .iconst 0, 1), (394, .ireturn, 1)]
theorem tbLc_6_ok : pTabOk cL_law tbLc_6 = true := by decide +kernel
set_option maxRecDepth 100000 in
theorem lc_6 {X : Nat × (Nat → Int32)} {sh : List PSh} {S : PSt} {i : Nat} (he : isEl sh) (hm : isMo sh) (h : rel S S) (hi : i + 6 ≤ X.1) (hx : X.1 < 2 ^ 31) (k : ∀ T, rel T T → pY tbLt X sh 1357 (lL i) [] T) : pY tbLc_6 X sh 362 (lL i) [] S := by
  obtain ⟨N, z, h⟩ := h
  refine l_aload (pc := 362) (j := 1) rfl rfl ?_
  refine la_arg (pc := 363) (k := 1) rfl rfl rfl rfl rfl (by decide) (by omega) hx ?_
  refine la_arg (pc := 368) (k := 2) rfl rfl rfl rfl rfl (by decide) (by omega) hx ?_
  obtain ⟨P1, g1, h2⟩ := tw_force he hm h (a := (X.2 (i + 1))) (b := (X.2 (i + 2)))
  refine l_call (pc := 373) (as := [.int (X.2 (i + 1)), .int (X.2 (i + 2))]) (rest := []) (b := 0) rfl ce_X8_force ml_L_41 im_X8_force se_X8_force he.1 rfl rfl rfl (by decide) (Nat.le_of_ble_eq_true rfl) g1 (fun r T hr => ?_)
  obtain ⟨v, rfl, P2, g2, h3⟩ := h2 r T hr
  refine l_st [.int v] rfl ?_
  refine l_aload (pc := 376) (j := 2) rfl rfl ?_
  refine la_arg (pc := 377) (k := 1) rfl rfl rfl rfl rfl (by decide) (by omega) hx ?_
  refine la_arg (pc := 382) (k := 2) rfl rfl rfl rfl rfl (by decide) (by omega) hx ?_
  refine l_call (pc := 387) (as := [.int (X.2 (i + 1)), .int (X.2 (i + 2))]) (rest := [.int v]) (b := 70) rfl ce_X9_force ml_L_44 im_X9_force se_X9_force hm.1 rfl rfl rfl (by decide) (Nat.le_of_ble_eq_true rfl) g2 (fun r2 T2 hr2 => ?_)
  obtain ⟨rfl, h4⟩ := h3 r2 T2 hr2
  refine l_st [.int v, .int v] rfl ?_
  refine l_eq (pc := 390) 1357 rfl (by decide) ?_
  exact pr_tab tbLt_ok (k T2 h4)
def tbLc_7 : pTab := [(395, .aload_n 1, 1), (396, .aload_n 0, 1), (397, .iload_n 3, 1), (398, .iconst 1, 1), (399, .iadd, 1), (400, .iaload, 1), (401, .aload_n 0, 1), (402, .iload_n 3, 1), (403, .iconst 2, 1), (404, .iadd, 1), (405, .iaload, 1), (406, .invokevirtual 45, 3), (409, .aload_n 2, 1), (410, .aload_n 0, 1), (411, .iload_n 3, 1), (412, .iconst 1, 1), (413, .iadd, 1), (414, .iaload, 1), (415, .aload_n 0, 1), (416, .iload_n 3, 1), (417, .iconst 2, 1), (418, .iadd, 1), (419, .iaload, 1), (420, .invokevirtual 48, 3), (423, .if_icmp .eq 934, 3), (426, .iconst 0, 1), (427, .ireturn, 1)]
theorem tbLc_7_ok : pTabOk cL_law tbLc_7 = true := by decide +kernel
set_option maxRecDepth 100000 in
theorem lc_7 {X : Nat × (Nat → Int32)} {sh : List PSh} {S : PSt} {i : Nat} (he : isEl sh) (hm : isMo sh) (h : rel S S) (hi : i + 6 ≤ X.1) (hx : X.1 < 2 ^ 31) (k : ∀ T, rel T T → pY tbLt X sh 1357 (lL i) [] T) : pY tbLc_7 X sh 395 (lL i) [] S := by
  obtain ⟨N, z, h⟩ := h
  refine l_aload (pc := 395) (j := 1) rfl rfl ?_
  refine la_arg (pc := 396) (k := 1) rfl rfl rfl rfl rfl (by decide) (by omega) hx ?_
  refine la_arg (pc := 401) (k := 2) rfl rfl rfl rfl rfl (by decide) (by omega) hx ?_
  obtain ⟨P1, g1, h2⟩ := tw_held he hm h (a := (X.2 (i + 1))) (b := (X.2 (i + 2)))
  refine l_call (pc := 406) (as := [.int (X.2 (i + 1)), .int (X.2 (i + 2))]) (rest := []) (b := 0) rfl ce_X8_held ml_L_45 im_X8_held se_X8_held he.1 rfl rfl rfl (by decide) (Nat.le_of_ble_eq_true rfl) g1 (fun r T hr => ?_)
  obtain ⟨v, rfl, P2, g2, h3⟩ := h2 r T hr
  refine l_st [.int v] rfl ?_
  refine l_aload (pc := 409) (j := 2) rfl rfl ?_
  refine la_arg (pc := 410) (k := 1) rfl rfl rfl rfl rfl (by decide) (by omega) hx ?_
  refine la_arg (pc := 415) (k := 2) rfl rfl rfl rfl rfl (by decide) (by omega) hx ?_
  refine l_call (pc := 420) (as := [.int (X.2 (i + 1)), .int (X.2 (i + 2))]) (rest := [.int v]) (b := 70) rfl ce_X9_held ml_L_48 im_X9_held se_X9_held hm.1 rfl rfl rfl (by decide) (Nat.le_of_ble_eq_true rfl) g2 (fun r2 T2 hr2 => ?_)
  obtain ⟨rfl, h4⟩ := h3 r2 T2 hr2
  refine l_st [.int v, .int v] rfl ?_
  refine l_eq (pc := 423) 1357 rfl (by decide) ?_
  exact pr_tab tbLt_ok (k T2 h4)
def tbLc_8 : pTab := [(428, .aload_n 1, 1), (429, .aload_n 0, 1), (430, .iload_n 3, 1), (431, .iconst 1, 1), (432, .iadd, 1), (433, .iaload, 1), (434, .aload_n 0, 1), (435, .iload_n 3, 1), (436, .iconst 2, 1), (437, .iadd, 1), (438, .iaload, 1), (439, .aload_n 0, 1), (440, .iload_n 3, 1), (441, .iconst 3, 1), (442, .iadd, 1), (443, .iaload, 1), (444, .aload_n 0, 1), (445, .iload_n 3, 1), (446, .iconst 4, 1), (447, .iadd, 1), (448, .iaload, 1), (449, .invokevirtual 49, 3), (452, .aload_n 2, 1), (453, .aload_n 0, 1), (454, .iload_n 3, 1), (455, .iconst 1, 1), (456, .iadd, 1), (457, .iaload, 1), (458, .aload_n 0, 1), (459, .iload_n 3, 1), (460, .iconst 2, 1), (461, .iadd, 1), (462, .iaload, 1), (463, .aload_n 0, 1), (464, .iload_n 3, 1), (465, .iconst 3, 1), (466, .iadd, 1), (467, .iaload, 1), (468, .aload_n 0, 1), (469, .iload_n 3, 1), (470, .iconst 4, 1), (471, .iadd, 1), (472, .iaload, 1), (473, .invokevirtual 53, 3), (476, .if_icmp .eq 881, 3), (479, .iconst 0, 1), (480, .ireturn, 1)]
theorem tbLc_8_ok : pTabOk cL_law tbLc_8 = true := by decide +kernel
set_option maxRecDepth 100000 in
theorem lc_8 {X : Nat × (Nat → Int32)} {sh : List PSh} {S : PSt} {i : Nat} (he : isEl sh) (hm : isMo sh) (h : rel S S) (hi : i + 6 ≤ X.1) (hx : X.1 < 2 ^ 31) (k : ∀ T, rel T T → pY tbLt X sh 1357 (lL i) [] T) : pY tbLc_8 X sh 428 (lL i) [] S := by
  obtain ⟨N, z, h⟩ := h
  refine l_aload (pc := 428) (j := 1) rfl rfl ?_
  refine la_arg (pc := 429) (k := 1) rfl rfl rfl rfl rfl (by decide) (by omega) hx ?_
  refine la_arg (pc := 434) (k := 2) rfl rfl rfl rfl rfl (by decide) (by omega) hx ?_
  refine la_arg (pc := 439) (k := 3) rfl rfl rfl rfl rfl (by decide) (by omega) hx ?_
  refine la_arg (pc := 444) (k := 4) rfl rfl rfl rfl rfl (by decide) (by omega) hx ?_
  obtain ⟨P1, g1, h2⟩ := tw_at he hm h (a := (X.2 (i + 1))) (b := (X.2 (i + 2))) (i := (X.2 (i + 3))) (what := (X.2 (i + 4)))
  refine l_call (pc := 449) (as := [.int (X.2 (i + 1)), .int (X.2 (i + 2)), .int (X.2 (i + 3)), .int (X.2 (i + 4))]) (rest := []) (b := 0) rfl ce_X8_at ml_L_49 im_X8_at se_X8_at he.1 rfl rfl rfl (by decide) (Nat.le_of_ble_eq_true rfl) g1 (fun r T hr => ?_)
  obtain ⟨v, rfl, P2, g2, h3⟩ := h2 r T hr
  refine l_st [.int v] rfl ?_
  refine l_aload (pc := 452) (j := 2) rfl rfl ?_
  refine la_arg (pc := 453) (k := 1) rfl rfl rfl rfl rfl (by decide) (by omega) hx ?_
  refine la_arg (pc := 458) (k := 2) rfl rfl rfl rfl rfl (by decide) (by omega) hx ?_
  refine la_arg (pc := 463) (k := 3) rfl rfl rfl rfl rfl (by decide) (by omega) hx ?_
  refine la_arg (pc := 468) (k := 4) rfl rfl rfl rfl rfl (by decide) (by omega) hx ?_
  refine l_call (pc := 473) (as := [.int (X.2 (i + 1)), .int (X.2 (i + 2)), .int (X.2 (i + 3)), .int (X.2 (i + 4))]) (rest := [.int v]) (b := 70) rfl ce_X9_at ml_L_53 im_X9_at se_X9_at hm.1 rfl rfl rfl (by decide) (Nat.le_of_ble_eq_true rfl) g2 (fun r2 T2 hr2 => ?_)
  obtain ⟨rfl, h4⟩ := h3 r2 T2 hr2
  refine l_st [.int v, .int v] rfl ?_
  refine l_eq (pc := 476) 1357 rfl (by decide) ?_
  exact pr_tab tbLt_ok (k T2 h4)
def tbLc_9 : pTab := [(481, .aload_n 1, 1), (482, .aload_n 0, 1), (483, .iload_n 3, 1), (484, .iconst 1, 1), (485, .iadd, 1), (486, .iaload, 1), (487, .aload_n 0, 1), (488, .iload_n 3, 1), (489, .iconst 2, 1), (490, .iadd, 1), (491, .iaload, 1), (492, .invokevirtual 54, 3), (495, .aload_n 2, 1), (496, .aload_n 0, 1), (497, .iload_n 3, 1), (498, .iconst 1, 1), (499, .iadd, 1), (500, .iaload, 1), (501, .aload_n 0, 1), (502, .iload_n 3, 1), (503, .iconst 2, 1), (504, .iadd, 1), (505, .iaload, 1), (506, .invokevirtual 57, 3), (509, .if_icmp .eq 848, 3), (512, .iconst 0, 1), (513, .ireturn, 1)]
theorem tbLc_9_ok : pTabOk cL_law tbLc_9 = true := by decide +kernel
set_option maxRecDepth 100000 in
theorem lc_9 {X : Nat × (Nat → Int32)} {sh : List PSh} {S : PSt} {i : Nat} (he : isEl sh) (hm : isMo sh) (h : rel S S) (hi : i + 6 ≤ X.1) (hx : X.1 < 2 ^ 31) (k : ∀ T, rel T T → pY tbLt X sh 1357 (lL i) [] T) : pY tbLc_9 X sh 481 (lL i) [] S := by
  obtain ⟨N, z, h⟩ := h
  refine l_aload (pc := 481) (j := 1) rfl rfl ?_
  refine la_arg (pc := 482) (k := 1) rfl rfl rfl rfl rfl (by decide) (by omega) hx ?_
  refine la_arg (pc := 487) (k := 2) rfl rfl rfl rfl rfl (by decide) (by omega) hx ?_
  obtain ⟨P1, g1, h2⟩ := tw_bad he hm h (a := (X.2 (i + 1))) (b := (X.2 (i + 2)))
  refine l_call (pc := 492) (as := [.int (X.2 (i + 1)), .int (X.2 (i + 2))]) (rest := []) (b := 0) rfl ce_X8_bad ml_L_54 im_X8_bad se_X8_bad he.1 rfl rfl rfl (by decide) (Nat.le_of_ble_eq_true rfl) g1 (fun r T hr => ?_)
  obtain ⟨v, rfl, P2, g2, h3⟩ := h2 r T hr
  refine l_st [.int v] rfl ?_
  refine l_aload (pc := 495) (j := 2) rfl rfl ?_
  refine la_arg (pc := 496) (k := 1) rfl rfl rfl rfl rfl (by decide) (by omega) hx ?_
  refine la_arg (pc := 501) (k := 2) rfl rfl rfl rfl rfl (by decide) (by omega) hx ?_
  refine l_call (pc := 506) (as := [.int (X.2 (i + 1)), .int (X.2 (i + 2))]) (rest := [.int v]) (b := 70) rfl ce_X9_bad ml_L_57 im_X9_bad se_X9_bad hm.1 rfl rfl rfl (by decide) (Nat.le_of_ble_eq_true rfl) g2 (fun r2 T2 hr2 => ?_)
  obtain ⟨rfl, h4⟩ := h3 r2 T2 hr2
  refine l_st [.int v, .int v] rfl ?_
  refine l_eq (pc := 509) 1357 rfl (by decide) ?_
  exact pr_tab tbLt_ok (k T2 h4)
def tbLc_10 : pTab := [(514, .aload_n 1, 1), (515, .aload_n 0, 1), (516, .iload_n 3, 1), (517, .iconst 1, 1), (518, .iadd, 1), (519, .iaload, 1), (520, .aload_n 0, 1), (521, .iload_n 3, 1), (522, .iconst 2, 1), (523, .iadd, 1), (524, .iaload, 1), (525, .aload_n 0, 1), (526, .iload_n 3, 1), (527, .iconst 3, 1), (528, .iadd, 1), (529, .iaload, 1), (530, .aload_n 0, 1), (531, .iload_n 3, 1), (532, .iconst 4, 1), (533, .iadd, 1), (534, .iaload, 1), (535, .invokevirtual 58, 3), (538, .aload_n 2, 1), (539, .aload_n 0, 1), (540, .iload_n 3, 1), (541, .iconst 1, 1), (542, .iadd, 1), (543, .iaload, 1), (544, .aload_n 0, 1), (545, .iload_n 3, 1), (546, .iconst 2, 1), (547, .iadd, 1), (548, .iaload, 1), (549, .aload_n 0, 1), (550, .iload_n 3, 1), (551, .iconst 3, 1), (552, .iadd, 1), (553, .iaload, 1), (554, .aload_n 0, 1), (555, .iload_n 3, 1), (556, .iconst 4, 1), (557, .iadd, 1), (558, .iaload, 1), (559, .invokevirtual 61, 3), (562, .if_icmp .eq 795, 3), (565, .iconst 0, 1), (566, .ireturn, 1)]
theorem tbLc_10_ok : pTabOk cL_law tbLc_10 = true := by decide +kernel
set_option maxRecDepth 100000 in
theorem lc_10 {X : Nat × (Nat → Int32)} {sh : List PSh} {S : PSt} {i : Nat} (he : isEl sh) (hm : isMo sh) (h : rel S S) (hi : i + 6 ≤ X.1) (hx : X.1 < 2 ^ 31) (k : ∀ T, rel T T → pY tbLt X sh 1357 (lL i) [] T) : pY tbLc_10 X sh 514 (lL i) [] S := by
  obtain ⟨N, z, h⟩ := h
  refine l_aload (pc := 514) (j := 1) rfl rfl ?_
  refine la_arg (pc := 515) (k := 1) rfl rfl rfl rfl rfl (by decide) (by omega) hx ?_
  refine la_arg (pc := 520) (k := 2) rfl rfl rfl rfl rfl (by decide) (by omega) hx ?_
  refine la_arg (pc := 525) (k := 3) rfl rfl rfl rfl rfl (by decide) (by omega) hx ?_
  refine la_arg (pc := 530) (k := 4) rfl rfl rfl rfl rfl (by decide) (by omega) hx ?_
  obtain ⟨P1, g1, h2⟩ := tw_sky he hm h (a := (X.2 (i + 1))) (b := (X.2 (i + 2))) (side := (X.2 (i + 3))) (cell := (X.2 (i + 4)))
  refine l_call (pc := 535) (as := [.int (X.2 (i + 1)), .int (X.2 (i + 2)), .int (X.2 (i + 3)), .int (X.2 (i + 4))]) (rest := []) (b := 0) rfl ce_X8_sky ml_L_58 im_X8_sky se_X8_sky he.1 rfl rfl rfl (by decide) (Nat.le_of_ble_eq_true rfl) g1 (fun r T hr => ?_)
  obtain ⟨v, rfl, P2, g2, h3⟩ := h2 r T hr
  refine l_st [.int v] rfl ?_
  refine l_aload (pc := 538) (j := 2) rfl rfl ?_
  refine la_arg (pc := 539) (k := 1) rfl rfl rfl rfl rfl (by decide) (by omega) hx ?_
  refine la_arg (pc := 544) (k := 2) rfl rfl rfl rfl rfl (by decide) (by omega) hx ?_
  refine la_arg (pc := 549) (k := 3) rfl rfl rfl rfl rfl (by decide) (by omega) hx ?_
  refine la_arg (pc := 554) (k := 4) rfl rfl rfl rfl rfl (by decide) (by omega) hx ?_
  refine l_call (pc := 559) (as := [.int (X.2 (i + 1)), .int (X.2 (i + 2)), .int (X.2 (i + 3)), .int (X.2 (i + 4))]) (rest := [.int v]) (b := 70) rfl ce_X9_sky ml_L_61 im_X9_sky se_X9_sky hm.1 rfl rfl rfl (by decide) (Nat.le_of_ble_eq_true rfl) g2 (fun r2 T2 hr2 => ?_)
  obtain ⟨rfl, h4⟩ := h3 r2 T2 hr2
  refine l_st [.int v, .int v] rfl ?_
  refine l_eq (pc := 562) 1357 rfl (by decide) ?_
  exact pr_tab tbLt_ok (k T2 h4)
def tbLc_11 : pTab := [(567, .aload_n 1, 1), (568, .aload_n 0, 1), (569, .iload_n 3, 1), (570, .iconst 1, 1), (571, .iadd, 1), (572, .iaload, 1), (573, .aload_n 0, 1), (574, .iload_n 3, 1), (575, .iconst 2, 1), (576, .iadd, 1), (577, .iaload, 1), (578, .aload_n 0, 1), (579, .iload_n 3, 1), (580, .iconst 3, 1), (581, .iadd, 1), (582, .iaload, 1), (583, .aload_n 0, 1), (584, .iload_n 3, 1), (585, .iconst 4, 1), (586, .iadd, 1), (587, .iaload, 1), (588, .invokevirtual 62, 3), (591, .aload_n 2, 1), (592, .aload_n 0, 1), (593, .iload_n 3, 1), (594, .iconst 1, 1), (595, .iadd, 1), (596, .iaload, 1), (597, .aload_n 0, 1), (598, .iload_n 3, 1), (599, .iconst 2, 1), (600, .iadd, 1), (601, .iaload, 1), (602, .aload_n 0, 1), (603, .iload_n 3, 1), (604, .iconst 3, 1), (605, .iadd, 1), (606, .iaload, 1), (607, .aload_n 0, 1), (608, .iload_n 3, 1), (609, .iconst 4, 1), (610, .iadd, 1), (611, .iaload, 1), (612, .invokevirtual 65, 3), (615, .if_icmp .eq 742, 3), (618, .iconst 0, 1), (619, .ireturn, 1)]
theorem tbLc_11_ok : pTabOk cL_law tbLc_11 = true := by decide +kernel
set_option maxRecDepth 100000 in
theorem lc_11 {X : Nat × (Nat → Int32)} {sh : List PSh} {S : PSt} {i : Nat} (he : isEl sh) (hm : isMo sh) (h : rel S S) (hi : i + 6 ≤ X.1) (hx : X.1 < 2 ^ 31) (k : ∀ T, rel T T → pY tbLt X sh 1357 (lL i) [] T) : pY tbLc_11 X sh 567 (lL i) [] S := by
  obtain ⟨N, z, h⟩ := h
  refine l_aload (pc := 567) (j := 1) rfl rfl ?_
  refine la_arg (pc := 568) (k := 1) rfl rfl rfl rfl rfl (by decide) (by omega) hx ?_
  refine la_arg (pc := 573) (k := 2) rfl rfl rfl rfl rfl (by decide) (by omega) hx ?_
  refine la_arg (pc := 578) (k := 3) rfl rfl rfl rfl rfl (by decide) (by omega) hx ?_
  refine la_arg (pc := 583) (k := 4) rfl rfl rfl rfl rfl (by decide) (by omega) hx ?_
  obtain ⟨P1, g1, h2⟩ := tw_apart he hm h (a := (X.2 (i + 1))) (b := (X.2 (i + 2))) (c := (X.2 (i + 3))) (e := (X.2 (i + 4)))
  refine l_call (pc := 588) (as := [.int (X.2 (i + 1)), .int (X.2 (i + 2)), .int (X.2 (i + 3)), .int (X.2 (i + 4))]) (rest := []) (b := 0) rfl ce_X8_apart ml_L_62 im_X8_apart se_X8_apart he.1 rfl rfl rfl (by decide) (Nat.le_of_ble_eq_true rfl) g1 (fun r T hr => ?_)
  obtain ⟨v, rfl, P2, g2, h3⟩ := h2 r T hr
  refine l_st [.int v] rfl ?_
  refine l_aload (pc := 591) (j := 2) rfl rfl ?_
  refine la_arg (pc := 592) (k := 1) rfl rfl rfl rfl rfl (by decide) (by omega) hx ?_
  refine la_arg (pc := 597) (k := 2) rfl rfl rfl rfl rfl (by decide) (by omega) hx ?_
  refine la_arg (pc := 602) (k := 3) rfl rfl rfl rfl rfl (by decide) (by omega) hx ?_
  refine la_arg (pc := 607) (k := 4) rfl rfl rfl rfl rfl (by decide) (by omega) hx ?_
  refine l_call (pc := 612) (as := [.int (X.2 (i + 1)), .int (X.2 (i + 2)), .int (X.2 (i + 3)), .int (X.2 (i + 4))]) (rest := [.int v]) (b := 70) rfl ce_X9_apart ml_L_65 im_X9_apart se_X9_apart hm.1 rfl rfl rfl (by decide) (Nat.le_of_ble_eq_true rfl) g2 (fun r2 T2 hr2 => ?_)
  obtain ⟨rfl, h4⟩ := h3 r2 T2 hr2
  refine l_st [.int v, .int v] rfl ?_
  refine l_eq (pc := 615) 1357 rfl (by decide) ?_
  exact pr_tab tbLt_ok (k T2 h4)
def tbLc_12 : pTab := [(620, .aload_n 1, 1), (621, .invokevirtual 66, 3), (624, .aload_n 2, 1), (625, .invokevirtual 69, 3), (628, .if_icmp .eq 729, 3), (631, .iconst 0, 1), (632, .ireturn, 1)]
theorem tbLc_12_ok : pTabOk cL_law tbLc_12 = true := by decide +kernel
set_option maxRecDepth 100000 in
theorem lc_12 {X : Nat × (Nat → Int32)} {sh : List PSh} {S : PSt} {i : Nat} (he : isEl sh) (hm : isMo sh) (h : rel S S) (hi : i + 6 ≤ X.1) (hx : X.1 < 2 ^ 31) (k : ∀ T, rel T T → pY tbLt X sh 1357 (lL i) [] T) : pY tbLc_12 X sh 620 (lL i) [] S := by
  obtain ⟨N, z, h⟩ := h
  refine l_aload (pc := 620) (j := 1) rfl rfl ?_
  obtain ⟨P1, g1, h2⟩ := tw_lines he hm h
  refine l_call (pc := 621) (as := []) (rest := []) (b := 0) rfl ce_X8_lines ml_L_66 im_X8_lines se_X8_lines he.1 rfl rfl rfl (by decide) (Nat.le_of_ble_eq_true rfl) g1 (fun r T hr => ?_)
  obtain ⟨v, rfl, P2, g2, h3⟩ := h2 r T hr
  refine l_st [.int v] rfl ?_
  refine l_aload (pc := 624) (j := 2) rfl rfl ?_
  refine l_call (pc := 625) (as := []) (rest := [.int v]) (b := 70) rfl ce_X9_lines ml_L_69 im_X9_lines se_X9_lines hm.1 rfl rfl rfl (by decide) (Nat.le_of_ble_eq_true rfl) g2 (fun r2 T2 hr2 => ?_)
  obtain ⟨rfl, h4⟩ := h3 r2 T2 hr2
  refine l_st [.int v, .int v] rfl ?_
  refine l_eq (pc := 628) 1357 rfl (by decide) ?_
  exact pr_tab tbLt_ok (k T2 h4)
def tbLc_13 : pTab := [(633, .aload_n 1, 1), (634, .aload_n 0, 1), (635, .iload_n 3, 1), (636, .iconst 1, 1), (637, .iadd, 1), (638, .iaload, 1), (639, .aload_n 0, 1), (640, .iload_n 3, 1), (641, .iconst 2, 1), (642, .iadd, 1), (643, .iaload, 1), (644, .invokevirtual 70, 3), (647, .aload_n 2, 1), (648, .aload_n 0, 1), (649, .iload_n 3, 1), (650, .iconst 1, 1), (651, .iadd, 1), (652, .iaload, 1), (653, .aload_n 0, 1), (654, .iload_n 3, 1), (655, .iconst 2, 1), (656, .iadd, 1), (657, .iaload, 1), (658, .invokevirtual 73, 3), (661, .if_icmp .eq 696, 3), (664, .iconst 0, 1), (665, .ireturn, 1)]
theorem tbLc_13_ok : pTabOk cL_law tbLc_13 = true := by decide +kernel
set_option maxRecDepth 100000 in
theorem lc_13 {X : Nat × (Nat → Int32)} {sh : List PSh} {S : PSt} {i : Nat} (he : isEl sh) (hm : isMo sh) (h : rel S S) (hi : i + 6 ≤ X.1) (hx : X.1 < 2 ^ 31) (k : ∀ T, rel T T → pY tbLt X sh 1357 (lL i) [] T) : pY tbLc_13 X sh 633 (lL i) [] S := by
  obtain ⟨N, z, h⟩ := h
  refine l_aload (pc := 633) (j := 1) rfl rfl ?_
  refine la_arg (pc := 634) (k := 1) rfl rfl rfl rfl rfl (by decide) (by omega) hx ?_
  refine la_arg (pc := 639) (k := 2) rfl rfl rfl rfl rfl (by decide) (by omega) hx ?_
  obtain ⟨P1, g1, h2⟩ := tw_line he hm h (k := (X.2 (i + 1))) (what := (X.2 (i + 2)))
  refine l_call (pc := 644) (as := [.int (X.2 (i + 1)), .int (X.2 (i + 2))]) (rest := []) (b := 0) rfl ce_X8_line ml_L_70 im_X8_line se_X8_line he.1 rfl rfl rfl (by decide) (Nat.le_of_ble_eq_true rfl) g1 (fun r T hr => ?_)
  obtain ⟨v, rfl, P2, g2, h3⟩ := h2 r T hr
  refine l_st [.int v] rfl ?_
  refine l_aload (pc := 647) (j := 2) rfl rfl ?_
  refine la_arg (pc := 648) (k := 1) rfl rfl rfl rfl rfl (by decide) (by omega) hx ?_
  refine la_arg (pc := 653) (k := 2) rfl rfl rfl rfl rfl (by decide) (by omega) hx ?_
  refine l_call (pc := 658) (as := [.int (X.2 (i + 1)), .int (X.2 (i + 2))]) (rest := [.int v]) (b := 70) rfl ce_X9_line ml_L_73 im_X9_line se_X9_line hm.1 rfl rfl rfl (by decide) (Nat.le_of_ble_eq_true rfl) g2 (fun r2 T2 hr2 => ?_)
  obtain ⟨rfl, h4⟩ := h3 r2 T2 hr2
  refine l_st [.int v, .int v] rfl ?_
  refine l_eq (pc := 661) 1357 rfl (by decide) ?_
  exact pr_tab tbLt_ok (k T2 h4)
def tbLc_14 : pTab := [(666, .aload_n 1, 1), (667, .invokevirtual 74, 3), (670, .aload_n 2, 1), (671, .invokevirtual 77, 3), (674, .if_icmp .eq 683, 3), (677, .iconst 0, 1), (678, .ireturn, 1)]
theorem tbLc_14_ok : pTabOk cL_law tbLc_14 = true := by decide +kernel
set_option maxRecDepth 100000 in
theorem lc_14 {X : Nat × (Nat → Int32)} {sh : List PSh} {S : PSt} {i : Nat} (he : isEl sh) (hm : isMo sh) (h : rel S S) (hi : i + 6 ≤ X.1) (hx : X.1 < 2 ^ 31) (k : ∀ T, rel T T → pY tbLt X sh 1357 (lL i) [] T) : pY tbLc_14 X sh 666 (lL i) [] S := by
  obtain ⟨N, z, h⟩ := h
  refine l_aload (pc := 666) (j := 1) rfl rfl ?_
  obtain ⟨P1, g1, h2⟩ := tw_total he hm h
  refine l_call (pc := 667) (as := []) (rest := []) (b := 0) rfl ce_X8_total ml_L_74 im_X8_total se_X8_total he.1 rfl rfl rfl (by decide) (Nat.le_of_ble_eq_true rfl) g1 (fun r T hr => ?_)
  obtain ⟨v, rfl, P2, g2, h3⟩ := h2 r T hr
  refine l_st [.int v] rfl ?_
  refine l_aload (pc := 670) (j := 2) rfl rfl ?_
  refine l_call (pc := 671) (as := []) (rest := [.int v]) (b := 70) rfl ce_X9_total ml_L_77 im_X9_total se_X9_total hm.1 rfl rfl rfl (by decide) (Nat.le_of_ble_eq_true rfl) g2 (fun r2 T2 hr2 => ?_)
  obtain ⟨rfl, h4⟩ := h3 r2 T2 hr2
  refine l_st [.int v, .int v] rfl ?_
  refine l_eq (pc := 674) 1357 rfl (by decide) ?_
  exact pr_tab tbLt_ok (k T2 h4)
def tbLc_15 : pTab := [(679, .aload_n 1, 1), (680, .aload_n 0, 1), (681, .iload_n 3, 1), (682, .iconst 1, 1), (683, .iadd, 1), (684, .iaload, 1), (685, .aload_n 0, 1), (686, .iload_n 3, 1), (687, .iconst 2, 1), (688, .iadd, 1), (689, .iaload, 1), (690, .aload_n 0, 1), (691, .iload_n 3, 1), (692, .iconst 3, 1), (693, .iadd, 1), (694, .iaload, 1), (695, .invokevirtual 78, 3), (698, .aload_n 2, 1), (699, .aload_n 0, 1), (700, .iload_n 3, 1), (701, .iconst 1, 1), (702, .iadd, 1), (703, .iaload, 1), (704, .aload_n 0, 1), (705, .iload_n 3, 1), (706, .iconst 2, 1), (707, .iadd, 1), (708, .iaload, 1), (709, .aload_n 0, 1), (710, .iload_n 3, 1), (711, .iconst 3, 1), (712, .iadd, 1), (713, .iaload, 1), (714, .invokevirtual 81, 3), (717, .if_icmp .eq 640, 3), (720, .iconst 0, 1), (721, .ireturn, 1)]
theorem tbLc_15_ok : pTabOk cL_law tbLc_15 = true := by decide +kernel
set_option maxRecDepth 100000 in
theorem lc_15 {X : Nat × (Nat → Int32)} {sh : List PSh} {S : PSt} {i : Nat} (he : isEl sh) (hm : isMo sh) (h : rel S S) (hi : i + 6 ≤ X.1) (hx : X.1 < 2 ^ 31) (k : ∀ T, rel T T → pY tbLt X sh 1357 (lL i) [] T) : pY tbLc_15 X sh 679 (lL i) [] S := by
  obtain ⟨N, z, h⟩ := h
  refine l_aload (pc := 679) (j := 1) rfl rfl ?_
  refine la_arg (pc := 680) (k := 1) rfl rfl rfl rfl rfl (by decide) (by omega) hx ?_
  refine la_arg (pc := 685) (k := 2) rfl rfl rfl rfl rfl (by decide) (by omega) hx ?_
  refine la_arg (pc := 690) (k := 3) rfl rfl rfl rfl rfl (by decide) (by omega) hx ?_
  obtain ⟨P1, g1, h2⟩ := tw_moved he hm h (c := (X.2 (i + 1))) (step := (X.2 (i + 2))) (dur := (X.2 (i + 3)))
  refine l_call (pc := 695) (as := [.int (X.2 (i + 1)), .int (X.2 (i + 2)), .int (X.2 (i + 3))]) (rest := []) (b := 0) rfl ce_X8_moved ml_L_78 im_X8_moved se_X8_moved he.1 rfl rfl rfl (by decide) (Nat.le_of_ble_eq_true rfl) g1 (fun r T hr => ?_)
  obtain ⟨v, rfl, P2, g2, h3⟩ := h2 r T hr
  refine l_st [.int v] rfl ?_
  refine l_aload (pc := 698) (j := 2) rfl rfl ?_
  refine la_arg (pc := 699) (k := 1) rfl rfl rfl rfl rfl (by decide) (by omega) hx ?_
  refine la_arg (pc := 704) (k := 2) rfl rfl rfl rfl rfl (by decide) (by omega) hx ?_
  refine la_arg (pc := 709) (k := 3) rfl rfl rfl rfl rfl (by decide) (by omega) hx ?_
  refine l_call (pc := 714) (as := [.int (X.2 (i + 1)), .int (X.2 (i + 2)), .int (X.2 (i + 3))]) (rest := [.int v]) (b := 70) rfl ce_X9_moved ml_L_81 im_X9_moved se_X9_moved hm.1 rfl rfl rfl (by decide) (Nat.le_of_ble_eq_true rfl) g2 (fun r2 T2 hr2 => ?_)
  obtain ⟨rfl, h4⟩ := h3 r2 T2 hr2
  refine l_st [.int v, .int v] rfl ?_
  refine l_eq (pc := 717) 1357 rfl (by decide) ?_
  exact pr_tab tbLt_ok (k T2 h4)
def tbLc_16 : pTab := [(722, .aload_n 1, 1), (723, .aload_n 0, 1), (724, .iload_n 3, 1), (725, .iconst 1, 1), (726, .iadd, 1), (727, .iaload, 1), (728, .aload_n 0, 1), (729, .iload_n 3, 1), (730, .iconst 2, 1), (731, .iadd, 1), (732, .iaload, 1), (733, .aload_n 0, 1), (734, .iload_n 3, 1), (735, .iconst 3, 1), (736, .iadd, 1), (737, .iaload, 1), (738, .invokevirtual 82, 3), (741, .aload_n 2, 1), (742, .aload_n 0, 1), (743, .iload_n 3, 1), (744, .iconst 1, 1), (745, .iadd, 1), (746, .iaload, 1), (747, .aload_n 0, 1), (748, .iload_n 3, 1), (749, .iconst 2, 1), (750, .iadd, 1), (751, .iaload, 1), (752, .aload_n 0, 1), (753, .iload_n 3, 1), (754, .iconst 3, 1), (755, .iadd, 1), (756, .iaload, 1), (757, .invokevirtual 85, 3), (760, .if_icmp .eq 597, 3), (763, .iconst 0, 1), (764, .ireturn, 1)]
theorem tbLc_16_ok : pTabOk cL_law tbLc_16 = true := by decide +kernel
set_option maxRecDepth 100000 in
theorem lc_16 {X : Nat × (Nat → Int32)} {sh : List PSh} {S : PSt} {i : Nat} (he : isEl sh) (hm : isMo sh) (h : rel S S) (hi : i + 6 ≤ X.1) (hx : X.1 < 2 ^ 31) (k : ∀ T, rel T T → pY tbLt X sh 1357 (lL i) [] T) : pY tbLc_16 X sh 722 (lL i) [] S := by
  obtain ⟨N, z, h⟩ := h
  refine l_aload (pc := 722) (j := 1) rfl rfl ?_
  refine la_arg (pc := 723) (k := 1) rfl rfl rfl rfl rfl (by decide) (by omega) hx ?_
  refine la_arg (pc := 728) (k := 2) rfl rfl rfl rfl rfl (by decide) (by omega) hx ?_
  refine la_arg (pc := 733) (k := 3) rfl rfl rfl rfl rfl (by decide) (by omega) hx ?_
  obtain ⟨P1, g1, h2⟩ := tw_beam he hm h (a := (X.2 (i + 1))) (b := (X.2 (i + 2))) (what := (X.2 (i + 3)))
  refine l_call (pc := 738) (as := [.int (X.2 (i + 1)), .int (X.2 (i + 2)), .int (X.2 (i + 3))]) (rest := []) (b := 0) rfl ce_X8_beam ml_L_82 im_X8_beam se_X8_beam he.1 rfl rfl rfl (by decide) (Nat.le_of_ble_eq_true rfl) g1 (fun r T hr => ?_)
  obtain ⟨v, rfl, P2, g2, h3⟩ := h2 r T hr
  refine l_st [.int v] rfl ?_
  refine l_aload (pc := 741) (j := 2) rfl rfl ?_
  refine la_arg (pc := 742) (k := 1) rfl rfl rfl rfl rfl (by decide) (by omega) hx ?_
  refine la_arg (pc := 747) (k := 2) rfl rfl rfl rfl rfl (by decide) (by omega) hx ?_
  refine la_arg (pc := 752) (k := 3) rfl rfl rfl rfl rfl (by decide) (by omega) hx ?_
  refine l_call (pc := 757) (as := [.int (X.2 (i + 1)), .int (X.2 (i + 2)), .int (X.2 (i + 3))]) (rest := [.int v]) (b := 70) rfl ce_X9_beam ml_L_85 im_X9_beam se_X9_beam hm.1 rfl rfl rfl (by decide) (Nat.le_of_ble_eq_true rfl) g2 (fun r2 T2 hr2 => ?_)
  obtain ⟨rfl, h4⟩ := h3 r2 T2 hr2
  refine l_st [.int v, .int v] rfl ?_
  refine l_eq (pc := 760) 1357 rfl (by decide) ?_
  exact pr_tab tbLt_ok (k T2 h4)
