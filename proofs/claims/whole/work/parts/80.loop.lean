/-! the law's loop: written by wip/whole/gen/c78.py -/
def tbLh : pTab := [(18, .iload_n 3, 1), (19, .aload_n 0, 1), (20, .arraylength, 1), (21, .bipush 6, 2), (23, .isub, 1), (24, .if_icmp .gt 1339, 3), (27, .aload_n 0, 1), (28, .iload_n 3, 1), (29, .iaload, 1), (30, .bipush 63, 2), (32, .iand, 1), (33, .tableswitch 1324 0 33 #[151, 184, 197, 240, 273, 306, 329, 362, 395, 448, 481, 534, 587, 600, 633, 646, 689, 732, 775, 798, 811, 854, 897, 940, 973, 1016, 1099, 1133, 1166, 1209, 1252, 1265, 1278, 1301], 151)]
theorem tbLh_ok : pTabOk cL_law tbLh = true := by decide +kernel
set_option maxRecDepth 100000 in
theorem law_sw {X : Nat × (Nat → Int32)} {sh : List PSh} {S : PSt} {i : Nat} {x : Int32} (he : isEl sh) (hm : isMo sh) (h : rel S S) (hi : i + 6 ≤ X.1) (hx : X.1 < 2 ^ 31) (k : ∀ T, rel T T → pY tbLt X sh 1357 (lL i) [] T) : pY tbLh X sh 33 (lL i) [.int x] S := by
  by_cases hd : x.toInt < 0 ∨ 33 < x.toInt
  · exact pr_tableOut (pc := 33) 1357 rfl hd (by decide) (pr_tab tbLt_ok (k S h))
  · obtain ⟨c, hc, rfl⟩ : ∃ c, c < 34 ∧ x = nI c := ⟨x.toInt.toNat, by omega, nI_of0 (by omega)⟩
    match c, hc with
    | 0, _ => exact pr_tableIn (pc := 33) 184 rfl (by decide) (by decide) rfl (by decide) (pr_tab tbLc_0_ok (lc_0 he hm h hi hx k))
    | 1, _ => exact pr_tableIn (pc := 33) 217 rfl (by decide) (by decide) rfl (by decide) (pr_tab tbLc_1_ok (lc_1 he hm h hi hx k))
    | 2, _ => exact pr_tableIn (pc := 33) 230 rfl (by decide) (by decide) rfl (by decide) (pr_tab tbLc_2_ok (lc_2 he hm h hi hx k))
    | 3, _ => exact pr_tableIn (pc := 33) 273 rfl (by decide) (by decide) rfl (by decide) (pr_tab tbLc_3_ok (lc_3 he hm h hi hx k))
    | 4, _ => exact pr_tableIn (pc := 33) 306 rfl (by decide) (by decide) rfl (by decide) (pr_tab tbLc_4_ok (lc_4 he hm h hi hx k))
    | 5, _ => exact pr_tableIn (pc := 33) 339 rfl (by decide) (by decide) rfl (by decide) (pr_tab tbLc_5_ok (lc_5 he hm h hi hx k))
    | 6, _ => exact pr_tableIn (pc := 33) 362 rfl (by decide) (by decide) rfl (by decide) (pr_tab tbLc_6_ok (lc_6 he hm h hi hx k))
    | 7, _ => exact pr_tableIn (pc := 33) 395 rfl (by decide) (by decide) rfl (by decide) (pr_tab tbLc_7_ok (lc_7 he hm h hi hx k))
    | 8, _ => exact pr_tableIn (pc := 33) 428 rfl (by decide) (by decide) rfl (by decide) (pr_tab tbLc_8_ok (lc_8 he hm h hi hx k))
    | 9, _ => exact pr_tableIn (pc := 33) 481 rfl (by decide) (by decide) rfl (by decide) (pr_tab tbLc_9_ok (lc_9 he hm h hi hx k))
    | 10, _ => exact pr_tableIn (pc := 33) 514 rfl (by decide) (by decide) rfl (by decide) (pr_tab tbLc_10_ok (lc_10 he hm h hi hx k))
    | 11, _ => exact pr_tableIn (pc := 33) 567 rfl (by decide) (by decide) rfl (by decide) (pr_tab tbLc_11_ok (lc_11 he hm h hi hx k))
    | 12, _ => exact pr_tableIn (pc := 33) 620 rfl (by decide) (by decide) rfl (by decide) (pr_tab tbLc_12_ok (lc_12 he hm h hi hx k))
    | 13, _ => exact pr_tableIn (pc := 33) 633 rfl (by decide) (by decide) rfl (by decide) (pr_tab tbLc_13_ok (lc_13 he hm h hi hx k))
    | 14, _ => exact pr_tableIn (pc := 33) 666 rfl (by decide) (by decide) rfl (by decide) (pr_tab tbLc_14_ok (lc_14 he hm h hi hx k))
    | 15, _ => exact pr_tableIn (pc := 33) 679 rfl (by decide) (by decide) rfl (by decide) (pr_tab tbLc_15_ok (lc_15 he hm h hi hx k))
    | 16, _ => exact pr_tableIn (pc := 33) 722 rfl (by decide) (by decide) rfl (by decide) (pr_tab tbLc_16_ok (lc_16 he hm h hi hx k))
    | 17, _ => exact pr_tableIn (pc := 33) 765 rfl (by decide) (by decide) rfl (by decide) (pr_tab tbLc_17_ok (lc_17 he hm h hi hx k))
    | 18, _ => exact pr_tableIn (pc := 33) 808 rfl (by decide) (by decide) rfl (by decide) (pr_tab tbLc_18_ok (lc_18 he hm h hi hx k))
    | 19, _ => exact pr_tableIn (pc := 33) 831 rfl (by decide) (by decide) rfl (by decide) (pr_tab tbLc_19_ok (lc_19 he hm h hi hx k))
    | 20, _ => exact pr_tableIn (pc := 33) 844 rfl (by decide) (by decide) rfl (by decide) (pr_tab tbLc_20_ok (lc_20 he hm h hi hx k))
    | 21, _ => exact pr_tableIn (pc := 33) 887 rfl (by decide) (by decide) rfl (by decide) (pr_tab tbLc_21_ok (lc_21 he hm h hi hx k))
    | 22, _ => exact pr_tableIn (pc := 33) 930 rfl (by decide) (by decide) rfl (by decide) (pr_tab tbLc_22_ok (lc_22 he hm h hi hx k))
    | 23, _ => exact pr_tableIn (pc := 33) 973 rfl (by decide) (by decide) rfl (by decide) (pr_tab tbLc_23_ok (lc_23 he hm h hi hx k))
    | 24, _ => exact pr_tableIn (pc := 33) 1006 rfl (by decide) (by decide) rfl (by decide) (pr_tab tbLc_24_ok (lc_24 he hm h hi hx k))
    | 25, _ => exact pr_tableIn (pc := 33) 1049 rfl (by decide) (by decide) rfl (by decide) (pr_tab tbLc_25_ok (lc_25 he hm h hi hx k))
    | 26, _ => exact pr_tableIn (pc := 33) 1132 rfl (by decide) (by decide) rfl (by decide) (pr_tab tbLc_26_ok (lc_26 he hm h hi hx k))
    | 27, _ => exact pr_tableIn (pc := 33) 1166 rfl (by decide) (by decide) rfl (by decide) (pr_tab tbLc_27_ok (lc_27 he hm h hi hx k))
    | 28, _ => exact pr_tableIn (pc := 33) 1199 rfl (by decide) (by decide) rfl (by decide) (pr_tab tbLc_28_ok (lc_28 he hm h hi hx k))
    | 29, _ => exact pr_tableIn (pc := 33) 1242 rfl (by decide) (by decide) rfl (by decide) (pr_tab tbLc_29_ok (lc_29 he hm h hi hx k))
    | 30, _ => exact pr_tableIn (pc := 33) 1285 rfl (by decide) (by decide) rfl (by decide) (pr_tab tbLc_30_ok (lc_30 he hm h hi hx k))
    | 31, _ => exact pr_tableIn (pc := 33) 1298 rfl (by decide) (by decide) rfl (by decide) (pr_tab tbLc_31_ok (lc_31 he hm h hi hx k))
    | 32, _ => exact pr_tableIn (pc := 33) 1311 rfl (by decide) (by decide) rfl (by decide) (pr_tab tbLc_32_ok (lc_32 he hm h hi hx k))
    | 33, _ => exact pr_tableIn (pc := 33) 1334 rfl (by decide) (by decide) rfl (by decide) (pr_tab tbLc_33_ok (lc_33 he hm h hi hx k))
    | c + 34, hc => exact absurd hc (by omega)
set_option maxRecDepth 100000 in
theorem law_tail {X : Nat × (Nat → Int32)} {sh : List PSh} {S : PSt} {i : Nat} (k : pY tbLh X sh 18 (lL (i + 6)) [] S) : pY tbLt X sh 1357 (lL i) [] S := by
  refine c_iinc (pc := 1357) (x := nI i) (lL (i + 6)) rfl (Nat.le_of_ble_eq_true rfl) rfl ?_ ?_
  · show [some (Value.ref 1000), some (.ref 0), some (.ref 70), some (.int (nI i + Int32.ofInt 6))] = lL (i + 6)
    rw [show Int32.ofInt 6 = nI 6 by decide, nI_add]
    rfl
  · exact pr_goto (pc := 1360) 18 rfl (by decide) (pr_tab tbLh_ok k)
set_option maxRecDepth 100000 in
theorem law_exit {X : Nat × (Nat → Int32)} {sh : List PSh} {S : PSt} {L : PL} : pY tbLt X sh 1363 L [] S := by
  refine c_iconst (pc := 1363) 1 rfl (by decide) ?_
  exact pr_zret (pc := 1364) (ty := .boolean) rfl rfl rfl ⟨Nat.le_refl _, Nat.le_refl _⟩ rfl
theorem law_cmp {i n : Nat} (hi : i < 2 ^ 30) (hn : n < 2 ^ 30) : (Int32.ofNat n - 6 < nI i) ↔ n < i + 6 := by
  have e1 : (Int32.ofNat n).toInt = n := nI_toInt (n := n) (by omega)
  have e2 : (Int32.ofNat n - 6).toInt = (n : Int) - 6 := by
    rw [Int32.toInt_sub, e1, show (6 : Int32).toInt = 6 from rfl, Int.bmod_eq_of_le (by omega) (by omega)]
  rw [Int32.lt_iff_toInt_lt, e2, nI_toInt (by omega)]
  omega
set_option maxRecDepth 100000 in
theorem law_head {X : Nat × (Nat → Int32)} {sh : List PSh} {S : PSt} {i : Nat} (he : isEl sh) (hm : isMo sh) (h : rel S S) (hx : X.1 ≤ 3072) (hi : i ≤ X.1 + 6) (k : i + 6 ≤ X.1 → ∀ T, rel T T → pY tbLh X sh 18 (lL (i + 6)) [] T) : pY tbLh X sh 18 (lL i) [] S := by
  refine pr_iload_n (pc := 18) (j := 3) rfl rfl ?_
  refine l_aload (pc := 19) (j := 0) rfl rfl ?_
  refine pr_alenR (pc := 20) (j := 0) (by decide) rfl ?_
  refine l_bipush (pc := 21) 6 rfl (by decide) ?_
  refine pr_isub (pc := 23) rfl ?_
  refine pr_icmp_gt (pc := 24) 1363 rfl (by decide) (fun _ => pr_tab tbLt_ok law_exit) (fun hn => ?_)
  have hn2 : i + 6 ≤ X.1 := by
    have := mt (law_cmp (i := i) (n := X.1) (by omega) (by omega)).mpr hn
    omega
  refine l_aload (pc := 27) (j := 0) rfl rfl ?_
  refine pr_iload_n (pc := 28) (j := 3) rfl rfl ?_
  refine pr_ialdR (pc := 29) (j := 0) (by decide) rfl (vp_nI (by show i < X.1; omega) (by show X.1 < 2 ^ 31; omega)) ?_
  refine l_bipush (pc := 30) 63 rfl (by decide) ?_
  refine pr_iand (pc := 32) rfl ?_
  exact law_sw he hm h hn2 (by omega) (fun T hT => law_tail (k hn2 T hT))
theorem law_loop {X : Nat × (Nat → Int32)} {sh : List PSh} (he : isEl sh) (hm : isMo sh) (hx : X.1 ≤ 3072) : ∀ (n i : Nat) (S : PSt), X.1 + 1 ≤ i + n → i ≤ X.1 + 6 → rel S S → pY tbLh X sh 18 (lL i) [] S := by
  intro n
  induction n with
  | zero => intro i S h1 h2 h; exact law_head he hm h hx h2 (fun q => absurd q (by omega))
  | succ n ih => intro i S h1 h2 h; exact law_head he hm h hx h2 (fun q T hT => ih (i + 6) T (by omega) (by omega) hT)
def tbLs : pTab := [(0, .new 7, 3), (3, .dup, 1), (4, .invokespecial 9, 3), (7, .astore_n 1, 1), (8, .new 10, 3), (11, .dup, 1), (12, .invokespecial 12, 3), (15, .astore_n 2, 1), (16, .iconst 0, 1), (17, .istore_n 3, 1)]
theorem tbLs_ok : pTabOk cL_law tbLs = true := by decide +kernel
