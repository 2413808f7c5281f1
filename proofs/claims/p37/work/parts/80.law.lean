/-! the law's walk: written by wip/p37/gen/c80.py -/
def mL_law : PM := (yL_law, cL_law, 12, some .boolean, tbL_law)
set_option maxRecDepth 100000 in
theorem lw_A {n0 : Nat} {X : Nat × (Nat → Int32)} {Q : PQ} {mc ms kc ks : Nat} (hm9 : kc ≤ mc ∧ ks ≤ ms) {d : Nat} (hd9 : 10 ≤ d) (hX : X.1 ≤ 260) {sh : List PSh} (he : isLw sh) {B : PSt} {t : Nat} (ht : t < 3) (hS : tI t B) {T : PSt} (hf : frL B T) (hex : ∀ S0 n w T, 0 < n → n ≤ 20 → sI S0 n t → frL S0 T → pWP mL_law d mc ms n0 X Q 79 [some (.ref 1000), some (.ref 0), some (.ref 70), some (.int (nI t)), some (.int w), some (.int (nI n)), some (.int 0), none, none, none, none, none] [] kc ks sh T) : pWP mL_law d mc ms n0 X Q 26 [some (.ref 1000), some (.ref 0), some (.ref 70), some (.int (nI t)), none, none, none, none, none, none, none, none] [] kc ks sh T := by
  obtain ⟨N, hiN⟩ := hS.1
  refine m_aload_n (pc := 26) (j := 0) rfl rfl ?_
  refine m_bipush (pc := 27) 26 rfl (by decide) ?_
  refine m_iload_n (pc := 29) (j := 3) rfl rfl ?_
  refine m_imul (pc := 30) rfl ?_
  refine m_st (st2 := [.int (nI (26 * t)), .ref 1000]) (by rw [lw_26 t]; try rfl) ?_
  refine m_callSX (pc := 31) (as := [.ref 1000, .int (nI (26 * t))]) (rest := []) rfl ce_L_cell ml_L_19 st_L_cell rfl (by omega) (Nat.le_of_ble_eq_true rfl) (sp_L_cell hX (i := 26 * t) (by omega)) (fun r9 S9 h9 => ?_)
  obtain ⟨rfl, hS9⟩ := h9
  have hf : frL B S9 := (by rw [hS9]; exact hf)
  refine m_istore (pc := 34) (j := 4) [some (.ref 1000), some (.ref 0), some (.ref 70), some (.int (nI t)), some (.int (celI X (26 * t))), none, none, none, none, none, none, none] rfl (by decide) rfl ?_
  refine m_iconst (pc := 36) 1 rfl (by decide) ?_
  refine m_iload (pc := 37) (j := 4) rfl rfl ?_
  refine m_bipush (pc := 39) 20 rfl (by decide) ?_
  refine m_callS (pc := 41) (as := [.int (celI X (26 * t)), .int 20]) (rest := [.int 1]) (st2 := [.int (modI (celI X (26 * t)) 20), .int 1]) rfl ce_L_mod ml_L_23 st_L_mod rfl (by omega) (Nat.le_of_ble_eq_true rfl) (sp_L_mod (by decide)) rfl ?_
  obtain ⟨u, hu1, hu⟩ := modI_rng (v := celI X (26 * t)) (n := 20) (by decide) (by decide)
  refine m_st (st2 := [.int (nI u), .int 1]) (by rw [show modI (celI X (26 * t)) 20 = nI u from hu]; try rfl) ?_
  refine m_iadd (pc := 44) rfl ?_
  obtain ⟨n, hn⟩ : ∃ n, n = 1 + u := ⟨_, rfl⟩
  refine m_st (st2 := [.int (nI n)]) (by rw [show (1 : Int32) + nI u = nI n from (by rw [hn]; exact nI_add 1 u)]; try rfl) ?_
  refine m_istore (pc := 45) (j := 5) [some (.ref 1000), some (.ref 0), some (.ref 70), some (.int (nI t)), some (.int (celI X (26 * t))), some (.int (nI n)), none, none, none, none, none, none] rfl (by decide) rfl ?_
  have hN : n ≤ 20 := by omega
  refine m_aload_n (pc := 47) (j := 1) rfl rfl ?_
  refine m_aload_n (pc := 48) (j := 2) rfl rfl ?_
  refine m_aload_n (pc := 49) (j := 0) rfl rfl ?_
  refine m_bipush (pc := 50) 26 rfl (by decide) ?_
  refine m_iload_n (pc := 52) (j := 3) rfl rfl ?_
  refine m_imul (pc := 53) rfl ?_
  refine m_iconst (pc := 54) 1 rfl (by decide) ?_
  refine m_iadd (pc := 55) rfl ?_
  refine m_st (st2 := [.int (nI (26 * t + 1)), .ref 1000, .ref 70, .ref 0]) (by rw [lw_261 t]; try rfl) ?_
  refine m_iload (pc := 56) (j := 5) rfl rfl ?_
  refine m_iconst (pc := 58) 4 rfl (by decide) ?_
  refine m_callSX (pc := 59) (as := [.ref 0, .ref 70, .ref 1000, .int (nI (26 * t + 1)), .int (nI n), .int 4]) (rest := []) rfl ce_L_columns ml_L_127 st_L_columns rfl (by omega) (Nat.le_of_ble_eq_true rfl) (sp_L_columns hX he (z := 0) (at9 := 26 * t + 1) (n := n) (by omega) hN hiN hS.2.1 hf) (fun r9 S9 h9 => ?_)
  obtain ⟨rfl, B1, hC, hf⟩ := h9
  refine m_if_eq (pc := 62) 74 rfl (by decide) (fun h9 => absurd h9 (by decide : ¬ (1 : Int32) = 0)) (fun _ => ?_)
  refine m_aload_n (pc := 65) (j := 1) rfl rfl ?_
  refine m_callVG (pc := 66) (as := []) (rest := []) (b := 0) rfl ce_X8_image ml_L_131 im_X8_image se_X8_image he.1.1 rfl rfl rfl (by omega) (Nat.le_of_ble_eq_true rfl) (sp_X8_image he.1 (N := n) ((fl_at hf (by decide)).trans ((congrFun (pSI_ne (by decide)) 1).trans hC.1.1))) (fun r9 S9 h9 => ?_)
  obtain ⟨rfl, hf⟩ := rd_image hf h9
  refine m_iload (pc := 69) (j := 5) rfl rfl ?_
  refine m_icmp_eq (pc := 71) 76 rfl (by decide) (fun _ => ?_) (fun h9 => absurd rfl h9)
  refine m_iconst (pc := 76) 0 rfl (by decide) ?_
  refine m_istore (pc := 77) (j := 6) [some (.ref 1000), some (.ref 0), some (.ref 70), some (.int (nI t)), some (.int (celI X (26 * t))), some (.int (nI n)), some (.int 0), none, none, none, none, none] rfl (by decide) rfl ?_
  exact hex (pSI (pgB (pSI B1 70 0 (nI n)) 8 1) 0 2 1) n _ S9 (by omega) hN (sI_of hS hC) hf
theorem lw_71 {sh : List PSh} (he : isLw sh) : 71 ≤ sh.length := by
  have h9 := (List.getElem?_eq_some_iff.mp he.2).1
  omega
theorem lw_old {sh : List PSh} (h : 71 ≤ sh.length) {a b c d e f g i : Int32} : ([some (.ref 1000), some (.ref 0), some (.ref 70), some (.int a), some (.int b), some (.int c), some (.int d), some (.int e), some (.int f), some (.int g), some (.int i), none] : PL).all (pOldL sh.length) = true := by
  have h1 : 0 < sh.length := by omega
  have h2 : 70 < sh.length := by omega
  simp [pOldL, pOld, h2]
  omega
set_option maxRecDepth 100000 in
theorem lw_K {n0 : Nat} {X : Nat × (Nat → Int32)} {Q : PQ} {mc ms kc ks : Nat} (hm9 : kc + 2 ≤ mc ∧ ks + 65 ≤ ms) {d : Nat} (hd9 : 10 ≤ d) (hX : X.1 ≤ 260) {sh : List PSh} (he : isLw sh) (hl9 : sh.length + 2 < 900) {S0 B : PSt} {t n k : Nat} {w : Int32} (ht : t < 3) (hk : k < 2) (h0 : 0 < n) (hN : n ≤ 20) (hK : kI S0 n B) {T : PSt} (hf : frL B T) (hex : ∀ sh2 B T, (∃ l, sh2 = sh ++ l ∧ l.length ≤ 2) → kI S0 n B → frL B T → pWP mL_law d mc ms n0 X Q 376 [some (.ref 1000), some (.ref 0), some (.ref 70), some (.int (nI t)), some (.int w), some (.int (nI n)), some (.int (nI k)), none, none, none, none, none] [] (kc + 2) (ks + 65) sh2 T) : pWP mL_law d mc ms n0 X Q 85 [some (.ref 1000), some (.ref 0), some (.ref 70), some (.int (nI t)), some (.int w), some (.int (nI n)), some (.int (nI k)), none, none, none, none, none] [] kc ks sh T := by
  have hlw := lw_71 he
  have hl9 : sh.length < 900 := by omega
  refine m_aload_n (pc := 85) (j := 0) rfl rfl ?_
  refine m_bipush (pc := 86) 26 rfl (by decide) ?_
  refine m_iload_n (pc := 88) (j := 3) rfl rfl ?_
  refine m_imul (pc := 89) rfl ?_
  refine m_bipush (pc := 90) 22 rfl (by decide) ?_
  refine m_iadd (pc := 92) rfl ?_
  refine m_iconst (pc := 93) 2 rfl (by decide) ?_
  refine m_iload (pc := 94) (j := 6) rfl rfl ?_
  refine m_imul (pc := 96) rfl ?_
  refine m_iadd (pc := 97) rfl ?_
  refine m_st (st2 := [.int (nI (26 * t + 22 + 2 * k)), .ref 1000]) (by rw [lw_22 t k]; try rfl) ?_
  refine m_callSX (pc := 98) (as := [.ref 1000, .int (nI (26 * t + 22 + 2 * k))]) (rest := []) rfl ce_L_cell ml_L_19 st_L_cell rfl (by omega) (Nat.le_of_ble_eq_true rfl) (sp_L_cell hX (i := 26 * t + 22 + 2 * k) (by omega)) (fun r9 S9 h9 => ?_)
  obtain ⟨rfl, hS9⟩ := h9
  have hf : frL B S9 := (by rw [hS9]; exact hf)
  refine m_istore (pc := 101) (j := 7) [some (.ref 1000), some (.ref 0), some (.ref 70), some (.int (nI t)), some (.int w), some (.int (nI n)), some (.int (nI k)), some (.int (celI X (26 * t + 22 + 2 * k))), none, none, none, none] rfl (by decide) rfl ?_
  refine m_bipush (pc := 103) 20 rfl (by decide) ?_
  refine m_iload (pc := 105) (j := 4) rfl rfl ?_
  refine m_iconst (pc := 107) 5 rfl (by decide) ?_
  refine m_bipush (pc := 108) 9 rfl (by decide) ?_
  refine m_iload (pc := 110) (j := 6) rfl rfl ?_
  refine m_imul (pc := 112) rfl ?_
  refine m_iadd (pc := 113) rfl ?_
  refine m_ishr (pc := 114) rfl ?_
  refine m_sipush (pc := 115) 361 rfl (by decide) ?_
  refine m_callS (pc := 118) (as := [.int (w >>> ((5 + (9 * (nI k))) &&& 31)), .int 361]) (rest := [.int 20]) (st2 := [.int (modI (w >>> ((5 + (9 * (nI k))) &&& 31)) 361), .int 20]) rfl ce_L_mod ml_L_23 st_L_mod rfl (by omega) (Nat.le_of_ble_eq_true rfl) (sp_L_mod (by decide)) rfl ?_
  refine m_iadd (pc := 121) rfl ?_
  obtain ⟨wd, hwd⟩ : ∃ q, (20 + (modI (w >>> ((5 + (9 * (nI k))) &&& 31)) 361)) = q := ⟨_, rfl⟩
  refine m_st (st2 := [.int wd]) (by rw [hwd]; try rfl) ?_
  refine m_istore (pc := 122) (j := 8) [some (.ref 1000), some (.ref 0), some (.ref 70), some (.int (nI t)), some (.int w), some (.int (nI n)), some (.int (nI k)), some (.int (celI X (26 * t + 22 + 2 * k))), some (.int wd), none, none, none] rfl (by decide) rfl ?_
  obtain ⟨hw1, hw2⟩ : okWd wd ∧ pWi wd 20 380 = true := hwd ▸ wd_ok _
  refine m_aload_n (pc := 124) (j := 1) rfl rfl ?_
  refine m_iload (pc := 125) (j := 8) rfl rfl ?_
  refine m_callVG (pc := 127) (as := [.int wd]) (rest := []) (b := 0) rfl ce_X8_width ml_L_134 im_X8_width se_X8_width he.1.1 rfl rfl rfl (by omega) (Nat.le_of_ble_eq_true rfl) (sp_X8_width he.1 (fl_iv hK.2.1 hf)) (fun r9 S9 h9 => ?_)
  obtain ⟨rfl, hf⟩ := rd_width hf hw2 h9
  refine m_aload_n (pc := 130) (j := 2) rfl rfl ?_
  refine m_iconst (pc := 131) 1 rfl (by decide) ?_
  refine m_iald (pc := 132) (a := 70) 1 rfl he.2 (vp_in_nI (n := 1) (by decide) (by decide)) rfl ?_
  refine m_st (st2 := [.int (B.1 1 2), .int (B.1 1 2)]) (by rw [show (S9.1 70 1) = (B.1 1 2) from (congrFun (hf 70 (by omega) (by omega)).1 1).trans ((congrFun (pSI_ne (by decide)) 1).trans hK.2.2.2.1)]; try rfl) ?_
  refine m_icmp_eq (pc := 133) 138 rfl (by decide) (fun _ => ?_) (fun h9 => absurd rfl h9)
  refine m_aload_n (pc := 138) (j := 2) rfl rfl ?_
  refine m_iconst (pc := 139) 1 rfl (by decide) ?_
  refine m_iload (pc := 140) (j := 8) rfl rfl ?_
  refine m_iast (pc := 142) (a := 70) 1 rfl he.2 (vp_in_nI (n := 1) (by decide) (by decide)) rfl ?_
  have hf := fl_I (c := 70) (i := 1) (v := wd) hf; have hK := kI_w hK hw1; obtain ⟨B2, hB2⟩ : ∃ q, q = pSI (pSI B 1 2 wd) 70 1 wd := ⟨_, rfl⟩; rw [← hB2] at hf hK; generalize pSI S9 70 1 wd = T2 at hf ⊢
  refine m_iload (pc := 143) (j := 7) rfl rfl ?_
  refine m_iload (pc := 145) (j := 5) rfl rfl ?_
  refine m_callS (pc := 147) (as := [.int (celI X (26 * t + 22 + 2 * k)), .int (nI n)]) (rest := []) (st2 := [.int (modI (celI X (26 * t + 22 + 2 * k)) (nI n))]) rfl ce_L_mod ml_L_23 st_L_mod rfl (by omega) (Nat.le_of_ble_eq_true rfl) (sp_L_mod (nI_ne0 h0 (by omega))) rfl ?_
  obtain ⟨a, ha1, ha⟩ := modI_rng (v := (celI X (26 * t + 22 + 2 * k))) h0 (by omega)
  refine m_st (st2 := [.int (nI a)]) (by rw [ha]; try rfl) ?_
  refine m_istore (pc := 150) (j := 9) [some (.ref 1000), some (.ref 0), some (.ref 70), some (.int (nI t)), some (.int w), some (.int (nI n)), some (.int (nI k)), some (.int (celI X (26 * t + 22 + 2 * k))), some (.int wd), some (.int (nI a)), none, none] rfl (by decide) rfl ?_
  refine m_iload (pc := 152) (j := 9) rfl rfl ?_
  refine m_iload (pc := 154) (j := 7) rfl rfl ?_
  refine m_iconst (pc := 156) 5 rfl (by decide) ?_
  refine m_ishr (pc := 157) rfl ?_
  refine m_iload (pc := 158) (j := 5) rfl rfl ?_
  refine m_iload (pc := 160) (j := 9) rfl rfl ?_
  refine m_isub (pc := 162) rfl ?_
  refine m_st (st2 := [.int (nI (n - a)), .int ((celI X (26 * t + 22 + 2 * k)) >>> (5 &&& 31)), .int (nI a)]) (by rw [lw_sub (Nat.le_of_lt ha1)]; try rfl) ?_
  refine m_callS (pc := 163) (as := [.int ((celI X (26 * t + 22 + 2 * k)) >>> (5 &&& 31)), .int (nI (n - a))]) (rest := [.int (nI a)]) (st2 := [.int (modI ((celI X (26 * t + 22 + 2 * k)) >>> (5 &&& 31)) (nI (n - a))), .int (nI a)]) rfl ce_L_mod ml_L_23 st_L_mod rfl (by omega) (Nat.le_of_ble_eq_true rfl) (sp_L_mod (nI_ne0 (by omega) (by omega))) rfl ?_
  obtain ⟨m, hm1, hm⟩ := modI_rng (v := (celI X (26 * t + 22 + 2 * k)) >>> (5 &&& 31)) (n := n - a) (by omega) (by omega)
  refine m_st (st2 := [.int (nI m), .int (nI a)]) (by rw [hm]; try rfl) ?_
  refine m_iadd (pc := 166) rfl ?_
  refine m_st (st2 := [.int (nI (a + m))]) (by rw [nI_add]; try rfl) ?_
  refine m_istore (pc := 167) (j := 10) [some (.ref 1000), some (.ref 0), some (.ref 70), some (.int (nI t)), some (.int w), some (.int (nI n)), some (.int (nI k)), some (.int (celI X (26 * t + 22 + 2 * k))), some (.int wd), some (.int (nI a)), some (.int (nI (a + m))), none] rfl (by decide) rfl ?_
  refine m_aload_n (pc := 169) (j := 1) rfl rfl ?_
  refine m_aload_n (pc := 170) (j := 2) rfl rfl ?_
  refine m_iload (pc := 171) (j := 9) rfl rfl ?_
  refine m_iload (pc := 173) (j := 10) rfl rfl ?_
  refine m_callSG (pc := 175) (as := [.ref 0, .ref 70, .int (nI a), .int (nI (a + m))]) (rest := []) rfl ce_L_stretch ml_L_81 st_L_stretch rfl (by omega) (Nat.le_of_ble_eq_true rfl) (sp_L_stretch he hK.2.1 hN hf (a := a) (m := m) (by omega) hK.2.2) (fun r9 S9 h9 => ?_)
  obtain ⟨rfl, hf⟩ := h9
  refine m_if_eq (pc := 178) 263 rfl (by decide) (fun h9 => absurd h9 (by decide : ¬ (1 : Int32) = 0)) (fun _ => ?_)
  refine m_aload_n (pc := 181) (j := 1) rfl rfl ?_
  refine m_aload_n (pc := 182) (j := 2) rfl rfl ?_
  refine m_iconst (pc := 183) 0 rfl (by decide) ?_
  refine m_iload (pc := 184) (j := 5) rfl rfl ?_
  refine m_iconst (pc := 186) 1 rfl (by decide) ?_
  refine m_isub (pc := 187) rfl ?_
  refine m_st (st2 := [.int (nI (0 + (n - 1))), .int (nI 0), .ref 70, .ref 0]) (by rw [lw_n1 h0]; try rfl) ?_
  refine m_callSG (pc := 188) (as := [.ref 0, .ref 70, .int (nI 0), .int (nI (0 + (n - 1)))]) (rest := []) rfl ce_L_stretch ml_L_81 st_L_stretch rfl (by omega) (Nat.le_of_ble_eq_true rfl) (sp_L_stretch he hK.2.1 hN hf (a := 0) (m := n - 1) (by omega) hK.2.2) (fun r9 S9 h9 => ?_)
  obtain ⟨rfl, hf⟩ := h9
  refine m_if_eq (pc := 191) 263 rfl (by decide) (fun h9 => absurd h9 (by decide : ¬ (1 : Int32) = 0)) (fun _ => ?_)
  refine m_aload_n (pc := 194) (j := 1) rfl rfl ?_
  refine m_aload_n (pc := 195) (j := 2) rfl rfl ?_
  refine m_iload (pc := 196) (j := 7) rfl rfl ?_
  refine m_callSG (pc := 198) (as := [.ref 0, .ref 70, .int (celI X (26 * t + 22 + 2 * k))]) (rest := []) rfl ce_L_lines ml_L_137 st_L_lines rfl (by omega) (Nat.le_of_ble_eq_true rfl) (sp_L_lines he hK.2.1 hN hK.2.2 h0 hf) (fun r9 S9 h9 => ?_)
  obtain ⟨rfl, hf⟩ := h9
  refine m_if_eq (pc := 201) 263 rfl (by decide) (fun h9 => absurd h9 (by decide : ¬ (1 : Int32) = 0)) (fun _ => ?_)
  refine m_aload_n (pc := 204) (j := 1) rfl rfl ?_
  refine m_aload_n (pc := 205) (j := 2) rfl rfl ?_
  refine m_iload (pc := 206) (j := 9) rfl rfl ?_
  refine m_iload (pc := 208) (j := 10) rfl rfl ?_
  refine m_callSG (pc := 210) (as := [.ref 0, .ref 70, .int (nI a), .int (nI (a + m))]) (rest := []) rfl ce_L_beam ml_L_140 st_L_beam rfl (by omega) (Nat.le_of_ble_eq_true rfl) (sp_L_beam he hK.2.1 hN hK.2.2 (a := a) (m := m) (by omega) hf) (fun r9 S9 h9 => ?_)
  obtain ⟨rfl, hf⟩ := h9
  refine m_if_eq (pc := 213) 263 rfl (by decide) (fun h9 => absurd h9 (by decide : ¬ (1 : Int32) = 0)) (fun _ => ?_)
  refine m_aload_n (pc := 216) (j := 1) rfl rfl ?_
  refine m_iload (pc := 217) (j := 9) rfl rfl ?_
  refine m_iload (pc := 219) (j := 10) rfl rfl ?_
  refine m_callSG (pc := 221) (as := [.ref 0, .int (nI a), .int (nI (a + m))]) (rest := []) rfl ce_L_slur ml_L_142 st_L_slur rfl (by omega) (Nat.le_of_ble_eq_true rfl) (sp_L_slur he hK.2.1 hN (a := a) (m := m) (by omega) hf) (fun r9 S9 h9 => ?_)
  obtain ⟨rfl, hf⟩ := h9
  refine m_if_eq (pc := 224) 263 rfl (by decide) (fun h9 => absurd h9 (by decide : ¬ (1 : Int32) = 0)) (fun _ => ?_)
  refine m_aload_n (pc := 227) (j := 1) rfl rfl ?_
  refine m_iconst (pc := 228) 0 rfl (by decide) ?_
  refine m_iload (pc := 229) (j := 5) rfl rfl ?_
  refine m_iconst (pc := 231) 1 rfl (by decide) ?_
  refine m_isub (pc := 232) rfl ?_
  refine m_st (st2 := [.int (nI (0 + (n - 1))), .int (nI 0), .ref 0]) (by rw [lw_n1 h0]; try rfl) ?_
  refine m_callSG (pc := 233) (as := [.ref 0, .int (nI 0), .int (nI (0 + (n - 1)))]) (rest := []) rfl ce_L_slur ml_L_142 st_L_slur rfl (by omega) (Nat.le_of_ble_eq_true rfl) (sp_L_slur he hK.2.1 hN (a := 0) (m := n - 1) (by omega) hf) (fun r9 S9 h9 => ?_)
  obtain ⟨rfl, hf⟩ := h9
  refine m_if_eq (pc := 236) 263 rfl (by decide) (fun h9 => absurd h9 (by decide : ¬ (1 : Int32) = 0)) (fun _ => ?_)
  refine m_aload_n (pc := 239) (j := 1) rfl rfl ?_
  refine m_aload_n (pc := 240) (j := 2) rfl rfl ?_
  refine m_aload_n (pc := 241) (j := 0) rfl rfl ?_
  refine m_bipush (pc := 242) 26 rfl (by decide) ?_
  refine m_iload_n (pc := 244) (j := 3) rfl rfl ?_
  refine m_imul (pc := 245) rfl ?_
  refine m_bipush (pc := 246) 23 rfl (by decide) ?_
  refine m_iadd (pc := 248) rfl ?_
  refine m_iconst (pc := 249) 2 rfl (by decide) ?_
  refine m_iload (pc := 250) (j := 6) rfl rfl ?_
  refine m_imul (pc := 252) rfl ?_
  refine m_iadd (pc := 253) rfl ?_
  refine m_st (st2 := [.int (nI (26 * t + 23 + 2 * k)), .ref 1000, .ref 70, .ref 0]) (by rw [lw_23 t k]; try rfl) ?_
  refine m_callSX (pc := 254) (as := [.ref 1000, .int (nI (26 * t + 23 + 2 * k))]) (rest := [.ref 70, .ref 0]) rfl ce_L_cell ml_L_19 st_L_cell rfl (by omega) (Nat.le_of_ble_eq_true rfl) (sp_L_cell hX (i := 26 * t + 23 + 2 * k) (by omega)) (fun r9 S9 h9 => ?_)
  obtain ⟨rfl, hS9⟩ := h9
  have hf : frL B2 S9 := (by rw [hS9]; exact hf)
  refine pr_callS (pc := 257) (as := [.ref 0, .ref 70, .int (celI X (26 * t + 23 + 2 * k))]) (rest := []) rfl ce_L_moved ml_L_145 st_L_moved rfl (by omega) (Nat.le_of_ble_eq_true rfl) (by omega) (sp_L_moved he hl9 hK.2.1 hN hK.2.2 h0 hf X) (fun r9 sh9 B9 h9 => pSameN (by obtain ⟨-, ⟨l, rfl, hl⟩, -⟩ := h9; rw [List.length_append]; omega) rfl (lw_old (sh := sh) hlw)) (fun r9 sh9 B3 h9 => ?_)
  obtain ⟨rfl, ⟨l, rfl, hl⟩, hz⟩ := h9
  have hm9 : kc + 2 ≤ mc ∧ ks + 65 ≤ ms := by omega
  have hK := kI_z hK hz
  have hf : frL B3 B3 := fl_rf
  have he := isLw_apps (l := l) he
  show pWP mL_law d mc ms n0 X Q 260 [some (.ref 1000), some (.ref 0), some (.ref 70), some (.int (nI t)), some (.int w), some (.int (nI n)), some (.int (nI k)), some (.int (celI X (26 * t + 22 + 2 * k))), some (.int wd), some (.int (nI a)), some (.int (nI (a + m))), none] [.int 1] (kc + 2) (ks + 65) (sh ++ l) B3
  refine m_if_ne (pc := 260) 265 rfl (by decide) (fun _ => ?_) (fun h9 => absurd h9 (by decide : (1 : Int32) = 0 → False))
  refine m_aload_n (pc := 265) (j := 2) rfl rfl ?_
  refine m_iconst (pc := 266) 2 rfl (by decide) ?_
  refine m_iconst (pc := 267) 5 rfl (by decide) ?_
  refine m_iload (pc := 268) (j := 9) rfl rfl ?_
  refine m_imul (pc := 270) rfl ?_
  refine m_iadd (pc := 271) rfl ?_
  refine m_st (st2 := [.int (nI (2 + 5 * a)), .ref 70]) (by rw [e25 a]; try rfl) ?_
  refine m_iald (pc := 272) (a := 70) (2 + 5 * a) rfl he.2 (vp_in_nI (by omega) (by decide)) (nI_clamp (by omega)) ?_
  refine m_st (st2 := [.int (B3.1 3 (5 * a))]) (by rw [show (B3.1 70 (2 + 5 * a)) = B3.1 3 (5 * a) from hK.2.2.2.2 _ (by omega)]; try rfl) ?_
  refine m_iconst (pc := 273) 2 rfl (by decide) ?_
  refine m_icmp_eq (pc := 274) 376 rfl (by decide) (fun h274 => ?_) (fun h274 => ?_)
  · exact m_forget [some (.ref 1000), some (.ref 0), some (.ref 70), some (.int (nI t)), some (.int w), some (.int (nI n)), some (.int (nI k)), none, none, none, none, none] fg7 (hex _ B3 _ ⟨l, rfl, hl⟩ hK hf)
  · refine m_aload_n (pc := 277) (j := 2) rfl rfl ?_
    refine m_iconst (pc := 278) 3 rfl (by decide) ?_
    refine m_iconst (pc := 279) 5 rfl (by decide) ?_
    refine m_iload (pc := 280) (j := 9) rfl rfl ?_
    refine m_imul (pc := 282) rfl ?_
    refine m_iadd (pc := 283) rfl ?_
    refine m_st (st2 := [.int (nI (3 + 5 * a)), .ref 70]) (by rw [e35 a]; try rfl) ?_
    refine m_iald (pc := 284) (a := 70) (3 + 5 * a) rfl he.2 (vp_in_nI (by omega) (by decide)) (nI_clamp (by omega)) ?_
    refine m_st (st2 := [.int (B3.1 3 (5 * a + 1))]) (by rw [show (B3.1 70 (3 + 5 * a)) = B3.1 3 (5 * a + 1) from (by rw [show 3 + 5 * a = 2 + (5 * a + 1) by omega]; exact hK.2.2.2.2 _ (by omega))]; try rfl) ?_
    refine m_bipush (pc := 285) 64 rfl (by decide) ?_
    refine m_icmp_ge (pc := 287) 376 rfl (by decide) (fun h287 => ?_) (fun h287 => ?_)
    · exact m_forget [some (.ref 1000), some (.ref 0), some (.ref 70), some (.int (nI t)), some (.int w), some (.int (nI n)), some (.int (nI k)), none, none, none, none, none] fg7 (hex _ B3 _ ⟨l, rfl, hl⟩ hK hf)
    · have hup := al_up (hK.2.1.2.2.1 a ha1) h287; have hiU : cIv (pSI B3 3 (5 * a + 1) (B3.1 3 (5 * a + 1) + 1)) n := cIv_set hK.2.1 ha1 (by decide) (by decide) hup
      refine m_aload_n (pc := 290) (j := 1) rfl rfl ?_
      refine m_iload (pc := 291) (j := 9) rfl rfl ?_
      refine m_iconst (pc := 293) 0 rfl (by decide) ?_
      refine m_callVG (pc := 294) (as := [.int (nI a), .int 0]) (rest := []) (b := 0) rfl ce_X8_spring ml_L_47 im_X8_spring se_X8_spring he.1.1 rfl rfl rfl (by omega) (Nat.le_of_ble_eq_true rfl) (sp_X8_spring he.1 (fl_iv hK.2.1 hf)) (fun r9 S9 h9 => ?_)
      obtain ⟨rfl, hf⟩ := rd_spring0 hK.2.1 hf (c := a) ha1 h9
      refine m_callS (pc := 297) (as := [.int ((idG (B3.1 3) a).toInt32)]) (rest := []) (st2 := [.float (idG (B3.1 3) a)]) rfl ce_L_f ml_L_44 st_L_f rfl (by omega) (Nat.le_of_ble_eq_true rfl) (sp_L_f (x := (idG (B3.1 3) a)) (sn_F (id_F hK.2.1 ha1))) rfl ?_
      refine m_fstore (pc := 300) (j := 11) [some (.ref 1000), some (.ref 0), some (.ref 70), some (.int (nI t)), some (.int w), some (.int (nI n)), some (.int (nI k)), some (.int (celI X (26 * t + 22 + 2 * k))), some (.int wd), some (.int (nI a)), some (.int (nI (a + m))), some (.float (idG (B3.1 3) a))] rfl (by decide) rfl ?_
      refine m_aload_n (pc := 302) (j := 1) rfl rfl ?_
      refine m_iload (pc := 303) (j := 9) rfl rfl ?_
      refine m_iconst (pc := 305) 1 rfl (by decide) ?_
      refine m_aload_n (pc := 306) (j := 2) rfl rfl ?_
      refine m_iconst (pc := 307) 3 rfl (by decide) ?_
      refine m_iconst (pc := 308) 5 rfl (by decide) ?_
      refine m_iload (pc := 309) (j := 9) rfl rfl ?_
      refine m_imul (pc := 311) rfl ?_
      refine m_iadd (pc := 312) rfl ?_
      refine m_st (st2 := [.int (nI (3 + 5 * a)), .ref 70, .int 1, .int (nI a), .ref 0]) (by rw [e35 a]; try rfl) ?_
      refine m_iald (pc := 313) (a := 70) (3 + 5 * a) rfl he.2 (vp_in_nI (by omega) (by decide)) (nI_clamp (by omega)) ?_
      refine m_st (st2 := [.int (B3.1 3 (5 * a + 1)), .int 1, .int (nI a), .ref 0]) (by rw [show (S9.1 70 (3 + 5 * a)) = (B3.1 3 (5 * a + 1)) from (congrFun (hf 70 (by omega) (by omega)).1 _).trans ((by rw [show 3 + 5 * a = 2 + (5 * a + 1) by omega]; exact hK.2.2.2.2 _ (by omega)))]; try rfl) ?_
      refine m_iconst (pc := 314) 1 rfl (by decide) ?_
      refine m_iadd (pc := 315) rfl ?_
      refine m_callVG (pc := 316) (as := [.int (nI a), .int 1, .int ((B3.1 3 (5 * a + 1)) + 1)]) (rest := []) (b := 0) rfl ce_X8_set ml_L_30 im_X8_set se_X8_set he.1.1 rfl rfl rfl (by omega) (Nat.le_of_ble_eq_true rfl) (sp_X8_set he.1 (fl_iv hK.2.1 hf)) (fun r9 S9 h9 => ?_)
      obtain ⟨rfl, hf⟩ := rd_set hK.2.1 hf (c := a) (u := 1) ha1 (by decide) hup h9
      refine m_aload_n (pc := 319) (j := 2) rfl rfl ?_
      refine m_iconst (pc := 320) 3 rfl (by decide) ?_
      refine m_iconst (pc := 321) 5 rfl (by decide) ?_
      refine m_iload (pc := 322) (j := 9) rfl rfl ?_
      refine m_imul (pc := 324) rfl ?_
      refine m_iadd (pc := 325) rfl ?_
      refine m_st (st2 := [.int (nI (3 + 5 * a)), .ref 70, .int (B3.1 3 (5 * a + 1))]) (by rw [e35 a]; try rfl) ?_
      refine m_iald (pc := 326) (a := 70) (3 + 5 * a) rfl he.2 (vp_in_nI (by omega) (by decide)) (nI_clamp (by omega)) ?_
      refine m_st (st2 := [.int (B3.1 3 (5 * a + 1)), .int (B3.1 3 (5 * a + 1))]) (by rw [show (S9.1 70 (3 + 5 * a)) = (B3.1 3 (5 * a + 1)) from (congrFun (hf 70 (by omega) (by omega)).1 _).trans ((by rw [show 3 + 5 * a = 2 + (5 * a + 1) by omega]; exact hK.2.2.2.2 _ (by omega)))]; try rfl) ?_
      refine m_icmp_ne (pc := 327) 374 rfl (by decide) (fun h9 => absurd h9 (fun q9 => q9 rfl)) (fun _ => ?_)
      refine m_aload_n (pc := 330) (j := 1) rfl rfl ?_
      refine m_iload (pc := 331) (j := 9) rfl rfl ?_
      refine m_iconst (pc := 333) 0 rfl (by decide) ?_
      refine m_callVG (pc := 334) (as := [.int (nI a), .int 0]) (rest := []) (b := 0) rfl ce_X8_spring ml_L_47 im_X8_spring se_X8_spring he.1.1 rfl rfl rfl (by omega) (Nat.le_of_ble_eq_true rfl) (sp_X8_spring he.1 (fl_iv hiU hf)) (fun r9 S9 h9 => ?_)
      obtain ⟨rfl, hf⟩ := rd_spring0 hiU hf (c := a) ha1 h9
      refine m_callS (pc := 337) (as := [.int ((idG ((pSI B3 3 (5 * a + 1) (B3.1 3 (5 * a + 1) + 1)).1 3) a).toInt32)]) (rest := []) (st2 := [.float (idG ((pSI B3 3 (5 * a + 1) (B3.1 3 (5 * a + 1) + 1)).1 3) a)]) rfl ce_L_f ml_L_44 st_L_f rfl (by omega) (Nat.le_of_ble_eq_true rfl) (sp_L_f (x := (idG ((pSI B3 3 (5 * a + 1) (B3.1 3 (5 * a + 1) + 1)).1 3) a)) (sn_F (id_F hiU ha1))) rfl ?_
      refine m_fload (pc := 340) (j := 11) rfl rfl ?_
      refine m_fcmp (pc := 342) (op := .g) rfl ?_
      refine m_if_lt (pc := 343) 374 rfl (by decide) (fun h9 => absurd h9 (spr_U (hK.2.1.2.2.1 a ha1) h274 h287)) (fun _ => ?_)
      refine m_aload_n (pc := 346) (j := 1) rfl rfl ?_
      refine m_iload (pc := 347) (j := 9) rfl rfl ?_
      refine m_iconst (pc := 349) 1 rfl (by decide) ?_
      refine m_aload_n (pc := 350) (j := 2) rfl rfl ?_
      refine m_iconst (pc := 351) 3 rfl (by decide) ?_
      refine m_iconst (pc := 352) 5 rfl (by decide) ?_
      refine m_iload (pc := 353) (j := 9) rfl rfl ?_
      refine m_imul (pc := 355) rfl ?_
      refine m_iadd (pc := 356) rfl ?_
      refine m_st (st2 := [.int (nI (3 + 5 * a)), .ref 70, .int 1, .int (nI a), .ref 0]) (by rw [e35 a]; try rfl) ?_
      refine m_iald (pc := 357) (a := 70) (3 + 5 * a) rfl he.2 (vp_in_nI (by omega) (by decide)) (nI_clamp (by omega)) ?_
      refine m_st (st2 := [.int (B3.1 3 (5 * a + 1)), .int 1, .int (nI a), .ref 0]) (by rw [show (S9.1 70 (3 + 5 * a)) = (B3.1 3 (5 * a + 1)) from (congrFun (hf 70 (by omega) (by omega)).1 _).trans ((by rw [show 3 + 5 * a = 2 + (5 * a + 1) by omega]; exact hK.2.2.2.2 _ (by omega)))]; try rfl) ?_
      refine m_callVG (pc := 358) (as := [.int (nI a), .int 1, .int (B3.1 3 (5 * a + 1))]) (rest := []) (b := 0) rfl ce_X8_set ml_L_30 im_X8_set se_X8_set he.1.1 rfl rfl rfl (by omega) (Nat.le_of_ble_eq_true rfl) (sp_X8_set he.1 (fl_iv hiU hf)) (fun r9 S9 h9 => ?_)
      obtain ⟨rfl, hf⟩ := rd_set hiU hf (c := a) (u := 1) ha1 (by decide) (al_of (hK.2.1.2.2.1 a ha1)).1 h9
      refine m_aload_n (pc := 361) (j := 2) rfl rfl ?_
      refine m_iconst (pc := 362) 3 rfl (by decide) ?_
      refine m_iconst (pc := 363) 5 rfl (by decide) ?_
      refine m_iload (pc := 364) (j := 9) rfl rfl ?_
      refine m_imul (pc := 366) rfl ?_
      refine m_iadd (pc := 367) rfl ?_
      refine m_st (st2 := [.int (nI (3 + 5 * a)), .ref 70, .int ((pSI B3 3 (5 * a + 1) (B3.1 3 (5 * a + 1) + 1)).1 3 (5 * a + 1))]) (by rw [e35 a]; try rfl) ?_
      refine m_iald (pc := 368) (a := 70) (3 + 5 * a) rfl he.2 (vp_in_nI (by omega) (by decide)) (nI_clamp (by omega)) ?_
      refine m_st (st2 := [.int (B3.1 3 (5 * a + 1)), .int ((pSI B3 3 (5 * a + 1) (B3.1 3 (5 * a + 1) + 1)).1 3 (5 * a + 1))]) (by rw [show (S9.1 70 (3 + 5 * a)) = (B3.1 3 (5 * a + 1)) from (congrFun (hf 70 (by omega) (by omega)).1 _).trans ((by rw [show 3 + 5 * a = 2 + (5 * a + 1) by omega]; exact hK.2.2.2.2 _ (by omega)))]; try rfl) ?_
      refine m_iconst (pc := 369) 1 rfl (by decide) ?_
      refine m_iadd (pc := 370) rfl ?_
      refine m_icmp_eq (pc := 371) 376 rfl (by decide) (fun _ => ?_) (fun h9 => absurd pSI_at h9)
      exact m_forget [some (.ref 1000), some (.ref 0), some (.ref 70), some (.int (nI t)), some (.int w), some (.int (nI n)), some (.int (nI k)), none, none, none, none, none] fg7 (hex _ B3 _ ⟨l, rfl, hl⟩ hK (by rw [set_back rfl] at hf; exact hf))
set_option maxRecDepth 100000 in
theorem lp_K {n0 : Nat} {X : Nat × (Nat → Int32)} {Q : PQ} {mc ms sL kL jL : Nat} (hmx : sL + 2 < 900 ∧ kL ≤ mc ∧ jL ≤ ms) {d : Nat} (hd9 : 10 ≤ d) (hX : X.1 ≤ 260) {S0 : PSt} {t n : Nat} {w : Int32} (ht : t < 3) (h0 : 0 < n) (hN : n ≤ 20) (hex : ∀ sh kc ks B T, isLw sh → (sh.length ≤ sL ∧ kc ≤ kL ∧ ks ≤ jL) → kI S0 n B → frL B T → pWP mL_law d mc ms n0 X Q 382 [some (.ref 1000), some (.ref 0), some (.ref 70), some (.int (nI t)), some (.int w), some (.int (nI n)), some (.int (nI 2)), none, none, none, none, none] [] kc ks sh T) : ∀ (m9 k : Nat) (sh : List PSh) (kc ks : Nat) (B T : PSt), k + m9 = 2 → isLw sh → (sh.length + 2 * m9 ≤ sL ∧ kc + 2 * m9 ≤ kL ∧ ks + 65 * m9 ≤ jL) → kI S0 n B → frL B T → pWP mL_law d mc ms n0 X Q 79 [some (.ref 1000), some (.ref 0), some (.ref 70), some (.int (nI t)), some (.int w), some (.int (nI n)), some (.int (nI k)), none, none, none, none, none] [] kc ks sh T := by
  intro m9
  induction m9 with
  | zero =>
    intro k sh kc ks B T hk he hb hK hf
    have hk9 : k = 2 := by omega
    subst hk9
    have hm9 : kc ≤ mc ∧ ks ≤ ms := by omega
    refine m_iload (pc := 79) (j := 6) rfl rfl ?_
    refine m_iconst (pc := 81) 2 rfl (by decide) ?_
    refine m_icmp_ge (pc := 82) 382 rfl (by decide) (fun _ => ?_) (fun h9 => absurd (by decide) h9)
    exact hex _ _ _ _ _ he hb hK hf
  | succ m9 ih =>
    intro k sh kc ks B T hk he hb hK hf
    have hk1 : k < 2 := by omega
    have hm9 : kc ≤ mc ∧ ks ≤ ms := by omega
    refine m_iload (pc := 79) (j := 6) rfl rfl ?_
    refine m_iconst (pc := 81) 2 rfl (by decide) ?_
    refine m_icmp_ge (pc := 82) 382 rfl (by decide) (fun h9 => absurd h9 (show ¬ nI 2 ≤ nI k from nI_ge hk1 (by omega))) (fun _ => ?_)
    refine lw_K (by omega) hd9 hX he (by omega) ht hk1 h0 hN hK hf (fun sh2 B T h hK hf => ?_)
    obtain ⟨l, rfl, hl⟩ := h
    refine m_iinc (pc := 376) (j := 6) (n := 1) (nI (k + 1)) [some (.ref 1000), some (.ref 0), some (.ref 70), some (.int (nI t)), some (.int w), some (.int (nI n)), some (.int (nI (k + 1))), none, none, none, none, none] rfl (by decide) rfl (nI_1 k) rfl ?_
    refine m_goto (pc := 379) 79 rfl (by decide) ?_
    exact ih (k + 1) (sh ++ l) (kc + 2) (ks + 65) B T (by omega) (isLw_apps he) (by rw [List.length_append]; omega) hK hf
set_option maxRecDepth 100000 in
theorem lw_S {n0 : Nat} {X : Nat × (Nat → Int32)} {Q : PQ} {mc ms kc ks : Nat} (hm9 : kc ≤ mc ∧ ks ≤ ms) {d : Nat} (hd9 : 10 ≤ d) (hX : X.1 ≤ 260) {sh : List PSh} (he : isLw sh) {S0 B : PSt} {t n : Nat} {w : Int32} (h0 : 0 < n) (hN : n ≤ 20) (hK : kI S0 n B) (htp : cTp B 0) (hsh : cSh B) {T : PSt} (hf : frL B T) (hex : ∀ C T, wI S0 n C → cTp C 0 → frL C T → pWP mL_law d mc ms n0 X Q 448 [some (.ref 1000), some (.ref 0), some (.ref 70), some (.int (nI t)), some (.int w), some (.int (nI n)), some (.ref 1003), some (.int 0), none, none, none, none] [] kc ks sh T) : pWP mL_law d mc ms n0 X Q 382 [some (.ref 1000), some (.ref 0), some (.ref 70), some (.int (nI t)), some (.int w), some (.int (nI n)), some (.int (nI 2)), none, none, none, none, none] [] kc ks sh T := by
  have hs1 := sh_1 hK.2.1 hsh
  have e72 : B.1 70 2 = B.1 3 0 := hK.2.2.2.2 0 (by omega)
  have e73 : B.1 70 3 = B.1 3 1 := hK.2.2.2.2 1 (by omega)
  refine m_aload_n (pc := 382) (j := 1) rfl rfl ?_
  refine m_iconst (pc := 383) 0 rfl (by decide) ?_
  refine m_iconst (pc := 384) 0 rfl (by decide) ?_
  refine m_iconst (pc := 385) 2 rfl (by decide) ?_
  refine m_callVG (pc := 386) (as := [.int 0, .int 0, .int 2]) (rest := []) (b := 0) rfl ce_X8_shelf ml_L_147 im_X8_shelf se_X8_shelf he.1.1 rfl rfl rfl (by omega) (Nat.le_of_ble_eq_true rfl) (sp_X8_shelf he.1) (fun r9 S9 h9 => ?_)
  obtain ⟨rfl, hf⟩ := rd_shelf hf h9
  refine m_iconst (pc := 389) 1 rfl (by decide) ?_
  refine m_icmp_ne (pc := 390) 439 rfl (by decide) (fun h9 => absurd h9 (by decide : ¬ ¬ (1 : Int32) = 1)) (fun _ => ?_)
  rcases Bool.eq_false_or_eq_true (decide (B.1 3 0 = 0)) with hq | hq
  · refine m_aload_n (pc := 393) (j := 1) rfl rfl ?_
    refine m_iconst (pc := 394) 0 rfl (by decide) ?_
    refine m_iconst (pc := 395) 1 rfl (by decide) ?_
    refine m_iconst (pc := 396) 0 rfl (by decide) ?_
    refine m_callVG (pc := 397) (as := [.int 0, .int 1, .int 0]) (rest := []) (b := 0) rfl ce_X8_store ml_L_150 im_X8_store se_X8_store he.1.1 rfl rfl rfl (by omega) (Nat.le_of_ble_eq_true rfl) (sp_X8_store he.1 (fl_iv hs1.1 hf) (fl_sh hf hs1.2.1)) (fun r9 S9 h9 => ?_)
    obtain ⟨rfl, hf⟩ := (rd_store hs1.1 h0 hf hs1.2.2.1 hs1.2.2.2 h9).1 (show (clr B 1 0 0 2 12).1 3 0 = 0 from (congrFun (clr_o (by decide) (by decide) (by decide) (by decide)) 0).trans (of_decide_eq_true hq))
    refine m_aload_n (pc := 400) (j := 2) rfl rfl ?_
    refine m_iconst (pc := 401) 2 rfl (by decide) ?_
    refine m_iald (pc := 402) (a := 70) 2 rfl he.2 (vp_in_nI (n := 2) (by decide) (by decide)) rfl ?_
    refine m_st (st2 := [.int (B.1 3 0), .int 1]) (by rw [show (S9.1 70 2) = B.1 3 0 from (congrFun (hf 70 (by omega) (by omega)).1 2).trans ((congrFun (cp_so (by decide)) 2).trans ((congrFun (clr_o (by decide) (by decide) (by decide) (by decide)) 2).trans e72))]; try rfl) ?_
    refine m_if_ne (pc := 403) 410 rfl (by decide) (fun h9 => absurd h9 (fun q9 => q9 (of_decide_eq_true hq))) (fun _ => ?_)
    refine m_iconst (pc := 406) 1 rfl (by decide) ?_
    refine m_goto (pc := 407) 412 rfl (by decide) ?_
    refine m_icmp_ne (pc := 412) 439 rfl (by decide) (fun h9 => absurd h9 (by decide : ¬ ¬ (1 : Int32) = 1)) (fun _ => ?_)
    refine m_aload_n (pc := 415) (j := 1) rfl rfl ?_
    refine m_iconst (pc := 416) 0 rfl (by decide) ?_
    refine m_iconst (pc := 417) 1 rfl (by decide) ?_
    refine m_iconst (pc := 418) 1 rfl (by decide) ?_
    refine m_callVG (pc := 419) (as := [.int 0, .int 1, .int 1]) (rest := []) (b := 0) rfl ce_X8_fetch ml_L_153 im_X8_fetch se_X8_fetch he.1.1 rfl rfl rfl (by omega) (Nat.le_of_ble_eq_true rfl) (sp_X8_fetch he.1 (fl_iv (sh_2 hs1).1 hf) (fl_sh hf (sh_2 hs1).2.1)) (fun r9 S9 h9 => ?_)
    obtain ⟨e9, hf⟩ := fetA hs1 hf (show (clr B 1 0 0 2 12).1 3 0 = 0 from (congrFun (clr_o (by decide) (by decide) (by decide) (by decide)) 0).trans (of_decide_eq_true hq)) h9
    subst e9
    refine m_st (st2 := [.int (B.1 3 1)]) (by rw [show (clr B 1 0 0 2 12).1 3 1 = B.1 3 1 from congrFun (clr_o (by decide) (by decide) (by decide) (by decide)) 1]; try rfl) ?_
    refine m_aload_n (pc := 422) (j := 2) rfl rfl ?_
    refine m_iconst (pc := 423) 2 rfl (by decide) ?_
    refine m_iald (pc := 424) (a := 70) 2 rfl he.2 (vp_in_nI (n := 2) (by decide) (by decide)) rfl ?_
    refine m_st (st2 := [.int (B.1 3 0), .int (B.1 3 1)]) (by rw [show (S9.1 70 2) = B.1 3 0 from (congrFun (hf 70 (by omega) (by omega)).1 2).trans ((congrFun (cp_so (by decide)) 2).trans ((congrFun (clr_o (by decide) (by decide) (by decide) (by decide)) 2).trans e72))]; try rfl) ?_
    refine m_if_ne (pc := 425) 434 rfl (by decide) (fun h9 => absurd h9 (fun q9 => q9 (of_decide_eq_true hq))) (fun _ => ?_)
    refine m_aload_n (pc := 428) (j := 2) rfl rfl ?_
    refine m_iconst (pc := 429) 3 rfl (by decide) ?_
    refine m_iald (pc := 430) (a := 70) 3 rfl he.2 (vp_in_nI (n := 3) (by decide) (by decide)) rfl ?_
    refine m_st (st2 := [.int (B.1 3 1), .int (B.1 3 1)]) (by rw [show (S9.1 70 3) = B.1 3 1 from (congrFun (hf 70 (by omega) (by omega)).1 3).trans ((congrFun (cp_so (by decide)) 3).trans ((congrFun (clr_o (by decide) (by decide) (by decide) (by decide)) 3).trans e73))]; try rfl) ?_
    refine m_goto (pc := 431) 436 rfl (by decide) ?_
    refine m_icmp_eq (pc := 436) 441 rfl (by decide) (fun _ => ?_) (fun h9 => absurd rfl h9)
    refine m_ldcS (pc := 441) rfl rfl ?_
    refine m_astore (pc := 443) (j := 6) [some (.ref 1000), some (.ref 0), some (.ref 70), some (.int (nI t)), some (.int w), some (.int (nI n)), some (.ref 1003), none, none, none, none, none] rfl (by decide) rfl ?_
    refine m_iconst (pc := 445) 0 rfl (by decide) ?_
    refine m_istore (pc := 446) (j := 7) [some (.ref 1000), some (.ref 0), some (.ref 70), some (.int (nI t)), some (.int w), some (.int (nI n)), some (.ref 1003), some (.int 0), none, none, none, none] rfl (by decide) rfl ?_
    exact hex _ _ (wI_o (wI_o (wI_k hK) (fun x a b => clr_o (by omega) (by omega) (by omega) (by omega)) (clr_o (by decide) (by decide) (by decide) (by decide)) (clr_o (by decide) (by decide) (by decide) (by decide)) (congrFun (clr_o (by decide) (by decide) (by decide) (by decide)) 2)) (fun x a b => cp_so (by omega)) (cp_so (by decide)) (cp_so (by decide)) (congrFun (cp_so (by decide)) 2)) (show cTp (cpS (clr B 1 0 0 2 12) 5 1 3 0 5) 0 from (by unfold cTp; rw [cp_so (by decide)]; exact (show cTp (clr B 1 0 0 2 12) 0 from (by unfold cTp; rw [clr_o (by decide) (by decide) (by decide) (by decide)]; exact htp)))) hf
  · refine m_aload_n (pc := 393) (j := 1) rfl rfl ?_
    refine m_iconst (pc := 394) 0 rfl (by decide) ?_
    refine m_iconst (pc := 395) 1 rfl (by decide) ?_
    refine m_iconst (pc := 396) 0 rfl (by decide) ?_
    refine m_callVG (pc := 397) (as := [.int 0, .int 1, .int 0]) (rest := []) (b := 0) rfl ce_X8_store ml_L_150 im_X8_store se_X8_store he.1.1 rfl rfl rfl (by omega) (Nat.le_of_ble_eq_true rfl) (sp_X8_store he.1 (fl_iv hs1.1 hf) (fl_sh hf hs1.2.1)) (fun r9 S9 h9 => ?_)
    obtain ⟨rfl, hf⟩ := (rd_store hs1.1 h0 hf hs1.2.2.1 hs1.2.2.2 h9).2 (fun q8 => of_decide_eq_false hq ((congrFun (clr_o (S := B) (v := 0) (n := 2) (x := 3) (by decide) (by decide) (by decide) (by decide)) 0).symm.trans q8))
    refine m_aload_n (pc := 400) (j := 2) rfl rfl ?_
    refine m_iconst (pc := 401) 2 rfl (by decide) ?_
    refine m_iald (pc := 402) (a := 70) 2 rfl he.2 (vp_in_nI (n := 2) (by decide) (by decide)) rfl ?_
    refine m_st (st2 := [.int (B.1 3 0), .int (-2147483005)]) (by rw [show (S9.1 70 2) = B.1 3 0 from (congrFun (hf 70 (by omega) (by omega)).1 2).trans ((congrFun (clr_o (by decide) (by decide) (by decide) (by decide)) 2).trans e72)]; try rfl) ?_
    refine m_if_ne (pc := 403) 410 rfl (by decide) (fun _ => ?_) (fun h9 => absurd h9 (of_decide_eq_false hq))
    refine m_ldc (pc := 410) (v := (-2147483005)) rfl kc_L_103 ?_
    refine m_icmp_ne (pc := 412) 439 rfl (by decide) (fun h9 => absurd h9 (by decide : ¬ ¬ ((-2147483005) : Int32) = (-2147483005))) (fun _ => ?_)
    refine m_aload_n (pc := 415) (j := 1) rfl rfl ?_
    refine m_iconst (pc := 416) 0 rfl (by decide) ?_
    refine m_iconst (pc := 417) 1 rfl (by decide) ?_
    refine m_iconst (pc := 418) 1 rfl (by decide) ?_
    refine m_callVG (pc := 419) (as := [.int 0, .int 1, .int 1]) (rest := []) (b := 0) rfl ce_X8_fetch ml_L_153 im_X8_fetch se_X8_fetch he.1.1 rfl rfl rfl (by omega) (Nat.le_of_ble_eq_true rfl) (sp_X8_fetch he.1 (fl_iv hs1.1 hf) (fl_sh hf hs1.2.1)) (fun r9 S9 h9 => ?_)
    obtain ⟨e9, hf⟩ := fetB hs1.2.2.1 hs1.2.2.2 clr_55 hf h9
    subst e9
    refine m_aload_n (pc := 422) (j := 2) rfl rfl ?_
    refine m_iconst (pc := 423) 2 rfl (by decide) ?_
    refine m_iald (pc := 424) (a := 70) 2 rfl he.2 (vp_in_nI (n := 2) (by decide) (by decide)) rfl ?_
    refine m_st (st2 := [.int (B.1 3 0), .int (-2147483002)]) (by rw [show (S9.1 70 2) = B.1 3 0 from (congrFun (hf 70 (by omega) (by omega)).1 2).trans ((congrFun (clr_o (by decide) (by decide) (by decide) (by decide)) 2).trans e72)]; try rfl) ?_
    refine m_if_ne (pc := 425) 434 rfl (by decide) (fun _ => ?_) (fun h9 => absurd h9 (of_decide_eq_false hq))
    refine m_ldc (pc := 434) (v := (-2147483002)) rfl kc_L_71 ?_
    refine m_icmp_eq (pc := 436) 441 rfl (by decide) (fun _ => ?_) (fun h9 => absurd rfl h9)
    refine m_ldcS (pc := 441) rfl rfl ?_
    refine m_astore (pc := 443) (j := 6) [some (.ref 1000), some (.ref 0), some (.ref 70), some (.int (nI t)), some (.int w), some (.int (nI n)), some (.ref 1003), none, none, none, none, none] rfl (by decide) rfl ?_
    refine m_iconst (pc := 445) 0 rfl (by decide) ?_
    refine m_istore (pc := 446) (j := 7) [some (.ref 1000), some (.ref 0), some (.ref 70), some (.int (nI t)), some (.int w), some (.int (nI n)), some (.ref 1003), some (.int 0), none, none, none, none] rfl (by decide) rfl ?_
    exact hex _ _ (wI_o (wI_k hK) (fun x a b => clr_o (by omega) (by omega) (by omega) (by omega)) (clr_o (by decide) (by decide) (by decide) (by decide)) (clr_o (by decide) (by decide) (by decide) (by decide)) (congrFun (clr_o (by decide) (by decide) (by decide) (by decide)) 2)) (show cTp (clr B 1 0 0 2 12) 0 from (by unfold cTp; rw [clr_o (by decide) (by decide) (by decide) (by decide)]; exact htp)) hf
theorem lw_b {C : PSt} {k : Nat} {v : Int32} (hb : ∀ j, j < k → C.1 62 j = pTx.getD j 0) : ∀ j, j < k + 1 → (pSI (pSI C 62 k (pTx.getD k 0)) 61 1 v).1 62 j = pTx.getD j 0 := by
  intro j hj
  rw [pSI_ne (by decide)]
  by_cases h : j = k
  · subst h
    exact pSI_at
  · rw [pSI_j h]
    exact hb j (by omega)
set_option maxRecDepth 100000 in
theorem lp_F {n0 : Nat} {X : Nat × (Nat → Int32)} {Q : PQ} {mc ms kc ks : Nat} (hm9 : kc ≤ mc ∧ ks ≤ ms) {d : Nat} (hd9 : 10 ≤ d) (hX : X.1 ≤ 260) {sh : List PSh} (he : isLw sh) {S0 : PSt} {t n : Nat} {w : Int32}  (hex : ∀ C T, wI S0 n C → cTp C 11 → (∀ j, j < 11 → C.1 62 j = pTx.getD j 0) → frL C T → pWP mL_law d mc ms n0 X Q 484 [some (.ref 1000), some (.ref 0), some (.ref 70), some (.int (nI t)), some (.int w), some (.int (nI n)), some (.ref 1003), some (.int (nI 11)), none, none, none, none] [] kc ks sh T) : ∀ (m9 k : Nat) (C : PSt) (T : PSt), k + m9 = 11 → wI S0 n C → cTp C k → (∀ j, j < k → C.1 62 j = pTx.getD j 0) → frL C T → pWP mL_law d mc ms n0 X Q 448 [some (.ref 1000), some (.ref 0), some (.ref 70), some (.int (nI t)), some (.int w), some (.int (nI n)), some (.ref 1003), some (.int (nI k)), none, none, none, none] [] kc ks sh T := by
  intro m9
  induction m9 with
  | zero =>
    intro k C T hk hw htp hb hf
    have hk9 : 11 = k := by omega
    subst hk9
    refine m_iload (pc := 448) (j := 7) rfl rfl ?_
    refine m_aload (pc := 450) (j := 6) rfl rfl ?_
    refine m_callT (pc := 452) (as := []) (rest := [.int (nI 11)]) (st2 := [.int 11, .int (nI 11)]) rfl ce_J0_length_8abf5 ml_L_158 im_J0_length_8abf5 se_J0_length_8abf5 rfl rfl (by omega) (Nat.le_of_ble_eq_true rfl) sp_strLen rfl ?_
    refine m_icmp_ge (pc := 455) 484 rfl (by decide) (fun _ => ?_) (fun h9 => absurd (by decide) h9)
    exact hex _ _ hw htp hb hf
  | succ m9 ih =>
    intro k C T hk hw htp hb hf
    have hk1 : k < 11 := by omega
    have hk2 : k < 11 := hk1
    refine m_iload (pc := 448) (j := 7) rfl rfl ?_
    refine m_aload (pc := 450) (j := 6) rfl rfl ?_
    refine m_callT (pc := 452) (as := []) (rest := [.int (nI k)]) (st2 := [.int 11, .int (nI k)]) rfl ce_J0_length_8abf5 ml_L_158 im_J0_length_8abf5 se_J0_length_8abf5 rfl rfl (by omega) (Nat.le_of_ble_eq_true rfl) sp_strLen rfl ?_
    refine m_icmp_ge (pc := 455) 484 rfl (by decide) (fun h9 => absurd h9 (show ¬ nI 11 ≤ nI k from nI_ge hk1 (by omega))) (fun _ => ?_)
    refine m_aload_n (pc := 458) (j := 1) rfl rfl ?_
    refine m_aload (pc := 459) (j := 6) rfl rfl ?_
    refine m_iload (pc := 461) (j := 7) rfl rfl ?_
    refine m_callT (pc := 463) (as := [.int (nI k)]) (rest := [.ref 0]) (st2 := [.int (pTx.getD k 0), .ref 0]) rfl ce_J0_charAt_5068e ml_L_163 im_J0_charAt_5068e se_J0_charAt_5068e rfl rfl (by omega) (Nat.le_of_ble_eq_true rfl) (sp_charAt hk1) rfl ?_
    refine m_callVG (pc := 466) (as := [.int (pTx.getD k 0)]) (rest := []) (b := 0) rfl ce_X8_feed ml_L_167 im_X8_feed se_X8_feed he.1.1 rfl rfl rfl (by omega) (Nat.le_of_ble_eq_true rfl) (sp_X8_feed he.1 (z := k) (fl_tp hf htp)) (fun r9 S9 h9 => ?_)
    obtain ⟨rfl, hf⟩ := rd_feed hf (txt_w k hk1) (by omega) h9
    refine m_iload (pc := 469) (j := 7) rfl rfl ?_
    refine m_iconst (pc := 471) 1 rfl (by decide) ?_
    refine m_iadd (pc := 472) rfl ?_
    refine m_st (st2 := [.int (nI (k + 1)), .int (nI (k + 1))]) (by rw [nI_1 k]; try rfl) ?_
    refine m_icmp_eq (pc := 473) 478 rfl (by decide) (fun _ => ?_) (fun h9 => absurd rfl h9)
    refine m_iinc (pc := 478) (j := 7) (n := 1) (nI (k + 1)) [some (.ref 1000), some (.ref 0), some (.ref 70), some (.int (nI t)), some (.int w), some (.int (nI n)), some (.ref 1003), some (.int (nI (k + 1))), none, none, none, none] rfl (by decide) rfl (nI_1 k) rfl ?_
    refine m_goto (pc := 481) 448 rfl (by decide) ?_
    exact ih (k + 1) (pSI (pSI C 62 k (pTx.getD k 0)) 61 1 (nI (k + 1))) _ (by omega) (wI_o hw (fun x a b => (pSI_ne (by omega)).trans (pSI_ne (by omega))) ((pSI_ne (by decide)).trans (pSI_ne (by decide))) ((pSI_ne (by decide)).trans (pSI_ne (by decide))) ((congrFun (pSI_ne (by decide)) 2).trans (congrFun (pSI_ne (by decide)) 2))) ⟨pSI_at, by omega⟩ (lw_b hb) hf
set_option maxRecDepth 100000 in
theorem lw_M {n0 : Nat} {X : Nat × (Nat → Int32)} {Q : PQ} {mc ms kc ks : Nat} (hm9 : kc ≤ mc ∧ ks ≤ ms) {d : Nat} (hd9 : 10 ≤ d) (hX : X.1 ≤ 260) {sh : List PSh} (he : isLw sh) {S0 C : PSt} {t n : Nat} {w : Int32} (ht : t < 3) (hN : n ≤ 20) (hS : sI S0 n t) (hw : wI S0 n C) (htp : cTp C 11) (hb : ∀ j, j < 11 → C.1 62 j = pTx.getD j 0) {T : PSt} (hf : frL C T) (hex : ∀ E T, bI t n E → frL E T → pWP mL_law d mc ms n0 X Q 584 [some (.ref 1000), some (.ref 0), some (.ref 70), some (.int (nI t)), some (.int w), some (.int (nI n)), some (.ref 1003), some (.int 0), none, none, none, none] [] kc ks sh T) : pWP mL_law d mc ms n0 X Q 484 [some (.ref 1000), some (.ref 0), some (.ref 70), some (.int (nI t)), some (.int w), some (.int (nI n)), some (.ref 1003), some (.int (nI 11)), none, none, none, none] [] kc ks sh T := by
  refine m_aload_n (pc := 484) (j := 1) rfl rfl ?_
  refine m_callVG (pc := 485) (as := []) (rest := []) (b := 0) rfl ce_X8_music ml_L_170 im_X8_music se_X8_music he.1.1 rfl rfl rfl (by omega) (Nat.le_of_ble_eq_true rfl) (sp_X8_music he.1 (z := 11) (fl_tp hf htp)) (fun r9 S9 h9 => ?_)
  obtain ⟨rfl, hz⟩ := rd_music hf hb h9
  have hf : frL S9 S9 := fl_rf
  obtain ⟨C3, hC3⟩ : ∃ q, q = S9 := ⟨_, rfl⟩; rw [← hC3] at hf hz ⊢; have hi3 := muZ_iv hz hw.2.2.2.2; have hw3 := wI_z hw hz
  refine m_iconst (pc := 488) 3 rfl (by decide) ?_
  refine m_icmp_ne (pc := 489) 544 rfl (by decide) (fun h9 => absurd h9 (by decide : ¬ ¬ (3 : Int32) = 3)) (fun _ => ?_)
  refine m_aload_n (pc := 492) (j := 1) rfl rfl ?_
  refine m_iconst (pc := 493) 0 rfl (by decide) ?_
  refine m_iconst (pc := 494) 1 rfl (by decide) ?_
  refine m_callVG (pc := 495) (as := [.int 0, .int 1]) (rest := []) (b := 0) rfl ce_X8_of ml_L_118 im_X8_of se_X8_of he.1.1 rfl rfl rfl (by omega) (Nat.le_of_ble_eq_true rfl) (sp_X8_of he.1 (fl_iv hi3 hf)) (fun r9 S9 h9 => ?_)
  obtain ⟨rfl, hf⟩ := rd_of hi3 hf (c := 0) (u := 1) (by decide) (by decide) h9
  refine m_st (st2 := [.int 16]) (by rw [show C3.1 3 (5 * 0 + 1) = 16 from hz.2.2.2.2.2.1.2.1]; try rfl) ?_
  refine m_bipush (pc := 498) 16 rfl (by decide) ?_
  refine m_icmp_ne (pc := 500) 544 rfl (by decide) (fun h9 => absurd h9 (by decide : ¬ ¬ (16 : Int32) = 16)) (fun _ => ?_)
  refine m_aload_n (pc := 503) (j := 1) rfl rfl ?_
  refine m_iconst (pc := 504) 0 rfl (by decide) ?_
  refine m_iconst (pc := 505) 2 rfl (by decide) ?_
  refine m_callVG (pc := 506) (as := [.int 0, .int 2]) (rest := []) (b := 0) rfl ce_X8_of ml_L_118 im_X8_of se_X8_of he.1.1 rfl rfl rfl (by omega) (Nat.le_of_ble_eq_true rfl) (sp_X8_of he.1 (fl_iv hi3 hf)) (fun r9 S9 h9 => ?_)
  obtain ⟨rfl, hf⟩ := rd_of hi3 hf (c := 0) (u := 2) (by decide) (by decide) h9
  refine m_st (st2 := [.int (-4)]) (by rw [show C3.1 3 (5 * 0 + 2) = (-4) from hz.2.2.2.2.2.1.2.2.1]; try rfl) ?_
  refine m_bipush (pc := 509) (-4) rfl (by decide) ?_
  refine m_icmp_ne (pc := 511) 544 rfl (by decide) (fun h9 => absurd h9 (by decide : ¬ ¬ ((-4) : Int32) = (-4))) (fun _ => ?_)
  refine m_aload_n (pc := 514) (j := 1) rfl rfl ?_
  refine m_iconst (pc := 515) 0 rfl (by decide) ?_
  refine m_iconst (pc := 516) 4 rfl (by decide) ?_
  refine m_callVG (pc := 517) (as := [.int 0, .int 4]) (rest := []) (b := 0) rfl ce_X8_of ml_L_118 im_X8_of se_X8_of he.1.1 rfl rfl rfl (by omega) (Nat.le_of_ble_eq_true rfl) (sp_X8_of he.1 (fl_iv hi3 hf)) (fun r9 S9 h9 => ?_)
  obtain ⟨rfl, hf⟩ := rd_of hi3 hf (c := 0) (u := 4) (by decide) (by decide) h9
  refine m_st (st2 := [.int 1]) (by rw [show C3.1 3 (5 * 0 + 4) = 1 from hz.2.2.2.2.2.1.2.2.2.2]; try rfl) ?_
  refine m_iconst (pc := 520) 1 rfl (by decide) ?_
  refine m_icmp_ne (pc := 521) 544 rfl (by decide) (fun h9 => absurd h9 (by decide : ¬ ¬ (1 : Int32) = 1)) (fun _ => ?_)
  refine m_aload_n (pc := 524) (j := 1) rfl rfl ?_
  refine m_iconst (pc := 525) 1 rfl (by decide) ?_
  refine m_iconst (pc := 526) 0 rfl (by decide) ?_
  refine m_callVG (pc := 527) (as := [.int 1, .int 0]) (rest := []) (b := 0) rfl ce_X8_of ml_L_118 im_X8_of se_X8_of he.1.1 rfl rfl rfl (by omega) (Nat.le_of_ble_eq_true rfl) (sp_X8_of he.1 (fl_iv hi3 hf)) (fun r9 S9 h9 => ?_)
  obtain ⟨rfl, hf⟩ := rd_of hi3 hf (c := 1) (u := 0) (by decide) (by decide) h9
  refine m_st (st2 := [.int 2]) (by rw [show C3.1 3 (5 * 1 + 0) = 2 from hz.2.2.2.2.2.2.1.1]; try rfl) ?_
  refine m_iconst (pc := 530) 2 rfl (by decide) ?_
  refine m_icmp_ne (pc := 531) 544 rfl (by decide) (fun h9 => absurd h9 (by decide : ¬ ¬ (2 : Int32) = 2)) (fun _ => ?_)
  refine m_aload_n (pc := 534) (j := 1) rfl rfl ?_
  refine m_iconst (pc := 535) 2 rfl (by decide) ?_
  refine m_iconst (pc := 536) 1 rfl (by decide) ?_
  refine m_callVG (pc := 537) (as := [.int 2, .int 1]) (rest := []) (b := 0) rfl ce_X8_of ml_L_118 im_X8_of se_X8_of he.1.1 rfl rfl rfl (by omega) (Nat.le_of_ble_eq_true rfl) (sp_X8_of he.1 (fl_iv hi3 hf)) (fun r9 S9 h9 => ?_)
  obtain ⟨rfl, hf⟩ := rd_of hi3 hf (c := 2) (u := 1) (by decide) (by decide) h9
  refine m_st (st2 := [.int 3]) (by rw [show C3.1 3 (5 * 2 + 1) = 3 from hz.2.2.2.2.2.2.2.2.1]; try rfl) ?_
  refine m_iconst (pc := 540) 3 rfl (by decide) ?_
  refine m_icmp_eq (pc := 541) 546 rfl (by decide) (fun _ => ?_) (fun h9 => absurd (by decide : (3 : Int32) = 3) h9)
  refine m_aload_n (pc := 546) (j := 1) rfl rfl ?_
  have e8 : C3.1 8 1 = nI n := (congrFun (hw3.1 8 (by decide) (by decide)) 1).trans hS.2.2.2.1; have e02 : C3.1 0 2 = 1 := (congrFun hw3.2.1 2).trans hS.2.2.1
  refine m_callVG (pc := 547) (as := []) (rest := []) (b := 0) rfl ce_X8_restore ml_L_173 im_X8_restore se_X8_restore he.1.1 rfl rfl rfl (by omega) (Nat.le_of_ble_eq_true rfl) (sp_X8_restore he.1 (N := n) (fun _ => (fl_at hf (by decide)).trans e8)) (fun r9 S9 h9 => ?_)
  obtain ⟨rfl, hf⟩ := rd_restore (N := n) hf (by rw [e02]; decide) h9
  obtain ⟨hi4, htp4, hsh4, hE4, h64⟩ := put_back hS hw3.1 hz.2.2.1 hw3.2.2.2.1 hw3.2.2.1
  refine m_iload (pc := 550) (j := 5) rfl rfl ?_
  refine m_icmp_ne (pc := 552) 571 rfl (by decide) (fun h9 => absurd h9 (fun q9 => q9 rfl)) (fun _ => ?_)
  refine m_aload_n (pc := 555) (j := 1) rfl rfl ?_
  refine m_iconst (pc := 556) 0 rfl (by decide) ?_
  refine m_iconst (pc := 557) 0 rfl (by decide) ?_
  refine m_iconst (pc := 558) 0 rfl (by decide) ?_
  refine m_callVG (pc := 559) (as := [.int 0, .int 0, .int 0]) (rest := []) (b := 0) rfl ce_X8_fetch ml_L_153 im_X8_fetch se_X8_fetch he.1.1 rfl rfl rfl (by omega) (Nat.le_of_ble_eq_true rfl) (sp_X8_fetch he.1 (fl_iv hi4 hf) (fl_sh hf hsh4)) (fun r9 S9 h9 => ?_)
  obtain ⟨rfl, hf⟩ := rd_fetch hf h9
  refine m_ldc (pc := 562) (v := (-2147483007)) rfl kc_L_176 ?_
  refine m_icmp_eq (pc := 564) 573 rfl (by decide) (fun h564 => ?_) (fun h564 => ?_)
  · refine m_aload_n (pc := 573) (j := 2) rfl rfl ?_
    refine m_iconst (pc := 574) 1 rfl (by decide) ?_
    refine m_aload_n (pc := 575) (j := 1) rfl rfl ?_
    refine m_iconst (pc := 576) 1 rfl (by decide) ?_
    refine m_callVG (pc := 577) (as := [.int 1]) (rest := [.int 1, .ref 70]) (b := 0) rfl ce_X8_count ml_L_9 im_X8_count se_X8_count he.1.1 rfl rfl rfl (by omega) (Nat.le_of_ble_eq_true rfl) (sp_X8_count he.1 (fl_iv hi4 hf) (fl_tp hf htp4)) (fun r9 S9 h9 => ?_)
    obtain ⟨rfl, hf⟩ := rd_cnt1 hf h9
    refine m_iast (pc := 580) (a := 70) 1 rfl he.2 (vp_in_nI (n := 1) (by decide) (by decide)) rfl ?_
    have hf := fl_I (c := 70) (i := 1) (v := (pgB C3 1 8).1 1 2) hf
    refine m_iconst (pc := 581) 0 rfl (by decide) ?_
    refine m_istore (pc := 582) (j := 7) [some (.ref 1000), some (.ref 0), some (.ref 70), some (.int (nI t)), some (.int w), some (.int (nI n)), some (.ref 1003), some (.int 0), none, none, none, none] rfl (by decide) rfl ?_
    exact hex _ _ (bI_of hi4 htp4 hsh4 hE4) hf
  · refine m_iload_n (pc := 567) (j := 3) rfl rfl ?_
    refine m_if_ne (pc := 568) 573 rfl (by decide) (fun _ => ?_) (fun h9 => absurd h9 (nI_ne0 (Nat.pos_of_ne_zero (fun q8 => h564 (fet_0 (h64 q8)))) (by omega)))
    refine m_aload_n (pc := 573) (j := 2) rfl rfl ?_
    refine m_iconst (pc := 574) 1 rfl (by decide) ?_
    refine m_aload_n (pc := 575) (j := 1) rfl rfl ?_
    refine m_iconst (pc := 576) 1 rfl (by decide) ?_
    refine m_callVG (pc := 577) (as := [.int 1]) (rest := [.int 1, .ref 70]) (b := 0) rfl ce_X8_count ml_L_9 im_X8_count se_X8_count he.1.1 rfl rfl rfl (by omega) (Nat.le_of_ble_eq_true rfl) (sp_X8_count he.1 (fl_iv hi4 hf) (fl_tp hf htp4)) (fun r9 S9 h9 => ?_)
    obtain ⟨rfl, hf⟩ := rd_cnt1 hf h9
    refine m_iast (pc := 580) (a := 70) 1 rfl he.2 (vp_in_nI (n := 1) (by decide) (by decide)) rfl ?_
    have hf := fl_I (c := 70) (i := 1) (v := (pgB C3 1 8).1 1 2) hf
    refine m_iconst (pc := 581) 0 rfl (by decide) ?_
    refine m_istore (pc := 582) (j := 7) [some (.ref 1000), some (.ref 0), some (.ref 70), some (.int (nI t)), some (.int w), some (.int (nI n)), some (.ref 1003), some (.int 0), none, none, none, none] rfl (by decide) rfl ?_
    exact hex _ _ (bI_of hi4 htp4 hsh4 hE4) hf
set_option maxRecDepth 100000 in
theorem lp_G1 {n0 : Nat} {X : Nat × (Nat → Int32)} {Q : PQ} {mc ms kc ks : Nat} (hm9 : kc ≤ mc ∧ ks ≤ ms) {d : Nat} (hd9 : 10 ≤ d) {sh : List PSh} (he : isLw sh) {E : PSt} {t n : Nat} {w : Int32} (hN : n ≤ 20) (hE : bI t n E) {c : Nat} (hc : c < n)  (hex : ∀ T, frL E T → pWP mL_law d mc ms n0 X Q 630 [some (.ref 1000), some (.ref 0), some (.ref 70), some (.int (nI t)), some (.int w), some (.int (nI n)), some (.ref 1003), some (.int (nI c)), some (.int (nI 5)), none, none, none] [] kc ks sh T) : ∀ (m9 k : Nat)  (T : PSt), k + m9 = 5 → frL E T → pWP mL_law d mc ms n0 X Q 594 [some (.ref 1000), some (.ref 0), some (.ref 70), some (.int (nI t)), some (.int w), some (.int (nI n)), some (.ref 1003), some (.int (nI c)), some (.int (nI k)), none, none, none] [] kc ks sh T := by
  intro m9
  induction m9 with
  | zero =>
    intro k T hk hf
    have hk9 : 5 = k := by omega
    subst hk9
    refine m_iload (pc := 594) (j := 8) rfl rfl ?_
    refine m_iconst (pc := 596) 5 rfl (by decide) ?_
    refine m_icmp_ge (pc := 597) 630 rfl (by decide) (fun _ => ?_) (fun h9 => absurd (by decide) h9)
    exact hex _ hf
  | succ m9 ih =>
    intro k T hk hf
    have hk1 : k < 5 := by omega
    have hk2 : k < 5 := hk1
    refine m_iload (pc := 594) (j := 8) rfl rfl ?_
    refine m_iconst (pc := 596) 5 rfl (by decide) ?_
    refine m_icmp_ge (pc := 597) 630 rfl (by decide) (fun h9 => absurd h9 (show ¬ nI 5 ≤ nI k from nI_ge hk1 (by omega))) (fun _ => ?_)
    refine m_aload_n (pc := 600) (j := 1) rfl rfl ?_
    refine m_iload (pc := 601) (j := 7) rfl rfl ?_
    refine m_iload (pc := 603) (j := 8) rfl rfl ?_
    refine m_callVG (pc := 605) (as := [.int (nI c), .int (nI k)]) (rest := []) (b := 0) rfl ce_X8_of ml_L_118 im_X8_of se_X8_of he.1.1 rfl rfl rfl (by omega) (Nat.le_of_ble_eq_true rfl) (sp_X8_of he.1 (fl_iv hE.1 hf)) (fun r9 S9 h9 => ?_)
    obtain ⟨rfl, hf⟩ := rd_of hE.1 hf (c := c) (u := k) hc hk1 h9
    refine m_aload_n (pc := 608) (j := 2) rfl rfl ?_
    refine m_iconst (pc := 609) 2 rfl (by decide) ?_
    refine m_iconst (pc := 610) 5 rfl (by decide) ?_
    refine m_iload (pc := 611) (j := 7) rfl rfl ?_
    refine m_imul (pc := 613) rfl ?_
    refine m_iadd (pc := 614) rfl ?_
    refine m_iload (pc := 615) (j := 8) rfl rfl ?_
    refine m_iadd (pc := 617) rfl ?_
    refine m_st (st2 := [.int (nI (2 + 5 * c + k)), .ref 70, .int (E.1 3 (5 * c + k))]) (by rw [lw_25 c k]; try rfl) ?_
    refine m_iald (pc := 618) (a := 70) (2 + 5 * c + k) rfl he.2 (vp_in_nI (by omega) (by decide)) (nI_clamp (by omega)) ?_
    refine m_st (st2 := [.int (E.1 3 (5 * c + k)), .int (E.1 3 (5 * c + k))]) (by rw [show (S9.1 70 (2 + 5 * c + k)) = E.1 3 (5 * c + k) from (congrFun (hf 70 (by omega) (by omega)).1 _).trans (by rw [show 2 + 5 * c + k = 2 + (5 * c + k) by omega]; exact hE.2.1.2.2 _ (by omega))]; try rfl) ?_
    refine m_icmp_eq (pc := 619) 624 rfl (by decide) (fun _ => ?_) (fun h9 => absurd rfl h9)
    refine m_iinc (pc := 624) (j := 8) (n := 1) (nI (k + 1)) [some (.ref 1000), some (.ref 0), some (.ref 70), some (.int (nI t)), some (.int w), some (.int (nI n)), some (.ref 1003), some (.int (nI c)), some (.int (nI (k + 1))), none, none, none] rfl (by decide) rfl (nI_1 k) rfl ?_
    refine m_goto (pc := 627) 594 rfl (by decide) ?_
    exact ih (k + 1) _ (by omega) hf
set_option maxRecDepth 100000 in
theorem lp_G {n0 : Nat} {X : Nat × (Nat → Int32)} {Q : PQ} {mc ms kc ks : Nat} (hm9 : kc ≤ mc ∧ ks ≤ ms) {d : Nat} (hd9 : 10 ≤ d) {sh : List PSh} (he : isLw sh) {E : PSt} {t n : Nat} {w : Int32} (hN : n ≤ 20) (hE : bI t n E)  (hex : ∀ T, frL E T → pWP mL_law d mc ms n0 X Q 636 [some (.ref 1000), some (.ref 0), some (.ref 70), some (.int (nI t)), some (.int w), some (.int (nI n)), some (.ref 1003), some (.int (nI n)), none, none, none, none] [] kc ks sh T) : ∀ (m9 k : Nat)  (T : PSt), k + m9 = n → frL E T → pWP mL_law d mc ms n0 X Q 584 [some (.ref 1000), some (.ref 0), some (.ref 70), some (.int (nI t)), some (.int w), some (.int (nI n)), some (.ref 1003), some (.int (nI k)), none, none, none, none] [] kc ks sh T := by
  intro m9
  induction m9 with
  | zero =>
    intro k T hk hf
    have hk9 : n = k := by omega
    subst hk9
    refine m_iload (pc := 584) (j := 7) rfl rfl ?_
    refine m_iload (pc := 586) (j := 5) rfl rfl ?_
    refine m_icmp_ge (pc := 588) 636 rfl (by decide) (fun _ => ?_) (fun h9 => absurd (Int32.le_refl _) h9)
    exact hex _ hf
  | succ m9 ih =>
    intro k T hk hf
    have hk1 : k < n := by omega
    have hk2 : k < n := hk1
    refine m_iload (pc := 584) (j := 7) rfl rfl ?_
    refine m_iload (pc := 586) (j := 5) rfl rfl ?_
    refine m_icmp_ge (pc := 588) 636 rfl (by decide) (fun h9 => absurd h9 (nI_ge hk1 (by omega))) (fun _ => ?_)
    refine m_iconst (pc := 591) 0 rfl (by decide) ?_
    refine m_istore (pc := 592) (j := 8) [some (.ref 1000), some (.ref 0), some (.ref 70), some (.int (nI t)), some (.int w), some (.int (nI n)), some (.ref 1003), some (.int (nI k)), some (.int 0), none, none, none] rfl (by decide) rfl ?_
    refine m_L rfl (lp_G1 hm9 (by omega) he hN hE hk1 (fun T hf => ?_) 5 0 _ (Nat.zero_add _) hf)
    refine m_iinc (pc := 630) (j := 7) (n := 1) (nI (k + 1)) [some (.ref 1000), some (.ref 0), some (.ref 70), some (.int (nI t)), some (.int w), some (.int (nI n)), some (.ref 1003), some (.int (nI (k + 1))), some (.int (nI 5)), none, none, none] rfl (by decide) rfl (nI_1 k) rfl ?_
    refine m_goto (pc := 633) 584 rfl (by decide) ?_
    exact m_forget [some (.ref 1000), some (.ref 0), some (.ref 70), some (.int (nI t)), some (.int w), some (.int (nI n)), some (.ref 1003), some (.int (nI (k + 1))), none, none, none, none] fg8 (ih (k + 1) _ (by omega) hf)
theorem lw_tp {S0 B : PSt} {n t : Nat} (hS : sI S0 n t) (hK : kI S0 n B) : cTp B 0 := by
  unfold cTp
  rw [hK.1 61 (by decide) (by decide) (by decide) (by decide) (by decide)]
  exact hS.2.1
theorem lw_sh {S0 B : PSt} {n t : Nat} (hS : sI S0 n t) (hK : kI S0 n B) : cSh B := fun s q => by
  rw [hK.1 7 (by decide) (by decide) (by decide) (by decide) (by decide)]
  exact hS.2.2.2.2.2.2.2.1 s q
set_option maxRecDepth 100000 in
theorem lp_T {n0 : Nat} {X : Nat × (Nat → Int32)} {Q : PQ} (hQ : ∀ sh S, Q (some (.int 1)) sh S) {mc ms sL kL jL : Nat} (hmx : sL + 2 < 900 ∧ kL ≤ mc ∧ jL ≤ ms) {d : Nat} (hd9 : 10 ≤ d) (hX : X.1 ≤ 260) : ∀ (m9 t : Nat) (sh : List PSh) (kc ks : Nat) (B T : PSt), t + m9 = 3 → isLw sh → (sh.length + 4 * m9 ≤ sL ∧ kc + 4 * m9 ≤ kL ∧ ks + 130 * m9 ≤ jL) → tI t B → frL B T → pWP mL_law d mc ms n0 X Q 21 [some (.ref 1000), some (.ref 0), some (.ref 70), some (.int (nI t)), none, none, none, none, none, none, none, none] [] kc ks sh T := by
  intro m9
  induction m9 with
  | zero =>
    intro t sh kc ks B T hk he hb hT hf
    have hk9 : t = 3 := by omega
    subst hk9
    have hm9 : kc ≤ mc ∧ ks ≤ ms := by omega
    refine m_iload_n (pc := 21) (j := 3) rfl rfl ?_
    refine m_iconst (pc := 22) 3 rfl (by decide) ?_
    refine m_icmp_ge (pc := 23) 642 rfl (by decide) (fun _ => ?_) (fun h9 => absurd (by decide) h9)
    refine m_iconst (pc := 642) 1 rfl (by decide) ?_
    exact m_zret (pc := 643) rfl rfl rfl (hQ _ _)
  | succ m9 ih =>
    intro t sh kc ks B T hk he hb hT hf
    have hk1 : t < 3 := by omega
    have ht := hk1
    have hm9 : kc ≤ mc ∧ ks ≤ ms := by omega
    refine m_iload_n (pc := 21) (j := 3) rfl rfl ?_
    refine m_iconst (pc := 22) 3 rfl (by decide) ?_
    refine m_icmp_ge (pc := 23) 642 rfl (by decide) (fun h9 => absurd h9 (show ¬ nI 3 ≤ nI t from nI_ge hk1 (by omega))) (fun _ => ?_)
    refine lw_A hm9 hd9 hX he hk1 hT hf (fun S0 n w T h0 hN hS hf => ?_)
    refine m_L rfl (lp_K (sL := sh.length + 4) (kL := kc + 4) (jL := ks + 130) (by omega) hd9 hX ht h0 hN (fun sh kc ks B T he hb2 hK hf => ?_) 2 0 sh kc ks S0 T (Nat.zero_add _) he (by omega) hS.1 hf)
    have hm9 : kc ≤ mc ∧ ks ≤ ms := by omega
    refine lw_S hm9 hd9 hX he h0 hN hK (lw_tp hS hK) (lw_sh hS hK) hf (fun C T hw htp hf => ?_)
    refine m_L rfl (lp_F hm9 hd9 hX he (fun C T hw htp hb hf => ?_) 11 0 C T (Nat.zero_add _) hw htp (fun j hj => absurd hj (Nat.not_lt_zero j)) hf)
    refine lw_M hm9 hd9 hX he ht hN hS hw htp hb hf (fun E T hE hf => ?_)
    refine m_L rfl (lp_G hm9 hd9 he hN hE (fun T hf => ?_) n 0 T (Nat.zero_add _) hf)
    refine m_iinc (pc := 636) (j := 3) (n := 1) (nI (t + 1)) [some (.ref 1000), some (.ref 0), some (.ref 70), some (.int (nI (t + 1))), some (.int w), some (.int (nI n)), some (.ref 1003), some (.int (nI n)), none, none, none, none] rfl (by decide) rfl (nI_1 t) rfl ?_
    refine m_goto (pc := 639) 21 rfl (by decide) ?_
    exact m_forget [some (.ref 1000), some (.ref 0), some (.ref 70), some (.int (nI (t + 1))), none, none, none, none, none, none, none, none] fg4 (ih (t + 1) sh kc ks E T (by omega) he (by omega) (tI_next hE) hf)
