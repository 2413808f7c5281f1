/-! what is read: shelves and sheets; the calls that only read -/
theorem topG_1 {g g' : Nat → Int32} {i : Nat} (h : ∀ j, j < 5 → g (5 * i + j) = g' (5 * i + j)) : topG g i = topG g' i := by
  unfold topG
  rw [h 0 (by decide), h 2 (by decide), h 4 (by decide)]
theorem oFetch_c {K Z Q K' Z' Q' : Nat → Int32} {s i what : Int32} (h : shR K Z Q K' Z' Q') (hz : ∀ u, u < 3 → (Z u).toInt ≤ 12) : oFetch K Z Q s i what = oFetch K' Z' Q' s i what := by
  unfold oFetch
  by_cases h1 : pWi s 0 2 = true
  · have hs := wh_ln (m := 2) (by decide) rfl h1
    have e1 := hnB_c (i := i) h (show tN s < 3 by omega)
    by_cases h2 : pWi what 0 3 = true
    · by_cases hb : hnB (K (tN s)) (Z (tN s)) i = true
      · obtain ⟨y, rfl, hy, hk⟩ := hn_of (m := 12) (hz (tN s) (by omega)) hb
        obtain ⟨e2, e3⟩ := ((h (tN s) (by omega)).2 hk).2 y hy
        unfold plN
        rw [tN_nI (show y < 2 ^ 31 by omega), ← e1, ← e2]
        by_cases hq : Q (5 * (12 * tN s + y)) = -1
        · rw [if_pos hq, if_pos hq]
        · rw [if_neg hq, if_neg hq, topG_1 (e3 hq)]
          obtain ⟨k, hk3, rfl⟩ := pWi_of (m := 3) (by decide) rfl h2
          by_cases h3 : nI k = 3
          · rw [if_pos h3, if_pos h3]
          · rw [if_neg h3, if_neg h3, tN_nI (show k < 2 ^ 31 by omega), e3 hq k (by omega)]
      · rw [← e1, if_neg hb, if_neg hb]
    · rw [if_neg h2, if_neg h2]
  · rw [if_neg h1, if_neg h1]
theorem oBits_c {Q R Q' R' : Nat → Int32} {M M' : Nat → Int64} {s i : Int32} (h : ssR Q R M Q' R' M') (hz : ∀ u, u < 4 → (R u).toInt ≤ 40) : oBits Q R M s i = oBits Q' R' M' s i := by
  unfold oBits
  by_cases h1 : pWi s 0 3 = true
  · have hs := wh_ln (m := 3) (by decide) rfl h1
    obtain ⟨e1, e2, e3⟩ := h (tN s) (by omega)
    rw [← e1, ← e2]
    by_cases hb : hnB (Q (tN s)) (R (tN s)) i = true
    · obtain ⟨y, rfl, hy, hk⟩ := hn_of (m := 40) (hz (tN s) (by omega)) hb
      unfold spN
      rw [tN_nI (show y < 2 ^ 31 by omega), e3 y hy]
    · rw [if_neg hb, if_neg hb]
  · rw [if_neg h1, if_neg h1]
theorem oCast_c {Q R Q' R' : Nat → Int32} {M M' : Nat → Int64} {s i : Int32} (h : ssR Q R M Q' R' M') (hz : ∀ u, u < 4 → (R u).toInt ≤ 40) : oCast Q R M s i = oCast Q' R' M' s i := by
  unfold oCast
  by_cases h1 : pWi s 0 3 = true
  · have hs := wh_ln (m := 3) (by decide) rfl h1
    obtain ⟨e1, e2, e3⟩ := h (tN s) (by omega)
    rw [← e1, ← e2]
    by_cases hb : hnB (Q (tN s)) (R (tN s)) i = true
    · obtain ⟨y, rfl, hy, hk⟩ := hn_of (m := 40) (hz (tN s) (by omega)) hb
      unfold spN
      rw [tN_nI (show y < 2 ^ 31 by omega), e3 y hy]
    · rw [if_neg hb, if_neg hb]
  · rw [if_neg h1, if_neg h1]
theorem oRest_c {Q R Q' R' : Nat → Int32} {M M' : Nat → Int64} {s i j : Int32} (h : ssR Q R M Q' R' M') (hz : ∀ u, u < 4 → (R u).toInt ≤ 40) : oRest Q R M s i j = oRest Q' R' M' s i j := by
  unfold oRest
  by_cases h1 : pWi s 0 3 = true
  · have hs := wh_ln (m := 3) (by decide) rfl h1
    obtain ⟨e1, e2, e3⟩ := h (tN s) (by omega)
    rw [← e1, ← e2]
    by_cases hb : hnB (Q (tN s)) (R (tN s)) j = true
    · obtain ⟨y, rfl, hy, hk⟩ := hn_of (m := 40) (hz (tN s) (by omega)) hb
      unfold spN
      rw [tN_nI (show y < 2 ^ 31 by omega), e3 y hy]
    · rw [if_neg hb, if_neg hb]
  · rw [if_neg h1, if_neg h1]
theorem oTold_c {E E' : Nat → Int32} {k : Int32} (h : ∀ e, 1 ≤ e → e ≤ 7 → E e = E' e) : oTold E k = oTold E' k := by
  unfold oTold
  by_cases h1 : pWi k 1 7 = true
  · obtain ⟨y, h2, h3, rfl⟩ := pWi_ab (x := 1) (y := 7) (by decide) (by decide) h1
    rw [tN_nI (show y < 2 ^ 31 by omega), h y h2 h3]
  · rw [if_neg h1, if_neg h1]
section TWR
variable {sh : List PSh} {S : PSt} {N z : Nat}
theorem tw_of (he : isEl sh) (hm : isMo sh) (h : reN N z S S) {c what : Int32} : two mX8_of mX9_of 2 2 [.ref 0, .int c, .int what] [.ref 70, .int c, .int what] sh S :=
  two_rd h (sp_X8_of he (re_cIv h)) fun T hT => ⟨_, oOf_c (re_ag hT) (re_N hT), sp_X9_of hm (re_mIv hT)⟩
theorem tw_spring (he : isEl sh) (hm : isMo sh) (h : reN N z S S) {c what : Int32} : two mX8_spring mX9_spring 4 3 [.ref 0, .int c, .int what] [.ref 70, .int c, .int what] sh S :=
  two_rd h (sp_X8_spring he (re_cIv h)) fun T hT => ⟨_, oSpring_c (re_ag hT) (re_N hT), sp_X9_spring hm (re_mIv hT)⟩
theorem tw_force (he : isEl sh) (hm : isMo sh) (h : reN N z S S) {a b : Int32} : two mX8_force mX9_force 6 5 [.ref 0, .int a, .int b] [.ref 70, .int a, .int b] sh S :=
  two_rd h (sp_X8_force he (re_cIv h)) fun T hT => ⟨_, by rw [← re_w hT]; exact oForce_c (re_ag hT) (re_N hT), sp_X9_force hm (re_mIv hT)⟩
theorem tw_held (he : isEl sh) (hm : isMo sh) (h : reN N z S S) {a b : Int32} : two mX8_held mX9_held 6 5 [.ref 0, .int a, .int b] [.ref 70, .int a, .int b] sh S :=
  two_rd h (sp_X8_held he (re_cIv h)) fun T hT => ⟨_, by rw [← re_w hT]; exact oHeld_c (re_ag hT) (re_N hT), sp_X9_held hm (re_mIv hT)⟩
theorem tw_at (he : isEl sh) (hm : isMo sh) (h : reN N z S S) {a b i what : Int32} : two mX8_at mX9_at 6 5 [.ref 0, .int a, .int b, .int i, .int what] [.ref 70, .int a, .int b, .int i, .int what] sh S :=
  two_rd h (sp_X8_at he (re_cIv h)) fun T hT => ⟨_, by rw [← re_w hT]; exact oAt_c (re_ag hT) (re_N hT), sp_X9_at hm (re_mIv hT)⟩
theorem tw_bad (he : isEl sh) (hm : isMo sh) (h : reN N z S S) {a b : Int32} : two mX8_bad mX9_bad 4 4 [.ref 0, .int a, .int b] [.ref 70, .int a, .int b] sh S :=
  two_rd h (sp_X8_bad he (re_cIv h)) fun T hT => ⟨_, by rw [← re_w hT]; exact oBad_c (re_ag hT) (re_N hT), sp_X9_bad hm (re_mIv hT)⟩
theorem tw_sky (he : isEl sh) (hm : isMo sh) (h : reN N z S S) {a b side cell : Int32} : two mX8_sky mX9_sky 7 6 [.ref 0, .int a, .int b, .int side, .int cell] [.ref 70, .int a, .int b, .int side, .int cell] sh S :=
  two_rd h (sp_X8_sky he (re_cIv h)) fun T hT => ⟨_, by rw [← re_w hT]; exact oSky_c (re_ag hT) (re_N hT), sp_X9_sky hm (re_mIv hT)⟩
theorem tw_apart (he : isEl sh) (hm : isMo sh) (h : reN N z S S) {a b c e : Int32} : two mX8_apart mX9_apart 9 7 [.ref 0, .int a, .int b, .int c, .int e] [.ref 70, .int a, .int b, .int c, .int e] sh S :=
  two_rd h (sp_X8_apart he (re_cIv h)) fun T hT => ⟨_, by rw [← re_w hT]; exact oApart_c (re_ag hT) (re_N hT), sp_X9_apart hm (re_mIv hT)⟩
theorem tw_lines (he : isEl sh) (hm : isMo sh) (h : reN N z S S) : two mX8_lines mX9_lines 6 6 [.ref 0] [.ref 70] sh S :=
  two_rd h (sp_X8_lines he (re_cIv h)) fun T hT => ⟨_, by rw [← re_w hT]; exact oLines_c (re_ag hT), sp_X9_lines hm (re_mIv hT)⟩
theorem tw_line (he : isEl sh) (hm : isMo sh) (h : reN N z S S) {k what : Int32} : two mX8_line mX9_line 9 7 [.ref 0, .int k, .int what] [.ref 70, .int k, .int what] sh S :=
  two_rd h (sp_X8_line he (re_cIv h)) fun T hT => ⟨_, by rw [← re_w hT]; exact oLine_c (re_ag hT) (re_N hT), sp_X9_line hm (re_mIv hT)⟩
theorem tw_total (he : isEl sh) (hm : isMo sh) (h : reN N z S S) : two mX8_total mX9_total 6 6 [.ref 0] [.ref 70] sh S :=
  two_rd h (sp_X8_total he (re_cIv h)) fun T hT => ⟨_, by rw [← re_w hT]; exact oTotal_c (re_ag hT), sp_X9_total hm (re_mIv hT)⟩
theorem tw_moved (he : isEl sh) (hm : isMo sh) (h : reN N z S S) {c step dur : Int32} : two mX8_moved mX9_moved 9 7 [.ref 0, .int c, .int step, .int dur] [.ref 70, .int c, .int step, .int dur] sh S :=
  two_rd h (sp_X8_moved he (re_cIv h)) fun T hT => ⟨_, by
    rw [← re_w hT]
    refine oMoved_c (re_ag hT) (fun j hj => ?_) (re_N hT)
    rw [mv_G (by have := re_N hT; omega)]
    exact movG_c (re_ag hT) j hj, sp_X9_moved hm (re_mIv hT)⟩
theorem tw_beam (he : isEl sh) (hm : isMo sh) (h : reN N z S S) {a b what : Int32} : two mX8_beam mX9_beam 6 5 [.ref 0, .int a, .int b, .int what] [.ref 70, .int a, .int b, .int what] sh S :=
  two_rd h (sp_X8_beam he (re_cIv h)) fun T hT => ⟨_, by rw [← re_w hT]; exact oBeam_c (re_ag hT) (re_N hT), sp_X9_beam hm (re_mIv hT)⟩
theorem tw_slur (he : isEl sh) (hm : isMo sh) (h : reN N z S S) {a b what : Int32} : two mX8_slur mX9_slur 4 4 [.ref 0, .int a, .int b, .int what] [.ref 70, .int a, .int b, .int what] sh S :=
  two_rd h (sp_X8_slur he (re_cIv h)) fun T hT => ⟨_, oSlur_c (re_ag hT) (re_N hT), sp_X9_slur hm (re_mIv hT)⟩
theorem tw_fetch (he : isEl sh) (hm : isMo sh) (h : reN N z S S) {s i what : Int32} : two mX8_fetch mX9_fetch 3 2 [.ref 0, .int s, .int i, .int what] [.ref 70, .int s, .int i, .int what] sh S :=
  two_rd h (sp_X8_fetch he (re_cIv h) (re_cSh h)) fun T hT => ⟨_, oFetch_c (re_sh hT) (re_cSh hT), sp_X9_fetch hm (re_mSh hT)⟩
theorem tw_bits (he : isEl sh) (hm : isMo sh) (h : reN N z S S) {s i : Int32} : twoL mX8_bits mX9_bits 3 2 [.ref 0, .int s, .int i] [.ref 70, .int s, .int i] sh S :=
  twoL_rd h (sp_X8_bits he (re_cSs h)) fun T hT => ⟨_, oBits_c (re_ss hT) (fun u hu => ((re_cSs hT) u hu).1), sp_X9_bits hm (re_mSs hT)⟩
theorem tw_cast (he : isEl sh) (hm : isMo sh) (h : reN N z S S) {s i : Int32} : two mX8_cast mX9_cast 3 2 [.ref 0, .int s, .int i] [.ref 70, .int s, .int i] sh S :=
  two_rd h (sp_X8_cast he (re_cSs h)) fun T hT => ⟨_, oCast_c (re_ss hT) (fun u hu => ((re_cSs hT) u hu).1), sp_X9_cast hm (re_mSs hT)⟩
theorem tw_count (he : isEl sh) (hm : isMo sh) (h : reN N z S S) {what : Int32} : two mX8_count mX9_count 4 3 [.ref 0, .int what] [.ref 70, .int what] sh S :=
  two_rd h (sp_X8_count he (re_cIv h) (re_cTp h)) fun T hT => ⟨_, by rw [← re_w hT]; exact oCount_c (re_sh hT) (re_ag hT), sp_X9_count hm (re_mIv hT) (re_mSh hT) (re_mTp hT)⟩
theorem tw_told (he : isEl sh) (hm : isMo sh) (h : reN N z S S) {k : Int32} : two mX8_told mX9_told 2 1 [.ref 0, .int k] [.ref 70, .int k] sh S :=
  two_rd h (sp_X8_told he) fun T hT => ⟨_, oTold_c (re_er hT), sp_X9_told hm⟩
end TWR
