/-! the calls on columns and shelves that change something -/
theorem it_t {c : Bool} {x : POut} {e : Nat} (h : (if c = true then x else (e + 1, 0)).1 = 0) : c = true ∧ x.1 = 0 := by
  cases c
  · rw [if_neg (by decide)] at h
    exact absurd h (Nat.succ_ne_zero e)
  · exact ⟨rfl, by rw [if_pos rfl] at h; exact h⟩
theorem re_pg {N z N2 : Nat} {A B A2 B2 : PSt} (h : reN N z A B) (a : ∀ x, x ≠ 1 → x ≠ 3 → x ≠ 5 → x ≠ 6 → x ≠ 7 → A2.1 x = A.1 x) (a2 : A2.2 = A.2) (b : ∀ x, x ≠ 71 → B2.1 x = B.1 x) (b2 : B2.2 = B.2) (hc : colR (A2.1 1 1) (A2.1 1 2) (A2.1 3) (B2.1 71) N2) (hs : shlR (A2.1 6) (A2.1 7) (A2.1 5) (B2.1 71)) : reN N2 z A2 B2 := by
  have c : mM B2 = mM B := by
    funext n
    unfold mM mN
    rw [b 89 (by decide), b 93 (by decide), b2]
  have aa : ∀ x, 8 ≤ x ∨ x = 0 → A2.1 x = A.1 x := fun x hx => a x (by omega) (by omega) (by omega) (by omega) (by omega)
  refine ⟨hc, hs, ?_⟩
  have i := h.2.2
  unfold kpR tpR ssN erR at i ⊢
  rw [aa 0 (by omega), aa 8 (by omega), aa 10 (by omega), aa 12 (by omega), aa 13 (by omega), aa 14 (by omega), aa 61 (by omega), aa 62 (by omega), aa 66 (by omega), aa 67 (by omega), aa 69 (by omega), a2, b 70 (by decide), b 72 (by decide), b 73 (by decide), b 87 (by decide), b 89 (by decide), b 90 (by decide), b2, c]
  exact i
theorem shl_c {K Z Q F F2 : Nat → Int32} (h : shlR K Z Q F) (a : ∀ j, 162 ≤ j → j < 348 → F2 j = F j) : shlR K Z Q F2 := by
  have ek : ∀ s, s < 3 → fK F2 s = fK F s := fun s hs => a _ (by omega) (by omega)
  have ez : ∀ s, s < 3 → fZ F2 s = fZ F s := fun s hs => a _ (by omega) (by omega)
  have eq : ∀ n, n < 180 → fQ F2 n = fQ F n := fun n hn => a _ (by omega) (by omega)
  obtain ⟨h1, h2, h3, h4⟩ := h
  refine ⟨h1, fun s hs => ?_, h3, fun s hs => ?_⟩
  · obtain ⟨g1, g2⟩ := h2 s hs
    rw [ek s hs, ez s hs]
    refine ⟨g1, fun hk => ⟨(g2 hk).1, fun i hi => ?_⟩⟩
    obtain ⟨k1, k2⟩ := (g2 hk).2 i hi
    rw [eq _ (by omega)]
    refine ⟨k1, fun hq j hj => ?_⟩
    rw [eq _ (by omega)]
    exact k2 hq j hj
  · obtain ⟨g1, g2, g3⟩ := h4 s hs
    rw [ek s hs, ez s hs]
    refine ⟨g1, g2, fun i hi => ?_⟩
    rw [eq _ (by omega)]
    exact g3 i hi
theorem col_app {n w : Int32} {g F g2 F2 : Nat → Int32} {N : Nat} (h : colR n w g F N) (hN : N < 32) (a : ∀ j, j < 5 * N → g2 j = g j) (b0 : F2 0 = nI (N + 1)) (b1 : F2 1 = F 1) (b : ∀ j, j < 5 * N → F2 (2 + j) = F (2 + j)) (e : ∀ q, q < 5 → g2 (5 * N + q) = F2 (2 + (5 * N + q))) (ok : okC g2 N) : colR (nI (N + 1)) w g2 F2 (N + 1) := by
  obtain ⟨h1, h2, h3, h4, h5, h6, h7⟩ := h
  refine ⟨rfl, by omega, fun i hi => ?_, h4, b0, b1.trans h6, fun j hj => ?_⟩
  · by_cases hN2 : i = N
    · subst hN2; exact ok
    · have := h3 i (by omega)
      unfold okC at this ⊢
      rw [a _ (by omega), a _ (by omega), a _ (by omega), a _ (by omega), a _ (by omega)]
      exact this
  · show g2 j = F2 (2 + j)
    by_cases hj2 : j < 5 * N
    · rw [a j hj2, b j hj2]; exact h7 j hj2
    · have := e (j - 5 * N) (by omega)
      rwa [show 5 * N + (j - 5 * N) = j by omega] at this
theorem ly_lt {S : PSt} {a c j : Nat} {x0 x1 x2 x3 x4 : Int32} (h : j < 5 * c) : (ly5 S a c x0 x1 x2 x3 x4).1 a j = S.1 a j := by
  unfold ly5
  rw [pSI_j (by omega), pSI_j (by omega), pSI_j (by omega), pSI_j (by omega), pSI_j (by omega)]
theorem ly_v {S : PSt} {a c : Nat} {x0 x1 x2 x3 x4 : Int32} : (ly5 S a c x0 x1 x2 x3 x4).1 a (5 * c + 0) = x0 ∧ (ly5 S a c x0 x1 x2 x3 x4).1 a (5 * c + 1) = x1 ∧ (ly5 S a c x0 x1 x2 x3 x4).1 a (5 * c + 2) = x2 ∧ (ly5 S a c x0 x1 x2 x3 x4).1 a (5 * c + 3) = x3 ∧ (ly5 S a c x0 x1 x2 x3 x4).1 a (5 * c + 4) = x4 := by
  simp [ly5, pSI, pU]
theorem cm_o {S : PSt} {N x : Nat} {x0 x1 x2 x3 x4 : Int32} (h : x ≠ 71) : (cmS S N x0 x1 x2 x3 x4).1 x = S.1 x := by
  unfold cmS
  rw [pSI_ne h, pSI_ne h, pSI_ne h, pSI_ne h, pSI_ne h, pSI_ne h]
theorem cm_0 {S : PSt} {N : Nat} {x0 x1 x2 x3 x4 : Int32} : (cmS S N x0 x1 x2 x3 x4).1 71 0 = nI (N + 1) := by
  unfold cmS
  rw [pSI_j (by omega), pSI_j (by omega), pSI_j (by omega), pSI_j (by omega), pSI_j (by omega), pSI_at]
theorem cm_j {S : PSt} {N j : Nat} {x0 x1 x2 x3 x4 : Int32} (h0 : j ≠ 0) (h : j < 2 + 5 * N ∨ 2 + 5 * N + 5 ≤ j) : (cmS S N x0 x1 x2 x3 x4).1 71 j = S.1 71 j := by
  unfold cmS
  rw [pSI_j (by omega), pSI_j (by omega), pSI_j (by omega), pSI_j (by omega), pSI_j (by omega), pSI_j (by omega)]
theorem cm_v {S : PSt} {N : Nat} {x0 x1 x2 x3 x4 : Int32} : (cmS S N x0 x1 x2 x3 x4).1 71 (2 + (5 * N + 0)) = x0 ∧ (cmS S N x0 x1 x2 x3 x4).1 71 (2 + (5 * N + 1)) = x1 ∧ (cmS S N x0 x1 x2 x3 x4).1 71 (2 + (5 * N + 2)) = x2 ∧ (cmS S N x0 x1 x2 x3 x4).1 71 (2 + (5 * N + 3)) = x3 ∧ (cmS S N x0 x1 x2 x3 x4).1 71 (2 + (5 * N + 4)) = x4 := by
  simp [cmS, pSI, pU]
theorem lo_cm {S : PSt} {N : Nat} {x0 x1 x2 x3 x4 : Int32} : lo S (cmS S N x0 x1 x2 x3 x4) := ⟨fun x hx => cm_o (by omega), by rw [cm_o (by decide)], rfl⟩
theorem q5 {q : Nat} (h : q < 5) : q = 0 ∨ q = 1 ∨ q = 2 ∨ q = 3 ∨ q = 4 := by omega
theorem al_0 {v : Int32} (h : pAl 0 v = true) : v = 0 ∨ v = 1 ∨ v = 2 := by
  obtain ⟨k, hk, rfl⟩ := pWi_of (m := 2) (by decide) rfl (show pWi v 0 2 = true from h)
  rcases (show k = 0 ∨ k = 1 ∨ k = 2 by omega) with rfl | rfl | rfl
  · exact Or.inl rfl
  · exact Or.inr (Or.inl rfl)
  · exact Or.inr (Or.inr rfl)
theorem al_2 {v : Int32} (h : pAl 2 v = true) : -12 ≤ v.toInt ∧ v.toInt ≤ 20 := by
  have h := of_decide_eq_true (show decide ((pLeast 2).toInt ≤ v.toInt ∧ v.toInt ≤ (pMost 2).toInt) = true from h)
  rwa [show (pLeast 2).toInt = -12 by decide, show (pMost 2).toInt = 20 by decide] at h
theorem al_3 {v : Int32} (h : pAl 3 v = true) : 1 ≤ v.toInt ∧ v.toInt ≤ 12 := by
  have h := of_decide_eq_true (show decide ((pLeast 3).toInt ≤ v.toInt ∧ v.toInt ≤ (pMost 3).toInt) = true from h)
  rwa [show (pLeast 3).toInt = 1 by decide, show (pMost 3).toInt = 12 by decide] at h
theorem al_4 {v : Int32} (h : pAl 4 v = true) : 0 ≤ v.toInt ∧ v.toInt ≤ 9 := by
  have h := of_decide_eq_true (show decide ((pLeast 4).toInt ≤ v.toInt ∧ v.toInt ≤ (pMost 4).toInt) = true from h)
  rwa [show (pLeast 4).toInt = 0 by decide, show (pMost 4).toInt = 9 by decide] at h
theorem okC_at {g : Nat → Int32} {i : Nat} {x0 x1 x2 x3 x4 : Int32} (e0 : g (5 * i + 0) = x0) (e1 : g (5 * i + 1) = x1) (e2 : g (5 * i + 2) = x2) (e3 : g (5 * i + 3) = x3) (e4 : g (5 * i + 4) = x4) (h : (x0 = 0 ∨ x0 = 1 ∨ x0 = 2) ∧ isDur x1 ∧ (-12 ≤ x2.toInt ∧ x2.toInt ≤ 20) ∧ (1 ≤ x3.toInt ∧ x3.toInt ≤ 12) ∧ (0 ≤ x4.toInt ∧ x4.toInt ≤ 9)) : okC g i := by
  unfold okC
  rw [e0, e1, e2, e3, e4]
  exact h
section TWW
variable {sh : List PSh} {S : PSt} {N z : Nat}
theorem tw_add (he : isEl sh) (hm : isMo sh) (h : reN N z S S) {k d : Int32} : two mX8_add mX9_add 2 2 [.ref 0, .int k, .int d] [.ref 70, .int k, .int d] sh S := by
  refine two_mk h (U := pSI (ly5 S 3 N k d 0 2 0) 1 1 (nI (N + 1))) ?_ (sp_X8_add he (re_cIv h)) (fun T hT => ⟨_, sp_X9_add hm (re_mIv hT), lo_cm, fun h0 => ?_⟩)
  · exact ⟨fun x hx => ⟨(pSI_ne (by omega)).trans (ly5_o (by omega)), rfl, rfl⟩, by rw [pSI_ne (by decide), ly5_o (by decide)], by rw [pSI_ne (by decide), ly5_o (by decide)]⟩
  · obtain ⟨hk, h0⟩ := it_t h0
    obtain ⟨hd, h0⟩ := it_t h0
    have hN : N < 32 := by
      have := re_N hT
      by_cases e : N = 32
      · rw [if_pos e] at h0; exact absurd h0 (by decide)
      · omega
    have v := ly_v (S := S) (a := 3) (c := N) (x0 := k) (x1 := d) (x2 := 0) (x3 := 2) (x4 := 0)
    have u := cm_v (S := T) (N := N) (x0 := k) (x1 := d) (x2 := 0) (x3 := 2) (x4 := 0)
    refine ⟨N + 1, z, re_pg hT (fun x h1 h3 _ _ _ => (pSI_ne h1).trans (ly5_o h3)) rfl (fun x hx => cm_o hx) rfl ?_ ?_⟩
    · rw [pSI_at, show (pSI (ly5 S 3 N k d 0 2 0) 1 1 (nI (N + 1))).1 1 2 = S.1 1 2 from (pSI_j (by decide)).trans (by rw [ly5_o (by decide)]), show (pSI (ly5 S 3 N k d 0 2 0) 1 1 (nI (N + 1))).1 3 = (ly5 S 3 N k d 0 2 0).1 3 from pSI_ne (by decide)]
      refine col_app hT.1 hN (fun j hj => ly_lt hj) cm_0 (cm_j (by decide) (by omega)) (fun j hj => cm_j (by omega) (by omega)) (fun q hq => ?_) (okC_at v.1 v.2.1 v.2.2.1 v.2.2.2.1 v.2.2.2.2 ⟨al_0 hk, isDur_al hd, by decide, by decide, by decide⟩)
      rcases q5 hq with rfl | rfl | rfl | rfl | rfl
      · exact v.1.trans u.1.symm
      · exact v.2.1.trans u.2.1.symm
      · exact v.2.2.1.trans u.2.2.1.symm
      · exact v.2.2.2.1.trans u.2.2.2.1.symm
      · exact v.2.2.2.2.trans u.2.2.2.2.symm
    · have e : ∀ x, x ≠ 1 → x ≠ 3 → (pSI (ly5 S 3 N k d 0 2 0) 1 1 (nI (N + 1))).1 x = S.1 x := fun x h1 h3 => (pSI_ne h1).trans (ly5_o h3)
      rw [e 5 (by decide) (by decide), e 6 (by decide) (by decide), e 7 (by decide) (by decide)]
      exact shl_c hT.2.1 (fun j h1 h2 => cm_j (by omega) (by omega))
theorem tw_drop (he : isEl sh) (hm : isMo sh) (h : reN N z S S) : two mX8_drop mX9_drop 2 1 [.ref 0] [.ref 70] sh S := by
  refine two_mk h (hi_I (by decide)) (sp_X8_drop he (re_cIv h)) (fun T hT => ⟨_, sp_X9_drop hm (re_mIv hT), lo_I (by decide), fun h0 => ?_⟩)
  have hN : N ≠ 0 := fun e => by
    unfold oDrop at h0
    rw [if_pos e] at h0
    exact absurd h0 (by decide)
  refine ⟨N - 1, z, re_pg hT (fun x h1 _ _ _ _ => pSI_ne h1) rfl (fun x hx => pSI_ne hx) rfl ?_ ?_⟩
  · rw [pSI_at, pSI_j (by decide), pSI_ne (by decide)]
    obtain ⟨h1, h2, h3, h4, h5, h6, h7⟩ := hT.1
    exact ⟨rfl, by omega, fun i hi => h3 i (by omega), h4, pSI_at, (pSI_j (by decide)).trans h6, fun j hj => (h7 j (by omega)).trans (pSI_j (i := 2 + j) (by omega)).symm⟩
  · rw [pSI_ne (by decide), pSI_ne (by decide), pSI_ne (by decide)]
    exact shl_c hT.2.1 (fun j h1 h2 => pSI_j (by omega))
theorem tw_width (he : isEl sh) (hm : isMo sh) (h : reN N z S S) {v : Int32} : two mX8_width mX9_width 2 1 [.ref 0, .int v] [.ref 70, .int v] sh S := by
  refine two_mk h (hi_I (by decide)) (sp_X8_width he (re_cIv h)) (fun T hT => ⟨pSI T 71 1 v, by rw [re_w hT]; exact sp_X9_width hm (re_mIv hT), lo_I (by decide), fun h0 => ?_⟩)
  obtain ⟨hw, h0⟩ := it_t h0
  have hw2 := of_decide_eq_true (show decide ((20 : Int32).toInt ≤ v.toInt ∧ v.toInt ≤ (380 : Int32).toInt) = true from hw)
  rw [show (20 : Int32).toInt = 20 from rfl, show (380 : Int32).toInt = 380 from rfl] at hw2
  refine ⟨N, z, re_pg hT (fun x h1 _ _ _ _ => pSI_ne h1) rfl (fun x hx => pSI_ne hx) rfl ?_ ?_⟩
  · rw [pSI_at, pSI_j (by decide), pSI_ne (by decide)]
    obtain ⟨h1, h2, h3, h4, h5, h6, h7⟩ := hT.1
    exact ⟨h1, h2, h3, hw2, (pSI_j (by decide)).trans h5, pSI_at, fun j hj => (h7 j hj).trans (pSI_j (i := 2 + j) (by omega)).symm⟩
  · rw [pSI_ne (by decide), pSI_ne (by decide), pSI_ne (by decide)]
    exact shl_c hT.2.1 (fun j h1 h2 => pSI_j (by omega))
theorem set_g {g : Nat → Int32} {c q i p : Nat} {v : Int32} (hq : q < 5) (hp : p < 5) : (if 5 * i + p = 5 * c + q then v else g (5 * i + p)) = if i = c ∧ p = q then v else g (5 * i + p) := by
  by_cases e : i = c ∧ p = q
  · rw [if_pos e, if_pos (by omega)]
  · rw [if_neg e, if_neg (by omega)]
theorem tw_set (he : isEl sh) (hm : isMo sh) (h : reN N z S S) {c what v : Int32} : two mX8_set mX9_set 2 2 [.ref 0, .int c, .int what, .int v] [.ref 70, .int c, .int what, .int v] sh S := by
  refine two_mk h (hi_I (by decide)) (sp_X8_set he (re_cIv h)) (fun T hT => ⟨pSI T 71 (2 + (5 * tN c + tN what)) v, by rw [oSet_c (re_ag hT) (re_N hT)]; exact sp_X9_set hm (re_mIv hT), lo_I (by decide), fun h0 => ?_⟩)
  obtain ⟨hc, h0⟩ := it_t h0
  obtain ⟨hwh, h0⟩ := it_t h0
  obtain ⟨hal, h0⟩ := it_t h0
  have hcN := co_ln (re_N hT) hc
  have hN := re_N hT
  obtain ⟨q, hq, rfl⟩ := pWi_of (m := 4) (by decide) rfl hwh
  rw [tN_nI (show q < 2 ^ 31 by omega)]
  generalize tN c = x at hcN
  refine ⟨N, z, re_pg hT (fun x _ h3 _ _ _ => pSI_ne h3) rfl (fun x hx => pSI_ne hx) rfl ?_ ?_⟩
  · obtain ⟨h1, h2, h3, h4, h5, h6, h7⟩ := hT.1
    rw [pSI_ne (by decide)]
    refine ⟨h1, h2, fun i hi => ?_, h4, (pSI_j (by omega)).trans h5, (pSI_j (by omega)).trans h6, fun j hj => ?_⟩
    · have e : ∀ p, p < 5 → (pSI S 3 (5 * x + q) v).1 3 (5 * i + p) = if i = x ∧ p = q then v else S.1 3 (5 * i + p) := fun p hp => by
        rw [← set_g (by omega) hp]
        by_cases e : 5 * i + p = 5 * x + q
        · rw [if_pos e, e, pSI_at]
        · rw [if_neg e, pSI_j e]
      obtain ⟨k0, k1, k2, k3, k4⟩ := h3 i hi
      refine okC_at (e 0 (by decide)) (e 1 (by decide)) (e 2 (by decide)) (e 3 (by decide)) (e 4 (by decide)) ?_
      by_cases hix : i = x
      · rcases q5 (show q < 5 by omega) with rfl | rfl | rfl | rfl | rfl
        · rw [if_pos ⟨hix, rfl⟩, if_neg (by omega), if_neg (by omega), if_neg (by omega), if_neg (by omega)]
          exact ⟨al_0 hal, k1, k2, k3, k4⟩
        · rw [if_neg (by omega), if_pos ⟨hix, rfl⟩, if_neg (by omega), if_neg (by omega), if_neg (by omega)]
          exact ⟨k0, isDur_al hal, k2, k3, k4⟩
        · rw [if_neg (by omega), if_neg (by omega), if_pos ⟨hix, rfl⟩, if_neg (by omega), if_neg (by omega)]
          exact ⟨k0, k1, al_2 hal, k3, k4⟩
        · rw [if_neg (by omega), if_neg (by omega), if_neg (by omega), if_pos ⟨hix, rfl⟩, if_neg (by omega)]
          exact ⟨k0, k1, k2, al_3 hal, k4⟩
        · rw [if_neg (by omega), if_neg (by omega), if_neg (by omega), if_neg (by omega), if_pos ⟨hix, rfl⟩]
          exact ⟨k0, k1, k2, k3, al_4 hal⟩
      · rw [if_neg (fun q => hix q.1), if_neg (fun q => hix q.1), if_neg (fun q => hix q.1), if_neg (fun q => hix q.1), if_neg (fun q => hix q.1)]
        exact ⟨k0, k1, k2, k3, k4⟩
    · show (pSI S 3 (5 * x + q) v).1 3 j = (pSI T 71 (2 + (5 * x + q)) v).1 71 (2 + j)
      by_cases e : j = 5 * x + q
      · subst e; rw [pSI_at, pSI_at]
      · rw [pSI_j e, pSI_j (by omega)]; exact h7 j hj
  · rw [pSI_ne (by decide), pSI_ne (by decide), pSI_ne (by decide)]
    exact shl_c hT.2.1 (fun j h1 h2 => pSI_j (by omega))
theorem tw_feed (he : isEl sh) (hm : isMo sh) (h : reN N z S S) {b : Int32} : two mX8_feed mX9_feed 2 1 [.ref 0, .int b] [.ref 70, .int b] sh S := by
  refine two_mk h (hi_tr (hi_I (by decide)) (hi_I (by decide))) (sp_X8_feed he (re_cTp h)) (fun T hT => ⟨_, sp_X9_feed hm (re_mTp hT), lo_tr (lo_I (by decide)) (lo_I (by decide)), fun h0 => ?_⟩)
  obtain ⟨hb, h0⟩ := it_t h0
  have hz : z ≠ 160 := fun e => by rw [if_pos e] at h0; exact absurd h0 (by decide)
  have a : ∀ x, x ≠ 61 → x ≠ 62 → (pSI (pSI S 62 z b) 61 1 (nI (z + 1))).1 x = S.1 x := fun x h1 h2 => (pSI_ne h1).trans (pSI_ne h2)
  have d : ∀ x, x ≠ 70 → x ≠ 87 → (pSI (pSI T 87 z b) 70 23 (nI (z + 1))).1 x = T.1 x := fun x h1 h2 => (pSI_ne h1).trans (pSI_ne h2)
  have c : mM (pSI (pSI T 87 z b) 70 23 (nI (z + 1))) = mM T := by
    funext n
    unfold mM mN
    rw [d 89 (by decide) (by decide), d 93 (by decide) (by decide)]
    rfl
  refine ⟨N, z + 1, ?_⟩
  obtain ⟨i1, i2, i3, i4, i5, i6⟩ := hT
  unfold reN
  rw [a 1 (by decide) (by decide), a 3 (by decide) (by decide), a 5 (by decide) (by decide), a 6 (by decide) (by decide), a 7 (by decide) (by decide), d 71 (by decide) (by decide)]
  refine ⟨i1, i2, ?_, ?_, ?_, ?_⟩
  · unfold kpR at i3 ⊢
    rw [a 0 (by decide) (by decide), a 8 (by decide) (by decide), a 10 (by decide) (by decide), a 12 (by decide) (by decide), a 13 (by decide) (by decide), a 14 (by decide) (by decide), d 72 (by decide) (by decide), pSI_j (by decide), pSI_ne (by decide)]
    exact i3
  · refine ⟨pSI_at, pSI_at, by have := i4.2.2.1; omega, fun j hj => ?_⟩
    rw [show (pSI (pSI S 62 z b) 61 1 (nI (z + 1))).1 62 = (pSI S 62 z b).1 62 from pSI_ne (by decide), show (pSI (pSI T 87 z b) 70 23 (nI (z + 1))).1 87 = (pSI T 87 z b).1 87 from pSI_ne (by decide)]
    by_cases e : j = z
    · subst e; rw [pSI_at, pSI_at]
    · rw [pSI_j e, pSI_j e]; exact i4.2.2.2 j (by omega)
  · unfold ssN at i5 ⊢
    rw [c, a 66 (by decide) (by decide), a 67 (by decide) (by decide), d 89 (by decide) (by decide), d 90 (by decide) (by decide)]
    exact i5
  · unfold erR at i6 ⊢
    rw [a 69 (by decide) (by decide), d 73 (by decide) (by decide)]
    exact i6
end TWW
