/-! the calls on shelves that change something -/
/-- shelves but for one -/
theorem shl_1 {K Z Q F K2 Z2 Q2 F2 : Nat → Int32} {u : Nat} (hu : u < 3) (h : shlR K Z Q F) (a : ∀ s, s < 3 → s ≠ u → K2 s = K s ∧ Z2 s = Z s ∧ fK F2 s = fK F s ∧ fZ F2 s = fZ F s ∧ (∀ n, 60 * s ≤ n → n < 60 * s + 60 → Q2 n = Q n ∧ fQ F2 n = fQ F n))
    (hz : (Z2 u).toInt ≤ 12) (h1 : K2 u = fK F2 u ∧ (¬ K2 u = -1 → Z2 u = fZ F2 u ∧ ∀ i, i < 12 → Q2 (5 * (12 * u + i)) = fQ F2 (5 * (12 * u + i)) ∧ (¬ Q2 (5 * (12 * u + i)) = -1 → ∀ j, j < 5 → Q2 (5 * (12 * u + i) + j) = fQ F2 (5 * (12 * u + i) + j))))
    (h2 : ¬ K2 u = -1 → ∀ i, i < 12 → ¬ Q2 (5 * (12 * u + i)) = -1 → okC Q2 (12 * u + i))
    (h3 : (fK F2 u = -1 ∨ okK (fK F2 u)) ∧ (0 ≤ (fZ F2 u).toInt ∧ (fZ F2 u).toInt ≤ 12) ∧ ∀ i, i < 12 → fQ F2 (5 * (12 * u + i)) = -1 ∨ okK (fQ F2 (5 * (12 * u + i)))) : shlR K2 Z2 Q2 F2 := by
  obtain ⟨g1, g2, g3, g4⟩ := h
  refine ⟨fun s hs => ?_, fun s hs => ?_, fun s hs hk i hi hq => ?_, fun s hs => ?_⟩
  · by_cases e : s = u
    · rw [e]; exact hz
    · rw [(a s hs e).2.1]; exact g1 s hs
  · by_cases e : s = u
    · rw [e]; exact h1
    · obtain ⟨e1, e2, e3, e4, e5⟩ := a s hs e
      rw [e1, e2, e3, e4]
      obtain ⟨k1, k2⟩ := g2 s hs
      refine ⟨k1, fun hk => ⟨(k2 hk).1, fun i hi => ?_⟩⟩
      obtain ⟨k3, k4⟩ := (k2 hk).2 i hi
      rw [(e5 (5 * (12 * s + i)) (by omega) (by omega)).1, (e5 (5 * (12 * s + i)) (by omega) (by omega)).2]
      refine ⟨k3, fun hq j hj => ?_⟩
      rw [(e5 (5 * (12 * s + i) + j) (by omega) (by omega)).1, (e5 (5 * (12 * s + i) + j) (by omega) (by omega)).2]
      exact k4 hq j hj
  · by_cases e : s = u
    · subst e; exact h2 hk i hi hq
    · obtain ⟨e1, e2, e3, e4, e5⟩ := a s hs e
      rw [e1] at hk
      rw [(e5 (5 * (12 * s + i)) (by omega) (by omega)).1] at hq
      have k := g3 s hs hk i hi hq
      unfold okC at k ⊢
      rw [(e5 (5 * (12 * s + i) + 0) (by omega) (by omega)).1, (e5 (5 * (12 * s + i) + 1) (by omega) (by omega)).1, (e5 (5 * (12 * s + i) + 2) (by omega) (by omega)).1, (e5 (5 * (12 * s + i) + 3) (by omega) (by omega)).1, (e5 (5 * (12 * s + i) + 4) (by omega) (by omega)).1]
      exact k
  · by_cases e : s = u
    · rw [e]; exact h3
    · obtain ⟨e1, e2, e3, e4, e5⟩ := a s hs e
      obtain ⟨k1, k2, k3⟩ := g4 s hs
      rw [e3, e4]
      refine ⟨k1, k2, fun i hi => ?_⟩
      rw [(e5 (5 * (12 * s + i)) (by omega) (by omega)).2]
      exact k3 i hi
theorem fQ_at {F : Nat → Int32} {s m : Nat} (h : m < 60) : fQ F (60 * s + m) = F (164 + 62 * s + m) := by
  unfold fQ
  rw [show (60 * s + m) / 60 = s by omega, show (60 * s + m) % 60 = m by omega]
theorem sq_ix {s i j : Nat} : 5 * (12 * s + i) + j = 60 * s + (5 * i + j) := by omega
theorem sq_ix0 {s i : Nat} : 5 * (12 * s + i) = 60 * s + 5 * i := by omega
section TWS
variable {sh : List PSh} {S : PSt} {N z : Nat}
theorem tw_shelf (he : isEl sh) (hm : isMo sh) (h : reN N z S S) {s kind n : Int32} : two mX8_shelf mX9_shelf 4 2 [.ref 0, .int s, .int kind, .int n] [.ref 70, .int s, .int kind, .int n] sh S := by
  have a : ∀ x, x ≠ 5 → x ≠ 6 → x ≠ 7 → (clr S 1 (tN s) kind n 12).1 x = S.1 x := fun x h5 h6 h7 => by
    funext j
    unfold clr
    dsimp only
    rw [if_neg (fun q => h6 q.1), if_neg (fun q => h7 q.1), if_neg (fun q => h5 q.1)]
  have b : ∀ T x, x ≠ 71 → (shC T (tN s) kind (if kind = -1 then 0 else n) 12).1 x = T.1 x := fun T x h1 => by
    funext j
    unfold shC
    dsimp only
    rw [if_neg (fun q => h1 q.1), if_neg (fun q => h1 q.1), if_neg (fun q => h1 q.1)]
  refine two_mk h (U := clr S 1 (tN s) kind n 12) ⟨fun x hx => ⟨a x (by omega) (by omega) (by omega), rfl, rfl⟩, by rw [a 70 (by decide) (by decide) (by decide)], by rw [a 70 (by decide) (by decide) (by decide)]⟩ (sp_X8_shelf he) (fun T hT => ⟨_, sp_X9_shelf hm, ⟨fun x hx => b T x (by omega), by rw [b T 61 (by decide)], rfl⟩, fun h0 => ?_⟩)
  obtain ⟨hs, h0⟩ := it_t h0
  have hk : kind = -1 ∨ pAl 0 kind = true := by
    by_cases e : kind = -1 ∨ pAl 0 kind = true
    · exact e
    · rw [if_neg e] at h0; exact absurd h0 (by decide)
  rw [if_pos hk] at h0
  obtain ⟨hn, h0⟩ := it_t h0
  have hu := wh_ln (m := 2) (by decide) rfl hs
  obtain ⟨y, hy, rfl⟩ := pWi_of (m := 12) (by decide) rfl hn
  generalize tN s = u at hu a b
  refine ⟨N, z, re_pg hT (fun x _ _ h5 h6 h7 => a x h5 h6 h7) rfl (fun x hx => b T x hx) rfl ?_ ?_⟩
  · rw [a 1 (by decide) (by decide) (by decide), a 3 (by decide) (by decide) (by decide)]
    obtain ⟨h1, h2, h3, h4, h5, h6, h7⟩ := hT.1
    have c : ∀ j, j < 162 → (shC T u kind (if kind = -1 then 0 else nI y) 12).1 71 j = T.1 71 j := fun j hj => by
      unfold shC
      dsimp only
      rw [if_neg (by omega), if_neg (by omega), if_neg (by omega)]
    exact ⟨h1, h2, h3, h4, (c 0 (by omega)).trans h5, (c 1 (by omega)).trans h6, fun j hj => (h7 j hj).trans (c (2 + j) (by omega)).symm⟩
  · have eK : ∀ s, (clr S 1 u kind (nI y) 12).1 6 s = if s = u then kind else S.1 6 s := fun s => by
      unfold clr
      dsimp only
      by_cases e : s = u
      · rw [if_pos ⟨rfl, e⟩, if_pos e]
      · rw [if_neg (fun q => e q.2), if_neg (fun q => absurd q.1 (by decide)), if_neg (fun q => absurd q.1 (by decide)), if_neg e]
    have eZ : ∀ s, (clr S 1 u kind (nI y) 12).1 7 s = if s = u then (if kind = -1 then 0 else nI y) else S.1 7 s := fun s => by
      unfold clr
      dsimp only
      by_cases e : s = u
      · rw [if_neg (fun q => absurd q.1 (by decide)), if_pos ⟨rfl, e⟩, if_pos e]
      · rw [if_neg (fun q => absurd q.1 (by decide)), if_neg (fun q => e q.2), if_neg (fun q => absurd q.1 (by decide)), if_neg e]
    have eQ : ∀ j, (clr S 1 u kind (nI y) 12).1 5 j = if 60 * u ≤ j ∧ j < 60 * u + 60 then (if (j - 60 * u) % 5 = 0 then -1 else 0) else S.1 5 j := fun j => by
      unfold clr
      dsimp only
      rw [if_neg (fun q => absurd q.1 (by decide)), if_neg (fun q => absurd q.1 (by decide)), show 5 * (12 * u) = 60 * u by omega, show 5 * (12 * u + 12) = 60 * u + 60 by omega]
      by_cases e : 60 * u ≤ j ∧ j < 60 * u + 60
      · rw [if_pos ⟨rfl, e⟩, if_pos e]
      · rw [if_neg (fun q => e q.2), if_neg e]
    have fk1 : ∀ s, fK ((shC T u kind (if kind = -1 then 0 else nI y) 12).1 71) s = if s = u then kind else fK (T.1 71) s := fun s => by
      unfold fK shC
      dsimp only
      by_cases e : s = u
      · rw [if_pos (by omega), if_pos e]
      · rw [if_neg (by omega), if_neg (by omega), if_neg (by omega), if_neg e]
    have fz1 : ∀ s, fZ ((shC T u kind (if kind = -1 then 0 else nI y) 12).1 71) s = if s = u then (if kind = -1 then 0 else nI y) else fZ (T.1 71) s := fun s => by
      unfold fZ shC
      dsimp only
      by_cases e : s = u
      · rw [if_neg (by omega), if_pos (by omega), if_pos e]
      · rw [if_neg (by omega), if_neg (by omega), if_neg (by omega), if_neg e]
    have fq1 : ∀ s m, m < 60 → fQ ((shC T u kind (if kind = -1 then 0 else nI y) 12).1 71) (60 * s + m) = if s = u ∧ m % 5 = 0 then -1 else fQ (T.1 71) (60 * s + m) := fun s m hm => by
      rw [fQ_at hm, fQ_at hm]
      unfold shC
      dsimp only
      by_cases e : s = u ∧ m % 5 = 0
      · rw [if_neg (by omega), if_neg (by omega), if_pos (by omega), if_pos e]
      · rw [if_neg (by omega), if_neg (by omega), if_neg (fun q => by obtain ⟨-, q1, q2, q3⟩ := q; have hsu : s = u := by { rcases (show s = u ∨ s < u ∨ u < s by omega) with h9 | h9 | h9 <;> omega }; subst hsu; exact e ⟨rfl, by omega⟩), if_neg e]
    have z12 : 0 ≤ (if kind = -1 then 0 else nI y : Int32).toInt ∧ (if kind = -1 then 0 else nI y : Int32).toInt ≤ 12 := by
      by_cases e : kind = -1
      · rw [if_pos e]; decide
      · rw [if_neg e, nI_toInt (by omega)]; omega
    refine shl_1 (u := u) (by omega) hT.2.1 (fun s hs hsu => ?_) ?_ ?_ ?_ ?_
    · refine ⟨by rw [eK, if_neg hsu], by rw [eZ, if_neg hsu], by rw [fk1, if_neg hsu], by rw [fz1, if_neg hsu], fun n h1 h2 => ?_⟩
      refine ⟨by rw [eQ, if_neg (by omega)], ?_⟩
      have := fq1 s (n - 60 * s) (by omega)
      rw [show 60 * s + (n - 60 * s) = n by omega, if_neg (show ¬ (s = u ∧ (n - 60 * s) % 5 = 0) from fun q => hsu q.1)] at this
      exact this
    · rw [eZ, if_pos rfl]; exact z12.2
    · rw [eK, if_pos rfl, fk1, if_pos rfl, eZ, if_pos rfl, fz1, if_pos rfl]
      refine ⟨rfl, fun _ => ⟨rfl, fun i hi => ?_⟩⟩
      have e : (clr S 1 u kind (nI y) 12).1 5 (5 * (12 * u + i)) = -1 := by rw [eQ, if_pos (by omega), if_pos (by omega)]
      refine ⟨?_, fun hq => absurd e hq⟩
      rw [e, sq_ix0, fq1 u (5 * i) (by omega), if_pos ⟨rfl, by omega⟩]
    · intro _ i hi hq
      exact absurd (show (clr S 1 u kind (nI y) 12).1 5 (5 * (12 * u + i)) = -1 by rw [eQ, if_pos (by omega), if_pos (by omega)]) hq
    · rw [fk1, if_pos rfl, fz1, if_pos rfl]
      refine ⟨hk.imp_right al_0, z12, fun i hi => Or.inl ?_⟩
      rw [sq_ix0, fq1 u (5 * i) (by omega), if_pos ⟨rfl, by omega⟩]
theorem tw_store (he : isEl sh) (hm : isMo sh) (h : reN N z S S) {s i c : Int32} : two mX8_store mX9_store 3 2 [.ref 0, .int s, .int i, .int c] [.ref 70, .int s, .int i, .int c] sh S := by
  have a : ∀ x, x ≠ 5 → (cpS S 5 (plN s i) 3 (tN c) 5).1 x = S.1 x := fun x h5 => by
    funext j
    unfold cpS
    dsimp only
    rw [if_neg (fun q => h5 q.1)]
  have b : ∀ T x, x ≠ 71 → (stS T (164 + 62 * tN s + 5 * tN i) (tN c) 5).1 x = T.1 x := fun T x h1 => by
    funext j
    unfold stS
    dsimp only
    rw [if_neg (fun q => h1 q.1)]
  refine two_mk h (U := cpS S 5 (plN s i) 3 (tN c) 5) ⟨fun x hx => ⟨a x (by omega), rfl, rfl⟩, by rw [a 70 (by decide)], by rw [a 70 (by decide)]⟩ (sp_X8_store he (re_cIv h) (re_cSh h)) (fun T hT => ⟨stS T (164 + 62 * tN s + 5 * tN i) (tN c) 5, by rw [oStore_c (re_sh hT) (re_ag hT) (re_N hT)]; exact sp_X9_store hm (re_mIv hT) (re_mSh hT), ⟨fun x hx => b T x (by omega), by rw [b T 61 (by decide)], rfl⟩, fun h0 => ?_⟩)
  obtain ⟨hs, h0⟩ := it_t h0
  obtain ⟨hc, h0⟩ := it_t h0
  obtain ⟨hb, h0⟩ := it_t h0
  have hu := wh_ln (m := 2) (by decide) rfl hs
  have hcN := co_ln (re_N hT) hc
  have hN := re_N hT
  obtain ⟨y, rfl, hy, hk⟩ := hn_of (m := 12) (re_cSh hT (tN s) (by omega)) hb
  have ep : plN s (nI y) = 12 * tN s + y := by unfold plN; rw [tN_nI (show y < 2 ^ 31 by omega)]
  rw [ep] at a ⊢
  rw [tN_nI (show y < 2 ^ 31 by omega)] at b ⊢
  generalize tN s = u at hu hk a b hb
  generalize tN c = x at hcN a b
  refine ⟨N, z, re_pg hT (fun x _ _ h5 _ _ => a x h5) rfl (fun x hx => b T x hx) rfl ?_ ?_⟩
  · rw [a 1 (by decide), a 3 (by decide)]
    obtain ⟨h1, h2, h3, h4, h5, h6, h7⟩ := hT.1
    have c : ∀ j, j < 162 → (stS T (164 + 62 * u + 5 * y) x 5).1 71 j = T.1 71 j := fun j hj => by
      unfold stS
      dsimp only
      rw [if_neg (by omega)]
    exact ⟨h1, h2, h3, h4, (c 0 (by omega)).trans h5, (c 1 (by omega)).trans h6, fun j hj => (h7 j hj).trans (c (2 + j) (by omega)).symm⟩
  · rw [a 6 (by decide), a 7 (by decide)]
    have eQ : ∀ j, (cpS S 5 (12 * u + y) 3 x 5).1 5 j = if 60 * u + 5 * y ≤ j ∧ j < 60 * u + 5 * y + 5 then S.1 3 (5 * x + (j - (60 * u + 5 * y))) else S.1 5 j := fun j => by
      unfold cpS
      dsimp only
      rw [show 5 * (12 * u + y) = 60 * u + 5 * y by omega]
      by_cases e : 60 * u + 5 * y ≤ j ∧ j < 60 * u + 5 * y + 5
      · rw [if_pos ⟨rfl, e⟩, if_pos e]
      · rw [if_neg (fun q => e q.2), if_neg e]
    have fk1 : ∀ s, s < 3 → fK ((stS T (164 + 62 * u + 5 * y) x 5).1 71) s = fK (T.1 71) s := fun s hs => by
      unfold fK stS
      dsimp only
      rw [if_neg (by rcases (show s = u ∨ s < u ∨ u < s by omega) with h9 | h9 | h9 <;> omega)]
    have fz1 : ∀ s, s < 3 → fZ ((stS T (164 + 62 * u + 5 * y) x 5).1 71) s = fZ (T.1 71) s := fun s hs => by
      unfold fZ stS
      dsimp only
      rw [if_neg (by rcases (show s = u ∨ s < u ∨ u < s by omega) with h9 | h9 | h9 <;> omega)]
    have fq1 : ∀ s m, m < 60 → fQ ((stS T (164 + 62 * u + 5 * y) x 5).1 71) (60 * s + m) = if s = u ∧ 5 * y ≤ m ∧ m < 5 * y + 5 then T.1 71 (2 + (5 * x + (m - 5 * y))) else fQ (T.1 71) (60 * s + m) := fun s m hm => by
      rw [fQ_at hm, fQ_at hm]
      unfold stS
      dsimp only
      by_cases e : s = u ∧ 5 * y ≤ m ∧ m < 5 * y + 5
      · rw [if_pos (by omega), if_pos e, show 164 + 62 * s + m - (164 + 62 * u + 5 * y) = m - 5 * y by omega]
      · rw [if_neg (by omega), if_neg e]
    obtain ⟨g1, g2, g3, g4⟩ := hT.2.1
    obtain ⟨k1, k2⟩ := g2 u (by omega)
    have ag := re_ag hT
    have hcol : ∀ j, j < 5 → (cpS S 5 (12 * u + y) 3 x 5).1 5 (5 * (12 * u + y) + j) = S.1 3 (5 * x + j) := fun j hj => by
      rw [eQ, if_pos (by omega), show 5 * (12 * u + y) + j - (60 * u + 5 * y) = j by omega]
    have hcol2 : ∀ j, j < 5 → fQ ((stS T (164 + 62 * u + 5 * y) x 5).1 71) (5 * (12 * u + y) + j) = T.1 71 (2 + (5 * x + j)) := fun j hj => by
      rw [sq_ix, fq1 u _ (by omega), if_pos (by omega), show 5 * y + j - 5 * y = j by omega]
    refine shl_1 (u := u) (by omega) hT.2.1 (fun s hs hsu => ?_) (g1 u (by omega)) ?_ ?_ ?_
    · refine ⟨rfl, rfl, fk1 s hs, fz1 s hs, fun n h1 h2 => ?_⟩
      refine ⟨by rw [eQ, if_neg (by omega)], ?_⟩
      have := fq1 s (n - 60 * s) (by omega)
      rw [show 60 * s + (n - 60 * s) = n by omega, if_neg (fun q => hsu q.1)] at this
      exact this
    · rw [fk1 u (by omega), fz1 u (by omega)]
      refine ⟨k1, fun hk => ⟨(k2 hk).1, fun i hi => ?_⟩⟩
      by_cases e : i = y
      · subst e
        have : ∀ j, j < 5 → (cpS S 5 (12 * u + i) 3 x 5).1 5 (5 * (12 * u + i) + j) = fQ ((stS T (164 + 62 * u + 5 * i) x 5).1 71) (5 * (12 * u + i) + j) := fun j hj => by
          rw [hcol j hj, hcol2 j hj]
          exact ag (5 * x + j) (by omega)
        exact ⟨this 0 (by decide), fun _ => this⟩
      · obtain ⟨k3, k4⟩ := (k2 hk).2 i hi
        have e1 : ∀ j, j < 5 → (cpS S 5 (12 * u + y) 3 x 5).1 5 (5 * (12 * u + i) + j) = S.1 5 (5 * (12 * u + i) + j) := fun j hj => by rw [eQ, if_neg (by omega)]
        have e2 : ∀ j, j < 5 → fQ ((stS T (164 + 62 * u + 5 * y) x 5).1 71) (5 * (12 * u + i) + j) = fQ (T.1 71) (5 * (12 * u + i) + j) := fun j hj => by rw [sq_ix, fq1 u _ (by omega), if_neg (by omega)]
        have e10 := e1 0 (by decide)
        have e20 := e2 0 (by decide)
        rw [Nat.add_zero] at e10 e20
        rw [e10, e20]
        refine ⟨k3, fun hq j hj => ?_⟩
        rw [e1 j hj, e2 j hj]
        exact k4 hq j hj
    · intro hk i hi hq
      by_cases e : i = y
      · subst e
        obtain ⟨c0, c1, c2, c3, c4⟩ := hT.1.2.2.1 x hcN
        exact okC_at (hcol 0 (by decide)) (hcol 1 (by decide)) (hcol 2 (by decide)) (hcol 3 (by decide)) (hcol 4 (by decide)) ⟨c0, c1, c2, c3, c4⟩
      · have e1 : ∀ j, j < 5 → (cpS S 5 (12 * u + y) 3 x 5).1 5 (5 * (12 * u + i) + j) = S.1 5 (5 * (12 * u + i) + j) := fun j hj => by rw [eQ, if_neg (by omega)]
        have e10 := e1 0 (by decide)
        rw [Nat.add_zero] at e10
        rw [e10] at hq
        obtain ⟨c0, c1, c2, c3, c4⟩ := g3 u (by omega) hk i hi hq
        exact okC_at (e1 0 (by decide)) (e1 1 (by decide)) (e1 2 (by decide)) (e1 3 (by decide)) (e1 4 (by decide)) ⟨c0, c1, c2, c3, c4⟩
    · obtain ⟨m1, m2, m3⟩ := g4 u (by omega)
      rw [fk1 u (by omega), fz1 u (by omega)]
      refine ⟨m1, m2, fun i hi => ?_⟩
      by_cases e : i = y
      · subst e
        refine Or.inr ?_
        have e1 := hcol2 0 (by decide)
        rw [Nat.add_zero] at e1
        rw [e1]
        have := (hT.1.2.2.1 x hcN).1
        rw [ag (5 * x + 0) (by omega)] at this
        exact this
      · have e2 : fQ ((stS T (164 + 62 * u + 5 * y) x 5).1 71) (5 * (12 * u + i)) = fQ (T.1 71) (5 * (12 * u + i)) := by rw [sq_ix0, fq1 u _ (by omega), if_neg (by omega)]
        rw [e2]
        exact m3 i hi
theorem tw_comes (he : isEl sh) (hm : isMo sh) (h : reN N z S S) {s i : Int32} : two mX8_comes mX9_comes_ 3 2 [.ref 0, .int s, .int i] [.ref 70, .int s, .int i] sh S := by
  have a : ∀ x, x ≠ 1 → x ≠ 3 → (pSI (cpS S 3 N 5 (plN s i) 5) 1 1 (nI (N + 1))).1 x = S.1 x := fun x h1 h3 => by
    rw [pSI_ne h1]
    funext j
    unfold cpS
    dsimp only
    rw [if_neg (fun q => h3 q.1)]
  refine two_mk h (U := pSI (cpS S 3 N 5 (plN s i) 5) 1 1 (nI (N + 1))) ⟨fun x hx => ⟨a x (by omega) (by omega), rfl, rfl⟩, by rw [a 70 (by decide) (by decide)], by rw [a 70 (by decide) (by decide)]⟩ (sp_X8_comes he (re_cIv h) (re_cSh h)) (fun T hT => ⟨cmS T N (mQ T (5 * plN s i)) (mQ T (5 * plN s i + 1)) (mQ T (5 * plN s i + 2)) (mQ T (5 * plN s i + 3)) (mQ T (5 * plN s i + 4)), by rw [oComes_c (re_sh hT) (re_cSh hT)]; exact sp_X9_comes_ hm (re_mIv hT) (re_mSh hT), lo_cm, fun h0 => ?_⟩)
  obtain ⟨hs, h0⟩ := it_t h0
  obtain ⟨hb, h0⟩ := it_t h0
  have hq1 : ¬ S.1 5 (5 * plN s i) = -1 := fun e => by rw [if_pos e] at h0; exact absurd h0 (by decide)
  rw [if_neg hq1] at h0
  have hN : N < 32 := by
    have := re_N hT
    by_cases e : N = 32
    · rw [if_pos e] at h0; exact absurd h0 (by decide)
    · omega
  have hu := wh_ln (m := 2) (by decide) rfl hs
  obtain ⟨y, rfl, hy, hk⟩ := hn_of (m := 12) (re_cSh hT (tN s) (by omega)) hb
  have ep : plN s (nI y) = 12 * tN s + y := by unfold plN; rw [tN_nI (show y < 2 ^ 31 by omega)]
  rw [ep] at a hq1 ⊢
  generalize tN s = u at hu hk a hb hq1
  have u0 := cm_v (S := T) (N := N) (x0 := mQ T (5 * (12 * u + y))) (x1 := mQ T (5 * (12 * u + y) + 1)) (x2 := mQ T (5 * (12 * u + y) + 2)) (x3 := mQ T (5 * (12 * u + y) + 3)) (x4 := mQ T (5 * (12 * u + y) + 4))
  obtain ⟨g1, g2, g3, g4⟩ := hT.2.1
  obtain ⟨k1, k2⟩ := g2 u (by omega)
  obtain ⟨k3, k4⟩ := (k2 hk).2 y hy
  have k5 := k4 hq1
  have ev : ∀ q, q < 5 → (cpS S 3 N 5 (12 * u + y) 5).1 3 (5 * N + q) = S.1 5 (5 * (12 * u + y) + q) := fun q hq => by
    unfold cpS
    dsimp only
    rw [if_pos ⟨rfl, by omega, by omega⟩, show 5 * N + q - 5 * N = q by omega]
  refine ⟨N + 1, z, re_pg hT (fun x h1 h3 _ _ _ => a x h1 h3) rfl (fun x hx => cm_o hx) rfl ?_ ?_⟩
  · have e2 : (pSI (cpS S 3 N 5 (12 * u + y) 5) 1 1 (nI (N + 1))).1 1 2 = S.1 1 2 := by
      rw [pSI_j (by decide)]
      unfold cpS
      dsimp only
      rw [if_neg (fun q => absurd q.1 (by decide))]
    rw [pSI_at, e2, show (pSI (cpS S 3 N 5 (12 * u + y) 5) 1 1 (nI (N + 1))).1 3 = (cpS S 3 N 5 (12 * u + y) 5).1 3 from pSI_ne (by decide)]
    obtain ⟨c0, c1, c2, c3, c4⟩ := g3 u (by omega) hk y hy hq1
    refine col_app hT.1 hN (fun j hj => ?_) cm_0 (cm_j (by decide) (by omega)) (fun j hj => cm_j (by omega) (by omega)) (fun q hq => ?_) (okC_at (ev 0 (by decide)) (ev 1 (by decide)) (ev 2 (by decide)) (ev 3 (by decide)) (ev 4 (by decide)) ⟨c0, c1, c2, c3, c4⟩)
    · unfold cpS
      dsimp only
      rw [if_neg (by omega)]
    · rw [ev q hq, k5 q hq]
      rcases q5 hq with rfl | rfl | rfl | rfl | rfl
      · exact u0.1.symm
      · exact u0.2.1.symm
      · exact u0.2.2.1.symm
      · exact u0.2.2.2.1.symm
      · exact u0.2.2.2.2.symm
  · rw [a 5 (by decide) (by decide), a 6 (by decide) (by decide), a 7 (by decide) (by decide)]
    exact shl_c ⟨g1, g2, g3, g4⟩ (fun j h1 h2 => cm_j (by omega) (by omega))
end TWS
