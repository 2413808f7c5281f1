/-! image, restore, music -/
theorem col_c {n w n2 w2 : Int32} {g F g2 F2 : Nat → Int32} {N : Nat} (h : colR n w g F N) (e1 : n2 = n) (e2 : w2 = w) (a : ∀ j, j < 160 → g2 j = g j) (b : ∀ j, j < 162 → F2 j = F j) : colR n2 w2 g2 F2 N := by
  obtain ⟨h1, h2, h3, h4, h5, h6, h7⟩ := h
  rw [e1, e2]
  refine ⟨h1, h2, okG_c (g := g) (fun j hj => (a j (by omega)).symm) h3, h4, (b 0 (by omega)).trans h5, (b 1 (by omega)).trans h6, fun j hj => ?_⟩
  rw [a j (by omega)]
  exact (h7 j hj).trans (b (2 + j) (by omega)).symm
theorem shl_cc {K Z Q F K2 Z2 Q2 F2 : Nat → Int32} (h : shlR K Z Q F) (k : ∀ s, s < 3 → K2 s = K s) (zz : ∀ s, s < 3 → Z2 s = Z s) (q : ∀ n, n < 180 → Q2 n = Q n) (a : ∀ j, 162 ≤ j → j < 348 → F2 j = F j) : shlR K2 Z2 Q2 F2 := by
  obtain ⟨h1, h2, h3, h4⟩ := shl_c h a
  refine ⟨fun s hs => by rw [zz s hs]; exact h1 s hs, fun s hs => ?_, fun s hs hk i hi hq => ?_, h4⟩
  · obtain ⟨g1, g2⟩ := h2 s hs
    rw [k s hs, zz s hs]
    refine ⟨g1, fun hk => ⟨(g2 hk).1, fun i hi => ?_⟩⟩
    obtain ⟨k1, k2⟩ := (g2 hk).2 i hi
    rw [q _ (by omega)]
    refine ⟨k1, fun hq j hj => ?_⟩
    rw [q _ (by omega)]
    exact k2 hq j hj
  · rw [k s hs] at hk
    rw [q _ (by omega)] at hq
    have c := h3 s hs hk i hi hq
    unfold okC at c ⊢
    rw [q _ (by omega), q _ (by omega), q _ (by omega), q _ (by omega), q _ (by omega)]
    exact c
theorem pg81 {S : PSt} : (pgB S 8 1).1 8 1 = S.1 1 1 ∧ (pgB S 8 1).1 8 2 = S.1 1 2 ∧ (∀ j, j < 180 → (pgB S 8 1).1 10 j = S.1 3 j) ∧ (∀ j, j < 180 → (pgB S 8 1).1 12 j = S.1 5 j) ∧ (∀ j, j < 3 → (pgB S 8 1).1 13 j = S.1 6 j) ∧ (∀ j, j < 3 → (pgB S 8 1).1 14 j = S.1 7 j) := by
  refine ⟨?_, ?_, fun j hj => ?_, fun j hj => ?_, fun j hj => ?_, fun j hj => ?_⟩ <;> simp [pgB, cpI, pSI, pU, *]
theorem pg18 {S : PSt} : (pgB S 1 8).1 1 1 = S.1 8 1 ∧ (pgB S 1 8).1 1 2 = S.1 8 2 ∧ (∀ j, j < 180 → (pgB S 1 8).1 3 j = S.1 10 j) ∧ (∀ j, j < 180 → (pgB S 1 8).1 5 j = S.1 12 j) ∧ (∀ j, j < 3 → (pgB S 1 8).1 6 j = S.1 13 j) ∧ (∀ j, j < 3 → (pgB S 1 8).1 7 j = S.1 14 j) := by
  refine ⟨?_, ?_, fun j hj => ?_, fun j hj => ?_, fun j hj => ?_, fun j hj => ?_⟩ <;> simp [pgB, cpI, pSI, pU, *]
theorem cp_o {S : PSt} {a b k x : Nat} (h : x ≠ b) : (cpI S a b k).1 x = S.1 x := by
  funext j
  unfold cpI
  exact if_neg (fun q => h q.1)
theorem cp_at {S : PSt} {a b k j : Nat} (h : j < k) : (cpI S a b k).1 b j = S.1 a j := by
  unfold cpI
  exact if_pos ⟨rfl, h⟩
theorem pg_o {S : PSt} {r b x : Nat} (h0 : x ≠ r) (h1 : x ≠ r + 2) (h2 : x ≠ r + 4) (h3 : x ≠ r + 5) (h4 : x ≠ r + 6) : (pgB S r b).1 x = S.1 x := by
  unfold pgB
  rw [cp_o h4, cp_o h3, cp_o (by omega), pSI_ne h0, pSI_ne h0, cp_o (by omega)]
section TWI
variable {sh : List PSh} {S : PSt} {N z : Nat}
theorem tw_image (he : isEl sh) (hm : isMo sh) (h : reN N z S S) : two mX8_image mX9_image 3 1 [.ref 0] [.ref 70] sh S := by
  have a : ∀ x, x ≠ 0 → x < 8 ∨ 15 ≤ x → (pSI (pgB S 8 1) 0 2 1).1 x = S.1 x := fun x h0 hx => (pSI_ne h0).trans (pg_o (by omega) (by omega) (by omega) (by omega) (by omega))
  refine two_mk h (U := pSI (pgB S 8 1) 0 2 1) ⟨fun x hx => ⟨a x (by omega) (by omega), rfl, rfl⟩, by rw [a 70 (by decide) (by omega)], by rw [a 70 (by decide) (by omega)]⟩ (sp_X8_image he (re_cIv h).1) (fun T hT => ⟨_, sp_X9_image hm (re_mIv hT).1, lo_tr (lo_cp (by decide)) (lo_I (by decide)), fun h0 => ⟨N, z, ?_⟩⟩)
  have d : ∀ x, x ≠ 70 → x ≠ 72 → (pSI (cpI T 71 72 348) 70 2 1).1 x = T.1 x := fun x h1 h2 => (pSI_ne h1).trans (cp_o h2)
  have c : mM (pSI (cpI T 71 72 348) 70 2 1) = mM T := by
    funext n
    unfold mM mN
    rw [d 89 (by decide) (by decide), d 93 (by decide) (by decide)]
    rfl
  obtain ⟨i1, i2, i3, i4, i5, i6⟩ := hT
  obtain ⟨p1, p2, p3, p4, p5, p6⟩ := pg81 (S := S)
  unfold reN
  rw [a 1 (by decide) (by omega), a 3 (by decide) (by omega), a 5 (by decide) (by omega), a 6 (by decide) (by omega), a 7 (by decide) (by omega), d 71 (by decide) (by decide)]
  refine ⟨i1, i2, ?_, ?_, ?_, ?_⟩
  · refine ⟨pSI_at.trans pSI_at.symm, fun _ => ⟨N, ?_⟩⟩
    rw [pSI_ne (by decide), pSI_ne (by decide), pSI_ne (by decide), pSI_ne (by decide), pSI_ne (by decide), pSI_ne (by decide)]
    exact ⟨col_c i1 p1 p2 (fun j hj => p3 j (by omega)) (fun j hj => cp_at (by omega)), shl_cc i2 p5 p6 p4 (fun j h1 h2 => cp_at h2)⟩
  · unfold tpR at i4 ⊢
    rw [a 61 (by decide) (by omega), a 62 (by decide) (by omega), d 87 (by decide) (by decide), pSI_j (by decide), cp_o (by decide)]
    exact i4
  · unfold ssN at i5 ⊢
    rw [c, a 66 (by decide) (by omega), a 67 (by decide) (by omega), d 89 (by decide) (by decide), d 90 (by decide) (by decide)]
    exact i5
  · unfold erR at i6 ⊢
    rw [a 69 (by decide) (by omega), d 73 (by decide) (by decide)]
    exact i6
theorem tw_restore (he : isEl sh) (hm : isMo sh) (h : reN N z S S) : two mX8_restore mX9_restore 3 1 [.ref 0] [.ref 70] sh S := by
  obtain ⟨n, hn⟩ : ∃ n, ¬ S.1 0 2 = 0 → (colR (S.1 8 1) (S.1 8 2) (S.1 10) (S.1 72) n ∧ shlR (S.1 13) (S.1 14) (S.1 12) (S.1 72)) := by
    by_cases e : S.1 0 2 = 0
    · exact ⟨0, fun q => absurd e q⟩
    · obtain ⟨n, hn⟩ := h.2.2.1.2 e
      exact ⟨n, fun _ => hn⟩
  have a : ∀ x, 8 ≤ x ∨ x = 0 → (pgB S 1 8).1 x = S.1 x := fun x hx => pg_o (by omega) (by omega) (by omega) (by omega) (by omega)
  refine ⟨_, sp_X8_restore he (N := n) (fun q => (hn q).1.1), fun r T hr => ⟨_, hr.1, ?_⟩⟩
  have hU : hi S (pgB S 1 8) := ⟨fun x hx => ⟨a x (by omega), rfl, rfl⟩, by rw [a 70 (by omega)], by rw [a 70 (by omega)]⟩
  have hT := two_hi hU hr.2
  have hR := reN_hi h hT
  have e72 : T.1 72 = S.1 72 := (hT.1 72 (by omega)).1
  have ek : S.1 0 2 = T.1 70 2 := hR.2.2.1.1
  refine ⟨_, sp_X9_restore hm (N := n) (fun q => by rw [← ek] at q; rw [e72]; exact (hn q).1.2.2.2.2.1), fun r2 T2 hr2 => ?_⟩
  obtain ⟨q1, q2⟩ := hr2
  rw [← ek] at q1 q2
  refine ⟨q1, two_end hR hr.2 (lo_cp (by decide)) q2 (fun h0 => ?_)⟩
  have hk : ¬ S.1 0 2 = 0 := fun e => by rw [if_pos e] at h0; exact absurd h0 (by decide)
  obtain ⟨k1, k2⟩ := hn hk
  rw [← e72] at k1 k2
  obtain ⟨p1, p2, p3, p4, p5, p6⟩ := pg18 (S := S)
  refine ⟨n, z, re_pg hR (fun x h1 h3 h5 h6 h7 => pg_o h1 h3 h5 h6 h7) rfl (fun x hx => cp_o hx) rfl (col_c k1 p1 p2 (fun j hj => p3 j (by omega)) (fun j hj => cp_at (by omega))) (shl_cc k2 p5 p6 p4 (fun j h1 h2 => cp_at h2))⟩
end TWI
/-! what a text of music tells is as signs may be -/
theorem dg_9 {b : Nat → Int32} {z p : Nat} : dgF b z p = -1 ∨ (0 ≤ (dgF b z p).toInt ∧ (dgF b z p).toInt ≤ 9) := by
  unfold dgF
  generalize (if p < z then b p else 0) = x
  by_cases h : 48 ≤ x ∧ x ≤ 57
  · rw [if_pos h]
    refine Or.inr ?_
    obtain ⟨h1, h2⟩ := h
    rw [Int32.le_iff_toInt_le] at h1 h2
    rw [show (48 : Int32).toInt = 48 from rfl] at h1
    rw [show (57 : Int32).toInt = 57 from rfl] at h2
    rw [Int32.toInt_sub, show (48 : Int32).toInt = 48 from rfl, Int.bmod_eq_of_le (by omega) (by omega)]
    omega
  · rw [if_neg h]; exact Or.inl rfl
theorem nm_in {b : Nat → Int32} {z : Nat} {l m : Int32} (hm : m.toInt ≤ 64) : ∀ (k : Nat) (v : Int32) (p : Nat), 0 ≤ v.toInt → l.toInt ≤ v.toInt → v.toInt ≤ m.toInt → (nmF b z m k v p).1 = -1 ∨ (l.toInt ≤ (nmF b z m k v p).1.toInt ∧ (nmF b z m k v p).1.toInt ≤ m.toInt) := by
  intro k
  induction k with
  | zero => intro v p _ h1 h2; exact Or.inr ⟨h1, h2⟩
  | succ k ih =>
    intro v p h0 h1 h2
    by_cases c1 : v ≤ 0
    · rw [nm_v c1]; exact Or.inr ⟨h1, h2⟩
    · by_cases c2 : dgF b z p = -1
      · rw [nm_d c2]; exact Or.inr ⟨h1, h2⟩
      · have d9 := (dg_9 (b := b) (z := z) (p := p)).resolve_left c2
        by_cases c3 : m < v * 10 + dgF b z p
        · rw [nm_f c1 c2 c3]; exact Or.inl rfl
        · rw [nm_s c1 c2 c3]
          have e1 : (v * 10).toInt = v.toInt * 10 := by
            rw [Int32.toInt_mul, show (10 : Int32).toInt = 10 from rfl, Int.bmod_eq_of_le (by omega) (by omega)]
          have e2 : (v * 10 + dgF b z p).toInt = v.toInt * 10 + (dgF b z p).toInt := by
            rw [Int32.toInt_add, e1, Int.bmod_eq_of_le (by omega) (by omega)]
          rw [Int32.lt_iff_toInt_lt] at c3
          exact ih _ _ (by omega) (by omega) (by omega)
theorem num_in {b : Nat → Int32} {z p : Nat} {l m : Int32} (hl : 0 ≤ l.toInt) (h9 : 9 ≤ m.toInt) (hm : m.toInt ≤ 64) (h : ¬ (numF b z l m p).1 = -1) : l.toInt ≤ (numF b z l m p).1.toInt ∧ (numF b z l m p).1.toInt ≤ m.toInt := by
  unfold numF at h ⊢
  by_cases c1 : dgF b z p = -1
  · rw [if_pos c1] at h; exact absurd rfl h
  · rw [if_neg c1] at h ⊢
    have d9 := (dg_9 (b := b) (z := z) (p := p)).resolve_left c1
    by_cases c2 : dgF b z p < l
    · rw [if_pos c2] at h; exact absurd rfl h
    · rw [if_neg c2] at h ⊢
      rw [Int32.lt_iff_toInt_lt] at c2
      exact (nm_in (l := l) hm 160 (dgF b z p) (p + 1) d9.1 (by omega) (by omega)).resolve_left h
theorem dur_in {d : Int32} (h1 : 1 ≤ d.toInt) (h2 : d.toInt ≤ 64) : isDur d := by
  refine ⟨d.toInt.toNat - 1, by omega, ?_⟩
  rw [show d.toInt.toNat - 1 + 1 = d.toInt.toNat by omega]
  exact nI_of0 (by omega)
theorem sg_in {b : Nat → Int32} {z p : Nat} {q : Int32 × Int32 × Int32 × Nat} (h : sgF b z p = .inl q) : (q.1 = 0 ∨ q.1 = 1 ∨ q.1 = 2) ∧ isDur q.2.1 ∧ (-12 ≤ q.2.2.1.toInt ∧ q.2.2.1.toInt ≤ 20) := by
  have n64 : ∀ p, ¬ (numF b z 1 64 p).1 = -1 → isDur (numF b z 1 64 p).1 := fun p hp => by
    have := num_in (l := 1) (m := 64) (by decide) (by decide) (by decide) hp
    exact dur_in this.1 this.2
  unfold sgF at h
  by_cases c1 : nxB b z p 110 = true
  · rw [if_pos c1] at h
    by_cases c2 : (numF b z 1 64 (p + 1)).1 = -1
    · rw [if_pos c2] at h; cases h
    · rw [if_neg c2] at h
      by_cases c3 : nxB b z (numF b z 1 64 (p + 1)).2 43 = true
      · rw [if_pos c3] at h
        by_cases c4 : (numF b z 0 20 ((numF b z 1 64 (p + 1)).2 + 1)).1 = -1
        · rw [if_pos c4] at h; cases h
        · rw [if_neg c4] at h
          have := num_in (l := 0) (m := 20) (by decide) (by decide) (by decide) c4
          rw [show (0 : Int32).toInt = 0 from rfl, show (20 : Int32).toInt = 20 from rfl] at this
          cases h
          exact ⟨Or.inl rfl, n64 _ c2, by dsimp only; omega, this.2⟩
      · rw [if_neg c3] at h
        by_cases c5 : nxB b z (numF b z 1 64 (p + 1)).2 45 = true
        · rw [if_pos c5] at h
          by_cases c4 : (numF b z 1 12 ((numF b z 1 64 (p + 1)).2 + 1)).1 = -1
          · rw [if_pos c4] at h; cases h
          · rw [if_neg c4] at h
            have := num_in (l := 1) (m := 12) (by decide) (by decide) (by decide) c4
            rw [show (1 : Int32).toInt = 1 from rfl, show (12 : Int32).toInt = 12 from rfl] at this
            cases h
            have e : (0 - (numF b z 1 12 ((numF b z 1 64 (p + 1)).2 + 1)).1).toInt = 0 - (numF b z 1 12 ((numF b z 1 64 (p + 1)).2 + 1)).1.toInt := by
              rw [Int32.toInt_sub, show (0 : Int32).toInt = 0 from rfl, Int.bmod_eq_of_le (by omega) (by omega)]
            exact ⟨Or.inl rfl, n64 _ c2, by dsimp only; rw [e]; omega, by dsimp only; rw [e]; omega⟩
        · rw [if_neg c5] at h
          cases h
          exact ⟨Or.inl rfl, n64 _ c2, show (-12 : Int) ≤ (0 : Int32).toInt by decide, show (0 : Int32).toInt ≤ 20 by decide⟩
  · rw [if_neg c1] at h
    by_cases c2 : nxB b z p 114 = true
    · rw [if_pos c2] at h
      by_cases c3 : (numF b z 1 64 (p + 1)).1 = -1
      · rw [if_pos c3] at h; cases h
      · rw [if_neg c3] at h
        cases h
        exact ⟨Or.inr (Or.inl rfl), n64 _ c3, show (-12 : Int) ≤ (0 : Int32).toInt by decide, show (0 : Int32).toInt ≤ 20 by decide⟩
    · rw [if_neg c2] at h
      by_cases c3 : nxB b z p 98 = true
      · rw [if_pos c3] at h
        cases h
        exact ⟨Or.inr (Or.inr rfl), dur_in (d := 1) (by decide) (by decide), show (-12 : Int) ≤ (0 : Int32).toInt by decide, show (0 : Int32).toInt ≤ 20 by decide⟩
      · rw [if_neg c3] at h; cases h
def okQ9 (q : PSg) : Prop := (q.1 = 0 ∨ q.1 = 1 ∨ q.1 = 2) ∧ isDur q.2.1 ∧ (-12 ≤ q.2.2.1.toInt ∧ q.2.2.1.toInt ≤ 20) ∧ (0 ≤ q.2.2.2.toInt ∧ q.2.2.2.toInt ≤ 9)
theorem mu_in {b : Nat → Int32} {z : Nat} : ∀ (k p i : Nat) (q : PSg), (muP b z k p).2[i]? = some q → okQ9 q := by
  intro k
  induction k with
  | zero => intro p i q h; cases h
  | succ k ih =>
    intro p i q h
    unfold muP at h
    cases hs : sgF b z p with
    | inr f =>
      rw [hs] at h
      cases h
    | inl u =>
      rw [hs] at h
      dsimp only at h
      have hu : okQ9 (u.1, u.2.1, u.2.2.1, nI (adF b z 9 u.2.2.2)) := by
        obtain ⟨h1, h2, h3⟩ := sg_in hs
        have a9 := adF_9 (b := b) (z := z) 9 u.2.2.2
        refine ⟨h1, h2, h3, ?_⟩
        show 0 ≤ (nI (adF b z 9 u.2.2.2)).toInt ∧ (nI (adF b z 9 u.2.2.2)).toInt ≤ 9
        rw [nI_toInt (by omega)]
        omega
      by_cases c1 : z ≤ u.2.2.2 + adF b z 9 u.2.2.2
      · rw [if_pos c1] at h
        match i, h with
        | 0, h => cases h; exact hu
        | i + 1, h => cases h
      · rw [if_neg c1] at h
        by_cases c2 : nxB b z (u.2.2.2 + adF b z 9 u.2.2.2) 32 = true
        · rw [if_pos c2] at h
          match i, h with
          | 0, h => cases h; exact hu
          | i + 1, h => exact ih _ i q h
        · rw [if_neg c2] at h
          match i, h with
          | 0, h => cases h; exact hu
          | i + 1, h => cases h
/-- the tape is empty -/
theorem re_t0 {N N2 z : Nat} {A B A2 B2 : PSt} (h : reN N z A B) (a : ∀ x, x ≠ 1 → x ≠ 3 → x ≠ 61 → A2.1 x = A.1 x) (a2 : A2.2 = A.2) (a61 : A2.1 61 1 = 0) (b : ∀ x, x ≠ 70 → x ≠ 71 → B2.1 x = B.1 x) (b2 : B2.2 = B.2) (b23 : B2.1 70 23 = 0) (b70 : B2.1 70 2 = B.1 70 2) (hc : colR (A2.1 1 1) (A2.1 1 2) (A2.1 3) (B2.1 71) N2) (hs : ∀ j, 162 ≤ j → j < 348 → B2.1 71 j = B.1 71 j) : reN N2 0 A2 B2 := by
  have c : mM B2 = mM B := by
    funext n
    unfold mM mN
    rw [b 89 (by decide) (by decide), b 93 (by decide) (by decide), b2]
  have aa : ∀ x, x = 0 ∨ (5 ≤ x ∧ x < 15) ∨ 62 ≤ x → A2.1 x = A.1 x := fun x hx => a x (by omega) (by omega) (by omega)
  obtain ⟨i1, i2, i3, i4, i5, i6⟩ := h
  refine ⟨hc, ?_, ?_, ⟨a61, b23, by decide, fun j hj => absurd hj (by omega)⟩, ?_, ?_⟩
  · rw [aa 5 (by omega), aa 6 (by omega), aa 7 (by omega)]
    exact shl_c i2 hs
  · unfold kpR at i3 ⊢
    rw [aa 0 (by omega), aa 8 (by omega), aa 10 (by omega), aa 12 (by omega), aa 13 (by omega), aa 14 (by omega), b 72 (by decide) (by decide), b70]
    exact i3
  · unfold ssN at i5 ⊢
    rw [c, aa 66 (by omega), aa 67 (by omega), b 89 (by decide) (by decide), b 90 (by decide) (by decide), a2, b2]
    exact i5
  · unfold erR at i6 ⊢
    rw [aa 69 (by omega), b 73 (by decide) (by decide)]
    exact i6
theorem mc_o {T : PSt} {g : Nat → Int32} {L x : Nat} (h1 : x ≠ 70) (h2 : x ≠ 71) : (mCols T g L).1 x = T.1 x := by
  funext j
  unfold mCols
  dsimp only
  rw [if_neg (fun q => h2 q.1), if_neg (fun q => h2 q.1), if_neg (fun q => h1 q.1)]
theorem tw_music {sh : List PSh} {S : PSt} {N z : Nat} (he : isEl sh) (hm : isMo sh) (h : reN N z S S) : two mX8_music mX9_music 6 4 [.ref 0] [.ref 70] sh S := by
  refine ⟨_, sp_X8_music he (re_cTp h), fun r T hr => ⟨_, hr.1, ?_⟩⟩
  obtain ⟨-, h1⟩ := hr
  have hT : hi S T := by
    unfold muO at h1
    by_cases c1 : (muP (S.1 62) z 160 0).1 = -1
    · rw [if_pos c1] at h1
      by_cases c2 : 32 < (muP (S.1 62) z 160 0).2.length
      · rw [if_pos c2] at h1
        exact hi_tr (hi_I (by decide)) (hi_fk h1)
      · rw [if_neg c2] at h1
        obtain ⟨g, h2, h3⟩ := h1
        refine hi_tr ?_ (hi_fk h2)
        have e : ∀ x, 70 ≤ x → (fun j => if x = 3 then g j else if x = 1 ∧ j = 1 then nI (muP (S.1 62) z 160 0).2.length else if x = 61 ∧ j = 1 then 0 else S.1 x j) = S.1 x := fun x hx => by
          funext j
          rw [if_neg (by omega), if_neg (by omega), if_neg (by omega)]
        exact ⟨fun x hx => ⟨e x (by omega), rfl, rfl⟩, congrFun (e 70 (by omega)) 2, congrFun (e 70 (by omega)) 23⟩
    · rw [if_neg c1] at h1
      exact hi_tr (hi_I (by decide)) (hi_fk h1)
  have hR := reN_hi h hT
  have eR : muP (T.1 87) z 160 0 = muP (S.1 62) z 160 0 := (muP_c (re_tp hR) 160 0).symm
  refine ⟨_, sp_X9_music hm (re_mTp hR).1 (re_mTp hR).2, fun r2 T2 hr2 => ?_⟩
  obtain ⟨q1, h2⟩ := hr2
  rw [eR] at q1 h2
  refine ⟨q1, ?_⟩
  have hin := mu_in (b := S.1 62) (z := z) 160 0
  generalize muP (S.1 62) z 160 0 = R at h1 h2 hin
  unfold muO at h1
  unfold muOM at h2
  by_cases c1 : R.1 = -1
  · rw [if_pos c1] at h1 h2
    by_cases c2 : 32 < R.2.length
    · rw [if_pos c2] at h1 h2
      exact ⟨N, z, reN_hi (reN_lo (reN_rf (e := 4) hR) (lo_tr (lo_fk h1) (lo_tr (lo_I (by decide)) (lo_fm h2)))) (hi_fm h2)⟩
    · rw [if_neg c2] at h1 h2
      obtain ⟨g, h1, g1⟩ := h1
      obtain ⟨f, h2, f1⟩ := h2
      have lT : lo T (mCols T f R.2.length) := ⟨fun x hx => mc_o (by omega) (by omega), by rw [mc_o (by decide) (by decide)], rfl⟩
      refine ⟨R.2.length, 0, reN_hi (reN_lo (re_t0 (A2 := (fun x j => if x = 3 then g j else if x = 1 ∧ j = 1 then nI R.2.length else if x = 61 ∧ j = 1 then 0 else S.1 x j, S.2)) (B2 := mCols T f R.2.length) hR ?_ rfl ?_ (fun x h1 h2 => mc_o h1 h2) rfl ?_ ?_ ?_ ?_) (lo_tr (lo_fk h1) (lo_tr lT (lo_fm h2)))) (hi_fm h2)⟩
      · intro x h1 h3 h61
        funext j
        dsimp only
        rw [if_neg h3, if_neg (fun q => h1 q.1), if_neg (fun q => h61 q.1)]
      · dsimp only
        rw [if_neg (by decide), if_neg (by decide), if_pos ⟨rfl, rfl⟩]
      · unfold mCols
        dsimp only
        rw [if_neg (by omega), if_neg (by omega), if_pos ⟨rfl, rfl⟩]
      · unfold mCols
        dsimp only
        rw [if_neg (by omega), if_neg (by omega), if_neg (by omega)]
      · obtain ⟨i1, i2, i3, i4, i5, i6, i7⟩ := hR.1
        have sgn : ∀ i, i < R.2.length → ∃ q, R.2[i]? = some q := fun i hi => ⟨R.2[i], List.getElem?_eq_getElem hi⟩
        dsimp only
        rw [if_neg (by decide), if_pos ⟨rfl, rfl⟩, if_neg (by decide), if_neg (by decide), if_neg (by decide)]
        have m0 : (mCols T f R.2.length).1 71 0 = nI R.2.length := by unfold mCols; dsimp only; rw [if_pos ⟨rfl, rfl⟩]
        have m1 : (mCols T f R.2.length).1 71 1 = T.1 71 1 := by unfold mCols; dsimp only; rw [if_neg (by omega), if_neg (by omega), if_neg (by omega)]
        have mj : ∀ j, j < 5 * R.2.length → (mCols T f R.2.length).1 71 (2 + j) = f j := fun j hj => by unfold mCols; dsimp only; rw [if_neg (by omega), if_pos ⟨rfl, by omega, by omega⟩, Nat.add_sub_cancel_left]
        refine ⟨rfl, by omega, fun i hi => ?_, i4, m0, m1.trans i6, fun j hj => ?_⟩
        · obtain ⟨q, hq⟩ := sgn i hi
          obtain ⟨k1, k2, k3, k4⟩ := hin i q hq
          obtain ⟨e0, e1, e2, e3, e4⟩ := g1 i q hq
          exact okC_at (g := fun j => g j) e0 e1 e2 e3 e4 ⟨k1, k2, k3, by decide, k4⟩
        · show g j = (mCols T f R.2.length).1 71 (2 + j)
          rw [mj j hj]
          obtain ⟨q, hq⟩ := sgn (j / 5) (by omega)
          obtain ⟨e0, e1, e2, e3, e4⟩ := g1 _ q hq
          obtain ⟨d0, d1, d2, d3, d4⟩ := f1 _ q hq
          rcases q5 (show j % 5 < 5 by omega) with c | c | c | c | c
          · rw [show j = 5 * (j / 5) + 0 by omega]; exact e0.trans d0.symm
          · rw [show j = 5 * (j / 5) + 1 by omega]; exact e1.trans d1.symm
          · rw [show j = 5 * (j / 5) + 2 by omega]; exact e2.trans d2.symm
          · rw [show j = 5 * (j / 5) + 3 by omega]; exact e3.trans d3.symm
          · rw [show j = 5 * (j / 5) + 4 by omega]; exact e4.trans d4.symm
      · intro j h1 h2
        unfold mCols
        dsimp only
        rw [if_neg (by omega), if_neg (by omega), if_neg (by omega)]
  · rw [if_neg c1] at h1 h2
    refine ⟨N, 0, reN_hi (reN_lo (re_t0 (A2 := pSI S 61 1 0) (B2 := pSI T 70 23 0) hR (fun x _ _ h61 => pSI_ne h61) rfl pSI_at (fun x h70 _ => pSI_ne h70) rfl pSI_at (pSI_j (by decide)) ?_ ?_) (lo_tr (lo_fk h1) (lo_tr (lo_I (by decide)) (lo_fm h2)))) (hi_fm h2)⟩
    · rw [pSI_ne (by decide), pSI_ne (by decide), pSI_ne (by decide)]
      exact hR.1
    · intro j _ _
      rw [pSI_ne (by decide)]
