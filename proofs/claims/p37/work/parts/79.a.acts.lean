/-! the law's further calls: what they answer and leave -/
theorem pg18 {S : PSt} : (pgB S 1 8).1 1 1 = S.1 8 1 ∧ (pgB S 1 8).1 1 2 = S.1 8 2 ∧ (∀ j, j < 180 → (pgB S 1 8).1 3 j = S.1 10 j) ∧ (∀ j, j < 180 → (pgB S 1 8).1 5 j = S.1 12 j) ∧ (∀ j, j < 3 → (pgB S 1 8).1 6 j = S.1 13 j) ∧ (∀ j, j < 3 → (pgB S 1 8).1 7 j = S.1 14 j) := by
  refine ⟨?_, ?_, fun j hj => ?_, fun j hj => ?_, fun j hj => ?_, fun j hj => ?_⟩ <;> simp [pgB, cpI, pSI, pU, *]
theorem pg81 {S : PSt} : (pgB S 8 1).1 8 1 = S.1 1 1 ∧ (pgB S 8 1).1 8 2 = S.1 1 2 ∧ (∀ j, j < 180 → (pgB S 8 1).1 10 j = S.1 3 j) ∧ (∀ j, j < 180 → (pgB S 8 1).1 12 j = S.1 5 j) ∧ (∀ j, j < 3 → (pgB S 8 1).1 13 j = S.1 6 j) ∧ (∀ j, j < 3 → (pgB S 8 1).1 14 j = S.1 7 j) := by
  refine ⟨?_, ?_, fun j hj => ?_, fun j hj => ?_, fun j hj => ?_, fun j hj => ?_⟩ <;> simp [pgB, cpI, pSI, pU, *]
theorem cp_o {S : PSt} {a b k x : Nat} (h : x ≠ b) : (cpI S a b k).1 x = S.1 x := by
  funext j
  unfold cpI
  exact if_neg (fun q => h q.1)
theorem pg_o {S : PSt} {r b x : Nat} (h0 : x ≠ r) (h1 : x ≠ r + 2) (h2 : x ≠ r + 4) (h3 : x ≠ r + 5) (h4 : x ≠ r + 6) : (pgB S r b).1 x = S.1 x := by
  unfold pgB
  rw [cp_o h4, cp_o h3, cp_o (by omega), pSI_ne h0, pSI_ne h0, cp_o (by omega)]
theorem fl_cp {S T : PSt} {a b k : Nat} (h : frL S T) (ha : a < 15) : frL (cpI S a b k) (cpI T a b k) := by
  intro x hx h69
  obtain ⟨a1, a2, a3, a4⟩ := h x hx h69
  have e := (h a (by omega) (by omega)).1
  refine ⟨?_, a2, a3, a4⟩
  funext j
  show (if x = b ∧ j < k then T.1 a j else T.1 x j) = (if x = b ∧ j < k then S.1 a j else S.1 x j)
  rw [congrFun a1 j, congrFun e j]
theorem fl_at {S T : PSt} {x j : Nat} (h : frL S T) (hx : x < 15) : T.1 x j = S.1 x j := congrFun (h x (by omega) (by omega)).1 j
theorem fl_IV {S T : PSt} {c i : Nat} {v w : Int32} (h : frL S T) (e : w = v) : frL (pSI S c i v) (pSI T c i w) := by
  subst e
  exact fl_I h
theorem fl_pg {S T : PSt} {r b : Nat} (h : frL S T) (hb : b + 6 < 15) : frL (pgB S r b) (pgB T r b) := by
  have h1 := fl_cp (a := (b + 1) + 1) (b := (r + 1) + 1) (k := 180) h (by omega)
  have h2 := fl_IV (c := r) (i := 1) h1 (fl_at (x := b) (j := 1) h1 (by omega))
  have h3 := fl_IV (c := r) (i := 2) h2 (fl_at (x := b) (j := 2) h2 (by omega))
  exact fl_cp (fl_cp (fl_cp h3 (by omega)) (by omega)) (by omega)
theorem fl_clr {S T : PSt} {s : Nat} {v n : Int32} {k : Nat} (h : frL S T) : frL (clr S 1 s v n k) (clr T 1 s v n k) := by
  intro x hx h69
  obtain ⟨a1, a2, a3, a4⟩ := h x hx h69
  refine ⟨?_, a2, a3, a4⟩
  funext j
  unfold clr
  dsimp only
  rw [congrFun a1 j]
theorem fl_cpS {S T : PSt} {a c b q k : Nat} (h : frL S T) (hb : b < 15) : frL (cpS S a c b q k) (cpS T a c b q k) := by
  intro x hx h69
  obtain ⟨a1, a2, a3, a4⟩ := h x hx h69
  have e := (h b (by omega) (by omega)).1
  refine ⟨?_, a2, a3, a4⟩
  funext j
  unfold cpS
  dsimp only
  rw [congrFun a1 j, congrFun e _]
section ACT
variable {B T U : PSt} {N : Nat} {r9 : Option Value}
theorem rd_image (h : frL B T) (hp : pA (0, nI N) T (pSI (pgB T 8 1) 0 2 1) r9 U) : r9 = some (.int (nI N)) ∧ frL (pSI (pgB B 8 1) 0 2 1) U := by
  refine ⟨hp.1, ?_⟩
  have h2 := hp.2
  rw [if_pos rfl] at h2
  exact fl_tr (fl_I (fl_pg h (by decide))) (fl_fr h2)
theorem rd_restore (h : frL B T) (h0 : ¬ B.1 0 2 = 0) (hp : pA (if T.1 0 2 = 0 then (2, 0) else (0, nI N)) T (pgB T 1 8) r9 U) : r9 = some (.int (nI N)) ∧ frL (pgB B 1 8) U := by
  rw [fl_at h (by decide), if_neg h0] at hp
  refine ⟨hp.1, ?_⟩
  have h2 := hp.2
  rw [if_pos rfl] at h2
  exact fl_tr (fl_pg h (by decide)) (fl_fr h2)
theorem rd_width (h : frL B T) {v : Int32} (hv : pWi v 20 380 = true) (hp : pA (oWidth (T.1 1 2) v) T (pSI T 1 2 v) r9 U) : r9 = some (.int (B.1 1 2)) ∧ frL (pSI B 1 2 v) U := by
  rw [oWidth, if_pos hv, fl_at h (by decide)] at hp
  refine ⟨hp.1, ?_⟩
  have h2 := hp.2
  rw [if_pos rfl] at h2
  exact fl_tr (fl_I h) (fl_fr h2)
theorem rd_shelf (h : frL B T) (hp : pA (oShelf 0 0 2) T (clr T 1 (tN 0) 0 2 12) r9 U) : r9 = some (.int 1) ∧ frL (clr B 1 0 0 2 12) U := by
  rw [show oShelf 0 0 2 = (0, 1) by decide] at hp
  refine ⟨hp.1, ?_⟩
  have h2 := hp.2
  rw [if_pos rfl] at h2
  exact fl_tr (fl_clr h) (fl_fr h2)
/-- store on the shelf that was told: at place 1, column 0 -/
theorem rd_store (hi : cIv B N) (h0 : 0 < N) (h : frL B T) (hk : B.1 6 0 = 0) (hz : B.1 7 0 = 2) (hp : pA (oStore (T.1 6) (T.1 7) (T.1 3) N 0 1 0) T (cpS T 5 (plN 0 1) 3 (tN 0) 5) r9 U) :
    (B.1 3 0 = 0 → r9 = some (.int 1) ∧ frL (cpS B 5 1 3 0 5) U) ∧ (¬ B.1 3 0 = 0 → r9 = some (.int (-2147483005)) ∧ frL B U) := by
  have e6 : T.1 6 0 = 0 := (fl_at h (by decide)).trans hk
  have e7 : T.1 7 0 = 2 := (fl_at h (by decide)).trans hz
  have e3 : T.1 3 0 = B.1 3 0 := fl_at h (by decide)
  have hc : isCoB N 0 = true := isCo_nI (x := 0) hi.2.1 h0
  rw [oStore, if_pos (by decide), if_pos hc, show tN 0 = 0 from rfl, e6, e7, if_pos (by decide), e3] at hp
  refine ⟨fun hq => ?_, fun hq => ?_⟩
  · rw [if_pos hq.symm] at hp
    refine ⟨hp.1, ?_⟩
    have h2 := hp.2
    rw [if_pos rfl] at h2
    exact fl_tr (fl_cpS h (by decide)) (fl_fr h2)
  · rw [if_neg (fun q => hq q.symm)] at hp
    exact rd_no h hp rfl (by decide)
theorem rd_fetch (h : frL B T) {s i w : Int32} (hp : pA (oFetch (T.1 6) (T.1 7) (T.1 5) s i w) T T r9 U) : r9 = some (.int (ansE (oFetch (B.1 6) (B.1 7) (B.1 5) s i w).1 (oFetch (B.1 6) (B.1 7) (B.1 5) s i w).2)) ∧ frL B U := by
  rw [(h 6 (by omega) (by omega)).1, (h 7 (by omega) (by omega)).1, (h 5 (by omega) (by omega)).1] at hp
  exact rd_pA h hp
theorem fet_1 (hk : B.1 6 0 = 0) (hz : B.1 7 0 = 2) (hq : ¬ B.1 5 5 = -1) : ansE (oFetch (B.1 6) (B.1 7) (B.1 5) 0 1 1).1 (oFetch (B.1 6) (B.1 7) (B.1 5) 0 1 1).2 = B.1 5 6 := by
  rw [oFetch, if_pos (by decide), if_pos (by decide), show tN 0 = 0 from rfl, hk, hz, if_pos (by decide), show 5 * plN 0 1 = 5 from rfl, if_neg hq, if_neg (by decide)]
  rfl
theorem fet_2 (hk : B.1 6 0 = 0) (hz : B.1 7 0 = 2) (hq : B.1 5 5 = -1) : ansE (oFetch (B.1 6) (B.1 7) (B.1 5) 0 1 1).1 (oFetch (B.1 6) (B.1 7) (B.1 5) 0 1 1).2 = -2147483002 := by
  rw [oFetch, if_pos (by decide), if_pos (by decide), show tN 0 = 0 from rfl, hk, hz, if_pos (by decide), show 5 * plN 0 1 = 5 from rfl, if_pos hq]
  decide
theorem fet_0 (hk : B.1 6 0 = -1) : ansE (oFetch (B.1 6) (B.1 7) (B.1 5) 0 0 0).1 (oFetch (B.1 6) (B.1 7) (B.1 5) 0 0 0).2 = -2147483007 := by
  rw [oFetch, if_pos (by decide), if_pos (by decide), show tN 0 = 0 from rfl, if_neg (by rw [hnB, decide_eq_true_iff]; exact fun q => q.1 hk)]
  decide
theorem rd_feed {z : Nat} {b : Int32} (h : frL B T) (hb : pWi b 0 255 = true) (hz : z < 160) (hp : pA (oFeed z b) T (pSI (pSI T 62 z b) 61 1 (nI (z + 1))) r9 U) : r9 = some (.int (nI (z + 1))) ∧ frL (pSI (pSI B 62 z b) 61 1 (nI (z + 1))) U := by
  rw [oFeed, if_pos hb, if_neg (by omega)] at hp
  refine ⟨hp.1, ?_⟩
  have h2 := hp.2
  rw [if_pos rfl] at h2
  exact fl_tr (fl_I (fl_I h)) (fl_fr h2)
theorem rd_cnt1 {z : Nat} (h : frL B T) (hp : pA (oCount (T.1 3) (T.1 1 2) N z (T.1 6) (T.1 7) (T.1 5) 1) T T r9 U) : r9 = some (.int (B.1 1 2)) ∧ frL B U := by
  rw [fl_at h (by decide)] at hp
  exact rd_ok h hp rfl
end ACT
/-! the text of music -/
def muB : Nat → Int32 := fun j => pTx.getD j 0
theorem mus_v : muP muB 11 160 0 = (-1, [(0, 16, -4, 1), (2, 1, 0, 0), (1, 3, 0, 0)]) := by decide +kernel
theorem mus_of {b : Nat → Int32} (h : ∀ j, j < 11 → b j = pTx.getD j 0) : muP b 11 160 0 = (-1, [(0, 16, -4, 1), (2, 1, 0, 0), (1, 3, 0, 0)]) := (muP_c h 160 0).trans mus_v
theorem txt_w : ∀ k, k < 11 → pWi (pTx.getD k 0) 0 255 = true := by decide
/-- behind music's text -/
def muZ (S T : PSt) : Prop := (∀ x, x < 15 → x ≠ 1 → x ≠ 3 → T.1 x = S.1 x) ∧ T.1 70 = S.1 70 ∧ T.1 61 1 = 0 ∧ T.1 1 1 = nI 3 ∧ T.1 1 2 = S.1 1 2 ∧
  (T.1 3 0 = 0 ∧ T.1 3 1 = 16 ∧ T.1 3 2 = -4 ∧ T.1 3 3 = 2 ∧ T.1 3 4 = 1) ∧ (T.1 3 5 = 2 ∧ T.1 3 6 = 1 ∧ T.1 3 7 = 0 ∧ T.1 3 8 = 2 ∧ T.1 3 9 = 0) ∧ (T.1 3 10 = 1 ∧ T.1 3 11 = 3 ∧ T.1 3 12 = 0 ∧ T.1 3 13 = 2 ∧ T.1 3 14 = 0)
theorem rd_music {B T U : PSt} {r9 : Option Value} (h : frL B T) (hb : ∀ j, j < 11 → B.1 62 j = pTx.getD j 0) (hp : r9 = some (.int (ansE (oMusic (muP (T.1 62) 11 160 0)).1 (oMusic (muP (T.1 62) 11 160 0)).2)) ∧ muO T U (muP (T.1 62) 11 160 0)) : r9 = some (.int 3) ∧ muZ B U := by
  have e62 : T.1 62 = B.1 62 := (h 62 (by omega) (by omega)).1
  rw [e62, mus_of hb] at hp
  refine ⟨hp.1, ?_⟩
  have h2 := hp.2
  unfold muO at h2
  rw [if_pos rfl, if_neg (by decide)] at h2
  obtain ⟨g, ⟨f1, f2, -⟩, h3⟩ := h2
  have c : ∀ x, x < 15 → T.1 x = B.1 x := fun x hx => (h x (by omega) (by omega)).1
  have g0 := h3 0 _ rfl
  have g1 := h3 1 _ rfl
  have g2 := h3 2 _ rfl
  have e3 : ∀ j, U.1 3 j = g j := fun j => congrFun (f1 3 (by omega)) j
  refine ⟨fun x hx h1 h3 => ?_, ?_, ?_, ?_, ?_, ?_, ?_, ?_⟩
  · rw [f1 x (by omega)]
    funext j
    have h61 : x ≠ 61 := by omega
    simp [h1, h3, h61, c x hx]
  · rw [f1 70 (by omega)]
    funext j
    simp [(h 70 (by omega) (by omega)).1]
  · rw [f2]
    rfl
  · rw [f1 1 (by omega)]
    rfl
  · rw [f1 1 (by omega)]
    show T.1 1 2 = _
    rw [c 1 (by omega)]
  · rw [e3, e3, e3, e3, e3]
    exact g0
  · rw [e3, e3, e3, e3, e3]
    exact g1
  · rw [e3, e3, e3, e3, e3]
    exact g2
theorem muZ_iv {S T : PSt} (h : muZ S T) (hw : okWd (S.1 1 2)) : cIv T 3 := by
  obtain ⟨-, -, -, h1, h2, ⟨a0, a1, a2, a3, a4⟩, ⟨b0, b1, b2, b3, b4⟩, ⟨c0, c1, c2, c3, c4⟩⟩ := h
  refine ⟨h1, by decide, fun i hi => ?_, by rw [h2]; exact hw⟩
  unfold okC
  rcases (show i = 0 ∨ i = 1 ∨ i = 2 by omega) with rfl | rfl | rfl
  · rw [show 5 * 0 + 0 = 0 from rfl, show 5 * 0 + 1 = 1 from rfl, show 5 * 0 + 2 = 2 from rfl, show 5 * 0 + 3 = 3 from rfl, show 5 * 0 + 4 = 4 from rfl, a0, a1, a2, a3, a4]
    exact ⟨Or.inl rfl, ⟨15, by decide, by decide⟩, by decide, by decide, by decide⟩
  · rw [show 5 * 1 + 0 = 5 from rfl, show 5 * 1 + 1 = 6 from rfl, show 5 * 1 + 2 = 7 from rfl, show 5 * 1 + 3 = 8 from rfl, show 5 * 1 + 4 = 9 from rfl, b0, b1, b2, b3, b4]
    exact ⟨Or.inr (Or.inr rfl), ⟨0, by decide, by decide⟩, by decide, by decide, by decide⟩
  · rw [show 5 * 2 + 0 = 10 from rfl, show 5 * 2 + 1 = 11 from rfl, show 5 * 2 + 2 = 12 from rfl, show 5 * 2 + 3 = 13 from rfl, show 5 * 2 + 4 = 14 from rfl, c0, c1, c2, c3, c4]
    exact ⟨Or.inr (Or.inl rfl), ⟨2, by decide, by decide⟩, by decide, by decide, by decide⟩
/-! a longer sign is no shorter -/
theorem spr_all : ∀ d, d < 63 → ¬ Op.cmpValue (FP.fcmp (idF 0 (nI (d + 1) + 1)) (idF 0 (nI (d + 1)))) .g < 0 := by decide +kernel
theorem spr_mono {g : Nat → Int32} {a : Nat} (h : okC g a) (hk : ¬ g (5 * a) = 2) (hd : ¬ 64 ≤ g (5 * a + 1)) : ¬ Op.cmpValue (FP.fcmp (idF (g (5 * a)) (g (5 * a + 1) + 1)) (idF (g (5 * a)) (g (5 * a + 1)))) .g < 0 := by
  obtain ⟨-, ⟨k, hk9, e⟩, -⟩ := h
  have e : g (5 * a + 1) = nI (k + 1) := e
  rw [idF_0 hk, idF_0 hk, e]
  rw [e, Int32.le_iff_toInt_le, nI_toInt (by omega), show (64 : Int32).toInt = 64 from rfl] at hd
  exact spr_all k (by omega)
theorem al_up {g : Nat → Int32} {a : Nat} (h : okC g a) (hd : ¬ 64 ≤ g (5 * a + 1)) : pAl 1 (g (5 * a + 1) + 1) = true := by
  obtain ⟨-, ⟨k, hk9, e⟩, -⟩ := h
  have e : g (5 * a + 1) = nI (k + 1) := e
  rw [e]
  rw [e, Int32.le_iff_toInt_le, nI_toInt (by omega), show (64 : Int32).toInt = 64 from rfl] at hd
  exact (show ∀ d, d < 63 → pAl 1 (nI (d + 1) + 1) = true by decide) k (by omega)
theorem wd_ok (v : Int32) : okWd (20 + modI v 361) ∧ pWi (20 + modI v 361) 20 380 = true := by
  obtain ⟨d, hd, e⟩ := modI_rng (v := v) (n := 361) (by decide) (by decide)
  have e : modI v 361 = nI d := e
  have h1 : (20 + nI d).toInt = 20 + (d : Int) := by
    rw [Int32.toInt_add, nI_toInt (by omega), show (20 : Int32).toInt = 20 from rfl, Int.bmod_eq_of_le (by omega) (by omega)]
  have h2 : okWd (20 + modI v 361) := by
    unfold okWd
    rw [e, h1]
    omega
  refine ⟨h2, ?_⟩
  unfold pWi
  rw [show (380 : Int32).toInt = 380 from rfl, show (20 : Int32).toInt = 20 from rfl]
  exact decide_eq_true h2
/-! what stands while a script's columns are told -/
/-- one round of widths after the other: S0 what was when the image was taken -/
def kI (S0 : PSt) (n : Nat) (B : PSt) : Prop := (∀ x, x ≤ 70 → x ≠ 1 → x ≠ 70 → (x < 15 ∨ 61 ≤ x) → x ≠ 69 → B.1 x = S0.1 x) ∧ cIv B n ∧ eOk B n
theorem kI_w {S0 B : PSt} {n : Nat} {wd : Int32} (h : kI S0 n B) (hw : okWd wd) : kI S0 n (pSI (pSI B 1 2 wd) 70 1 wd) := by
  obtain ⟨h1, h2, h3⟩ := h
  refine ⟨fun x a b c d e => by rw [pSI_ne c, pSI_ne b]; exact h1 x a b c d e, ⟨?_, h2.2.1, ?_, ?_⟩, ?_, ?_, fun j hj => ?_⟩
  · rw [pSI_ne (by decide), pSI_j (by decide)]; exact h2.1
  · rw [pSI_ne (by decide), pSI_ne (by decide)]; exact h2.2.2.1
  · rw [pSI_ne (by decide), pSI_at]; exact hw
  · rw [pSI_j (by decide), pSI_ne (by decide)]; exact h3.1
  · rw [pSI_at, pSI_ne (by decide), pSI_at]
  · rw [pSI_j (by omega), pSI_ne (by decide), pSI_ne (by decide), pSI_ne (by decide)]
    exact h3.2.2 j hj
theorem kI_z {S0 B T : PSt} {n : Nat} (h : kI S0 n B) (hz : frZ B T) : kI S0 n T := by
  obtain ⟨h1, h2, h3⟩ := h
  have e : ∀ x, x ≤ 70 → (x < 15 ∨ 61 ≤ x) → x ≠ 69 → T.1 x = B.1 x := fun x a b c => (hz x a b c).1
  refine ⟨fun x a b c d q => (e x a d q).trans (h1 x a b c d q), ?_, ?_⟩
  · unfold cIv
    rw [e 1 (by decide) (by decide) (by decide), e 3 (by decide) (by decide) (by decide)]
    exact h2
  · unfold eOk
    rw [e 70 (by decide) (by decide) (by decide), e 1 (by decide) (by decide) (by decide), e 3 (by decide) (by decide) (by decide)]
    exact h3
/-- ahead of a script's columns: t of them have been -/
def tI (t : Nat) (B : PSt) : Prop := (∃ N, cIv B N) ∧ cTp B 0 ∧ cSh B ∧ B.1 70 1 = B.1 1 2 ∧ (t = 0 → B.1 6 0 = -1)
/-- when the image was taken: columns n, the shelf's kind k -/
def sI (S0 : PSt) (n t : Nat) : Prop := kI S0 n S0 ∧ cTp S0 0 ∧ S0.1 0 2 = 1 ∧ S0.1 8 1 = nI n ∧ okWd (S0.1 8 2) ∧ (∀ j, j < 180 → S0.1 10 j = S0.1 3 j) ∧ (∀ s, s < 3 → (S0.1 14 s).toInt ≤ 12) ∧ cSh S0 ∧ (t = 0 → S0.1 13 0 = -1)
theorem sI_of {S B : PSt} {n t : Nat} (hS : tI t S) (h : colI S n B) : sI (pSI (pgB (pSI B 70 0 (nI n)) 8 1) 0 2 1) n t := by
  obtain ⟨-, t1, t2, t3, t4⟩ := hS
  obtain ⟨a1, a2, a3, a4, a5, a6⟩ := h
  have o : ∀ x, x ≠ 0 → x ≠ 8 → x ≠ 10 → x ≠ 12 → x ≠ 13 → x ≠ 14 → (pSI (pgB (pSI B 70 0 (nI n)) 8 1) 0 2 1).1 x = (pSI B 70 0 (nI n)).1 x := fun x h0 h8 h10 h12 h13 h14 => by rw [pSI_ne h0, pg_o h8 h10 h12 h13 h14]
  obtain ⟨p1, p2, p3, p4, p5, p6⟩ := pg81 (S := pSI B 70 0 (nI n))
  have q0 : ∀ x, x ≠ 0 → (pSI (pgB (pSI B 70 0 (nI n)) 8 1) 0 2 1).1 x = (pgB (pSI B 70 0 (nI n)) 8 1).1 x := fun x h => pSI_ne h
  have e1 := (o 1 (by decide) (by decide) (by decide) (by decide) (by decide) (by decide)).trans (pSI_ne (S := B) (a := 70) (j := 0) (v := nI n) (by decide))
  have e3 := (o 3 (by decide) (by decide) (by decide) (by decide) (by decide) (by decide)).trans (pSI_ne (S := B) (a := 70) (j := 0) (v := nI n) (by decide))
  have e70 := o 70 (by decide) (by decide) (by decide) (by decide) (by decide) (by decide)
  have e7 := (o 7 (by decide) (by decide) (by decide) (by decide) (by decide) (by decide)).trans (pSI_ne (S := B) (a := 70) (j := 0) (v := nI n) (by decide))
  have e61 := (o 61 (by decide) (by decide) (by decide) (by decide) (by decide) (by decide)).trans (pSI_ne (S := B) (a := 70) (j := 0) (v := nI n) (by decide))
  refine ⟨⟨fun x _ _ _ _ _ => rfl, ?_, ?_, ?_, fun j hj => ?_⟩, ?_, pSI_at, ?_, ?_, fun j hj => ?_, fun s hs => ?_, fun s hs => ?_, fun ht => ?_⟩
  · unfold cIv
    rw [e1, e3]
    exact a1
  · rw [e70, pSI_at]
  · rw [e70, pSI_j (by decide), e1, a3, a4]
    exact t3
  · rw [e70, pSI_j (by omega), e3]
    exact a2 j hj
  · unfold cTp
    rw [e61, a6 61 (by decide) (by decide) (by decide)]
    exact t1
  · rw [q0 8 (by decide), p1, pSI_ne (by decide)]
    exact a1.1
  · rw [q0 8 (by decide), p2, pSI_ne (by decide)]
    exact a1.2.2.2
  · rw [q0 10 (by decide), p3 j hj, e3, pSI_ne (by decide)]
  · rw [q0 14 (by decide), p6 s hs, pSI_ne (by decide), a6 7 (by decide) (by decide) (by decide)]
    exact t2 s hs
  · rw [e7, a6 7 (by decide) (by decide) (by decide)]
    exact t2 s hs
  · rw [q0 13 (by decide), p5 0 (by decide), pSI_ne (by decide), a6 6 (by decide) (by decide) (by decide)]
    exact t4 ht
/-- put back: as the image had it -/
def eN1 (B : PSt) (n : Nat) : Prop := B.1 70 0 = nI n ∧ ∀ j, j < 5 * n → B.1 70 (2 + j) = B.1 3 j
theorem put_back {S0 B : PSt} {n t : Nat} (hS : sI S0 n t) (h8 : ∀ x, 8 ≤ x → x < 15 → B.1 x = S0.1 x) (h61 : B.1 61 1 = 0) (h70 : ∀ j, j < 5 * n → B.1 70 (2 + j) = S0.1 3 j) (h700 : B.1 70 0 = nI n) :
    cIv (pgB B 1 8) n ∧ cTp (pgB B 1 8) 0 ∧ cSh (pgB B 1 8) ∧ eN1 (pgB B 1 8) n ∧ (t = 0 → (pgB B 1 8).1 6 0 = -1) := by
  obtain ⟨⟨-, k2, k3⟩, s1, s2, s3, s4, s5, s6, s7, s8⟩ := hS
  obtain ⟨p1, p2, p3, p4, p5, p6⟩ := pg18 (S := B)
  have hn := k2.2.1
  have e3 : ∀ j, j < 180 → (pgB B 1 8).1 3 j = S0.1 3 j := fun j hj => by rw [p3 j hj, h8 10 (by decide) (by decide), s5 j hj]
  refine ⟨⟨?_, hn, okG_c (g := S0.1 3) (fun j hj => (e3 j (by omega)).symm) k2.2.2.1, ?_⟩, ?_, fun s hs => ?_, ⟨?_, fun j hj => ?_⟩, fun ht => ?_⟩
  · rw [p1, h8 8 (by decide) (by decide)]; exact s3
  · rw [p2, h8 8 (by decide) (by decide)]; exact s4
  · unfold cTp
    rw [pg_o (by decide) (by decide) (by decide) (by decide) (by decide), h61]
    exact ⟨rfl, by decide⟩
  · rw [p6 s hs, h8 14 (by decide) (by decide)]
    exact s6 s hs
  · rw [pg_o (by decide) (by decide) (by decide) (by decide) (by decide)]
    exact h700
  · rw [pg_o (by decide) (by decide) (by decide) (by decide) (by decide), e3 j (by omega)]
    exact h70 j hj
  · rw [p5 0 (by decide), h8 13 (by decide) (by decide)]
    exact s8 ht
