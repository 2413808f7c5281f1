/-! the class's cells and the model's, side by side -/
def fK (F : Nat → Int32) (s : Nat) : Int32 := F (162 + 62 * s)
def fZ (F : Nat → Int32) (s : Nat) : Int32 := F (163 + 62 * s)
def fQ (F : Nat → Int32) (n : Nat) : Int32 := F (164 + 62 * (n / 60) + n % 60)
/-- columns side by side -/
def colR (n w : Int32) (g F : Nat → Int32) (N : Nat) : Prop := n = nI N ∧ N ≤ 32 ∧ okG g N ∧ okWd w ∧ F 0 = nI N ∧ F 1 = w ∧ agC g (fun j => F (2 + j)) N
def okSg (K Q : Nat → Int32) : Prop := ∀ s, s < 3 → ¬ K s = -1 → ∀ i, i < 12 → ¬ Q (5 * (12 * s + i)) = -1 → okC Q (12 * s + i)
def fSh (F : Nat → Int32) : Prop := ∀ s, s < 3 → (fK F s = -1 ∨ okK (fK F s)) ∧ (0 ≤ (fZ F s).toInt ∧ (fZ F s).toInt ≤ 12) ∧ ∀ i, i < 12 → fQ F (5 * (12 * s + i)) = -1 ∨ okK (fQ F (5 * (12 * s + i)))
/-- shelves side by side -/
def shlR (K Z Q F : Nat → Int32) : Prop := (∀ s, s < 3 → (Z s).toInt ≤ 12) ∧ shR K Z Q (fK F) (fZ F) (fQ F) ∧ okSg K Q ∧ fSh F
/-- sheets side by side -/
def ssN (A B : PSt) : Prop := ∀ s, s < 4 → A.1 66 s = B.1 89 s ∧ A.1 67 s = B.1 90 s ∧ (0 ≤ (B.1 90 s).toInt ∧ (B.1 90 s).toInt ≤ 40) ∧ okSo (B.1 89 s) ∧ ∀ i, i < 40 → A.2.2.1 68 (40 * s + i) = mM B (40 * s + i) ∧ sF (B.2.1 91 (40 * s + i)) ∧ sD (B.2.2.2 92 (40 * s + i))
def tpR (A B : PSt) (z : Nat) : Prop := A.1 61 1 = nI z ∧ B.1 70 23 = nI z ∧ z ≤ 160 ∧ ∀ j, j < z → A.1 62 j = B.1 87 j
def kpR (A B : PSt) : Prop := A.1 0 2 = B.1 70 2 ∧ (¬ A.1 0 2 = 0 → ∃ n, colR (A.1 8 1) (A.1 8 2) (A.1 10) (B.1 72) n ∧ shlR (A.1 13) (A.1 14) (A.1 12) (B.1 72))
def erR (A B : PSt) : Prop := ∀ e, 1 ≤ e → e ≤ 7 → A.1 69 e = B.1 73 e
def reN (N z : Nat) (A B : PSt) : Prop := colR (A.1 1 1) (A.1 1 2) (A.1 3) (B.1 71) N ∧ shlR (A.1 6) (A.1 7) (A.1 5) (B.1 71) ∧ kpR A B ∧ tpR A B z ∧ ssN A B ∧ erR A B
def rel (A B : PSt) : Prop := ∃ N z, reN N z A B
/-- the class's cells are as they were -/
def lo (A T : PSt) : Prop := (∀ x, x < 15 ∨ x = 62 ∨ (65 ≤ x ∧ x < 70) → T.1 x = A.1 x) ∧ T.1 61 1 = A.1 61 1 ∧ T.2.2.1 68 = A.2.2.1 68
/-- the model's cells are as they were -/
def hi (B T : PSt) : Prop := (∀ x, (71 ≤ x ∧ x < 74) ∨ x = 87 ∨ 89 ≤ x → T.1 x = B.1 x ∧ T.2.1 x = B.2.1 x ∧ T.2.2.2 x = B.2.2.2 x) ∧ T.1 70 2 = B.1 70 2 ∧ T.1 70 23 = B.1 70 23
theorem lo_rf {A : PSt} : lo A A := ⟨fun _ _ => rfl, rfl, rfl⟩
theorem hi_rf {A : PSt} : hi A A := ⟨fun _ _ => ⟨rfl, rfl, rfl⟩, rfl, rfl⟩
theorem lo_tr {A T U : PSt} (h1 : lo A T) (h2 : lo T U) : lo A U := ⟨fun x h => (h2.1 x h).trans (h1.1 x h), h2.2.1.trans h1.2.1, h2.2.2.trans h1.2.2⟩
theorem hi_tr {A T U : PSt} (h1 : hi A T) (h2 : hi T U) : hi A U := ⟨fun x h => ⟨(h2.1 x h).1.trans (h1.1 x h).1, (h2.1 x h).2.1.trans (h1.1 x h).2.1, (h2.1 x h).2.2.trans (h1.1 x h).2.2⟩, h2.2.1.trans h1.2.1, h2.2.2.trans h1.2.2⟩
theorem lo_fk {A T : PSt} (h : fk A T) : lo A T := ⟨fun x hx => h.1 x (by omega), h.2.1, (h.2.2 68 (by omega)).2.1⟩
theorem hi_fk {A T : PSt} (h : fk A T) : hi A T := ⟨fun x hx => ⟨h.1 x (by omega), (h.2.2 x (by omega)).1, (h.2.2 x (by omega)).2.2⟩, by rw [h.1 70 (by omega)], by rw [h.1 70 (by omega)]⟩
theorem lo_fr {A T : PSt} (h : fr 15 61 A T) : lo A T := ⟨fun x hx => (h x (by omega)).1, by rw [(h 61 (by omega)).1], (h 68 (by omega)).2.2.1⟩
theorem hi_fr {A T : PSt} (h : fr 15 61 A T) : hi A T := ⟨fun x hx => ⟨(h x (by omega)).1, (h x (by omega)).2.1, (h x (by omega)).2.2.2⟩, by rw [(h 70 (by omega)).1], by rw [(h 70 (by omega)).1]⟩
theorem lo_fm {A T : PSt} (h : frM A T) : lo A T := ⟨fun x hx => (h.1 x (by omega) (by omega)).1, by rw [(h.1 61 (by omega) (by omega)).1], (h.1 68 (by omega) (by omega)).2.2.1⟩
theorem hi_fm {A T : PSt} (h : frM A T) : hi A T := ⟨fun x hx => ⟨(h.1 x (by omega) (by omega)).1, (h.1 x (by omega) (by omega)).2.1, (h.1 x (by omega) (by omega)).2.2.2⟩, h.2.1, h.2.2⟩
theorem lo_I {S : PSt} {k j : Nat} {v : Int32} (h : 70 ≤ k) : lo S (pSI S k j v) := ⟨fun x hx => pU_ne (by omega), by rw [show (pSI S k j v).1 61 = S.1 61 from pU_ne (by omega)], rfl⟩
theorem lo_F {S : PSt} {k j : Nat} {v : UInt32} : lo S (pSF S k j v) := ⟨fun x hx => rfl, rfl, rfl⟩
theorem lo_D {S : PSt} {k j : Nat} {v : UInt64} : lo S (pSD S k j v) := ⟨fun x hx => rfl, rfl, rfl⟩
theorem hi_I {S : PSt} {k j : Nat} {v : Int32} (h : k < 70) : hi S (pSI S k j v) := ⟨fun x hx => ⟨pU_ne (by omega), rfl, rfl⟩, by rw [show (pSI S k j v).1 70 = S.1 70 from pU_ne (by omega)], by rw [show (pSI S k j v).1 70 = S.1 70 from pU_ne (by omega)]⟩
theorem hi_J {S : PSt} {k j : Nat} {v : Int64} : hi S (pSJ S k j v) := ⟨fun x hx => ⟨rfl, rfl, rfl⟩, rfl, rfl⟩
theorem lo_cp {S : PSt} {a b k : Nat} (h : 70 ≤ b) : lo S (cpI S a b k) := by
  have e : ∀ x, x < 70 → (cpI S a b k).1 x = S.1 x := fun x hx => by
    funext j
    unfold cpI
    exact if_neg (fun q => by have := q.1; omega)
  exact ⟨fun x hx => e x (by omega), by rw [e 61 (by omega)], rfl⟩
theorem hi_cp {S : PSt} {a b k : Nat} (h : b < 70) : hi S (cpI S a b k) := by
  have e : ∀ x, 70 ≤ x → (cpI S a b k).1 x = S.1 x := fun x hx => by
    funext j
    unfold cpI
    exact if_neg (fun q => by have := q.1; omega)
  exact ⟨fun x hx => ⟨e x (by omega), rfl, rfl⟩, by rw [e 70 (by omega)], by rw [e 70 (by omega)]⟩
theorem reN_lo {N z : Nat} {A T B : PSt} (h : reN N z A B) (l : lo A T) : reN N z T B := by
  obtain ⟨l1, l2, l3⟩ := l
  unfold reN kpR tpR ssN erR
  rw [l2, l3, l1 0 (by omega), l1 1 (by omega), l1 3 (by omega), l1 5 (by omega), l1 6 (by omega), l1 7 (by omega), l1 8 (by omega), l1 10 (by omega), l1 12 (by omega), l1 13 (by omega), l1 14 (by omega), l1 62 (by omega), l1 66 (by omega), l1 67 (by omega), l1 69 (by omega)]
  exact h
theorem mM_hi {B T : PSt} (l : hi B T) : mM T = mM B := by
  funext n
  unfold mM mN
  rw [(l.1 89 (by omega)).1, (l.1 91 (by omega)).2.1, (l.1 92 (by omega)).2.2, (l.1 93 (by omega)).1]
theorem reN_hi {N z : Nat} {A B T : PSt} (h : reN N z A B) (l : hi B T) : reN N z A T := by
  have e := mM_hi l
  obtain ⟨l1, l2, l3⟩ := l
  unfold reN kpR tpR ssN erR
  rw [e, l2, l3, (l1 71 (by omega)).1, (l1 72 (by omega)).1, (l1 73 (by omega)).1, (l1 87 (by omega)).1, (l1 89 (by omega)).1, (l1 90 (by omega)).1, (l1 91 (by omega)).2.1, (l1 92 (by omega)).2.2]
  exact h
theorem reN_rf {N z : Nat} {A B : PSt} {e : Nat} (h : reN N z A B) : reN N z (rfS A e) (rfM B e) := by
  have a : ∀ x, x ≠ 69 → (rfS A e).1 x = A.1 x := fun x hx => pU_ne hx
  have b : ∀ x, x ≠ 73 → (rfM B e).1 x = B.1 x := fun x hx => pU_ne hx
  have c : mM (rfM B e) = mM B := by
    funext n
    unfold mM mN
    rw [b 89 (by decide), b 93 (by decide)]
    rfl
  unfold reN kpR tpR ssN erR at *
  rw [a 0 (by decide), a 1 (by decide), a 3 (by decide), a 5 (by decide), a 6 (by decide), a 7 (by decide), a 8 (by decide), a 10 (by decide), a 12 (by decide), a 13 (by decide), a 14 (by decide), a 61 (by decide), a 62 (by decide), a 66 (by decide), a 67 (by decide), b 70 (by decide), b 71 (by decide), b 72 (by decide), b 87 (by decide), b 89 (by decide), b 90 (by decide), c]
  refine ⟨h.1, h.2.1, h.2.2.1, h.2.2.2.1, h.2.2.2.2.1, fun k h1 h2 => ?_⟩
  have i := h.2.2.2.2.2
  show (if 69 = 69 ∧ k = e then A.1 69 e + 1 else A.1 69 k) = (if 73 = 73 ∧ k = e then B.1 73 e + 1 else B.1 73 k)
  by_cases hk : k = e
  · subst hk
    rw [if_pos ⟨rfl, rfl⟩, if_pos ⟨rfl, rfl⟩, i k h1 h2]
  · rw [if_neg (fun q => hk q.2), if_neg (fun q => hk q.2), i k h1 h2]
/-! what the calls want -/
theorem re_cIv {N z : Nat} {A B : PSt} (h : reN N z A B) : cIv A N := ⟨h.1.1, h.1.2.1, h.1.2.2.1, h.1.2.2.2.1⟩
theorem okG_c {g g' : Nat → Int32} {N : Nat} (h : agC g g' N) (hg : okG g N) : okG g' N := by
  intro i hi
  have := hg i hi
  unfold okC at this ⊢
  rw [← h _ (by omega), ← h _ (by omega), ← h _ (by omega), ← h _ (by omega), ← h _ (by omega)]
  exact this
theorem re_ag {N z : Nat} {A B : PSt} (h : reN N z A B) : agC (A.1 3) (mG B) N := h.1.2.2.2.2.2.2
theorem re_w {N z : Nat} {A B : PSt} (h : reN N z A B) : A.1 1 2 = B.1 71 1 := h.1.2.2.2.2.2.1.symm
theorem re_N {N z : Nat} {A B : PSt} (h : reN N z A B) : N ≤ 32 := h.1.2.1
theorem re_mIv {N z : Nat} {A B : PSt} (h : reN N z A B) : mIv B N := ⟨h.1.2.2.2.2.1, h.1.2.1, okG_c (re_ag h) h.1.2.2.1, by rw [← re_w h]; exact h.1.2.2.2.1⟩
theorem re_cSh {N z : Nat} {A B : PSt} (h : reN N z A B) : cSh A := h.2.1.1
theorem re_sh {N z : Nat} {A B : PSt} (h : reN N z A B) : shR (A.1 6) (A.1 7) (A.1 5) (mK B) (mZ B) (mQ B) := h.2.1.2.1
theorem re_mSh {N z : Nat} {A B : PSt} (h : reN N z A B) : mSh B := h.2.1.2.2.2
theorem re_cTp {N z : Nat} {A B : PSt} (h : reN N z A B) : cTp A z := ⟨h.2.2.2.1.1, h.2.2.2.1.2.2.1⟩
theorem re_mTp {N z : Nat} {A B : PSt} (h : reN N z A B) : mTp B z := ⟨h.2.2.2.1.2.1, h.2.2.2.1.2.2.1⟩
theorem re_tp {N z : Nat} {A B : PSt} (h : reN N z A B) : ∀ j, j < z → A.1 62 j = B.1 87 j := h.2.2.2.1.2.2.2
theorem re_ss {N z : Nat} {A B : PSt} (h : reN N z A B) : ssR (A.1 66) (A.1 67) (A.2.2.1 68) (B.1 89) (B.1 90) (mM B) := fun s hs => by
  have := h.2.2.2.2.1 s hs
  exact ⟨this.1, this.2.1, fun i hi => (this.2.2.2.2 i hi).1⟩
theorem re_mSs {N z : Nat} {A B : PSt} (h : reN N z A B) : mSs B := fun s hs => by
  have := h.2.2.2.2.1 s hs
  exact ⟨this.2.2.1, this.2.2.2.1, fun i hi => (this.2.2.2.2 i hi).2⟩
theorem re_cSs {N z : Nat} {A B : PSt} (h : reN N z A B) : cSs A := fun s hs => by
  obtain ⟨h1, h2, h3, h4, h5⟩ := h.2.2.2.2.1 s hs
  rw [h1, h2]
  refine ⟨h3.2, h4, fun i hi => ?_⟩
  obtain ⟨g1, g2, g3⟩ := h5 i hi
  rw [g1, mM_at hi]
  refine ⟨fun q => ⟨_, g2, ?_⟩, fun q => ⟨_, g3, ?_⟩⟩
  · unfold mN; rw [if_pos q]
  · unfold mN; rw [q, if_neg (by decide), if_pos rfl]
theorem re_er {N z : Nat} {A B : PSt} (h : reN N z A B) : ∀ e, 1 ≤ e → e ≤ 7 → A.1 69 e = B.1 73 e := h.2.2.2.2.2
/-! a call of the class and the same call of the model -/
def two (M1 M2 : PM) (d1 d2 : Nat) (a1 a2 : List Value) (sh : List PSh) (S : PSt) : Prop := ∃ P1, pG M1 d1 a1 sh S P1 ∧ ∀ r T, P1 r T → ∃ v : Int32, r = some (.int v) ∧ ∃ P2, pG M2 d2 a2 sh T P2 ∧ ∀ r2 T2, P2 r2 T2 → r2 = some (.int v) ∧ rel T2 T2
def twoL (M1 M2 : PM) (d1 d2 : Nat) (a1 a2 : List Value) (sh : List PSh) (S : PSt) : Prop := ∃ P1, pG M1 d1 a1 sh S P1 ∧ ∀ r T, P1 r T → ∃ v : Int64, r = some (.long v) ∧ ∃ P2, pG M2 d2 a2 sh T P2 ∧ ∀ r2 T2, P2 r2 T2 → r2 = some (.long v) ∧ rel T2 T2
theorem two_hi {S U T : PSt} {e : Nat} (hU : hi S U) (h : fr 15 61 (if e = 0 then U else rfS S e) T) : hi S T := by
  by_cases h0 : e = 0
  · rw [if_pos h0] at h; exact hi_tr hU (hi_fr h)
  · rw [if_neg h0] at h; exact hi_tr (hi_I (by decide)) (hi_fr h)
theorem two_end {N z : Nat} {S U T V T2 : PSt} {e : Nat} (h : reN N z S T) (h1 : fr 15 61 (if e = 0 then U else rfS S e) T) (hV : lo T V) (h2 : frM (if e = 0 then V else rfM T e) T2) (hr : e = 0 → rel U V) : rel T2 T2 := by
  by_cases h0 : e = 0
  · rw [if_pos h0] at h1 h2
    obtain ⟨N1, z1, g⟩ := hr h0
    exact ⟨N1, z1, reN_hi (reN_lo g (lo_tr (lo_fr h1) (lo_tr hV (lo_fm h2)))) (hi_fm h2)⟩
  · rw [if_neg h0] at h1 h2
    exact ⟨N, z, reN_hi (reN_lo (reN_rf (e := e) h) (lo_tr (lo_fr h1) (lo_tr (lo_I (by decide)) (lo_fm h2)))) (hi_fm h2)⟩
theorem two_mk {M1 M2 : PM} {d1 d2 : Nat} {a1 a2 : List Value} {sh : List PSh} {S U : PSt} {e : POut} {N z : Nat} (h : reN N z S S) (hU : hi S U) (hc : pG M1 d1 a1 sh S (pA e S U)) (hm : ∀ T, reN N z S T → ∃ V, pG M2 d2 a2 sh T (mA e T V) ∧ lo T V ∧ (e.1 = 0 → rel U V)) : two M1 M2 d1 d2 a1 a2 sh S := by
  refine ⟨_, hc, fun r T hr => ⟨ansE e.1 e.2, hr.1, ?_⟩⟩
  have hT := reN_hi h (two_hi hU hr.2)
  obtain ⟨V, g1, g2, g3⟩ := hm T hT
  exact ⟨_, g1, fun r2 T2 hr2 => ⟨hr2.1, two_end hT hr.2 g2 hr2.2 g3⟩⟩
theorem two_rd {M1 M2 : PM} {d1 d2 : Nat} {a1 a2 : List Value} {sh : List PSh} {S : PSt} {e : POut} {N z : Nat} (h : reN N z S S) (hc : pG M1 d1 a1 sh S (pA e S S)) (hm : ∀ T, reN N z S T → ∃ e2, e = e2 ∧ pG M2 d2 a2 sh T (mA e2 T T)) : two M1 M2 d1 d2 a1 a2 sh S :=
  two_mk h hi_rf hc fun T hT => by
    obtain ⟨e2, rfl, g⟩ := hm T hT
    exact ⟨T, g, lo_rf, fun _ => ⟨N, z, hT⟩⟩
theorem twoL_rd {M1 M2 : PM} {d1 d2 : Nat} {a1 a2 : List Value} {sh : List PSh} {S : PSt} {e : Nat × Int64} {N z : Nat} (h : reN N z S S) (hc : pG M1 d1 a1 sh S (pAL e S S)) (hm : ∀ T, reN N z S T → ∃ e2, e = e2 ∧ pG M2 d2 a2 sh T (mAL e2 T T)) : twoL M1 M2 d1 d2 a1 a2 sh S := by
  refine ⟨_, hc, fun r T hr => ⟨ansL e.1 e.2, hr.1, ?_⟩⟩
  have hT := reN_hi h (two_hi hi_rf hr.2)
  obtain ⟨e2, rfl, g⟩ := hm T hT
  exact ⟨_, g, fun r2 T2 hr2 => ⟨hr2.1, two_end hT hr.2 lo_rf hr2.2 (fun _ => ⟨N, z, hT⟩)⟩⟩
