/-! the model: inks, sky, apart: written by wip/whole/gen/c47.py -/
abbrev PCe : Type := Bool × Int32 × Int32
def cU (b : Bool) (u : Int32) : Int32 := if b = true then u else -1000
def nU (b : Bool) (t u : Int32) : Int32 := if b = true then mxI t u else t
def nL (b : Bool) (t u : Int32) : Int32 := if b = true then mnI t u else t
theorem nU_e {b : Bool} {t u : Int32} (hne : b = true → u ≠ -1000) (h : cU b u = -1000) : nU b t u = t := by
  cases b
  · rfl
  · exact absurd h (hne rfl)
theorem nL_e {b : Bool} {t u : Int32} (hne : b = true → u ≠ -1000) (h : cU b u = -1000) : nL b t u = t := by
  cases b
  · rfl
  · exact absurd h (hne rfl)
theorem nU_k {b : Bool} {t u : Int32} (h : ¬ cU b u = -1000) (h2 : t ≤ cU b u) : nU b t u = cU b u := by
  cases b
  · exact absurd rfl h
  · show mxI t u = u
    unfold mxI
    have h2 : t ≤ u := h2
    split
    · rfl
    · rename_i h3; exact Int32.le_antisymm h2 (Int32.not_lt.mp h3)
theorem nU_t {b : Bool} {t u : Int32} (h : ¬ cU b u = -1000) (h2 : cU b u < t) : nU b t u = t := by
  cases b
  · exact absurd rfl h
  · show mxI t u = t
    unfold mxI
    have h2 : u < t := h2
    rw [if_neg (fun q => absurd (Int32.lt_trans q h2) Int32.lt_irrefl)]
theorem nL_k {b : Bool} {t u : Int32} (h : ¬ cU b u = -1000) (h2 : cU b u ≤ t) : nL b t u = cU b u := by
  cases b
  · exact absurd rfl h
  · show mnI t u = u
    unfold mnI
    have h2 : u ≤ t := h2
    split
    · rfl
    · rename_i h3; exact Int32.le_antisymm (Int32.not_lt.mp h3) h2
theorem nL_t {b : Bool} {t u : Int32} (h : ¬ cU b u = -1000) (h2 : t < cU b u) : nL b t u = t := by
  cases b
  · exact absurd rfl h
  · show mnI t u = t
    unfold mnI
    have h2 : t < u := h2
    rw [if_neg (fun q => absurd (Int32.lt_trans q h2) Int32.lt_irrefl)]
/-- cells p to e get ink from b to t -/
def upd_ (f : Nat → PCe) (p e : Nat) (t b : Int32) : Nat → PCe := fun y => if p ≤ y ∧ y < e then (true, nU (f y).1 t (f y).2.1, nL (f y).1 b (f y).2.2) else f y
theorem sk_upd {g : Nat → Int32} {w : Int32} {a n k : Nat} : skV g w a n (k + 1) = upd_ (skV g w a n k) (cellV g w a n k).toInt.toNat (inkE (cellV g w a n k) (g (5 * (a + k) + 3))).toInt.toNat (topG g (a + k)) (botG g (a + k)) := rfl
/-- the ink, as told -/
def skS (T : PSt) (f : Nat → PCe) : PSt := (fun c j => if c = 77 ∧ j < 400 then cU (f j).1 (f j).2.1 else if c = 78 ∧ j < 400 then cU (f j).1 (f j).2.2 else T.1 c j, T.2)
def skC (T : PSt) (k : Nat) : PSt := (fun c j => if c = 77 ∧ j < k then -1000 else if c = 78 ∧ j < k then -1000 else T.1 c j, T.2)
theorem skC_0 {T : PSt} : T = skC T 0 := by
  unfold skC
  refine Prod.ext (funext fun c => funext fun j => ?_) rfl
  dsimp only
  rw [if_neg (by omega), if_neg (by omega)]
theorem skC_s {T : PSt} {k : Nat} : pSI (pSI (skC T k) 77 k (-1000)) 78 k (-1000) = skC T (k + 1) := by
  unfold skC pSI pU
  refine Prod.ext (funext fun c => funext fun j => ?_) rfl
  dsimp only
  (repeat' split) <;> first | rfl | (exfalso; omega)
theorem skC_k {T : PSt} {g : Nat → Int32} {w : Int32} {a n : Nat} : skC T 400 = skS T (skV g w a n 0) := by
  unfold skC skS
  refine Prod.ext (funext fun c => funext fun j => ?_) rfl
  dsimp only
  rfl
theorem skS_congr {T : PSt} {f f' : Nat → PCe} (h : ∀ j, j < 400 → f j = f' j) : skS T f = skS T f' := by
  unfold skS
  refine Prod.ext (funext fun c => funext fun j => ?_) rfl
  dsimp only
  by_cases h1 : j < 400
  · rw [h j h1]
  · rw [if_neg (by omega), if_neg (by omega), if_neg (by omega), if_neg (by omega)]
theorem skS_u {T : PSt} {f : Nat → PCe} {q : Nat} (h : q < 400) : (skS T f).1 77 q = cU (f q).1 (f q).2.1 := by
  unfold skS
  dsimp only
  rw [if_pos ⟨rfl, h⟩]
theorem skS_l {T : PSt} {f : Nat → PCe} {q : Nat} (h : q < 400) : (skS T f).1 78 q = cU (f q).1 (f q).2.2 := by
  unfold skS
  dsimp only
  rw [if_neg (by omega), if_pos ⟨rfl, h⟩]
theorem skS_l1 {T : PSt} {f : Nat → PCe} {q i : Nat} {v : Int32} (h : q < 400) : (pSI (skS T f) 77 i v).1 78 q = cU (f q).1 (f q).2.2 := by
  rw [show (pSI (skS T f) 77 i v).1 78 = (skS T f).1 78 from (pU_ne (by decide) : pU (skS T f).1 77 i v 78 = (skS T f).1 78)]
  exact skS_l h
theorem skS_o {T : PSt} {f : Nat → PCe} {c : Nat} (h1 : c ≠ 77) (h2 : c ≠ 78) : (skS T f).1 c = T.1 c := by
  funext j
  unfold skS
  dsimp only
  rw [if_neg (fun q => h1 q.1), if_neg (fun q => h2 q.1)]
theorem skS_g {T : PSt} {f : Nat → PCe} : mG (skS T f) = mG T := by funext j; unfold mG; rw [skS_o (by decide) (by decide)]
theorem skS_g1 {T : PSt} {f : Nat → PCe} {i : Nat} {v : Int32} : mG (pSI (skS T f) 77 i v) = mG T := by
  rw [← skS_g (T := T) (f := f)]
  funext j
  unfold mG
  rw [show (pSI (skS T f) 77 i v).1 71 = (skS T f).1 71 from (pU_ne (by decide) : pU (skS T f).1 77 i v 71 = (skS T f).1 71)]
theorem upd_at {f : Nat → PCe} {p q : Nat} {t b : Int32} : upd_ f p q t b q = f q := if_neg (by omega)
theorem upd_s {T : PSt} {f : Nat → PCe} {p q : Nat} {t b : Int32} (hpq : p ≤ q) (hq : q < 400) : pSI (pSI (skS T (upd_ f p q t b)) 77 q (nU (f q).1 t (f q).2.1)) 78 q (nL (f q).1 b (f q).2.2) = skS T (upd_ f p (q + 1) t b) := by
  unfold skS pSI pU
  refine Prod.ext (funext fun c => funext fun j => ?_) rfl
  dsimp only
  by_cases hj : j = q
  · subst hj
    have e : upd_ f p (j + 1) t b j = (true, nU (f j).1 t (f j).2.1, nL (f j).1 b (f j).2.2) := if_pos ⟨hpq, by omega⟩
    rw [e]
    by_cases h8 : c = 78
    · subst h8
      rw [if_pos ⟨rfl, rfl⟩, if_neg (by omega), if_pos ⟨rfl, hq⟩]
      rfl
    · by_cases h7 : c = 77
      · subst h7
        rw [if_neg (by omega), if_pos ⟨rfl, rfl⟩, if_pos ⟨rfl, hq⟩]
        rfl
      · rw [if_neg (by omega), if_neg (by omega), if_neg (by omega), if_neg (by omega), if_neg (by omega), if_neg (by omega)]
  · have e : upd_ f p (q + 1) t b j = upd_ f p q t b j := by
      unfold upd_
      by_cases h1 : p ≤ j ∧ j < q
      · rw [if_pos h1, if_pos (by omega)]
      · rw [if_neg h1, if_neg (by omega)]
    rw [e, if_neg (fun q9 => hj q9.2), if_neg (fun q9 => hj q9.2)]
theorem upd_e {f : Nat → PCe} {p e q : Nat} {t b : Int32} (h : q = p ∧ e ≤ p ∨ q = e ∧ p ≤ e) : upd_ f p q t b = upd_ f p e t b := by
  funext y
  unfold upd_
  by_cases h1 : p ≤ y ∧ y < q
  · rw [if_pos h1, if_pos (by omega)]
  · rw [if_neg h1, if_neg (by omega)]
theorem upd_0 {f : Nat → PCe} {p : Nat} {t b : Int32} : upd_ f p p t b = f := by
  funext y
  exact if_neg (by omega)
/-- no ink is told as none -/
theorem top_neA : ∀ k, k < 3 → ∀ s, s < 33 → ∀ a, a < 10 → topV (nI k) (nI s - 12) (nI a) ≠ -1000 := by decide +kernel
theorem bot_neA : ∀ k, k < 3 → ∀ s, s < 33 → botV (nI k) (nI s - 12) ≠ -1000 := by decide +kernel
theorem st_of {s : Int32} (h1 : -12 ≤ s.toInt) (h2 : s.toInt ≤ 20) : ∃ j, j < 33 ∧ s = nI j - 12 := by
  refine ⟨(s.toInt + 12).toNat, by omega, Int32.toInt_inj.mp ?_⟩
  have := pk_sub_toInt (a := (s.toInt + 12).toNat) (b := 12) (by omega) (by decide)
  rw [show (12 : Int32) = nI 12 from rfl, this]
  omega
theorem top_ne {g : Nat → Int32} {c : Nat} (h : okC g c) : topG g c ≠ -1000 := by
  obtain ⟨h0, _, h2, _, h4⟩ := h
  obtain ⟨s, hs, es⟩ := st_of h2.1 h2.2
  obtain ⟨a, ha, ea⟩ := i_of_nat (x := g (5 * c + 4)) (lo := 0) (n := 10) h4.1 (by omega) (by decide)
  rw [Nat.zero_add] at ea
  unfold topG
  rw [es, ea]
  rcases h0 with e | e | e
  · rw [e]; exact top_neA 0 (by decide) s hs a ha
  · rw [e]; exact top_neA 1 (by decide) s hs a ha
  · rw [e]; exact top_neA 2 (by decide) s hs a ha
theorem bot_ne {g : Nat → Int32} {c : Nat} (h : okC g c) : botG g c ≠ -1000 := by
  obtain ⟨h0, _, h2, _, h4⟩ := h
  obtain ⟨s, hs, es⟩ := st_of h2.1 h2.2
  unfold botG
  rw [es]
  rcases h0 with e | e | e
  · rw [e]; exact bot_neA 0 (by decide) s hs
  · rw [e]; exact bot_neA 1 (by decide) s hs
  · rw [e]; exact bot_neA 2 (by decide) s hs
theorem sk_ne {g : Nat → Int32} {w : Int32} {a n N : Nat} (hok : okG g N) : ∀ k, a + k ≤ N → ∀ y, (skV g w a n k y).1 = true → (skV g w a n k y).2.1 ≠ -1000 ∧ (skV g w a n k y).2.2 ≠ -1000 := by
  intro k
  induction k with
  | zero => intro _ y h; exact absurd (show false = true from h) (by decide)
  | succ k ih =>
    intro hk y
    have h1 := top_ne (hok (a + k) (by omega))
    have h2 := bot_ne (hok (a + k) (by omega))
    have ih := ih (by omega) y
    rw [sk_upd]
    unfold upd_
    split
    · intro _
      show nU _ _ _ ≠ -1000 ∧ nL _ _ _ ≠ -1000
      unfold nU nL mxI mnI
      by_cases hb : (skV g w a n k y).1 = true
      · rw [if_pos hb, if_pos hb]
        refine ⟨?_, ?_⟩
        · split
          · exact (ih hb).1
          · exact h1
        · split
          · exact (ih hb).2
          · exact h2
      · rw [if_neg hb, if_neg hb]
        exact ⟨h1, h2⟩
    · exact ih
/-- what inks leaves -/
def skM (S : PSt) (x n : Nat) : PSt := skS (lyM S x n) (skV (mG S) (S.1 71 1) x n n)
theorem fm_skS {S T : PSt} {f : Nat → PCe} (h : frM S T) : frM S (skS T f) := by
  refine fm_tr h ⟨fun c h1 h2 => ⟨skS_o (by omega) (by omega), rfl, rfl, rfl⟩, ?_, ?_⟩
  · rw [skS_o (by decide) (by decide)]
  · rw [skS_o (by decide) (by decide)]
theorem fm_sk {S : PSt} {x n : Nat} : frM S (skM S x n) := fm_skS fm_ly
theorem ink_lt {c w : Int32} {q : Nat} (hc : 0 ≤ c.toInt) (hq : q < (inkE c w).toInt.toNat) : ¬ c + w ≤ nI q ∧ q < 400 := by
  have h4 := inkE_le c w
  have hq4 : q < 400 := by omega
  refine ⟨fun h => ?_, hq4⟩
  rw [Int32.le_iff_toInt_le, nI_toInt (by omega)] at h
  unfold inkE mnI at hq h4
  split at hq
  · rename_i h5
    rw [Int32.lt_iff_toInt_lt, show (400 : Int32).toInt = 400 by decide] at h5
    omega
  · omega
theorem ink_ge {c w : Int32} {q : Nat} (hq2 : q < 2 ^ 31) (hq : (inkE c w).toInt.toNat ≤ q) (h : ¬ c + w ≤ nI q) : 400 ≤ q := by
  rw [Int32.le_iff_toInt_le, nI_toInt hq2] at h
  unfold inkE mnI at hq
  split at hq
  · rw [show (400 : Int32).toInt = 400 by decide] at hq; omega
  · omega
theorem cell_pos {g : Nat → Int32} {w : Int32} {a n N k : Nat} (hg : okG g N) (hw : okWd w) (hn : n ≤ 32) (han : a + n ≤ N) (hk : k ≤ n) : 0 ≤ (cellV g w a n k).toInt :=
  f2i_pos (atV_ok hg hw hn han k hk).1 (atV_ok hg hw hn han k hk).2.1
theorem sp_X9_itsG {sh : List PSh} {S : PSt} {g : Nat → Int32} (hg : mG S = g) (hm : isMo sh) {c i : Nat} (hc : c < 32) (hi : i < 5) : pF mX9_its 0 [.ref 70, .int (nI c), .int (nI i)] sh S S (some (.int (g (5 * c + i)))) := by subst hg; exact sp_X9_its hm hc hi
set_option maxRecDepth 100000 in
theorem lp_X9_inksC {n0 : Nat} {X : Nat × (Nat → Int32)} {P : Option Value → PSt → Prop} {d : Nat} (hd9 : 0 ≤ d) {sh : List PSh} (hm : isMo sh) {T : PSt} {x y : Nat}  (hex : ∀ i, pV mX9_inks d n0 X sh P 39 [some (.ref 70), some (.int (nI x)), some (.int (nI y)), some (.int i), none, none] [] (skC T 400)) : ∀ (m k : Nat), k + m = 400 → pV mX9_inks d n0 X sh P 8 [some (.ref 70), some (.int (nI x)), some (.int (nI y)), some (.int (nI k)), none, none] [] (skC T k) := by
  intro m
  induction m with
  | zero =>
    intro k hk
    have hk9 : 400 = k := by omega
    subst hk9
    refine q_iload_n (pc := 8) (j := 3) rfl rfl ?_
    refine q_sipush (pc := 9) 400 rfl (by decide) ?_
    refine q_icmp_ge (pc := 12) 39 rfl (by decide) (fun _ => ?_) (fun h9 => absurd (by decide) h9)
    exact hex _
  | succ m ih =>
    intro k hk
    have hk1 : k < 400 := by omega
    have hk2 : k < 400 := hk1
    refine q_iload_n (pc := 8) (j := 3) rfl rfl ?_
    refine q_sipush (pc := 9) 400 rfl (by decide) ?_
    refine q_icmp_ge (pc := 12) 39 rfl (by decide) (fun h9 => absurd h9 (nI_ge hk1 (by decide))) (fun _ => ?_)
    refine q_aload_n (pc := 15) (j := 0) rfl rfl ?_
    refine q_get (pc := 16) (a := 70) (v := .ref 77) rfl fl_X9_30 hm.1 rfl rfl ?_
    refine q_iload_n (pc := 19) (j := 3) rfl rfl ?_
    refine q_sipush (pc := 20) (-1000) rfl (by decide) ?_
    refine q_iast (pc := 23) (a := 77) k rfl hm.2.2.2.2.2.2.2.1 (vp_in_nI (by omega) (by decide)) (nI_clamp (by omega)) ?_
    refine q_aload_n (pc := 24) (j := 0) rfl rfl ?_
    refine q_get (pc := 25) (a := 70) (v := .ref 78) rfl fl_X9_33 hm.1 rfl rfl ?_
    refine q_iload_n (pc := 28) (j := 3) rfl rfl ?_
    refine q_sipush (pc := 29) (-1000) rfl (by decide) ?_
    refine q_iast (pc := 32) (a := 78) k rfl hm.2.2.2.2.2.2.2.2.1 (vp_in_nI (by omega) (by decide)) (nI_clamp (by omega)) ?_
    refine q_iinc (pc := 33) (j := 3) (n := 1) (nI (k + 1)) [some (.ref 70), some (.int (nI x)), some (.int (nI y)), some (.int (nI (k + 1))), none, none] rfl (by decide) rfl (nI_1 k) rfl ?_
    refine q_goto (pc := 36) 8 rfl (by decide) ?_
    exact q_S skC_s (ih (k + 1) (by omega))
set_option maxRecDepth 100000 in
theorem lp_X9_inksK {n0 : Nat} {X : Nat × (Nat → Int32)} {P : Option Value → PSt → Prop} {d : Nat} (hd9 : 2 ≤ d) {sh : List PSh} {S : PSt} (hm : isMo sh) {x y n N k : Nat} (hi : mIv S N) (hn : x + n = y + 1) (hxy : x ≤ y) (hyN : y < N) (hN2 : N ≤ 32) (hok : okG (mG S) N) (hw : okWd (S.1 71 1)) (hk0 : k < n) (hex : ∀ {i : Int32}, pV mX9_inks d n0 X sh P 187 [some (.ref 70), some (.int (nI x)), some (.int (nI y)), some (.int (nI (x + k))), some (.int (cellV (mG S) (S.1 71 1) x n k)), some (.int i)] [] (skS (lyM S x n) (skV (mG S) (S.1 71 1) x n (k + 1)))) : ∀ (m q : Nat), q + m = max ((cellV (mG S) (S.1 71 1) x n k).toInt.toNat) ((inkE (cellV (mG S) (S.1 71 1) x n k) (mG S (5 * (x + k) + 3))).toInt.toNat) → (cellV (mG S) (S.1 71 1) x n k).toInt.toNat ≤ q → pV mX9_inks d n0 X sh P 59 [some (.ref 70), some (.int (nI x)), some (.int (nI y)), some (.int (nI (x + k))), some (.int (cellV (mG S) (S.1 71 1) x n k)), some (.int (nI q))] [] (skS (lyM S x n) (upd_ (skV (mG S) (S.1 71 1) x n k) ((cellV (mG S) (S.1 71 1) x n k).toInt.toNat) q (topG (mG S) (x + k)) (botG (mG S) (x + k)))) := by
  have hp31 : (cellV (mG S) (S.1 71 1) x n k).toInt.toNat < 2 ^ 31 := by have := Int32.toInt_lt (cellV (mG S) (S.1 71 1) x n k); omega
  have he4 : (inkE (cellV (mG S) (S.1 71 1) x n k) (mG S (5 * (x + k) + 3))).toInt.toNat ≤ 400 := by have := inkE_le (cellV (mG S) (S.1 71 1) x n k) (mG S (5 * (x + k) + 3)); omega
  rw [sk_upd] at hex
  intro m
  induction m with
  | zero =>
    intro q hq hpq
    have hq9 : (inkE (cellV (mG S) (S.1 71 1) x n k) (mG S (5 * (x + k) + 3))).toInt.toNat ≤ q := by omega
    have hqe : q = (cellV (mG S) (S.1 71 1) x n k).toInt.toNat ∧ (inkE (cellV (mG S) (S.1 71 1) x n k) (mG S (5 * (x + k) + 3))).toInt.toNat ≤ (cellV (mG S) (S.1 71 1) x n k).toInt.toNat ∨ q = (inkE (cellV (mG S) (S.1 71 1) x n k) (mG S (5 * (x + k) + 3))).toInt.toNat ∧ (cellV (mG S) (S.1 71 1) x n k).toInt.toNat ≤ (inkE (cellV (mG S) (S.1 71 1) x n k) (mG S (5 * (x + k) + 3))).toInt.toNat := by omega
    refine q_iload (pc := 59) (j := 5) rfl rfl ?_
    refine q_iload (pc := 61) (j := 4) rfl rfl ?_
    refine q_aload_n (pc := 63) (j := 0) rfl rfl ?_
    refine q_iload_n (pc := 64) (j := 3) rfl rfl ?_
    refine q_iconst (pc := 65) 3 rfl (by decide) ?_
    refine q_callV (pc := 66) (as := [.int (nI (x + k)), .int 3]) (rest := [.int (cellV (mG S) (S.1 71 1) x n k), .int (nI q)]) (b := 70) (st2 := [.int ((mG S) (5 * (x + k) + 3)), .int (cellV (mG S) (S.1 71 1) x n k), .int (nI q)]) rfl ce_X9_its ml_X9_124 im_X9_its se_X9_its hm.1 rfl rfl rfl (by omega) (Nat.le_of_ble_eq_true rfl) (sp_X9_itsG (c := (x + k)) (i := 3) (g := (mG S)) (skS_g.trans lyM_g) hm (by omega) (by omega)) rfl ?_
    refine q_iadd (pc := 69) rfl ?_
    refine q_icmp_ge (pc := 70) 187 rfl (by decide) (fun h70 => ?_) (fun h70 => ?_)
    · exact q_S (by rw [upd_e (e := (inkE (cellV (mG S) (S.1 71 1) x n k) (mG S (5 * (x + k) + 3))).toInt.toNat) hqe]) hex
    · refine q_iload (pc := 73) (j := 5) rfl rfl ?_
      refine q_sipush (pc := 75) 400 rfl (by decide) ?_
      refine q_icmp_ge (pc := 78) 187 rfl (by decide) (fun _ => ?_) (fun h9 => absurd (by have h9 := ink_ge (q := q) (by omega) hq9 h70; exact nI_le (a := 400) h9 (by omega)) h9)
      exact q_S (by rw [upd_e (e := (inkE (cellV (mG S) (S.1 71 1) x n k) (mG S (5 * (x + k) + 3))).toInt.toNat) hqe]) hex
  | succ m ih =>
    intro q hq hpq
    have hlt := ink_lt (c := (cellV (mG S) (S.1 71 1) x n k)) (w := (mG S (5 * (x + k) + 3))) (q := q) (cell_pos hok hw (by omega) (by omega) (by omega)) (by omega)
    have hq4 := hlt.2
    have hne1 : ((skV (mG S) (S.1 71 1) x n k) q).1 = true → ((skV (mG S) (S.1 71 1) x n k) q).2.1 ≠ -1000 := fun h9 => (sk_ne hok k (by omega) q h9).1
    have hne2 : ((skV (mG S) (S.1 71 1) x n k) q).1 = true → ((skV (mG S) (S.1 71 1) x n k) q).2.2 ≠ -1000 := fun h9 => (sk_ne hok k (by omega) q h9).2
    refine q_iload (pc := 59) (j := 5) rfl rfl ?_
    refine q_iload (pc := 61) (j := 4) rfl rfl ?_
    refine q_aload_n (pc := 63) (j := 0) rfl rfl ?_
    refine q_iload_n (pc := 64) (j := 3) rfl rfl ?_
    refine q_iconst (pc := 65) 3 rfl (by decide) ?_
    refine q_callV (pc := 66) (as := [.int (nI (x + k)), .int 3]) (rest := [.int (cellV (mG S) (S.1 71 1) x n k), .int (nI q)]) (b := 70) (st2 := [.int ((mG S) (5 * (x + k) + 3)), .int (cellV (mG S) (S.1 71 1) x n k), .int (nI q)]) rfl ce_X9_its ml_X9_124 im_X9_its se_X9_its hm.1 rfl rfl rfl (by omega) (Nat.le_of_ble_eq_true rfl) (sp_X9_itsG (c := (x + k)) (i := 3) (g := (mG S)) (skS_g.trans lyM_g) hm (by omega) (by omega)) rfl ?_
    refine q_iadd (pc := 69) rfl ?_
    refine q_icmp_ge (pc := 70) 187 rfl (by decide) (fun h9 => absurd h9 hlt.1) (fun _ => ?_)
    refine q_iload (pc := 73) (j := 5) rfl rfl ?_
    refine q_sipush (pc := 75) 400 rfl (by decide) ?_
    refine q_icmp_ge (pc := 78) 187 rfl (by decide) (fun h9 => absurd h9 (nI_ge (b := 400) hq4 (by decide))) (fun _ => ?_)
    refine q_aload_n (pc := 81) (j := 0) rfl rfl ?_
    refine q_get (pc := 82) (a := 70) (v := .ref 77) rfl fl_X9_30 hm.1 rfl rfl ?_
    refine q_iload (pc := 85) (j := 5) rfl rfl ?_
    refine q_aload_n (pc := 87) (j := 0) rfl rfl ?_
    refine q_get (pc := 88) (a := 70) (v := .ref 77) rfl fl_X9_30 hm.1 rfl rfl ?_
    refine q_iload (pc := 91) (j := 5) rfl rfl ?_
    refine q_iald (pc := 93) (a := 77) q rfl hm.2.2.2.2.2.2.2.1 (vp_in_nI (by omega) (by decide)) (nI_clamp (by omega)) ?_
    refine q_st (st2 := [.int (cU ((skV (mG S) (S.1 71 1) x n k) q).1 ((skV (mG S) (S.1 71 1) x n k) q).2.1), .int (nI q), .ref 77]) (by rw [(show ((skS (lyM S x n) (upd_ (skV (mG S) (S.1 71 1) x n k) ((cellV (mG S) (S.1 71 1) x n k).toInt.toNat) q (topG (mG S) (x + k)) (botG (mG S) (x + k)))).1 77 q) = (cU ((skV (mG S) (S.1 71 1) x n k) q).1 ((skV (mG S) (S.1 71 1) x n k) q).2.1) from (skS_u hq4).trans (by rw [upd_at]))]) ?_
    refine q_sipush (pc := 94) (-1000) rfl (by decide) ?_
    refine q_join 130 [some (.ref 70), some (.int (nI x)), some (.int (nI y)), some (.int (nI (x + k))), some (.int (cellV (mG S) (S.1 71 1) x n k)), some (.int (nI q))] [.int (nU ((skV (mG S) (S.1 71 1) x n k) q).1 (topG (mG S) (x + k)) ((skV (mG S) (S.1 71 1) x n k) q).2.1), .int (nI q), .ref 77] (skS (lyM S x n) (upd_ (skV (mG S) (S.1 71 1) x n k) ((cellV (mG S) (S.1 71 1) x n k).toInt.toNat) q (topG (mG S) (x + k)) (botG (mG S) (x + k)))) ?_ (fun key97 => ?_)
    · refine q_iast (pc := 130) (a := 77) q rfl hm.2.2.2.2.2.2.2.1 (vp_in_nI (by omega) (by decide)) (nI_clamp (by omega)) ?_
      refine q_aload_n (pc := 131) (j := 0) rfl rfl ?_
      refine q_get (pc := 132) (a := 70) (v := .ref 78) rfl fl_X9_33 hm.1 rfl rfl ?_
      refine q_iload (pc := 135) (j := 5) rfl rfl ?_
      refine q_aload_n (pc := 137) (j := 0) rfl rfl ?_
      refine q_get (pc := 138) (a := 70) (v := .ref 78) rfl fl_X9_33 hm.1 rfl rfl ?_
      refine q_iload (pc := 141) (j := 5) rfl rfl ?_
      refine q_iald (pc := 143) (a := 78) q rfl hm.2.2.2.2.2.2.2.2.1 (vp_in_nI (by omega) (by decide)) (nI_clamp (by omega)) ?_
      refine q_st (st2 := [.int (cU ((skV (mG S) (S.1 71 1) x n k) q).1 ((skV (mG S) (S.1 71 1) x n k) q).2.2), .int (nI q), .ref 78]) (by rw [(show ((pSI (skS (lyM S x n) (upd_ (skV (mG S) (S.1 71 1) x n k) ((cellV (mG S) (S.1 71 1) x n k).toInt.toNat) q (topG (mG S) (x + k)) (botG (mG S) (x + k)))) 77 q (nU ((skV (mG S) (S.1 71 1) x n k) q).1 (topG (mG S) (x + k)) ((skV (mG S) (S.1 71 1) x n k) q).2.1)).1 78 q) = (cU ((skV (mG S) (S.1 71 1) x n k) q).1 ((skV (mG S) (S.1 71 1) x n k) q).2.2) from (skS_l1 hq4).trans (by rw [upd_at]))]) ?_
      refine q_sipush (pc := 144) (-1000) rfl (by decide) ?_
      refine q_join 180 [some (.ref 70), some (.int (nI x)), some (.int (nI y)), some (.int (nI (x + k))), some (.int (cellV (mG S) (S.1 71 1) x n k)), some (.int (nI q))] [.int (nL ((skV (mG S) (S.1 71 1) x n k) q).1 (botG (mG S) (x + k)) ((skV (mG S) (S.1 71 1) x n k) q).2.2), .int (nI q), .ref 78] (pSI (skS (lyM S x n) (upd_ (skV (mG S) (S.1 71 1) x n k) ((cellV (mG S) (S.1 71 1) x n k).toInt.toNat) q (topG (mG S) (x + k)) (botG (mG S) (x + k)))) 77 q (nU ((skV (mG S) (S.1 71 1) x n k) q).1 (topG (mG S) (x + k)) ((skV (mG S) (S.1 71 1) x n k) q).2.1)) ?_ (fun key147 => ?_)
      · refine q_iast (pc := 180) (a := 78) q rfl hm.2.2.2.2.2.2.2.2.1 (vp_in_nI (by omega) (by decide)) (nI_clamp (by omega)) ?_
        refine q_iinc (pc := 181) (j := 5) (n := 1) (nI (q + 1)) [some (.ref 70), some (.int (nI x)), some (.int (nI y)), some (.int (nI (x + k))), some (.int (cellV (mG S) (S.1 71 1) x n k)), some (.int (nI (q + 1)))] rfl (by decide) rfl (nI_1 q) rfl ?_
        refine q_goto (pc := 184) 59 rfl (by decide) ?_
        exact q_S (upd_s (by omega) hq4) (ih (q + 1) (by omega) (by omega))
      · refine q_icmp_eq (pc := 147) 165 rfl (by decide) (fun h147 => ?_) (fun h147 => ?_)
        · refine q_aload_n (pc := 165) (j := 0) rfl rfl ?_
          refine q_iload_n (pc := 166) (j := 3) rfl rfl ?_
          refine q_callV (pc := 167) (as := [.int (nI (x + k))]) (rest := [.int (nI q), .ref 78]) (b := 70) (st2 := [.int (botG (mG S) (x + k)), .int (nI q), .ref 78]) rfl ce_X9_bottom ml_X9_137 im_X9_bottom se_X9_bottom hm.1 rfl rfl rfl (by omega) (Nat.le_of_ble_eq_true rfl) (sp_X9_bottomE (c := (x + k)) (skS_g1.trans lyM_g) hm (by omega) (hok (x + k) (by omega))) rfl ?_
          refine q_goto (pc := 170) 180 rfl (by decide) ?_
          exact q_st (by rw [nL_e hne2 h147]) key147
        · refine q_aload_n (pc := 150) (j := 0) rfl rfl ?_
          refine q_iload_n (pc := 151) (j := 3) rfl rfl ?_
          refine q_callV (pc := 152) (as := [.int (nI (x + k))]) (rest := [.int (nI q), .ref 78]) (b := 70) (st2 := [.int (botG (mG S) (x + k)), .int (nI q), .ref 78]) rfl ce_X9_bottom ml_X9_137 im_X9_bottom se_X9_bottom hm.1 rfl rfl rfl (by omega) (Nat.le_of_ble_eq_true rfl) (sp_X9_bottomE (c := (x + k)) (skS_g1.trans lyM_g) hm (by omega) (hok (x + k) (by omega))) rfl ?_
          refine q_aload_n (pc := 155) (j := 0) rfl rfl ?_
          refine q_get (pc := 156) (a := 70) (v := .ref 78) rfl fl_X9_33 hm.1 rfl rfl ?_
          refine q_iload (pc := 159) (j := 5) rfl rfl ?_
          refine q_iald (pc := 161) (a := 78) q rfl hm.2.2.2.2.2.2.2.2.1 (vp_in_nI (by omega) (by decide)) (nI_clamp (by omega)) ?_
          refine q_st (st2 := [.int (cU ((skV (mG S) (S.1 71 1) x n k) q).1 ((skV (mG S) (S.1 71 1) x n k) q).2.2), .int (botG (mG S) (x + k)), .int (nI q), .ref 78]) (by rw [(show ((pSI (skS (lyM S x n) (upd_ (skV (mG S) (S.1 71 1) x n k) ((cellV (mG S) (S.1 71 1) x n k).toInt.toNat) q (topG (mG S) (x + k)) (botG (mG S) (x + k)))) 77 q (nU ((skV (mG S) (S.1 71 1) x n k) q).1 (topG (mG S) (x + k)) ((skV (mG S) (S.1 71 1) x n k) q).2.1)).1 78 q) = (cU ((skV (mG S) (S.1 71 1) x n k) q).1 ((skV (mG S) (S.1 71 1) x n k) q).2.2) from (skS_l1 hq4).trans (by rw [upd_at]))]) ?_
          refine q_icmp_ge (pc := 162) 173 rfl (by decide) (fun h162 => ?_) (fun h162 => ?_)
          · refine q_aload_n (pc := 173) (j := 0) rfl rfl ?_
            refine q_get (pc := 174) (a := 70) (v := .ref 78) rfl fl_X9_33 hm.1 rfl rfl ?_
            refine q_iload (pc := 177) (j := 5) rfl rfl ?_
            refine q_iald (pc := 179) (a := 78) q rfl hm.2.2.2.2.2.2.2.2.1 (vp_in_nI (by omega) (by decide)) (nI_clamp (by omega)) ?_
            refine q_st (st2 := [.int (cU ((skV (mG S) (S.1 71 1) x n k) q).1 ((skV (mG S) (S.1 71 1) x n k) q).2.2), .int (nI q), .ref 78]) (by rw [(show ((pSI (skS (lyM S x n) (upd_ (skV (mG S) (S.1 71 1) x n k) ((cellV (mG S) (S.1 71 1) x n k).toInt.toNat) q (topG (mG S) (x + k)) (botG (mG S) (x + k)))) 77 q (nU ((skV (mG S) (S.1 71 1) x n k) q).1 (topG (mG S) (x + k)) ((skV (mG S) (S.1 71 1) x n k) q).2.1)).1 78 q) = (cU ((skV (mG S) (S.1 71 1) x n k) q).1 ((skV (mG S) (S.1 71 1) x n k) q).2.2) from (skS_l1 hq4).trans (by rw [upd_at]))]) ?_
            exact q_st (by rw [nL_k h147 h162]) key147
          · refine q_aload_n (pc := 165) (j := 0) rfl rfl ?_
            refine q_iload_n (pc := 166) (j := 3) rfl rfl ?_
            refine q_callV (pc := 167) (as := [.int (nI (x + k))]) (rest := [.int (nI q), .ref 78]) (b := 70) (st2 := [.int (botG (mG S) (x + k)), .int (nI q), .ref 78]) rfl ce_X9_bottom ml_X9_137 im_X9_bottom se_X9_bottom hm.1 rfl rfl rfl (by omega) (Nat.le_of_ble_eq_true rfl) (sp_X9_bottomE (c := (x + k)) (skS_g1.trans lyM_g) hm (by omega) (hok (x + k) (by omega))) rfl ?_
            refine q_goto (pc := 170) 180 rfl (by decide) ?_
            exact q_st (by rw [nL_t h147 (Int32.not_le.mp h162)]) key147
    · refine q_icmp_eq (pc := 97) 115 rfl (by decide) (fun h97 => ?_) (fun h97 => ?_)
      · refine q_aload_n (pc := 115) (j := 0) rfl rfl ?_
        refine q_iload_n (pc := 116) (j := 3) rfl rfl ?_
        refine q_callV (pc := 117) (as := [.int (nI (x + k))]) (rest := [.int (nI q), .ref 77]) (b := 70) (st2 := [.int (topG (mG S) (x + k)), .int (nI q), .ref 77]) rfl ce_X9_top ml_X9_134 im_X9_top se_X9_top hm.1 rfl rfl rfl (by omega) (Nat.le_of_ble_eq_true rfl) (sp_X9_topE (c := (x + k)) (skS_g.trans lyM_g) hm (by omega) (hok (x + k) (by omega))) rfl ?_
        refine q_goto (pc := 120) 130 rfl (by decide) ?_
        exact q_st (by rw [nU_e hne1 h97]) key97
      · refine q_aload_n (pc := 100) (j := 0) rfl rfl ?_
        refine q_iload_n (pc := 101) (j := 3) rfl rfl ?_
        refine q_callV (pc := 102) (as := [.int (nI (x + k))]) (rest := [.int (nI q), .ref 77]) (b := 70) (st2 := [.int (topG (mG S) (x + k)), .int (nI q), .ref 77]) rfl ce_X9_top ml_X9_134 im_X9_top se_X9_top hm.1 rfl rfl rfl (by omega) (Nat.le_of_ble_eq_true rfl) (sp_X9_topE (c := (x + k)) (skS_g.trans lyM_g) hm (by omega) (hok (x + k) (by omega))) rfl ?_
        refine q_aload_n (pc := 105) (j := 0) rfl rfl ?_
        refine q_get (pc := 106) (a := 70) (v := .ref 77) rfl fl_X9_30 hm.1 rfl rfl ?_
        refine q_iload (pc := 109) (j := 5) rfl rfl ?_
        refine q_iald (pc := 111) (a := 77) q rfl hm.2.2.2.2.2.2.2.1 (vp_in_nI (by omega) (by decide)) (nI_clamp (by omega)) ?_
        refine q_st (st2 := [.int (cU ((skV (mG S) (S.1 71 1) x n k) q).1 ((skV (mG S) (S.1 71 1) x n k) q).2.1), .int (topG (mG S) (x + k)), .int (nI q), .ref 77]) (by rw [(show ((skS (lyM S x n) (upd_ (skV (mG S) (S.1 71 1) x n k) ((cellV (mG S) (S.1 71 1) x n k).toInt.toNat) q (topG (mG S) (x + k)) (botG (mG S) (x + k)))).1 77 q) = (cU ((skV (mG S) (S.1 71 1) x n k) q).1 ((skV (mG S) (S.1 71 1) x n k) q).2.1) from (skS_u hq4).trans (by rw [upd_at]))]) ?_
        refine q_icmp_le (pc := 112) 123 rfl (by decide) (fun h112 => ?_) (fun h112 => ?_)
        · refine q_aload_n (pc := 123) (j := 0) rfl rfl ?_
          refine q_get (pc := 124) (a := 70) (v := .ref 77) rfl fl_X9_30 hm.1 rfl rfl ?_
          refine q_iload (pc := 127) (j := 5) rfl rfl ?_
          refine q_iald (pc := 129) (a := 77) q rfl hm.2.2.2.2.2.2.2.1 (vp_in_nI (by omega) (by decide)) (nI_clamp (by omega)) ?_
          refine q_st (st2 := [.int (cU ((skV (mG S) (S.1 71 1) x n k) q).1 ((skV (mG S) (S.1 71 1) x n k) q).2.1), .int (nI q), .ref 77]) (by rw [(show ((skS (lyM S x n) (upd_ (skV (mG S) (S.1 71 1) x n k) ((cellV (mG S) (S.1 71 1) x n k).toInt.toNat) q (topG (mG S) (x + k)) (botG (mG S) (x + k)))).1 77 q) = (cU ((skV (mG S) (S.1 71 1) x n k) q).1 ((skV (mG S) (S.1 71 1) x n k) q).2.1) from (skS_u hq4).trans (by rw [upd_at]))]) ?_
          exact q_st (by rw [nU_k h97 h112]) key97
        · refine q_aload_n (pc := 115) (j := 0) rfl rfl ?_
          refine q_iload_n (pc := 116) (j := 3) rfl rfl ?_
          refine q_callV (pc := 117) (as := [.int (nI (x + k))]) (rest := [.int (nI q), .ref 77]) (b := 70) (st2 := [.int (topG (mG S) (x + k)), .int (nI q), .ref 77]) rfl ce_X9_top ml_X9_134 im_X9_top se_X9_top hm.1 rfl rfl rfl (by omega) (Nat.le_of_ble_eq_true rfl) (sp_X9_topE (c := (x + k)) (skS_g.trans lyM_g) hm (by omega) (hok (x + k) (by omega))) rfl ?_
          refine q_goto (pc := 120) 130 rfl (by decide) ?_
          exact q_st (by rw [nU_t h97 (Int32.not_le.mp h112)]) key97
set_option maxRecDepth 100000 in
theorem lp_X9_inksX {n0 : Nat} {X : Nat × (Nat → Int32)} {P : Option Value → PSt → Prop} {d : Nat} (hd9 : 2 ≤ d) {sh : List PSh} {S : PSt} (hm : isMo sh) {x y n N : Nat} (hi : mIv S N) (hn : x + n = y + 1) (hxy : x ≤ y) (hyN : y < N) (hN2 : N ≤ 32) (hok : okG (mG S) N) (hw : okWd (S.1 71 1))  (hex : ∀ i o4 o5, pV mX9_inks d n0 X sh P 193 [some (.ref 70), some (.int (nI x)), some (.int (nI y)), some (.int i), o4, o5] [] (skS (lyM S x n) (skV (mG S) (S.1 71 1) x n n))) : ∀ (m k : Nat) (o4 o5 : Option Value), k + m = n → pV mX9_inks d n0 X sh P 41 [some (.ref 70), some (.int (nI x)), some (.int (nI y)), some (.int (nI (x + k))), o4, o5] [] (skS (lyM S x n) (skV (mG S) (S.1 71 1) x n k)) := by
  intro m
  induction m with
  | zero =>
    intro k o4 o5 hk
    have hk9 : n = k := by omega
    subst hk9
    refine q_iload_n (pc := 41) (j := 3) rfl rfl ?_
    refine q_iload_n (pc := 42) (j := 2) rfl rfl ?_
    refine q_icmp_gt (pc := 43) 193 rfl (by decide) (fun _ => ?_) (fun h9 => absurd (nI_lt (by omega) (by omega)) h9)
    exact hex _ _ _
  | succ m ih =>
    intro k o4 o5 hk
    have hk1 : k < n := by omega
    have hk2 : k < n := hk1
    refine q_iload_n (pc := 41) (j := 3) rfl rfl ?_
    refine q_iload_n (pc := 42) (j := 2) rfl rfl ?_
    refine q_icmp_gt (pc := 43) 193 rfl (by decide) (fun h9 => absurd h9 (nI_nlt (by omega) (by omega))) (fun _ => ?_)
    refine q_aload_n (pc := 46) (j := 0) rfl rfl ?_
    refine q_get (pc := 47) (a := 70) (v := .ref 76) rfl fl_X9_27 hm.1 rfl rfl ?_
    refine q_iload_n (pc := 50) (j := 3) rfl rfl ?_
    refine q_fald (pc := 51) (a := 76) (x + k) rfl hm.2.2.2.2.2.2.1 (vp_in_nI (by omega) (by decide)) (nI_clamp (by omega)) ?_
    refine q_st (st2 := [.float (atV (mG S) (S.1 71 1) x n k)]) (by rw [(show ((skS (lyM S x n) (skV (mG S) (S.1 71 1) x n k)).2.1 76 (x + k)) = _ from lyM_at hk1)]) ?_
    refine q_f2i (pc := 52) rfl ?_
    refine q_st (st2 := [.int (cellV (mG S) (S.1 71 1) x n k)]) (by rw [show (FP.f2i (atV (mG S) (S.1 71 1) x n k)) = (cellV (mG S) (S.1 71 1) x n k) from rfl]) ?_
    refine q_istore (pc := 53) (j := 4) [some (.ref 70), some (.int (nI x)), some (.int (nI y)), some (.int (nI (x + k))), some (.int (cellV (mG S) (S.1 71 1) x n k)), o5] rfl (by decide) rfl ?_
    refine q_iload (pc := 55) (j := 4) rfl rfl ?_
    refine q_istore (pc := 57) (j := 5) [some (.ref 70), some (.int (nI x)), some (.int (nI y)), some (.int (nI (x + k))), some (.int (cellV (mG S) (S.1 71 1) x n k)), some (.int (cellV (mG S) (S.1 71 1) x n k))] rfl (by decide) rfl ?_
    refine q_L (L2 := [some (.ref 70), some (.int (nI x)), some (.int (nI y)), some (.int (nI (x + k))), some (.int (cellV (mG S) (S.1 71 1) x n k)), some (.int (nI ((cellV (mG S) (S.1 71 1) x n k).toInt.toNat)))]) (by rw [← nI_of0 (x := (cellV (mG S) (S.1 71 1) x n k)) (cell_pos hok hw (by omega) (by omega) (by omega))]) (q_S (show _ = skS (lyM S x n) (upd_ (skV (mG S) (S.1 71 1) x n k) ((cellV (mG S) (S.1 71 1) x n k).toInt.toNat) ((cellV (mG S) (S.1 71 1) x n k).toInt.toNat) (topG (mG S) (x + k)) (botG (mG S) (x + k))) from by rw [upd_0]) (lp_X9_inksK (by omega) hm hi hn hxy hyN hN2 hok hw hk1 (fun {i} => ?_) (max ((cellV (mG S) (S.1 71 1) x n k).toInt.toNat) ((inkE (cellV (mG S) (S.1 71 1) x n k) (mG S (5 * (x + k) + 3))).toInt.toNat) - (cellV (mG S) (S.1 71 1) x n k).toInt.toNat) ((cellV (mG S) (S.1 71 1) x n k).toInt.toNat) (by omega) (Nat.le_refl _)))
    refine q_iinc (pc := 187) (j := 3) (n := 1) (nI (x + (k + 1))) [some (.ref 70), some (.int (nI x)), some (.int (nI y)), some (.int (nI (x + (k + 1)))), some (.int (cellV (mG S) (S.1 71 1) x n k)), some (.int i)] rfl (by decide) rfl (show nI (x + k) + 1 = nI (x + (k + 1)) from nI_1 (x + k)) rfl ?_
    refine q_goto (pc := 190) 41 rfl (by decide) ?_
    exact ih (k + 1) _ _ (by omega)
set_option maxRecDepth 100000 in
theorem sp_X9_inks {sh : List PSh} {S : PSt} (hm : isMo sh) {x y n N : Nat} (hi : mIv S N) (hn : x + n = y + 1) (hxy : x ≤ y) (hyN : y < N) : pF mX9_inks 5 [.ref 70, .int (nI x), .int (nI y)] sh S (skM S x n) (none) := by
  obtain ⟨hN, hN2, hok, hw⟩ := id hi
  refine pF.of (pG.of [some (.ref 70), some (.int (nI x)), some (.int (nI y)), none, none, none] (by decide) tk_X9_inks (Nat.le_of_ble_eq_true rfl) rfl (fun X => ?_))
  refine q_aload_n (pc := 0) (j := 0) rfl rfl ?_
  refine q_iload_n (pc := 1) (j := 1) rfl rfl ?_
  refine q_iload_n (pc := 2) (j := 2) rfl rfl ?_
  refine q_callV (pc := 3) (as := [.int (nI x), .int (nI y)]) (rest := []) (b := 70) (st2 := []) rfl ce_X9_laysOut ml_X9_179 im_X9_laysOut se_X9_laysOut hm.1 rfl rfl rfl (by decide) (Nat.le_of_ble_eq_true rfl) (sp_X9_laysOut hm hn hxy hyN hN2 hok hw) rfl ?_
  refine q_iconst (pc := 6) 0 rfl (by decide) ?_
  refine q_istore_n (pc := 7) (j := 3) [some (.ref 70), some (.int (nI x)), some (.int (nI y)), some (.int 0), none, none] rfl (by decide) rfl ?_
  refine q_S skC_0 (lp_X9_inksC (y := y) (by decide) hm (fun i => ?_) 400 0 rfl)
  refine q_iload_n (pc := 39) (j := 1) rfl rfl ?_
  refine q_istore_n (pc := 40) (j := 3) [some (.ref 70), some (.int (nI x)), some (.int (nI y)), some (.int (nI x)), none, none] rfl (by decide) rfl ?_
  refine q_S (skC_k (g := (mG S)) (w := S.1 71 1) (a := x) (n := n)) (lp_X9_inksX (by decide) hm hi hn hxy hyN hN2 hok hw (fun i o4 o5 => ?_) n 0 none none (Nat.zero_add n))
  exact q_vret (pc := 193) rfl rfl ⟨rfl, rfl⟩
theorem sp_X9_inksI {sh : List PSh} {S : PSt} {N x y : Nat} (hm : isMo sh) (hi : mIv S N) (hxy : x ≤ y) (hyN : y < N) : pF mX9_inks 5 [.ref 70, .int (nI x), .int (nI y)] sh S (skM S x (y - x + 1)) none :=
  sp_X9_inks hm hi (by omega) hxy hyN
theorem skT_u {S T : PSt} {x n q : Nat} (h : frM S T) (hq : q < 400) : (skM T x n).1 77 q = cU (skyV (mG S) (S.1 71 1) x n q).1 (skyV (mG S) (S.1 71 1) x n q).2.1 := by
  unfold skM skyV
  rw [skS_u hq, fm_mG h, fm_w h]
theorem skT_l {S T : PSt} {x n q : Nat} (h : frM S T) (hq : q < 400) : (skM T x n).1 78 q = cU (skyV (mG S) (S.1 71 1) x n q).1 (skyV (mG S) (S.1 71 1) x n q).2.2 := by
  unfold skM skyV
  rw [skS_l hq, fm_mG h, fm_w h]
theorem cU_ok {b : Bool} {u : Int32} (h : ¬ cU b u = -1000) : b = true ∧ cU b u = u := by
  cases b
  · exact absurd rfl h
  · exact ⟨rfl, rfl⟩
theorem cU_no {b : Bool} {u : Int32} (hne : b = true → u ≠ -1000) (h : cU b u = -1000) : ¬ b = true := fun q => by
  subst q
  exact hne rfl h
set_option maxRecDepth 100000 in
theorem sp_X9_sky {sh : List PSh} {S : PSt} {N : Nat} (hm : isMo sh) (hi : mIv S N) {a b side cell : Int32}  : pG mX9_sky 6 [.ref 70, .int a, .int b, .int side, .int cell] sh S (mA (oSky (mG S) (S.1 71 1) N a b side cell) S S) := by
  obtain ⟨hN, hN2, hok, hw⟩ := id hi
  refine pG.of [some (.ref 70), some (.int a), some (.int b), some (.int side), some (.int cell), none] (by decide) tk_X9_sky (Nat.le_of_ble_eq_true rfl) rfl (fun X => ?_)
  refine q_aload_n (pc := 0) (j := 0) rfl rfl ?_
  refine q_iload_n (pc := 1) (j := 1) rfl rfl ?_
  refine q_iload_n (pc := 2) (j := 2) rfl rfl ?_
  refine q_callV (pc := 3) (as := [.int a, .int b]) (rest := []) (b := 70) (st2 := [.int (pB (isStB N a b))]) rfl ce_X9_isStretch ml_X9_176 im_X9_isStretch se_X9_isStretch hm.1 rfl rfl rfl (by decide) (Nat.le_of_ble_eq_true rfl) (sp_X9_isStretch hm hN hN2) rfl ?_
  refine q_if_eq (pc := 6) 32 rfl (by decide) (fun h6 => ?_) (fun h6 => ?_)
  · refine q_aload_n (pc := 32) (j := 0) rfl rfl ?_
    refine q_ldc (pc := 33) (v := (-2147483001)) rfl kc_X9_109 ?_
    refine q_callV (pc := 35) (as := [.int (-2147483001)]) (rest := []) (b := 70) (st2 := [.int (-2147483000 - nI 1)]) rfl ce_X9_errs ml_X9_110 im_X9_errs se_X9_errs hm.1 rfl rfl rfl (by decide) (Nat.le_of_ble_eq_true rfl) (sp_X9_errs (e := 1) hm (by decide) (by decide)) rfl ?_
    exact q_iret (pc := 38) rfl rfl (mA_no (k := 0) (by rw [oSky, if_neg (show ¬ _ = true from by rw [pB_f h6]; decide)]) fm_rf)
  · refine q_iload_n (pc := 9) (j := 3) rfl rfl ?_
    refine q_i2l (pc := 10) rfl ?_
    refine q_lconst (pc := 11) 0 rfl (by decide) ?_
    refine q_lconst (pc := 12) 1 rfl (by decide) ?_
    refine q_callS (pc := 13) (as := [.long (side.toInt64), .long 0, .long 1]) (rest := []) (st2 := [.int (pB (pWi side 0 1))]) rfl ce_X9_in ml_X9_85 st_X9_in rfl (by decide) (Nat.le_of_ble_eq_true rfl) (sp_X9_inW (v := side) (l := 0) (m := 1) (Int32.toInt_toInt64 _) (by decide) (by decide)) rfl ?_
    refine q_if_eq (pc := 16) 32 rfl (by decide) (fun h16 => ?_) (fun h16 => ?_)
    · refine q_aload_n (pc := 32) (j := 0) rfl rfl ?_
      refine q_ldc (pc := 33) (v := (-2147483001)) rfl kc_X9_109 ?_
      refine q_callV (pc := 35) (as := [.int (-2147483001)]) (rest := []) (b := 70) (st2 := [.int (-2147483000 - nI 1)]) rfl ce_X9_errs ml_X9_110 im_X9_errs se_X9_errs hm.1 rfl rfl rfl (by decide) (Nat.le_of_ble_eq_true rfl) (sp_X9_errs (e := 1) hm (by decide) (by decide)) rfl ?_
      exact q_iret (pc := 38) rfl rfl (mA_no (k := 0) (by rw [oSky, if_pos (pB_t h6), if_neg (show ¬ _ = true from by rw [pB_f h16]; decide)]) fm_rf)
    · refine q_iload (pc := 19) (j := 4) rfl rfl ?_
      refine q_i2l (pc := 21) rfl ?_
      refine q_lconst (pc := 22) 0 rfl (by decide) ?_
      refine q_ldc2 (pc := 23) (v := 399) rfl kc_X9_189 ?_
      refine q_callS (pc := 26) (as := [.long (cell.toInt64), .long 0, .long 399]) (rest := []) (st2 := [.int (pB (pWi cell 0 399))]) rfl ce_X9_in ml_X9_85 st_X9_in rfl (by decide) (Nat.le_of_ble_eq_true rfl) (sp_X9_inW (v := cell) (l := 0) (m := 399) (Int32.toInt_toInt64 _) (by decide) (by decide)) rfl ?_
      refine q_if_ne (pc := 29) 39 rfl (by decide) (fun h29 => ?_) (fun h29 => ?_)
      · obtain ⟨x, y, rfl, rfl, hxy, hyN⟩ := isSt_of hN2 (pB_t h6); obtain ⟨q, hq, rfl⟩ := pWi_of (m := 399) (by decide) (by decide) (pB_t h29)
        refine q_aload_n (pc := 39) (j := 0) rfl rfl ?_
        refine q_iload_n (pc := 40) (j := 1) rfl rfl ?_
        refine q_iload_n (pc := 41) (j := 2) rfl rfl ?_
        refine q_callV (pc := 42) (as := [.int (nI x), .int (nI y)]) (rest := []) (b := 70) (st2 := []) rfl ce_X9_inks ml_X9_191 im_X9_inks se_X9_inks hm.1 rfl rfl rfl (by decide) (Nat.le_of_ble_eq_true rfl) (sp_X9_inksI (x := x) (y := y) (N := N) hm hi (by omega) (by omega)) rfl ?_
        refine q_iload_n (pc := 45) (j := 3) rfl rfl ?_
        refine q_if_ne (pc := 46) 59 rfl (by decide) (fun h46 => ?_) (fun h46 => ?_)
        · refine q_aload_n (pc := 59) (j := 0) rfl rfl ?_
          refine q_get (pc := 60) (a := 70) (v := .ref 78) rfl fl_X9_33 hm.1 rfl rfl ?_
          refine q_iload (pc := 63) (j := 4) rfl rfl ?_
          refine q_iald (pc := 65) (a := 78) q rfl hm.2.2.2.2.2.2.2.2.1 (vp_in_nI (by omega) (by decide)) (nI_clamp (by omega)) ?_
          refine q_st (st2 := [.int (cU (skyV (mG S) (S.1 71 1) x (y - x + 1) q).1 (skyV (mG S) (S.1 71 1) x (y - x + 1) q).2.2)]) (by rw [skT_l fm_rf (by omega)]) ?_
          refine q_istore (pc := 66) (j := 5) [some (.ref 70), some (.int (nI x)), some (.int (nI y)), some (.int side), some (.int (nI q)), some (.int (cU (skyV (mG S) (S.1 71 1) x (y - x + 1) q).1 (skyV (mG S) (S.1 71 1) x (y - x + 1) q).2.2))] rfl (by decide) rfl ?_
          refine q_iload (pc := 68) (j := 5) rfl rfl ?_
          refine q_sipush (pc := 70) (-1000) rfl (by decide) ?_
          refine q_icmp_ne (pc := 73) 85 rfl (by decide) (fun h73 => ?_) (fun h73 => ?_)
          · refine q_iload (pc := 85) (j := 5) rfl rfl ?_
            exact q_iret (pc := 87) rfl rfl (mA_ok (by rw [oSky, if_pos (pB_t h6), if_pos (pB_t h16), if_pos (pB_t h29), lnN, tN_nI (show x < 2 ^ 31 by omega), tN_nI (show y < 2 ^ 31 by omega), tN_nI (show q < 2 ^ 31 by omega), if_pos (cU_ok h73).1, if_neg h46, (cU_ok h73).2]) fm_sk)
          · refine q_aload_n (pc := 76) (j := 0) rfl rfl ?_
            refine q_ldc (pc := 77) (v := (-2147483002)) rfl kc_X9_119 ?_
            refine q_callV (pc := 79) (as := [.int (-2147483002)]) (rest := []) (b := 70) (st2 := [.int (-2147483000 - nI 2)]) rfl ce_X9_errs ml_X9_110 im_X9_errs se_X9_errs hm.1 rfl rfl rfl (by decide) (Nat.le_of_ble_eq_true rfl) (sp_X9_errs (e := 2) hm (by decide) (by decide)) rfl ?_
            refine q_goto (pc := 82) 87 rfl (by decide) ?_
            exact q_iret (pc := 87) rfl rfl (mA_no (k := 1) (by rw [oSky, if_pos (pB_t h6), if_pos (pB_t h16), if_pos (pB_t h29), lnN, tN_nI (show x < 2 ^ 31 by omega), tN_nI (show y < 2 ^ 31 by omega), tN_nI (show q < 2 ^ 31 by omega), if_neg (cU_no (b := (skyV (mG S) (S.1 71 1) x (y - x + 1) q).1) (fun h9 => (sk_ne hok (y - x + 1) (by omega) q h9).2) h73)]) (fm_er fm_sk))
        · refine q_aload_n (pc := 49) (j := 0) rfl rfl ?_
          refine q_get (pc := 50) (a := 70) (v := .ref 77) rfl fl_X9_30 hm.1 rfl rfl ?_
          refine q_iload (pc := 53) (j := 4) rfl rfl ?_
          refine q_iald (pc := 55) (a := 77) q rfl hm.2.2.2.2.2.2.2.1 (vp_in_nI (by omega) (by decide)) (nI_clamp (by omega)) ?_
          refine q_goto (pc := 56) 66 rfl (by decide) ?_
          refine q_st (st2 := [.int (cU (skyV (mG S) (S.1 71 1) x (y - x + 1) q).1 (skyV (mG S) (S.1 71 1) x (y - x + 1) q).2.1)]) (by rw [skT_u fm_rf (by omega)]) ?_
          refine q_istore (pc := 66) (j := 5) [some (.ref 70), some (.int (nI x)), some (.int (nI y)), some (.int side), some (.int (nI q)), some (.int (cU (skyV (mG S) (S.1 71 1) x (y - x + 1) q).1 (skyV (mG S) (S.1 71 1) x (y - x + 1) q).2.1))] rfl (by decide) rfl ?_
          refine q_iload (pc := 68) (j := 5) rfl rfl ?_
          refine q_sipush (pc := 70) (-1000) rfl (by decide) ?_
          refine q_icmp_ne (pc := 73) 85 rfl (by decide) (fun h73 => ?_) (fun h73 => ?_)
          · refine q_iload (pc := 85) (j := 5) rfl rfl ?_
            exact q_iret (pc := 87) rfl rfl (mA_ok (by rw [oSky, if_pos (pB_t h6), if_pos (pB_t h16), if_pos (pB_t h29), lnN, tN_nI (show x < 2 ^ 31 by omega), tN_nI (show y < 2 ^ 31 by omega), tN_nI (show q < 2 ^ 31 by omega), if_pos (cU_ok h73).1, if_pos (show side = 0 from h46), (cU_ok h73).2]) fm_sk)
          · refine q_aload_n (pc := 76) (j := 0) rfl rfl ?_
            refine q_ldc (pc := 77) (v := (-2147483002)) rfl kc_X9_119 ?_
            refine q_callV (pc := 79) (as := [.int (-2147483002)]) (rest := []) (b := 70) (st2 := [.int (-2147483000 - nI 2)]) rfl ce_X9_errs ml_X9_110 im_X9_errs se_X9_errs hm.1 rfl rfl rfl (by decide) (Nat.le_of_ble_eq_true rfl) (sp_X9_errs (e := 2) hm (by decide) (by decide)) rfl ?_
            refine q_goto (pc := 82) 87 rfl (by decide) ?_
            exact q_iret (pc := 87) rfl rfl (mA_no (k := 1) (by rw [oSky, if_pos (pB_t h6), if_pos (pB_t h16), if_pos (pB_t h29), lnN, tN_nI (show x < 2 ^ 31 by omega), tN_nI (show y < 2 ^ 31 by omega), tN_nI (show q < 2 ^ 31 by omega), if_neg (cU_no (b := (skyV (mG S) (S.1 71 1) x (y - x + 1) q).1) (fun h9 => (sk_ne hok (y - x + 1) (by omega) q h9).1) h73)]) (fm_er fm_sk))
      · refine q_aload_n (pc := 32) (j := 0) rfl rfl ?_
        refine q_ldc (pc := 33) (v := (-2147483001)) rfl kc_X9_109 ?_
        refine q_callV (pc := 35) (as := [.int (-2147483001)]) (rest := []) (b := 70) (st2 := [.int (-2147483000 - nI 1)]) rfl ce_X9_errs ml_X9_110 im_X9_errs se_X9_errs hm.1 rfl rfl rfl (by decide) (Nat.le_of_ble_eq_true rfl) (sp_X9_errs (e := 1) hm (by decide) (by decide)) rfl ?_
        exact q_iret (pc := 38) rfl rfl (mA_no (k := 0) (by rw [oSky, if_pos (pB_t h6), if_pos (pB_t h16), if_neg (show ¬ _ = true from by rw [pB_f h29]; decide)]) fm_rf)
def asC (T : PSt) (k : Nat) : PSt := (fun c j => if c = 79 ∧ j < k then T.1 78 j else T.1 c j, T.2)
theorem asC_0 {T : PSt} : T = asC T 0 := by
  unfold asC
  refine Prod.ext (funext fun c => funext fun j => ?_) rfl
  dsimp only
  rw [if_neg (by omega)]
theorem asC_s {T : PSt} {k : Nat} : pSI (asC T k) 79 k ((asC T k).1 78 k) = asC T (k + 1) := by
  unfold asC pSI pU
  refine Prod.ext (funext fun c => funext fun j => ?_) rfl
  dsimp only
  by_cases h : c = 79 ∧ j = k
  · rw [if_pos h, if_neg (by omega), if_pos ⟨h.1, by omega⟩, h.2]
  · rw [if_neg h]
    by_cases h2 : c = 79 ∧ j < k
    · rw [if_pos h2, if_pos ⟨h2.1, by omega⟩]
    · rw [if_neg h2, if_neg (by omega)]
theorem asC_o {T : PSt} {k c : Nat} (h : c ≠ 79) : (asC T k).1 c = T.1 c := by
  funext j
  unfold asC
  dsimp only
  rw [if_neg (fun q => h q.1)]
theorem fm_as {T : PSt} {k : Nat} : frM T (asC T k) := by
  refine ⟨fun c h1 h2 => ⟨asC_o (by omega), rfl, rfl, rfl⟩, ?_, ?_⟩
  · rw [asC_o (by decide)]
  · rw [asC_o (by decide)]
theorem skM_o {S : PSt} {x n c : Nat} (h1 : c ≠ 77) (h2 : c ≠ 78) (h3 : c ≠ 74) (h4 : c ≠ 70) : (skM S x n).1 c = S.1 c := by
  unfold skM
  rw [skS_o h1 h2, lyM_o h3 h4]
def apS (S : PSt) (x n x2 n2 : Nat) : PSt := skM (asC (skM S x n) 400) x2 n2
theorem fm_ap {S : PSt} {x n x2 n2 : Nat} : frM S (apS S x n x2 n2) := fm_tr (fm_tr fm_sk fm_as) fm_sk
theorem apS_a {S : PSt} {x n x2 n2 q : Nat} (hq : q < 400) : (apS S x n x2 n2).1 79 q = cU (skyV (mG S) (S.1 71 1) x n q).1 (skyV (mG S) (S.1 71 1) x n q).2.2 := by
  unfold apS
  rw [skM_o (by decide) (by decide) (by decide) (by decide)]
  unfold asC
  dsimp only
  rw [if_pos ⟨rfl, hq⟩]
  exact skT_l fm_rf hq
theorem apS_u {S : PSt} {x n x2 n2 q : Nat} (hq : q < 400) : (apS S x n x2 n2).1 77 q = cU (skyV (mG S) (S.1 71 1) x2 n2 q).1 (skyV (mG S) (S.1 71 1) x2 n2 q).2.1 := by
  unfold apS
  exact skT_u (fm_tr fm_sk fm_as) hq
theorem ds_no1 {s1 s2 : Nat → PCe} {k : Nat} (h : ¬ (s1 k).1 = true) : dsV s1 s2 (k + 1) = dsV s1 s2 k := by rw [dsV, if_neg (fun q => h q.1)]
theorem ds_no2 {s1 s2 : Nat → PCe} {k : Nat} (h : ¬ (s2 k).1 = true) : dsV s1 s2 (k + 1) = dsV s1 s2 k := by rw [dsV, if_neg (fun q => h q.2)]
theorem ds_y {s1 s2 : Nat → PCe} {k : Nat} (h1 : ¬ cU (s1 k).1 (s1 k).2.2 = -1000) (h2 : ¬ cU (s2 k).1 (s2 k).2.1 = -1000) : dsV s1 s2 (k + 1) = mxI (dsV s1 s2 k) (cU (s2 k).1 (s2 k).2.1 - cU (s1 k).1 (s1 k).2.2 + 2) := by
  rw [dsV, if_pos ⟨(cU_ok h1).1, (cU_ok h2).1⟩, (cU_ok h1).2, (cU_ok h2).2]
theorem mx_no {a b : Int32} (h : b ≤ a) : mxI a b = a := by rw [mxI, if_neg (Int32.not_lt.mpr h)]
theorem mx_yes {a b : Int32} (h : ¬ b ≤ a) : mxI a b = b := by rw [mxI, if_pos (Int32.not_le.mp h)]
set_option maxRecDepth 100000 in
theorem lp_X9_apartA {n0 : Nat} {X : Nat × (Nat → Int32)} {P : Option Value → PSt → Prop} {d : Nat} (hd9 : 0 ≤ d) {sh : List PSh} (hm : isMo sh) {T : PSt} {x y z t : Nat}  (hex : ∀ i, pV mX9_apartOf d n0 X sh P 37 [some (.ref 70), some (.int (nI x)), some (.int (nI y)), some (.int (nI z)), some (.int (nI t)), some (.int i), none] [] (asC T 400)) : ∀ (m k : Nat), k + m = 400 → pV mX9_apartOf d n0 X sh P 9 [some (.ref 70), some (.int (nI x)), some (.int (nI y)), some (.int (nI z)), some (.int (nI t)), some (.int (nI k)), none] [] (asC T k) := by
  intro m
  induction m with
  | zero =>
    intro k hk
    have hk9 : 400 = k := by omega
    subst hk9
    refine q_iload (pc := 9) (j := 5) rfl rfl ?_
    refine q_sipush (pc := 11) 400 rfl (by decide) ?_
    refine q_icmp_ge (pc := 14) 37 rfl (by decide) (fun _ => ?_) (fun h9 => absurd (by decide) h9)
    exact hex _
  | succ m ih =>
    intro k hk
    have hk1 : k < 400 := by omega
    have hk2 : k < 400 := hk1
    refine q_iload (pc := 9) (j := 5) rfl rfl ?_
    refine q_sipush (pc := 11) 400 rfl (by decide) ?_
    refine q_icmp_ge (pc := 14) 37 rfl (by decide) (fun h9 => absurd h9 (nI_ge hk1 (by decide))) (fun _ => ?_)
    refine q_aload_n (pc := 17) (j := 0) rfl rfl ?_
    refine q_get (pc := 18) (a := 70) (v := .ref 79) rfl fl_X9_36 hm.1 rfl rfl ?_
    refine q_iload (pc := 21) (j := 5) rfl rfl ?_
    refine q_aload_n (pc := 23) (j := 0) rfl rfl ?_
    refine q_get (pc := 24) (a := 70) (v := .ref 78) rfl fl_X9_33 hm.1 rfl rfl ?_
    refine q_iload (pc := 27) (j := 5) rfl rfl ?_
    refine q_iald (pc := 29) (a := 78) k rfl hm.2.2.2.2.2.2.2.2.1 (vp_in_nI (by omega) (by decide)) (nI_clamp (by omega)) ?_
    refine q_iast (pc := 30) (a := 79) k rfl hm.2.2.2.2.2.2.2.2.2.1 (vp_in_nI (by omega) (by decide)) (nI_clamp (by omega)) ?_
    refine q_iinc (pc := 31) (j := 5) (n := 1) (nI (k + 1)) [some (.ref 70), some (.int (nI x)), some (.int (nI y)), some (.int (nI z)), some (.int (nI t)), some (.int (nI (k + 1))), none] rfl (by decide) rfl (nI_1 k) rfl ?_
    refine q_goto (pc := 34) 9 rfl (by decide) ?_
    exact q_S asC_s (ih (k + 1) (by omega))
set_option maxRecDepth 100000 in
theorem lp_X9_apartD {n0 : Nat} {X : Nat × (Nat → Int32)} {P : Option Value → PSt → Prop} {d : Nat} (hd9 : 0 ≤ d) {sh : List PSh} {S : PSt} (hm : isMo sh) {x y z t N : Nat} (hok : okG (mG S) N) (hxy : x ≤ y) (hyN : y < N) (hzt : z ≤ t) (htN : t < N)  (hex : ∀ i, pV mX9_apartOf d n0 X sh P 132 [some (.ref 70), some (.int (nI x)), some (.int (nI y)), some (.int (nI z)), some (.int (nI t)), some (.int (dsV (skyV (mG S) (S.1 71 1) x (y - x + 1)) (skyV (mG S) (S.1 71 1) z (t - z + 1)) 400)), some (.int i)] [] (apS S x (y - x + 1) z (t - z + 1))) : ∀ (m k : Nat), k + m = 400 → pV mX9_apartOf d n0 X sh P 51 [some (.ref 70), some (.int (nI x)), some (.int (nI y)), some (.int (nI z)), some (.int (nI t)), some (.int (dsV (skyV (mG S) (S.1 71 1) x (y - x + 1)) (skyV (mG S) (S.1 71 1) z (t - z + 1)) k)), some (.int (nI k))] [] (apS S x (y - x + 1) z (t - z + 1)) := by
  intro m
  induction m with
  | zero =>
    intro k hk
    have hk9 : 400 = k := by omega
    subst hk9
    refine q_iload (pc := 51) (j := 6) rfl rfl ?_
    refine q_sipush (pc := 53) 400 rfl (by decide) ?_
    refine q_icmp_ge (pc := 56) 132 rfl (by decide) (fun _ => ?_) (fun h9 => absurd (by decide) h9)
    exact hex _
  | succ m ih =>
    intro k hk
    have hk1 : k < 400 := by omega
    have hk2 : k < 400 := hk1
    refine q_iload (pc := 51) (j := 6) rfl rfl ?_
    refine q_sipush (pc := 53) 400 rfl (by decide) ?_
    refine q_icmp_ge (pc := 56) 132 rfl (by decide) (fun h9 => absurd h9 (nI_ge hk1 (by decide))) (fun _ => ?_)
    refine q_aload_n (pc := 59) (j := 0) rfl rfl ?_
    refine q_get (pc := 60) (a := 70) (v := .ref 79) rfl fl_X9_36 hm.1 rfl rfl ?_
    refine q_iload (pc := 63) (j := 6) rfl rfl ?_
    refine q_iald (pc := 65) (a := 79) k rfl hm.2.2.2.2.2.2.2.2.2.1 (vp_in_nI (by omega) (by decide)) (nI_clamp (by omega)) ?_
    refine q_st (st2 := [.int (cU ((skyV (mG S) (S.1 71 1) x (y - x + 1)) k).1 ((skyV (mG S) (S.1 71 1) x (y - x + 1)) k).2.2)]) (by rw [(show ((apS S x (y - x + 1) z (t - z + 1)).1 79 k) = (cU ((skyV (mG S) (S.1 71 1) x (y - x + 1)) k).1 ((skyV (mG S) (S.1 71 1) x (y - x + 1)) k).2.2) from apS_a hk1)]) ?_
    refine q_sipush (pc := 66) (-1000) rfl (by decide) ?_
    refine q_icmp_eq (pc := 69) 126 rfl (by decide) (fun h69 => ?_) (fun h69 => ?_)
    · refine q_iinc (pc := 126) (j := 6) (n := 1) (nI (k + 1)) [some (.ref 70), some (.int (nI x)), some (.int (nI y)), some (.int (nI z)), some (.int (nI t)), some (.int (dsV (skyV (mG S) (S.1 71 1) x (y - x + 1)) (skyV (mG S) (S.1 71 1) z (t - z + 1)) k)), some (.int (nI (k + 1)))] rfl (by decide) rfl (nI_1 k) rfl ?_
      refine q_goto (pc := 129) 51 rfl (by decide) ?_
      exact q_L (by rw [ds_no1 (s1 := (skyV (mG S) (S.1 71 1) x (y - x + 1))) (cU_no (b := ((skyV (mG S) (S.1 71 1) x (y - x + 1)) k).1) (fun h9 => (sk_ne hok (y - x + 1) (by omega) k h9).2) h69)]) (ih (k + 1) (by omega))
    · refine q_aload_n (pc := 72) (j := 0) rfl rfl ?_
      refine q_get (pc := 73) (a := 70) (v := .ref 77) rfl fl_X9_30 hm.1 rfl rfl ?_
      refine q_iload (pc := 76) (j := 6) rfl rfl ?_
      refine q_iald (pc := 78) (a := 77) k rfl hm.2.2.2.2.2.2.2.1 (vp_in_nI (by omega) (by decide)) (nI_clamp (by omega)) ?_
      refine q_st (st2 := [.int (cU ((skyV (mG S) (S.1 71 1) z (t - z + 1)) k).1 ((skyV (mG S) (S.1 71 1) z (t - z + 1)) k).2.1)]) (by rw [(show ((apS S x (y - x + 1) z (t - z + 1)).1 77 k) = (cU ((skyV (mG S) (S.1 71 1) z (t - z + 1)) k).1 ((skyV (mG S) (S.1 71 1) z (t - z + 1)) k).2.1) from apS_u hk1)]) ?_
      refine q_sipush (pc := 79) (-1000) rfl (by decide) ?_
      refine q_icmp_eq (pc := 82) 126 rfl (by decide) (fun h82 => ?_) (fun h82 => ?_)
      · refine q_iinc (pc := 126) (j := 6) (n := 1) (nI (k + 1)) [some (.ref 70), some (.int (nI x)), some (.int (nI y)), some (.int (nI z)), some (.int (nI t)), some (.int (dsV (skyV (mG S) (S.1 71 1) x (y - x + 1)) (skyV (mG S) (S.1 71 1) z (t - z + 1)) k)), some (.int (nI (k + 1)))] rfl (by decide) rfl (nI_1 k) rfl ?_
        refine q_goto (pc := 129) 51 rfl (by decide) ?_
        exact q_L (by rw [ds_no2 (s2 := (skyV (mG S) (S.1 71 1) z (t - z + 1))) (cU_no (b := ((skyV (mG S) (S.1 71 1) z (t - z + 1)) k).1) (fun h9 => (sk_ne hok (t - z + 1) (by omega) k h9).1) h82)]) (ih (k + 1) (by omega))
      · refine q_aload_n (pc := 85) (j := 0) rfl rfl ?_
        refine q_get (pc := 86) (a := 70) (v := .ref 77) rfl fl_X9_30 hm.1 rfl rfl ?_
        refine q_iload (pc := 89) (j := 6) rfl rfl ?_
        refine q_iald (pc := 91) (a := 77) k rfl hm.2.2.2.2.2.2.2.1 (vp_in_nI (by omega) (by decide)) (nI_clamp (by omega)) ?_
        refine q_st (st2 := [.int (cU ((skyV (mG S) (S.1 71 1) z (t - z + 1)) k).1 ((skyV (mG S) (S.1 71 1) z (t - z + 1)) k).2.1)]) (by rw [(show ((apS S x (y - x + 1) z (t - z + 1)).1 77 k) = (cU ((skyV (mG S) (S.1 71 1) z (t - z + 1)) k).1 ((skyV (mG S) (S.1 71 1) z (t - z + 1)) k).2.1) from apS_u hk1)]) ?_
        refine q_aload_n (pc := 92) (j := 0) rfl rfl ?_
        refine q_get (pc := 93) (a := 70) (v := .ref 79) rfl fl_X9_36 hm.1 rfl rfl ?_
        refine q_iload (pc := 96) (j := 6) rfl rfl ?_
        refine q_iald (pc := 98) (a := 79) k rfl hm.2.2.2.2.2.2.2.2.2.1 (vp_in_nI (by omega) (by decide)) (nI_clamp (by omega)) ?_
        refine q_st (st2 := [.int (cU ((skyV (mG S) (S.1 71 1) x (y - x + 1)) k).1 ((skyV (mG S) (S.1 71 1) x (y - x + 1)) k).2.2), .int (cU ((skyV (mG S) (S.1 71 1) z (t - z + 1)) k).1 ((skyV (mG S) (S.1 71 1) z (t - z + 1)) k).2.1)]) (by rw [(show ((apS S x (y - x + 1) z (t - z + 1)).1 79 k) = (cU ((skyV (mG S) (S.1 71 1) x (y - x + 1)) k).1 ((skyV (mG S) (S.1 71 1) x (y - x + 1)) k).2.2) from apS_a hk1)]) ?_
        refine q_isub (pc := 99) rfl ?_
        refine q_iconst (pc := 100) 2 rfl (by decide) ?_
        refine q_iadd (pc := 101) rfl ?_
        refine q_iload (pc := 102) (j := 5) rfl rfl ?_
        refine q_icmp_le (pc := 104) 126 rfl (by decide) (fun h104 => ?_) (fun h104 => ?_)
        · refine q_iinc (pc := 126) (j := 6) (n := 1) (nI (k + 1)) [some (.ref 70), some (.int (nI x)), some (.int (nI y)), some (.int (nI z)), some (.int (nI t)), some (.int (dsV (skyV (mG S) (S.1 71 1) x (y - x + 1)) (skyV (mG S) (S.1 71 1) z (t - z + 1)) k)), some (.int (nI (k + 1)))] rfl (by decide) rfl (nI_1 k) rfl ?_
          refine q_goto (pc := 129) 51 rfl (by decide) ?_
          exact q_L (by rw [ds_y h69 h82, mx_no h104]) (ih (k + 1) (by omega))
        · refine q_aload_n (pc := 107) (j := 0) rfl rfl ?_
          refine q_get (pc := 108) (a := 70) (v := .ref 77) rfl fl_X9_30 hm.1 rfl rfl ?_
          refine q_iload (pc := 111) (j := 6) rfl rfl ?_
          refine q_iald (pc := 113) (a := 77) k rfl hm.2.2.2.2.2.2.2.1 (vp_in_nI (by omega) (by decide)) (nI_clamp (by omega)) ?_
          refine q_st (st2 := [.int (cU ((skyV (mG S) (S.1 71 1) z (t - z + 1)) k).1 ((skyV (mG S) (S.1 71 1) z (t - z + 1)) k).2.1)]) (by rw [(show ((apS S x (y - x + 1) z (t - z + 1)).1 77 k) = (cU ((skyV (mG S) (S.1 71 1) z (t - z + 1)) k).1 ((skyV (mG S) (S.1 71 1) z (t - z + 1)) k).2.1) from apS_u hk1)]) ?_
          refine q_aload_n (pc := 114) (j := 0) rfl rfl ?_
          refine q_get (pc := 115) (a := 70) (v := .ref 79) rfl fl_X9_36 hm.1 rfl rfl ?_
          refine q_iload (pc := 118) (j := 6) rfl rfl ?_
          refine q_iald (pc := 120) (a := 79) k rfl hm.2.2.2.2.2.2.2.2.2.1 (vp_in_nI (by omega) (by decide)) (nI_clamp (by omega)) ?_
          refine q_st (st2 := [.int (cU ((skyV (mG S) (S.1 71 1) x (y - x + 1)) k).1 ((skyV (mG S) (S.1 71 1) x (y - x + 1)) k).2.2), .int (cU ((skyV (mG S) (S.1 71 1) z (t - z + 1)) k).1 ((skyV (mG S) (S.1 71 1) z (t - z + 1)) k).2.1)]) (by rw [(show ((apS S x (y - x + 1) z (t - z + 1)).1 79 k) = (cU ((skyV (mG S) (S.1 71 1) x (y - x + 1)) k).1 ((skyV (mG S) (S.1 71 1) x (y - x + 1)) k).2.2) from apS_a hk1)]) ?_
          refine q_isub (pc := 121) rfl ?_
          refine q_iconst (pc := 122) 2 rfl (by decide) ?_
          refine q_iadd (pc := 123) rfl ?_
          refine q_istore (pc := 124) (j := 5) [some (.ref 70), some (.int (nI x)), some (.int (nI y)), some (.int (nI z)), some (.int (nI t)), some (.int (((cU ((skyV (mG S) (S.1 71 1) z (t - z + 1)) k).1 ((skyV (mG S) (S.1 71 1) z (t - z + 1)) k).2.1) - (cU ((skyV (mG S) (S.1 71 1) x (y - x + 1)) k).1 ((skyV (mG S) (S.1 71 1) x (y - x + 1)) k).2.2)) + 2)), some (.int (nI k))] rfl (by decide) rfl ?_
          refine q_iinc (pc := 126) (j := 6) (n := 1) (nI (k + 1)) [some (.ref 70), some (.int (nI x)), some (.int (nI y)), some (.int (nI z)), some (.int (nI t)), some (.int (((cU ((skyV (mG S) (S.1 71 1) z (t - z + 1)) k).1 ((skyV (mG S) (S.1 71 1) z (t - z + 1)) k).2.1) - (cU ((skyV (mG S) (S.1 71 1) x (y - x + 1)) k).1 ((skyV (mG S) (S.1 71 1) x (y - x + 1)) k).2.2)) + 2)), some (.int (nI (k + 1)))] rfl (by decide) rfl (nI_1 k) rfl ?_
          refine q_goto (pc := 129) 51 rfl (by decide) ?_
          exact q_L (by rw [ds_y h69 h82, mx_yes h104]) (ih (k + 1) (by omega))
set_option maxRecDepth 100000 in
theorem sp_X9_apartOf {sh : List PSh} {S : PSt} {N x y z t : Nat} (hm : isMo sh) (hi : mIv S N) (hxy : x ≤ y) (hyN : y < N) (hzt : z ≤ t) (htN : t < N) : pF mX9_apartOf 6 [.ref 70, .int (nI x), .int (nI y), .int (nI z), .int (nI t)] sh S (apS S x (y - x + 1) z (t - z + 1)) (some (.int (apV (mG S) (S.1 71 1) x (y - x + 1) z (t - z + 1)))) := by
  obtain ⟨hN, hN2, hok, hw⟩ := id hi
  refine pF.of (pG.of [some (.ref 70), some (.int (nI x)), some (.int (nI y)), some (.int (nI z)), some (.int (nI t)), none, none] (by decide) tk_X9_apartOf (Nat.le_of_ble_eq_true rfl) rfl (fun X => ?_))
  refine q_aload_n (pc := 0) (j := 0) rfl rfl ?_
  refine q_iload_n (pc := 1) (j := 1) rfl rfl ?_
  refine q_iload_n (pc := 2) (j := 2) rfl rfl ?_
  refine q_callV (pc := 3) (as := [.int (nI x), .int (nI y)]) (rest := []) (b := 70) (st2 := []) rfl ce_X9_inks ml_X9_191 im_X9_inks se_X9_inks hm.1 rfl rfl rfl (by decide) (Nat.le_of_ble_eq_true rfl) (sp_X9_inksI (x := x) (y := y) (N := N) hm hi (by omega) (by omega)) rfl ?_
  refine q_iconst (pc := 6) 0 rfl (by decide) ?_
  refine q_istore (pc := 7) (j := 5) [some (.ref 70), some (.int (nI x)), some (.int (nI y)), some (.int (nI z)), some (.int (nI t)), some (.int 0), none] rfl (by decide) rfl ?_
  refine q_S asC_0 (lp_X9_apartA (x := x) (y := y) (z := z) (t := t) (by decide) hm (fun i => ?_) 400 0 rfl)
  refine q_aload_n (pc := 37) (j := 0) rfl rfl ?_
  refine q_iload_n (pc := 38) (j := 3) rfl rfl ?_
  refine q_iload (pc := 39) (j := 4) rfl rfl ?_
  refine q_callV (pc := 41) (as := [.int (nI z), .int (nI t)]) (rest := []) (b := 70) (st2 := []) rfl ce_X9_inks ml_X9_191 im_X9_inks se_X9_inks hm.1 rfl rfl rfl (by decide) (Nat.le_of_ble_eq_true rfl) (sp_X9_inksI (x := z) (y := t) (N := N) hm (fm_iv (fm_tr fm_sk fm_as) hi) (by omega) (by omega)) rfl ?_
  refine q_bipush (pc := 44) 8 rfl (by decide) ?_
  refine q_istore (pc := 46) (j := 5) [some (.ref 70), some (.int (nI x)), some (.int (nI y)), some (.int (nI z)), some (.int (nI t)), some (.int 8), none] rfl (by decide) rfl ?_
  refine q_iconst (pc := 48) 0 rfl (by decide) ?_
  refine q_istore (pc := 49) (j := 6) [some (.ref 70), some (.int (nI x)), some (.int (nI y)), some (.int (nI z)), some (.int (nI t)), some (.int 8), some (.int 0)] rfl (by decide) rfl ?_
  refine q_S (show _ = (apS S x (y - x + 1) z (t - z + 1)) from rfl) (lp_X9_apartD (by decide) hm hok hxy hyN hzt htN (fun i => ?_) 400 0 rfl)
  refine q_iload (pc := 132) (j := 5) rfl rfl ?_
  exact q_iret (pc := 134) rfl rfl ⟨rfl, rfl⟩
set_option maxRecDepth 100000 in
theorem sp_X9_apart {sh : List PSh} {S : PSt} {N : Nat} (hm : isMo sh) (hi : mIv S N) {a b c e : Int32}  : pG mX9_apart 7 [.ref 70, .int a, .int b, .int c, .int e] sh S (mA (oApart (mG S) (S.1 71 1) N a b c e) S S) := by
  obtain ⟨hN, hN2, hok, hw⟩ := id hi
  refine pG.of [some (.ref 70), some (.int a), some (.int b), some (.int c), some (.int e)] (by decide) tk_X9_apart (Nat.le_of_ble_eq_true rfl) rfl (fun X => ?_)
  refine q_aload_n (pc := 0) (j := 0) rfl rfl ?_
  refine q_iload_n (pc := 1) (j := 1) rfl rfl ?_
  refine q_iload_n (pc := 2) (j := 2) rfl rfl ?_
  refine q_callV (pc := 3) (as := [.int a, .int b]) (rest := []) (b := 70) (st2 := [.int (pB (isStB N a b))]) rfl ce_X9_isStretch ml_X9_176 im_X9_isStretch se_X9_isStretch hm.1 rfl rfl rfl (by decide) (Nat.le_of_ble_eq_true rfl) (sp_X9_isStretch hm hN hN2) rfl ?_
  refine q_if_eq (pc := 6) 31 rfl (by decide) (fun h6 => ?_) (fun h6 => ?_)
  · refine q_aload_n (pc := 31) (j := 0) rfl rfl ?_
    refine q_ldc (pc := 32) (v := (-2147483001)) rfl kc_X9_109 ?_
    refine q_callV (pc := 34) (as := [.int (-2147483001)]) (rest := []) (b := 70) (st2 := [.int (-2147483000 - nI 1)]) rfl ce_X9_errs ml_X9_110 im_X9_errs se_X9_errs hm.1 rfl rfl rfl (by decide) (Nat.le_of_ble_eq_true rfl) (sp_X9_errs (e := 1) hm (by decide) (by decide)) rfl ?_
    exact q_iret (pc := 37) rfl rfl (mA_no (k := 0) (by rw [oApart, if_neg (show ¬ _ = true from by rw [pB_f h6]; decide)]) fm_rf)
  · refine q_aload_n (pc := 9) (j := 0) rfl rfl ?_
    refine q_iload_n (pc := 10) (j := 3) rfl rfl ?_
    refine q_iload (pc := 11) (j := 4) rfl rfl ?_
    refine q_callV (pc := 13) (as := [.int c, .int e]) (rest := []) (b := 70) (st2 := [.int (pB (isStB N c e))]) rfl ce_X9_isStretch ml_X9_176 im_X9_isStretch se_X9_isStretch hm.1 rfl rfl rfl (by decide) (Nat.le_of_ble_eq_true rfl) (sp_X9_isStretch hm hN hN2) rfl ?_
    refine q_if_eq (pc := 16) 31 rfl (by decide) (fun h16 => ?_) (fun h16 => ?_)
    · refine q_aload_n (pc := 31) (j := 0) rfl rfl ?_
      refine q_ldc (pc := 32) (v := (-2147483001)) rfl kc_X9_109 ?_
      refine q_callV (pc := 34) (as := [.int (-2147483001)]) (rest := []) (b := 70) (st2 := [.int (-2147483000 - nI 1)]) rfl ce_X9_errs ml_X9_110 im_X9_errs se_X9_errs hm.1 rfl rfl rfl (by decide) (Nat.le_of_ble_eq_true rfl) (sp_X9_errs (e := 1) hm (by decide) (by decide)) rfl ?_
      exact q_iret (pc := 37) rfl rfl (mA_no (k := 0) (by rw [oApart, if_pos (pB_t h6), if_neg (show ¬ _ = true from by rw [pB_f h16]; decide)]) fm_rf)
    · obtain ⟨x, y, rfl, rfl, hxy, hyN⟩ := isSt_of hN2 (pB_t h6); obtain ⟨z, t, rfl, rfl, hzt, htN⟩ := isSt_of hN2 (pB_t h16)
      refine q_aload_n (pc := 19) (j := 0) rfl rfl ?_
      refine q_iload_n (pc := 20) (j := 1) rfl rfl ?_
      refine q_iload_n (pc := 21) (j := 2) rfl rfl ?_
      refine q_iload_n (pc := 22) (j := 3) rfl rfl ?_
      refine q_iload (pc := 23) (j := 4) rfl rfl ?_
      refine q_callV (pc := 25) (as := [.int (nI x), .int (nI y), .int (nI z), .int (nI t)]) (rest := []) (b := 70) (st2 := [.int (apV (mG S) (S.1 71 1) x (y - x + 1) z (t - z + 1))]) rfl ce_X9_apartOf ml_X9_194 im_X9_apartOf se_X9_apartOf hm.1 rfl rfl rfl (by decide) (Nat.le_of_ble_eq_true rfl) (sp_X9_apartOf (N := N) (x := x) (y := y) (z := z) (t := t) hm hi (by omega) (by omega) (by omega) (by omega)) rfl ?_
      refine q_goto (pc := 28) 37 rfl (by decide) ?_
      exact q_iret (pc := 37) rfl rfl (mA_ok (by rw [oApart, if_pos (pB_t h6), if_pos (pB_t h16), lnN, tN_nI (show x < 2 ^ 31 by omega), tN_nI (show y < 2 ^ 31 by omega), lnN, tN_nI (show z < 2 ^ 31 by omega), tN_nI (show t < 2 ^ 31 by omega)]) fm_ap)
