/-! the model: a stretch is laid out: written by wip/whole/gen/c45.py -/
theorem sp_X9_topE {sh : List PSh} {S : PSt} {g : Nat → Int32} (hg : mG S = g) (hm : isMo sh) {c : Nat} (hc : c < 32) (hok : okC g c) : pF mX9_top 1 [.ref 70, .int (nI c)] sh S S (some (.int (topG g c))) := by subst hg; exact sp_X9_top hm hc hok.1
theorem sp_X9_bottomE {sh : List PSh} {S : PSt} {g : Nat → Int32} (hg : mG S = g) (hm : isMo sh) {c : Nat} (hc : c < 32) (hok : okC g c) : pF mX9_bottom 1 [.ref 70, .int (nI c)] sh S S (some (.int (botG g c))) := by subst hg; exact sp_X9_bottom hm hc hok.1
theorem sp_X9_idealE {sh : List PSh} {S : PSt} {g : Nat → Int32} (hg : mG S = g) (hm : isMo sh) {c : Nat} (hc : c < 32) (hok : okC g c) : pF mX9_ideal 1 [.ref 70, .int (nI c)] sh S S (some (.float (idG g c))) := by subst hg; exact sp_X9_ideal hm hc hok
theorem sp_X9_flexE {sh : List PSh} {S : PSt} {g : Nat → Int32} (hg : mG S = g) (hm : isMo sh) {c : Nat} (hc : c < 32) (hok : okC g c) : pF mX9_flex 2 [.ref 70, .int (nI c)] sh S S (some (.float (flG g c))) := by subst hg; exact sp_X9_flex hm hc hok
theorem sp_X9_rodE {sh : List PSh} {S : PSt} {g : Nat → Int32} (hg : mG S = g) (hm : isMo sh) {c : Nat} (hc : c < 32) (hok : okC g c) : pF mX9_rod 1 [.ref 70, .int (nI c)] sh S S (some (.float (roG g c))) := by subst hg; exact sp_X9_rod hm hc hok
theorem sp_X9_itsE {sh : List PSh} {S : PSt} {g : Nat → Int32} (hg : mG S = g) (hm : isMo sh) {c i : Nat} (hc : c < 32) (hi : i < 5) : pF mX9_its 0 [.ref 70, .int (nI c), .int (nI i)] sh S S (some (.int (mG S (5 * c + i)))) := sp_X9_its hm hc hi
theorem nyx {x y n : Nat} (hn : x + n = y + 1) (h0 : x ≤ y) : nI y - nI x + 1 = nI n := by rw [pk_sub h0, nI_1, show y - x + 1 = n by omega]
theorem bs_s {h : Nat → Bool} {b : Bool} {f : Nat → UInt32} {k : Nat} (e : h k = b) : bsum h b f (k + 1) = FP.fadd (bsum h b f k) (f k) := by rw [bsum, if_pos e]
theorem bs_n {h : Nat → Bool} {b : Bool} {f : Nat → UInt32} {k : Nat} (e : h k = !b) : bsum h b f (k + 1) = bsum h b f k := by rw [bsum, if_neg (by rw [e]; cases b <;> decide)]
theorem pSF_2 {S : PSt} {a j : Nat} {u v : UInt32} : pSF (pSF S a j u) a j v = pSF S a j v := by
  unfold pSF
  refine Prod.ext rfl (Prod.ext (funext fun c => funext fun i => ?_) rfl)
  dsimp only
  unfold pU
  split <;> rfl
theorem bal_gt {W : UInt32} {ids fls rods : Nat → UInt32} {n : Nat} (H : spK W ids fls rods n) {h : Nat → Bool} (hc : ¬ cntH h n = n) : fgt (bsum h false fls n) FP.fconst0 = true := by
  refine (bal_pos H h).mpr ?_
  by_cases he : ∃ j, j < n ∧ h j = false
  · exact he
  · exfalso
    have h1 : ∀ k, k ≤ n → cntH h k = k := by
      intro k
      induction k with
      | zero => intro _; rfl
      | succ k ih =>
        intro hk
        unfold cntH
        rw [if_pos (show h k = true from by cases e : h k; exact absurd ⟨k, by omega, e⟩ he; rfl), ih (by omega)]
    exact hc (h1 n (Nat.le_refl n))
theorem bal_0 {W : UInt32} {ids fls rods : Nat → UInt32} {n : Nat} (H : spK W ids fls rods n) {h : Nat → Bool} (hc : cntH h n = n) : balF W ids fls rods h n = FP.fconst0 := by
  unfold balF
  rw [if_neg]
  intro q9
  obtain ⟨j, hj, e⟩ := (bal_pos H h).mp q9
  have := cntH_all (Nat.le_of_eq hc.symm) j hj
  rw [e] at this
  exact absurd this (by decide)
/-- with the held told, and the force -/
def mLh (S : PSt) (x n : Nat) (h : Nat → Bool) (f : UInt32) : PSt := (fun c j => if c = 74 ∧ x ≤ j ∧ j < x + n then pB (h (j - x)) else if c = 70 ∧ j = 5 then nI (cntH h n) else S.1 c j, fun c j => if c = 70 ∧ j = 4 then f else S.2.1 c j, S.2.2)
/-- the first k are free -/
def mCl (S : PSt) (x k : Nat) : PSt := (fun c j => if c = 74 ∧ x ≤ j ∧ j < x + k then 0 else if c = 70 ∧ j = 5 then 0 else S.1 c j, S.2)
theorem mCl_0 {S : PSt} {x : Nat} : pSI S 70 5 0 = mCl S x 0 := by
  unfold mCl pSI pU
  refine Prod.ext (funext fun c => funext fun j => ?_) rfl
  dsimp only
  rw [if_neg (show ¬ (c = 74 ∧ x ≤ j ∧ j < x + 0) by omega)]
theorem mCl_s {S : PSt} {x k : Nat} : pSI (mCl S x k) 74 (x + k) 0 = mCl S x (k + 1) := by
  unfold mCl pSI pU
  refine Prod.ext (funext fun c => funext fun j => ?_) rfl
  dsimp only
  (repeat' split) <;> first | rfl | (exfalso; omega)
theorem mCl_L {S : PSt} {x n : Nat} : mCl S x n = mLh S x n (fun _ => false) (S.2.1 70 4) := by
  unfold mCl mLh
  refine Prod.ext (funext fun c => funext fun j => ?_) (Prod.ext (funext fun c => funext fun j => ?_) rfl)
  · dsimp only
    rw [cntH_none]
    rfl
  · dsimp only
    split
    · rename_i e; rw [e.1, e.2]
    · rfl
theorem mLh_F {S : PSt} {x n : Nat} {h : Nat → Bool} {f v : UInt32} : pSF (mLh S x n h f) 70 4 v = mLh S x n h v := by
  unfold mLh pSF pU
  refine Prod.ext rfl (Prod.ext (funext fun c => funext fun j => ?_) rfl)
  dsimp only
  (repeat' split) <;> first | rfl | (exfalso; omega)
theorem mLh_congr {S : PSt} {x n : Nat} {h h' : Nat → Bool} {f : UInt32} (e : ∀ j, j < n → h j = h' j) : mLh S x n h f = mLh S x n h' f := by
  unfold mLh
  rw [cntH_congr e]
  refine Prod.ext (funext fun c => funext fun j => ?_) rfl
  dsimp only
  split
  · rename_i q; rw [e (j - x) (by omega)]
  · rfl
theorem mLh_h {S : PSt} {x n k : Nat} {h : Nat → Bool} {f : UInt32} (hk : k < n) : (mLh S x n h f).1 74 (x + k) = pB (h k) := by
  unfold mLh
  dsimp only
  rw [if_pos ⟨rfl, by omega, by omega⟩, Nat.add_sub_cancel_left]
theorem mLh_c {S : PSt} {x n : Nat} {h : Nat → Bool} {f : UInt32} : (mLh S x n h f).1 70 5 = nI (cntH h n) := by
  unfold mLh
  dsimp only
  rw [if_neg (by omega), if_pos ⟨rfl, rfl⟩]
theorem mLh_f {S : PSt} {x n : Nat} {h : Nat → Bool} {f : UInt32} : (mLh S x n h f).2.1 70 4 = f := by
  unfold mLh
  dsimp only
  rw [if_pos ⟨rfl, rfl⟩]
theorem mLh_o {S : PSt} {x n c : Nat} {h : Nat → Bool} {f : UInt32} (h1 : c ≠ 74) (h2 : c ≠ 70) : (mLh S x n h f).1 c = S.1 c := by
  funext j
  unfold mLh
  dsimp only
  rw [if_neg (fun q => h1 q.1), if_neg (fun q => h2 q.1)]
theorem mLh_g {S : PSt} {x n : Nat} {h : Nat → Bool} {f : UInt32} : mG (mLh S x n h f) = mG S := by funext j; unfold mG; rw [mLh_o (by decide) (by decide)]
/-- the first k looked at -/
def hsV (h w : Nat → Bool) (k j : Nat) : Bool := h j || (decide (j < k) && w j)
theorem hsV_0 {h w : Nat → Bool} : hsV h w 0 = h := by funext j; unfold hsV; simp
theorem hsV_at {h w : Nat → Bool} {k : Nat} : hsV h w k k = h k := by unfold hsV; simp
theorem hsV_n {h w : Nat → Bool} {k : Nat} (e : w k = false) : hsV h w (k + 1) = hsV h w k := by
  funext j
  unfold hsV
  by_cases hj : j = k
  · subst hj; rw [e]; simp
  · rw [show decide (j < k + 1) = decide (j < k) from decide_eq_decide.mpr (by omega)]
theorem cnt_1 {h h' : Nat → Bool} {i : Nat} (e : ∀ j, j ≠ i → h' j = h j) (h0 : h i = false) (h1 : h' i = true) : ∀ {n : Nat}, cntH h' n = if i < n then cntH h n + 1 else cntH h n := by
  intro n
  induction n with
  | zero => rfl
  | succ n ih =>
    by_cases hn : i = n
    · subst hn
      have e2 : cntH h' i = cntH h i := cntH_congr fun j hj => e j (by omega)
      rw [if_pos (by omega)]
      unfold cntH
      rw [if_pos h1, if_neg (by rw [h0]; decide), e2]
    · unfold cntH
      rw [e n (fun q => hn q.symm), ih]
      by_cases h2 : i < n
      · rw [if_pos h2, if_pos (show i < n + 1 by omega)]; split <;> omega
      · rw [if_neg h2, if_neg (show ¬ i < n + 1 by omega)]
theorem mLh_y {S : PSt} {x n k : Nat} {h w : Nat → Bool} {f : UInt32} (hk : k < n) (h0 : h k = false) (e : w k = true) : pSI (pSI (mLh S x n (hsV h w k) f) 74 (x + k) 1) 70 5 ((mLh S x n (hsV h w k) f).1 70 5 + 1) = mLh S x n (hsV h w (k + 1)) f := by
  have ec : cntH (hsV h w (k + 1)) n = cntH (hsV h w k) n + 1 := by
    have := cnt_1 (h := hsV h w k) (h' := hsV h w (k + 1)) (i := k) (fun j hj => by unfold hsV; rw [show decide (j < k + 1) = decide (j < k) from decide_eq_decide.mpr (by omega)]) (by rw [hsV_at]; exact h0) (by unfold hsV; rw [e]; simp) (n := n)
    rw [this, if_pos hk]
  rw [mLh_c, nI_1]
  unfold mLh pSI pU
  rw [ec]
  refine Prod.ext (funext fun c => funext fun j => ?_) rfl
  dsimp only
  by_cases h5 : c = 70 ∧ j = 5
  · rw [if_pos h5, if_neg (by omega), if_pos h5]
  · rw [if_neg h5, if_neg h5, if_neg h5]
    by_cases h7 : c = 74 ∧ j = x + k
    · rw [if_pos h7, if_pos ⟨h7.1, by omega, by omega⟩, h7.2, Nat.add_sub_cancel_left]
      unfold hsV
      rw [e]
      simp [pB]
    · rw [if_neg h7]
      by_cases h8 : c = 74 ∧ x ≤ j ∧ j < x + n
      · rw [if_pos h8, if_pos h8]
        unfold hsV
        rw [show decide (j - x < k + 1) = decide (j - x < k) from decide_eq_decide.mpr (by omega)]
      · rw [if_neg h8, if_neg h8]
/-- the first k lengths and places -/
def mLl (T : PSt) (x k : Nat) (L : Nat → UInt32) : PSt := (T.1, fun c j => if c = 75 ∧ x ≤ j ∧ j < x + k then L (j - x) else if c = 76 ∧ x ≤ j ∧ j < x + k then sumF L (j - x) else T.2.1 c j, T.2.2)
theorem mLl_0 {T : PSt} {x : Nat} {L : Nat → UInt32} : mLl T x 0 L = T := by
  unfold mLl
  refine Prod.ext rfl (Prod.ext (funext fun c => funext fun j => ?_) rfl)
  dsimp only
  rw [if_neg (by omega), if_neg (by omega)]
theorem mLl_s {T : PSt} {x k : Nat} {L : Nat → UInt32} : pSF (pSF (mLl T x k L) 75 (x + k) (L k)) 76 (x + k) (sumF L k) = mLl T x (k + 1) L := by
  unfold mLl pSF pU
  refine Prod.ext rfl (Prod.ext (funext fun c => funext fun j => ?_) rfl)
  dsimp only
  by_cases h1 : c = 76 ∧ j = x + k
  · rw [if_pos h1, if_neg (by omega), if_pos ⟨h1.1, by omega, by omega⟩, h1.2, Nat.add_sub_cancel_left]
  · rw [if_neg h1]
    by_cases h2 : c = 75 ∧ j = x + k
    · rw [if_pos h2, if_pos ⟨h2.1, by omega, by omega⟩, h2.2, Nat.add_sub_cancel_left]
    · rw [if_neg h2]
      by_cases h3 : c = 75 ∧ x ≤ j ∧ j < x + k
      · rw [if_pos h3, if_pos ⟨h3.1, h3.2.1, by omega⟩]
      · rw [if_neg h3, if_neg (show ¬ (c = 75 ∧ x ≤ j ∧ j < x + (k + 1)) by omega)]
        by_cases h4 : c = 76 ∧ x ≤ j ∧ j < x + k
        · rw [if_pos h4, if_pos ⟨h4.1, h4.2.1, by omega⟩]
        · rw [if_neg h4, if_neg (show ¬ (c = 76 ∧ x ≤ j ∧ j < x + (k + 1)) by omega)]
theorem mLl_L {T : PSt} {x k : Nat} {L : Nat → UInt32} {v : UInt32} : (pSF (pSF (mLl T x k L) 75 (x + k) v) 76 (x + k) (sumF L k)).2.1 75 (x + k) = v := by simp [pSF, pU]
theorem mLl_f {T : PSt} {x k : Nat} {L : Nat → UInt32} : (mLl T x k L).2.1 70 4 = T.2.1 70 4 := by
  unfold mLl
  dsimp only
  rw [if_neg (by omega), if_neg (by omega)]
/-- what laysOut leaves -/
def lyM (S : PSt) (x n : Nat) : PSt := mLl (mLh S x n (setV (mG S) (S.1 71 1) x n).1 (setV (mG S) (S.1 71 1) x n).2) x n (lenV (mG S) (S.1 71 1) x n)
theorem lyM_g {S : PSt} {x n : Nat} : mG (lyM S x n) = mG S := (show mG (mLh S x n (setV (mG S) (S.1 71 1) x n).1 (setV (mG S) (S.1 71 1) x n).2) = mG S from mLh_g)
theorem lyM_o {S : PSt} {x n c : Nat} (h1 : c ≠ 74) (h2 : c ≠ 70) : (lyM S x n).1 c = S.1 c := (show (mLh S x n (setV (mG S) (S.1 71 1) x n).1 (setV (mG S) (S.1 71 1) x n).2).1 c = S.1 c from mLh_o h1 h2)
theorem lyM_force {S : PSt} {x n : Nat} : (lyM S x n).2.1 70 4 = (setV (mG S) (S.1 71 1) x n).2 := mLl_f.trans mLh_f
theorem lyM_held {S : PSt} {x n : Nat} : (lyM S x n).1 70 5 = nI (heldV (mG S) (S.1 71 1) x n) := (show (mLh S x n (setV (mG S) (S.1 71 1) x n).1 (setV (mG S) (S.1 71 1) x n).2).1 70 5 = _ from mLh_c)
theorem lyM_len {S : PSt} {x n k : Nat} (hk : k < n) : (lyM S x n).2.1 75 (x + k) = lenV (mG S) (S.1 71 1) x n k := by
  unfold lyM mLl
  dsimp only
  rw [if_pos ⟨rfl, by omega, by omega⟩, Nat.add_sub_cancel_left]
theorem lyM_at {S : PSt} {x n k : Nat} (hk : k < n) : (lyM S x n).2.1 76 (x + k) = atV (mG S) (S.1 71 1) x n k := by
  unfold lyM mLl
  dsimp only
  rw [if_neg (by omega), if_pos ⟨rfl, by omega, by omega⟩, Nat.add_sub_cancel_left]
  rfl
theorem fm_ly {S : PSt} {x n : Nat} : frM S (lyM S x n) := by
  refine ⟨fun c h1 h2 => ⟨lyM_o (by omega) h1, ?_, rfl, rfl⟩, ?_, ?_⟩
  · funext j
    unfold lyM mLl mLh
    dsimp only
    rw [if_neg (by omega), if_neg (by omega), if_neg (by omega)]
  · show (mLh S x n (setV (mG S) (S.1 71 1) x n).1 (setV (mG S) (S.1 71 1) x n).2).1 70 2 = _
    unfold mLh
    dsimp only
    rw [if_neg (by omega), if_neg (by omega)]
  · show (mLh S x n (setV (mG S) (S.1 71 1) x n).1 (setV (mG S) (S.1 71 1) x n).2).1 70 23 = _
    unfold mLh
    dsimp only
    rw [if_neg (by omega), if_neg (by omega)]
set_option maxRecDepth 100000 in
theorem sp_X9_wanted {sh : List PSh} {S : PSt} {g : Nat → Int32} (hg : mG S = g) (hm : isMo sh) {c : Nat} (hc : c < 32) {f : UInt32} (hf : S.2.1 70 4 = f) (hok : okC g c) (h1 : vf_n32 (FP.fmul f (flG g c))) (h2 : vf_n32 (FP.fadd (idG g c) (FP.fmul f (flG g c)))) : pF mX9_wanted 3 [.ref 70, .int (nI c)] sh S S (some (.float (FP.fadd (idG g c) (FP.fmul f (flG g c))))) := by
  refine pF.of (pG.of [some (.ref 70), some (.int (nI c)), none] (by decide) tk_X9_wanted (Nat.le_of_ble_eq_true rfl) rfl (fun X => ?_))
  refine q_aload_n (pc := 0) (j := 0) rfl rfl ?_
  refine q_get (pc := 1) (a := 70) (v := .float (S.2.1 70 4)) rfl fl_X9_161 hm.1 rfl rfl ?_
  refine q_st (st2 := [.float f]) (by rw [(show (S.2.1 70 4) = f from hf)]) ?_
  refine q_aload_n (pc := 4) (j := 0) rfl rfl ?_
  refine q_iload_n (pc := 5) (j := 1) rfl rfl ?_
  refine q_callV (pc := 6) (as := [.int (nI c)]) (rest := [.float f]) (b := 70) (st2 := [.float (flG g c), .float f]) rfl ce_X9_flex ml_X9_147 im_X9_flex se_X9_flex hm.1 rfl rfl rfl (by decide) (Nat.le_of_ble_eq_true rfl) (sp_X9_flexE (c := c) hg hm (by omega) hok) rfl ?_
  refine q_fmul (pc := 9) rfl h1 ?_
  refine q_fstore_n (pc := 10) (j := 2) [some (.ref 70), some (.int (nI c)), some (.float (FP.fmul f (flG g c)))] rfl (by decide) rfl ?_
  refine q_aload_n (pc := 11) (j := 0) rfl rfl ?_
  refine q_iload_n (pc := 12) (j := 1) rfl rfl ?_
  refine q_callV (pc := 13) (as := [.int (nI c)]) (rest := []) (b := 70) (st2 := [.float (idG g c)]) rfl ce_X9_ideal ml_X9_143 im_X9_ideal se_X9_ideal hm.1 rfl rfl rfl (by decide) (Nat.le_of_ble_eq_true rfl) (sp_X9_idealE (c := c) hg hm (by omega) hok) rfl ?_
  refine q_fload_n (pc := 16) (j := 2) rfl rfl ?_
  refine q_fadd (pc := 17) rfl h2 ?_
  exact q_fret (pc := 18) rfl rfl ⟨rfl, rfl⟩
set_option maxRecDepth 100000 in
theorem lp_X9_forceOf {n0 : Nat} {X : Nat × (Nat → Int32)} {P : Option Value → PSt → Prop} {d : Nat} (hd9 : 3 ≤ d) {sh : List PSh} {S : PSt} {g : Nat → Int32} (hg : mG S = g) (hm : isMo sh) {x y n N : Nat} (hn : x + n = y + 1) (hxy : x ≤ y) (hyN : y < N) (hN2 : N ≤ 32) (hok : okG g N) {W : UInt32} {h : Nat → Bool} (hh : ∀ j, j < n → S.1 74 (x + j) = pB (h j)) (hb : okBal W (fun j => idG g (x + j)) (fun j => flG g (x + j)) (fun j => roG g (x + j)) h n)  (hex : ∀ i, pV mX9_forceOf d n0 X sh P 85 [some (.ref 70), some (.int (nI x)), some (.int (nI y)), some (.float (bsum h true (fun j => roG g (x + j)) n)), some (.float (bsum h false (fun j => idG g (x + j)) n)), some (.float (bsum h false (fun j => flG g (x + j)) n)), some (.int i)] [] S) : ∀ (m k : Nat), k + m = n → pV mX9_forceOf d n0 X sh P 29 [some (.ref 70), some (.int (nI x)), some (.int (nI y)), some (.float (bsum h true (fun j => roG g (x + j)) k)), some (.float (bsum h false (fun j => idG g (x + j)) k)), some (.float (bsum h false (fun j => flG g (x + j)) k)), some (.int (nI (x + k)))] [] S := by
  intro m
  induction m with
  | zero =>
    intro k hk
    have hk9 : n = k := by omega
    subst hk9
    refine q_iload (pc := 29) (j := 6) rfl rfl ?_
    refine q_iload_n (pc := 31) (j := 2) rfl rfl ?_
    refine q_icmp_gt (pc := 32) 85 rfl (by decide) (fun _ => ?_) (fun h9 => absurd (nI_lt (by omega) (by omega)) h9)
    exact hex _
  | succ m ih =>
    intro k hk
    have hk1 : k < n := by omega
    have hk2 : k < n := hk1
    refine q_iload (pc := 29) (j := 6) rfl rfl ?_
    refine q_iload_n (pc := 31) (j := 2) rfl rfl ?_
    refine q_icmp_gt (pc := 32) 85 rfl (by decide) (fun h9 => absurd h9 (nI_nlt (by omega) (by omega))) (fun _ => ?_)
    refine q_aload_n (pc := 35) (j := 0) rfl rfl ?_
    refine q_get (pc := 36) (a := 70) (v := .ref 74) rfl fl_X9_19 hm.1 rfl rfl ?_
    refine q_iload (pc := 39) (j := 6) rfl rfl ?_
    refine q_zald (pc := 41) (a := 74) (x + k) rfl hm.2.2.2.2.1 (vp_in_nI (by omega) (by decide)) (nI_clamp (by omega)) ?_
    refine q_st (st2 := [.int (pB (h k))]) (by rw [hh k hk1]) ?_
    refine q_if_eq (pc := 42) 57 rfl (by decide) (fun h42 => ?_) (fun h42 => ?_)
    · refine q_fload (pc := 57) (j := 4) rfl rfl ?_
      refine q_aload_n (pc := 59) (j := 0) rfl rfl ?_
      refine q_iload (pc := 60) (j := 6) rfl rfl ?_
      refine q_callV (pc := 62) (as := [.int (nI (x + k))]) (rest := [.float (bsum h false (fun j => idG g (x + j)) k)]) (b := 70) (st2 := [.float (idG g (x + k)), .float (bsum h false (fun j => idG g (x + j)) k)]) rfl ce_X9_ideal ml_X9_143 im_X9_ideal se_X9_ideal hm.1 rfl rfl rfl (by omega) (Nat.le_of_ble_eq_true rfl) (sp_X9_idealE (c := (x + k)) hg hm (by omega) (hok (x + k) (by omega))) rfl ?_
      refine q_fadd (pc := 65) rfl (hb.2.1 k hk1 (pB_f h42)).1 ?_
      refine q_fstore (pc := 66) (j := 4) [some (.ref 70), some (.int (nI x)), some (.int (nI y)), some (.float (bsum h true (fun j => roG g (x + j)) k)), some (.float (FP.fadd (bsum h false (fun j => idG g (x + j)) k) (idG g (x + k)))), some (.float (bsum h false (fun j => flG g (x + j)) k)), some (.int (nI (x + k)))] rfl (by decide) rfl ?_
      refine q_fload (pc := 68) (j := 5) rfl rfl ?_
      refine q_aload_n (pc := 70) (j := 0) rfl rfl ?_
      refine q_iload (pc := 71) (j := 6) rfl rfl ?_
      refine q_callV (pc := 73) (as := [.int (nI (x + k))]) (rest := [.float (bsum h false (fun j => flG g (x + j)) k)]) (b := 70) (st2 := [.float (flG g (x + k)), .float (bsum h false (fun j => flG g (x + j)) k)]) rfl ce_X9_flex ml_X9_147 im_X9_flex se_X9_flex hm.1 rfl rfl rfl (by omega) (Nat.le_of_ble_eq_true rfl) (sp_X9_flexE (c := (x + k)) hg hm (by omega) (hok (x + k) (by omega))) rfl ?_
      refine q_fadd (pc := 76) rfl (hb.2.1 k hk1 (pB_f h42)).2 ?_
      refine q_fstore (pc := 77) (j := 5) [some (.ref 70), some (.int (nI x)), some (.int (nI y)), some (.float (bsum h true (fun j => roG g (x + j)) k)), some (.float (FP.fadd (bsum h false (fun j => idG g (x + j)) k) (idG g (x + k)))), some (.float (FP.fadd (bsum h false (fun j => flG g (x + j)) k) (flG g (x + k)))), some (.int (nI (x + k)))] rfl (by decide) rfl ?_
      refine q_iinc (pc := 79) (j := 6) (n := 1) (nI (x + (k + 1))) [some (.ref 70), some (.int (nI x)), some (.int (nI y)), some (.float (bsum h true (fun j => roG g (x + j)) k)), some (.float (FP.fadd (bsum h false (fun j => idG g (x + j)) k) (idG g (x + k)))), some (.float (FP.fadd (bsum h false (fun j => flG g (x + j)) k) (flG g (x + k)))), some (.int (nI (x + (k + 1))))] rfl (by decide) rfl (show nI (x + k) + 1 = nI (x + (k + 1)) from nI_1 (x + k)) rfl ?_
      refine q_goto (pc := 82) 29 rfl (by decide) ?_
      exact q_L (by rw [bs_n (b := true) (pB_f h42), bs_s (b := false) (f := (fun j => idG g (x + j))) (pB_f h42), bs_s (b := false) (f := (fun j => flG g (x + j))) (pB_f h42)]) (ih (k + 1) (by omega))
    · refine q_fload_n (pc := 45) (j := 3) rfl rfl ?_
      refine q_aload_n (pc := 46) (j := 0) rfl rfl ?_
      refine q_iload (pc := 47) (j := 6) rfl rfl ?_
      refine q_callV (pc := 49) (as := [.int (nI (x + k))]) (rest := [.float (bsum h true (fun j => roG g (x + j)) k)]) (b := 70) (st2 := [.float (roG g (x + k)), .float (bsum h true (fun j => roG g (x + j)) k)]) rfl ce_X9_rod ml_X9_150 im_X9_rod se_X9_rod hm.1 rfl rfl rfl (by omega) (Nat.le_of_ble_eq_true rfl) (sp_X9_rodE (c := (x + k)) hg hm (by omega) (hok (x + k) (by omega))) rfl ?_
      refine q_fadd (pc := 52) rfl (hb.1 k hk1 (pB_t h42)) ?_
      refine q_fstore_n (pc := 53) (j := 3) [some (.ref 70), some (.int (nI x)), some (.int (nI y)), some (.float (FP.fadd (bsum h true (fun j => roG g (x + j)) k) (roG g (x + k)))), some (.float (bsum h false (fun j => idG g (x + j)) k)), some (.float (bsum h false (fun j => flG g (x + j)) k)), some (.int (nI (x + k)))] rfl (by decide) rfl ?_
      refine q_goto (pc := 54) 79 rfl (by decide) ?_
      refine q_iinc (pc := 79) (j := 6) (n := 1) (nI (x + (k + 1))) [some (.ref 70), some (.int (nI x)), some (.int (nI y)), some (.float (FP.fadd (bsum h true (fun j => roG g (x + j)) k) (roG g (x + k)))), some (.float (bsum h false (fun j => idG g (x + j)) k)), some (.float (bsum h false (fun j => flG g (x + j)) k)), some (.int (nI (x + (k + 1))))] rfl (by decide) rfl (show nI (x + k) + 1 = nI (x + (k + 1)) from nI_1 (x + k)) rfl ?_
      refine q_goto (pc := 82) 29 rfl (by decide) ?_
      exact q_L (by rw [bs_s (b := true) (pB_t h42), bs_n (b := false) (f := (fun j => idG g (x + j))) (pB_t h42), bs_n (b := false) (f := (fun j => flG g (x + j))) (pB_t h42)]) (ih (k + 1) (by omega))
set_option maxRecDepth 100000 in
theorem sp_X9_forceOf {sh : List PSh} {S : PSt} {g : Nat → Int32} (hg : mG S = g) (hm : isMo sh) {x y n N : Nat} (hn : x + n = y + 1) (hxy : x ≤ y) (hyN : y < N) (hN2 : N ≤ 32) (hok : okG g N) {w : Int32} {h : Nat → Bool} (hw : S.1 71 1 = w) (hc : S.1 70 5 = nI (cntH h n)) (hh : ∀ j, j < n → S.1 74 (x + j) = pB (h j)) (H : spK (FP.i2f w) (fun j => idG g (x + j)) (fun j => flG g (x + j)) (fun j => roG g (x + j)) n) : pF mX9_forceOf 3 [.ref 70, .int (nI x), .int (nI y)] sh S (pSF S 70 4 (balF (FP.i2f w) (fun j => idG g (x + j)) (fun j => flG g (x + j)) (fun j => roG g (x + j)) h n)) (none) := by
  refine pF.of (pG.of [some (.ref 70), some (.int (nI x)), some (.int (nI y)), none, none, none, none] (by decide) tk_X9_forceOf (Nat.le_of_ble_eq_true rfl) rfl (fun X => ?_))
  refine q_aload_n (pc := 0) (j := 0) rfl rfl ?_
  refine q_fconst0 (pc := 1) rfl ?_
  refine q_putF (pc := 2) (a := 70) rfl fl_X9_161 hm.1 rfl (fun _ h9 => by cases h9; rfl) rfl rfl ?_
  refine q_aload_n (pc := 5) (j := 0) rfl rfl ?_
  refine q_get (pc := 6) (a := 70) (v := .int ((pSF S 70 4 FP.fconst0).1 70 5)) rfl fl_X9_165 hm.1 rfl rfl ?_
  refine q_st (st2 := [.int (nI (cntH h n))]) (by rw [(show ((pSF S 70 4 FP.fconst0).1 70 5) = _ from hc)]) ?_
  refine q_iload_n (pc := 9) (j := 2) rfl rfl ?_
  refine q_iload_n (pc := 10) (j := 1) rfl rfl ?_
  refine q_isub (pc := 11) rfl ?_
  refine q_iconst (pc := 12) 1 rfl (by decide) ?_
  refine q_iadd (pc := 13) rfl ?_
  refine q_st (st2 := [.int (nI n), .int (nI (cntH h n))]) (by rw [nyx hn hxy]) ?_
  refine q_icmp_ne (pc := 14) 18 rfl (by decide) (fun h14 => ?_) (fun h14 => ?_)
  · have hb := (bal_ok H h).1; have hg9 := bal_gt H (fun q9 => h14 (by rw [q9]))
    refine q_fconst0 (pc := 18) rfl ?_
    refine q_fstore_n (pc := 19) (j := 3) [some (.ref 70), some (.int (nI x)), some (.int (nI y)), some (.float FP.fconst0), none, none, none] rfl (by decide) rfl ?_
    refine q_fconst0 (pc := 20) rfl ?_
    refine q_fstore (pc := 21) (j := 4) [some (.ref 70), some (.int (nI x)), some (.int (nI y)), some (.float FP.fconst0), some (.float FP.fconst0), none, none] rfl (by decide) rfl ?_
    refine q_fconst0 (pc := 23) rfl ?_
    refine q_fstore (pc := 24) (j := 5) [some (.ref 70), some (.int (nI x)), some (.int (nI y)), some (.float FP.fconst0), some (.float FP.fconst0), some (.float FP.fconst0), none] rfl (by decide) rfl ?_
    refine q_iload_n (pc := 26) (j := 1) rfl rfl ?_
    refine q_istore (pc := 27) (j := 6) [some (.ref 70), some (.int (nI x)), some (.int (nI y)), some (.float FP.fconst0), some (.float FP.fconst0), some (.float FP.fconst0), some (.int (nI x))] rfl (by decide) rfl ?_
    refine lp_X9_forceOf (S := pSF S 70 4 FP.fconst0) (by decide) hg hm hn hxy hyN hN2 hok hh hb (fun i => ?_) n 0 (Nat.zero_add n)
    refine q_aload_n (pc := 85) (j := 0) rfl rfl ?_
    refine q_get (pc := 86) (a := 70) (v := .ref 71) rfl fl_X9_9 hm.1 rfl rfl ?_
    refine q_iconst (pc := 89) 1 rfl (by decide) ?_
    refine q_iald (pc := 90) (a := 71) 1 rfl hm.2.1 (vp_in_nI (n := 1) (by decide) (by decide)) rfl ?_
    refine q_st (st2 := [.int w]) (by rw [(show ((pSF S 70 4 FP.fconst0).1 71 1) = w from hw)]) ?_
    refine q_i2f (pc := 91) rfl ?_
    refine q_fload_n (pc := 92) (j := 3) rfl rfl ?_
    refine q_fsub (pc := 93) rfl (hb.2.2 hg9).1 ?_
    refine q_fstore (pc := 94) (j := 6) [some (.ref 70), some (.int (nI x)), some (.int (nI y)), some (.float (bsum h true (fun j => roG g (x + j)) n)), some (.float (bsum h false (fun j => idG g (x + j)) n)), some (.float (bsum h false (fun j => flG g (x + j)) n)), some (.float (FP.fsub (FP.i2f w) (bsum h true (fun j => roG g (x + j)) n)))] rfl (by decide) rfl ?_
    refine q_fload (pc := 96) (j := 6) rfl rfl ?_
    refine q_fload (pc := 98) (j := 4) rfl rfl ?_
    refine q_fsub (pc := 100) rfl (hb.2.2 hg9).2.1 ?_
    refine q_fstore (pc := 101) (j := 6) [some (.ref 70), some (.int (nI x)), some (.int (nI y)), some (.float (bsum h true (fun j => roG g (x + j)) n)), some (.float (bsum h false (fun j => idG g (x + j)) n)), some (.float (bsum h false (fun j => flG g (x + j)) n)), some (.float (FP.fsub (FP.fsub (FP.i2f w) (bsum h true (fun j => roG g (x + j)) n)) (bsum h false (fun j => idG g (x + j)) n)))] rfl (by decide) rfl ?_
    refine q_aload_n (pc := 103) (j := 0) rfl rfl ?_
    refine q_fload (pc := 104) (j := 6) rfl rfl ?_
    refine q_fload (pc := 106) (j := 5) rfl rfl ?_
    refine q_fdiv (pc := 108) rfl (hb.2.2 hg9).2.2 ?_
    refine q_putF (pc := 109) (a := 70) rfl fl_X9_161 hm.1 rfl (fun _ h9 => by cases h9; rfl) rfl rfl ?_
    exact q_vret (pc := 112) rfl rfl ⟨rfl, by rw [pSF_2, balF, if_pos hg9]⟩
  · exact q_vret (pc := 17) rfl rfl ⟨rfl, by rw [bal_0 H ((nI_eq (by have := cntH_le h n; omega) (by omega)).mp h14)]⟩
theorem mLh_c1 {S : PSt} {x n i : Nat} {h : Nat → Bool} {f : UInt32} {v : Int32} : (pSI (mLh S x n h f) 74 i v).1 70 5 = nI (cntH h n) := by
  show pU (mLh S x n h f).1 74 i v 70 5 = _
  rw [show pU (mLh S x n h f).1 74 i v 70 = (mLh S x n h f).1 70 from pU_ne (by decide)]
  exact mLh_c
theorem mLl_g {S : PSt} {x n k : Nat} {h : Nat → Bool} {f : UInt32} {L : Nat → UInt32} : mG (mLl (mLh S x n h f) x k L) = mG S := (show mG (mLh S x n h f) = mG S from mLh_g)
theorem nw_h {ids fls rods : Nat → UInt32} {f : UInt32} {h : Nat → Bool} {k : Nat} (e : h k = true) : nwV ids fls rods f h k = false := by unfold nwV; rw [e]; rfl
theorem nw_ge {ids fls rods : Nat → UInt32} {f : UInt32} {h : Nat → Bool} {k : Nat} (e : 0 ≤ Op.cmpValue (FP.fcmp (FP.fadd (ids k) (FP.fmul f (fls k))) (rods k)) .g) : nwV ids fls rods f h k = false := by
  unfold nwV flt
  rw [decide_eq_false (Int32.not_lt.mpr e), Bool.and_false]
theorem nw_lt {ids fls rods : Nat → UInt32} {f : UInt32} {h : Nat → Bool} {k : Nat} (e0 : h k = false) (e : ¬ 0 ≤ Op.cmpValue (FP.fcmp (FP.fadd (ids k) (FP.fmul f (fls k))) (rods k)) .g) : nwV ids fls rods f h k = true := by
  unfold nwV flt
  rw [decide_eq_true (Int32.not_le.mp e), e0]; rfl
theorem any_n {w : Nat → Bool} {k : Nat} (e : w k = false) : anyB w (k + 1) = anyB w k := by rw [anyB, e, Bool.or_false]
theorem any_y {w : Nat → Bool} {k : Nat} (e : w k = true) : anyB w (k + 1) = true := by rw [anyB, e, Bool.or_true]
set_option maxRecDepth 100000 in
theorem lp_X9_laysC {n0 : Nat} {X : Nat × (Nat → Int32)} {P : Option Value → PSt → Prop} {d : Nat} (hd9 : 0 ≤ d) {sh : List PSh} {S : PSt} (hm : isMo sh) {x y n : Nat} (hn : x + n = y + 1) (hy : y < 32)  (hex : ∀ i, pV mX9_laysOut d n0 X sh P 25 [some (.ref 70), some (.int (nI x)), some (.int (nI y)), some (.int i), none, none] [] (mCl S x n)) : ∀ (m k : Nat), k + m = n → pV mX9_laysOut d n0 X sh P 7 [some (.ref 70), some (.int (nI x)), some (.int (nI y)), some (.int (nI (x + k))), none, none] [] (mCl S x k) := by
  intro m
  induction m with
  | zero =>
    intro k hk
    have hk9 : n = k := by omega
    subst hk9
    refine q_iload_n (pc := 7) (j := 3) rfl rfl ?_
    refine q_iload_n (pc := 8) (j := 2) rfl rfl ?_
    refine q_icmp_gt (pc := 9) 25 rfl (by decide) (fun _ => ?_) (fun h9 => absurd (nI_lt (by omega) (by omega)) h9)
    exact hex _
  | succ m ih =>
    intro k hk
    have hk1 : k < n := by omega
    have hk2 : k < n := hk1
    refine q_iload_n (pc := 7) (j := 3) rfl rfl ?_
    refine q_iload_n (pc := 8) (j := 2) rfl rfl ?_
    refine q_icmp_gt (pc := 9) 25 rfl (by decide) (fun h9 => absurd h9 (nI_nlt (by omega) (by omega))) (fun _ => ?_)
    refine q_aload_n (pc := 12) (j := 0) rfl rfl ?_
    refine q_get (pc := 13) (a := 70) (v := .ref 74) rfl fl_X9_19 hm.1 rfl rfl ?_
    refine q_iload_n (pc := 16) (j := 3) rfl rfl ?_
    refine q_iconst (pc := 17) 0 rfl (by decide) ?_
    refine q_zast (pc := 18) (a := 74) (x + k) rfl hm.2.2.2.2.1 (vp_in_nI (by omega) (by decide)) (pB_n false) (nI_clamp (by omega)) ?_
    refine q_iinc (pc := 19) (j := 3) (n := 1) (nI (x + (k + 1))) [some (.ref 70), some (.int (nI x)), some (.int (nI y)), some (.int (nI (x + (k + 1)))), none, none] rfl (by decide) rfl (show nI (x + k) + 1 = nI (x + (k + 1)) from nI_1 (x + k)) rfl ?_
    refine q_goto (pc := 22) 7 rfl (by decide) ?_
    exact q_S mCl_s (ih (k + 1) (by omega))
set_option maxRecDepth 100000 in
theorem lp_X9_laysS {n0 : Nat} {X : Nat × (Nat → Int32)} {P : Option Value → PSt → Prop} {d : Nat} (hd9 : 4 ≤ d) {sh : List PSh} {S : PSt} (hm : isMo sh) {x y n N : Nat} (hn : x + n = y + 1) (hxy : x ≤ y) (hyN : y < N) (hN2 : N ≤ 32) (hok : okG (mG S) N) {h : Nat → Bool} {f : UInt32} (hwn : ∀ j, j < n → vf_n32 (FP.fmul f (flG (mG S) (x + j))) ∧ vf_n32 (FP.fadd (idG (mG S) (x + j)) (FP.fmul f (flG (mG S) (x + j)))))  (hex : ∀ i, pV mX9_laysOut d n0 X sh P 100 [some (.ref 70), some (.int (nI x)), some (.int (nI y)), some (.int (pB (anyB (nwV (fun j => idG (mG S) (x + j)) (fun j => flG (mG S) (x + j)) (fun j => roG (mG S) (x + j)) f h) n))), some (.int i), none] [] (mLh S x n (hsV h (nwV (fun j => idG (mG S) (x + j)) (fun j => flG (mG S) (x + j)) (fun j => roG (mG S) (x + j)) f h) n) f)) : ∀ (m k : Nat), k + m = n → pV mX9_laysOut d n0 X sh P 42 [some (.ref 70), some (.int (nI x)), some (.int (nI y)), some (.int (pB (anyB (nwV (fun j => idG (mG S) (x + j)) (fun j => flG (mG S) (x + j)) (fun j => roG (mG S) (x + j)) f h) k))), some (.int (nI (x + k))), none] [] (mLh S x n (hsV h (nwV (fun j => idG (mG S) (x + j)) (fun j => flG (mG S) (x + j)) (fun j => roG (mG S) (x + j)) f h) k) f) := by
  intro m
  induction m with
  | zero =>
    intro k hk
    have hk9 : n = k := by omega
    subst hk9
    refine q_iload (pc := 42) (j := 4) rfl rfl ?_
    refine q_iload_n (pc := 44) (j := 2) rfl rfl ?_
    refine q_icmp_gt (pc := 45) 100 rfl (by decide) (fun _ => ?_) (fun h9 => absurd (nI_lt (by omega) (by omega)) h9)
    exact hex _
  | succ m ih =>
    intro k hk
    have hk1 : k < n := by omega
    have hk2 : k < n := hk1
    refine q_iload (pc := 42) (j := 4) rfl rfl ?_
    refine q_iload_n (pc := 44) (j := 2) rfl rfl ?_
    refine q_icmp_gt (pc := 45) 100 rfl (by decide) (fun h9 => absurd h9 (nI_nlt (by omega) (by omega))) (fun _ => ?_)
    refine q_aload_n (pc := 48) (j := 0) rfl rfl ?_
    refine q_get (pc := 49) (a := 70) (v := .ref 74) rfl fl_X9_19 hm.1 rfl rfl ?_
    refine q_iload (pc := 52) (j := 4) rfl rfl ?_
    refine q_zald (pc := 54) (a := 74) (x + k) rfl hm.2.2.2.2.1 (vp_in_nI (by omega) (by decide)) (nI_clamp (by omega)) ?_
    refine q_st (st2 := [.int (pB (h k))]) (by rw [(show ((mLh S x n (hsV h (nwV (fun j => idG (mG S) (x + j)) (fun j => flG (mG S) (x + j)) (fun j => roG (mG S) (x + j)) f h) k) f).1 74 (x + k)) = pB (h k) from (mLh_h hk1).trans (by rw [hsV_at]))]) ?_
    refine q_if_ne (pc := 55) 94 rfl (by decide) (fun h55 => ?_) (fun h55 => ?_)
    · refine q_iinc (pc := 94) (j := 4) (n := 1) (nI (x + (k + 1))) [some (.ref 70), some (.int (nI x)), some (.int (nI y)), some (.int (pB (anyB (nwV (fun j => idG (mG S) (x + j)) (fun j => flG (mG S) (x + j)) (fun j => roG (mG S) (x + j)) f h) k))), some (.int (nI (x + (k + 1)))), none] rfl (by decide) rfl (show nI (x + k) + 1 = nI (x + (k + 1)) from nI_1 (x + k)) rfl ?_
      refine q_goto (pc := 97) 42 rfl (by decide) ?_
      exact q_L (by rw [any_n (nw_h (pB_t h55))]) (q_S (by rw [hsV_n (nw_h (pB_t h55))]) (ih (k + 1) (by omega)))
    · refine q_aload_n (pc := 58) (j := 0) rfl rfl ?_
      refine q_iload (pc := 59) (j := 4) rfl rfl ?_
      refine q_callV (pc := 61) (as := [.int (nI (x + k))]) (rest := []) (b := 70) (st2 := [.float (FP.fadd (idG (mG S) (x + k)) (FP.fmul f (flG (mG S) (x + k))))]) rfl ce_X9_wanted ml_X9_173 im_X9_wanted se_X9_wanted hm.1 rfl rfl rfl (by omega) (Nat.le_of_ble_eq_true rfl) (sp_X9_wanted (c := (x + k)) (f := f) mLh_g hm (by omega) mLh_f (hok (x + k) (by omega)) (hwn k hk1).1 (hwn k hk1).2) rfl ?_
      refine q_aload_n (pc := 64) (j := 0) rfl rfl ?_
      refine q_iload (pc := 65) (j := 4) rfl rfl ?_
      refine q_callV (pc := 67) (as := [.int (nI (x + k))]) (rest := [.float (FP.fadd (idG (mG S) (x + k)) (FP.fmul f (flG (mG S) (x + k))))]) (b := 70) (st2 := [.float (roG (mG S) (x + k)), .float (FP.fadd (idG (mG S) (x + k)) (FP.fmul f (flG (mG S) (x + k))))]) rfl ce_X9_rod ml_X9_150 im_X9_rod se_X9_rod hm.1 rfl rfl rfl (by omega) (Nat.le_of_ble_eq_true rfl) (sp_X9_rodE (c := (x + k)) mLh_g hm (by omega) (hok (x + k) (by omega))) rfl ?_
      refine q_fcmp (pc := 70) (op := .g) rfl ?_
      refine q_if_ge (pc := 71) 94 rfl (by decide) (fun h71 => ?_) (fun h71 => ?_)
      · refine q_iinc (pc := 94) (j := 4) (n := 1) (nI (x + (k + 1))) [some (.ref 70), some (.int (nI x)), some (.int (nI y)), some (.int (pB (anyB (nwV (fun j => idG (mG S) (x + j)) (fun j => flG (mG S) (x + j)) (fun j => roG (mG S) (x + j)) f h) k))), some (.int (nI (x + (k + 1)))), none] rfl (by decide) rfl (show nI (x + k) + 1 = nI (x + (k + 1)) from nI_1 (x + k)) rfl ?_
        refine q_goto (pc := 97) 42 rfl (by decide) ?_
        exact q_L (by rw [any_n (nw_ge (f := f) (h := h) (ids := (fun j => idG (mG S) (x + j))) (fls := (fun j => flG (mG S) (x + j))) (rods := (fun j => roG (mG S) (x + j))) (k := k) h71)]) (q_S (by rw [hsV_n (nw_ge (f := f) (h := h) (ids := (fun j => idG (mG S) (x + j))) (fls := (fun j => flG (mG S) (x + j))) (rods := (fun j => roG (mG S) (x + j))) (k := k) h71)]) (ih (k + 1) (by omega)))
      · have hw9 := nw_lt (f := f) (ids := (fun j => idG (mG S) (x + j))) (fls := (fun j => flG (mG S) (x + j))) (rods := (fun j => roG (mG S) (x + j))) (k := k) (pB_f h55) h71
        refine q_aload_n (pc := 74) (j := 0) rfl rfl ?_
        refine q_get (pc := 75) (a := 70) (v := .ref 74) rfl fl_X9_19 hm.1 rfl rfl ?_
        refine q_iload (pc := 78) (j := 4) rfl rfl ?_
        refine q_iconst (pc := 80) 1 rfl (by decide) ?_
        refine q_zast (pc := 81) (a := 74) (x + k) rfl hm.2.2.2.2.1 (vp_in_nI (by omega) (by decide)) (pB_n true) (nI_clamp (by omega)) ?_
        refine q_aload_n (pc := 82) (j := 0) rfl rfl ?_
        refine q_dup (pc := 83) rfl rfl ?_
        refine q_get (pc := 84) (a := 70) (v := .int ((pSI (mLh S x n (hsV h (nwV (fun j => idG (mG S) (x + j)) (fun j => flG (mG S) (x + j)) (fun j => roG (mG S) (x + j)) f h) k) f) 74 (x + k) 1).1 70 5)) rfl fl_X9_165 hm.1 rfl rfl ?_
        refine q_st (st2 := [.int (nI (cntH (hsV h (nwV (fun j => idG (mG S) (x + j)) (fun j => flG (mG S) (x + j)) (fun j => roG (mG S) (x + j)) f h) k) n)), .ref 70]) (by rw [mLh_c1]) ?_
        refine q_iconst (pc := 87) 1 rfl (by decide) ?_
        refine q_iadd (pc := 88) rfl ?_
        refine q_putI (pc := 89) (a := 70) rfl fl_X9_165 hm.1 rfl (fun _ h9 => by cases h9; rfl) rfl rfl ?_
        refine q_iconst (pc := 92) 1 rfl (by decide) ?_
        refine q_istore_n (pc := 93) (j := 3) [some (.ref 70), some (.int (nI x)), some (.int (nI y)), some (.int 1), some (.int (nI (x + k))), none] rfl (by decide) rfl ?_
        refine q_iinc (pc := 94) (j := 4) (n := 1) (nI (x + (k + 1))) [some (.ref 70), some (.int (nI x)), some (.int (nI y)), some (.int 1), some (.int (nI (x + (k + 1)))), none] rfl (by decide) rfl (show nI (x + k) + 1 = nI (x + (k + 1)) from nI_1 (x + k)) rfl ?_
        refine q_goto (pc := 97) 42 rfl (by decide) ?_
        exact q_L (by rw [any_y hw9]; rfl) (q_S (mLh_y hk1 (pB_f h55) hw9) (ih (k + 1) (by omega)))
theorem wan_nn {W : UInt32} {ids fls rods : Nat → UInt32} {n j : Nat} (H : spK W ids fls rods n) (hj : j < n) (h : Nat → Bool) : vf_n32 (FP.fmul (balF W ids fls rods h n) (fls j)) ∧ vf_n32 (FP.fadd (ids j) (FP.fmul (balF W ids fls rods h n) (fls j))) := by
  have hq := (bal_ok H h).2
  obtain ⟨mi, i1, i2⟩ := H.2.2.1 j hj
  obtain ⟨mf, f1, f2⟩ := H.2.2.2.1 j hj
  have := wan_ok hq i1 i2 f1 f2
  exact ⟨this.1, this.2.1⟩
set_option maxRecDepth 100000 in
theorem lp_X9_laysR1 {n0 : Nat} {X : Nat × (Nat → Int32)} {P : Option Value → PSt → Prop} {d : Nat} (hd9 : 4 ≤ d) {sh : List PSh} {S : PSt} (hm : isMo sh) {x y n N : Nat} (hn : x + n = y + 1) (hxy : x ≤ y) (hyN : y < N) (hN2 : N ≤ 32) (hok : okG (mG S) N) (hw : okWd (S.1 71 1)) {h : Nat → Bool} {f : UInt32} {o : Option Value} (hk : ∀ i, pV mX9_laysOut d n0 X sh P 27 [some (.ref 70), some (.int (nI x)), some (.int (nI y)), some (.int (pB (anyB (nwV (fun j => idG (mG S) (x + j)) (fun j => flG (mG S) (x + j)) (fun j => roG (mG S) (x + j)) (balF (FP.i2f (S.1 71 1)) (fun j => idG (mG S) (x + j)) (fun j => flG (mG S) (x + j)) (fun j => roG (mG S) (x + j)) h n) h) n))), some (.int i), none] [] (mLh S x n (hsV h (nwV (fun j => idG (mG S) (x + j)) (fun j => flG (mG S) (x + j)) (fun j => roG (mG S) (x + j)) (balF (FP.i2f (S.1 71 1)) (fun j => idG (mG S) (x + j)) (fun j => flG (mG S) (x + j)) (fun j => roG (mG S) (x + j)) h n) h) n) (balF (FP.i2f (S.1 71 1)) (fun j => idG (mG S) (x + j)) (fun j => flG (mG S) (x + j)) (fun j => roG (mG S) (x + j)) h n))) : pV mX9_laysOut d n0 X sh P 27 [some (.ref 70), some (.int (nI x)), some (.int (nI y)), some (.int 1), o, none] [] (mLh S x n h f) := by
  have H := spK_of (a := x) (n := n) hok hw (by omega) (by omega)
  refine q_iload_n (pc := 27) (j := 3) rfl rfl ?_
  refine q_if_eq (pc := 28) 103 rfl (by decide) (fun h9 => absurd h9 (by decide : ¬ (1 : Int32) = 0)) (fun _ => ?_)
  refine q_aload_n (pc := 31) (j := 0) rfl rfl ?_
  refine q_iload_n (pc := 32) (j := 1) rfl rfl ?_
  refine q_iload_n (pc := 33) (j := 2) rfl rfl ?_
  refine q_callV (pc := 34) (as := [.int (nI x), .int (nI y)]) (rest := []) (b := 70) (st2 := []) rfl ce_X9_forceOf ml_X9_169 im_X9_forceOf se_X9_forceOf hm.1 rfl rfl rfl (by omega) (Nat.le_of_ble_eq_true rfl) (sp_X9_forceOf (g := (mG S)) (x := x) (y := y) (n := n) (w := S.1 71 1) (h := h) mLh_g hm hn hxy hyN hN2 hok (by rw [mLh_o (by decide) (by decide)]) mLh_c (fun j hj => mLh_h hj) H) rfl ?_
  refine q_S (S2 := (mLh S x n h (balF (FP.i2f (S.1 71 1)) (fun j => idG (mG S) (x + j)) (fun j => flG (mG S) (x + j)) (fun j => roG (mG S) (x + j)) h n))) mLh_F ?_
  refine q_iconst (pc := 37) 0 rfl (by decide) ?_
  refine q_istore_n (pc := 38) (j := 3) [some (.ref 70), some (.int (nI x)), some (.int (nI y)), some (.int 0), o, none] rfl (by decide) rfl ?_
  refine q_iload_n (pc := 39) (j := 1) rfl rfl ?_
  refine q_istore (pc := 40) (j := 4) [some (.ref 70), some (.int (nI x)), some (.int (nI y)), some (.int 0), some (.int (nI x)), none] rfl (by decide) rfl ?_
  refine q_L (L2 := [some (.ref 70), some (.int (nI x)), some (.int (nI y)), some (.int (pB (anyB (nwV (fun j => idG (mG S) (x + j)) (fun j => flG (mG S) (x + j)) (fun j => roG (mG S) (x + j)) (balF (FP.i2f (S.1 71 1)) (fun j => idG (mG S) (x + j)) (fun j => flG (mG S) (x + j)) (fun j => roG (mG S) (x + j)) h n) h) 0))), some (.int (nI (x + 0))), none]) rfl (q_S (show (mLh S x n h (balF (FP.i2f (S.1 71 1)) (fun j => idG (mG S) (x + j)) (fun j => flG (mG S) (x + j)) (fun j => roG (mG S) (x + j)) h n)) = mLh S x n (hsV h (nwV (fun j => idG (mG S) (x + j)) (fun j => flG (mG S) (x + j)) (fun j => roG (mG S) (x + j)) (balF (FP.i2f (S.1 71 1)) (fun j => idG (mG S) (x + j)) (fun j => flG (mG S) (x + j)) (fun j => roG (mG S) (x + j)) h n) h) 0) (balF (FP.i2f (S.1 71 1)) (fun j => idG (mG S) (x + j)) (fun j => flG (mG S) (x + j)) (fun j => roG (mG S) (x + j)) h n) from by rw [hsV_0]) (lp_X9_laysS (f := (balF (FP.i2f (S.1 71 1)) (fun j => idG (mG S) (x + j)) (fun j => flG (mG S) (x + j)) (fun j => roG (mG S) (x + j)) h n)) (h := h) (by omega) hm hn hxy hyN hN2 hok (fun j hj => (wan_nn H hj h)) (fun i => ?_) n 0 (Nat.zero_add n)))
  refine q_goto (pc := 100) 27 rfl (by decide) ?_
  exact hk _
theorem lp_X9_laysR {n0 : Nat} {X : Nat × (Nat → Int32)} {P : Option Value → PSt → Prop} {d : Nat} (hd9 : 4 ≤ d) {sh : List PSh} {S : PSt} (hm : isMo sh) {x y n N : Nat} (hn : x + n = y + 1) (hxy : x ≤ y) (hyN : y < N) (hN2 : N ≤ 32) (hok : okG (mG S) N) (hw : okWd (S.1 71 1)) {R : (Nat → Bool) × UInt32} (hex : ∀ o, pV mX9_laysOut d n0 X sh P 27 [some (.ref 70), some (.int (nI x)), some (.int (nI y)), some (.int 0), o, none] [] (mLh S x n R.1 R.2)) :
    ∀ (m : Nat) (h : Nat → Bool) (f : UInt32) (o : Option Value), n < cntH h n + (m + 1) → (rnV (FP.i2f (S.1 71 1)) (fun j => idG (mG S) (x + j)) (fun j => flG (mG S) (x + j)) (fun j => roG (mG S) (x + j)) n (m + 1) h) = R → pV mX9_laysOut d n0 X sh P 27 [some (.ref 70), some (.int (nI x)), some (.int (nI y)), some (.int 1), o, none] [] (mLh S x n h f) := by
  intro m
  induction m with
  | zero =>
    intro h f o hc hR
    refine lp_X9_laysR1 hd9 hm hn hxy hyN hN2 hok hw (fun i => ?_)
    have ha : anyB (nwV (fun j => idG (mG S) (x + j)) (fun j => flG (mG S) (x + j)) (fun j => roG (mG S) (x + j)) (balF (FP.i2f (S.1 71 1)) (fun j => idG (mG S) (x + j)) (fun j => flG (mG S) (x + j)) (fun j => roG (mG S) (x + j)) h n) h) n = false := all_none (by omega)
    have hr : R = (h, (balF (FP.i2f (S.1 71 1)) (fun j => idG (mG S) (x + j)) (fun j => flG (mG S) (x + j)) (fun j => roG (mG S) (x + j)) h n)) := by
      rw [← hR]
      unfold rnV
      rw [if_neg (by rw [ha]; decide)]
    refine q_L (show _ = [some (.ref 70), some (.int (nI x)), some (.int (nI y)), some (.int 0), (some (.int i)), none] from by rw [ha]; rfl) (q_S ?_ (hex (some (.int i))))
    rw [hr]
    exact mLh_congr fun j hj => by unfold hsV; rw [anyB_false ha j hj]; simp
  | succ m ih =>
    intro h f o hc hR
    refine lp_X9_laysR1 hd9 hm hn hxy hyN hN2 hok hw (fun i => ?_)
    by_cases ha : anyB (nwV (fun j => idG (mG S) (x + j)) (fun j => flG (mG S) (x + j)) (fun j => roG (mG S) (x + j)) (balF (FP.i2f (S.1 71 1)) (fun j => idG (mG S) (x + j)) (fun j => flG (mG S) (x + j)) (fun j => roG (mG S) (x + j)) h n) h) n = true
    · refine q_L (show _ = [some (.ref 70), some (.int (nI x)), some (.int (nI y)), some (.int 1), (some (.int i)), none] from by rw [ha]; rfl) (ih _ _ (some (.int i)) ?_ ?_)
      · have := cnt_step ha
        have e : cntH (hsV h (nwV (fun j => idG (mG S) (x + j)) (fun j => flG (mG S) (x + j)) (fun j => roG (mG S) (x + j)) (balF (FP.i2f (S.1 71 1)) (fun j => idG (mG S) (x + j)) (fun j => flG (mG S) (x + j)) (fun j => roG (mG S) (x + j)) h n) h) n) n = cntH (hnV (fun j => idG (mG S) (x + j)) (fun j => flG (mG S) (x + j)) (fun j => roG (mG S) (x + j)) n (balF (FP.i2f (S.1 71 1)) (fun j => idG (mG S) (x + j)) (fun j => flG (mG S) (x + j)) (fun j => roG (mG S) (x + j)) h n) h) n := rfl
        omega
      · rw [← hR]
        conv => rhs; unfold rnV
        rw [if_pos ha]
        rfl
    · have ha : anyB (nwV (fun j => idG (mG S) (x + j)) (fun j => flG (mG S) (x + j)) (fun j => roG (mG S) (x + j)) (balF (FP.i2f (S.1 71 1)) (fun j => idG (mG S) (x + j)) (fun j => flG (mG S) (x + j)) (fun j => roG (mG S) (x + j)) h n) h) n = false := Bool.eq_false_iff.mpr ha
      have hr : R = (h, (balF (FP.i2f (S.1 71 1)) (fun j => idG (mG S) (x + j)) (fun j => flG (mG S) (x + j)) (fun j => roG (mG S) (x + j)) h n)) := by
        rw [← hR]
        unfold rnV
        rw [if_neg (by rw [ha]; decide)]
      refine q_L (show _ = [some (.ref 70), some (.int (nI x)), some (.int (nI y)), some (.int 0), (some (.int i)), none] from by rw [ha]; rfl) (q_S ?_ (hex (some (.int i))))
      rw [hr]
      exact mLh_congr fun j hj => by unfold hsV; rw [anyB_false ha j hj]; simp
set_option maxRecDepth 100000 in
theorem lp_X9_laysL {n0 : Nat} {X : Nat × (Nat → Int32)} {P : Option Value → PSt → Prop} {d : Nat} (hd9 : 4 ≤ d) {sh : List PSh} {S : PSt} (hm : isMo sh) {x y n N : Nat} (hn : x + n = y + 1) (hxy : x ≤ y) (hyN : y < N) (hN2 : N ≤ 32) (hok : okG (mG S) N) (hw : okWd (S.1 71 1)) (hwn : ∀ j, j < n → vf_n32 (FP.fmul (setV (mG S) (S.1 71 1) x n).2 (flG (mG S) (x + j))) ∧ vf_n32 (FP.fadd (idG (mG S) (x + j)) (FP.fmul (setV (mG S) (S.1 71 1) x n).2 (flG (mG S) (x + j)))))  (hex : ∀ i v, pV mX9_laysOut d n0 X sh P 174 [some (.ref 70), some (.int (nI x)), some (.int (nI y)), some (.int 0), some (.float v), some (.int i)] [] (mLl (mLh S x n (setV (mG S) (S.1 71 1) x n).1 (setV (mG S) (S.1 71 1) x n).2) x n (lenV (mG S) (S.1 71 1) x n))) : ∀ (m k : Nat), k + m = n → pV mX9_laysOut d n0 X sh P 109 [some (.ref 70), some (.int (nI x)), some (.int (nI y)), some (.int 0), some (.float (sumF (lenV (mG S) (S.1 71 1) x n) k)), some (.int (nI (x + k)))] [] (mLl (mLh S x n (setV (mG S) (S.1 71 1) x n).1 (setV (mG S) (S.1 71 1) x n).2) x k (lenV (mG S) (S.1 71 1) x n)) := by
  intro m
  induction m with
  | zero =>
    intro k hk
    have hk9 : n = k := by omega
    subst hk9
    refine q_iload (pc := 109) (j := 5) rfl rfl ?_
    refine q_iload_n (pc := 111) (j := 2) rfl rfl ?_
    refine q_icmp_gt (pc := 112) 174 rfl (by decide) (fun _ => ?_) (fun h9 => absurd (nI_lt (by omega) (by omega)) h9)
    exact hex _ _
  | succ m ih =>
    intro k hk
    have hk1 : k < n := by omega
    have hk2 : k < n := hk1
    refine q_iload (pc := 109) (j := 5) rfl rfl ?_
    refine q_iload_n (pc := 111) (j := 2) rfl rfl ?_
    refine q_icmp_gt (pc := 112) 174 rfl (by decide) (fun h9 => absurd h9 (nI_nlt (by omega) (by omega))) (fun _ => ?_)
    refine q_aload_n (pc := 115) (j := 0) rfl rfl ?_
    refine q_get (pc := 116) (a := 70) (v := .ref 75) rfl fl_X9_23 hm.1 rfl rfl ?_
    refine q_iload (pc := 119) (j := 5) rfl rfl ?_
    refine q_aload_n (pc := 121) (j := 0) rfl rfl ?_
    refine q_get (pc := 122) (a := 70) (v := .ref 74) rfl fl_X9_19 hm.1 rfl rfl ?_
    refine q_iload (pc := 125) (j := 5) rfl rfl ?_
    refine q_zald (pc := 127) (a := 74) (x + k) rfl hm.2.2.2.2.1 (vp_in_nI (by omega) (by decide)) (nI_clamp (by omega)) ?_
    refine q_st (st2 := [.int (pB ((setV (mG S) (S.1 71 1) x n).1 k)), .int (nI (x + k)), .ref 75]) (by rw [(show ((mLl (mLh S x n (setV (mG S) (S.1 71 1) x n).1 (setV (mG S) (S.1 71 1) x n).2) x k (lenV (mG S) (S.1 71 1) x n)).1 74 (x + k)) = pB ((setV (mG S) (S.1 71 1) x n).1 k) from mLh_h (f := (setV (mG S) (S.1 71 1) x n).2) hk1)]) ?_
    refine q_if_eq (pc := 128) 140 rfl (by decide) (fun h128 => ?_) (fun h128 => ?_)
    · refine q_aload_n (pc := 140) (j := 0) rfl rfl ?_
      refine q_iload (pc := 141) (j := 5) rfl rfl ?_
      refine q_callV (pc := 143) (as := [.int (nI (x + k))]) (rest := [.int (nI (x + k)), .ref 75]) (b := 70) (st2 := [.float (FP.fadd (idG (mG S) (x + k)) (FP.fmul (setV (mG S) (S.1 71 1) x n).2 (flG (mG S) (x + k)))), .int (nI (x + k)), .ref 75]) rfl ce_X9_wanted ml_X9_173 im_X9_wanted se_X9_wanted hm.1 rfl rfl rfl (by omega) (Nat.le_of_ble_eq_true rfl) (sp_X9_wanted (c := (x + k)) (f := (setV (mG S) (S.1 71 1) x n).2) mLl_g hm (by omega) (mLl_f.trans mLh_f) (hok (x + k) (by omega)) (hwn k hk1).1 (hwn k hk1).2) rfl ?_
      refine q_st (st2 := [.float ((lenV (mG S) (S.1 71 1) x n) k), .int (nI (x + k)), .ref 75]) (by rw [(show (FP.fadd (idG (mG S) (x + k)) (FP.fmul (setV (mG S) (S.1 71 1) x n).2 (flG (mG S) (x + k)))) = (lenV (mG S) (S.1 71 1) x n) k from (by rw [lenV, if_neg (by rw [pB_f h128]; decide)]))]) ?_
      refine q_fast (pc := 146) (a := 75) (x + k) rfl hm.2.2.2.2.2.1 (vp_in_nI (by omega) (by decide)) (nI_clamp (by omega)) ?_
      refine q_aload_n (pc := 147) (j := 0) rfl rfl ?_
      refine q_get (pc := 148) (a := 70) (v := .ref 76) rfl fl_X9_27 hm.1 rfl rfl ?_
      refine q_iload (pc := 151) (j := 5) rfl rfl ?_
      refine q_fload (pc := 153) (j := 4) rfl rfl ?_
      refine q_fast (pc := 155) (a := 76) (x + k) rfl hm.2.2.2.2.2.2.1 (vp_in_nI (by omega) (by decide)) (nI_clamp (by omega)) ?_
      refine q_fload (pc := 156) (j := 4) rfl rfl ?_
      refine q_aload_n (pc := 158) (j := 0) rfl rfl ?_
      refine q_get (pc := 159) (a := 70) (v := .ref 75) rfl fl_X9_23 hm.1 rfl rfl ?_
      refine q_iload (pc := 162) (j := 5) rfl rfl ?_
      refine q_fald (pc := 164) (a := 75) (x + k) rfl hm.2.2.2.2.2.1 (vp_in_nI (by omega) (by decide)) (nI_clamp (by omega)) ?_
      refine q_st (st2 := [.float ((lenV (mG S) (S.1 71 1) x n) k), .float (sumF (lenV (mG S) (S.1 71 1) x n) k)]) (by rw [mLl_L]) ?_
      refine q_fadd (pc := 165) rfl (fF_nn (atV_ok hok hw (by omega) (by omega) (k + 1) hk1).1) ?_
      refine q_fstore (pc := 166) (j := 4) [some (.ref 70), some (.int (nI x)), some (.int (nI y)), some (.int 0), some (.float (FP.fadd (sumF (lenV (mG S) (S.1 71 1) x n) k) ((lenV (mG S) (S.1 71 1) x n) k))), some (.int (nI (x + k)))] rfl (by decide) rfl ?_
      refine q_iinc (pc := 168) (j := 5) (n := 1) (nI (x + (k + 1))) [some (.ref 70), some (.int (nI x)), some (.int (nI y)), some (.int 0), some (.float (FP.fadd (sumF (lenV (mG S) (S.1 71 1) x n) k) ((lenV (mG S) (S.1 71 1) x n) k))), some (.int (nI (x + (k + 1))))] rfl (by decide) rfl (show nI (x + k) + 1 = nI (x + (k + 1)) from nI_1 (x + k)) rfl ?_
      refine q_goto (pc := 171) 109 rfl (by decide) ?_
      exact q_S mLl_s (ih (k + 1) (by omega))
    · refine q_aload_n (pc := 131) (j := 0) rfl rfl ?_
      refine q_iload (pc := 132) (j := 5) rfl rfl ?_
      refine q_callV (pc := 134) (as := [.int (nI (x + k))]) (rest := [.int (nI (x + k)), .ref 75]) (b := 70) (st2 := [.float (roG (mG S) (x + k)), .int (nI (x + k)), .ref 75]) rfl ce_X9_rod ml_X9_150 im_X9_rod se_X9_rod hm.1 rfl rfl rfl (by omega) (Nat.le_of_ble_eq_true rfl) (sp_X9_rodE (c := (x + k)) mLl_g hm (by omega) (hok (x + k) (by omega))) rfl ?_
      refine q_goto (pc := 137) 146 rfl (by decide) ?_
      refine q_st (st2 := [.float ((lenV (mG S) (S.1 71 1) x n) k), .int (nI (x + k)), .ref 75]) (by rw [(show (roG (mG S) (x + k)) = (lenV (mG S) (S.1 71 1) x n) k from (by rw [lenV, if_pos (pB_t h128)]))]) ?_
      refine q_fast (pc := 146) (a := 75) (x + k) rfl hm.2.2.2.2.2.1 (vp_in_nI (by omega) (by decide)) (nI_clamp (by omega)) ?_
      refine q_aload_n (pc := 147) (j := 0) rfl rfl ?_
      refine q_get (pc := 148) (a := 70) (v := .ref 76) rfl fl_X9_27 hm.1 rfl rfl ?_
      refine q_iload (pc := 151) (j := 5) rfl rfl ?_
      refine q_fload (pc := 153) (j := 4) rfl rfl ?_
      refine q_fast (pc := 155) (a := 76) (x + k) rfl hm.2.2.2.2.2.2.1 (vp_in_nI (by omega) (by decide)) (nI_clamp (by omega)) ?_
      refine q_fload (pc := 156) (j := 4) rfl rfl ?_
      refine q_aload_n (pc := 158) (j := 0) rfl rfl ?_
      refine q_get (pc := 159) (a := 70) (v := .ref 75) rfl fl_X9_23 hm.1 rfl rfl ?_
      refine q_iload (pc := 162) (j := 5) rfl rfl ?_
      refine q_fald (pc := 164) (a := 75) (x + k) rfl hm.2.2.2.2.2.1 (vp_in_nI (by omega) (by decide)) (nI_clamp (by omega)) ?_
      refine q_st (st2 := [.float ((lenV (mG S) (S.1 71 1) x n) k), .float (sumF (lenV (mG S) (S.1 71 1) x n) k)]) (by rw [mLl_L]) ?_
      refine q_fadd (pc := 165) rfl (fF_nn (atV_ok hok hw (by omega) (by omega) (k + 1) hk1).1) ?_
      refine q_fstore (pc := 166) (j := 4) [some (.ref 70), some (.int (nI x)), some (.int (nI y)), some (.int 0), some (.float (FP.fadd (sumF (lenV (mG S) (S.1 71 1) x n) k) ((lenV (mG S) (S.1 71 1) x n) k))), some (.int (nI (x + k)))] rfl (by decide) rfl ?_
      refine q_iinc (pc := 168) (j := 5) (n := 1) (nI (x + (k + 1))) [some (.ref 70), some (.int (nI x)), some (.int (nI y)), some (.int 0), some (.float (FP.fadd (sumF (lenV (mG S) (S.1 71 1) x n) k) ((lenV (mG S) (S.1 71 1) x n) k))), some (.int (nI (x + (k + 1))))] rfl (by decide) rfl (show nI (x + k) + 1 = nI (x + (k + 1)) from nI_1 (x + k)) rfl ?_
      refine q_goto (pc := 171) 109 rfl (by decide) ?_
      exact q_S mLl_s (ih (k + 1) (by omega))
theorem wan_set {g : Nat → Int32} {w : Int32} {a n N j : Nat} (hg : okG g N) (hw : okWd w) (hn : n ≤ 32) (han : a + n ≤ N) (hj : j < n) : vf_n32 (FP.fmul (setV g w a n).2 (flG g (a + j))) ∧ vf_n32 (FP.fadd (idG g (a + j)) (FP.fmul (setV g w a n).2 (flG g (a + j)))) := by
  have hq := setV_okQ hg hw hn han
  obtain ⟨⟨mi, i1, i2⟩, ⟨mf, f1, f2⟩⟩ := id_fu (hg (a + j) (by omega))
  have := wan_ok hq i1 i2 f1 f2
  exact ⟨this.1, this.2.1⟩
set_option maxRecDepth 100000 in
theorem sp_X9_laysOut {sh : List PSh} {S : PSt} (hm : isMo sh) {x y n N : Nat} (hn : x + n = y + 1) (hxy : x ≤ y) (hyN : y < N) (hN2 : N ≤ 32) (hok : okG (mG S) N) (hw : okWd (S.1 71 1))  : pF mX9_laysOut 4 [.ref 70, .int (nI x), .int (nI y)] sh S (lyM S x n) (none) := by
  refine pF.of (pG.of [some (.ref 70), some (.int (nI x)), some (.int (nI y)), none, none, none] (by decide) tk_X9_laysOut (Nat.le_of_ble_eq_true rfl) rfl (fun X => ?_))
  refine q_aload_n (pc := 0) (j := 0) rfl rfl ?_
  refine q_iconst (pc := 1) 0 rfl (by decide) ?_
  refine q_putI (pc := 2) (a := 70) rfl fl_X9_165 hm.1 rfl (fun _ h9 => by cases h9; rfl) rfl rfl ?_
  refine q_iload_n (pc := 5) (j := 1) rfl rfl ?_
  refine q_istore_n (pc := 6) (j := 3) [some (.ref 70), some (.int (nI x)), some (.int (nI y)), some (.int (nI x)), none, none] rfl (by decide) rfl ?_
  refine q_S mCl_0 (lp_X9_laysC (by decide) hm hn (by omega) (fun i => ?_) n 0 (Nat.zero_add n))
  refine q_iconst (pc := 25) 1 rfl (by decide) ?_
  refine q_istore_n (pc := 26) (j := 3) [some (.ref 70), some (.int (nI x)), some (.int (nI y)), some (.int 1), none, none] rfl (by decide) rfl ?_
  refine q_S mCl_L (lp_X9_laysR (by decide) hm hn hxy hyN hN2 hok hw (R := (setV (mG S) (S.1 71 1) x n)) (fun o => ?_) 32 (fun _ => false) _ none (by rw [cntH_none]; omega) rfl)
  refine q_iload_n (pc := 27) (j := 3) rfl rfl ?_
  refine q_if_eq (pc := 28) 103 rfl (by decide) (fun _ => ?_) (fun h9 => absurd (by decide : (0 : Int32) = 0) h9)
  refine q_fconst0 (pc := 103) rfl ?_
  refine q_fstore (pc := 104) (j := 4) [some (.ref 70), some (.int (nI x)), some (.int (nI y)), some (.int 0), some (.float FP.fconst0), none] rfl (by decide) rfl ?_
  refine q_iload_n (pc := 106) (j := 1) rfl rfl ?_
  refine q_istore (pc := 107) (j := 5) [some (.ref 70), some (.int (nI x)), some (.int (nI y)), some (.int 0), some (.float FP.fconst0), some (.int (nI x))] rfl (by decide) rfl ?_
  refine q_S (mLl_0 (x := x) (L := (lenV (mG S) (S.1 71 1) x n))).symm (lp_X9_laysL (by decide) hm hn hxy hyN hN2 hok hw (fun j hj => wan_set hok hw (by omega) (by omega) hj) (fun i v => ?_) n 0 (Nat.zero_add n))
  exact q_vret (pc := 174) rfl rfl ⟨rfl, rfl⟩
