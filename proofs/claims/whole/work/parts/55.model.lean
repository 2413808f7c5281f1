/-! the model: moved: written by wip/whole/gen/c55.py -/
theorem lyM_70 {S : PSt} {x n j : Nat} (h : j ≠ 5) : (lyM S x n).1 70 j = S.1 70 j := by
  show (mLh S x n (setV (mG S) (S.1 71 1) x n).1 (setV (mG S) (S.1 71 1) x n).2).1 70 j = _
  unfold mLh
  dsimp only
  rw [if_neg (by omega), if_neg (by omega)]
theorem sta_mono {g : Nat → Int32} {w : Int32} {N i : Nat} (hN : N ≤ 32) (hf : fouV g w N = true) : ∀ k, k ≤ linV g w N → i < k → staV g w N (i + 1) ≤ staV g w N k := by
  intro k
  induction k with
  | zero => intro _ h; omega
  | succ k ih =>
    intro hk hi
    have h1 := sta_lt (g := g) (w := w) hN hf (show k < linV g w N by omega)
    by_cases e : i = k
    · subst e; exact Nat.le_refl _
    · have := ih (by omega) (by omega); omega
/-- lines kept as they were: the first k -/
def wasR (g : Nat → Int32) (w : Int32) (N k : Nat) (U : PSt) : Prop := ∀ i, i < k → U.1 84 i = nI (staV g w N i) ∧ U.1 85 i = nI (staV g w N (i + 1) - 1) ∧ ∀ j, staV g w N i ≤ j → j < staV g w N (i + 1) → U.2.1 86 j = atV g w (staV g w N i) (staV g w N (i + 1) - staV g w N i) (j - staV g w N i)
def linR (g : Nat → Int32) (w : Int32) (N : Nat) (U : PSt) : Prop := U.1 70 15 = nI (linV g w N) ∧ ∀ i, i < linV g w N → U.1 82 i = nI (staV g w N i) ∧ U.1 83 i = nI (staV g w N (i + 1) - 1)
def kR (S : PSt) (N k : Nat) (U : PSt) : Prop := frM S U ∧ linR (mG S) (S.1 71 1) N U ∧ U.1 70 18 = nI (linV (mG S) (S.1 71 1) N) ∧ wasR (mG S) (S.1 71 1) N k U
/-- places kept of the first m columns from x on -/
def wT (V : PSt) (x m : Nat) : PSt := (V.1, fun c j => if c = 86 ∧ x ≤ j ∧ j < x + m then V.2.1 76 j else V.2.1 c j, V.2.2)
theorem wT_I {V : PSt} {x m : Nat} : (wT V x m).1 = V.1 := rfl
theorem wT_0 {V : PSt} {x : Nat} : V = wT V x 0 := by
  unfold wT
  refine Prod.ext rfl (Prod.ext (funext fun c => funext fun j => ?_) rfl)
  dsimp only
  rw [if_neg (by omega)]
theorem wT_s {V : PSt} {x m : Nat} : pSF (wT V x m) 86 (x + m) ((wT V x m).2.1 76 (x + m)) = wT V x (m + 1) := by
  unfold wT pSF pU
  refine Prod.ext rfl (Prod.ext (funext fun c => funext fun j => ?_) rfl)
  dsimp only
  by_cases h : c = 86 ∧ j = x + m
  · rw [if_pos h, if_neg (by omega), if_pos ⟨h.1, by omega, by omega⟩, h.2]
  · rw [if_neg h]
    by_cases h2 : c = 86 ∧ x ≤ j ∧ j < x + m
    · rw [if_pos h2, if_pos ⟨h2.1, h2.2.1, by omega⟩]
    · rw [if_neg h2, if_neg (by omega)]
theorem fm_wT {V : PSt} {x m : Nat} : frM V (wT V x m) := by
  refine ⟨fun c h1 h2 => ⟨rfl, ?_, rfl, rfl⟩, rfl, rfl⟩
  funext j
  unfold wT
  dsimp only
  rw [if_neg (by omega)]
/-- one line more is kept -/
def kU (U : PSt) (k x y : Nat) : PSt := pSI (pSI U 84 k (nI x)) 85 k (nI y)
theorem kU_fr {S U : PSt} {k x y : Nat} (h : frM S U) : frM S (kU U k x y) := fm_tr (fm_tr h (fm_I (by decide))) (fm_I (by decide))
theorem kU_o {U : PSt} {k x y c : Nat} (h1 : c ≠ 84) (h2 : c ≠ 85) : (kU U k x y).1 c = U.1 c := (pSI_ne h2).trans (pSI_ne h1)
theorem kR_s {S U : PSt} {N k : Nat} (hN : N ≤ 32) (hf : fouV (mG S) (S.1 71 1) N = true) (hk : k < linV (mG S) (S.1 71 1) N) (h : kR S N k U) :
    kR S N (k + 1) (wT (lyM (kU U k (staV (mG S) (S.1 71 1) N k) (staV (mG S) (S.1 71 1) N (k + 1) - 1)) (staV (mG S) (S.1 71 1) N k) (staV (mG S) (S.1 71 1) N (k + 1) - 1 - staV (mG S) (S.1 71 1) N k + 1)) (staV (mG S) (S.1 71 1) N k) (staV (mG S) (S.1 71 1) N (k + 1) - 1 - staV (mG S) (S.1 71 1) N k + 1)) := by
  obtain ⟨h1, ⟨h2, h3⟩, h4, h5⟩ := h
  have hlt := sta_lt (g := mG S) (w := S.1 71 1) hN hf hk
  have en : staV (mG S) (S.1 71 1) N (k + 1) - 1 - staV (mG S) (S.1 71 1) N k + 1 = staV (mG S) (S.1 71 1) N (k + 1) - staV (mG S) (S.1 71 1) N k := by omega
  rw [en]
  have f2 := kU_fr (k := k) (x := staV (mG S) (S.1 71 1) N k) (y := staV (mG S) (S.1 71 1) N (k + 1) - 1) h1
  refine ⟨fm_tr f2 (fm_tr fm_ly fm_wT), ⟨?_, fun i hi => ⟨?_, ?_⟩⟩, ?_, fun i hi => ⟨?_, ?_, fun j hj1 hj2 => ?_⟩⟩
  · rw [wT_I, lyM_70 (by decide), kU_o (by decide) (by decide)]; exact h2
  · rw [wT_I, lyM_o (by decide) (by decide), kU_o (by decide) (by decide)]; exact (h3 i hi).1
  · rw [wT_I, lyM_o (by decide) (by decide), kU_o (by decide) (by decide)]; exact (h3 i hi).2
  · rw [wT_I, lyM_70 (by decide), kU_o (by decide) (by decide)]; exact h4
  · rw [wT_I, lyM_o (by decide) (by decide)]
    unfold kU
    rw [pSI_ne (by decide)]
    by_cases e : i = k
    · subst e; exact pSI_at
    · rw [pSI_j e]; exact (h5 i (by omega)).1
  · rw [wT_I, lyM_o (by decide) (by decide)]
    unfold kU
    by_cases e : i = k
    · subst e; exact pSI_at
    · rw [pSI_j e, pSI_ne (by decide)]; exact (h5 i (by omega)).2.1
  · unfold wT
    dsimp only
    by_cases e : i = k
    · subst e
      rw [if_pos ⟨rfl, hj1, by omega⟩]
      exact lyT_at f2 hj1 (by omega)
    · have := sta_mono (g := mG S) (w := S.1 71 1) (i := i) hN hf k (by omega) (by omega)
      rw [if_neg (by omega), show (lyM (kU U k (staV (mG S) (S.1 71 1) N k) (staV (mG S) (S.1 71 1) N (k + 1) - 1)) (staV (mG S) (S.1 71 1) N k) (staV (mG S) (S.1 71 1) N (k + 1) - staV (mG S) (S.1 71 1) N k)).2.1 86 = (kU U k (staV (mG S) (S.1 71 1) N k) (staV (mG S) (S.1 71 1) N (k + 1) - 1)).2.1 86 from fw_ly.2.2.2.1]
      exact (h5 i (by omega)).2.2 j hj1 hj2
set_option maxRecDepth 100000 in
theorem lp_X9_keepsI {n0 : Nat} {X : Nat × (Nat → Int32)} {P : Option Value → PSt → Prop} {d : Nat} (hd9 : 0 ≤ d) {sh : List PSh} (hm : isMo sh) {V : PSt} {x y n q : Nat} (hq : q < 33) (hn : x + n = y + 1) (hy : y < 32) (h83 : V.1 83 q = nI y)  (hex : ∀ i, pV mX9_keepsLines d n0 X sh P 93 [some (.ref 70), some (.int (nI q)), some (.int i)] [] (wT V x n)) : ∀ (m k : Nat), k + m = n → pV mX9_keepsLines d n0 X sh P 65 [some (.ref 70), some (.int (nI q)), some (.int (nI (x + k)))] [] (wT V x k) := by
  intro m
  induction m with
  | zero =>
    intro k hk
    have hk9 : n = k := by omega
    subst hk9
    refine q_iload_n (pc := 65) (j := 2) rfl rfl ?_
    refine q_aload_n (pc := 66) (j := 0) rfl rfl ?_
    refine q_get (pc := 67) (a := 70) (v := .ref 83) rfl fl_X9_48 hm.1 rfl rfl ?_
    refine q_iload_n (pc := 70) (j := 1) rfl rfl ?_
    refine q_iald (pc := 71) (a := 83) q rfl hm.2.2.2.2.2.2.2.2.2.2.2.2.2.1 (vp_in_nI (by omega) (by decide)) (nI_clamp (by omega)) ?_
    refine q_st (st2 := [.int (nI y), .int (nI (x + n))]) (by rw [(show ((wT V x n).1 83 q) = nI y from h83)]) ?_
    refine q_icmp_gt (pc := 72) 93 rfl (by decide) (fun _ => ?_) (fun h9 => absurd (nI_lt (by omega) (by omega)) h9)
    exact hex _
  | succ m ih =>
    intro k hk
    have hk1 : k < n := by omega
    have hk2 : k < n := hk1
    refine q_iload_n (pc := 65) (j := 2) rfl rfl ?_
    refine q_aload_n (pc := 66) (j := 0) rfl rfl ?_
    refine q_get (pc := 67) (a := 70) (v := .ref 83) rfl fl_X9_48 hm.1 rfl rfl ?_
    refine q_iload_n (pc := 70) (j := 1) rfl rfl ?_
    refine q_iald (pc := 71) (a := 83) q rfl hm.2.2.2.2.2.2.2.2.2.2.2.2.2.1 (vp_in_nI (by omega) (by decide)) (nI_clamp (by omega)) ?_
    refine q_st (st2 := [.int (nI y), .int (nI (x + k))]) (by rw [(show ((wT V x k).1 83 q) = nI y from h83)]) ?_
    refine q_icmp_gt (pc := 72) 93 rfl (by decide) (fun h9 => absurd h9 (nI_nlt (by omega) (by omega))) (fun _ => ?_)
    refine q_aload_n (pc := 75) (j := 0) rfl rfl ?_
    refine q_get (pc := 76) (a := 70) (v := .ref 86) rfl fl_X9_57 hm.1 rfl rfl ?_
    refine q_iload_n (pc := 79) (j := 2) rfl rfl ?_
    refine q_aload_n (pc := 80) (j := 0) rfl rfl ?_
    refine q_get (pc := 81) (a := 70) (v := .ref 76) rfl fl_X9_27 hm.1 rfl rfl ?_
    refine q_iload_n (pc := 84) (j := 2) rfl rfl ?_
    refine q_fald (pc := 85) (a := 76) (x + k) rfl hm.2.2.2.2.2.2.1 (vp_in_nI (by omega) (by decide)) (nI_clamp (by omega)) ?_
    refine q_fast (pc := 86) (a := 86) (x + k) rfl hm.2.2.2.2.2.2.2.2.2.2.2.2.2.2.2.2.1 (vp_in_nI (by omega) (by decide)) (nI_clamp (by omega)) ?_
    refine q_iinc (pc := 87) (j := 2) (n := 1) (nI (x + (k + 1))) [some (.ref 70), some (.int (nI q)), some (.int (nI (x + (k + 1))))] rfl (by decide) rfl (show nI (x + k) + 1 = nI (x + (k + 1)) from nI_1 (x + k)) rfl ?_
    refine q_goto (pc := 90) 65 rfl (by decide) ?_
    exact q_S wT_s (ih (k + 1) (by omega))
set_option maxRecDepth 100000 in
theorem lp_X9_keepsO {n0 : Nat} {X : Nat × (Nat → Int32)} {P : Option Value → PSt → Prop} {d : Nat} (hd9 : 5 ≤ d) {sh : List PSh} {S : PSt} {N : Nat} (hm : isMo sh) (hi : mIv S N) (hN2 : N ≤ 32) (hf : fouV (mG S) (S.1 71 1) N = true) (hL : (linV (mG S) (S.1 71 1) N) ≤ 32)  (hex : ∀ i o2 U, kR S N (linV (mG S) (S.1 71 1) N) U → pV mX9_keepsLines d n0 X sh P 99 [some (.ref 70), some (.int i), o2] [] U) : ∀ (m k : Nat) (o2 : Option Value) (U : PSt), k + m = (linV (mG S) (S.1 71 1) N) → kR S N k U → pV mX9_keepsLines d n0 X sh P 10 [some (.ref 70), some (.int (nI k)), o2] [] U := by
  intro m
  induction m with
  | zero =>
    intro k o2 U hk hU
    have hk9 : (linV (mG S) (S.1 71 1) N) = k := by omega
    subst hk9
    refine q_iload_n (pc := 10) (j := 1) rfl rfl ?_
    refine q_aload_n (pc := 11) (j := 0) rfl rfl ?_
    refine q_get (pc := 12) (a := 70) (v := .int (U.1 70 15)) rfl fl_X9_201 hm.1 rfl rfl ?_
    refine q_st (st2 := [.int (nI (linV (mG S) (S.1 71 1) N)), .int (nI (linV (mG S) (S.1 71 1) N))]) (by rw [(show (U.1 70 15) = _ from hU.2.1.1)]) ?_
    refine q_icmp_ge (pc := 15) 99 rfl (by decide) (fun _ => ?_) (fun h9 => absurd (Int32.le_refl _) h9)
    exact hex _ _ _ hU
  | succ m ih =>
    intro k o2 U hk hU
    have hk1 : k < (linV (mG S) (S.1 71 1) N) := by omega
    have hk2 : k < (linV (mG S) (S.1 71 1) N) := hk1
    refine q_iload_n (pc := 10) (j := 1) rfl rfl ?_
    refine q_aload_n (pc := 11) (j := 0) rfl rfl ?_
    refine q_get (pc := 12) (a := 70) (v := .int (U.1 70 15)) rfl fl_X9_201 hm.1 rfl rfl ?_
    refine q_st (st2 := [.int (nI (linV (mG S) (S.1 71 1) N)), .int (nI k)]) (by rw [(show (U.1 70 15) = _ from hU.2.1.1)]) ?_
    refine q_icmp_ge (pc := 15) 99 rfl (by decide) (fun h9 => absurd h9 (nI_ge hk1 (by omega))) (fun _ => ?_)
    have hlt := sta_lt (g := mG S) (w := S.1 71 1) hN2 hf hk1
    refine q_aload_n (pc := 18) (j := 0) rfl rfl ?_
    refine q_get (pc := 19) (a := 70) (v := .ref 84) rfl fl_X9_51 hm.1 rfl rfl ?_
    refine q_iload_n (pc := 22) (j := 1) rfl rfl ?_
    refine q_aload_n (pc := 23) (j := 0) rfl rfl ?_
    refine q_get (pc := 24) (a := 70) (v := .ref 82) rfl fl_X9_45 hm.1 rfl rfl ?_
    refine q_iload_n (pc := 27) (j := 1) rfl rfl ?_
    refine q_iald (pc := 28) (a := 82) k rfl hm.2.2.2.2.2.2.2.2.2.2.2.2.1 (vp_in_nI (by omega) (by decide)) (nI_clamp (by omega)) ?_
    refine q_st (st2 := [.int (nI (staV (mG S) (S.1 71 1) N k)), .int (nI k), .ref 84]) (by rw [(show (U.1 82 k) = _ from (hU.2.1.2 k hk1).1)]) ?_
    refine q_iast (pc := 29) (a := 84) k rfl hm.2.2.2.2.2.2.2.2.2.2.2.2.2.2.1 (vp_in_nI (by omega) (by decide)) (nI_clamp (by omega)) ?_
    refine q_aload_n (pc := 30) (j := 0) rfl rfl ?_
    refine q_get (pc := 31) (a := 70) (v := .ref 85) rfl fl_X9_54 hm.1 rfl rfl ?_
    refine q_iload_n (pc := 34) (j := 1) rfl rfl ?_
    refine q_aload_n (pc := 35) (j := 0) rfl rfl ?_
    refine q_get (pc := 36) (a := 70) (v := .ref 83) rfl fl_X9_48 hm.1 rfl rfl ?_
    refine q_iload_n (pc := 39) (j := 1) rfl rfl ?_
    refine q_iald (pc := 40) (a := 83) k rfl hm.2.2.2.2.2.2.2.2.2.2.2.2.2.1 (vp_in_nI (by omega) (by decide)) (nI_clamp (by omega)) ?_
    refine q_st (st2 := [.int (nI ((staV (mG S) (S.1 71 1) N (k + 1)) - 1)), .int (nI k), .ref 85]) (by rw [(show ((pSI U 84 k (nI (staV (mG S) (S.1 71 1) N k))).1 83 k) = _ from (congrFun (pSI_ne (by decide)) k).trans (hU.2.1.2 k hk1).2)]) ?_
    refine q_iast (pc := 41) (a := 85) k rfl hm.2.2.2.2.2.2.2.2.2.2.2.2.2.2.2.1 (vp_in_nI (by omega) (by decide)) (nI_clamp (by omega)) ?_
    refine q_S (S2 := (kU U k (staV (mG S) (S.1 71 1) N k) ((staV (mG S) (S.1 71 1) N (k + 1)) - 1))) rfl ?_
    refine q_aload_n (pc := 42) (j := 0) rfl rfl ?_
    refine q_aload_n (pc := 43) (j := 0) rfl rfl ?_
    refine q_get (pc := 44) (a := 70) (v := .ref 82) rfl fl_X9_45 hm.1 rfl rfl ?_
    refine q_iload_n (pc := 47) (j := 1) rfl rfl ?_
    refine q_iald (pc := 48) (a := 82) k rfl hm.2.2.2.2.2.2.2.2.2.2.2.2.1 (vp_in_nI (by omega) (by decide)) (nI_clamp (by omega)) ?_
    refine q_st (st2 := [.int (nI (staV (mG S) (S.1 71 1) N k)), .ref 70]) (by rw [(show ((kU U k (staV (mG S) (S.1 71 1) N k) ((staV (mG S) (S.1 71 1) N (k + 1)) - 1)).1 82 k) = _ from (congrFun (kU_o (by decide) (by decide)) k).trans (hU.2.1.2 k hk1).1)]) ?_
    refine q_aload_n (pc := 49) (j := 0) rfl rfl ?_
    refine q_get (pc := 50) (a := 70) (v := .ref 83) rfl fl_X9_48 hm.1 rfl rfl ?_
    refine q_iload_n (pc := 53) (j := 1) rfl rfl ?_
    refine q_iald (pc := 54) (a := 83) k rfl hm.2.2.2.2.2.2.2.2.2.2.2.2.2.1 (vp_in_nI (by omega) (by decide)) (nI_clamp (by omega)) ?_
    refine q_st (st2 := [.int (nI ((staV (mG S) (S.1 71 1) N (k + 1)) - 1)), .int (nI (staV (mG S) (S.1 71 1) N k)), .ref 70]) (by rw [(show ((kU U k (staV (mG S) (S.1 71 1) N k) ((staV (mG S) (S.1 71 1) N (k + 1)) - 1)).1 83 k) = _ from (congrFun (kU_o (by decide) (by decide)) k).trans (hU.2.1.2 k hk1).2)]) ?_
    refine q_callV (pc := 55) (as := [.int (nI (staV (mG S) (S.1 71 1) N k)), .int (nI ((staV (mG S) (S.1 71 1) N (k + 1)) - 1))]) (rest := []) (b := 70) (st2 := []) rfl ce_X9_laysOut ml_X9_179 im_X9_laysOut se_X9_laysOut hm.1 rfl rfl rfl (by omega) (Nat.le_of_ble_eq_true rfl) (sp_X9_laysOutI (x := (staV (mG S) (S.1 71 1) N k)) (y := ((staV (mG S) (S.1 71 1) N (k + 1)) - 1)) (N := N) hm (fm_iv (kU_fr hU.1) hi) (by omega) (by omega)) rfl ?_
    refine q_aload_n (pc := 58) (j := 0) rfl rfl ?_
    refine q_get (pc := 59) (a := 70) (v := .ref 82) rfl fl_X9_45 hm.1 rfl rfl ?_
    refine q_iload_n (pc := 62) (j := 1) rfl rfl ?_
    refine q_iald (pc := 63) (a := 82) k rfl hm.2.2.2.2.2.2.2.2.2.2.2.2.1 (vp_in_nI (by omega) (by decide)) (nI_clamp (by omega)) ?_
    refine q_st (st2 := [.int (nI (staV (mG S) (S.1 71 1) N k))]) (by rw [(show ((lyM (kU U k (staV (mG S) (S.1 71 1) N k) ((staV (mG S) (S.1 71 1) N (k + 1)) - 1)) (staV (mG S) (S.1 71 1) N k) (((staV (mG S) (S.1 71 1) N (k + 1)) - 1) - (staV (mG S) (S.1 71 1) N k) + 1)).1 82 k) = _ from (congrFun ((lyM_o (by decide) (by decide)).trans (kU_o (by decide) (by decide))) k).trans (hU.2.1.2 k hk1).1)]) ?_
    refine q_istore_n (pc := 64) (j := 2) [some (.ref 70), some (.int (nI k)), some (.int (nI (staV (mG S) (S.1 71 1) N k)))] rfl (by decide) rfl ?_
    refine q_L (L2 := [some (.ref 70), some (.int (nI k)), some (.int (nI ((staV (mG S) (S.1 71 1) N k) + 0)))]) rfl (q_S (wT_0 (x := (staV (mG S) (S.1 71 1) N k))) (lp_X9_keepsI (x := (staV (mG S) (S.1 71 1) N k)) (y := ((staV (mG S) (S.1 71 1) N (k + 1)) - 1)) (n := (((staV (mG S) (S.1 71 1) N (k + 1)) - 1) - (staV (mG S) (S.1 71 1) N k) + 1)) (by omega) hm (by omega) (by omega) (by omega) ((congrFun ((lyM_o (by decide) (by decide)).trans (kU_o (by decide) (by decide))) k).trans (hU.2.1.2 k hk1).2) (fun i => ?_) (((staV (mG S) (S.1 71 1) N (k + 1)) - 1) - (staV (mG S) (S.1 71 1) N k) + 1) 0 (Nat.zero_add _)))
    refine q_iinc (pc := 93) (j := 1) (n := 1) (nI (k + 1)) [some (.ref 70), some (.int (nI (k + 1))), some (.int i)] rfl (by decide) rfl (nI_1 k) rfl ?_
    refine q_goto (pc := 96) 10 rfl (by decide) ?_
    exact ih (k + 1) _ _ (by omega) (kR_s hN2 hf hk1 hU)
theorem kR_0 {S T : PSt} {N : Nat} (h : brR S N T) (hf : fouV (mG S) (S.1 71 1) N = true) : kR S N 0 (pSI T 70 18 (T.1 70 15)) := by
  have h2 := h.2 hf
  have hfr : frM T (pSI T 70 18 (T.1 70 15)) := ⟨fun c h1 _ => ⟨pSI_ne h1, rfl, rfl, rfl⟩, pSI_j (by decide), pSI_j (by decide)⟩
  refine ⟨fm_tr h.1.1 hfr, ⟨(pSI_j (by decide)).trans h2.1, fun i hi => ?_⟩, pSI_at.trans h2.1, fun i hi => by omega⟩
  rw [pSI_ne (by decide), pSI_ne (by decide)]
  exact h2.2.2 i hi
set_option maxRecDepth 100000 in
theorem sp_X9_keepsLines {sh : List PSh} {S T : PSt} {N : Nat} (hm : isMo sh) (hi : mIv S N) (hT : brR S N T) (hf : fouV (mG S) (S.1 71 1) N = true) : pG mX9_keepsLines 5 [.ref 70] sh T (fun r9 T9 => r9 = none ∧ kR S N (linV (mG S) (S.1 71 1) N) T9) := by
  have hN2 := hi.2.1
  have hL := Nat.le_trans (lin_le (g := mG S) (w := S.1 71 1) hN2 hf) hN2
  refine pG.of [some (.ref 70), none, none] (by decide) tk_X9_keepsLines (Nat.le_of_ble_eq_true rfl) rfl (fun X => ?_)
  refine q_aload_n (pc := 0) (j := 0) rfl rfl ?_
  refine q_aload_n (pc := 1) (j := 0) rfl rfl ?_
  refine q_get (pc := 2) (a := 70) (v := .int (T.1 70 15)) rfl fl_X9_201 hm.1 rfl rfl ?_
  refine q_putI (pc := 5) (a := 70) rfl fl_X9_214 hm.1 rfl (fun _ h9 => by cases h9; rfl) rfl rfl ?_
  refine q_iconst (pc := 8) 0 rfl (by decide) ?_
  refine q_istore_n (pc := 9) (j := 1) [some (.ref 70), some (.int 0), none] rfl (by decide) rfl ?_
  refine lp_X9_keepsO (by decide) hm hi hN2 hf hL (fun i o2 U hU => ?_) (linV (mG S) (S.1 71 1) N) 0 none _ (Nat.zero_add _) (kR_0 hT hf)
  exact q_vret (pc := 99) rfl rfl ⟨rfl, hU⟩
