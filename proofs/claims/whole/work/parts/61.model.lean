/-! the model: music is read: written by wip/whole/gen/c61.py -/
theorem nmF_ge {b : Nat → Int32} {z : Nat} {most : Int32} : ∀ (k : Nat) (v : Int32) (p : Nat), p ≤ (nmF b z most k v p).2 := by
  intro k
  induction k with
  | zero => intro v p; exact Nat.le_refl _
  | succ k ih =>
    intro v p
    unfold nmF
    split
    · exact Nat.le_refl _
    · split
      · exact Nat.le_refl _
      · split
        · exact Nat.le_refl _
        · have := ih (v * 10 + dgF b z p) (p + 1); omega
theorem numF_ge {b : Nat → Int32} {z p : Nat} {least most : Int32} : p ≤ (numF b z least most p).2 := by
  unfold numF
  split
  · exact Nat.le_refl _
  · split
    · exact Nat.le_refl _
    · have := nmF_ge (b := b) (z := z) (most := most) 160 (dgF b z p) (p + 1); omega
theorem sgF_gt {b : Nat → Int32} {z p : Nat} {q : Int32 × Int32 × Int32 × Nat} (h : sgF b z p = .inl q) : p < q.2.2.2 := by
  have n1 := numF_ge (b := b) (z := z) (p := p + 1) (least := 1) (most := 64)
  have n2 := numF_ge (b := b) (z := z) (p := (numF b z 1 64 (p + 1)).2 + 1) (least := 0) (most := 20)
  have n3 := numF_ge (b := b) (z := z) (p := (numF b z 1 64 (p + 1)).2 + 1) (least := 1) (most := 12)
  unfold sgF at h
  (repeat' split at h) <;> first | (cases h; done) | (cases h; dsimp only; omega)
theorem mu0 {S : PSt} : pSI (pSI (pSI S 70 24 0) 70 25 1) 70 27 0 = rdM (pSI S 70 27 0) true 0 := by
  rw [← rd_27]
  rfl
/-- the signs l lie in the array of signs -/
def enL (U : PSt) (l : List PSg) : Prop := ∀ i q, l[i]? = some q → U.1 88 (5 * i + 0) = q.1 ∧ U.1 88 (5 * i + 1) = q.2.1 ∧ U.1 88 (5 * i + 2) = q.2.2.1 ∧ U.1 88 (5 * i + 4) = q.2.2.2
theorem enL_s {E U : PSt} {l : List PSg} {q : Int32 × Int32 × Int32 × Nat} {a : Int32} (h : enL E l) (hs : sgQ E U l.length) (he : sgE U l.length q a) : enL U (l ++ [(q.1, q.2.1, q.2.2.1, a)]) := by
  intro i x hx
  by_cases hi : i < l.length
  · rw [List.getElem?_append_left hi] at hx
    have := h i x hx
    rw [hs.2 _ (by omega), hs.2 _ (by omega), hs.2 _ (by omega), hs.2 _ (by omega)]
    exact this
  · rw [List.getElem?_append_right (by omega)] at hx
    have hi2 : i - l.length = 0 := by
      rcases e : i - l.length with _ | k
      · rfl
      · rw [e] at hx; simp at hx
    have e : i = l.length := by omega
    subst e
    rw [Nat.sub_self] at hx
    simp at hx
    subst hx
    exact ⟨he.1, he.2.1, he.2.2.1, he.2.2.2⟩
/-- where the reading ends -/
def muF (S : PSt) (z : Nat) (R : Int32 × List PSg) (U : PSt) (g : Bool) (p : Nat) : Prop := frM S U ∧ p ≤ z ∧ (if R.1 = -1 then g = true ∧ z ≤ p ∧ U.1 70 27 = nI R.2.length ∧ enL U R.2 else R.1 = nI p ∧ (g = false ∨ p < z))
theorem muF_f {S U : PSt} {z f : Nat} {R : Int32 × List PSg} (h1 : frM S U) (h2 : f ≤ z) (hz : z ≤ 160) (h3 : R.1 = nI f) : muF S z R U false f := by
  refine ⟨h1, h2, ?_⟩
  rw [if_neg (by rw [h3]; exact nI_nm1 (by omega))]
  exact ⟨h3, Or.inl rfl⟩
theorem muF_p {S U : PSt} {z p : Nat} {R : Int32 × List PSg} (h1 : frM S U) (h2 : p < z) (hz : z ≤ 160) (h3 : R.1 = nI p) : muF S z R U true p := by
  refine ⟨h1, by omega, ?_⟩
  rw [if_neg (by rw [h3]; exact nI_nm1 (by omega))]
  exact ⟨h3, Or.inr h2⟩
theorem muF_e {S U : PSt} {z p : Nat} {R : Int32 × List PSg} (h1 : frM S U) (h2 : p ≤ z) (h3 : R.1 = -1) (h4 : z ≤ p) (h5 : U.1 70 27 = nI R.2.length) (h6 : enL U R.2) : muF S z R U true p := by
  refine ⟨h1, h2, ?_⟩
  rw [if_pos h3]
  exact ⟨rfl, h4, h5, h6⟩
theorem muP_r {b : Nat → Int32} {z k p f : Nat} (h : sgF b z p = .inr f) : (muP b z (k + 1) p) = (nI f, []) := by rw [muP, h]
theorem muP_e {b : Nat → Int32} {z k p : Nat} {q : Int32 × Int32 × Int32 × Nat} (h : sgF b z p = .inl q) (h2 : z ≤ q.2.2.2 + adF b z 9 q.2.2.2) : muP b z (k + 1) p = (-1, [(q.1, q.2.1, q.2.2.1, nI (adF b z 9 q.2.2.2))]) := by rw [muP, h]; simp only []; rw [if_pos h2]
theorem muP_n {b : Nat → Int32} {z k p : Nat} {q : Int32 × Int32 × Int32 × Nat} (h : sgF b z p = .inl q) (h2 : ¬ z ≤ q.2.2.2 + adF b z 9 q.2.2.2) (h3 : nxB b z (q.2.2.2 + adF b z 9 q.2.2.2) 32 = false) : muP b z (k + 1) p = (nI (q.2.2.2 + adF b z 9 q.2.2.2), [(q.1, q.2.1, q.2.2.1, nI (adF b z 9 q.2.2.2))]) := by
  rw [muP, h]; simp only []; rw [if_neg h2, if_neg (by rw [h3]; decide)]
theorem muP_y {b : Nat → Int32} {z k p : Nat} {q : Int32 × Int32 × Int32 × Nat} (h : sgF b z p = .inl q) (h3 : nxB b z (q.2.2.2 + adF b z 9 q.2.2.2) 32 = true) : muP b z (k + 1) p = ((muP b z k (q.2.2.2 + adF b z 9 q.2.2.2 + 1)).1, (q.1, q.2.1, q.2.2.1, nI (adF b z 9 q.2.2.2)) :: (muP b z k (q.2.2.2 + adF b z 9 q.2.2.2 + 1)).2) := by
  have := nx_in h3
  rw [muP, h]; simp only []; rw [if_neg (by omega), if_pos h3]
set_option maxRecDepth 100000 in
theorem lp_X9_music {n0 : Nat} {X : Nat × (Nat → Int32)} {P : Option Value → PSt → Prop} {d : Nat} (hd9 : 4 ≤ d) {sh : List PSh} (hm : isMo sh) {S : PSt} {b : Nat → Int32} {z : Nat} {R : Int32 × List PSg} (hz : S.1 70 23 = nI z) (hb : S.1 87 = b) (hz1 : z ≤ 160) (hex : ∀ U g p, muF S z R U g p → pV mX9_music d n0 X sh P 35 [some (.ref 70), none, none] [] (rdM U g p)) : ∀ (k : Nat) (l : List PSg) (p : Nat) (E T : PSt), l.length + (k + 1) = 160 → 2 * l.length ≤ p → p ≤ z → frM S E → enL E l → sgP E z l.length p T → R = ((muP b z (k + 1) p).1, l ++ (muP b z (k + 1) p).2) → pV mX9_music d n0 X sh P 19 [some (.ref 70), none, none] [] T := by
  intro k
  induction k with
  | zero =>
    intro l p E T hk h2 hp hE hl hT hR
    omega
  | succ k ih =>
    intro l p E T hk h2 hp hE hl hT hR
    have hbE : E.1 87 = b := (hE.1 87 (by decide) (by decide)).1.trans hb
    have hle := sgF_le (b := b) (z := z) hp
    unfold sgP at hT
    rw [hbE] at hT
    cases hs : sgF b z p with
    | inr f =>
      obtain ⟨U, rfl, hU, h27U⟩ := hT.1 f hs
      have hf := hle.1 f hs
      have hzU : U.1 70 23 = nI z := (hU.1.2.2.trans hE.2.2).trans hz
      refine q_aload_n (pc := 19) (j := 0) rfl rfl ?_
      refine q_bipush (pc := 20) 32 rfl (by decide) ?_
      refine q_callV (pc := 22) (as := [.int 32]) (rest := []) (b := 70) (st2 := [.int 0]) rfl ce_X9_takes ml_X9_277 im_X9_takes se_X9_takes hm.1 rfl rfl rfl (by omega) (Nat.le_of_ble_eq_true rfl) (sp_X9_takesF (S := U) (p := f) hm hzU hz1 (by omega)) rfl ?_
      refine q_if_eq (pc := 25) 35 rfl (by decide) (fun _ => ?_) (fun h9 => absurd (by decide : (0 : Int32) = 0) h9)
      exact hex _ _ _ (muF_f (fm_tr hE hU.1) (by omega) hz1 (by rw [hR, muP_r hs]))
    | inl q =>
      obtain ⟨U, rfl, hU, h27U, hent⟩ := hT.2 q hs
      have hq := hle.2 q hs
      have hgt := sgF_gt hs
      have hEU := fm_tr hE hU.1
      have hzU : U.1 70 23 = nI z := hEU.2.2.trans hz
      have hbU : U.1 87 = b := (hEU.1 87 (by decide) (by decide)).1.trans hb
      have had := adF_le (b := b) (z := z) 9 q.2.2.2 hq
      have hl2 := enL_s hl hU hent
      have hlen : (l ++ [(q.1, q.2.1, q.2.2.1, nI (adF b z 9 q.2.2.2))]).length = l.length + 1 := by simp
      have hfin : nxB b z (q.2.2.2 + adF b z 9 q.2.2.2) 32 = false → pV mX9_music d n0 X sh P 35 [some (.ref 70), none, none] [] (rdM U true (q.2.2.2 + adF b z 9 q.2.2.2)) := by
        intro hq9
        by_cases hze : z ≤ q.2.2.2 + adF b z 9 q.2.2.2
        · rw [muP_e hs hze] at hR
          exact hex _ _ _ (muF_e hEU (by omega) (by rw [hR]) hze (by rw [hR]; show U.1 70 27 = nI (l ++ [_]).length; rw [hlen]; exact h27U) (by rw [hR]; exact hl2))
        · rw [muP_n hs hze hq9] at hR
          exact hex _ _ _ (muF_p hEU (by omega) hz1 (by rw [hR]))
      have hgo : nxB b z (q.2.2.2 + adF b z 9 q.2.2.2) 32 = true → ∀ T2, sgP U z (l.length + 1) (q.2.2.2 + adF b z 9 q.2.2.2 + 1) T2 → pV mX9_music d n0 X sh P 19 [some (.ref 70), none, none] [] T2 := by
        intro hq9 T2 hT2
        have hin := nx_in hq9
        refine ih (l ++ [(q.1, q.2.1, q.2.2.1, nI (adF b z 9 q.2.2.2))]) (q.2.2.2 + adF b z 9 q.2.2.2 + 1) U T2 (by rw [hlen]; omega) (by rw [hlen]; omega) (by omega) hEU hl2 (by rw [hlen]; exact hT2) ?_
        rw [hR, muP_y hs hq9, List.append_assoc]
        rfl
      refine q_aload_n (pc := 19) (j := 0) rfl rfl ?_
      refine q_bipush (pc := 20) 32 rfl (by decide) ?_
      refine q_callV (pc := 22) (as := [.int 32]) (rest := []) (b := 70) (st2 := [.int (pB (nxB b z (q.2.2.2 + adF b z 9 q.2.2.2) 32))]) rfl ce_X9_takes ml_X9_277 im_X9_takes se_X9_takes hm.1 rfl rfl rfl (by omega) (Nat.le_of_ble_eq_true rfl) (sp_X9_takesT (S := U) (p := (q.2.2.2 + adF b z 9 q.2.2.2)) (b := b) hbU hm hzU hz1 (by omega)) rfl ?_
      rcases Bool.eq_false_or_eq_true (nxB b z (q.2.2.2 + adF b z 9 q.2.2.2) 32) with hq9 | hq9
      · refine q_st (st2 := [.int 1]) (by rw [hq9]; rfl) (q_S (S2 := (rdM U true ((q.2.2.2 + adF b z 9 q.2.2.2) + 1))) (by rw [hq9]; rfl) ?_)
        refine q_if_eq (pc := 25) 35 rfl (by decide) (fun h9 => absurd h9 (by decide : ¬ (1 : Int32) = 0)) (fun _ => ?_)
        refine q_aload_n (pc := 28) (j := 0) rfl rfl ?_
        refine q_callVG (pc := 29) (as := []) (rest := []) (b := 70) rfl ce_X9_sign ml_X9_283 im_X9_sign se_X9_sign hm.1 rfl rfl rfl (by omega) (Nat.le_of_ble_eq_true rfl) (sp_X9_sign (S := U) (z := z) (m := l.length + 1) (p := (q.2.2.2 + adF b z 9 q.2.2.2) + 1) hm hzU hz1 (nx_in hq9) h27U (by omega)) (fun r9 S9 h9 => ?_)
        obtain ⟨hr9, hT9⟩ := h9
        subst hr9
        refine q_st (st2 := []) rfl ?_
        refine q_goto (pc := 32) 19 rfl (by decide) ?_
        exact hgo hq9 S9 hT9
      · refine q_st (st2 := [.int 0]) (by rw [hq9]; rfl) (q_S (S2 := (rdM U true (q.2.2.2 + adF b z 9 q.2.2.2))) (by rw [hq9]; rfl) ?_)
        refine q_if_eq (pc := 25) 35 rfl (by decide) (fun _ => ?_) (fun h9 => absurd (by decide : (0 : Int32) = 0) h9)
        exact hfin hq9
