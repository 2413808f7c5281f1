/-! the law's moved: written by wip/p37/gen/c77m.py -/
set_option maxRecDepth 100000 in
theorem lp_L_movedA {n0 : Nat} {X : Nat × (Nat → Int32)} {Q : PQ} {mc ms kc ks : Nat} (hm9 : kc ≤ mc ∧ ks ≤ ms) {d : Nat} (hd9 : 9 ≤ d) {sh : List PSh} {S : PSt} {N r : Nat} (he : isLw sh) (hr : 71 ≤ r) (hra : sh[r]? = some (.inl (0, 32))) (hrb : sh[r + 1]? = some (.inl (0, 33))) (hi : cIv S N) (hN : N ≤ 20) (hfo : fouV (S.1 3) (S.1 1 2) N = true) {x step dur an : Int32} {u : Nat} {B : Nat → Int32} {p : Nat} (hp : p < (linV (S.1 3) (S.1 1 2) N)) (hs1 : stK S N p + stM S N p + 1 = stK S N (p + 1)) (hs2 : stK S N (p + 1) ≤ N)  (hex : ∀ A T, mvI S N A B p → mvJ S N A p (stM S N p + 1) → frL (mB S r A B) T → pWP mL_moved d mc ms n0 X Q 169 [some (.ref 0), some (.ref 70), some (.int x), some (.int (nI u)), some (.int step), some (.int dur), some (.int an), some (.int (nI (linV (S.1 3) (S.1 1 2) N))), some (.ref r), some (.ref (r + 1)), some (.int (nI p)), some (.int (nI (stK S N p + (stM S N p + 1)))), none, none, none] [] kc ks sh T) : ∀ (m9 k : Nat) (A : Nat → Int32) (T : PSt), k + m9 = (stM S N p + 1) → mvI S N A B p → mvJ S N A p k → frL (mB S r A B) T → pWP mL_moved d mc ms n0 X Q 125 [some (.ref 0), some (.ref 70), some (.int x), some (.int (nI u)), some (.int step), some (.int dur), some (.int an), some (.int (nI (linV (S.1 3) (S.1 1 2) N))), some (.ref r), some (.ref (r + 1)), some (.int (nI p)), some (.int (nI (stK S N p + k))), none, none, none] [] kc ks sh T := by
  intro m9
  induction m9 with
  | zero =>
    intro k A T hk hI hJ hf
    have hk9 : (stM S N p + 1) = k := by omega
    subst hk9
    refine m_iload (pc := 125) (j := 11) rfl rfl ?_
    refine m_aload_n (pc := 127) (j := 0) rfl rfl ?_
    refine m_iload (pc := 128) (j := 10) rfl rfl ?_
    refine m_iconst (pc := 130) 1 rfl (by decide) ?_
    refine m_callVG (pc := 131) (as := [.int (nI p), .int 1]) (rest := [.int (nI (stK S N p + (stM S N p + 1)))]) (b := 0) rfl ce_X8_line ml_L_78 im_X8_line se_X8_line he.1.1 rfl rfl rfl (by omega) (Nat.le_of_ble_eq_true rfl) (sp_X8_line he.1 (fl_iv (mB_iv hr hi) hf)) (fun r9 S9 h9 => ?_)
    obtain ⟨rfl, hf⟩ := rm_line1 hr hi hf hfo (k := p) hp h9
    refine m_icmp_gt (pc := 134) 169 rfl (by decide) (fun _ => ?_) (fun h9 => absurd (nI_lt (by omega) (by omega)) h9)
    exact hex _ _ hI hJ hf
  | succ m9 ih =>
    intro k A T hk hI hJ hf
    have hk1 : k < (stM S N p + 1) := by omega
    have hk2 : k < (stM S N p + 1) := hk1
    refine m_iload (pc := 125) (j := 11) rfl rfl ?_
    refine m_aload_n (pc := 127) (j := 0) rfl rfl ?_
    refine m_iload (pc := 128) (j := 10) rfl rfl ?_
    refine m_iconst (pc := 130) 1 rfl (by decide) ?_
    refine m_callVG (pc := 131) (as := [.int (nI p), .int 1]) (rest := [.int (nI (stK S N p + k))]) (b := 0) rfl ce_X8_line ml_L_78 im_X8_line se_X8_line he.1.1 rfl rfl rfl (by omega) (Nat.le_of_ble_eq_true rfl) (sp_X8_line he.1 (fl_iv (mB_iv hr hi) hf)) (fun r9 S9 h9 => ?_)
    obtain ⟨rfl, hf⟩ := rm_line1 hr hi hf hfo (k := p) hp h9
    refine m_icmp_gt (pc := 134) 169 rfl (by decide) (fun h9 => absurd h9 (nI_nlt (by omega) (by omega))) (fun _ => ?_)
    refine m_aload (pc := 137) (j := 8) rfl rfl ?_
    refine m_iload (pc := 139) (j := 11) rfl rfl ?_
    refine m_aload_n (pc := 141) (j := 0) rfl rfl ?_
    refine m_aload_n (pc := 142) (j := 0) rfl rfl ?_
    refine m_iload (pc := 143) (j := 10) rfl rfl ?_
    refine m_iconst (pc := 145) 0 rfl (by decide) ?_
    refine m_callVG (pc := 146) (as := [.int (nI p), .int 0]) (rest := [.ref 0, .int (nI (stK S N p + k)), .ref r]) (b := 0) rfl ce_X8_line ml_L_78 im_X8_line se_X8_line he.1.1 rfl rfl rfl (by omega) (Nat.le_of_ble_eq_true rfl) (sp_X8_line he.1 (fl_iv (mB_iv hr hi) hf)) (fun r9 S9 h9 => ?_)
    obtain ⟨rfl, hf⟩ := rm_line0 hr hi hf hfo (k := p) hp h9
    refine m_aload_n (pc := 149) (j := 0) rfl rfl ?_
    refine m_iload (pc := 150) (j := 10) rfl rfl ?_
    refine m_iconst (pc := 152) 1 rfl (by decide) ?_
    refine m_callVG (pc := 153) (as := [.int (nI p), .int 1]) (rest := [.int (nI (stK S N p)), .ref 0, .int (nI (stK S N p + k)), .ref r]) (b := 0) rfl ce_X8_line ml_L_78 im_X8_line se_X8_line he.1.1 rfl rfl rfl (by omega) (Nat.le_of_ble_eq_true rfl) (sp_X8_line he.1 (fl_iv (mB_iv hr hi) hf)) (fun r9 S9 h9 => ?_)
    obtain ⟨rfl, hf⟩ := rm_line1 hr hi hf hfo (k := p) hp h9
    refine m_iload (pc := 156) (j := 11) rfl rfl ?_
    refine m_iconst (pc := 158) 1 rfl (by decide) ?_
    refine m_callVG (pc := 159) (as := [.int (nI (stK S N p)), .int (nI (stK S N p + stM S N p)), .int (nI (stK S N p + k)), .int 1]) (rest := [.int (nI (stK S N p + k)), .ref r]) (b := 0) rfl ce_X8_at ml_L_40 im_X8_at se_X8_at he.1.1 rfl rfl rfl (by omega) (Nat.le_of_ble_eq_true rfl) (sp_X8_at he.1 (fl_iv (mB_iv hr hi) hf)) (fun r9 S9 h9 => ?_)
    obtain ⟨rfl, hf⟩ := rm_at1 hr hi hf (a := stK S N p) (m := stM S N p) (k := k) (by omega) (by omega) h9
    refine m_iast (pc := 162) (a := r) (stK S N p + k) rfl hra (vp_in_nI (by omega) (by decide)) (nI_clamp (by omega)) ?_
    refine m_iinc (pc := 163) (j := 11) (n := 1) (nI (stK S N p + (k + 1))) [some (.ref 0), some (.ref 70), some (.int x), some (.int (nI u)), some (.int step), some (.int dur), some (.int an), some (.int (nI (linV (S.1 3) (S.1 1 2) N))), some (.ref r), some (.ref (r + 1)), some (.int (nI p)), some (.int (nI (stK S N p + (k + 1)))), none, none, none] rfl (by decide) rfl (nI_1 (stK S N p + k)) rfl ?_
    refine m_goto (pc := 166) 125 rfl (by decide) ?_
    exact ih (k + 1) (upA A (stK S N p + k) ((atV (S.1 3) (S.1 1 2) (stK S N p) (stM S N p + 1) k).toInt32)) _ (by omega) (mvI_A hi hfo hp hI) (mvJ_A hJ) (fl_mA hr hf)
set_option maxRecDepth 100000 in
theorem lp_L_movedB {n0 : Nat} {X : Nat × (Nat → Int32)} {Q : PQ} {mc ms kc ks : Nat} (hm9 : kc ≤ mc ∧ ks ≤ ms) {d : Nat} (hd9 : 9 ≤ d) {sh : List PSh} {S : PSt} {N r : Nat} (he : isLw sh) (hr : 71 ≤ r) (hra : sh[r]? = some (.inl (0, 32))) (hrb : sh[r + 1]? = some (.inl (0, 33))) (hi : cIv S N) (hN : N ≤ 20) (hfo : fouV (S.1 3) (S.1 1 2) N = true) {x step dur an : Int32} {u : Nat}  (hex : ∀ A B f11 T, mvI S N A B (linV (S.1 3) (S.1 1 2) N) → frL (mB S r A B) T → pWP mL_moved d mc ms n0 X Q 175 [some (.ref 0), some (.ref 70), some (.int x), some (.int (nI u)), some (.int step), some (.int dur), some (.int an), some (.int (nI (linV (S.1 3) (S.1 1 2) N))), some (.ref r), some (.ref (r + 1)), some (.int (nI (linV (S.1 3) (S.1 1 2) N))), f11, none, none, none] [] kc ks sh T) : ∀ (m9 k : Nat) (A : Nat → Int32) (B : Nat → Int32) (f11 : Option Value) (T : PSt), k + m9 = (linV (S.1 3) (S.1 1 2) N) → mvI S N A B k → frL (mB S r A B) T → pWP mL_moved d mc ms n0 X Q 86 [some (.ref 0), some (.ref 70), some (.int x), some (.int (nI u)), some (.int step), some (.int dur), some (.int an), some (.int (nI (linV (S.1 3) (S.1 1 2) N))), some (.ref r), some (.ref (r + 1)), some (.int (nI k)), f11, none, none, none] [] kc ks sh T := by
  intro m9
  induction m9 with
  | zero =>
    intro k A B f11 T hk hI hf
    have hk9 : (linV (S.1 3) (S.1 1 2) N) = k := by omega
    subst hk9
    refine m_iload (pc := 86) (j := 10) rfl rfl ?_
    refine m_iload (pc := 88) (j := 7) rfl rfl ?_
    refine m_icmp_ge (pc := 90) 175 rfl (by decide) (fun _ => ?_) (fun h9 => absurd (Int32.le_refl _) h9)
    exact hex _ _ _ _ hI hf
  | succ m9 ih =>
    intro k A B f11 T hk hI hf
    have hk1 : k < (linV (S.1 3) (S.1 1 2) N) := by omega
    obtain ⟨s1, s2, -, -, -⟩ := st_in hi hfo hk1
    have hLL := lin_le hi.2.1 hfo
    have hk2 : k < (linV (S.1 3) (S.1 1 2) N) := hk1
    refine m_iload (pc := 86) (j := 10) rfl rfl ?_
    refine m_iload (pc := 88) (j := 7) rfl rfl ?_
    refine m_icmp_ge (pc := 90) 175 rfl (by decide) (fun h9 => absurd h9 (nI_ge hk1 (by omega))) (fun _ => ?_)
    refine m_aload (pc := 93) (j := 9) rfl rfl ?_
    refine m_iload (pc := 95) (j := 10) rfl rfl ?_
    refine m_bipush (pc := 97) 100 rfl (by decide) ?_
    refine m_aload_n (pc := 99) (j := 0) rfl rfl ?_
    refine m_iload (pc := 100) (j := 10) rfl rfl ?_
    refine m_iconst (pc := 102) 0 rfl (by decide) ?_
    refine m_callVG (pc := 103) (as := [.int (nI k), .int 0]) (rest := [.int 100, .int (nI k), .ref (r + 1)]) (b := 0) rfl ce_X8_line ml_L_78 im_X8_line se_X8_line he.1.1 rfl rfl rfl (by omega) (Nat.le_of_ble_eq_true rfl) (sp_X8_line he.1 (fl_iv (mB_iv hr hi) hf)) (fun r9 S9 h9 => ?_)
    obtain ⟨rfl, hf⟩ := rm_line0 hr hi hf hfo (k := k) hk1 h9
    refine m_imul (pc := 106) rfl ?_
    refine m_aload_n (pc := 107) (j := 0) rfl rfl ?_
    refine m_iload (pc := 108) (j := 10) rfl rfl ?_
    refine m_iconst (pc := 110) 1 rfl (by decide) ?_
    refine m_callVG (pc := 111) (as := [.int (nI k), .int 1]) (rest := [.int (100 * (nI (stK S N k))), .int (nI k), .ref (r + 1)]) (b := 0) rfl ce_X8_line ml_L_78 im_X8_line se_X8_line he.1.1 rfl rfl rfl (by omega) (Nat.le_of_ble_eq_true rfl) (sp_X8_line he.1 (fl_iv (mB_iv hr hi) hf)) (fun r9 S9 h9 => ?_)
    obtain ⟨rfl, hf⟩ := rm_line1 hr hi hf hfo (k := k) hk1 h9
    refine m_iadd (pc := 114) rfl ?_
    refine m_st (st2 := [.int (nI (100 * stK S N k + (stK S N k + stM S N k))), .int (nI k), .ref (r + 1)]) (by rw [e100 _ _]; try rfl) ?_
    refine m_iast (pc := 115) (a := (r + 1)) k rfl hrb (vp_in_nI (by omega) (by decide)) (nI_clamp (by omega)) ?_
    have hf := fl_mB hr hf (w := k) (v := (nI (100 * stK S N k + (stK S N k + stM S N k))))
    refine m_aload_n (pc := 116) (j := 0) rfl rfl ?_
    refine m_iload (pc := 117) (j := 10) rfl rfl ?_
    refine m_iconst (pc := 119) 0 rfl (by decide) ?_
    refine m_callVG (pc := 120) (as := [.int (nI k), .int 0]) (rest := []) (b := 0) rfl ce_X8_line ml_L_78 im_X8_line se_X8_line he.1.1 rfl rfl rfl (by omega) (Nat.le_of_ble_eq_true rfl) (sp_X8_line he.1 (fl_iv (mB_iv hr hi) hf)) (fun r9 S9 h9 => ?_)
    obtain ⟨rfl, hf⟩ := rm_line0 hr hi hf hfo (k := k) hk1 h9
    refine m_istore (pc := 123) (j := 11) [some (.ref 0), some (.ref 70), some (.int x), some (.int (nI u)), some (.int step), some (.int dur), some (.int an), some (.int (nI (linV (S.1 3) (S.1 1 2) N))), some (.ref r), some (.ref (r + 1)), some (.int (nI k)), some (.int (nI (stK S N k))), none, none, none] rfl (by decide) rfl ?_
    refine m_L rfl (lp_L_movedA hm9 (by omega) he hr hra hrb hi hN hfo (B := upA B k (nI (100 * stK S N k + (stK S N k + stM S N k)))) hk1 s1 s2 (fun A T hI hJ hf => ?_) (stM S N k + 1) 0 A _ (Nat.zero_add _) (mvI_B hI) (fun i hi9 => absurd hi9 (Nat.not_lt_zero i)) hf)
    refine m_iinc (pc := 169) (j := 10) (n := 1) (nI (k + 1)) [some (.ref 0), some (.ref 70), some (.int x), some (.int (nI u)), some (.int step), some (.int dur), some (.int an), some (.int (nI (linV (S.1 3) (S.1 1 2) N))), some (.ref r), some (.ref (r + 1)), some (.int (nI (k + 1))), some (.int (nI (stK S N k + (stM S N k + 1)))), none, none, none] rfl (by decide) rfl (nI_1 k) rfl ?_
    refine m_goto (pc := 172) 86 rfl (by decide) ?_
    exact ih (k + 1) A (upA B k (nI (100 * stK S N k + (stK S N k + stM S N k)))) (some (.int (nI (stK S N k + (stM S N k + 1))))) T (by omega) (mvI_s hI (if_pos rfl) hJ) hf
set_option maxRecDepth 100000 in
theorem lp_L_movedC {n0 : Nat} {X : Nat × (Nat → Int32)} {Q : PQ} {mc ms kc ks : Nat} (hm9 : kc ≤ mc ∧ ks ≤ ms) {d : Nat} (hd9 : 9 ≤ d) {sh : List PSh} {S S2 : PSt} {N r : Nat} (he : isLw sh) (hr : 71 ≤ r) (hra : sh[r]? = some (.inl (0, 32))) (hrb : sh[r + 1]? = some (.inl (0, 33))) (hi2 : cIv S2 N) (hN : N ≤ 20) (hfo2 : fouV (S2.1 3) (S2.1 1 2) N = true) {A B : Nat → Int32} {L1 : Nat} {x step dur an : Int32} {u : Nat} {p : Nat} (hp : p < (linV (S2.1 3) (S2.1 1 2) N)) (hs1 : stK S2 N p + stM S2 N p + 1 = stK S2 N (p + 1)) (hs2 : stK S2 N (p + 1) ≤ N)  (hex : ∀ T, frL (mB S2 r A B) T → pWP mL_moved d mc ms n0 X Q 344 [some (.ref 0), some (.ref 70), some (.int x), some (.int (nI u)), some (.int step), some (.int dur), some (.int an), some (.int (nI (linV (S2.1 3) (S2.1 1 2) N))), some (.ref r), some (.ref (r + 1)), some (.int (nI L1)), some (.int (nI (samL S S2 N A B p))), some (.int (nI p)), some (.int (pB (isL S S2 N A B p (stM S2 N p + 1)))), some (.int (nI (stK S2 N p + (stM S2 N p + 1))))] [] kc ks sh T) : ∀ (m9 k : Nat)  (T : PSt), k + m9 = (stM S2 N p + 1) → frL (mB S2 r A B) T → pWP mL_moved d mc ms n0 X Q 285 [some (.ref 0), some (.ref 70), some (.int x), some (.int (nI u)), some (.int step), some (.int dur), some (.int an), some (.int (nI (linV (S2.1 3) (S2.1 1 2) N))), some (.ref r), some (.ref (r + 1)), some (.int (nI L1)), some (.int (nI (samL S S2 N A B p))), some (.int (nI p)), some (.int (pB (isL S S2 N A B p k))), some (.int (nI (stK S2 N p + k)))] [] kc ks sh T := by
  intro m9
  induction m9 with
  | zero =>
    intro k T hk hf
    have hk9 : (stM S2 N p + 1) = k := by omega
    subst hk9
    refine m_iload (pc := 285) (j := 14) rfl rfl ?_
    refine m_aload_n (pc := 287) (j := 0) rfl rfl ?_
    refine m_iload (pc := 288) (j := 12) rfl rfl ?_
    refine m_iconst (pc := 290) 1 rfl (by decide) ?_
    refine m_callVG (pc := 291) (as := [.int (nI p), .int 1]) (rest := [.int (nI (stK S2 N p + (stM S2 N p + 1)))]) (b := 0) rfl ce_X8_line ml_L_78 im_X8_line se_X8_line he.1.1 rfl rfl rfl (by omega) (Nat.le_of_ble_eq_true rfl) (sp_X8_line he.1 (fl_iv (mB_iv hr hi2) hf)) (fun r9 S9 h9 => ?_)
    obtain ⟨rfl, hf⟩ := rm_line1 hr hi2 hf hfo2 (k := p) hp h9
    refine m_icmp_gt (pc := 294) 344 rfl (by decide) (fun _ => ?_) (fun h9 => absurd (nI_lt (by omega) (by omega)) h9)
    exact hex _ hf
  | succ m9 ih =>
    intro k T hk hf
    have hk1 : k < (stM S2 N p + 1) := by omega
    have hk2 : k < (stM S2 N p + 1) := hk1
    refine m_iload (pc := 285) (j := 14) rfl rfl ?_
    refine m_aload_n (pc := 287) (j := 0) rfl rfl ?_
    refine m_iload (pc := 288) (j := 12) rfl rfl ?_
    refine m_iconst (pc := 290) 1 rfl (by decide) ?_
    refine m_callVG (pc := 291) (as := [.int (nI p), .int 1]) (rest := [.int (nI (stK S2 N p + k))]) (b := 0) rfl ce_X8_line ml_L_78 im_X8_line se_X8_line he.1.1 rfl rfl rfl (by omega) (Nat.le_of_ble_eq_true rfl) (sp_X8_line he.1 (fl_iv (mB_iv hr hi2) hf)) (fun r9 S9 h9 => ?_)
    obtain ⟨rfl, hf⟩ := rm_line1 hr hi2 hf hfo2 (k := p) hp h9
    refine m_icmp_gt (pc := 294) 344 rfl (by decide) (fun h9 => absurd h9 (nI_nlt (by omega) (by omega))) (fun _ => ?_)
    rcases Bool.eq_false_or_eq_true (isL S S2 N A B p k) with his | his
    · refine m_iload (pc := 297) (j := 13) rfl rfl ?_
      refine m_if_eq (pc := 299) 335 rfl (by decide) (fun h9 => absurd h9 (by rw [his]; decide)) (fun _ => ?_)
      refine m_aload (pc := 302) (j := 8) rfl rfl ?_
      refine m_iload (pc := 304) (j := 14) rfl rfl ?_
      refine m_iald (pc := 306) (a := r) (stK S2 N p + k) rfl hra (vp_in_nI (by omega) (by decide)) (nI_clamp (by omega)) ?_
      refine m_st (st2 := [.int (A (stK S2 N p + k))]) (by rw [show (S9.1 r (stK S2 N p + k)) = A (stK S2 N p + k) from congrFun ((hf r (by omega) (by omega)).1.trans mB_A) _]; try rfl) ?_
      refine m_aload_n (pc := 307) (j := 0) rfl rfl ?_
      refine m_aload_n (pc := 308) (j := 0) rfl rfl ?_
      refine m_iload (pc := 309) (j := 12) rfl rfl ?_
      refine m_iconst (pc := 311) 0 rfl (by decide) ?_
      refine m_callVG (pc := 312) (as := [.int (nI p), .int 0]) (rest := [.ref 0, .int (A (stK S2 N p + k))]) (b := 0) rfl ce_X8_line ml_L_78 im_X8_line se_X8_line he.1.1 rfl rfl rfl (by omega) (Nat.le_of_ble_eq_true rfl) (sp_X8_line he.1 (fl_iv (mB_iv hr hi2) hf)) (fun r9 S9 h9 => ?_)
      obtain ⟨rfl, hf⟩ := rm_line0 hr hi2 hf hfo2 (k := p) hp h9
      refine m_aload_n (pc := 315) (j := 0) rfl rfl ?_
      refine m_iload (pc := 316) (j := 12) rfl rfl ?_
      refine m_iconst (pc := 318) 1 rfl (by decide) ?_
      refine m_callVG (pc := 319) (as := [.int (nI p), .int 1]) (rest := [.int (nI (stK S2 N p)), .ref 0, .int (A (stK S2 N p + k))]) (b := 0) rfl ce_X8_line ml_L_78 im_X8_line se_X8_line he.1.1 rfl rfl rfl (by omega) (Nat.le_of_ble_eq_true rfl) (sp_X8_line he.1 (fl_iv (mB_iv hr hi2) hf)) (fun r9 S9 h9 => ?_)
      obtain ⟨rfl, hf⟩ := rm_line1 hr hi2 hf hfo2 (k := p) hp h9
      refine m_iload (pc := 322) (j := 14) rfl rfl ?_
      refine m_iconst (pc := 324) 1 rfl (by decide) ?_
      refine m_callVG (pc := 325) (as := [.int (nI (stK S2 N p)), .int (nI (stK S2 N p + stM S2 N p)), .int (nI (stK S2 N p + k)), .int 1]) (rest := [.int (A (stK S2 N p + k))]) (b := 0) rfl ce_X8_at ml_L_40 im_X8_at se_X8_at he.1.1 rfl rfl rfl (by omega) (Nat.le_of_ble_eq_true rfl) (sp_X8_at he.1 (fl_iv (mB_iv hr hi2) hf)) (fun r9 S9 h9 => ?_)
      obtain ⟨rfl, hf⟩ := rm_at1 hr hi2 hf (a := stK S2 N p) (m := stM S2 N p) (k := k) (by omega) (by omega) h9
      refine m_icmp_ne (pc := 328) 335 rfl (by decide) (fun h328 => ?_) (fun h328 => ?_)
      · refine m_iconst (pc := 335) 0 rfl (by decide) ?_
        refine m_istore (pc := 336) (j := 13) [some (.ref 0), some (.ref 70), some (.int x), some (.int (nI u)), some (.int step), some (.int dur), some (.int an), some (.int (nI (linV (S2.1 3) (S2.1 1 2) N))), some (.ref r), some (.ref (r + 1)), some (.int (nI L1)), some (.int (nI (samL S S2 N A B p))), some (.int (nI p)), some (.int 0), some (.int (nI (stK S2 N p + k)))] rfl (by decide) rfl ?_
        refine m_iinc (pc := 338) (j := 14) (n := 1) (nI (stK S2 N p + (k + 1))) [some (.ref 0), some (.ref 70), some (.int x), some (.int (nI u)), some (.int step), some (.int dur), some (.int an), some (.int (nI (linV (S2.1 3) (S2.1 1 2) N))), some (.ref r), some (.ref (r + 1)), some (.int (nI L1)), some (.int (nI (samL S S2 N A B p))), some (.int (nI p)), some (.int 0), some (.int (nI (stK S2 N p + (k + 1))))] rfl (by decide) rfl (nI_1 (stK S2 N p + k)) rfl ?_
        refine m_goto (pc := 341) 285 rfl (by decide) ?_
        exact m_L (by rw [show (isL S S2 N A B p (k + 1)) = false from (by unfold isL; rw [his, Bool.true_and]; exact decide_eq_false h328)]; rfl) (ih (k + 1) S9 (by omega) hf)
      · refine m_iconst (pc := 331) 1 rfl (by decide) ?_
        refine m_goto (pc := 332) 336 rfl (by decide) ?_
        refine m_istore (pc := 336) (j := 13) [some (.ref 0), some (.ref 70), some (.int x), some (.int (nI u)), some (.int step), some (.int dur), some (.int an), some (.int (nI (linV (S2.1 3) (S2.1 1 2) N))), some (.ref r), some (.ref (r + 1)), some (.int (nI L1)), some (.int (nI (samL S S2 N A B p))), some (.int (nI p)), some (.int 1), some (.int (nI (stK S2 N p + k)))] rfl (by decide) rfl ?_
        refine m_iinc (pc := 338) (j := 14) (n := 1) (nI (stK S2 N p + (k + 1))) [some (.ref 0), some (.ref 70), some (.int x), some (.int (nI u)), some (.int step), some (.int dur), some (.int an), some (.int (nI (linV (S2.1 3) (S2.1 1 2) N))), some (.ref r), some (.ref (r + 1)), some (.int (nI L1)), some (.int (nI (samL S S2 N A B p))), some (.int (nI p)), some (.int 1), some (.int (nI (stK S2 N p + (k + 1))))] rfl (by decide) rfl (nI_1 (stK S2 N p + k)) rfl ?_
        refine m_goto (pc := 341) 285 rfl (by decide) ?_
        exact m_L (by rw [show (isL S S2 N A B p (k + 1)) = true from (by unfold isL; rw [his, Bool.true_and]; exact decide_eq_true h328)]; rfl) (ih (k + 1) S9 (by omega) hf)
    · refine m_iload (pc := 297) (j := 13) rfl rfl ?_
      refine m_if_eq (pc := 299) 335 rfl (by decide) (fun _ => ?_) (fun h9 => absurd (by rw [his]; rfl) h9)
      refine m_iconst (pc := 335) 0 rfl (by decide) ?_
      refine m_istore (pc := 336) (j := 13) [some (.ref 0), some (.ref 70), some (.int x), some (.int (nI u)), some (.int step), some (.int dur), some (.int an), some (.int (nI (linV (S2.1 3) (S2.1 1 2) N))), some (.ref r), some (.ref (r + 1)), some (.int (nI L1)), some (.int (nI (samL S S2 N A B p))), some (.int (nI p)), some (.int 0), some (.int (nI (stK S2 N p + k)))] rfl (by decide) rfl ?_
      refine m_iinc (pc := 338) (j := 14) (n := 1) (nI (stK S2 N p + (k + 1))) [some (.ref 0), some (.ref 70), some (.int x), some (.int (nI u)), some (.int step), some (.int dur), some (.int an), some (.int (nI (linV (S2.1 3) (S2.1 1 2) N))), some (.ref r), some (.ref (r + 1)), some (.int (nI L1)), some (.int (nI (samL S S2 N A B p))), some (.int (nI p)), some (.int 0), some (.int (nI (stK S2 N p + (k + 1))))] rfl (by decide) rfl (nI_1 (stK S2 N p + k)) rfl ?_
      refine m_goto (pc := 341) 285 rfl (by decide) ?_
      exact m_L (by rw [show (isL S S2 N A B p (k + 1)) = false from (by unfold isL; rw [his, Bool.false_and])]; rfl) (ih (k + 1) S9 (by omega) hf)
set_option maxRecDepth 100000 in
theorem lp_L_movedD {n0 : Nat} {X : Nat × (Nat → Int32)} {Q : PQ} {mc ms kc ks : Nat} (hm9 : kc ≤ mc ∧ ks ≤ ms) {d : Nat} (hd9 : 9 ≤ d) {sh : List PSh} {S S2 : PSt} {N r : Nat} (he : isLw sh) (hr : 71 ≤ r) (hra : sh[r]? = some (.inl (0, 32))) (hrb : sh[r + 1]? = some (.inl (0, 33))) (hi2 : cIv S2 N) (hN : N ≤ 20) (hfo2 : fouV (S2.1 3) (S2.1 1 2) N = true) {A B : Nat → Int32} {L1 : Nat} {x step dur an : Int32} {u : Nat} (hL1 : L1 ≤ N)  (hex : ∀ k f13 f14 T, k ≤ L1 → k ≤ (linV (S2.1 3) (S2.1 1 2) N) → ((linV (S2.1 3) (S2.1 1 2) N) ≤ k ∨ L1 ≤ k) → frL (mB S2 r A B) T → pWP mL_moved d mc ms n0 X Q 365 [some (.ref 0), some (.ref 70), some (.int x), some (.int (nI u)), some (.int step), some (.int dur), some (.int an), some (.int (nI (linV (S2.1 3) (S2.1 1 2) N))), some (.ref r), some (.ref (r + 1)), some (.int (nI L1)), some (.int (nI (samL S S2 N A B k))), some (.int (nI k)), f13, f14] [] kc ks sh T) : ∀ (m9 k : Nat) (f13 : Option Value) (f14 : Option Value) (T : PSt), k + m9 = (min L1 (linV (S2.1 3) (S2.1 1 2) N)) → frL (mB S2 r A B) T → pWP mL_moved d mc ms n0 X Q 229 [some (.ref 0), some (.ref 70), some (.int x), some (.int (nI u)), some (.int step), some (.int dur), some (.int an), some (.int (nI (linV (S2.1 3) (S2.1 1 2) N))), some (.ref r), some (.ref (r + 1)), some (.int (nI L1)), some (.int (nI (samL S S2 N A B k))), some (.int (nI k)), f13, f14] [] kc ks sh T := by
  intro m9
  induction m9 with
  | zero =>
    intro k f13 f14 T hk hf
    have hLL := lin_le hi2.2.1 hfo2
    have hk9 : (min L1 (linV (S2.1 3) (S2.1 1 2) N)) = k := by omega
    subst hk9
    rcases Bool.eq_false_or_eq_true (decide ((linV (S2.1 3) (S2.1 1 2) N) ≤ (min L1 (linV (S2.1 3) (S2.1 1 2) N)))) with hz | hz
    · refine m_iload (pc := 229) (j := 12) rfl rfl ?_
      refine m_iload (pc := 231) (j := 7) rfl rfl ?_
      refine m_icmp_ge (pc := 233) 365 rfl (by decide) (fun _ => ?_) (fun h9 => absurd (nI_le (of_decide_eq_true hz) (by omega)) h9)
      exact hex _ _ _ _ (by omega) (by omega) (by omega) hf
    · refine m_iload (pc := 229) (j := 12) rfl rfl ?_
      refine m_iload (pc := 231) (j := 7) rfl rfl ?_
      refine m_icmp_ge (pc := 233) 365 rfl (by decide) (fun h9 => absurd h9 (nI_ge (by have := of_decide_eq_false hz; omega) (by omega))) (fun _ => ?_)
      refine m_iload (pc := 236) (j := 12) rfl rfl ?_
      refine m_iload (pc := 238) (j := 10) rfl rfl ?_
      refine m_icmp_ge (pc := 240) 365 rfl (by decide) (fun _ => ?_) (fun h9 => absurd (nI_le (by have := of_decide_eq_false hz; omega) (by omega)) h9)
      exact hex _ _ _ _ (by omega) (by omega) (by omega) hf
  | succ m9 ih =>
    intro k f13 f14 T hk hf
    have hk1 : k < (min L1 (linV (S2.1 3) (S2.1 1 2) N)) := by omega
    have hk4 : k < (linV (S2.1 3) (S2.1 1 2) N) := by omega
    have hLL := lin_le hi2.2.1 hfo2
    obtain ⟨t1, t2, -, -, -⟩ := st_in hi2 hfo2 hk4
    have hk2 : k < (min L1 (linV (S2.1 3) (S2.1 1 2) N)) := hk1
    refine m_iload (pc := 229) (j := 12) rfl rfl ?_
    refine m_iload (pc := 231) (j := 7) rfl rfl ?_
    refine m_icmp_ge (pc := 233) 365 rfl (by decide) (fun h9 => absurd h9 (nI_ge (by omega) (by omega))) (fun _ => ?_)
    refine m_iload (pc := 236) (j := 12) rfl rfl ?_
    refine m_iload (pc := 238) (j := 10) rfl rfl ?_
    refine m_icmp_ge (pc := 240) 365 rfl (by decide) (fun h9 => absurd h9 (nI_ge (by omega) (by omega))) (fun _ => ?_)
    refine m_aload (pc := 243) (j := 9) rfl rfl ?_
    refine m_iload (pc := 245) (j := 12) rfl rfl ?_
    refine m_iald (pc := 247) (a := (r + 1)) k rfl hrb (vp_in_nI (by omega) (by decide)) (nI_clamp (by omega)) ?_
    refine m_st (st2 := [.int (B k)]) (by rw [show (T.1 (r + 1) k) = B k from congrFun ((hf (r + 1) (by omega) (by omega)).1.trans mB_B) _]; try rfl) ?_
    refine m_bipush (pc := 248) 100 rfl (by decide) ?_
    refine m_aload_n (pc := 250) (j := 0) rfl rfl ?_
    refine m_iload (pc := 251) (j := 12) rfl rfl ?_
    refine m_iconst (pc := 253) 0 rfl (by decide) ?_
    refine m_callVG (pc := 254) (as := [.int (nI k), .int 0]) (rest := [.int 100, .int (B k)]) (b := 0) rfl ce_X8_line ml_L_78 im_X8_line se_X8_line he.1.1 rfl rfl rfl (by omega) (Nat.le_of_ble_eq_true rfl) (sp_X8_line he.1 (fl_iv (mB_iv hr hi2) hf)) (fun r9 S9 h9 => ?_)
    obtain ⟨rfl, hf⟩ := rm_line0 hr hi2 hf hfo2 (k := k) hk4 h9
    refine m_imul (pc := 257) rfl ?_
    refine m_aload_n (pc := 258) (j := 0) rfl rfl ?_
    refine m_iload (pc := 259) (j := 12) rfl rfl ?_
    refine m_iconst (pc := 261) 1 rfl (by decide) ?_
    refine m_callVG (pc := 262) (as := [.int (nI k), .int 1]) (rest := [.int (100 * (nI (stK S2 N k))), .int (B k)]) (b := 0) rfl ce_X8_line ml_L_78 im_X8_line se_X8_line he.1.1 rfl rfl rfl (by omega) (Nat.le_of_ble_eq_true rfl) (sp_X8_line he.1 (fl_iv (mB_iv hr hi2) hf)) (fun r9 S9 h9 => ?_)
    obtain ⟨rfl, hf⟩ := rm_line1 hr hi2 hf hfo2 (k := k) hk4 h9
    refine m_iadd (pc := 265) rfl ?_
    refine m_st (st2 := [.int (nI (100 * stK S2 N k + (stK S2 N k + stM S2 N k))), .int (B k)]) (by rw [e100 _ _]; try rfl) ?_
    refine m_icmp_ne (pc := 266) 273 rfl (by decide) (fun h266 => ?_) (fun h266 => ?_)
    · refine m_iconst (pc := 273) 0 rfl (by decide) ?_
      refine m_st (st2 := [.int (pB (isL S S2 N A B k 0))]) (by rw [show (0 : Int32) = (pB (isL S S2 N A B k 0)) from (by rw [isL, decide_eq_false h266]; rfl)]; try rfl) ?_
      refine m_istore (pc := 274) (j := 13) [some (.ref 0), some (.ref 70), some (.int x), some (.int (nI u)), some (.int step), some (.int dur), some (.int an), some (.int (nI (linV (S2.1 3) (S2.1 1 2) N))), some (.ref r), some (.ref (r + 1)), some (.int (nI L1)), some (.int (nI (samL S S2 N A B k))), some (.int (nI k)), some (.int (pB (isL S S2 N A B k 0))), f14] rfl (by decide) rfl ?_
      refine m_aload_n (pc := 276) (j := 0) rfl rfl ?_
      refine m_iload (pc := 277) (j := 12) rfl rfl ?_
      refine m_iconst (pc := 279) 0 rfl (by decide) ?_
      refine m_callVG (pc := 280) (as := [.int (nI k), .int 0]) (rest := []) (b := 0) rfl ce_X8_line ml_L_78 im_X8_line se_X8_line he.1.1 rfl rfl rfl (by omega) (Nat.le_of_ble_eq_true rfl) (sp_X8_line he.1 (fl_iv (mB_iv hr hi2) hf)) (fun r9 S9 h9 => ?_)
      obtain ⟨rfl, hf⟩ := rm_line0 hr hi2 hf hfo2 (k := k) hk4 h9
      refine m_istore (pc := 283) (j := 14) [some (.ref 0), some (.ref 70), some (.int x), some (.int (nI u)), some (.int step), some (.int dur), some (.int an), some (.int (nI (linV (S2.1 3) (S2.1 1 2) N))), some (.ref r), some (.ref (r + 1)), some (.int (nI L1)), some (.int (nI (samL S S2 N A B k))), some (.int (nI k)), some (.int (pB (isL S S2 N A B k 0))), some (.int (nI (stK S2 N k)))] rfl (by decide) rfl ?_
      refine m_L rfl (lp_L_movedC hm9 (by omega) he hr hra hrb hi2 hN hfo2 hk4 t1 t2 (fun T hf => ?_) (stM S2 N k + 1) 0 _ (Nat.zero_add _) hf)
      rcases Bool.eq_false_or_eq_true (isL S S2 N A B k (stM S2 N k + 1)) with hil | hil
      · refine m_iload (pc := 344) (j := 11) rfl rfl ?_
        refine m_iload (pc := 346) (j := 13) rfl rfl ?_
        refine m_if_eq (pc := 348) 355 rfl (by decide) (fun h9 => absurd h9 (by rw [hil]; decide)) (fun _ => ?_)
        refine m_iconst (pc := 351) 1 rfl (by decide) ?_
        refine m_goto (pc := 352) 356 rfl (by decide) ?_
        refine m_iadd (pc := 356) rfl ?_
        refine m_st (st2 := [.int (nI (samL S S2 N A B (k + 1)))]) (by rw [show nI (samL S S2 N A B k) + 1 = nI (samL S S2 N A B (k + 1)) from (by rw [samL, if_pos hil]; exact nI_1 _)]; try rfl) ?_
        refine m_istore (pc := 357) (j := 11) [some (.ref 0), some (.ref 70), some (.int x), some (.int (nI u)), some (.int step), some (.int dur), some (.int an), some (.int (nI (linV (S2.1 3) (S2.1 1 2) N))), some (.ref r), some (.ref (r + 1)), some (.int (nI L1)), some (.int (nI (samL S S2 N A B (k + 1)))), some (.int (nI k)), some (.int (pB (isL S S2 N A B k (stM S2 N k + 1)))), some (.int (nI (stK S2 N k + (stM S2 N k + 1))))] rfl (by decide) rfl ?_
        refine m_iinc (pc := 359) (j := 12) (n := 1) (nI (k + 1)) [some (.ref 0), some (.ref 70), some (.int x), some (.int (nI u)), some (.int step), some (.int dur), some (.int an), some (.int (nI (linV (S2.1 3) (S2.1 1 2) N))), some (.ref r), some (.ref (r + 1)), some (.int (nI L1)), some (.int (nI (samL S S2 N A B (k + 1)))), some (.int (nI (k + 1))), some (.int (pB (isL S S2 N A B k (stM S2 N k + 1)))), some (.int (nI (stK S2 N k + (stM S2 N k + 1))))] rfl (by decide) rfl (nI_1 k) rfl ?_
        refine m_goto (pc := 362) 229 rfl (by decide) ?_
        exact ih (k + 1) (some (.int (pB (isL S S2 N A B k (stM S2 N k + 1))))) (some (.int (nI (stK S2 N k + (stM S2 N k + 1))))) T (by omega) hf
      · refine m_iload (pc := 344) (j := 11) rfl rfl ?_
        refine m_iload (pc := 346) (j := 13) rfl rfl ?_
        refine m_if_eq (pc := 348) 355 rfl (by decide) (fun _ => ?_) (fun h9 => absurd (by rw [hil]; rfl) h9)
        refine m_iconst (pc := 355) 0 rfl (by decide) ?_
        refine m_iadd (pc := 356) rfl ?_
        refine m_st (st2 := [.int (nI (samL S S2 N A B (k + 1)))]) (by rw [show nI (samL S S2 N A B k) + 0 = nI (samL S S2 N A B (k + 1)) from (by rw [samL, if_neg (by rw [hil]; decide)]; exact Int32.add_zero _)]; try rfl) ?_
        refine m_istore (pc := 357) (j := 11) [some (.ref 0), some (.ref 70), some (.int x), some (.int (nI u)), some (.int step), some (.int dur), some (.int an), some (.int (nI (linV (S2.1 3) (S2.1 1 2) N))), some (.ref r), some (.ref (r + 1)), some (.int (nI L1)), some (.int (nI (samL S S2 N A B (k + 1)))), some (.int (nI k)), some (.int (pB (isL S S2 N A B k (stM S2 N k + 1)))), some (.int (nI (stK S2 N k + (stM S2 N k + 1))))] rfl (by decide) rfl ?_
        refine m_iinc (pc := 359) (j := 12) (n := 1) (nI (k + 1)) [some (.ref 0), some (.ref 70), some (.int x), some (.int (nI u)), some (.int step), some (.int dur), some (.int an), some (.int (nI (linV (S2.1 3) (S2.1 1 2) N))), some (.ref r), some (.ref (r + 1)), some (.int (nI L1)), some (.int (nI (samL S S2 N A B (k + 1)))), some (.int (nI (k + 1))), some (.int (pB (isL S S2 N A B k (stM S2 N k + 1)))), some (.int (nI (stK S2 N k + (stM S2 N k + 1))))] rfl (by decide) rfl (nI_1 k) rfl ?_
        refine m_goto (pc := 362) 229 rfl (by decide) ?_
        exact ih (k + 1) (some (.int (pB (isL S S2 N A B k (stM S2 N k + 1))))) (some (.int (nI (stK S2 N k + (stM S2 N k + 1))))) T (by omega) hf
    · refine m_iconst (pc := 269) 1 rfl (by decide) ?_
      refine m_goto (pc := 270) 274 rfl (by decide) ?_
      refine m_st (st2 := [.int (pB (isL S S2 N A B k 0))]) (by rw [show (1 : Int32) = (pB (isL S S2 N A B k 0)) from (by rw [isL, decide_eq_true h266]; rfl)]; try rfl) ?_
      refine m_istore (pc := 274) (j := 13) [some (.ref 0), some (.ref 70), some (.int x), some (.int (nI u)), some (.int step), some (.int dur), some (.int an), some (.int (nI (linV (S2.1 3) (S2.1 1 2) N))), some (.ref r), some (.ref (r + 1)), some (.int (nI L1)), some (.int (nI (samL S S2 N A B k))), some (.int (nI k)), some (.int (pB (isL S S2 N A B k 0))), f14] rfl (by decide) rfl ?_
      refine m_aload_n (pc := 276) (j := 0) rfl rfl ?_
      refine m_iload (pc := 277) (j := 12) rfl rfl ?_
      refine m_iconst (pc := 279) 0 rfl (by decide) ?_
      refine m_callVG (pc := 280) (as := [.int (nI k), .int 0]) (rest := []) (b := 0) rfl ce_X8_line ml_L_78 im_X8_line se_X8_line he.1.1 rfl rfl rfl (by omega) (Nat.le_of_ble_eq_true rfl) (sp_X8_line he.1 (fl_iv (mB_iv hr hi2) hf)) (fun r9 S9 h9 => ?_)
      obtain ⟨rfl, hf⟩ := rm_line0 hr hi2 hf hfo2 (k := k) hk4 h9
      refine m_istore (pc := 283) (j := 14) [some (.ref 0), some (.ref 70), some (.int x), some (.int (nI u)), some (.int step), some (.int dur), some (.int an), some (.int (nI (linV (S2.1 3) (S2.1 1 2) N))), some (.ref r), some (.ref (r + 1)), some (.int (nI L1)), some (.int (nI (samL S S2 N A B k))), some (.int (nI k)), some (.int (pB (isL S S2 N A B k 0))), some (.int (nI (stK S2 N k)))] rfl (by decide) rfl ?_
      refine m_L rfl (lp_L_movedC hm9 (by omega) he hr hra hrb hi2 hN hfo2 hk4 t1 t2 (fun T hf => ?_) (stM S2 N k + 1) 0 _ (Nat.zero_add _) hf)
      rcases Bool.eq_false_or_eq_true (isL S S2 N A B k (stM S2 N k + 1)) with hil | hil
      · refine m_iload (pc := 344) (j := 11) rfl rfl ?_
        refine m_iload (pc := 346) (j := 13) rfl rfl ?_
        refine m_if_eq (pc := 348) 355 rfl (by decide) (fun h9 => absurd h9 (by rw [hil]; decide)) (fun _ => ?_)
        refine m_iconst (pc := 351) 1 rfl (by decide) ?_
        refine m_goto (pc := 352) 356 rfl (by decide) ?_
        refine m_iadd (pc := 356) rfl ?_
        refine m_st (st2 := [.int (nI (samL S S2 N A B (k + 1)))]) (by rw [show nI (samL S S2 N A B k) + 1 = nI (samL S S2 N A B (k + 1)) from (by rw [samL, if_pos hil]; exact nI_1 _)]; try rfl) ?_
        refine m_istore (pc := 357) (j := 11) [some (.ref 0), some (.ref 70), some (.int x), some (.int (nI u)), some (.int step), some (.int dur), some (.int an), some (.int (nI (linV (S2.1 3) (S2.1 1 2) N))), some (.ref r), some (.ref (r + 1)), some (.int (nI L1)), some (.int (nI (samL S S2 N A B (k + 1)))), some (.int (nI k)), some (.int (pB (isL S S2 N A B k (stM S2 N k + 1)))), some (.int (nI (stK S2 N k + (stM S2 N k + 1))))] rfl (by decide) rfl ?_
        refine m_iinc (pc := 359) (j := 12) (n := 1) (nI (k + 1)) [some (.ref 0), some (.ref 70), some (.int x), some (.int (nI u)), some (.int step), some (.int dur), some (.int an), some (.int (nI (linV (S2.1 3) (S2.1 1 2) N))), some (.ref r), some (.ref (r + 1)), some (.int (nI L1)), some (.int (nI (samL S S2 N A B (k + 1)))), some (.int (nI (k + 1))), some (.int (pB (isL S S2 N A B k (stM S2 N k + 1)))), some (.int (nI (stK S2 N k + (stM S2 N k + 1))))] rfl (by decide) rfl (nI_1 k) rfl ?_
        refine m_goto (pc := 362) 229 rfl (by decide) ?_
        exact ih (k + 1) (some (.int (pB (isL S S2 N A B k (stM S2 N k + 1))))) (some (.int (nI (stK S2 N k + (stM S2 N k + 1))))) T (by omega) hf
      · refine m_iload (pc := 344) (j := 11) rfl rfl ?_
        refine m_iload (pc := 346) (j := 13) rfl rfl ?_
        refine m_if_eq (pc := 348) 355 rfl (by decide) (fun _ => ?_) (fun h9 => absurd (by rw [hil]; rfl) h9)
        refine m_iconst (pc := 355) 0 rfl (by decide) ?_
        refine m_iadd (pc := 356) rfl ?_
        refine m_st (st2 := [.int (nI (samL S S2 N A B (k + 1)))]) (by rw [show nI (samL S S2 N A B k) + 0 = nI (samL S S2 N A B (k + 1)) from (by rw [samL, if_neg (by rw [hil]; decide)]; exact Int32.add_zero _)]; try rfl) ?_
        refine m_istore (pc := 357) (j := 11) [some (.ref 0), some (.ref 70), some (.int x), some (.int (nI u)), some (.int step), some (.int dur), some (.int an), some (.int (nI (linV (S2.1 3) (S2.1 1 2) N))), some (.ref r), some (.ref (r + 1)), some (.int (nI L1)), some (.int (nI (samL S S2 N A B (k + 1)))), some (.int (nI k)), some (.int (pB (isL S S2 N A B k (stM S2 N k + 1)))), some (.int (nI (stK S2 N k + (stM S2 N k + 1))))] rfl (by decide) rfl ?_
        refine m_iinc (pc := 359) (j := 12) (n := 1) (nI (k + 1)) [some (.ref 0), some (.ref 70), some (.int x), some (.int (nI u)), some (.int step), some (.int dur), some (.int an), some (.int (nI (linV (S2.1 3) (S2.1 1 2) N))), some (.ref r), some (.ref (r + 1)), some (.int (nI L1)), some (.int (nI (samL S S2 N A B (k + 1)))), some (.int (nI (k + 1))), some (.int (pB (isL S S2 N A B k (stM S2 N k + 1)))), some (.int (nI (stK S2 N k + (stM S2 N k + 1))))] rfl (by decide) rfl (nI_1 k) rfl ?_
        refine m_goto (pc := 362) 229 rfl (by decide) ?_
        exact ih (k + 1) (some (.int (pB (isL S S2 N A B k (stM S2 N k + 1))))) (some (.int (nI (stK S2 N k + (stM S2 N k + 1))))) T (by omega) hf
set_option maxRecDepth 100000 in
theorem sp_L_movedN {sh : List PSh} {S : PSt} {N : Nat} (he : isLw sh) (hl9 : sh.length < 900) (hi : cIv S N) (hN : N ≤ 20) (hE : eOk S N) (h0 : 0 < N) {T0 : PSt} (hf : frL S T0) {x step dur : Int32} {u s1 d1 : Nat} (hu1 : u < N) (hu : modI x (nI N) = nI u) (hs1 : modI (x >>> (5 &&& 31)) 33 = nI s1) (hst : nI s1 - 12 = step) (hd1 : modI (x >>> (11 &&& 31)) 64 = nI d1) (hdu : 1 + nI d1 = dur) (ha2 : pAl 2 step = true) (ha1 : pAl 1 dur = true) (hd0 : ¬ dur = 0) (hfo : ¬ fouV (S.1 3) (S.1 1 2) N = true) (X : Nat × (Nat → Int32)) : pSpec mL_moved 9 2 65 [.ref 0, .ref 70, .int x] X sh T0 (fun r9 sh2 T => r9 = some (.int 1) ∧ (∃ l, sh2 = sh ++ l ∧ l.length ≤ 2) ∧ frZ S T) := by
  refine pSpec.of (by decide) tk_L_moved (Nat.le_of_ble_eq_true rfl) ?_
  show pWP mL_moved 9 2 65 _ X _ 0 [some (.ref 0), some (.ref 70), some (.int x), none, none, none, none, none, none, none, none, none, none, none, none] [] 0 0 sh T0
  refine m_iload_n (pc := 0) (j := 2) rfl rfl ?_
  refine m_aload_n (pc := 1) (j := 1) rfl rfl ?_
  refine m_iconst (pc := 2) 0 rfl (by decide) ?_
  refine m_iald (pc := 3) (a := 70) 0 rfl he.2 (vp_in_nI (n := 0) (by decide) (by decide)) rfl ?_
  refine m_st (st2 := [.int (nI N), .int x]) (by rw [show (T0.1 70 0) = nI N from (congrFun (fl_g hf).2.2 0).trans hE.1]; try rfl) ?_
  refine m_callS (pc := 4) (as := [.int x, .int (nI N)]) (rest := []) (st2 := [.int (modI x (nI N))]) rfl ce_L_mod ml_L_23 st_L_mod rfl (by decide) (Nat.le_of_ble_eq_true rfl) (sp_L_mod (nI_ne0 h0 (by omega))) rfl ?_
  refine m_st (st2 := [.int (nI u)]) (by rw [hu]; try rfl) ?_
  refine m_istore_n (pc := 7) (j := 3) [some (.ref 0), some (.ref 70), some (.int x), some (.int (nI u)), none, none, none, none, none, none, none, none, none, none, none] rfl (by decide) rfl ?_
  refine m_iload_n (pc := 8) (j := 2) rfl rfl ?_
  refine m_iconst (pc := 9) 5 rfl (by decide) ?_
  refine m_ishr (pc := 10) rfl ?_
  refine m_bipush (pc := 11) 33 rfl (by decide) ?_
  refine m_callS (pc := 13) (as := [.int (x >>> (5 &&& 31)), .int 33]) (rest := []) (st2 := [.int (modI (x >>> (5 &&& 31)) 33)]) rfl ce_L_mod ml_L_23 st_L_mod rfl (by decide) (Nat.le_of_ble_eq_true rfl) (sp_L_mod (by decide)) rfl ?_
  refine m_st (st2 := [.int (nI s1)]) (by rw [hs1]; try rfl) ?_
  refine m_bipush (pc := 16) 12 rfl (by decide) ?_
  refine m_isub (pc := 18) rfl ?_
  refine m_st (st2 := [.int step]) (by rw [hst]; try rfl) ?_
  refine m_istore (pc := 19) (j := 4) [some (.ref 0), some (.ref 70), some (.int x), some (.int (nI u)), some (.int step), none, none, none, none, none, none, none, none, none, none] rfl (by decide) rfl ?_
  refine m_iconst (pc := 21) 1 rfl (by decide) ?_
  refine m_iload_n (pc := 22) (j := 2) rfl rfl ?_
  refine m_bipush (pc := 23) 11 rfl (by decide) ?_
  refine m_ishr (pc := 25) rfl ?_
  refine m_bipush (pc := 26) 64 rfl (by decide) ?_
  refine m_callS (pc := 28) (as := [.int (x >>> (11 &&& 31)), .int 64]) (rest := [.int 1]) (st2 := [.int (modI (x >>> (11 &&& 31)) 64), .int 1]) rfl ce_L_mod ml_L_23 st_L_mod rfl (by decide) (Nat.le_of_ble_eq_true rfl) (sp_L_mod (by decide)) rfl ?_
  refine m_st (st2 := [.int (nI d1), .int 1]) (by rw [hd1]; try rfl) ?_
  refine m_iadd (pc := 31) rfl ?_
  refine m_st (st2 := [.int dur]) (by rw [hdu]; try rfl) ?_
  refine m_istore (pc := 32) (j := 5) [some (.ref 0), some (.ref 70), some (.int x), some (.int (nI u)), some (.int step), some (.int dur), none, none, none, none, none, none, none, none, none] rfl (by decide) rfl ?_
  refine m_aload_n (pc := 34) (j := 0) rfl rfl ?_
  refine m_iload_n (pc := 35) (j := 3) rfl rfl ?_
  refine m_iload (pc := 36) (j := 4) rfl rfl ?_
  refine m_iload (pc := 38) (j := 5) rfl rfl ?_
  refine m_callVG (pc := 40) (as := [.int (nI u), .int step, .int dur]) (rest := []) (b := 0) rfl ce_X8_moved ml_L_123 im_X8_moved se_X8_moved he.1.1 rfl rfl rfl (by decide) (Nat.le_of_ble_eq_true rfl) (sp_X8_moved he.1 (fl_iv hi hf)) (fun r9 S9 h9 => ?_)
  obtain ⟨rfl, hf⟩ := rd_moved hi hf hu1 ha2 ha1 hd0 h9
  refine m_istore (pc := 43) (j := 6) [some (.ref 0), some (.ref 70), some (.int x), some (.int (nI u)), some (.int step), some (.int dur), some (.int (mvA S N u step dur)), none, none, none, none, none, none, none, none] rfl (by decide) rfl ?_
  refine m_aload_n (pc := 45) (j := 0) rfl rfl ?_
  refine m_callVG (pc := 46) (as := []) (rest := []) (b := 0) rfl ce_X8_lines ml_L_68 im_X8_lines se_X8_lines he.1.1 rfl rfl rfl (by decide) (Nat.le_of_ble_eq_true rfl) (sp_X8_lines he.1 (fl_iv hi hf)) (fun r9 S9 h9 => ?_)
  obtain ⟨rfl, hf⟩ := rd_linesN hf hfo h9
  refine m_istore (pc := 49) (j := 7) [some (.ref 0), some (.ref 70), some (.int x), some (.int (nI u)), some (.int step), some (.int dur), some (.int (mvA S N u step dur)), some (.int (-2147483002)), none, none, none, none, none, none, none] rfl (by decide) rfl ?_
  refine m_iload (pc := 51) (j := 7) rfl rfl ?_
  refine m_ldc (pc := 53) (v := (-2147483002)) rfl kc_L_71 ?_
  refine m_icmp_ne (pc := 55) 71 rfl (by decide) (fun h9 => absurd h9 (by decide : ¬ ¬ ((-2147483002) : Int32) = (-2147483002))) (fun _ => ?_)
  refine m_iload (pc := 58) (j := 6) rfl rfl ?_
  refine m_ldc (pc := 60) (v := (-2147483002)) rfl kc_L_71 ?_
  refine m_icmp_ne (pc := 62) 69 rfl (by decide) (fun h9 => absurd h9 (fun q9 => q9 (mvA_N (fun q8 => hfo q8.1)))) (fun _ => ?_)
  refine m_iconst (pc := 65) 1 rfl (by decide) ?_
  refine m_goto (pc := 66) 70 rfl (by decide) ?_
  exact m_zret (pc := 70) rfl rfl rfl ⟨rfl, ⟨[], (List.append_nil sh).symm, by decide⟩, fz_fl hf⟩
theorem nl_a {q : Nat} (hq : 71 ≤ q) {a b c d e f : Int32} : ([some (.ref 0), some (.ref 70), some (.int a), some (.int b), some (.int c), some (.int d), some (.int e), some (.int f), none, none, none, none, none, none, none] : PL).all (pNoL q) = true := by
  have h1 : (0 : Nat) ≠ q := by omega
  have h2 : (70 : Nat) ≠ q := by omega
  simp [pNoL, pNoR, h1, h2]
theorem nl_b {q : Nat} (hq : 71 ≤ q) {a b c d e f : Int32} : ([some (.ref 0), some (.ref 70), some (.int a), some (.int b), some (.int c), some (.int d), some (.int e), some (.int f), some (.ref q), none, none, none, none, none, none] : PL).all (pNoL (q + 1)) = true := by
  have h1 : (0 : Nat) ≠ q + 1 := by omega
  have h2 : (70 : Nat) ≠ q + 1 := by omega
  simp [pNoL, pNoR, h2]
  omega
theorem isLw_app {sh : List PSh} {e : PSh} (h : isLw sh) : isLw (sh ++ [e]) := by
  have key : ∀ (i : Nat) (v : PSh), sh[i]? = some v → (sh ++ [e])[i]? = some v := fun i v q => by
    rw [List.getElem?_append_left (List.getElem?_eq_some_iff.mp q).1]
    exact q
  unfold isLw isEl isPg isSt isSk isBe isSg isTp isSs isSt isSg at h ⊢
  repeat' apply And.intro
  all_goals (apply key; simp_all)
set_option maxRecDepth 100000 in
theorem sp_L_movedB {sh : List PSh} {S : PSt} {N : Nat} (he : isLw sh) (hl9 : sh.length < 900) (hi : cIv S N) (hN : N ≤ 20) (hE : eOk S N) (h0 : 0 < N) {T0 : PSt} (hf : frL S T0) {x step dur : Int32} {u s1 d1 : Nat} (hu1 : u < N) (hu : modI x (nI N) = nI u) (hs1 : modI (x >>> (5 &&& 31)) 33 = nI s1) (hst : nI s1 - 12 = step) (hd1 : modI (x >>> (11 &&& 31)) 64 = nI d1) (hdu : 1 + nI d1 = dur) (ha2 : pAl 2 step = true) (ha1 : pAl 1 dur = true) (hd0 : ¬ dur = 0) (hfo : fouV (S.1 3) (S.1 1 2) N = true) (hfo2 : ¬ fouV ((mv3 S u step dur).1 3) ((mv3 S u step dur).1 1 2) N = true) (X : Nat × (Nat → Int32)) : pSpec mL_moved 9 2 65 [.ref 0, .ref 70, .int x] X sh T0 (fun r9 sh2 T => r9 = some (.int 1) ∧ (∃ l, sh2 = sh ++ l ∧ l.length ≤ 2) ∧ frZ S T) := by
  have hiA : cIv (pSI S 3 (5 * u + 2) step) N := cIv_set hi hu1 (by decide) (by decide) ha2
  have hi2 : cIv (mv3 S u step dur) N := cIv_set hiA hu1 (by decide) (by decide) ha1
  have hi3 : cIv (pSI (mv3 S u step dur) 3 (5 * u + 2) (S.1 3 (5 * u + 2))) N := cIv_set hi2 hu1 (by decide) (by decide) (al_of (hi.2.2.1 u hu1)).2
  have hw2 : (mv3 S u step dur).1 1 = S.1 1 := mv3_o (by decide)
  have hLN := lin_le hi.2.1 hfo
  refine pSpec.of (by decide) tk_L_moved (Nat.le_of_ble_eq_true rfl) ?_
  show pWP mL_moved 9 2 65 _ X _ 0 [some (.ref 0), some (.ref 70), some (.int x), none, none, none, none, none, none, none, none, none, none, none, none] [] 0 0 sh T0
  refine m_iload_n (pc := 0) (j := 2) rfl rfl ?_
  refine m_aload_n (pc := 1) (j := 1) rfl rfl ?_
  refine m_iconst (pc := 2) 0 rfl (by decide) ?_
  refine m_iald (pc := 3) (a := 70) 0 rfl he.2 (vp_in_nI (n := 0) (by decide) (by decide)) rfl ?_
  refine m_st (st2 := [.int (nI N), .int x]) (by rw [show (T0.1 70 0) = nI N from (congrFun (fl_g hf).2.2 0).trans hE.1]; try rfl) ?_
  refine m_callS (pc := 4) (as := [.int x, .int (nI N)]) (rest := []) (st2 := [.int (modI x (nI N))]) rfl ce_L_mod ml_L_23 st_L_mod rfl (by decide) (Nat.le_of_ble_eq_true rfl) (sp_L_mod (nI_ne0 h0 (by omega))) rfl ?_
  refine m_st (st2 := [.int (nI u)]) (by rw [hu]; try rfl) ?_
  refine m_istore_n (pc := 7) (j := 3) [some (.ref 0), some (.ref 70), some (.int x), some (.int (nI u)), none, none, none, none, none, none, none, none, none, none, none] rfl (by decide) rfl ?_
  refine m_iload_n (pc := 8) (j := 2) rfl rfl ?_
  refine m_iconst (pc := 9) 5 rfl (by decide) ?_
  refine m_ishr (pc := 10) rfl ?_
  refine m_bipush (pc := 11) 33 rfl (by decide) ?_
  refine m_callS (pc := 13) (as := [.int (x >>> (5 &&& 31)), .int 33]) (rest := []) (st2 := [.int (modI (x >>> (5 &&& 31)) 33)]) rfl ce_L_mod ml_L_23 st_L_mod rfl (by decide) (Nat.le_of_ble_eq_true rfl) (sp_L_mod (by decide)) rfl ?_
  refine m_st (st2 := [.int (nI s1)]) (by rw [hs1]; try rfl) ?_
  refine m_bipush (pc := 16) 12 rfl (by decide) ?_
  refine m_isub (pc := 18) rfl ?_
  refine m_st (st2 := [.int step]) (by rw [hst]; try rfl) ?_
  refine m_istore (pc := 19) (j := 4) [some (.ref 0), some (.ref 70), some (.int x), some (.int (nI u)), some (.int step), none, none, none, none, none, none, none, none, none, none] rfl (by decide) rfl ?_
  refine m_iconst (pc := 21) 1 rfl (by decide) ?_
  refine m_iload_n (pc := 22) (j := 2) rfl rfl ?_
  refine m_bipush (pc := 23) 11 rfl (by decide) ?_
  refine m_ishr (pc := 25) rfl ?_
  refine m_bipush (pc := 26) 64 rfl (by decide) ?_
  refine m_callS (pc := 28) (as := [.int (x >>> (11 &&& 31)), .int 64]) (rest := [.int 1]) (st2 := [.int (modI (x >>> (11 &&& 31)) 64), .int 1]) rfl ce_L_mod ml_L_23 st_L_mod rfl (by decide) (Nat.le_of_ble_eq_true rfl) (sp_L_mod (by decide)) rfl ?_
  refine m_st (st2 := [.int (nI d1), .int 1]) (by rw [hd1]; try rfl) ?_
  refine m_iadd (pc := 31) rfl ?_
  refine m_st (st2 := [.int dur]) (by rw [hdu]; try rfl) ?_
  refine m_istore (pc := 32) (j := 5) [some (.ref 0), some (.ref 70), some (.int x), some (.int (nI u)), some (.int step), some (.int dur), none, none, none, none, none, none, none, none, none] rfl (by decide) rfl ?_
  refine m_aload_n (pc := 34) (j := 0) rfl rfl ?_
  refine m_iload_n (pc := 35) (j := 3) rfl rfl ?_
  refine m_iload (pc := 36) (j := 4) rfl rfl ?_
  refine m_iload (pc := 38) (j := 5) rfl rfl ?_
  refine m_callVG (pc := 40) (as := [.int (nI u), .int step, .int dur]) (rest := []) (b := 0) rfl ce_X8_moved ml_L_123 im_X8_moved se_X8_moved he.1.1 rfl rfl rfl (by decide) (Nat.le_of_ble_eq_true rfl) (sp_X8_moved he.1 (fl_iv hi hf)) (fun r9 S9 h9 => ?_)
  obtain ⟨rfl, hf⟩ := rd_moved hi hf hu1 ha2 ha1 hd0 h9
  refine m_istore (pc := 43) (j := 6) [some (.ref 0), some (.ref 70), some (.int x), some (.int (nI u)), some (.int step), some (.int dur), some (.int (mvA S N u step dur)), none, none, none, none, none, none, none, none] rfl (by decide) rfl ?_
  refine m_aload_n (pc := 45) (j := 0) rfl rfl ?_
  refine m_callVG (pc := 46) (as := []) (rest := []) (b := 0) rfl ce_X8_lines ml_L_68 im_X8_lines se_X8_lines he.1.1 rfl rfl rfl (by decide) (Nat.le_of_ble_eq_true rfl) (sp_X8_lines he.1 (fl_iv hi hf)) (fun r9 S9 h9 => ?_)
  obtain ⟨rfl, hf⟩ := rd_linesY hf hfo h9
  refine m_istore (pc := 49) (j := 7) [some (.ref 0), some (.ref 70), some (.int x), some (.int (nI u)), some (.int step), some (.int dur), some (.int (mvA S N u step dur)), some (.int (nI (linV (S.1 3) (S.1 1 2) N))), none, none, none, none, none, none, none] rfl (by decide) rfl ?_
  refine m_iload (pc := 51) (j := 7) rfl rfl ?_
  refine m_ldc (pc := 53) (v := (-2147483002)) rfl kc_L_71 ?_
  refine m_icmp_ne (pc := 55) 71 rfl (by decide) (fun _ => ?_) (fun h9 => absurd h9 (nI_nn (by have := lin_le hi.2.1 hfo; omega)))
  refine m_bipush (pc := 71) 32 rfl (by decide) ?_
  have hlw : 71 ≤ sh.length := by have h9 := he.2; by_cases q9 : 70 < sh.length; · omega
                                  · rw [List.getElem?_eq_none (by omega)] at h9; cases h9
  refine pr_newa0 (pc := 73) (n := 32) rfl ac_int (by decide) (by decide) (by decide) (by omega) rfl (nl_a hlw) ⟨by decide, by decide⟩ ?_
  refine m_astore (pc := 75) (j := 8) [some (.ref 0), some (.ref 70), some (.int x), some (.int (nI u)), some (.int step), some (.int dur), some (.int (mvA S N u step dur)), some (.int (nI (linV (S.1 3) (S.1 1 2) N))), some (.ref sh.length), none, none, none, none, none, none] rfl (by decide) rfl ?_
  refine m_bipush (pc := 77) 33 rfl (by decide) ?_
  have hl1 : (sh ++ [Sum.inl (0, 32)] : List PSh).length = sh.length + 1 := by simp
  refine pr_newa0 (pc := 79) (n := 33) rfl ac_int (by decide) (by decide) (by decide) (by rw [hl1]; omega) rfl (by rw [hl1]; exact nl_b hlw) ⟨by decide, by decide⟩ ?_
  rw [hl1]
  refine m_astore (pc := 81) (j := 9) [some (.ref 0), some (.ref 70), some (.int x), some (.int (nI u)), some (.int step), some (.int dur), some (.int (mvA S N u step dur)), some (.int (nI (linV (S.1 3) (S.1 1 2) N))), some (.ref sh.length), some (.ref (sh.length + 1)), none, none, none, none, none] rfl (by decide) rfl ?_
  obtain ⟨r, hrl⟩ : ∃ r, r = sh.length := ⟨_, rfl⟩
  have hr : 71 ≤ r := by omega
  have he2 : isLw (sh ++ [Sum.inl (0, 32)] ++ [Sum.inl (0, 33)] : List PSh) := isLw_app (isLw_app he)
  have hra : (sh ++ [Sum.inl (0, 32)] ++ [Sum.inl (0, 33)] : List PSh)[r]? = some (.inl (0, 32)) := by subst hrl; simp [List.getElem?_append]
  have hrb : (sh ++ [Sum.inl (0, 32)] ++ [Sum.inl (0, 33)] : List PSh)[r + 1]? = some (.inl (0, 33)) := by subst hrl; simp [List.getElem?_append]
  obtain ⟨sh2, hsh2⟩ : ∃ s, s = (sh ++ [Sum.inl (0, 32)] ++ [Sum.inl (0, 33)] : List PSh) := ⟨_, rfl⟩
  have hq9 : ∃ l, sh2 = sh ++ l ∧ l.length ≤ 2 := ⟨[Sum.inl (0, 32), Sum.inl (0, 33)], by rw [hsh2, List.append_assoc]; rfl, by decide⟩
  have hf := fl_sz (r := sh.length) hf
  rw [← hsh2] at he2 hra hrb ⊢
  rw [← hrl] at hf ⊢
  have he := he2
  generalize pSZ (pSZ S9 r) (r + 1) = T1 at hf
  refine m_iconst (pc := 83) 0 rfl (by decide) ?_
  refine m_istore (pc := 84) (j := 10) [some (.ref 0), some (.ref 70), some (.int x), some (.int (nI u)), some (.int step), some (.int dur), some (.int (mvA S N u step dur)), some (.int (nI (linV (S.1 3) (S.1 1 2) N))), some (.ref r), some (.ref (r + 1)), some (.int 0), none, none, none, none] rfl (by decide) rfl ?_
  refine m_L rfl (lp_L_movedB (by decide) (by decide) he hr hra hrb hi hN hfo (fun A B f11 T hI hf => ?_) (linV (S.1 3) (S.1 1 2) N) 0 _ _ none _ (Nat.zero_add _) (fun i hi9 => absurd hi9 (Nat.not_lt_zero i)) hf)
  refine m_iload (pc := 175) (j := 7) rfl rfl ?_
  refine m_istore (pc := 177) (j := 10) [some (.ref 0), some (.ref 70), some (.int x), some (.int (nI u)), some (.int step), some (.int dur), some (.int (mvA S N u step dur)), some (.int (nI (linV (S.1 3) (S.1 1 2) N))), some (.ref r), some (.ref (r + 1)), some (.int (nI (linV (S.1 3) (S.1 1 2) N))), f11, none, none, none] rfl (by decide) rfl ?_
  refine m_aload_n (pc := 179) (j := 0) rfl rfl ?_
  refine m_iload_n (pc := 180) (j := 3) rfl rfl ?_
  refine m_iconst (pc := 181) 2 rfl (by decide) ?_
  refine m_iload (pc := 182) (j := 4) rfl rfl ?_
  refine m_callVG (pc := 184) (as := [.int (nI u), .int 2, .int step]) (rest := []) (b := 0) rfl ce_X8_set ml_L_30 im_X8_set se_X8_set he.1.1 rfl rfl rfl (by decide) (Nat.le_of_ble_eq_true rfl) (sp_X8_set he.1 (fl_iv (mB_iv hr hi) hf)) (fun r9 S9 h9 => ?_)
  obtain ⟨rfl, hf⟩ := rm_set hr hi hf (u := 2) hu1 (by decide) ha2 h9
  refine m_aload_n (pc := 187) (j := 1) rfl rfl ?_
  refine m_iconst (pc := 188) 4 rfl (by decide) ?_
  refine m_iconst (pc := 189) 5 rfl (by decide) ?_
  refine m_iload_n (pc := 190) (j := 3) rfl rfl ?_
  refine m_imul (pc := 191) rfl ?_
  refine m_iadd (pc := 192) rfl ?_
  refine m_st (st2 := [.int (nI (4 + 5 * u)), .ref 70, .int (S.1 3 (5 * u + 2))]) (by rw [e45 u]; try rfl) ?_
  refine m_iald (pc := 193) (a := 70) (4 + 5 * u) rfl he.2 (vp_in_nI (by omega) (by decide)) (nI_clamp (by omega)) ?_
  refine m_st (st2 := [.int (S.1 3 (5 * u + 2)), .int (S.1 3 (5 * u + 2))]) (by rw [show (S9.1 70 (4 + 5 * u)) = (S.1 3 (5 * u + 2)) from (e_rd (S := S) hr hf (pSI_ne (by decide)) _).trans (by rw [show 4 + 5 * u = 2 + (5 * u + 2) by omega]; exact hE.2.2 _ (by omega))]; try rfl) ?_
  refine m_icmp_ne (pc := 194) 215 rfl (by decide) (fun h9 => absurd h9 (fun q9 => q9 rfl)) (fun _ => ?_)
  refine m_aload_n (pc := 197) (j := 0) rfl rfl ?_
  refine m_iload_n (pc := 198) (j := 3) rfl rfl ?_
  refine m_iconst (pc := 199) 1 rfl (by decide) ?_
  refine m_iload (pc := 200) (j := 5) rfl rfl ?_
  refine m_callVG (pc := 202) (as := [.int (nI u), .int 1, .int dur]) (rest := []) (b := 0) rfl ce_X8_set ml_L_30 im_X8_set se_X8_set he.1.1 rfl rfl rfl (by decide) (Nat.le_of_ble_eq_true rfl) (sp_X8_set he.1 (fl_iv (mB_iv hr hiA) hf)) (fun r9 S9 h9 => ?_)
  obtain ⟨rfl, hf⟩ := rm_set hr hiA hf (u := 1) hu1 (by decide) ha1 h9
  refine m_st (st2 := [.int (S.1 3 (5 * u + 1))]) (by rw [show (pSI S 3 (5 * u + 2) step).1 3 (5 * u + 1) = (S.1 3 (5 * u + 1)) from pSI_j (by omega)]; try rfl) ?_
  refine m_aload_n (pc := 205) (j := 1) rfl rfl ?_
  refine m_iconst (pc := 206) 3 rfl (by decide) ?_
  refine m_iconst (pc := 207) 5 rfl (by decide) ?_
  refine m_iload_n (pc := 208) (j := 3) rfl rfl ?_
  refine m_imul (pc := 209) rfl ?_
  refine m_iadd (pc := 210) rfl ?_
  refine m_st (st2 := [.int (nI (3 + 5 * u)), .ref 70, .int (S.1 3 (5 * u + 1))]) (by rw [e35 u]; try rfl) ?_
  refine m_iald (pc := 211) (a := 70) (3 + 5 * u) rfl he.2 (vp_in_nI (by omega) (by decide)) (nI_clamp (by omega)) ?_
  refine m_st (st2 := [.int (S.1 3 (5 * u + 1)), .int (S.1 3 (5 * u + 1))]) (by rw [show (S9.1 70 (3 + 5 * u)) = (S.1 3 (5 * u + 1)) from (e_rd (S := S) hr hf (mv3_o (by decide)) _).trans (by rw [show 3 + 5 * u = 2 + (5 * u + 1) by omega]; exact hE.2.2 _ (by omega))]; try rfl) ?_
  refine m_icmp_eq (pc := 212) 217 rfl (by decide) (fun _ => ?_) (fun h9 => absurd rfl h9)
  refine m_aload_n (pc := 217) (j := 0) rfl rfl ?_
  refine m_callVG (pc := 218) (as := []) (rest := []) (b := 0) rfl ce_X8_lines ml_L_68 im_X8_lines se_X8_lines he.1.1 rfl rfl rfl (by decide) (Nat.le_of_ble_eq_true rfl) (sp_X8_lines he.1 (fl_iv (mB_iv hr hi2) hf)) (fun r9 S9 h9 => ?_)
  obtain ⟨rfl, hf⟩ := rm_linesN hr hf hfo2 h9
  refine m_istore (pc := 221) (j := 7) [some (.ref 0), some (.ref 70), some (.int x), some (.int (nI u)), some (.int step), some (.int dur), some (.int (mvA S N u step dur)), some (.int (-2147483002)), some (.ref r), some (.ref (r + 1)), some (.int (nI (linV (S.1 3) (S.1 1 2) N))), f11, none, none, none] rfl (by decide) rfl ?_
  refine m_iconst (pc := 223) 0 rfl (by decide) ?_
  refine m_istore (pc := 224) (j := 11) [some (.ref 0), some (.ref 70), some (.int x), some (.int (nI u)), some (.int step), some (.int dur), some (.int (mvA S N u step dur)), some (.int (-2147483002)), some (.ref r), some (.ref (r + 1)), some (.int (nI (linV (S.1 3) (S.1 1 2) N))), some (.int 0), none, none, none] rfl (by decide) rfl ?_
  refine m_iconst (pc := 226) 0 rfl (by decide) ?_
  refine m_istore (pc := 227) (j := 12) [some (.ref 0), some (.ref 70), some (.int x), some (.int (nI u)), some (.int step), some (.int dur), some (.int (mvA S N u step dur)), some (.int (-2147483002)), some (.ref r), some (.ref (r + 1)), some (.int (nI (linV (S.1 3) (S.1 1 2) N))), some (.int 0), some (.int 0), none, none] rfl (by decide) rfl ?_
  refine m_iload (pc := 229) (j := 12) rfl rfl ?_
  refine m_iload (pc := 231) (j := 7) rfl rfl ?_
  refine m_icmp_ge (pc := 233) 365 rfl (by decide) (fun _ => ?_) (fun h9 => absurd (by decide : ((-2147483002) : Int32) ≤ (0 : Int32)) h9)
  refine m_aload_n (pc := 365) (j := 0) rfl rfl ?_
  refine m_iload_n (pc := 366) (j := 3) rfl rfl ?_
  refine m_iconst (pc := 367) 2 rfl (by decide) ?_
  refine m_aload_n (pc := 368) (j := 1) rfl rfl ?_
  refine m_iconst (pc := 369) 4 rfl (by decide) ?_
  refine m_iconst (pc := 370) 5 rfl (by decide) ?_
  refine m_iload_n (pc := 371) (j := 3) rfl rfl ?_
  refine m_imul (pc := 372) rfl ?_
  refine m_iadd (pc := 373) rfl ?_
  refine m_st (st2 := [.int (nI (4 + 5 * u)), .ref 70, .int 2, .int (nI u), .ref 0]) (by rw [e45 u]; try rfl) ?_
  refine m_iald (pc := 374) (a := 70) (4 + 5 * u) rfl he.2 (vp_in_nI (by omega) (by decide)) (nI_clamp (by omega)) ?_
  refine m_st (st2 := [.int (S.1 3 (5 * u + 2)), .int 2, .int (nI u), .ref 0]) (by rw [show (S9.1 70 (4 + 5 * u)) = (S.1 3 (5 * u + 2)) from (e_rd (S := S) hr hf (mv3_o (by decide)) _).trans (by rw [show 4 + 5 * u = 2 + (5 * u + 2) by omega]; exact hE.2.2 _ (by omega))]; try rfl) ?_
  refine m_callVG (pc := 375) (as := [.int (nI u), .int 2, .int (S.1 3 (5 * u + 2))]) (rest := []) (b := 0) rfl ce_X8_set ml_L_30 im_X8_set se_X8_set he.1.1 rfl rfl rfl (by decide) (Nat.le_of_ble_eq_true rfl) (sp_X8_set he.1 (fl_iv (mB_iv hr hi2) hf)) (fun r9 S9 h9 => ?_)
  obtain ⟨rfl, hf⟩ := rm_set hr hi2 hf (u := 2) hu1 (by decide) (al_of (hi.2.2.1 u hu1)).2 h9
  refine m_st (st2 := [.int step]) (by rw [show (mv3 S u step dur).1 3 (5 * u + 2) = step from mv3_s]; try rfl) ?_
  refine m_iload (pc := 378) (j := 4) rfl rfl ?_
  refine m_icmp_ne (pc := 380) 401 rfl (by decide) (fun h9 => absurd h9 (fun q9 => q9 rfl)) (fun _ => ?_)
  refine m_aload_n (pc := 383) (j := 0) rfl rfl ?_
  refine m_iload_n (pc := 384) (j := 3) rfl rfl ?_
  refine m_iconst (pc := 385) 1 rfl (by decide) ?_
  refine m_aload_n (pc := 386) (j := 1) rfl rfl ?_
  refine m_iconst (pc := 387) 3 rfl (by decide) ?_
  refine m_iconst (pc := 388) 5 rfl (by decide) ?_
  refine m_iload_n (pc := 389) (j := 3) rfl rfl ?_
  refine m_imul (pc := 390) rfl ?_
  refine m_iadd (pc := 391) rfl ?_
  refine m_st (st2 := [.int (nI (3 + 5 * u)), .ref 70, .int 1, .int (nI u), .ref 0]) (by rw [e35 u]; try rfl) ?_
  refine m_iald (pc := 392) (a := 70) (3 + 5 * u) rfl he.2 (vp_in_nI (by omega) (by decide)) (nI_clamp (by omega)) ?_
  refine m_st (st2 := [.int (S.1 3 (5 * u + 1)), .int 1, .int (nI u), .ref 0]) (by rw [show (S9.1 70 (3 + 5 * u)) = (S.1 3 (5 * u + 1)) from (e_rd (S := S) hr hf ((pSI_ne (by decide)).trans (mv3_o (by decide))) _).trans (by rw [show 3 + 5 * u = 2 + (5 * u + 1) by omega]; exact hE.2.2 _ (by omega))]; try rfl) ?_
  refine m_callVG (pc := 393) (as := [.int (nI u), .int 1, .int (S.1 3 (5 * u + 1))]) (rest := []) (b := 0) rfl ce_X8_set ml_L_30 im_X8_set se_X8_set he.1.1 rfl rfl rfl (by decide) (Nat.le_of_ble_eq_true rfl) (sp_X8_set he.1 (fl_iv (mB_iv hr hi3) hf)) (fun r9 S9 h9 => ?_)
  obtain ⟨rfl, hf⟩ := rm_set hr hi3 hf (u := 1) hu1 (by decide) (al_of (hi.2.2.1 u hu1)).1 h9
  refine m_st (st2 := [.int dur]) (by rw [show (pSI (mv3 S u step dur) 3 (5 * u + 2) (S.1 3 (5 * u + 2))).1 3 (5 * u + 1) = dur from (pSI_j (by omega)).trans mv3_d]; try rfl) ?_
  refine m_iload (pc := 396) (j := 5) rfl rfl ?_
  refine m_icmp_eq (pc := 398) 403 rfl (by decide) (fun _ => ?_) (fun h9 => absurd rfl h9)
  refine m_iload (pc := 403) (j := 6) rfl rfl ?_
  refine m_iload (pc := 405) (j := 7) rfl rfl ?_
  refine m_ldc (pc := 407) (v := (-2147483002)) rfl kc_L_71 ?_
  refine m_icmp_ne (pc := 409) 417 rfl (by decide) (fun h9 => absurd h9 (by decide : ¬ ¬ ((-2147483002) : Int32) = (-2147483002))) (fun _ => ?_)
  refine m_ldc (pc := 412) (v := (-2147483002)) rfl kc_L_71 ?_
  refine m_goto (pc := 414) 422 rfl (by decide) ?_
  refine m_icmp_ne (pc := 422) 429 rfl (by decide) (fun h9 => absurd h9 (fun q9 => q9 (mvA_N (fun q8 => hfo2 (by rw [hw2]; exact q8.2))))) (fun _ => ?_)
  refine m_iconst (pc := 425) 1 rfl (by decide) ?_
  refine m_goto (pc := 426) 430 rfl (by decide) ?_
  exact m_zret (pc := 430) rfl rfl rfl ⟨rfl, hq9, fz_mB hr (by have h9 := hf; rw [mv3_back (by omega)] at h9; exact h9)⟩
set_option maxRecDepth 100000 in
theorem sp_L_movedC {sh : List PSh} {S : PSt} {N : Nat} (he : isLw sh) (hl9 : sh.length < 900) (hi : cIv S N) (hN : N ≤ 20) (hE : eOk S N) (h0 : 0 < N) {T0 : PSt} (hf : frL S T0) {x step dur : Int32} {u s1 d1 : Nat} (hu1 : u < N) (hu : modI x (nI N) = nI u) (hs1 : modI (x >>> (5 &&& 31)) 33 = nI s1) (hst : nI s1 - 12 = step) (hd1 : modI (x >>> (11 &&& 31)) 64 = nI d1) (hdu : 1 + nI d1 = dur) (ha2 : pAl 2 step = true) (ha1 : pAl 1 dur = true) (hd0 : ¬ dur = 0) (hfo : fouV (S.1 3) (S.1 1 2) N = true) (hfo2 : fouV ((mv3 S u step dur).1 3) ((mv3 S u step dur).1 1 2) N = true) (X : Nat × (Nat → Int32)) : pSpec mL_moved 9 2 65 [.ref 0, .ref 70, .int x] X sh T0 (fun r9 sh2 T => r9 = some (.int 1) ∧ (∃ l, sh2 = sh ++ l ∧ l.length ≤ 2) ∧ frZ S T) := by
  have hiA : cIv (pSI S 3 (5 * u + 2) step) N := cIv_set hi hu1 (by decide) (by decide) ha2
  have hi2 : cIv (mv3 S u step dur) N := cIv_set hiA hu1 (by decide) (by decide) ha1
  have hi3 : cIv (pSI (mv3 S u step dur) 3 (5 * u + 2) (S.1 3 (5 * u + 2))) N := cIv_set hi2 hu1 (by decide) (by decide) (al_of (hi.2.2.1 u hu1)).2
  have hw2 : (mv3 S u step dur).1 1 = S.1 1 := mv3_o (by decide)
  have hLN := lin_le hi.2.1 hfo
  refine pSpec.of (by decide) tk_L_moved (Nat.le_of_ble_eq_true rfl) ?_
  show pWP mL_moved 9 2 65 _ X _ 0 [some (.ref 0), some (.ref 70), some (.int x), none, none, none, none, none, none, none, none, none, none, none, none] [] 0 0 sh T0
  refine m_iload_n (pc := 0) (j := 2) rfl rfl ?_
  refine m_aload_n (pc := 1) (j := 1) rfl rfl ?_
  refine m_iconst (pc := 2) 0 rfl (by decide) ?_
  refine m_iald (pc := 3) (a := 70) 0 rfl he.2 (vp_in_nI (n := 0) (by decide) (by decide)) rfl ?_
  refine m_st (st2 := [.int (nI N), .int x]) (by rw [show (T0.1 70 0) = nI N from (congrFun (fl_g hf).2.2 0).trans hE.1]; try rfl) ?_
  refine m_callS (pc := 4) (as := [.int x, .int (nI N)]) (rest := []) (st2 := [.int (modI x (nI N))]) rfl ce_L_mod ml_L_23 st_L_mod rfl (by decide) (Nat.le_of_ble_eq_true rfl) (sp_L_mod (nI_ne0 h0 (by omega))) rfl ?_
  refine m_st (st2 := [.int (nI u)]) (by rw [hu]; try rfl) ?_
  refine m_istore_n (pc := 7) (j := 3) [some (.ref 0), some (.ref 70), some (.int x), some (.int (nI u)), none, none, none, none, none, none, none, none, none, none, none] rfl (by decide) rfl ?_
  refine m_iload_n (pc := 8) (j := 2) rfl rfl ?_
  refine m_iconst (pc := 9) 5 rfl (by decide) ?_
  refine m_ishr (pc := 10) rfl ?_
  refine m_bipush (pc := 11) 33 rfl (by decide) ?_
  refine m_callS (pc := 13) (as := [.int (x >>> (5 &&& 31)), .int 33]) (rest := []) (st2 := [.int (modI (x >>> (5 &&& 31)) 33)]) rfl ce_L_mod ml_L_23 st_L_mod rfl (by decide) (Nat.le_of_ble_eq_true rfl) (sp_L_mod (by decide)) rfl ?_
  refine m_st (st2 := [.int (nI s1)]) (by rw [hs1]; try rfl) ?_
  refine m_bipush (pc := 16) 12 rfl (by decide) ?_
  refine m_isub (pc := 18) rfl ?_
  refine m_st (st2 := [.int step]) (by rw [hst]; try rfl) ?_
  refine m_istore (pc := 19) (j := 4) [some (.ref 0), some (.ref 70), some (.int x), some (.int (nI u)), some (.int step), none, none, none, none, none, none, none, none, none, none] rfl (by decide) rfl ?_
  refine m_iconst (pc := 21) 1 rfl (by decide) ?_
  refine m_iload_n (pc := 22) (j := 2) rfl rfl ?_
  refine m_bipush (pc := 23) 11 rfl (by decide) ?_
  refine m_ishr (pc := 25) rfl ?_
  refine m_bipush (pc := 26) 64 rfl (by decide) ?_
  refine m_callS (pc := 28) (as := [.int (x >>> (11 &&& 31)), .int 64]) (rest := [.int 1]) (st2 := [.int (modI (x >>> (11 &&& 31)) 64), .int 1]) rfl ce_L_mod ml_L_23 st_L_mod rfl (by decide) (Nat.le_of_ble_eq_true rfl) (sp_L_mod (by decide)) rfl ?_
  refine m_st (st2 := [.int (nI d1), .int 1]) (by rw [hd1]; try rfl) ?_
  refine m_iadd (pc := 31) rfl ?_
  refine m_st (st2 := [.int dur]) (by rw [hdu]; try rfl) ?_
  refine m_istore (pc := 32) (j := 5) [some (.ref 0), some (.ref 70), some (.int x), some (.int (nI u)), some (.int step), some (.int dur), none, none, none, none, none, none, none, none, none] rfl (by decide) rfl ?_
  refine m_aload_n (pc := 34) (j := 0) rfl rfl ?_
  refine m_iload_n (pc := 35) (j := 3) rfl rfl ?_
  refine m_iload (pc := 36) (j := 4) rfl rfl ?_
  refine m_iload (pc := 38) (j := 5) rfl rfl ?_
  refine m_callVG (pc := 40) (as := [.int (nI u), .int step, .int dur]) (rest := []) (b := 0) rfl ce_X8_moved ml_L_123 im_X8_moved se_X8_moved he.1.1 rfl rfl rfl (by decide) (Nat.le_of_ble_eq_true rfl) (sp_X8_moved he.1 (fl_iv hi hf)) (fun r9 S9 h9 => ?_)
  obtain ⟨rfl, hf⟩ := rd_moved hi hf hu1 ha2 ha1 hd0 h9
  refine m_istore (pc := 43) (j := 6) [some (.ref 0), some (.ref 70), some (.int x), some (.int (nI u)), some (.int step), some (.int dur), some (.int (mvA S N u step dur)), none, none, none, none, none, none, none, none] rfl (by decide) rfl ?_
  refine m_aload_n (pc := 45) (j := 0) rfl rfl ?_
  refine m_callVG (pc := 46) (as := []) (rest := []) (b := 0) rfl ce_X8_lines ml_L_68 im_X8_lines se_X8_lines he.1.1 rfl rfl rfl (by decide) (Nat.le_of_ble_eq_true rfl) (sp_X8_lines he.1 (fl_iv hi hf)) (fun r9 S9 h9 => ?_)
  obtain ⟨rfl, hf⟩ := rd_linesY hf hfo h9
  refine m_istore (pc := 49) (j := 7) [some (.ref 0), some (.ref 70), some (.int x), some (.int (nI u)), some (.int step), some (.int dur), some (.int (mvA S N u step dur)), some (.int (nI (linV (S.1 3) (S.1 1 2) N))), none, none, none, none, none, none, none] rfl (by decide) rfl ?_
  refine m_iload (pc := 51) (j := 7) rfl rfl ?_
  refine m_ldc (pc := 53) (v := (-2147483002)) rfl kc_L_71 ?_
  refine m_icmp_ne (pc := 55) 71 rfl (by decide) (fun _ => ?_) (fun h9 => absurd h9 (nI_nn (by have := lin_le hi.2.1 hfo; omega)))
  refine m_bipush (pc := 71) 32 rfl (by decide) ?_
  have hlw : 71 ≤ sh.length := by have h9 := he.2; by_cases q9 : 70 < sh.length; · omega
                                  · rw [List.getElem?_eq_none (by omega)] at h9; cases h9
  refine pr_newa0 (pc := 73) (n := 32) rfl ac_int (by decide) (by decide) (by decide) (by omega) rfl (nl_a hlw) ⟨by decide, by decide⟩ ?_
  refine m_astore (pc := 75) (j := 8) [some (.ref 0), some (.ref 70), some (.int x), some (.int (nI u)), some (.int step), some (.int dur), some (.int (mvA S N u step dur)), some (.int (nI (linV (S.1 3) (S.1 1 2) N))), some (.ref sh.length), none, none, none, none, none, none] rfl (by decide) rfl ?_
  refine m_bipush (pc := 77) 33 rfl (by decide) ?_
  have hl1 : (sh ++ [Sum.inl (0, 32)] : List PSh).length = sh.length + 1 := by simp
  refine pr_newa0 (pc := 79) (n := 33) rfl ac_int (by decide) (by decide) (by decide) (by rw [hl1]; omega) rfl (by rw [hl1]; exact nl_b hlw) ⟨by decide, by decide⟩ ?_
  rw [hl1]
  refine m_astore (pc := 81) (j := 9) [some (.ref 0), some (.ref 70), some (.int x), some (.int (nI u)), some (.int step), some (.int dur), some (.int (mvA S N u step dur)), some (.int (nI (linV (S.1 3) (S.1 1 2) N))), some (.ref sh.length), some (.ref (sh.length + 1)), none, none, none, none, none] rfl (by decide) rfl ?_
  obtain ⟨r, hrl⟩ : ∃ r, r = sh.length := ⟨_, rfl⟩
  have hr : 71 ≤ r := by omega
  have he2 : isLw (sh ++ [Sum.inl (0, 32)] ++ [Sum.inl (0, 33)] : List PSh) := isLw_app (isLw_app he)
  have hra : (sh ++ [Sum.inl (0, 32)] ++ [Sum.inl (0, 33)] : List PSh)[r]? = some (.inl (0, 32)) := by subst hrl; simp [List.getElem?_append]
  have hrb : (sh ++ [Sum.inl (0, 32)] ++ [Sum.inl (0, 33)] : List PSh)[r + 1]? = some (.inl (0, 33)) := by subst hrl; simp [List.getElem?_append]
  obtain ⟨sh2, hsh2⟩ : ∃ s, s = (sh ++ [Sum.inl (0, 32)] ++ [Sum.inl (0, 33)] : List PSh) := ⟨_, rfl⟩
  have hq9 : ∃ l, sh2 = sh ++ l ∧ l.length ≤ 2 := ⟨[Sum.inl (0, 32), Sum.inl (0, 33)], by rw [hsh2, List.append_assoc]; rfl, by decide⟩
  have hf := fl_sz (r := sh.length) hf
  rw [← hsh2] at he2 hra hrb ⊢
  rw [← hrl] at hf ⊢
  have he := he2
  generalize pSZ (pSZ S9 r) (r + 1) = T1 at hf
  refine m_iconst (pc := 83) 0 rfl (by decide) ?_
  refine m_istore (pc := 84) (j := 10) [some (.ref 0), some (.ref 70), some (.int x), some (.int (nI u)), some (.int step), some (.int dur), some (.int (mvA S N u step dur)), some (.int (nI (linV (S.1 3) (S.1 1 2) N))), some (.ref r), some (.ref (r + 1)), some (.int 0), none, none, none, none] rfl (by decide) rfl ?_
  refine m_L rfl (lp_L_movedB (by decide) (by decide) he hr hra hrb hi hN hfo (fun A B f11 T hI hf => ?_) (linV (S.1 3) (S.1 1 2) N) 0 _ _ none _ (Nat.zero_add _) (fun i hi9 => absurd hi9 (Nat.not_lt_zero i)) hf)
  refine m_iload (pc := 175) (j := 7) rfl rfl ?_
  refine m_istore (pc := 177) (j := 10) [some (.ref 0), some (.ref 70), some (.int x), some (.int (nI u)), some (.int step), some (.int dur), some (.int (mvA S N u step dur)), some (.int (nI (linV (S.1 3) (S.1 1 2) N))), some (.ref r), some (.ref (r + 1)), some (.int (nI (linV (S.1 3) (S.1 1 2) N))), f11, none, none, none] rfl (by decide) rfl ?_
  refine m_aload_n (pc := 179) (j := 0) rfl rfl ?_
  refine m_iload_n (pc := 180) (j := 3) rfl rfl ?_
  refine m_iconst (pc := 181) 2 rfl (by decide) ?_
  refine m_iload (pc := 182) (j := 4) rfl rfl ?_
  refine m_callVG (pc := 184) (as := [.int (nI u), .int 2, .int step]) (rest := []) (b := 0) rfl ce_X8_set ml_L_30 im_X8_set se_X8_set he.1.1 rfl rfl rfl (by decide) (Nat.le_of_ble_eq_true rfl) (sp_X8_set he.1 (fl_iv (mB_iv hr hi) hf)) (fun r9 S9 h9 => ?_)
  obtain ⟨rfl, hf⟩ := rm_set hr hi hf (u := 2) hu1 (by decide) ha2 h9
  refine m_aload_n (pc := 187) (j := 1) rfl rfl ?_
  refine m_iconst (pc := 188) 4 rfl (by decide) ?_
  refine m_iconst (pc := 189) 5 rfl (by decide) ?_
  refine m_iload_n (pc := 190) (j := 3) rfl rfl ?_
  refine m_imul (pc := 191) rfl ?_
  refine m_iadd (pc := 192) rfl ?_
  refine m_st (st2 := [.int (nI (4 + 5 * u)), .ref 70, .int (S.1 3 (5 * u + 2))]) (by rw [e45 u]; try rfl) ?_
  refine m_iald (pc := 193) (a := 70) (4 + 5 * u) rfl he.2 (vp_in_nI (by omega) (by decide)) (nI_clamp (by omega)) ?_
  refine m_st (st2 := [.int (S.1 3 (5 * u + 2)), .int (S.1 3 (5 * u + 2))]) (by rw [show (S9.1 70 (4 + 5 * u)) = (S.1 3 (5 * u + 2)) from (e_rd (S := S) hr hf (pSI_ne (by decide)) _).trans (by rw [show 4 + 5 * u = 2 + (5 * u + 2) by omega]; exact hE.2.2 _ (by omega))]; try rfl) ?_
  refine m_icmp_ne (pc := 194) 215 rfl (by decide) (fun h9 => absurd h9 (fun q9 => q9 rfl)) (fun _ => ?_)
  refine m_aload_n (pc := 197) (j := 0) rfl rfl ?_
  refine m_iload_n (pc := 198) (j := 3) rfl rfl ?_
  refine m_iconst (pc := 199) 1 rfl (by decide) ?_
  refine m_iload (pc := 200) (j := 5) rfl rfl ?_
  refine m_callVG (pc := 202) (as := [.int (nI u), .int 1, .int dur]) (rest := []) (b := 0) rfl ce_X8_set ml_L_30 im_X8_set se_X8_set he.1.1 rfl rfl rfl (by decide) (Nat.le_of_ble_eq_true rfl) (sp_X8_set he.1 (fl_iv (mB_iv hr hiA) hf)) (fun r9 S9 h9 => ?_)
  obtain ⟨rfl, hf⟩ := rm_set hr hiA hf (u := 1) hu1 (by decide) ha1 h9
  refine m_st (st2 := [.int (S.1 3 (5 * u + 1))]) (by rw [show (pSI S 3 (5 * u + 2) step).1 3 (5 * u + 1) = (S.1 3 (5 * u + 1)) from pSI_j (by omega)]; try rfl) ?_
  refine m_aload_n (pc := 205) (j := 1) rfl rfl ?_
  refine m_iconst (pc := 206) 3 rfl (by decide) ?_
  refine m_iconst (pc := 207) 5 rfl (by decide) ?_
  refine m_iload_n (pc := 208) (j := 3) rfl rfl ?_
  refine m_imul (pc := 209) rfl ?_
  refine m_iadd (pc := 210) rfl ?_
  refine m_st (st2 := [.int (nI (3 + 5 * u)), .ref 70, .int (S.1 3 (5 * u + 1))]) (by rw [e35 u]; try rfl) ?_
  refine m_iald (pc := 211) (a := 70) (3 + 5 * u) rfl he.2 (vp_in_nI (by omega) (by decide)) (nI_clamp (by omega)) ?_
  refine m_st (st2 := [.int (S.1 3 (5 * u + 1)), .int (S.1 3 (5 * u + 1))]) (by rw [show (S9.1 70 (3 + 5 * u)) = (S.1 3 (5 * u + 1)) from (e_rd (S := S) hr hf (mv3_o (by decide)) _).trans (by rw [show 3 + 5 * u = 2 + (5 * u + 1) by omega]; exact hE.2.2 _ (by omega))]; try rfl) ?_
  refine m_icmp_eq (pc := 212) 217 rfl (by decide) (fun _ => ?_) (fun h9 => absurd rfl h9)
  refine m_aload_n (pc := 217) (j := 0) rfl rfl ?_
  refine m_callVG (pc := 218) (as := []) (rest := []) (b := 0) rfl ce_X8_lines ml_L_68 im_X8_lines se_X8_lines he.1.1 rfl rfl rfl (by decide) (Nat.le_of_ble_eq_true rfl) (sp_X8_lines he.1 (fl_iv (mB_iv hr hi2) hf)) (fun r9 S9 h9 => ?_)
  obtain ⟨rfl, hf⟩ := rm_linesY hr hf hfo2 h9
  refine m_istore (pc := 221) (j := 7) [some (.ref 0), some (.ref 70), some (.int x), some (.int (nI u)), some (.int step), some (.int dur), some (.int (mvA S N u step dur)), some (.int (nI (linV ((mv3 S u step dur).1 3) ((mv3 S u step dur).1 1 2) N))), some (.ref r), some (.ref (r + 1)), some (.int (nI (linV (S.1 3) (S.1 1 2) N))), f11, none, none, none] rfl (by decide) rfl ?_
  refine m_iconst (pc := 223) 0 rfl (by decide) ?_
  refine m_istore (pc := 224) (j := 11) [some (.ref 0), some (.ref 70), some (.int x), some (.int (nI u)), some (.int step), some (.int dur), some (.int (mvA S N u step dur)), some (.int (nI (linV ((mv3 S u step dur).1 3) ((mv3 S u step dur).1 1 2) N))), some (.ref r), some (.ref (r + 1)), some (.int (nI (linV (S.1 3) (S.1 1 2) N))), some (.int 0), none, none, none] rfl (by decide) rfl ?_
  refine m_iconst (pc := 226) 0 rfl (by decide) ?_
  refine m_istore (pc := 227) (j := 12) [some (.ref 0), some (.ref 70), some (.int x), some (.int (nI u)), some (.int step), some (.int dur), some (.int (mvA S N u step dur)), some (.int (nI (linV ((mv3 S u step dur).1 3) ((mv3 S u step dur).1 1 2) N))), some (.ref r), some (.ref (r + 1)), some (.int (nI (linV (S.1 3) (S.1 1 2) N))), some (.int 0), some (.int 0), none, none] rfl (by decide) rfl ?_
  refine m_L rfl (lp_L_movedD (S := S) (S2 := (mv3 S u step dur)) (L1 := (linV (S.1 3) (S.1 1 2) N)) (by decide) (by decide) he hr hra hrb hi2 hN hfo2 hLN (fun k f13 f14 T hk1 hk2 hk3 hf => ?_) (min (linV (S.1 3) (S.1 1 2) N) (linV ((mv3 S u step dur).1 3) ((mv3 S u step dur).1 1 2) N)) 0 none none _ (Nat.zero_add _) hf)
  refine m_aload_n (pc := 365) (j := 0) rfl rfl ?_
  refine m_iload_n (pc := 366) (j := 3) rfl rfl ?_
  refine m_iconst (pc := 367) 2 rfl (by decide) ?_
  refine m_aload_n (pc := 368) (j := 1) rfl rfl ?_
  refine m_iconst (pc := 369) 4 rfl (by decide) ?_
  refine m_iconst (pc := 370) 5 rfl (by decide) ?_
  refine m_iload_n (pc := 371) (j := 3) rfl rfl ?_
  refine m_imul (pc := 372) rfl ?_
  refine m_iadd (pc := 373) rfl ?_
  refine m_st (st2 := [.int (nI (4 + 5 * u)), .ref 70, .int 2, .int (nI u), .ref 0]) (by rw [e45 u]; try rfl) ?_
  refine m_iald (pc := 374) (a := 70) (4 + 5 * u) rfl he.2 (vp_in_nI (by omega) (by decide)) (nI_clamp (by omega)) ?_
  refine m_st (st2 := [.int (S.1 3 (5 * u + 2)), .int 2, .int (nI u), .ref 0]) (by rw [show (T.1 70 (4 + 5 * u)) = (S.1 3 (5 * u + 2)) from (e_rd (S := S) hr hf (mv3_o (by decide)) _).trans (by rw [show 4 + 5 * u = 2 + (5 * u + 2) by omega]; exact hE.2.2 _ (by omega))]; try rfl) ?_
  refine m_callVG (pc := 375) (as := [.int (nI u), .int 2, .int (S.1 3 (5 * u + 2))]) (rest := []) (b := 0) rfl ce_X8_set ml_L_30 im_X8_set se_X8_set he.1.1 rfl rfl rfl (by decide) (Nat.le_of_ble_eq_true rfl) (sp_X8_set he.1 (fl_iv (mB_iv hr hi2) hf)) (fun r9 S9 h9 => ?_)
  obtain ⟨rfl, hf⟩ := rm_set hr hi2 hf (u := 2) hu1 (by decide) (al_of (hi.2.2.1 u hu1)).2 h9
  refine m_st (st2 := [.int step]) (by rw [show (mv3 S u step dur).1 3 (5 * u + 2) = step from mv3_s]; try rfl) ?_
  refine m_iload (pc := 378) (j := 4) rfl rfl ?_
  refine m_icmp_ne (pc := 380) 401 rfl (by decide) (fun h9 => absurd h9 (fun q9 => q9 rfl)) (fun _ => ?_)
  refine m_aload_n (pc := 383) (j := 0) rfl rfl ?_
  refine m_iload_n (pc := 384) (j := 3) rfl rfl ?_
  refine m_iconst (pc := 385) 1 rfl (by decide) ?_
  refine m_aload_n (pc := 386) (j := 1) rfl rfl ?_
  refine m_iconst (pc := 387) 3 rfl (by decide) ?_
  refine m_iconst (pc := 388) 5 rfl (by decide) ?_
  refine m_iload_n (pc := 389) (j := 3) rfl rfl ?_
  refine m_imul (pc := 390) rfl ?_
  refine m_iadd (pc := 391) rfl ?_
  refine m_st (st2 := [.int (nI (3 + 5 * u)), .ref 70, .int 1, .int (nI u), .ref 0]) (by rw [e35 u]; try rfl) ?_
  refine m_iald (pc := 392) (a := 70) (3 + 5 * u) rfl he.2 (vp_in_nI (by omega) (by decide)) (nI_clamp (by omega)) ?_
  refine m_st (st2 := [.int (S.1 3 (5 * u + 1)), .int 1, .int (nI u), .ref 0]) (by rw [show (S9.1 70 (3 + 5 * u)) = (S.1 3 (5 * u + 1)) from (e_rd (S := S) hr hf ((pSI_ne (by decide)).trans (mv3_o (by decide))) _).trans (by rw [show 3 + 5 * u = 2 + (5 * u + 1) by omega]; exact hE.2.2 _ (by omega))]; try rfl) ?_
  refine m_callVG (pc := 393) (as := [.int (nI u), .int 1, .int (S.1 3 (5 * u + 1))]) (rest := []) (b := 0) rfl ce_X8_set ml_L_30 im_X8_set se_X8_set he.1.1 rfl rfl rfl (by decide) (Nat.le_of_ble_eq_true rfl) (sp_X8_set he.1 (fl_iv (mB_iv hr hi3) hf)) (fun r9 S9 h9 => ?_)
  obtain ⟨rfl, hf⟩ := rm_set hr hi3 hf (u := 1) hu1 (by decide) (al_of (hi.2.2.1 u hu1)).1 h9
  refine m_st (st2 := [.int dur]) (by rw [show (pSI (mv3 S u step dur) 3 (5 * u + 2) (S.1 3 (5 * u + 2))).1 3 (5 * u + 1) = dur from (pSI_j (by omega)).trans mv3_d]; try rfl) ?_
  refine m_iload (pc := 396) (j := 5) rfl rfl ?_
  refine m_icmp_eq (pc := 398) 403 rfl (by decide) (fun _ => ?_) (fun h9 => absurd rfl h9)
  refine m_iload (pc := 403) (j := 6) rfl rfl ?_
  refine m_iload (pc := 405) (j := 7) rfl rfl ?_
  refine m_ldc (pc := 407) (v := (-2147483002)) rfl kc_L_71 ?_
  refine m_icmp_ne (pc := 409) 417 rfl (by decide) (fun _ => ?_) (fun h9 => absurd h9 (nI_nn (by have := lin_le hi2.2.1 hfo2; omega)))
  refine m_iload (pc := 417) (j := 10) rfl rfl ?_
  refine m_iload (pc := 419) (j := 11) rfl rfl ?_
  refine m_isub (pc := 421) rfl ?_
  refine m_st (st2 := [.int (nI ((linV (S.1 3) (S.1 1 2) N) - (samL S (mv3 S u step dur) N A B k))), .int (mvA S N u step dur)]) (by rw [pk_sub (mv_cnt hi hi2 (congrFun hw2 2) hfo hfo2 hI hk1 hk2 hk3).1]; try rfl) ?_
  refine m_icmp_ne (pc := 422) 429 rfl (by decide) (fun h9 => absurd h9 (fun q9 => q9 (by rw [mvA_Y hfo (by rw [← hw2]; exact hfo2), (mv_cnt hi hi2 (congrFun hw2 2) hfo hfo2 hI hk1 hk2 hk3).2]))) (fun _ => ?_)
  refine m_iconst (pc := 425) 1 rfl (by decide) ?_
  refine m_goto (pc := 426) 430 rfl (by decide) ?_
  exact m_zret (pc := 430) rfl rfl rfl ⟨rfl, hq9, fz_mB hr (by have h9 := hf; rw [mv3_back (by omega)] at h9; exact h9)⟩
theorem sp_L_moved {sh : List PSh} {S : PSt} {N : Nat} (he : isLw sh) (hl9 : sh.length < 900) (hi : cIv S N) (hN : N ≤ 20) (hE : eOk S N) (h0 : 0 < N) {T0 : PSt} (hf : frL S T0) {x : Int32} (X : Nat × (Nat → Int32)) : pSpec mL_moved 9 2 65 [.ref 0, .ref 70, .int x] X sh T0 (fun r9 sh2 T => r9 = some (.int 1) ∧ (∃ l, sh2 = sh ++ l ∧ l.length ≤ 2) ∧ frZ S T) := by
  obtain ⟨u, hu1, hu⟩ := modI_rng (v := x) h0 (by omega)
  obtain ⟨s1, hs0, hs1⟩ := modI_rng (v := x >>> (5 &&& 31)) (n := 33) (by decide) (by decide)
  obtain ⟨d1, hd9, hd1⟩ := modI_rng (v := x >>> (11 &&& 31)) (n := 64) (by decide) (by decide)
  have ha2 := al_step s1 hs0
  have ha1 := al_dur d1 hd9
  by_cases hfo : fouV (S.1 3) (S.1 1 2) N = true
  · by_cases hfo2 : fouV ((mv3 S u (nI s1 - 12) (1 + nI d1)).1 3) ((mv3 S u (nI s1 - 12) (1 + nI d1)).1 1 2) N = true
    · exact sp_L_movedC he hl9 hi hN hE h0 hf hu1 hu hs1 rfl hd1 rfl ha2 ha1.1 ha1.2 hfo hfo2 X
    · exact sp_L_movedB he hl9 hi hN hE h0 hf hu1 hu hs1 rfl hd1 rfl ha2 ha1.1 ha1.2 hfo hfo2 X
  · exact sp_L_movedN he hl9 hi hN hE h0 hf hu1 hu hs1 rfl hd1 rfl ha2 ha1.1 ha1.2 hfo X
