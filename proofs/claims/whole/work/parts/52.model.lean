/-! the model: shelves, image, restore, count, told: written by wip/whole/gen/c52.py -/
def mK (S : PSt) (s : Nat) : Int32 := S.1 71 (162 + 62 * s)
def mZ (S : PSt) (s : Nat) : Int32 := S.1 71 (163 + 62 * s)
def mQ (S : PSt) (n : Nat) : Int32 := S.1 71 (164 + 62 * (n / 60) + n % 60)
theorem mQ_at {S : PSt} {s i j : Nat} (h : 5 * i + j < 60) : S.1 71 (164 + 62 * s + 5 * i + j) = mQ S (5 * (12 * s + i) + j) := by
  exact congrArg (S.1 71) (by omega)
theorem mQ_0 {S : PSt} {s i : Nat} (h : i < 12) : S.1 71 (164 + 62 * s + 5 * i) = mQ S (5 * (12 * s + i)) := by
  exact congrArg (S.1 71) (by omega)
/-- the shelves, as they may be -/
def okK (k : Int32) : Prop := k = 0 ∨ k = 1 ∨ k = 2
def mSh (S : PSt) : Prop := ∀ s, s < 3 → (mK S s = -1 ∨ okK (mK S s)) ∧ (0 ≤ (mZ S s).toInt ∧ (mZ S s).toInt ≤ 12) ∧ ∀ i, i < 12 → mQ S (5 * (12 * s + i)) = -1 ∨ okK (mQ S (5 * (12 * s + i)))
theorem okK_n {k : Int32} (h : k = -1 ∨ okK k) (h2 : k < 0) : k = -1 := by
  rcases h with h | h | h | h
  · exact h
  · subst h; exact absurd h2 (by decide)
  · subst h; exact absurd h2 (by decide)
  · subst h; exact absurd h2 (by decide)
theorem okK_p {k : Int32} (h : k = -1 ∨ okK k) (h2 : ¬ k < 0) : ¬ k = -1 ∧ okK k := by
  rcases h with h | h
  · subst h; exact absurd (by decide) h2
  · exact ⟨fun q => h2 (by rw [q]; decide), h⟩
theorem hn_w {k z i : Int32} (hz : 0 ≤ z.toInt ∧ z.toInt ≤ 12) (hk : ¬ k = -1) : hnB k z i = pWi i 0 (z - 1) := by
  unfold hnB pWi
  have e : (z - 1).toInt = z.toInt - 1 := by
    rw [Int32.toInt_sub, show (1 : Int32).toInt = 1 from rfl, Int.bmod_eq_of_le (by omega) (by omega)]
  rw [e]
  exact decide_eq_decide.mpr ⟨fun h => ⟨h.2.1, by have := h.2.2; omega⟩, fun h => ⟨hk, h.1, by have := h.2; omega⟩⟩
theorem sx_0 {s : Nat} : (162 : Int32) + 62 * nI s = nI (162 + 62 * s) := by rw [show (162 : Int32) = nI 162 from rfl, show (62 : Int32) = nI 62 from rfl, pk_mul, nI_add]
theorem sx_1 {s : Nat} : nI (162 + 62 * s) + 1 = nI (163 + 62 * s) := by rw [nI_1, show 162 + 62 * s + 1 = 163 + 62 * s by omega]
theorem sx_2 {s i : Nat} : nI (162 + 62 * s) + 2 + 5 * nI i = nI (164 + 62 * s + 5 * i) := by
  rw [show (2 : Int32) = nI 2 from rfl, show (5 : Int32) = nI 5 from rfl, pk_mul, nI_add, nI_add, show 162 + 62 * s + 2 + 5 * i = 164 + 62 * s + 5 * i by omega]
set_option maxRecDepth 100000 in
theorem sp_X9_isShelf {sh : List PSh} {S : PSt} {s : Int32} : pF mX9_isShelf 1 [.int s] sh S S (some (.int (pB (pWi s 0 2)))) := by
  refine pF.of (pG.of [some (.int s)] (by decide) tk_X9_isShelf (Nat.le_of_ble_eq_true rfl) rfl (fun X => ?_))
  refine q_iload_n (pc := 0) (j := 0) rfl rfl ?_
  refine q_i2l (pc := 1) rfl ?_
  refine q_lconst (pc := 2) 0 rfl (by decide) ?_
  refine q_ldc2 (pc := 3) (v := 2) rfl kc_X9_89 ?_
  refine q_callS (pc := 6) (as := [.long (s.toInt64), .long 0, .long 2]) (rest := []) (st2 := [.int (pB (pWi s 0 2))]) rfl ce_X9_in ml_X9_85 st_X9_in rfl (by decide) (Nat.le_of_ble_eq_true rfl) (sp_X9_inW (v := s) (l := 0) (m := 2) (Int32.toInt_toInt64 _) (by decide) (by decide)) rfl ?_
  exact q_zret (pc := 9) rfl rfl (pB_nar _) ⟨rfl, rfl⟩
set_option maxRecDepth 100000 in
theorem sp_X9_shelfAt {sh : List PSh} {S : PSt} {s : Nat} : pF mX9_shelfAt 0 [.int (nI s)] sh S S (some (.int (nI (162 + 62 * s)))) := by
  refine pF.of (pG.of [some (.int (nI s))] (by decide) tk_X9_shelfAt (Nat.le_of_ble_eq_true rfl) rfl (fun X => ?_))
  refine q_sipush (pc := 0) 162 rfl (by decide) ?_
  refine q_bipush (pc := 3) 62 rfl (by decide) ?_
  refine q_iload_n (pc := 5) (j := 0) rfl rfl ?_
  refine q_imul (pc := 6) rfl ?_
  refine q_iadd (pc := 7) rfl ?_
  exact q_iret (pc := 8) rfl rfl ⟨congrArg (fun v => some (Value.int v)) sx_0, rfl⟩
set_option maxRecDepth 100000 in
theorem sp_X9_placeAt {sh : List PSh} {S : PSt} {s i : Nat} : pF mX9_placeAt 1 [.int (nI s), .int (nI i)] sh S S (some (.int (nI (164 + 62 * s + 5 * i)))) := by
  refine pF.of (pG.of [some (.int (nI s)), some (.int (nI i))] (by decide) tk_X9_placeAt (Nat.le_of_ble_eq_true rfl) rfl (fun X => ?_))
  refine q_iload_n (pc := 0) (j := 0) rfl rfl ?_
  refine q_callS (pc := 1) (as := [.int (nI s)]) (rest := []) (st2 := [.int (nI (162 + 62 * s))]) rfl ce_X9_shelfAt ml_X9_286 st_X9_shelfAt rfl (by decide) (Nat.le_of_ble_eq_true rfl) (sp_X9_shelfAt (s := s)) rfl ?_
  refine q_iconst (pc := 4) 2 rfl (by decide) ?_
  refine q_iadd (pc := 5) rfl ?_
  refine q_iconst (pc := 6) 5 rfl (by decide) ?_
  refine q_iload_n (pc := 7) (j := 1) rfl rfl ?_
  refine q_imul (pc := 8) rfl ?_
  refine q_iadd (pc := 9) rfl ?_
  exact q_iret (pc := 10) rfl rfl ⟨congrArg (fun v => some (Value.int v)) sx_2, rfl⟩
set_option maxRecDepth 100000 in
theorem sp_X9_isPlace {sh : List PSh} {S : PSt} (hm : isMo sh) {u : Nat} (hu : u < 3) {i : Int32} (hsh : mSh S) : pF mX9_isPlace 1 [.ref 70, .int (nI u), .int i] sh S S (some (.int (pB (hnB (mK S u) (mZ S u) i)))) := by
  refine pF.of (pG.of [some (.ref 70), some (.int (nI u)), some (.int i)] (by decide) tk_X9_isPlace (Nat.le_of_ble_eq_true rfl) rfl (fun X => ?_))
  refine q_aload_n (pc := 0) (j := 0) rfl rfl ?_
  refine q_get (pc := 1) (a := 70) (v := .ref 71) rfl fl_X9_9 hm.1 rfl rfl ?_
  refine q_iload_n (pc := 4) (j := 1) rfl rfl ?_
  refine q_callS (pc := 5) (as := [.int (nI u)]) (rest := [.ref 71]) (st2 := [.int (nI (162 + 62 * u)), .ref 71]) rfl ce_X9_shelfAt ml_X9_286 st_X9_shelfAt rfl (by decide) (Nat.le_of_ble_eq_true rfl) (sp_X9_shelfAt (s := u)) rfl ?_
  refine q_iald (pc := 8) (a := 71) (162 + 62 * u) rfl hm.2.1 (vp_in_nI (by omega) (by decide)) (nI_clamp (by omega)) ?_
  refine q_st (st2 := [.int (mK S u)]) (by rw [(show (S.1 71 (162 + 62 * u)) = mK S u from rfl)]) ?_
  refine q_if_lt (pc := 9) 39 rfl (by decide) (fun h9 => ?_) (fun h9 => ?_)
  · refine q_iconst (pc := 39) 0 rfl (by decide) ?_
    exact q_zret (pc := 40) rfl rfl rfl ⟨congrArg (fun v => some (Value.int v)) (hn_a (okK_n (hsh u hu).1 h9)), rfl⟩
  · refine q_iload_n (pc := 12) (j := 2) rfl rfl ?_
    refine q_i2l (pc := 13) rfl ?_
    refine q_lconst (pc := 14) 0 rfl (by decide) ?_
    refine q_aload_n (pc := 15) (j := 0) rfl rfl ?_
    refine q_get (pc := 16) (a := 70) (v := .ref 71) rfl fl_X9_9 hm.1 rfl rfl ?_
    refine q_iload_n (pc := 19) (j := 1) rfl rfl ?_
    refine q_callS (pc := 20) (as := [.int (nI u)]) (rest := [.ref 71, .long 0, .long (i.toInt64)]) (st2 := [.int (nI (162 + 62 * u)), .ref 71, .long 0, .long (i.toInt64)]) rfl ce_X9_shelfAt ml_X9_286 st_X9_shelfAt rfl (by decide) (Nat.le_of_ble_eq_true rfl) (sp_X9_shelfAt (s := u)) rfl ?_
    refine q_iconst (pc := 23) 1 rfl (by decide) ?_
    refine q_iadd (pc := 24) rfl ?_
    refine q_st (st2 := [.int (nI (163 + 62 * u)), .ref 71, .long 0, .long (i.toInt64)]) (by rw [sx_1]) ?_
    refine q_iald (pc := 25) (a := 71) (163 + 62 * u) rfl hm.2.1 (vp_in_nI (by omega) (by decide)) (nI_clamp (by omega)) ?_
    refine q_st (st2 := [.int (mZ S u), .long 0, .long (i.toInt64)]) (by rw [(show (S.1 71 (163 + 62 * u)) = mZ S u from rfl)]) ?_
    refine q_iconst (pc := 26) 1 rfl (by decide) ?_
    refine q_isub (pc := 27) rfl ?_
    refine q_i2l (pc := 28) rfl ?_
    refine q_callS (pc := 29) (as := [.long (i.toInt64), .long 0, .long (((mZ S u) - 1).toInt64)]) (rest := []) (st2 := [.int (pB (pWi i 0 ((mZ S u) - 1)))]) rfl ce_X9_in ml_X9_85 st_X9_in rfl (by decide) (Nat.le_of_ble_eq_true rfl) (sp_X9_inW (v := i) (l := 0) (m := ((mZ S u) - 1)) (Int32.toInt_toInt64 _) (by decide) (Int32.toInt_toInt64 _)) rfl ?_
    refine q_if_eq (pc := 32) 39 rfl (by decide) (fun h32 => ?_) (fun h32 => ?_)
    · refine q_iconst (pc := 39) 0 rfl (by decide) ?_
      exact q_zret (pc := 40) rfl rfl rfl ⟨congrArg (fun v => some (Value.int v)) (by rw [hn_w (hsh u hu).2.1 (okK_p (hsh u hu).1 h9).1, pB_f h32]; rfl), rfl⟩
    · refine q_iconst (pc := 35) 1 rfl (by decide) ?_
      refine q_goto (pc := 36) 40 rfl (by decide) ?_
      exact q_zret (pc := 40) rfl rfl rfl ⟨congrArg (fun v => some (Value.int v)) (by rw [hn_w (hsh u hu).2.1 (okK_p (hsh u hu).1 h9).1, pB_t h32]; rfl), rfl⟩
def shC (S : PSt) (u : Nat) (kind z : Int32) (k : Nat) : PSt := (fun c j => if c = 71 ∧ j = 162 + 62 * u then kind else if c = 71 ∧ j = 163 + 62 * u then z else if c = 71 ∧ 164 + 62 * u ≤ j ∧ j < 164 + 62 * u + 5 * k ∧ (j - (164 + 62 * u)) % 5 = 0 then -1 else S.1 c j, S.2)
theorem shC_0 {S : PSt} {u : Nat} {kind z : Int32} : pSI (pSI S 71 (162 + 62 * u) kind) 71 (163 + 62 * u) z = shC S u kind z 0 := by
  unfold pSI pU shC
  refine Prod.ext (funext fun c => funext fun j => ?_) rfl
  dsimp only
  (repeat' split) <;> first | rfl | (exfalso; omega)
theorem shC_s {S : PSt} {u k : Nat} {kind z : Int32} : pSI (shC S u kind z k) 71 (164 + 62 * u + 5 * k) (-1) = shC S u kind z (k + 1) := by
  unfold pSI pU shC
  refine Prod.ext (funext fun c => funext fun j => ?_) rfl
  dsimp only
  (repeat' split) <;> first | rfl | (exfalso; omega)
theorem kind_w {k : Int32} : pWi k (-1) 2 = true ↔ k = -1 ∨ pAl 0 k = true := by
  have e2 : (2 : Int32).toInt = 2 := by decide
  have e1 : (-1 : Int32).toInt = -1 := by decide
  have e0 : (0 : Int32).toInt = 0 := rfl
  have h : pAl 0 k = pWi k 0 2 := rfl
  rw [h]
  unfold pWi
  rw [decide_eq_true_iff, decide_eq_true_iff, e2, e1, e0]
  constructor
  · intro q
    by_cases e : k.toInt = -1
    · exact Or.inl (Int32.toInt_inj.mp (by rw [e, e1]))
    · exact Or.inr ⟨by omega, q.2⟩
  · intro q
    rcases q with q | q
    · rw [q, e1]; omega
    · omega
theorem kind_n {k : Int32} (h : pWi k (-1) 2 = true) : k < 0 ↔ k = -1 := by
  have e1 : (-1 : Int32).toInt = -1 := by decide
  have e0 : (0 : Int32).toInt = 0 := rfl
  have h := of_decide_eq_true h
  rw [e1] at h
  constructor
  · intro q
    rw [Int32.lt_iff_toInt_lt, e0] at q
    exact Int32.toInt_inj.mp (by rw [e1]; omega)
  · intro q; rw [q]; decide
set_option maxRecDepth 100000 in
theorem lp_X9_shelf {n0 : Nat} {X : Nat × (Nat → Int32)} {P : Option Value → PSt → Prop} {d : Nat} (hd9 : 2 ≤ d) {sh : List PSh} {S : PSt} (hm : isMo sh) {u : Nat} (hu : u < 3) {kind n z : Int32}  (hex : ∀ i, pV mX9_shelf d n0 X sh P 98 [some (.ref 70), some (.int (nI u)), some (.int kind), some (.int n), some (.int i)] [] (shC S u kind z 12)) : ∀ (m k : Nat), k + m = 12 → pV mX9_shelf d n0 X sh P 73 [some (.ref 70), some (.int (nI u)), some (.int kind), some (.int n), some (.int (nI k))] [] (shC S u kind z k) := by
  intro m
  induction m with
  | zero =>
    intro k hk
    have hk9 : 12 = k := by omega
    subst hk9
    refine q_iload (pc := 73) (j := 4) rfl rfl ?_
    refine q_bipush (pc := 75) 12 rfl (by decide) ?_
    refine q_icmp_ge (pc := 77) 98 rfl (by decide) (fun _ => ?_) (fun h9 => absurd (by decide) h9)
    exact hex _
  | succ m ih =>
    intro k hk
    have hk1 : k < 12 := by omega
    have hk2 : k < 12 := hk1
    refine q_iload (pc := 73) (j := 4) rfl rfl ?_
    refine q_bipush (pc := 75) 12 rfl (by decide) ?_
    refine q_icmp_ge (pc := 77) 98 rfl (by decide) (fun h9 => absurd h9 (nI_ge hk1 (by decide))) (fun _ => ?_)
    refine q_aload_n (pc := 80) (j := 0) rfl rfl ?_
    refine q_get (pc := 81) (a := 70) (v := .ref 71) rfl fl_X9_9 hm.1 rfl rfl ?_
    refine q_iload_n (pc := 84) (j := 1) rfl rfl ?_
    refine q_iload (pc := 85) (j := 4) rfl rfl ?_
    refine q_callS (pc := 87) (as := [.int (nI u), .int (nI k)]) (rest := [.ref 71]) (st2 := [.int (nI (164 + 62 * u + 5 * k)), .ref 71]) rfl ce_X9_placeAt ml_X9_294 st_X9_placeAt rfl (by omega) (Nat.le_of_ble_eq_true rfl) (sp_X9_placeAt (s := u) (i := k)) rfl ?_
    refine q_iconst (pc := 90) (-1) rfl (by decide) ?_
    refine q_iast (pc := 91) (a := 71) (164 + 62 * u + 5 * k) rfl hm.2.1 (vp_in_nI (by omega) (by decide)) (nI_clamp (by omega)) ?_
    refine q_iinc (pc := 92) (j := 4) (n := 1) (nI (k + 1)) [some (.ref 70), some (.int (nI u)), some (.int kind), some (.int n), some (.int (nI (k + 1)))] rfl (by decide) rfl (nI_1 k) rfl ?_
    refine q_goto (pc := 95) 73 rfl (by decide) ?_
    exact q_S shC_s (ih (k + 1) (by omega))
set_option maxRecDepth 100000 in
theorem sp_X9_shelf {sh : List PSh} {S : PSt} (hm : isMo sh) {s kind n : Int32}  : pG mX9_shelf 2 [.ref 70, .int s, .int kind, .int n] sh S (mA (oShelf s kind n) S (shC S (tN s) kind (if kind = -1 then 0 else n) 12)) := by
  refine pG.of [some (.ref 70), some (.int s), some (.int kind), some (.int n), none] (by decide) tk_X9_shelf (Nat.le_of_ble_eq_true rfl) rfl (fun X => ?_)
  refine q_iload_n (pc := 0) (j := 1) rfl rfl ?_
  refine q_callS (pc := 1) (as := [.int s]) (rest := []) (st2 := [.int (pB (pWi s 0 2))]) rfl ce_X9_isShelf ml_X9_289 st_X9_isShelf rfl (by decide) (Nat.le_of_ble_eq_true rfl) (sp_X9_isShelf) rfl ?_
  refine q_if_eq (pc := 4) 33 rfl (by decide) (fun h4 => ?_) (fun h4 => ?_)
  · refine q_aload_n (pc := 33) (j := 0) rfl rfl ?_
    refine q_ldc (pc := 34) (v := (-2147483001)) rfl kc_X9_109 ?_
    refine q_callV (pc := 36) (as := [.int (-2147483001)]) (rest := []) (b := 70) (st2 := [.int (-2147483000 - nI 1)]) rfl ce_X9_errs ml_X9_110 im_X9_errs se_X9_errs hm.1 rfl rfl rfl (by decide) (Nat.le_of_ble_eq_true rfl) (sp_X9_errs (e := 1) hm (by decide) (by decide)) rfl ?_
    exact q_iret (pc := 39) rfl rfl (mA_no (k := 0) (by rw [oShelf, if_neg (show ¬ _ = true from by rw [pB_f h4]; decide)]) fm_rf)
  · refine q_iload_n (pc := 7) (j := 2) rfl rfl ?_
    refine q_i2l (pc := 8) rfl ?_
    refine q_ldc2 (pc := 9) (v := (-1)) rfl kc_X9_292 ?_
    refine q_ldc2 (pc := 12) (v := 2) rfl kc_X9_89 ?_
    refine q_callS (pc := 15) (as := [.long (kind.toInt64), .long (-1), .long 2]) (rest := []) (st2 := [.int (pB (pWi kind (-1) 2))]) rfl ce_X9_in ml_X9_85 st_X9_in rfl (by decide) (Nat.le_of_ble_eq_true rfl) (sp_X9_inW (v := kind) (l := (-1)) (m := 2) (Int32.toInt_toInt64 _) (by decide) (by decide)) rfl ?_
    refine q_if_eq (pc := 18) 33 rfl (by decide) (fun h18 => ?_) (fun h18 => ?_)
    · refine q_aload_n (pc := 33) (j := 0) rfl rfl ?_
      refine q_ldc (pc := 34) (v := (-2147483001)) rfl kc_X9_109 ?_
      refine q_callV (pc := 36) (as := [.int (-2147483001)]) (rest := []) (b := 70) (st2 := [.int (-2147483000 - nI 1)]) rfl ce_X9_errs ml_X9_110 im_X9_errs se_X9_errs hm.1 rfl rfl rfl (by decide) (Nat.le_of_ble_eq_true rfl) (sp_X9_errs (e := 1) hm (by decide) (by decide)) rfl ?_
      exact q_iret (pc := 39) rfl rfl (mA_no (k := 0) (by rw [oShelf, if_pos (pB_t h4), if_neg (fun q9 => by have h8 := kind_w.mpr q9; rw [pB_f h18] at h8; exact absurd h8 (by decide))]) fm_rf)
    · refine q_iload_n (pc := 21) (j := 3) rfl rfl ?_
      refine q_i2l (pc := 22) rfl ?_
      refine q_lconst (pc := 23) 0 rfl (by decide) ?_
      refine q_ldc2 (pc := 24) (v := 12) rfl kc_X9_97 ?_
      refine q_callS (pc := 27) (as := [.long (n.toInt64), .long 0, .long 12]) (rest := []) (st2 := [.int (pB (pWi n 0 12))]) rfl ce_X9_in ml_X9_85 st_X9_in rfl (by decide) (Nat.le_of_ble_eq_true rfl) (sp_X9_inW (v := n) (l := 0) (m := 12) (Int32.toInt_toInt64 _) (by decide) (by decide)) rfl ?_
      refine q_if_ne (pc := 30) 40 rfl (by decide) (fun h30 => ?_) (fun h30 => ?_)
      · obtain ⟨u, huu, rfl⟩ := pWi_of (m := 2) (by decide) (by decide) (pB_t h4)
        refine q_aload_n (pc := 40) (j := 0) rfl rfl ?_
        refine q_get (pc := 41) (a := 70) (v := .ref 71) rfl fl_X9_9 hm.1 rfl rfl ?_
        refine q_iload_n (pc := 44) (j := 1) rfl rfl ?_
        refine q_callS (pc := 45) (as := [.int (nI u)]) (rest := [.ref 71]) (st2 := [.int (nI (162 + 62 * u)), .ref 71]) rfl ce_X9_shelfAt ml_X9_286 st_X9_shelfAt rfl (by decide) (Nat.le_of_ble_eq_true rfl) (sp_X9_shelfAt (s := u)) rfl ?_
        refine q_iload_n (pc := 48) (j := 2) rfl rfl ?_
        refine q_iast (pc := 49) (a := 71) (162 + 62 * u) rfl hm.2.1 (vp_in_nI (by omega) (by decide)) (nI_clamp (by omega)) ?_
        refine q_aload_n (pc := 50) (j := 0) rfl rfl ?_
        refine q_get (pc := 51) (a := 70) (v := .ref 71) rfl fl_X9_9 hm.1 rfl rfl ?_
        refine q_iload_n (pc := 54) (j := 1) rfl rfl ?_
        refine q_callS (pc := 55) (as := [.int (nI u)]) (rest := [.ref 71]) (st2 := [.int (nI (162 + 62 * u)), .ref 71]) rfl ce_X9_shelfAt ml_X9_286 st_X9_shelfAt rfl (by decide) (Nat.le_of_ble_eq_true rfl) (sp_X9_shelfAt (s := u)) rfl ?_
        refine q_iconst (pc := 58) 1 rfl (by decide) ?_
        refine q_iadd (pc := 59) rfl ?_
        refine q_st (st2 := [.int (nI (163 + 62 * u)), .ref 71]) (by rw [sx_1]) ?_
        refine q_iload_n (pc := 60) (j := 2) rfl rfl ?_
        refine q_join 69 [some (.ref 70), some (.int (nI u)), some (.int kind), some (.int n), none] [.int (if kind = -1 then 0 else n), .int (nI (163 + 62 * u)), .ref 71] (pSI S 71 (162 + 62 * u) kind) ?_ (fun key61 => ?_)
        · refine q_iast (pc := 69) (a := 71) (163 + 62 * u) rfl hm.2.1 (vp_in_nI (by omega) (by decide)) (nI_clamp (by omega)) ?_
          refine q_iconst (pc := 70) 0 rfl (by decide) ?_
          refine q_istore (pc := 71) (j := 4) [some (.ref 70), some (.int (nI u)), some (.int kind), some (.int n), some (.int 0)] rfl (by decide) rfl ?_
          refine q_S shC_0 (lp_X9_shelf (by decide) hm (by omega) (fun i => ?_) 12 0 rfl)
          refine q_iconst (pc := 98) 1 rfl (by decide) ?_
          exact q_iret (pc := 99) rfl rfl (mA_ok (by rw [oShelf, if_pos (pB_t h4), if_pos (kind_w.mp (pB_t h18)), if_pos (pB_t h30)]) (by rw [tN_nI (show u < 2 ^ 31 by omega)]; exact fm_rf))
        · refine q_if_ge (pc := 61) 68 rfl (by decide) (fun h61 => ?_) (fun h61 => ?_)
          · refine q_iload_n (pc := 68) (j := 3) rfl rfl ?_
            exact q_st (by rw [if_neg (fun q9 => absurd ((kind_n (pB_t h18)).mpr q9) (Int32.not_lt.mpr h61))]) key61
          · refine q_iconst (pc := 64) 0 rfl (by decide) ?_
            refine q_goto (pc := 65) 69 rfl (by decide) ?_
            exact q_st (by rw [if_pos ((kind_n (pB_t h18)).mp (Int32.not_le.mp h61))]) key61
      · refine q_aload_n (pc := 33) (j := 0) rfl rfl ?_
        refine q_ldc (pc := 34) (v := (-2147483001)) rfl kc_X9_109 ?_
        refine q_callV (pc := 36) (as := [.int (-2147483001)]) (rest := []) (b := 70) (st2 := [.int (-2147483000 - nI 1)]) rfl ce_X9_errs ml_X9_110 im_X9_errs se_X9_errs hm.1 rfl rfl rfl (by decide) (Nat.le_of_ble_eq_true rfl) (sp_X9_errs (e := 1) hm (by decide) (by decide)) rfl ?_
        exact q_iret (pc := 39) rfl rfl (mA_no (k := 0) (by rw [oShelf, if_pos (pB_t h4), if_pos (kind_w.mp (pB_t h18)), if_neg (show ¬ _ = true from by rw [pB_f h30]; decide)]) fm_rf)
def stS (S : PSt) (b x k : Nat) : PSt := (fun c j => if c = 71 ∧ b ≤ j ∧ j < b + k then S.1 71 (2 + (5 * x + (j - b))) else S.1 c j, S.2)
theorem stS_0 {S : PSt} {b x : Nat} : S = stS S b x 0 := by
  unfold stS
  refine Prod.ext (funext fun c => funext fun j => ?_) rfl
  dsimp only
  rw [if_neg (by omega)]
theorem stS_s {S : PSt} {b x k : Nat} : pSI (stS S b x k) 71 (b + k) (mG S (5 * x + k)) = stS S b x (k + 1) := by
  unfold stS pSI pU mG
  refine Prod.ext (funext fun c => funext fun j => ?_) rfl
  dsimp only
  by_cases h : c = 71 ∧ j = b + k
  · rw [if_pos h, if_pos ⟨h.1, by omega, by omega⟩, h.2, Nat.add_sub_cancel_left]
  · rw [if_neg h]
    by_cases h2 : c = 71 ∧ b ≤ j ∧ j < b + k
    · rw [if_pos h2, if_pos ⟨h2.1, h2.2.1, by omega⟩]
    · rw [if_neg h2, if_neg (by omega)]
theorem sp_X9_itsS {sh : List PSh} {S : PSt} {b x k c i : Nat} (hm : isMo sh) (hc : c < 32) (hi : i < 5) (hb : 2 + (5 * c + i) < b) : pF mX9_its 0 [.ref 70, .int (nI c), .int (nI i)] sh (stS S b x k) (stS S b x k) (some (.int (mG S (5 * c + i)))) := by
  have h := sp_X9_its (S := stS S b x k) hm hc hi
  have e : mG (stS S b x k) (5 * c + i) = mG S (5 * c + i) := by
    unfold mG stS
    dsimp only
    rw [if_neg (by omega)]
  rw [e] at h
  exact h
set_option maxRecDepth 100000 in
theorem lp_X9_store {n0 : Nat} {X : Nat × (Nat → Int32)} {P : Option Value → PSt → Prop} {d : Nat} (hd9 : 2 ≤ d) {sh : List PSh} {S : PSt} (hm : isMo sh) {u y x : Nat} (hu : u < 3) (hy : y < 12) (hx : x < 32)  (hex : ∀ i, pV mX9_store d n0 X sh P 99 [some (.ref 70), some (.int (nI u)), some (.int (nI y)), some (.int (nI x)), some (.int i)] [] (stS S (164 + 62 * u + 5 * y) x 5)) : ∀ (m k : Nat), k + m = 5 → pV mX9_store d n0 X sh P 67 [some (.ref 70), some (.int (nI u)), some (.int (nI y)), some (.int (nI x)), some (.int (nI k))] [] (stS S (164 + 62 * u + 5 * y) x k) := by
  intro m
  induction m with
  | zero =>
    intro k hk
    have hk9 : 5 = k := by omega
    subst hk9
    refine q_iload (pc := 67) (j := 4) rfl rfl ?_
    refine q_iconst (pc := 69) 5 rfl (by decide) ?_
    refine q_icmp_ge (pc := 70) 99 rfl (by decide) (fun _ => ?_) (fun h9 => absurd (by decide) h9)
    exact hex _
  | succ m ih =>
    intro k hk
    have hk1 : k < 5 := by omega
    have hk2 : k < 5 := hk1
    refine q_iload (pc := 67) (j := 4) rfl rfl ?_
    refine q_iconst (pc := 69) 5 rfl (by decide) ?_
    refine q_icmp_ge (pc := 70) 99 rfl (by decide) (fun h9 => absurd h9 (nI_ge hk1 (by decide))) (fun _ => ?_)
    refine q_aload_n (pc := 73) (j := 0) rfl rfl ?_
    refine q_get (pc := 74) (a := 70) (v := .ref 71) rfl fl_X9_9 hm.1 rfl rfl ?_
    refine q_iload_n (pc := 77) (j := 1) rfl rfl ?_
    refine q_iload_n (pc := 78) (j := 2) rfl rfl ?_
    refine q_callS (pc := 79) (as := [.int (nI u), .int (nI y)]) (rest := [.ref 71]) (st2 := [.int (nI (164 + 62 * u + 5 * y)), .ref 71]) rfl ce_X9_placeAt ml_X9_294 st_X9_placeAt rfl (by omega) (Nat.le_of_ble_eq_true rfl) (sp_X9_placeAt (s := u) (i := y)) rfl ?_
    refine q_iload (pc := 82) (j := 4) rfl rfl ?_
    refine q_iadd (pc := 84) rfl ?_
    refine q_st (st2 := [.int (nI ((164 + 62 * u + 5 * y) + k)), .ref 71]) (by rw [nI_add (164 + 62 * u + 5 * y) k]) ?_
    refine q_aload_n (pc := 85) (j := 0) rfl rfl ?_
    refine q_iload_n (pc := 86) (j := 3) rfl rfl ?_
    refine q_iload (pc := 87) (j := 4) rfl rfl ?_
    refine q_callV (pc := 89) (as := [.int (nI x), .int (nI k)]) (rest := [.int (nI ((164 + 62 * u + 5 * y) + k)), .ref 71]) (b := 70) (st2 := [.int (mG S (5 * x + k)), .int (nI ((164 + 62 * u + 5 * y) + k)), .ref 71]) rfl ce_X9_its ml_X9_124 im_X9_its se_X9_its hm.1 rfl rfl rfl (by omega) (Nat.le_of_ble_eq_true rfl) (sp_X9_itsS (c := x) (i := k) hm (by omega) (by omega) (by omega)) rfl ?_
    refine q_iast (pc := 92) (a := 71) ((164 + 62 * u + 5 * y) + k) rfl hm.2.1 (vp_in_nI (by omega) (by decide)) (nI_clamp (by omega)) ?_
    refine q_iinc (pc := 93) (j := 4) (n := 1) (nI (k + 1)) [some (.ref 70), some (.int (nI u)), some (.int (nI y)), some (.int (nI x)), some (.int (nI (k + 1)))] rfl (by decide) rfl (nI_1 k) rfl ?_
    refine q_goto (pc := 96) 67 rfl (by decide) ?_
    exact q_S stS_s (ih (k + 1) (by omega))
theorem hn_of2 {k z i : Int32} (hz : 0 ≤ z.toInt ∧ z.toInt ≤ 12) (h : hnB k z i = true) : ∃ y, i = nI y ∧ y < 12 ∧ ¬ k = -1 := by
  have h := of_decide_eq_true h
  exact ⟨i.toInt.toNat, nI_of0 h.2.1, by omega, h.1⟩
set_option maxRecDepth 100000 in
theorem sp_X9_store {sh : List PSh} {S : PSt} {N : Nat} (hm : isMo sh) (hi : mIv S N) (hsh : mSh S) {s i c : Int32}  : pG mX9_store 2 [.ref 70, .int s, .int i, .int c] sh S (mA (oStore (mK S) (mZ S) (mG S) N s i c) S (stS S (164 + 62 * tN s + 5 * tN i) (tN c) 5)) := by
  obtain ⟨hN, hN2, hok, hw⟩ := id hi
  refine pG.of [some (.ref 70), some (.int s), some (.int i), some (.int c), none] (by decide) tk_X9_store (Nat.le_of_ble_eq_true rfl) rfl (fun X => ?_)
  refine q_iload_n (pc := 0) (j := 1) rfl rfl ?_
  refine q_callS (pc := 1) (as := [.int s]) (rest := []) (st2 := [.int (pB (pWi s 0 2))]) rfl ce_X9_isShelf ml_X9_289 st_X9_isShelf rfl (by decide) (Nat.le_of_ble_eq_true rfl) (sp_X9_isShelf) rfl ?_
  refine q_if_eq (pc := 4) 15 rfl (by decide) (fun h4 => ?_) (fun h4 => ?_)
  · refine q_aload_n (pc := 15) (j := 0) rfl rfl ?_
    refine q_ldc (pc := 16) (v := (-2147483001)) rfl kc_X9_109 ?_
    refine q_callV (pc := 18) (as := [.int (-2147483001)]) (rest := []) (b := 70) (st2 := [.int (-2147483000 - nI 1)]) rfl ce_X9_errs ml_X9_110 im_X9_errs se_X9_errs hm.1 rfl rfl rfl (by decide) (Nat.le_of_ble_eq_true rfl) (sp_X9_errs (e := 1) hm (by decide) (by decide)) rfl ?_
    exact q_iret (pc := 21) rfl rfl (mA_no (k := 0) (by rw [oStore, if_neg (show ¬ _ = true from by rw [pB_f h4]; decide)]) fm_rf)
  · refine q_aload_n (pc := 7) (j := 0) rfl rfl ?_
    refine q_iload_n (pc := 8) (j := 3) rfl rfl ?_
    refine q_callV (pc := 9) (as := [.int c]) (rest := []) (b := 70) (st2 := [.int (pB (isCoB N c))]) rfl ce_X9_isColumn ml_X9_120 im_X9_isColumn se_X9_isColumn hm.1 rfl rfl rfl (by decide) (Nat.le_of_ble_eq_true rfl) (sp_X9_isColumn hm hN hN2) rfl ?_
    refine q_if_ne (pc := 12) 22 rfl (by decide) (fun h12 => ?_) (fun h12 => ?_)
    · obtain ⟨u, huu, rfl⟩ := pWi_of (m := 2) (by decide) (by decide) (pB_t h4); obtain ⟨x, rfl, hxN⟩ := isCo_of hN2 (pB_t h12)
      refine q_aload_n (pc := 22) (j := 0) rfl rfl ?_
      refine q_iload_n (pc := 23) (j := 1) rfl rfl ?_
      refine q_iload_n (pc := 24) (j := 2) rfl rfl ?_
      refine q_callV (pc := 25) (as := [.int (nI u), .int i]) (rest := []) (b := 70) (st2 := [.int (pB (hnB (mK S u) (mZ S u) i))]) rfl ce_X9_isPlace ml_X9_297 im_X9_isPlace se_X9_isPlace hm.1 rfl rfl rfl (by decide) (Nat.le_of_ble_eq_true rfl) (sp_X9_isPlace (u := u) hm (by omega) hsh) rfl ?_
      refine q_if_ne (pc := 28) 39 rfl (by decide) (fun h28 => ?_) (fun h28 => ?_)
      · obtain ⟨y, rfl, hy, hk9⟩ := hn_of2 (hsh u (by omega)).2.1 (pB_t h28)
        refine q_aload_n (pc := 39) (j := 0) rfl rfl ?_
        refine q_get (pc := 40) (a := 70) (v := .ref 71) rfl fl_X9_9 hm.1 rfl rfl ?_
        refine q_iload_n (pc := 43) (j := 1) rfl rfl ?_
        refine q_callS (pc := 44) (as := [.int (nI u)]) (rest := [.ref 71]) (st2 := [.int (nI (162 + 62 * u)), .ref 71]) rfl ce_X9_shelfAt ml_X9_286 st_X9_shelfAt rfl (by decide) (Nat.le_of_ble_eq_true rfl) (sp_X9_shelfAt (s := u)) rfl ?_
        refine q_iald (pc := 47) (a := 71) (162 + 62 * u) rfl hm.2.1 (vp_in_nI (by omega) (by decide)) (nI_clamp (by omega)) ?_
        refine q_st (st2 := [.int (mK S u)]) (by rw [(show (S.1 71 (162 + 62 * u)) = mK S u from rfl)]) ?_
        refine q_aload_n (pc := 48) (j := 0) rfl rfl ?_
        refine q_iload_n (pc := 49) (j := 3) rfl rfl ?_
        refine q_iconst (pc := 50) 0 rfl (by decide) ?_
        refine q_callV (pc := 51) (as := [.int (nI x), .int 0]) (rest := [.int (mK S u)]) (b := 70) (st2 := [.int (mG S (5 * x + 0)), .int (mK S u)]) rfl ce_X9_its ml_X9_124 im_X9_its se_X9_its hm.1 rfl rfl rfl (by decide) (Nat.le_of_ble_eq_true rfl) (sp_X9_its (c := x) (i := 0) hm (by omega) (by omega)) rfl ?_
        refine q_icmp_eq (pc := 54) 64 rfl (by decide) (fun h54 => ?_) (fun h54 => ?_)
        · refine q_iconst (pc := 64) 0 rfl (by decide) ?_
          refine q_istore (pc := 65) (j := 4) [some (.ref 70), some (.int (nI u)), some (.int (nI y)), some (.int (nI x)), some (.int 0)] rfl (by decide) rfl ?_
          refine q_S (stS_0 (b := (164 + 62 * u + 5 * y)) (x := x)) (lp_X9_store (by decide) hm (by omega) (by omega) (by omega) (fun i => ?_) 5 0 rfl)
          refine q_iconst (pc := 99) 1 rfl (by decide) ?_
          exact q_iret (pc := 100) rfl rfl (mA_ok (by rw [oStore, if_pos (pB_t h4), if_pos (pB_t h12), tN_nI (show u < 2 ^ 31 by omega), if_pos (pB_t h28), tN_nI (show x < 2 ^ 31 by omega), if_pos (show mK S u = mG S (5 * x + 0) from h54)]) (by rw [tN_nI (show u < 2 ^ 31 by omega), tN_nI (show y < 2 ^ 31 by omega), tN_nI (show x < 2 ^ 31 by omega)]; exact fm_rf))
        · refine q_aload_n (pc := 57) (j := 0) rfl rfl ?_
          refine q_ldc (pc := 58) (v := (-2147483005)) rfl kc_X9_245 ?_
          refine q_callV (pc := 60) (as := [.int (-2147483005)]) (rest := []) (b := 70) (st2 := [.int (-2147483000 - nI 5)]) rfl ce_X9_errs ml_X9_110 im_X9_errs se_X9_errs hm.1 rfl rfl rfl (by decide) (Nat.le_of_ble_eq_true rfl) (sp_X9_errs (e := 5) hm (by decide) (by decide)) rfl ?_
          exact q_iret (pc := 63) rfl rfl (mA_no (k := 4) (by rw [oStore, if_pos (pB_t h4), if_pos (pB_t h12), tN_nI (show u < 2 ^ 31 by omega), if_pos (pB_t h28), tN_nI (show x < 2 ^ 31 by omega), if_neg h54]) fm_rf)
      · refine q_aload_n (pc := 31) (j := 0) rfl rfl ?_
        refine q_ldcw (pc := 32) (v := (-2147483007)) rfl kc_X9_300 ?_
        refine q_callV (pc := 35) (as := [.int (-2147483007)]) (rest := []) (b := 70) (st2 := [.int (-2147483000 - nI 7)]) rfl ce_X9_errs ml_X9_110 im_X9_errs se_X9_errs hm.1 rfl rfl rfl (by decide) (Nat.le_of_ble_eq_true rfl) (sp_X9_errs (e := 7) hm (by decide) (by decide)) rfl ?_
        exact q_iret (pc := 38) rfl rfl (mA_no (k := 6) (by rw [oStore, if_pos (pB_t h4), if_pos (pB_t h12), tN_nI (show u < 2 ^ 31 by omega), if_neg (show ¬ _ = true from by rw [pB_f h28]; decide)]) fm_rf)
    · refine q_aload_n (pc := 15) (j := 0) rfl rfl ?_
      refine q_ldc (pc := 16) (v := (-2147483001)) rfl kc_X9_109 ?_
      refine q_callV (pc := 18) (as := [.int (-2147483001)]) (rest := []) (b := 70) (st2 := [.int (-2147483000 - nI 1)]) rfl ce_X9_errs ml_X9_110 im_X9_errs se_X9_errs hm.1 rfl rfl rfl (by decide) (Nat.le_of_ble_eq_true rfl) (sp_X9_errs (e := 1) hm (by decide) (by decide)) rfl ?_
      exact q_iret (pc := 21) rfl rfl (mA_no (k := 0) (by rw [oStore, if_pos (pB_t h4), if_neg (show ¬ _ = true from by rw [pB_f h12]; decide)]) fm_rf)
theorem w_3 {v : Nat} (hv : v ≤ 3) (h : 3 ≤ nI v) : nI v = 3 := by
  have h := (nI_leI (a := 3) (b := v) (by decide) (by omega)).mp h
  rw [show v = 3 by omega]; rfl
set_option maxRecDepth 100000 in
theorem sp_X9_fetch {sh : List PSh} {S : PSt} (hm : isMo sh) (hsh : mSh S) {s i what : Int32}  : pG mX9_fetch 2 [.ref 70, .int s, .int i, .int what] sh S (mA (oFetch (mK S) (mZ S) (mQ S) s i what) S S) := by
  refine pG.of [some (.ref 70), some (.int s), some (.int i), some (.int what), none] (by decide) tk_X9_fetch (Nat.le_of_ble_eq_true rfl) rfl (fun X => ?_)
  refine q_iload_n (pc := 0) (j := 1) rfl rfl ?_
  refine q_callS (pc := 1) (as := [.int s]) (rest := []) (st2 := [.int (pB (pWi s 0 2))]) rfl ce_X9_isShelf ml_X9_289 st_X9_isShelf rfl (by decide) (Nat.le_of_ble_eq_true rfl) (sp_X9_isShelf) rfl ?_
  refine q_if_eq (pc := 4) 19 rfl (by decide) (fun h4 => ?_) (fun h4 => ?_)
  · refine q_aload_n (pc := 19) (j := 0) rfl rfl ?_
    refine q_ldc (pc := 20) (v := (-2147483001)) rfl kc_X9_109 ?_
    refine q_callV (pc := 22) (as := [.int (-2147483001)]) (rest := []) (b := 70) (st2 := [.int (-2147483000 - nI 1)]) rfl ce_X9_errs ml_X9_110 im_X9_errs se_X9_errs hm.1 rfl rfl rfl (by decide) (Nat.le_of_ble_eq_true rfl) (sp_X9_errs (e := 1) hm (by decide) (by decide)) rfl ?_
    exact q_iret (pc := 25) rfl rfl (mA_no (k := 0) (by rw [oFetch, if_neg (show ¬ _ = true from by rw [pB_f h4]; decide)]) fm_rf)
  · refine q_iload_n (pc := 7) (j := 3) rfl rfl ?_
    refine q_i2l (pc := 8) rfl ?_
    refine q_lconst (pc := 9) 0 rfl (by decide) ?_
    refine q_ldc2 (pc := 10) (v := 3) rfl kc_X9_212 ?_
    refine q_callS (pc := 13) (as := [.long (what.toInt64), .long 0, .long 3]) (rest := []) (st2 := [.int (pB (pWi what 0 3))]) rfl ce_X9_in ml_X9_85 st_X9_in rfl (by decide) (Nat.le_of_ble_eq_true rfl) (sp_X9_inW (v := what) (l := 0) (m := 3) (Int32.toInt_toInt64 _) (by decide) (by decide)) rfl ?_
    refine q_if_ne (pc := 16) 26 rfl (by decide) (fun h16 => ?_) (fun h16 => ?_)
    · obtain ⟨u, huu, rfl⟩ := pWi_of (m := 2) (by decide) (by decide) (pB_t h4); obtain ⟨v, huv, rfl⟩ := pWi_of (m := 3) (by decide) (by decide) (pB_t h16)
      refine q_aload_n (pc := 26) (j := 0) rfl rfl ?_
      refine q_iload_n (pc := 27) (j := 1) rfl rfl ?_
      refine q_iload_n (pc := 28) (j := 2) rfl rfl ?_
      refine q_callV (pc := 29) (as := [.int (nI u), .int i]) (rest := []) (b := 70) (st2 := [.int (pB (hnB (mK S u) (mZ S u) i))]) rfl ce_X9_isPlace ml_X9_297 im_X9_isPlace se_X9_isPlace hm.1 rfl rfl rfl (by decide) (Nat.le_of_ble_eq_true rfl) (sp_X9_isPlace (u := u) hm (by omega) hsh) rfl ?_
      refine q_if_ne (pc := 32) 43 rfl (by decide) (fun h32 => ?_) (fun h32 => ?_)
      · obtain ⟨y, rfl, hy, hk9⟩ := hn_of2 (hsh u (by omega)).2.1 (pB_t h32)
        refine q_iload_n (pc := 43) (j := 1) rfl rfl ?_
        refine q_iload_n (pc := 44) (j := 2) rfl rfl ?_
        refine q_callS (pc := 45) (as := [.int (nI u), .int (nI y)]) (rest := []) (st2 := [.int (nI (164 + 62 * u + 5 * y))]) rfl ce_X9_placeAt ml_X9_294 st_X9_placeAt rfl (by decide) (Nat.le_of_ble_eq_true rfl) (sp_X9_placeAt (s := u) (i := y)) rfl ?_
        refine q_istore (pc := 48) (j := 4) [some (.ref 70), some (.int (nI u)), some (.int (nI y)), some (.int (nI v)), some (.int (nI (164 + 62 * u + 5 * y)))] rfl (by decide) rfl ?_
        refine q_aload_n (pc := 50) (j := 0) rfl rfl ?_
        refine q_get (pc := 51) (a := 70) (v := .ref 71) rfl fl_X9_9 hm.1 rfl rfl ?_
        refine q_iload (pc := 54) (j := 4) rfl rfl ?_
        refine q_iald (pc := 56) (a := 71) (164 + 62 * u + 5 * y) rfl hm.2.1 (vp_in_nI (by omega) (by decide)) (nI_clamp (by omega)) ?_
        refine q_st (st2 := [.int (mQ S (5 * (12 * u + y)))]) (by rw [(show (S.1 71 (164 + 62 * u + 5 * y)) = (mQ S (5 * (12 * u + y))) from mQ_0 hy)]) ?_
        refine q_if_ge (pc := 57) 67 rfl (by decide) (fun h57 => ?_) (fun h57 => ?_)
        · have hq9 := okK_p ((hsh u (by omega)).2.2 y hy) (Int32.not_lt.mpr h57)
          refine q_iload_n (pc := 67) (j := 3) rfl rfl ?_
          refine q_iconst (pc := 68) 3 rfl (by decide) ?_
          refine q_icmp_ge (pc := 69) 84 rfl (by decide) (fun h69 => ?_) (fun h69 => ?_)
          · refine q_aload_n (pc := 84) (j := 0) rfl rfl ?_
            refine q_get (pc := 85) (a := 70) (v := .ref 71) rfl fl_X9_9 hm.1 rfl rfl ?_
            refine q_iload (pc := 88) (j := 4) rfl rfl ?_
            refine q_iald (pc := 90) (a := 71) (164 + 62 * u + 5 * y) rfl hm.2.1 (vp_in_nI (by omega) (by decide)) (nI_clamp (by omega)) ?_
            refine q_st (st2 := [.int (mQ S (5 * (12 * u + y)))]) (by rw [(show (S.1 71 (164 + 62 * u + 5 * y)) = (mQ S (5 * (12 * u + y))) from mQ_0 hy)]) ?_
            refine q_aload_n (pc := 91) (j := 0) rfl rfl ?_
            refine q_get (pc := 92) (a := 70) (v := .ref 71) rfl fl_X9_9 hm.1 rfl rfl ?_
            refine q_iload (pc := 95) (j := 4) rfl rfl ?_
            refine q_iconst (pc := 97) 2 rfl (by decide) ?_
            refine q_iadd (pc := 98) rfl ?_
            refine q_st (st2 := [.int (nI (164 + 62 * u + 5 * y + 2)), .ref 71, .int (mQ S (5 * (12 * u + y)))]) (by rw [(show ((nI (164 + 62 * u + 5 * y)) + 2) = _ from nI_add (164 + 62 * u + 5 * y) 2)]) ?_
            refine q_iald (pc := 99) (a := 71) (164 + 62 * u + 5 * y + 2) rfl hm.2.1 (vp_in_nI (by omega) (by decide)) (nI_clamp (by omega)) ?_
            refine q_st (st2 := [.int (mQ S (5 * (12 * u + y) + 2)), .int (mQ S (5 * (12 * u + y)))]) (by rw [(show (S.1 71 (164 + 62 * u + 5 * y + 2)) = (mQ S (5 * (12 * u + y) + 2)) from mQ_at (by omega))]) ?_
            refine q_aload_n (pc := 100) (j := 0) rfl rfl ?_
            refine q_get (pc := 101) (a := 70) (v := .ref 71) rfl fl_X9_9 hm.1 rfl rfl ?_
            refine q_iload (pc := 104) (j := 4) rfl rfl ?_
            refine q_iconst (pc := 106) 4 rfl (by decide) ?_
            refine q_iadd (pc := 107) rfl ?_
            refine q_st (st2 := [.int (nI (164 + 62 * u + 5 * y + 4)), .ref 71, .int (mQ S (5 * (12 * u + y) + 2)), .int (mQ S (5 * (12 * u + y)))]) (by rw [(show ((nI (164 + 62 * u + 5 * y)) + 4) = _ from nI_add (164 + 62 * u + 5 * y) 4)]) ?_
            refine q_iald (pc := 108) (a := 71) (164 + 62 * u + 5 * y + 4) rfl hm.2.1 (vp_in_nI (by omega) (by decide)) (nI_clamp (by omega)) ?_
            refine q_st (st2 := [.int (mQ S (5 * (12 * u + y) + 4)), .int (mQ S (5 * (12 * u + y) + 2)), .int (mQ S (5 * (12 * u + y)))]) (by rw [(show (S.1 71 (164 + 62 * u + 5 * y + 4)) = (mQ S (5 * (12 * u + y) + 4)) from mQ_at (by omega))]) ?_
            refine q_callS (pc := 109) (as := [.int (mQ S (5 * (12 * u + y))), .int (mQ S (5 * (12 * u + y) + 2)), .int (mQ S (5 * (12 * u + y) + 4))]) (rest := []) (st2 := [.int (topM (mQ S (5 * (12 * u + y))) (mQ S (5 * (12 * u + y) + 2)) (mQ S (5 * (12 * u + y) + 4)))]) rfl ce_X9_topOf ml_X9_128 st_X9_topOf rfl (by decide) (Nat.le_of_ble_eq_true rfl) (sp_X9_topOf) rfl ?_
            exact q_iret (pc := 112) rfl rfl (mA_ok (by rw [oFetch, if_pos (pB_t h4), if_pos (pB_t h16), tN_nI (show u < 2 ^ 31 by omega), if_pos (pB_t h32), plN, tN_nI (show u < 2 ^ 31 by omega), tN_nI (show y < 2 ^ 31 by omega), if_neg hq9.1, if_pos (w_3 huv h69), topG, ← topM_V (show okK (mQ S (5 * (12 * u + y) + 0)) from hq9.2)]; rfl) fm_rf)
          · have hv3 : v < 3 := (by have h9 := mt (nI_leI (a := 3) (b := v) (by decide) (by omega)).mpr h69; omega)
            refine q_aload_n (pc := 72) (j := 0) rfl rfl ?_
            refine q_get (pc := 73) (a := 70) (v := .ref 71) rfl fl_X9_9 hm.1 rfl rfl ?_
            refine q_iload (pc := 76) (j := 4) rfl rfl ?_
            refine q_iload_n (pc := 78) (j := 3) rfl rfl ?_
            refine q_iadd (pc := 79) rfl ?_
            refine q_st (st2 := [.int (nI (164 + 62 * u + 5 * y + v)), .ref 71]) (by rw [(show ((nI (164 + 62 * u + 5 * y)) + (nI v)) = _ from nI_add (164 + 62 * u + 5 * y) v)]) ?_
            refine q_iald (pc := 80) (a := 71) (164 + 62 * u + 5 * y + v) rfl hm.2.1 (vp_in_nI (by omega) (by decide)) (nI_clamp (by omega)) ?_
            refine q_st (st2 := [.int (mQ S (5 * (12 * u + y) + v))]) (by rw [(show (S.1 71 (164 + 62 * u + 5 * y + v)) = (mQ S (5 * (12 * u + y) + v)) from mQ_at (by omega))]) ?_
            refine q_goto (pc := 81) 112 rfl (by decide) ?_
            exact q_iret (pc := 112) rfl rfl (mA_ok (by rw [oFetch, if_pos (pB_t h4), if_pos (pB_t h16), tN_nI (show u < 2 ^ 31 by omega), if_pos (pB_t h32), plN, tN_nI (show u < 2 ^ 31 by omega), tN_nI (show y < 2 ^ 31 by omega), if_neg hq9.1, if_neg (fun q9 => h69 (by rw [q9]; decide)), tN_nI (show v < 2 ^ 31 by omega)]) fm_rf)
        · refine q_aload_n (pc := 60) (j := 0) rfl rfl ?_
          refine q_ldc (pc := 61) (v := (-2147483002)) rfl kc_X9_119 ?_
          refine q_callV (pc := 63) (as := [.int (-2147483002)]) (rest := []) (b := 70) (st2 := [.int (-2147483000 - nI 2)]) rfl ce_X9_errs ml_X9_110 im_X9_errs se_X9_errs hm.1 rfl rfl rfl (by decide) (Nat.le_of_ble_eq_true rfl) (sp_X9_errs (e := 2) hm (by decide) (by decide)) rfl ?_
          exact q_iret (pc := 66) rfl rfl (mA_no (k := 1) (by rw [oFetch, if_pos (pB_t h4), if_pos (pB_t h16), tN_nI (show u < 2 ^ 31 by omega), if_pos (pB_t h32), plN, tN_nI (show u < 2 ^ 31 by omega), tN_nI (show y < 2 ^ 31 by omega), if_pos (okK_n ((hsh u (by omega)).2.2 y hy) (Int32.not_le.mp h57))]) fm_rf)
      · refine q_aload_n (pc := 35) (j := 0) rfl rfl ?_
        refine q_ldcw (pc := 36) (v := (-2147483007)) rfl kc_X9_300 ?_
        refine q_callV (pc := 39) (as := [.int (-2147483007)]) (rest := []) (b := 70) (st2 := [.int (-2147483000 - nI 7)]) rfl ce_X9_errs ml_X9_110 im_X9_errs se_X9_errs hm.1 rfl rfl rfl (by decide) (Nat.le_of_ble_eq_true rfl) (sp_X9_errs (e := 7) hm (by decide) (by decide)) rfl ?_
        exact q_iret (pc := 42) rfl rfl (mA_no (k := 6) (by rw [oFetch, if_pos (pB_t h4), if_pos (pB_t h16), tN_nI (show u < 2 ^ 31 by omega), if_neg (show ¬ _ = true from by rw [pB_f h32]; decide)]) fm_rf)
    · refine q_aload_n (pc := 19) (j := 0) rfl rfl ?_
      refine q_ldc (pc := 20) (v := (-2147483001)) rfl kc_X9_109 ?_
      refine q_callV (pc := 22) (as := [.int (-2147483001)]) (rest := []) (b := 70) (st2 := [.int (-2147483000 - nI 1)]) rfl ce_X9_errs ml_X9_110 im_X9_errs se_X9_errs hm.1 rfl rfl rfl (by decide) (Nat.le_of_ble_eq_true rfl) (sp_X9_errs (e := 1) hm (by decide) (by decide)) rfl ?_
      exact q_iret (pc := 25) rfl rfl (mA_no (k := 0) (by rw [oFetch, if_pos (pB_t h4), if_neg (show ¬ _ = true from by rw [pB_f h16]; decide)]) fm_rf)
set_option maxRecDepth 100000 in
theorem sp_X9_comes_ {sh : List PSh} {S : PSt} {N : Nat} (hm : isMo sh) (hi : mIv S N) (hsh : mSh S) {s i : Int32}  : pG mX9_comes_ 2 [.ref 70, .int s, .int i] sh S (mA (oComes (mK S) (mZ S) (mQ S) N s i) S (cmS S N (mQ S (5 * plN s i)) (mQ S (5 * plN s i + 1)) (mQ S (5 * plN s i + 2)) (mQ S (5 * plN s i + 3)) (mQ S (5 * plN s i + 4)))) := by
  obtain ⟨hN, hN2, hok, hw⟩ := id hi
  refine pG.of [some (.ref 70), some (.int s), some (.int i), none] (by decide) tk_X9_comes_ (Nat.le_of_ble_eq_true rfl) rfl (fun X => ?_)
  refine q_iload_n (pc := 0) (j := 1) rfl rfl ?_
  refine q_callS (pc := 1) (as := [.int s]) (rest := []) (st2 := [.int (pB (pWi s 0 2))]) rfl ce_X9_isShelf ml_X9_289 st_X9_isShelf rfl (by decide) (Nat.le_of_ble_eq_true rfl) (sp_X9_isShelf) rfl ?_
  refine q_if_ne (pc := 4) 14 rfl (by decide) (fun h4 => ?_) (fun h4 => ?_)
  · obtain ⟨u, huu, rfl⟩ := pWi_of (m := 2) (by decide) (by decide) (pB_t h4)
    refine q_aload_n (pc := 14) (j := 0) rfl rfl ?_
    refine q_iload_n (pc := 15) (j := 1) rfl rfl ?_
    refine q_iload_n (pc := 16) (j := 2) rfl rfl ?_
    refine q_callV (pc := 17) (as := [.int (nI u), .int i]) (rest := []) (b := 70) (st2 := [.int (pB (hnB (mK S u) (mZ S u) i))]) rfl ce_X9_isPlace ml_X9_297 im_X9_isPlace se_X9_isPlace hm.1 rfl rfl rfl (by decide) (Nat.le_of_ble_eq_true rfl) (sp_X9_isPlace (u := u) hm (by omega) hsh) rfl ?_
    refine q_if_ne (pc := 20) 31 rfl (by decide) (fun h20 => ?_) (fun h20 => ?_)
    · obtain ⟨y, rfl, hy, hk9⟩ := hn_of2 (hsh u (by omega)).2.1 (pB_t h20)
      refine q_iload_n (pc := 31) (j := 1) rfl rfl ?_
      refine q_iload_n (pc := 32) (j := 2) rfl rfl ?_
      refine q_callS (pc := 33) (as := [.int (nI u), .int (nI y)]) (rest := []) (st2 := [.int (nI (164 + 62 * u + 5 * y))]) rfl ce_X9_placeAt ml_X9_294 st_X9_placeAt rfl (by decide) (Nat.le_of_ble_eq_true rfl) (sp_X9_placeAt (s := u) (i := y)) rfl ?_
      refine q_istore_n (pc := 36) (j := 3) [some (.ref 70), some (.int (nI u)), some (.int (nI y)), some (.int (nI (164 + 62 * u + 5 * y)))] rfl (by decide) rfl ?_
      refine q_aload_n (pc := 37) (j := 0) rfl rfl ?_
      refine q_get (pc := 38) (a := 70) (v := .ref 71) rfl fl_X9_9 hm.1 rfl rfl ?_
      refine q_iload_n (pc := 41) (j := 3) rfl rfl ?_
      refine q_iald (pc := 42) (a := 71) (164 + 62 * u + 5 * y) rfl hm.2.1 (vp_in_nI (by omega) (by decide)) (nI_clamp (by omega)) ?_
      refine q_st (st2 := [.int (mQ S (5 * (12 * u + y)))]) (by rw [(show (S.1 71 (164 + 62 * u + 5 * y)) = (mQ S (5 * (12 * u + y))) from mQ_0 hy)]) ?_
      refine q_if_ge (pc := 43) 53 rfl (by decide) (fun h43 => ?_) (fun h43 => ?_)
      · have hq9 := okK_p ((hsh u (by omega)).2.2 y hy) (Int32.not_lt.mpr h43)
        refine q_aload_n (pc := 53) (j := 0) rfl rfl ?_
        refine q_get (pc := 54) (a := 70) (v := .ref 71) rfl fl_X9_9 hm.1 rfl rfl ?_
        refine q_iconst (pc := 57) 0 rfl (by decide) ?_
        refine q_iald (pc := 58) (a := 71) 0 rfl hm.2.1 (vp_in_nI (n := 0) (by decide) (by decide)) rfl ?_
        refine q_st (st2 := [.int (nI N)]) (by rw [(show (S.1 71 0) = nI N from hN)]) ?_
        refine q_bipush (pc := 59) 32 rfl (by decide) ?_
        refine q_icmp_ne (pc := 61) 73 rfl (by decide) (fun h61 => ?_) (fun h61 => ?_)
        · have hN3 : N < 32 := (by have h9 := mt (nI_eq (a := N) (b := 32) (by omega) (by decide)).mpr h61; omega)
          refine q_aload_n (pc := 73) (j := 0) rfl rfl ?_
          refine q_aload_n (pc := 74) (j := 0) rfl rfl ?_
          refine q_get (pc := 75) (a := 70) (v := .ref 71) rfl fl_X9_9 hm.1 rfl rfl ?_
          refine q_iload_n (pc := 78) (j := 3) rfl rfl ?_
          refine q_iald (pc := 79) (a := 71) (164 + 62 * u + 5 * y) rfl hm.2.1 (vp_in_nI (by omega) (by decide)) (nI_clamp (by omega)) ?_
          refine q_st (st2 := [.int (mQ S (5 * (12 * u + y))), .ref 70]) (by rw [(show (S.1 71 (164 + 62 * u + 5 * y)) = (mQ S (5 * (12 * u + y))) from mQ_0 hy)]) ?_
          refine q_aload_n (pc := 80) (j := 0) rfl rfl ?_
          refine q_get (pc := 81) (a := 70) (v := .ref 71) rfl fl_X9_9 hm.1 rfl rfl ?_
          refine q_iload_n (pc := 84) (j := 3) rfl rfl ?_
          refine q_iconst (pc := 85) 1 rfl (by decide) ?_
          refine q_iadd (pc := 86) rfl ?_
          refine q_st (st2 := [.int (nI (164 + 62 * u + 5 * y + 1)), .ref 71, .int (mQ S (5 * (12 * u + y))), .ref 70]) (by rw [(show ((nI (164 + 62 * u + 5 * y)) + 1) = _ from nI_add (164 + 62 * u + 5 * y) 1)]) ?_
          refine q_iald (pc := 87) (a := 71) (164 + 62 * u + 5 * y + 1) rfl hm.2.1 (vp_in_nI (by omega) (by decide)) (nI_clamp (by omega)) ?_
          refine q_st (st2 := [.int (mQ S (5 * (12 * u + y) + 1)), .int (mQ S (5 * (12 * u + y))), .ref 70]) (by rw [(show (S.1 71 (164 + 62 * u + 5 * y + 1)) = (mQ S (5 * (12 * u + y) + 1)) from mQ_at (by omega))]) ?_
          refine q_aload_n (pc := 88) (j := 0) rfl rfl ?_
          refine q_get (pc := 89) (a := 70) (v := .ref 71) rfl fl_X9_9 hm.1 rfl rfl ?_
          refine q_iload_n (pc := 92) (j := 3) rfl rfl ?_
          refine q_iconst (pc := 93) 2 rfl (by decide) ?_
          refine q_iadd (pc := 94) rfl ?_
          refine q_st (st2 := [.int (nI (164 + 62 * u + 5 * y + 2)), .ref 71, .int (mQ S (5 * (12 * u + y) + 1)), .int (mQ S (5 * (12 * u + y))), .ref 70]) (by rw [(show ((nI (164 + 62 * u + 5 * y)) + 2) = _ from nI_add (164 + 62 * u + 5 * y) 2)]) ?_
          refine q_iald (pc := 95) (a := 71) (164 + 62 * u + 5 * y + 2) rfl hm.2.1 (vp_in_nI (by omega) (by decide)) (nI_clamp (by omega)) ?_
          refine q_st (st2 := [.int (mQ S (5 * (12 * u + y) + 2)), .int (mQ S (5 * (12 * u + y) + 1)), .int (mQ S (5 * (12 * u + y))), .ref 70]) (by rw [(show (S.1 71 (164 + 62 * u + 5 * y + 2)) = (mQ S (5 * (12 * u + y) + 2)) from mQ_at (by omega))]) ?_
          refine q_aload_n (pc := 96) (j := 0) rfl rfl ?_
          refine q_get (pc := 97) (a := 70) (v := .ref 71) rfl fl_X9_9 hm.1 rfl rfl ?_
          refine q_iload_n (pc := 100) (j := 3) rfl rfl ?_
          refine q_iconst (pc := 101) 3 rfl (by decide) ?_
          refine q_iadd (pc := 102) rfl ?_
          refine q_st (st2 := [.int (nI (164 + 62 * u + 5 * y + 3)), .ref 71, .int (mQ S (5 * (12 * u + y) + 2)), .int (mQ S (5 * (12 * u + y) + 1)), .int (mQ S (5 * (12 * u + y))), .ref 70]) (by rw [(show ((nI (164 + 62 * u + 5 * y)) + 3) = _ from nI_add (164 + 62 * u + 5 * y) 3)]) ?_
          refine q_iald (pc := 103) (a := 71) (164 + 62 * u + 5 * y + 3) rfl hm.2.1 (vp_in_nI (by omega) (by decide)) (nI_clamp (by omega)) ?_
          refine q_st (st2 := [.int (mQ S (5 * (12 * u + y) + 3)), .int (mQ S (5 * (12 * u + y) + 2)), .int (mQ S (5 * (12 * u + y) + 1)), .int (mQ S (5 * (12 * u + y))), .ref 70]) (by rw [(show (S.1 71 (164 + 62 * u + 5 * y + 3)) = (mQ S (5 * (12 * u + y) + 3)) from mQ_at (by omega))]) ?_
          refine q_aload_n (pc := 104) (j := 0) rfl rfl ?_
          refine q_get (pc := 105) (a := 70) (v := .ref 71) rfl fl_X9_9 hm.1 rfl rfl ?_
          refine q_iload_n (pc := 108) (j := 3) rfl rfl ?_
          refine q_iconst (pc := 109) 4 rfl (by decide) ?_
          refine q_iadd (pc := 110) rfl ?_
          refine q_st (st2 := [.int (nI (164 + 62 * u + 5 * y + 4)), .ref 71, .int (mQ S (5 * (12 * u + y) + 3)), .int (mQ S (5 * (12 * u + y) + 2)), .int (mQ S (5 * (12 * u + y) + 1)), .int (mQ S (5 * (12 * u + y))), .ref 70]) (by rw [(show ((nI (164 + 62 * u + 5 * y)) + 4) = _ from nI_add (164 + 62 * u + 5 * y) 4)]) ?_
          refine q_iald (pc := 111) (a := 71) (164 + 62 * u + 5 * y + 4) rfl hm.2.1 (vp_in_nI (by omega) (by decide)) (nI_clamp (by omega)) ?_
          refine q_st (st2 := [.int (mQ S (5 * (12 * u + y) + 4)), .int (mQ S (5 * (12 * u + y) + 3)), .int (mQ S (5 * (12 * u + y) + 2)), .int (mQ S (5 * (12 * u + y) + 1)), .int (mQ S (5 * (12 * u + y))), .ref 70]) (by rw [(show (S.1 71 (164 + 62 * u + 5 * y + 4)) = (mQ S (5 * (12 * u + y) + 4)) from mQ_at (by omega))]) ?_
          refine q_callV (pc := 112) (as := [.int (mQ S (5 * (12 * u + y))), .int (mQ S (5 * (12 * u + y) + 1)), .int (mQ S (5 * (12 * u + y) + 2)), .int (mQ S (5 * (12 * u + y) + 3)), .int (mQ S (5 * (12 * u + y) + 4))]) (rest := []) (b := 70) (st2 := [.int (nI N)]) rfl ce_X9_comes ml_X9_115 im_X9_comes se_X9_comes hm.1 rfl rfl rfl (by decide) (Nat.le_of_ble_eq_true rfl) (sp_X9_comes (N := N) hm hN hN3) rfl ?_
          exact q_iret (pc := 115) rfl rfl (mA_ok (by rw [oComes, if_pos (pB_t h4), tN_nI (show u < 2 ^ 31 by omega), if_pos (pB_t h20), plN, tN_nI (show u < 2 ^ 31 by omega), tN_nI (show y < 2 ^ 31 by omega), if_neg hq9.1, if_neg (Nat.ne_of_lt hN3)]) (by rw [plN, tN_nI (show u < 2 ^ 31 by omega), tN_nI (show y < 2 ^ 31 by omega)]; exact fm_rf))
        · have hN9 : N = 32 := (nI_eq (a := N) (b := 32) (by omega) (by decide)).mp h61
          refine q_aload_n (pc := 64) (j := 0) rfl rfl ?_
          refine q_ldc (pc := 65) (v := (-2147483004)) rfl kc_X9_114 ?_
          refine q_callV (pc := 67) (as := [.int (-2147483004)]) (rest := []) (b := 70) (st2 := [.int (-2147483000 - nI 4)]) rfl ce_X9_errs ml_X9_110 im_X9_errs se_X9_errs hm.1 rfl rfl rfl (by decide) (Nat.le_of_ble_eq_true rfl) (sp_X9_errs (e := 4) hm (by decide) (by decide)) rfl ?_
          refine q_goto (pc := 70) 115 rfl (by decide) ?_
          exact q_iret (pc := 115) rfl rfl (mA_no (k := 3) (by rw [oComes, if_pos (pB_t h4), tN_nI (show u < 2 ^ 31 by omega), if_pos (pB_t h20), plN, tN_nI (show u < 2 ^ 31 by omega), tN_nI (show y < 2 ^ 31 by omega), if_neg hq9.1, if_pos hN9]) fm_rf)
      · refine q_aload_n (pc := 46) (j := 0) rfl rfl ?_
        refine q_ldc (pc := 47) (v := (-2147483002)) rfl kc_X9_119 ?_
        refine q_callV (pc := 49) (as := [.int (-2147483002)]) (rest := []) (b := 70) (st2 := [.int (-2147483000 - nI 2)]) rfl ce_X9_errs ml_X9_110 im_X9_errs se_X9_errs hm.1 rfl rfl rfl (by decide) (Nat.le_of_ble_eq_true rfl) (sp_X9_errs (e := 2) hm (by decide) (by decide)) rfl ?_
        exact q_iret (pc := 52) rfl rfl (mA_no (k := 1) (by rw [oComes, if_pos (pB_t h4), tN_nI (show u < 2 ^ 31 by omega), if_pos (pB_t h20), plN, tN_nI (show u < 2 ^ 31 by omega), tN_nI (show y < 2 ^ 31 by omega), if_pos (okK_n ((hsh u (by omega)).2.2 y hy) (Int32.not_le.mp h43))]) fm_rf)
    · refine q_aload_n (pc := 23) (j := 0) rfl rfl ?_
      refine q_ldcw (pc := 24) (v := (-2147483007)) rfl kc_X9_300 ?_
      refine q_callV (pc := 27) (as := [.int (-2147483007)]) (rest := []) (b := 70) (st2 := [.int (-2147483000 - nI 7)]) rfl ce_X9_errs ml_X9_110 im_X9_errs se_X9_errs hm.1 rfl rfl rfl (by decide) (Nat.le_of_ble_eq_true rfl) (sp_X9_errs (e := 7) hm (by decide) (by decide)) rfl ?_
      exact q_iret (pc := 30) rfl rfl (mA_no (k := 6) (by rw [oComes, if_pos (pB_t h4), tN_nI (show u < 2 ^ 31 by omega), if_neg (show ¬ _ = true from by rw [pB_f h20]; decide)]) fm_rf)
  · refine q_aload_n (pc := 7) (j := 0) rfl rfl ?_
    refine q_ldc (pc := 8) (v := (-2147483001)) rfl kc_X9_109 ?_
    refine q_callV (pc := 10) (as := [.int (-2147483001)]) (rest := []) (b := 70) (st2 := [.int (-2147483000 - nI 1)]) rfl ce_X9_errs ml_X9_110 im_X9_errs se_X9_errs hm.1 rfl rfl rfl (by decide) (Nat.le_of_ble_eq_true rfl) (sp_X9_errs (e := 1) hm (by decide) (by decide)) rfl ?_
    exact q_iret (pc := 13) rfl rfl (mA_no (k := 0) (by rw [oComes, if_neg (show ¬ _ = true from by rw [pB_f h4]; decide)]) fm_rf)
set_option maxRecDepth 100000 in
theorem sp_X9_image {sh : List PSh} {S : PSt} {N : Nat} (hm : isMo sh) (hN : S.1 71 0 = nI N)  : pG mX9_image 1 [.ref 70] sh S (mA ((0, nI N)) S (pSI (cpI S 71 72 348) 70 2 1)) := by
  refine pG.of [some (.ref 70)] (by decide) tk_X9_image (Nat.le_of_ble_eq_true rfl) rfl (fun X => ?_)
  refine q_aload_n (pc := 0) (j := 0) rfl rfl ?_
  refine q_get (pc := 1) (a := 70) (v := .ref 71) rfl fl_X9_9 hm.1 rfl rfl ?_
  refine q_aload_n (pc := 4) (j := 0) rfl rfl ?_
  refine q_get (pc := 5) (a := 70) (v := .ref 72) rfl fl_X9_13 hm.1 rfl rfl ?_
  refine q_callS (pc := 8) (as := [.ref 71, .ref 72]) (rest := []) (st2 := []) rfl ce_X9_copy ml_X9_324 st_X9_copy rfl (by decide) (Nat.le_of_ble_eq_true rfl) (sp_X9_copy (a := 71) (b := 72) hm.2.1 hm.2.2.1 (by decide)) rfl ?_
  refine q_aload_n (pc := 11) (j := 0) rfl rfl ?_
  refine q_iconst (pc := 12) 1 rfl (by decide) ?_
  refine q_putI (pc := 13) (a := 70) rfl fl_X9_328 hm.1 rfl (fun _ h9 => by cases h9; rfl) rfl rfl ?_
  refine q_aload_n (pc := 16) (j := 0) rfl rfl ?_
  refine q_get (pc := 17) (a := 70) (v := .ref 71) rfl fl_X9_9 hm.1 rfl rfl ?_
  refine q_iconst (pc := 20) 0 rfl (by decide) ?_
  refine q_iald (pc := 21) (a := 71) 0 rfl hm.2.1 (vp_in_nI (n := 0) (by decide) (by decide)) rfl ?_
  refine q_st (st2 := [.int (nI N)]) (by rw [(show ((pSI (cpI S 71 72 348) 70 2 1).1 71 0) = nI N from (by simp [cpI, pSI, pU]; exact hN))]) ?_
  exact q_iret (pc := 22) rfl rfl (mA_ok rfl fm_rf)
set_option maxRecDepth 100000 in
theorem sp_X9_restore {sh : List PSh} {S : PSt} {N : Nat} (hm : isMo sh) (hN : ¬ S.1 70 2 = 0 → S.1 72 0 = nI N)  : pG mX9_restore 1 [.ref 70] sh S (mA (if S.1 70 2 = 0 then (2, 0) else (0, nI N)) S (cpI S 72 71 348)) := by
  refine pG.of [some (.ref 70)] (by decide) tk_X9_restore (Nat.le_of_ble_eq_true rfl) rfl (fun X => ?_)
  refine q_aload_n (pc := 0) (j := 0) rfl rfl ?_
  refine q_get (pc := 1) (a := 70) (v := .int (S.1 70 2)) rfl fl_X9_328 hm.1 rfl rfl ?_
  refine q_if_ne (pc := 4) 14 rfl (by decide) (fun h4 => ?_) (fun h4 => ?_)
  · refine q_aload_n (pc := 14) (j := 0) rfl rfl ?_
    refine q_get (pc := 15) (a := 70) (v := .ref 72) rfl fl_X9_13 hm.1 rfl rfl ?_
    refine q_aload_n (pc := 18) (j := 0) rfl rfl ?_
    refine q_get (pc := 19) (a := 70) (v := .ref 71) rfl fl_X9_9 hm.1 rfl rfl ?_
    refine q_callS (pc := 22) (as := [.ref 72, .ref 71]) (rest := []) (st2 := []) rfl ce_X9_copy ml_X9_324 st_X9_copy rfl (by decide) (Nat.le_of_ble_eq_true rfl) (sp_X9_copy (a := 72) (b := 71) hm.2.2.1 hm.2.1 (by decide)) rfl ?_
    refine q_aload_n (pc := 25) (j := 0) rfl rfl ?_
    refine q_get (pc := 26) (a := 70) (v := .ref 71) rfl fl_X9_9 hm.1 rfl rfl ?_
    refine q_iconst (pc := 29) 0 rfl (by decide) ?_
    refine q_iald (pc := 30) (a := 71) 0 rfl hm.2.1 (vp_in_nI (n := 0) (by decide) (by decide)) rfl ?_
    refine q_st (st2 := [.int (nI N)]) (by rw [(show ((cpI S 72 71 348).1 71 0) = nI N from (by simp [cpI]; exact hN h4))]) ?_
    exact q_iret (pc := 31) rfl rfl (mA_ok (by rw [if_neg h4]) fm_rf)
  · refine q_aload_n (pc := 7) (j := 0) rfl rfl ?_
    refine q_ldc (pc := 8) (v := (-2147483002)) rfl kc_X9_119 ?_
    refine q_callV (pc := 10) (as := [.int (-2147483002)]) (rest := []) (b := 70) (st2 := [.int (-2147483000 - nI 2)]) rfl ce_X9_errs ml_X9_110 im_X9_errs se_X9_errs hm.1 rfl rfl rfl (by decide) (Nat.le_of_ble_eq_true rfl) (sp_X9_errs (e := 2) hm (by decide) (by decide)) rfl ?_
    exact q_iret (pc := 13) rfl rfl (mA_no (k := 1) (by rw [if_pos h4]) fm_rf)
set_option maxRecDepth 100000 in
theorem sp_X9_told {sh : List PSh} {S : PSt} (hm : isMo sh) {k : Int32}  : pG mX9_told 1 [.ref 70, .int k] sh S (mA (oTold (S.1 73) k) S S) := by
  refine pG.of [some (.ref 70), some (.int k)] (by decide) tk_X9_told (Nat.le_of_ble_eq_true rfl) rfl (fun X => ?_)
  refine q_iload_n (pc := 0) (j := 1) rfl rfl ?_
  refine q_i2l (pc := 1) rfl ?_
  refine q_lconst (pc := 2) 1 rfl (by decide) ?_
  refine q_ldc2 (pc := 3) (v := 7) rfl kc_X9_341 ?_
  refine q_callS (pc := 6) (as := [.long (k.toInt64), .long 1, .long 7]) (rest := []) (st2 := [.int (pB (pWi k 1 7))]) rfl ce_X9_in ml_X9_85 st_X9_in rfl (by decide) (Nat.le_of_ble_eq_true rfl) (sp_X9_inW (v := k) (l := 1) (m := 7) (Int32.toInt_toInt64 _) (by decide) (by decide)) rfl ?_
  refine q_if_eq (pc := 9) 21 rfl (by decide) (fun h9 => ?_) (fun h9 => ?_)
  · refine q_aload_n (pc := 21) (j := 0) rfl rfl ?_
    refine q_ldc (pc := 22) (v := (-2147483001)) rfl kc_X9_109 ?_
    refine q_callV (pc := 24) (as := [.int (-2147483001)]) (rest := []) (b := 70) (st2 := [.int (-2147483000 - nI 1)]) rfl ce_X9_errs ml_X9_110 im_X9_errs se_X9_errs hm.1 rfl rfl rfl (by decide) (Nat.le_of_ble_eq_true rfl) (sp_X9_errs (e := 1) hm (by decide) (by decide)) rfl ?_
    exact q_iret (pc := 27) rfl rfl (mA_no (k := 0) (by rw [oTold, if_neg (show ¬ _ = true from by rw [pB_f h9]; decide)]) fm_rf)
  · obtain ⟨u, hu1, hu2, rfl⟩ := pWi_ab (x := 1) (y := 7) (by decide) (by decide) (pB_t h9)
    refine q_aload_n (pc := 12) (j := 0) rfl rfl ?_
    refine q_get (pc := 13) (a := 70) (v := .ref 73) rfl fl_X9_16 hm.1 rfl rfl ?_
    refine q_iload_n (pc := 16) (j := 1) rfl rfl ?_
    refine q_iald (pc := 17) (a := 73) u rfl hm.2.2.2.1 (vp_in_nI (by omega) (by decide)) (nI_clamp (by omega)) ?_
    refine q_goto (pc := 18) 27 rfl (by decide) ?_
    exact q_iret (pc := 27) rfl rfl (mA_ok (by rw [oTold, if_pos (pB_t h9), tN_nI (show u < 2 ^ 31 by omega)]) fm_rf)
