/-! readers at a known place; Page: written by wip/whole/gen/c13.py -/
theorem rd_nI {α : Type} {z : α} {f : Nat → α} {n k : Nat} (h : k < n) (hn : n < 2 ^ 31) : rd z f n (nI k) = f k := by
  rw [rd, if_pos (by rw [nI_toInt (by omega)]; omega), nI_clamp (by omega)]
theorem wrI_nI {S : PSt} {a n k : Nat} {x : Int32} (h : k < n) (hn : n < 2 ^ 31) : wrI S a n (nI k) x = pSI S a k x := by
  rw [wrI, if_pos (by rw [nI_toInt (by omega)]; omega), nI_clamp (by omega)]
theorem wrF_nI {S : PSt} {a n k : Nat} {x : UInt32} (h : k < n) (hn : n < 2 ^ 31) : wrF S a n (nI k) x = pSF S a k x := by
  rw [wrF, if_pos (by rw [nI_toInt (by omega)]; omega), nI_clamp (by omega)]
theorem wrJ_nI {S : PSt} {a n k : Nat} {x : Int64} (h : k < n) (hn : n < 2 ^ 31) : wrJ S a n (nI k) x = pSJ S a k x := by
  rw [wrJ, if_pos (by rw [nI_toInt (by omega)]; omega), nI_clamp (by omega)]
theorem rdB_nI {S : PSt} {a n k : Nat} (h : k < n) (hn : n < 2 ^ 31) : rdB S a n (nI k) = decide (S.1 a k ≠ 0) := by
  rw [rdB, rd_nI h hn]
theorem sp_readIntN {sh : List PSh} {S : PSt} {a n k : Nat} (hs : sh[a]? = some (.inl (0, n))) (hk : k < n) (hn : n < 2 ^ 31) : pF mX8_readInt 0 [.ref a, .int (nI k)] sh S S (some (.int (S.1 a k))) := by
  have h := sp_X8_readInt (S := S) (i := nI k) hs hn
  rwa [rd_nI hk hn] at h
theorem sp_readFloatN {sh : List PSh} {S : PSt} {a n k : Nat} (hs : sh[a]? = some (.inl (1, n))) (hk : k < n) (hn : n < 2 ^ 31) : pF mX8_readFloat 0 [.ref a, .int (nI k)] sh S S (some (.float (S.2.1 a k))) := by
  have h := sp_X8_readFloat (S := S) (i := nI k) hs hn
  rwa [rd_nI hk hn] at h
theorem sp_readFlagN {sh : List PSh} {S : PSt} {a n k : Nat} (hs : sh[a]? = some (.inl (2, n))) (hk : k < n) (hn : n < 2 ^ 31) : pF mX8_readFlag 0 [.ref a, .int (nI k)] sh S S (some (.int (pB (decide (S.1 a k ≠ 0))))) := by
  have h := sp_X8_readFlag (S := S) (i := nI k) hs hn
  rwa [rdB_nI hk hn] at h
theorem sp_writeIntN {sh : List PSh} {S : PSt} {a n k : Nat} {x : Int32} (hs : sh[a]? = some (.inl (0, n))) (hk : k < n) (hn : n < 2 ^ 31) : pF mX8_writeInt 0 [.ref a, .int (nI k), .int x] sh S (pSI S a k x) none := by
  have h := sp_X8_writeInt (S := S) (i := nI k) (x := x) hs hn
  rwa [wrI_nI hk hn] at h
theorem sp_writeFloatN {sh : List PSh} {S : PSt} {a n k : Nat} {x : UInt32} (hs : sh[a]? = some (.inl (1, n))) (hk : k < n) (hn : n < 2 ^ 31) : pF mX8_writeFloat 0 [.ref a, .int (nI k), .float x] sh S (pSF S a k x) none := by
  have h := sp_X8_writeFloat (S := S) (i := nI k) (x := x) hs hn
  rwa [wrF_nI hk hn] at h
theorem sp_writeFlagN {sh : List PSh} {S : PSt} {a n k : Nat} {x : Int32} (hs : sh[a]? = some (.inl (2, n))) (hk : k < n) (hn : n < 2 ^ 31) (hx : vp_nar .boolean x = x) : pF mX8_writeFlag 0 [.ref a, .int (nI k), .int x] sh S (pSI S a k x) none := by
  have h := sp_X8_writeFlag (S := S) (i := nI k) (x := x) hs hn hx
  rwa [wrI_nI hk hn] at h

/-- the Page at the cell r -/
def isPg (sh : List PSh) (r : Nat) : Prop := sh[r]? = some (.inr (1, [r + 1 + 3, 0, 0, r + 3 + 3, r + 5 + 3, r + 6 + 3])) ∧ isSg sh (r + 1) ∧ isSg sh (r + 3) ∧ sh[r + 5]? = some (.inl (0, 3)) ∧ sh[r + 6]? = some (.inl (0, 3))
theorem pl_ix {s i : Nat} : nI s * 12 + nI i = nI (12 * s + i) := by
  rw [show (12 : Int32) = nI 12 from rfl, pk_mul, nI_add, Nat.mul_comm]
def hasPl (S : PSt) (r s : Nat) (i : Int32) : Bool := decide (S.1 (r + 5) s ≠ -1 ∧ 0 ≤ i.toInt ∧ i.toInt < (S.1 (r + 6) s).toInt)
theorem hasPl_a {S : PSt} {r s : Nat} {i : Int32} (h : S.1 (r + 5) s = -1) : 0 = pB (hasPl S r s i) := by
  rw [hasPl, decide_eq_false (fun q => q.1 h)]; rfl
theorem hasPl_b {S : PSt} {r s : Nat} {i : Int32} (h : i < 0) : 0 = pB (hasPl S r s i) := by
  rw [hasPl, decide_eq_false (fun q => by have := i_lt0 h; omega)]; rfl
theorem hasPl_c {S : PSt} {r s : Nat} {i : Int32} (h : S.1 (r + 6) s ≤ i) : 0 = pB (hasPl S r s i) := by
  rw [Int32.le_iff_toInt_le] at h
  rw [hasPl, decide_eq_false (fun q => by omega)]; rfl
theorem hasPl_d {S : PSt} {r s : Nat} {i : Int32} (h1 : ¬ S.1 (r + 5) s = -1) (h2 : ¬ i < 0) (h3 : ¬ S.1 (r + 6) s ≤ i) : 1 = pB (hasPl S r s i) := by
  rw [Int32.le_iff_toInt_le] at h3
  rw [hasPl, decide_eq_true ⟨h1, i_nlt0 h2, by omega⟩]; rfl
/-- a shelf's kind and size are told, its first k places are empty -/
def clr (S : PSt) (r s : Nat) (x n : Int32) (k : Nat) : PSt := (fun c j => if c = r + 5 ∧ j = s then x else if c = r + 6 ∧ j = s then (if x = -1 then 0 else n) else if c = r + 3 + 1 ∧ 5 * (12 * s) ≤ j ∧ j < 5 * (12 * s + k) then (if (j - 5 * (12 * s)) % 5 = 0 then -1 else 0) else S.1 c j, S.2)
theorem clr_s {S : PSt} {r s : Nat} {x n : Int32} {k : Nat} : ly5 (clr S r s x n k) (r + 3 + 1) (12 * s + k) (-1) 0 0 0 0 = clr S r s x n (k + 1) := by
  unfold ly5 pSI pU clr
  refine Prod.ext (funext fun c => funext fun j => ?_) rfl
  dsimp only
  (repeat' split) <;> first | rfl | (exfalso; omega)
theorem clr_0 {S : PSt} {r s : Nat} {x n : Int32} : pSI (pSI S (r + 5) s x) (r + 6) s (if x = -1 then 0 else n) = clr S r s x n 0 := by
  unfold pSI pU clr
  refine Prod.ext (funext fun c => funext fun j => ?_) rfl
  dsimp only
  (repeat' split) <;> first | rfl | (exfalso; omega)

set_option maxRecDepth 100000 in
theorem sp_X1_place {sh : List PSh} {S : PSt} {s i : Nat} : pF mX1_place 0 [.int (nI s), .int (nI i)] sh S S (some (.int (nI (12 * s + i)))) := by
  refine pF.of (pG.of [some (.int (nI s)), some (.int (nI i))] (by decide) tk_X1_place (Nat.le_of_ble_eq_true rfl) rfl (fun X => ?_))
  refine q_iload_n (pc := 0) (j := 0) rfl rfl ?_
  refine q_bipush (pc := 1) 12 rfl (by decide) ?_
  refine q_imul (pc := 3) rfl ?_
  refine q_iload_n (pc := 4) (j := 1) rfl rfl ?_
  refine q_iadd (pc := 5) rfl ?_
  refine q_st (st2 := [.int (nI (12 * s + i))]) (by rw [pl_ix]) ?_
  exact q_iret (pc := 6) rfl rfl ⟨rfl, rfl⟩
set_option maxRecDepth 100000 in
theorem sp_X1_shelfKind {sh : List PSh} {S : PSt} {r : Nat} (hs : isPg sh r) {s : Nat} (hq : s < 3) : pF mX1_shelfKind 1 [.ref r, .int (nI s)] sh S S (some (.int (S.1 (r + 5) s))) := by
  refine pF.of (pG.of [some (.ref r), some (.int (nI s))] (by decide) tk_X1_shelfKind (Nat.le_of_ble_eq_true rfl) rfl (fun X => ?_))
  refine q_aload_n (pc := 0) (j := 0) rfl rfl ?_
  refine q_get (pc := 1) (a := r) (v := .ref (r + 5)) rfl fl_X1_28 hs.1 rfl rfl ?_
  refine q_iload_n (pc := 4) (j := 1) rfl rfl ?_
  refine q_callS (pc := 5) (as := [.ref (r + 5), .int (nI s)]) (rest := []) (st2 := [.int (S.1 (r + 5) s)]) rfl ce_X8_readInt ml_X1_35 st_X8_readInt rfl (by decide) (Nat.le_of_ble_eq_true rfl) (sp_readIntN (k := s) hs.2.2.2.1 (by omega) (by decide)) rfl ?_
  exact q_iret (pc := 8) rfl rfl ⟨rfl, rfl⟩
set_option maxRecDepth 100000 in
theorem sp_X1_hasPlace {sh : List PSh} {S : PSt} {r : Nat} (hs : isPg sh r) {s : Nat} {i : Int32} (hq : s < 3) : pF mX1_hasPlace 2 [.ref r, .int (nI s), .int i] sh S S (some (.int (pB (hasPl S r s i)))) := by
  refine pF.of (pG.of [some (.ref r), some (.int (nI s)), some (.int i)] (by decide) tk_X1_hasPlace (Nat.le_of_ble_eq_true rfl) rfl (fun X => ?_))
  refine q_aload_n (pc := 0) (j := 0) rfl rfl ?_
  refine q_iload_n (pc := 1) (j := 1) rfl rfl ?_
  refine q_callV (pc := 2) (as := [.int (nI s)]) (rest := []) (b := r) (st2 := [.int (S.1 (r + 5) s)]) rfl ce_X1_shelfKind ml_X1_39 im_X1_shelfKind se_X1_shelfKind hs.1 rfl rfl rfl (by decide) (Nat.le_of_ble_eq_true rfl) (sp_X1_shelfKind (s := s) hs (by omega)) rfl ?_
  refine q_iconst (pc := 5) (-1) rfl (by decide) ?_
  refine q_icmp_eq (pc := 6) 29 rfl (by decide) (fun h6 => ?_) (fun h6 => ?_)
  · refine q_iconst (pc := 29) 0 rfl (by decide) ?_
    exact q_zret (pc := 30) rfl rfl rfl ⟨congrArg (fun v => some (Value.int v)) (by first | exact hasPl_a h6 | exact hasPl_b h10 | exact hasPl_c h22 | exact hasPl_d h6 h10 h22), rfl⟩
  · refine q_iload_n (pc := 9) (j := 2) rfl rfl ?_
    refine q_if_lt (pc := 10) 29 rfl (by decide) (fun h10 => ?_) (fun h10 => ?_)
    · refine q_iconst (pc := 29) 0 rfl (by decide) ?_
      exact q_zret (pc := 30) rfl rfl rfl ⟨congrArg (fun v => some (Value.int v)) (by first | exact hasPl_a h6 | exact hasPl_b h10 | exact hasPl_c h22 | exact hasPl_d h6 h10 h22), rfl⟩
    · refine q_iload_n (pc := 13) (j := 2) rfl rfl ?_
      refine q_aload_n (pc := 14) (j := 0) rfl rfl ?_
      refine q_get (pc := 15) (a := r) (v := .ref (r + 6)) rfl fl_X1_32 hs.1 rfl rfl ?_
      refine q_iload_n (pc := 18) (j := 1) rfl rfl ?_
      refine q_callS (pc := 19) (as := [.ref (r + 6), .int (nI s)]) (rest := [.int i]) (st2 := [.int (S.1 (r + 6) s), .int i]) rfl ce_X8_readInt ml_X1_35 st_X8_readInt rfl (by decide) (Nat.le_of_ble_eq_true rfl) (sp_readIntN (k := s) hs.2.2.2.2 (by omega) (by decide)) rfl ?_
      refine q_icmp_ge (pc := 22) 29 rfl (by decide) (fun h22 => ?_) (fun h22 => ?_)
      · refine q_iconst (pc := 29) 0 rfl (by decide) ?_
        exact q_zret (pc := 30) rfl rfl rfl ⟨congrArg (fun v => some (Value.int v)) (by first | exact hasPl_a h6 | exact hasPl_b h10 | exact hasPl_c h22 | exact hasPl_d h6 h10 h22), rfl⟩
      · refine q_iconst (pc := 25) 1 rfl (by decide) ?_
        refine q_goto (pc := 26) 30 rfl (by decide) ?_
        exact q_zret (pc := 30) rfl rfl rfl ⟨congrArg (fun v => some (Value.int v)) (by first | exact hasPl_a h6 | exact hasPl_b h10 | exact hasPl_c h22 | exact hasPl_d h6 h10 h22), rfl⟩
set_option maxRecDepth 100000 in
theorem lp_X1_clearShelf {n0 : Nat} {X : Nat × (Nat → Int32)} {P : Option Value → PSt → Prop} {d : Nat} (hd9 : 3 ≤ d) {sh : List PSh} {S : PSt} {r : Nat} (hs : isPg sh r) {s : Nat} {x n : Int32} (hq : s < 3) (hex : pV mX1_clearShelf d n0 X sh P 56 [some (.ref r), some (.int (nI s)), some (.int x), some (.int n), some (.int (nI 12))] [] (clr S r s x n 12)) : ∀ (m k : Nat), k + m = 12 → pV mX1_clearShelf d n0 X sh P 30 [some (.ref r), some (.int (nI s)), some (.int x), some (.int n), some (.int (nI k))] [] (clr S r s x n k) := by
  intro m
  induction m with
  | zero =>
    intro k hk
    have hk : k = 12 := by omega
    subst hk
    refine q_iload (pc := 30) (j := 4) rfl rfl ?_
    refine q_bipush (pc := 32) 12 rfl (by decide) ?_
    exact q_icmp_ge (pc := 34) 56 rfl (by decide) (fun _ => hex) (fun h9 => absurd (Int32.le_refl _) h9)
  | succ m ih =>
    intro k hk
    have hk1 : k < 12 := by omega
    refine q_iload (pc := 30) (j := 4) rfl rfl ?_
    refine q_bipush (pc := 32) 12 rfl (by decide) ?_
    refine q_icmp_ge (pc := 34) 56 rfl (by decide) (fun h9 => absurd h9 (nI_ge (b := 12) hk1 (by decide))) (fun _ => ?_)
    refine q_aload_n (pc := 37) (j := 0) rfl rfl ?_
    refine q_get (pc := 38) (a := r) (v := .ref (r + 3)) rfl fl_X1_25 hs.1 rfl rfl ?_
    refine q_iload_n (pc := 41) (j := 1) rfl rfl ?_
    refine q_iload (pc := 42) (j := 4) rfl rfl ?_
    refine q_callS (pc := 44) (as := [.int (nI s), .int (nI k)]) (rest := [.ref (r + 3)]) (st2 := [.int (nI (12 * s + k)), .ref (r + 3)]) rfl ce_X1_place ml_X1_47 st_X1_place rfl (by omega) (Nat.le_of_ble_eq_true rfl) (sp_X1_place (s := s) (i := k)) rfl ?_
    refine q_callV (pc := 47) (as := [.int (nI (12 * s + k))]) (rest := []) (b := (r + 3)) (st2 := []) rfl ce_X4_clear ml_X1_51 im_X4_clear se_X4_clear hs.2.2.1.1 rfl rfl rfl (by omega) (Nat.le_of_ble_eq_true rfl) (sp_X4_clear (c := (12 * s + k)) hs.2.2.1 (by omega)) rfl ?_
    refine q_iinc (pc := 50) (j := 4) (n := 1) (nI (k + 1)) [some (.ref r), some (.int (nI s)), some (.int x), some (.int n), some (.int (nI (k + 1)))] rfl (by decide) rfl (nI_1 k) rfl ?_
    refine q_goto (pc := 53) 30 rfl (by decide) ?_
    exact q_S clr_s (ih (k + 1) (by omega))
set_option maxRecDepth 100000 in
theorem sp_X1_clearShelf {sh : List PSh} {S : PSt} {r : Nat} (hs : isPg sh r) {s : Nat} {x n : Int32} (hq : s < 3) : pF mX1_clearShelf 3 [.ref r, .int (nI s), .int x, .int n] sh S (clr S r s x n 12) (none) := by
  refine pF.of (pG.of [some (.ref r), some (.int (nI s)), some (.int x), some (.int n), none] (by decide) tk_X1_clearShelf (Nat.le_of_ble_eq_true rfl) rfl (fun X => ?_))
  refine q_aload_n (pc := 0) (j := 0) rfl rfl ?_
  refine q_get (pc := 1) (a := r) (v := .ref (r + 5)) rfl fl_X1_28 hs.1 rfl rfl ?_
  refine q_iload_n (pc := 4) (j := 1) rfl rfl ?_
  refine q_iload_n (pc := 5) (j := 2) rfl rfl ?_
  refine q_callS (pc := 6) (as := [.ref (r + 5), .int (nI s), .int x]) (rest := []) (st2 := []) rfl ce_X8_writeInt ml_X1_43 st_X8_writeInt rfl (by decide) (Nat.le_of_ble_eq_true rfl) (sp_writeIntN (k := s) hs.2.2.2.1 (by omega) (by decide)) rfl ?_
  refine q_aload_n (pc := 9) (j := 0) rfl rfl ?_
  refine q_get (pc := 10) (a := r) (v := .ref (r + 6)) rfl fl_X1_32 hs.1 rfl rfl ?_
  refine q_iload_n (pc := 13) (j := 1) rfl rfl ?_
  refine q_iload_n (pc := 14) (j := 2) rfl rfl ?_
  refine q_iconst (pc := 15) (-1) rfl (by decide) ?_
  refine q_join 24 [some (.ref r), some (.int (nI s)), some (.int x), some (.int n), none] [.int (if x = -1 then 0 else n), .int (nI s), .ref (r + 6)] (pSI S (r + 5) s x) ?_ (fun key16 => ?_)
  · refine q_callS (pc := 24) (as := [.ref (r + 6), .int (nI s), .int (if x = -1 then 0 else n)]) (rest := []) (st2 := []) rfl ce_X8_writeInt ml_X1_43 st_X8_writeInt rfl (by decide) (Nat.le_of_ble_eq_true rfl) (sp_writeIntN (k := s) hs.2.2.2.2 (by omega) (by decide)) rfl ?_
    refine q_iconst (pc := 27) 0 rfl (by decide) ?_
    refine q_istore (pc := 28) (j := 4) [some (.ref r), some (.int (nI s)), some (.int x), some (.int n), some (.int 0)] rfl (by decide) rfl ?_
    refine q_S clr_0 (lp_X1_clearShelf (Nat.le_refl _) hs hq ?_ 12 0 rfl)
    exact q_vret (pc := 56) rfl rfl ⟨rfl, rfl⟩
  · refine q_icmp_ne (pc := 16) 23 rfl (by decide) (fun h16 => ?_) (fun h16 => ?_)
    · refine q_iload_n (pc := 23) (j := 3) rfl rfl ?_
      first | exact q_st (by rw [if_pos h16]) key16 | exact q_st (by rw [if_neg h16]) key16
    · refine q_iconst (pc := 19) 0 rfl (by decide) ?_
      refine q_goto (pc := 20) 24 rfl (by decide) ?_
      first | exact q_st (by rw [if_pos h16]) key16 | exact q_st (by rw [if_neg h16]) key16
def pgB (S : PSt) (r b : Nat) : PSt := (cpI (cpI (cpI (pSI (pSI (cpI S ((b + 1) + 1) ((r + 1) + 1) 180) r 1 ((cpI S ((b + 1) + 1) ((r + 1) + 1) 180).1 b 1)) r 2 ((pSI (cpI S ((b + 1) + 1) ((r + 1) + 1) 180) r 1 ((cpI S ((b + 1) + 1) ((r + 1) + 1) 180).1 b 1)).1 b 2)) ((b + 3) + 1) ((r + 3) + 1) 180) (b + 5) (r + 5) 3) (b + 6) (r + 6) 3)
set_option maxRecDepth 100000 in
theorem sp_X1_become {sh : List PSh} {S : PSt} {r : Nat} (hs : isPg sh r) {b : Nat} (hb : isPg sh b) (hbr : b + 7 ≤ r ∨ r + 7 ≤ b) : pF mX1_become 2 [.ref r, .ref b] sh S (pgB S r b) (none) := by
  refine pF.of (pG.of [some (.ref r), some (.ref b)] (by decide) tk_X1_become (Nat.le_of_ble_eq_true rfl) rfl (fun X => ?_))
  refine q_aload_n (pc := 0) (j := 1) rfl rfl ?_
  refine q_ifnonnull (pc := 1) 5 rfl (by decide) ?_
  refine q_aload_n (pc := 5) (j := 0) rfl rfl ?_
  refine q_get (pc := 6) (a := r) (v := .ref (r + 1)) rfl fl_X1_12 hs.1 rfl rfl ?_
  refine q_aload_n (pc := 9) (j := 1) rfl rfl ?_
  refine q_get (pc := 10) (a := b) (v := .ref (b + 1)) rfl fl_X1_12 hb.1 rfl rfl ?_
  refine q_callV (pc := 13) (as := [.ref (b + 1)]) (rest := []) (b := (r + 1)) (st2 := []) rfl ce_X4_become ml_X1_63 im_X4_become se_X4_become hs.2.1.1 rfl rfl rfl (by decide) (Nat.le_of_ble_eq_true rfl) (sp_X4_become hs.2.1 hb.2.1 (by omega)) rfl ?_
  refine q_aload_n (pc := 16) (j := 0) rfl rfl ?_
  refine q_aload_n (pc := 17) (j := 1) rfl rfl ?_
  refine q_get (pc := 18) (a := b) (v := .int ((cpI S ((b + 1) + 1) ((r + 1) + 1) 180).1 b 1)) rfl fl_X1_18 hb.1 rfl rfl ?_
  refine q_putI (pc := 21) (a := r) rfl fl_X1_18 hs.1 rfl (fun _ h9 => by cases h9; rfl) rfl rfl ?_
  refine q_aload_n (pc := 24) (j := 0) rfl rfl ?_
  refine q_aload_n (pc := 25) (j := 1) rfl rfl ?_
  refine q_get (pc := 26) (a := b) (v := .int ((pSI (cpI S ((b + 1) + 1) ((r + 1) + 1) 180) r 1 ((cpI S ((b + 1) + 1) ((r + 1) + 1) 180).1 b 1)).1 b 2)) rfl fl_X1_22 hb.1 rfl rfl ?_
  refine q_putI (pc := 29) (a := r) rfl fl_X1_22 hs.1 rfl (fun _ h9 => by cases h9; rfl) rfl rfl ?_
  refine q_aload_n (pc := 32) (j := 0) rfl rfl ?_
  refine q_get (pc := 33) (a := r) (v := .ref (r + 3)) rfl fl_X1_25 hs.1 rfl rfl ?_
  refine q_aload_n (pc := 36) (j := 1) rfl rfl ?_
  refine q_get (pc := 37) (a := b) (v := .ref (b + 3)) rfl fl_X1_25 hb.1 rfl rfl ?_
  refine q_callV (pc := 40) (as := [.ref (b + 3)]) (rest := []) (b := (r + 3)) (st2 := []) rfl ce_X4_become ml_X1_63 im_X4_become se_X4_become hs.2.2.1.1 rfl rfl rfl (by decide) (Nat.le_of_ble_eq_true rfl) (sp_X4_become hs.2.2.1 hb.2.2.1 (by omega)) rfl ?_
  refine q_aload_n (pc := 43) (j := 1) rfl rfl ?_
  refine q_get (pc := 44) (a := b) (v := .ref (b + 5)) rfl fl_X1_28 hb.1 rfl rfl ?_
  refine q_aload_n (pc := 47) (j := 0) rfl rfl ?_
  refine q_get (pc := 48) (a := r) (v := .ref (r + 5)) rfl fl_X1_28 hs.1 rfl rfl ?_
  refine q_callS (pc := 51) (as := [.ref (b + 5), .ref (r + 5)]) (rest := []) (st2 := []) rfl ce_X8_copy ml_X1_67 st_X8_copy rfl (by decide) (Nat.le_of_ble_eq_true rfl) (sp_X8_copy hb.2.2.2.1 hs.2.2.2.1 (by omega) (by decide)) rfl ?_
  refine q_aload_n (pc := 54) (j := 1) rfl rfl ?_
  refine q_get (pc := 55) (a := b) (v := .ref (b + 6)) rfl fl_X1_32 hb.1 rfl rfl ?_
  refine q_aload_n (pc := 58) (j := 0) rfl rfl ?_
  refine q_get (pc := 59) (a := r) (v := .ref (r + 6)) rfl fl_X1_32 hs.1 rfl rfl ?_
  refine q_callS (pc := 62) (as := [.ref (b + 6), .ref (r + 6)]) (rest := []) (st2 := []) rfl ce_X8_copy ml_X1_67 st_X8_copy rfl (by decide) (Nat.le_of_ble_eq_true rfl) (sp_X8_copy hb.2.2.2.2 hs.2.2.2.2 (by omega) (by decide)) rfl ?_
  exact q_vret (pc := 65) rfl rfl ⟨rfl, rfl⟩
