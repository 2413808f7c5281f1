/-! constructors: rules over cells behind the ones that there are: sh0 ++ l, b = the first of l -/
/-- nothing but noughts from n on -/
def zS (S : PSt) (n : Nat) : Prop := ∀ x, n ≤ x → ∀ j, S.1 x j = 0 ∧ S.2.1 x j = 0 ∧ S.2.2.1 x j = 0 ∧ S.2.2.2 x j = 0
theorem zS_m {S : PSt} {n m : Nat} (h : zS S n) (hm : n ≤ m) : zS S m := fun x hx => h x (Nat.le_trans hm hx)
theorem pSI_ne {S : PSt} {a j c : Nat} {v : Int32} (h : c ≠ a) : (pSI S a j v).1 c = S.1 c := (pU_ne h : pU S.1 a j v c = S.1 c)
theorem zS_I {S : PSt} {n k j : Nat} {v : Int32} (h : zS S n) (hk : k < n) : zS (pSI S k j v) n := fun x hx i => by
  have e : (pSI S k j v).1 x = S.1 x := pSI_ne (by omega)
  rw [e]
  exact h x hx i
theorem sz_eq {S : PSt} {n : Nat} (h : zS S n) : pSZ S n = S := by
  have g := h n (Nat.le_refl n)
  unfold pSZ
  refine Prod.ext ?_ (Prod.ext ?_ (Prod.ext ?_ ?_)) <;> funext a b <;> dsimp only
  · by_cases e : a = n
    · rw [if_pos e, e, (g b).1]
    · rw [if_neg e]
  · by_cases e : a = n
    · rw [if_pos e, e, (g b).2.1]
    · rw [if_neg e]
  · by_cases e : a = n
    · rw [if_pos e, e, (g b).2.2.1]
    · rw [if_neg e]
  · by_cases e : a = n
    · rw [if_pos e, e, (g b).2.2.2]
    · rw [if_neg e]
theorem pSI_0 {S : PSt} {k j : Nat} {v : Int32} (h : S.1 k j = v) : pSI S k j v = S := by
  refine Prod.ext ?_ rfl
  funext a b
  show (if a = k ∧ b = j then v else S.1 a b) = S.1 a b
  by_cases e : a = k ∧ b = j
  · rw [if_pos e, e.1, e.2, h]
  · rw [if_neg e]
theorem pSF_0 {S : PSt} {k j : Nat} {v : UInt32} (h : S.2.1 k j = v) : pSF S k j v = S := by
  refine Prod.ext rfl (Prod.ext ?_ rfl)
  funext a b
  show (if a = k ∧ b = j then v else S.2.1 a b) = S.2.1 a b
  by_cases e : a = k ∧ b = j
  · rw [if_pos e, e.1, e.2, h]
  · rw [if_neg e]
theorem app_at {sh0 l : List PSh} {b k : Nat} {e : PSh} (hb : sh0.length = b) (h : l[k]? = some e) : (sh0 ++ l)[b + k]? = some e := by
  rw [List.getElem?_append_right (by omega), show b + k - sh0.length = k by omega, h]
theorem app_at0 {sh0 l : List PSh} {b : Nat} {e : PSh} (hb : sh0.length = b) (h : l[0]? = some e) : (sh0 ++ l)[b]? = some e := app_at (k := 0) hb h
section CTOR
variable {M : PM} {d mc ms n0 : Nat} {X : Nat × (Nat → Int32)} {Q : PQ} {pc : Nat} {L : PL} {kc ks : Nat} {sh0 l : List PSh} {S : PSt} {b : Nat}
theorem c_st1 {r : Nat} {sh : List PSh} (h : sh.length = r) (hbr : b ≠ r) : ([.ref b] : List Value).all (pNoR sh.length) = true := by
  rw [h]
  simp [pNoR, hbr]
theorem c_newa {t : Nat} (r : Nat) (l2 : List PSh) {x : Int32} {n : Nat}
    (rule : ∀ (st : List Value), (sh0 ++ l).length + 1 < 1000 → st.all (pNoR (sh0 ++ l).length) = true → L.all (pNoL (sh0 ++ l).length) = true → pWP M d mc ms n0 X Q (pc + 2) L (.ref (sh0 ++ l).length :: st) (kc + 1) (ks + n) ((sh0 ++ l) ++ [.inl (t, n)]) (pSZ S (sh0 ++ l).length) → pWP M d mc ms n0 X Q pc L (.int x :: st) kc ks (sh0 ++ l) S)
    (hb : sh0.length = b) (hr : b + l.length = r) (hl : l ++ [.inl (t, n)] = l2) (h1 : b < 100) (h2 : r < 900) (hbr : b ≠ r) (hL : L.all (pNoL r) = true) (hz : zS S r)
    (k : pWP M d mc ms n0 X Q (pc + 2) L [.ref r, .ref b] (kc + 1) (ks + n) (sh0 ++ l2) S) : pWP M d mc ms n0 X Q pc L [.int x, .ref b] kc ks (sh0 ++ l) S := by
  have e : (sh0 ++ l).length = r := by rw [List.length_append]; omega
  refine rule [.ref b] (by omega) (c_st1 e hbr) (by rw [e]; exact hL) ?_
  rw [e, List.append_assoc, hl, sz_eq hz]
  exact k
theorem c_newa0 (r : Nat) (l2 : List PSh) {x : Int32} {n : Nat} (hi : pLook M.2.2.2.2 pc = some (.newarray .int, 2)) (hx : ¬ x < 0) (hn : x.toNatClampNeg = n) (hnb : n * 8 ≤ 536870912) (hm : kc + 1 ≤ mc ∧ ks + n ≤ ms)
    (hb : sh0.length = b) (hr : b + l.length = r) (hl : l ++ [.inl (0, n)] = l2) (h1 : b < 100) (h2 : r < 900) (hbr : b ≠ r) (hL : L.all (pNoL r) = true) (hz : zS S r)
    (k : pWP M d mc ms n0 X Q (pc + 2) L [.ref r, .ref b] (kc + 1) (ks + n) (sh0 ++ l2) S) : pWP M d mc ms n0 X Q pc L [.int x, .ref b] kc ks (sh0 ++ l) S :=
  c_newa r l2 (fun st a1 a2 a3 k => pr_newa0 hi ac_int hx hn hnb a1 a2 a3 hm k) hb hr hl h1 h2 hbr hL hz k
theorem c_newa1 (r : Nat) (l2 : List PSh) {x : Int32} {n : Nat} (hi : pLook M.2.2.2.2 pc = some (.newarray .float, 2)) (hx : ¬ x < 0) (hn : x.toNatClampNeg = n) (hnb : n * 8 ≤ 536870912) (hm : kc + 1 ≤ mc ∧ ks + n ≤ ms)
    (hb : sh0.length = b) (hr : b + l.length = r) (hl : l ++ [.inl (1, n)] = l2) (h1 : b < 100) (h2 : r < 900) (hbr : b ≠ r) (hL : L.all (pNoL r) = true) (hz : zS S r)
    (k : pWP M d mc ms n0 X Q (pc + 2) L [.ref r, .ref b] (kc + 1) (ks + n) (sh0 ++ l2) S) : pWP M d mc ms n0 X Q pc L [.int x, .ref b] kc ks (sh0 ++ l) S :=
  c_newa r l2 (fun st a1 a2 a3 k => pr_newa1 hi ac_float hx hn hnb a1 a2 a3 hm k) hb hr hl h1 h2 hbr hL hz k
theorem c_newa2 (r : Nat) (l2 : List PSh) {x : Int32} {n : Nat} (hi : pLook M.2.2.2.2 pc = some (.newarray .boolean, 2)) (hx : ¬ x < 0) (hn : x.toNatClampNeg = n) (hnb : n * 8 ≤ 536870912) (hm : kc + 1 ≤ mc ∧ ks + n ≤ ms)
    (hb : sh0.length = b) (hr : b + l.length = r) (hl : l ++ [.inl (2, n)] = l2) (h1 : b < 100) (h2 : r < 900) (hbr : b ≠ r) (hL : L.all (pNoL r) = true) (hz : zS S r)
    (k : pWP M d mc ms n0 X Q (pc + 2) L [.ref r, .ref b] (kc + 1) (ks + n) (sh0 ++ l2) S) : pWP M d mc ms n0 X Q pc L [.int x, .ref b] kc ks (sh0 ++ l) S :=
  c_newa r l2 (fun st a1 a2 a3 k => pr_newa2 hi ac_boolean hx hn hnb a1 a2 a3 hm k) hb hr hl h1 h2 hbr hL hz k
theorem c_newa3 (r : Nat) (l2 : List PSh) {x : Int32} {n : Nat} (hi : pLook M.2.2.2.2 pc = some (.newarray .long, 2)) (hx : ¬ x < 0) (hn : x.toNatClampNeg = n) (hnb : n * 8 ≤ 536870912) (hm : kc + 1 ≤ mc ∧ ks + n ≤ ms)
    (hb : sh0.length = b) (hr : b + l.length = r) (hl : l ++ [.inl (3, n)] = l2) (h1 : b < 100) (h2 : r < 900) (hbr : b ≠ r) (hL : L.all (pNoL r) = true) (hz : zS S r)
    (k : pWP M d mc ms n0 X Q (pc + 2) L [.ref r, .ref b] (kc + 1) (ks + n) (sh0 ++ l2) S) : pWP M d mc ms n0 X Q pc L [.int x, .ref b] kc ks (sh0 ++ l) S :=
  c_newa r l2 (fun st a1 a2 a3 k => pr_newa3 hi ac_long hx hn hnb a1 a2 a3 hm k) hb hr hl h1 h2 hbr hL hz k
theorem c_new {idx cI : Nat} {qc : vw_C} {fs : List Nat} (r : Nat) (l2 : List PSh) (hi : pLook M.2.2.2.2 pc = some (.new idx, 3)) (hcl : vwCl[cI]? = some qc) (hlink : Cond.classLink M.1.cls idx qc.1 ∈ pGood) (hinst : Cond.instantiable qc.1 qc.2.2 ∈ pGood) (hini : Cond.initialized qc.1 ∈ pGood) (hfs : ∀ j, j < qc.2.2 → defaultValue (pTyp cI j) = vp_V (fs.map pDef) j) (hf2 : ∀ f ∈ fs, f ≤ 2) (hm : kc + 1 ≤ mc ∧ ks + qc.2.2 ≤ ms)
    (hb : sh0.length = b) (hr : b + l.length = r) (hl : l ++ [.inr (cI, fs)] = l2) (h1 : b < 100) (h2 : r < 900) (hbr : b ≠ r) (hL : L.all (pNoL r) = true) (hz : zS S r)
    (k : pWP M d mc ms n0 X Q (pc + 3) L [.ref r, .ref b] (kc + 1) (ks + qc.2.2) (sh0 ++ l2) S) : pWP M d mc ms n0 X Q pc L [.ref b] kc ks (sh0 ++ l) S := by
  have e : (sh0 ++ l).length = r := by rw [List.length_append]; omega
  refine pr_new hi hcl hlink hinst hini hfs hf2 (by omega) (c_st1 e hbr) (by rw [e]; exact hL) hm ?_
  rw [e, List.append_assoc, hl, sz_eq hz]
  exact k
theorem c_call {M1 : PM} {idx d1 mc1 ms1 : Nat} {S2 : PSt} (r : Nat) (l2 : List PSh) (hi : pLook M.2.2.2.2 pc = some (.invokespecial idx, 3)) (hce : pCallee M1 0) (hml : pML M.1.cls idx M1) (hin : Cond.instanceMethod M1.1 ∈ pGood) (hnm : M1.1.name = "<init>") (hrt : M1.2.2.2.1 = none) (hd : d1 + 1 ≤ d) (hm : kc + mc1 ≤ mc ∧ ks + ms1 ≤ ms)
    (hb : sh0.length = b) (h1 : b < 100) (hr : r < b + l.length) (hbl : b < b + l.length) (h2 : l2.length < 800) (hL : L.all (pOldL (b + l.length)) = true)
    (hsp : pSpec M1 d1 mc1 ms1 [.ref r] X (sh0 ++ l) S (pR (sh0 ++ l2) S2 none))
    (k : pWP M d mc ms n0 X Q (pc + 3) L [.ref r, .ref b] (kc + mc1) (ks + ms1) (sh0 ++ l2) S2) : pWP M d mc ms n0 X Q pc L [.ref r, .ref r, .ref b] kc ks (sh0 ++ l) S := by
  have e : (sh0 ++ l).length = b + l.length := by rw [List.length_append, hb]
  refine pr_callI (as := []) (rest := [.ref r, .ref b]) hi hce hml hin hnm hrt rfl hd (Nat.le_of_ble_eq_true rfl) hm hsp (fun r9 sh9 S9 h9 => ?_) (fun r9 sh9 S9 h9 => ?_)
  · obtain ⟨-, rfl, -⟩ := h9
    refine pSameN (by rw [List.length_append]; omega) ?_ (by rw [e]; exact hL)
    rw [e]
    simp only [List.all_cons, List.all_nil, pOld, Bool.and_true, Bool.and_eq_true, Bool.or_eq_true, decide_eq_true_eq]
    exact ⟨Or.inl hr, Or.inl hbl⟩
  · obtain ⟨rfl, rfl, rfl⟩ := h9
    exact k
theorem c_putR {c j idx : Nat} {fs : List Nat} (r : Nat) (l2 : List PSh) (hi : pLook M.2.2.2.2 pc = some (.putfield idx, 3)) (hF : pFL M.1.cls idx c j) (hb : sh0.length = b) (hs : l[0]? = some (.inr (c, fs))) (hj : j < fs.length)
    (hfin : ∀ q, vwCl[c]? = some q → (q.2.1 j).2.2.2 = false ∨ ((q.2.1 j).2.2.2 = true ∧ q.1 = M.1.cls ∧ M.1.name = "<init>" ∧ Cond.fieldLink M.1.cls idx (q.2.1 j).1 (q.2.1 j).2.1 (q.2.1 j).2.2.1 ∈ pGood))
    (hn : ∀ b : Nat, narrow (pTyp c j) (.ref b) = .ref b) (hfit : ∀ b : Nat, fits (pTyp c j) (.ref b) = true) (hr : r < b + l.length) (hl : l.set 0 (.inr (c, fs.set j (r + 3))) = l2) (k : pWP M d mc ms n0 X Q (pc + 3) L [] kc ks (sh0 ++ l2) S) : pWP M d mc ms n0 X Q pc L [.ref r, .ref b] kc ks (sh0 ++ l) S := by
  refine pr_putR hi hF (app_at0 hb hs) hj hfin hn hfit (by rw [List.length_append]; omega) ?_
  rw [List.set_append_right _ _ (by omega), show b - sh0.length = 0 by omega, hl]
  exact k
theorem c_putI {c j idx : Nat} {fs : List Nat} {x : Int32} (hi : pLook M.2.2.2.2 pc = some (.putfield idx, 3)) (hF : pFL M.1.cls idx c j) (hb : sh0.length = b) (hs : l[0]? = some (.inr (c, fs))) (hf : fs[j]? = some 0)
    (hfin : ∀ q, vwCl[c]? = some q → (q.2.1 j).2.2.2 = false ∨ ((q.2.1 j).2.2.2 = true ∧ q.1 = M.1.cls ∧ M.1.name = "<init>" ∧ Cond.fieldLink M.1.cls idx (q.2.1 j).1 (q.2.1 j).2.1 (q.2.1 j).2.2.1 ∈ pGood))
    (hn : narrow (pTyp c j) (.int x) = .int x) (hfit : fits (pTyp c j) (.int x) = true) (k : pWP M d mc ms n0 X Q (pc + 3) L [] kc ks (sh0 ++ l) (pSI S b j x)) : pWP M d mc ms n0 X Q pc L [.int x, .ref b] kc ks (sh0 ++ l) S :=
  pr_putI hi hF (app_at0 hb hs) hf hfin hn hfit k
theorem c_putI0 {c j idx : Nat} {fs : List Nat} {x : Int32} (hi : pLook M.2.2.2.2 pc = some (.putfield idx, 3)) (hF : pFL M.1.cls idx c j) (hb : sh0.length = b) (hs : l[0]? = some (.inr (c, fs))) (hf : fs[j]? = some 0)
    (hfin : ∀ q, vwCl[c]? = some q → (q.2.1 j).2.2.2 = false ∨ ((q.2.1 j).2.2.2 = true ∧ q.1 = M.1.cls ∧ M.1.name = "<init>" ∧ Cond.fieldLink M.1.cls idx (q.2.1 j).1 (q.2.1 j).2.1 (q.2.1 j).2.2.1 ∈ pGood))
    (hn : narrow (pTyp c j) (.int x) = .int x) (hfit : fits (pTyp c j) (.int x) = true) (h0 : S.1 b j = x) (k : pWP M d mc ms n0 X Q (pc + 3) L [] kc ks (sh0 ++ l) S) : pWP M d mc ms n0 X Q pc L [.int x, .ref b] kc ks (sh0 ++ l) S :=
  pr_putI hi hF (app_at0 hb hs) hf hfin hn hfit (by rw [pSI_0 h0]; exact k)
theorem c_putF0 {c j idx : Nat} {fs : List Nat} {x : UInt32} (hi : pLook M.2.2.2.2 pc = some (.putfield idx, 3)) (hF : pFL M.1.cls idx c j) (hb : sh0.length = b) (hs : l[0]? = some (.inr (c, fs))) (hf : fs[j]? = some 1)
    (hfin : ∀ q, vwCl[c]? = some q → (q.2.1 j).2.2.2 = false ∨ ((q.2.1 j).2.2.2 = true ∧ q.1 = M.1.cls ∧ M.1.name = "<init>" ∧ Cond.fieldLink M.1.cls idx (q.2.1 j).1 (q.2.1 j).2.1 (q.2.1 j).2.2.1 ∈ pGood))
    (hn : narrow (pTyp c j) (.float x) = .float x) (hfit : fits (pTyp c j) (.float x) = true) (h0 : S.2.1 b j = x) (k : pWP M d mc ms n0 X Q (pc + 3) L [] kc ks (sh0 ++ l) S) : pWP M d mc ms n0 X Q pc L [.float x, .ref b] kc ks (sh0 ++ l) S :=
  pr_putF hi hF (app_at0 hb hs) hf hfin hn hfit (by rw [pSF_0 h0]; exact k)
theorem c_iast {p n : Nat} {i x : Int32} {st : List Value} (w : Nat) (hi : pLook M.2.2.2.2 pc = some (.iastore, 1)) (hb : sh0.length = b) (hs : l[p]? = some (.inl (0, n))) (hin : vp_in i n) (hw : i.toNatClampNeg = w) (k : pWP M d mc ms n0 X Q (pc + 1) L st kc ks (sh0 ++ l) (pSI S (b + p) w x)) : pWP M d mc ms n0 X Q pc L (.int x :: .int i :: .ref (b + p) :: st) kc ks (sh0 ++ l) S := by
  subst hw
  exact pr_iast hi (app_at hb hs) hin k
theorem c_iast0 {p n : Nat} {i x : Int32} {st : List Value} (w : Nat) (hi : pLook M.2.2.2.2 pc = some (.iastore, 1)) (hb : sh0.length = b) (hs : l[p]? = some (.inl (0, n))) (hin : vp_in i n) (hw : i.toNatClampNeg = w) (h0 : S.1 (b + p) w = x) (k : pWP M d mc ms n0 X Q (pc + 1) L st kc ks (sh0 ++ l) S) : pWP M d mc ms n0 X Q pc L (.int x :: .int i :: .ref (b + p) :: st) kc ks (sh0 ++ l) S := by
  subst hw
  exact pr_iast hi (app_at hb hs) hin (by rw [pSI_0 h0]; exact k)
end CTOR
