/-! THE PURE MACHINE: the program's cells by their order (a reference is the number of a cell), a list of shapes and four rows of contents;
    'pWP' says of a method at a pc that it comes to its end; one rule an instruction, each proved from the kit's row once for all. -/
/-- a shape: an array (type 0 int, 1 float, 2 boolean, 3 long, 4 double; length), or an object (class, its fields: 0 an int, 1 a float, 2 null, r + 3 the cell r) -/
abbrev PSh : Type := (Nat × Nat) ⊕ (Nat × List Nat)
/-- contents by cell and place: ints (booleans too), floats, longs, doubles -/
abbrev PSt : Type := (Nat → Nat → Int32) × (Nat → Nat → UInt32) × (Nat → Nat → Int64) × (Nat → Nat → UInt64)
abbrev PL : Type := List (Option Value)
abbrev PQ : Type := Option Value → List PSh → PSt → Prop
/-- a method: name, code, locals, return type, table -/
abbrev PM : Type := MethodName × ByteArray × Nat × Option FieldType × pTab
def pTr (ad : Nat → Nat) (v : Value) : Value := match v with
  | .ref r => .ref (ad r)
  | v => v
theorem pTr_cat (ad : Nat → Nat) (v : Value) : (pTr ad v).category = v.category := by cases v <;> rfl
def pFv (S : PSt) (k j : Nat) (f : Nat) : Value := match f with
  | 0 => .int (S.1 k j)
  | 1 => .float (S.2.1 k j)
  | 2 => .null
  | r + 3 => .ref r
def pArr (S : PSt) (k : Nat) (t : Nat) : (Nat → Int32) ⊕ (Nat → Int64) ⊕ (Nat → UInt32) ⊕ (Nat → UInt64) ⊕ (Nat → Option Nat) := match t with
  | 0 => .inl (S.1 k)
  | 1 => .inr (.inr (.inl (S.2.1 k)))
  | 2 => .inl (S.1 k)
  | 3 => .inr (.inl (S.2.2.1 k))
  | _ => .inr (.inr (.inr (.inl (S.2.2.2 k))))
def pEl (tc ad : Nat → Nat) (S : PSt) (k : Nat) (e : PSh) : va_E := match e with
  | .inl q => .inl (tc q.1, q.2, pArr S k q.1)
  | .inr q => .inr (q.1, q.2.mapIdx fun j f => pTr ad (pFv S k j f))
def pW (tc ad : Nat → Nat) (sh : List PSh) (S : PSt) : va_W := sh.mapIdx fun k e => (ad k, pEl tc ad S k e)
theorem pW_at {tc ad : Nat → Nat} {sh : List PSh} {S : PSt} {k : Nat} {e : PSh} (h : sh[k]? = some e) : (pW tc ad sh S)[k]? = some (ad k, pEl tc ad S k e) := by
  unfold pW
  rw [List.getElem?_mapIdx, h]
  rfl
theorem pW_of {tc ad : Nat → Nat} {sh : List PSh} {S : PSt} {k : Nat} {q : Nat × va_E} (h : (pW tc ad sh S)[k]? = some q) : ∃ e, sh[k]? = some e ∧ q = (ad k, pEl tc ad S k e) := by
  unfold pW at h
  rw [List.getElem?_mapIdx] at h
  cases he : sh[k]? with
  | none => rw [he] at h; cases h
  | some e => rw [he] at h; exact ⟨e, rfl, (Option.some.inj h).symm⟩
def pU {α : Type} (f : Nat → Nat → α) (k j : Nat) (x : α) : Nat → Nat → α := fun a b => if a = k ∧ b = j then x else f a b
def pSI (S : PSt) (k j : Nat) (x : Int32) : PSt := (pU S.1 k j x, S.2)
def pSF (S : PSt) (k j : Nat) (x : UInt32) : PSt := (S.1, pU S.2.1 k j x, S.2.2)
def pSJ (S : PSt) (k j : Nat) (x : Int64) : PSt := (S.1, S.2.1, pU S.2.2.1 k j x, S.2.2.2)
def pSD (S : PSt) (k j : Nat) (x : UInt64) : PSt := (S.1, S.2.1, S.2.2.1, pU S.2.2.2 k j x)
theorem pU_ne {α : Type} {f : Nat → Nat → α} {k j a : Nat} {x : α} (h : a ≠ k) : pU f k j x a = f a := by
  funext b
  simp [pU, h]
/-- contents that agree at a cell tell the same of it -/
theorem pEl_same {tc ad : Nat → Nat} {S S' : PSt} {k : Nat} (h1 : S'.1 k = S.1 k) (h2 : S'.2.1 k = S.2.1 k) (h3 : S'.2.2.1 k = S.2.2.1 k) (h4 : S'.2.2.2 k = S.2.2.2 k) (e : PSh) : pEl tc ad S' k e = pEl tc ad S k e := by
  cases e with
  | inl q =>
    obtain ⟨t, n⟩ := q
    show Sum.inl (tc t, n, pArr S' k t) = Sum.inl (tc t, n, pArr S k t)
    have : pArr S' k t = pArr S k t := by
      unfold pArr
      split <;> simp only [h1, h2, h3, h4]
    rw [this]
  | inr q =>
    obtain ⟨c, fs⟩ := q
    show Sum.inr (c, fs.mapIdx fun j f => pTr ad (pFv S' k j f)) = Sum.inr (c, fs.mapIdx fun j f => pTr ad (pFv S k j f))
    have : ∀ j f, pFv S' k j f = pFv S k j f := by
      intro j f
      unfold pFv
      split <;> simp only [h1, h2]
    simp only [this]
theorem pW_set {tc ad : Nat → Nat} {sh : List PSh} {S S' : PSt} {k : Nat} {e : PSh} {el : va_E} (h : sh[k]? = some e) (hel : pEl tc ad S' k e = el) (ho : ∀ a, a ≠ k → S'.1 a = S.1 a ∧ S'.2.1 a = S.2.1 a ∧ S'.2.2.1 a = S.2.2.1 a ∧ S'.2.2.2 a = S.2.2.2 a) :
    (pW tc ad sh S).set k (ad k, el) = pW tc ad sh S' := by
  apply List.ext_getElem?
  intro i
  have hk : k < sh.length := (List.getElem?_eq_some_iff.mp h).1
  by_cases hi : i = k
  · subst hi
    rw [pW_at h, hel, List.getElem?_set_self (by unfold pW; rw [List.length_mapIdx]; exact hk)]
  · rw [List.getElem?_set_ne (fun q => hi q.symm)]
    unfold pW
    rw [List.getElem?_mapIdx, List.getElem?_mapIdx]
    cases hs : sh[i]? with
    | none => rfl
    | some e2 =>
      obtain ⟨a1, a2, a3, a4⟩ := ho i hi
      show some (ad i, pEl tc ad S i e2) = some (ad i, pEl tc ad S' i e2)
      rw [pEl_same a1 a2 a3 a4]
/-- the shape changes at a cell: a reference comes to a field -/
theorem pW_setSh {tc ad : Nat → Nat} {sh : List PSh} {S : PSt} {k : Nat} {e e' : PSh} {el : va_E} (h : sh[k]? = some e) (hel : pEl tc ad S k e' = el) :
    (pW tc ad sh S).set k (ad k, el) = pW tc ad (sh.set k e') S := by
  apply List.ext_getElem?
  intro i
  have hk : k < sh.length := (List.getElem?_eq_some_iff.mp h).1
  by_cases hi : i = k
  · subst hi
    rw [pW_at (e := e') (by rw [List.getElem?_set_self hk]), hel, List.getElem?_set_self (by unfold pW; rw [List.length_mapIdx]; exact hk)]
  · rw [List.getElem?_set_ne (fun q => hi q.symm)]
    unfold pW
    rw [List.getElem?_mapIdx, List.getElem?_mapIdx, List.getElem?_set_ne (fun q => hi q.symm)]
/-- a cell comes behind the last one -/
theorem pW_push {tc ad ad' : Nat → Nat} {sh : List PSh} {S S' : PSt} {q : Nat} {e : PSh} {el : va_E} (hq : ad' sh.length = q) (hel : pEl tc ad' S' sh.length e = el) (ha : ∀ k, k < sh.length → ad' k = ad k)
    (hr : ∀ (k c : Nat) (fs : List Nat), sh[k]? = some (.inr (c, fs)) → ∀ r, r + 3 ∈ fs → ad' r = ad r)
    (ho : ∀ a, a ≠ sh.length → S'.1 a = S.1 a ∧ S'.2.1 a = S.2.1 a ∧ S'.2.2.1 a = S.2.2.1 a ∧ S'.2.2.2 a = S.2.2.2 a) :
    pW tc ad sh S ++ [(q, el)] = pW tc ad' (sh ++ [e]) S' := by
  apply List.ext_getElem?
  intro i
  have hl : (pW tc ad sh S).length = sh.length := by unfold pW; rw [List.length_mapIdx]
  by_cases hi : i < sh.length
  · rw [List.getElem?_append_left (by rw [hl]; exact hi)]
    unfold pW
    rw [List.getElem?_mapIdx, List.getElem?_mapIdx, List.getElem?_append_left hi]
    cases hs : sh[i]? with
    | none => rfl
    | some e2 =>
      obtain ⟨a1, a2, a3, a4⟩ := ho i (by omega)
      show some (ad i, pEl tc ad S i e2) = some (ad' i, pEl tc ad' S' i e2)
      rw [pEl_same a1 a2 a3 a4, ha i hi]
      cases e2 with
      | inl q => rfl
      | inr q =>
        obtain ⟨c, fs⟩ := q
        have : (fs.mapIdx fun j f => pTr ad (pFv S i j f)) = (fs.mapIdx fun j f => pTr ad' (pFv S i j f)) := by
          apply List.ext_getElem?
          intro j
          rw [List.getElem?_mapIdx, List.getElem?_mapIdx]
          cases hf : fs[j]? with
          | none => rfl
          | some f =>
            have hm := List.mem_of_getElem? hf
            match f, hm with
            | 0, _ => rfl
            | 1, _ => rfl
            | 2, _ => rfl
            | r + 3, hm => show some (Value.ref (ad r)) = some (Value.ref (ad' r)); rw [hr i c fs hs r hm]
        show some (ad i, Sum.inr (c, _)) = some (ad i, Sum.inr (c, _))
        rw [this]
  · by_cases hi2 : i = sh.length
    · subst hi2
      rw [List.getElem?_append_right (by rw [hl]; exact Nat.le_refl _), hl, Nat.sub_self, pW_at (e := e) (by rw [List.getElem?_append_right (Nat.le_refl _), Nat.sub_self]; rfl), hq, hel]
      rfl
    · rw [List.getElem?_eq_none (by rw [List.length_append, hl]; simp; omega), List.getElem?_eq_none (by unfold pW; rw [List.length_mapIdx, List.length_append]; simp; omega)]
/-- references in shapes are of cells that there are -/
def pShOk (sh : List PSh) : Prop := ∀ (k c : Nat) (fs : List Nat), sh[k]? = some (.inr (c, fs)) → ∀ r, r + 3 ∈ fs → r < sh.length
def pNoR (n : Nat) (v : Value) : Bool := match v with
  | .ref r => r != n
  | _ => true
def pNoL (n : Nat) (o : Option Value) : Bool := match o with
  | some v => pNoR n v
  | none => true
def pAdd (ad : Nat → Nat) (n q : Nat) : Nat → Nat := fun k => if k = n then q else ad k
theorem pTr_add {ad : Nat → Nat} {n q : Nat} {v : Value} (h : pNoR n v = true) : pTr (pAdd ad n q) v = pTr ad v := by
  cases v <;> try rfl
  rename_i r
  have : r ≠ n := by simpa [pNoR] using h
  simp [pTr, pAdd, this]
theorem pTr_adds {ad : Nat → Nat} {n q : Nat} {st : List Value} (h : st.all (pNoR n) = true) : st.map (pTr (pAdd ad n q)) = st.map (pTr ad) := by
  apply List.map_congr_left
  intro v hv
  exact pTr_add (List.all_eq_true.mp h v hv)
/-- the locals as the kit's list -/
def pAs (ad : Nat → Nat) (L : PL) : List (Nat × Value) := (L.zipIdx).filterMap fun q => q.1.map fun v => (q.2, pTr ad v)
theorem pAs_mem {ad : Nat → Nat} {L : PL} {j : Nat} {w : Value} : (j, w) ∈ pAs ad L ↔ ∃ v, L[j]? = some (some v) ∧ w = pTr ad v := by
  unfold pAs
  rw [List.mem_filterMap]
  constructor
  · rintro ⟨⟨o, i⟩, h1, h2⟩
    rw [List.mem_zipIdx_iff_getElem?] at h1
    cases o with
    | none => cases h2
    | some v =>
      have h3 : (i, pTr ad v) = (j, w) := Option.some.inj h2
      cases h3
      exact ⟨v, h1, rfl⟩
  · rintro ⟨v, h1, rfl⟩
    exact ⟨(some v, j), List.mem_zipIdx_iff_getElem?.mpr h1, rfl⟩
theorem pAs_add {ad : Nat → Nat} {n q : Nat} {L : PL} (h : L.all (pNoL n) = true) {ls : Array Slot} {nL : Nat} (hl : lv_has ls nL (pAs ad L)) : lv_has ls nL (pAs (pAdd ad n q) L) := by
  refine ⟨hl.1, hl.2.1, fun p hp => ?_⟩
  obtain ⟨j, w⟩ := p
  obtain ⟨v, h1, rfl⟩ := pAs_mem.mp hp
  have h2 := List.all_eq_true.mp h _ (List.mem_of_getElem? h1)
  rw [pTr_add h2]
  exact hl.2.2 (j, pTr ad v) (pAs_mem.mpr ⟨v, h1, rfl⟩)
def pLd (L : PL) (i : Nat) : Option Value := L.getD i none
theorem pLd_at {ad : Nat → Nat} {L : PL} {ls : Array Slot} {nL i : Nat} {v : Value} (h : lv_has ls nL (pAs ad L)) (hv : pLd L i = some v) : ls[i]? = some (.val (pTr ad v)) := by
  refine h.2.2 (i, pTr ad v) (pAs_mem.mpr ⟨v, ?_, rfl⟩)
  unfold pLd at hv
  rw [List.getD_eq_getElem?_getD] at hv
  cases hL : L[i]? with
  | none => rw [hL] at hv; cases hv
  | some o => rw [hL] at hv; exact congrArg some hv
/-- a wide value just ahead is lost -/
def pKl (L : PL) (i : Nat) : PL := match i with
  | 0 => L
  | j + 1 => match pLd L j with
    | some v => if v.category = 2 then L.set j none else L
    | none => L
def pS1 (L : PL) (i : Nat) (v : Value) : PL := (pKl L i).set i (some v)
def pS2 (L : PL) (i : Nat) (v : Value) : PL := ((pKl L i).set i (some v)).set (i + 1) none
theorem pKl_at {L : PL} {i j : Nat} {w : Value} (h : (pKl L i)[j]? = some (some w)) : L[j]? = some (some w) ∧ ¬ (j + 1 = i ∧ w.category = 2) := by
  unfold pKl at h
  cases i with
  | zero => exact ⟨h, fun q => by omega⟩
  | succ i =>
    dsimp only at h
    have hset : ∀ {M : PL}, (M.set i none)[j]? = some (some w) → M[j]? = some (some w) ∧ j ≠ i := by
      intro M hM
      by_cases hj : j = i
      · subst hj
        rw [List.getElem?_set] at hM
        split at hM
        · split at hM <;> cases hM
        · rename_i hne; exact absurd rfl hne
      · rw [List.getElem?_set_ne (fun q => hj q.symm)] at hM
        exact ⟨hM, hj⟩
    cases hv : pLd L i with
    | none =>
      rw [hv] at h
      refine ⟨h, fun q => ?_⟩
      have e : j = i := by omega
      subst e
      unfold pLd at hv
      rw [List.getD_eq_getElem?_getD, h] at hv
      cases hv
    | some v =>
      rw [hv] at h
      dsimp only at h
      split at h
      · exact ⟨(hset h).1, fun q => (hset h).2 (by omega)⟩
      · rename_i hc
        refine ⟨h, fun q => ?_⟩
        have e : j = i := by omega
        subst e
        unfold pLd at hv
        rw [List.getD_eq_getElem?_getD, h] at hv
        cases hv
        exact hc q.2
theorem pS1_has {ad : Nat → Nat} {L : PL} {i : Nat} {v : Value} {ls : Array Slot} {nL : Nat} (h : lv_has ls nL ((i, pTr ad v) :: (pAs ad L).filter (fun q => !(q.1 == i) && !(q.1 + 1 == i && q.2.category == 2)))) : lv_has ls nL (pAs ad (pS1 L i v)) := by
  refine ⟨h.1, h.2.1, fun p hp => h.2.2 p ?_⟩
  obtain ⟨j, w⟩ := p
  obtain ⟨x, h1, rfl⟩ := pAs_mem.mp hp
  unfold pS1 at h1
  by_cases hj : j = i
  · subst hj
    rw [List.getElem?_set] at h1
    split at h1
    · split at h1
      · cases h1; exact List.mem_cons_self
      · cases h1
    · rename_i hne; exact absurd rfl hne
  · rw [List.getElem?_set_ne (fun q => hj q.symm)] at h1
    obtain ⟨h2, h3⟩ := pKl_at h1
    refine List.mem_cons_of_mem _ (List.mem_filter.mpr ⟨pAs_mem.mpr ⟨x, h2, rfl⟩, ?_⟩)
    simp only [pTr_cat, Bool.and_eq_true, Bool.not_eq_true', beq_eq_false_iff_ne, ne_eq, Bool.and_eq_false_iff]
    refine ⟨hj, ?_⟩
    by_cases e : j + 1 = i
    · exact Or.inr fun q => h3 ⟨e, q⟩
    · exact Or.inl e
theorem pS2_has {ad : Nat → Nat} {L : PL} {i : Nat} {v : Value} {ls : Array Slot} {nL : Nat} (h : lv_has ls nL ((i, pTr ad v) :: (pAs ad L).filter (fun q => !(q.1 == i) && (!(q.1 == i + 1) && !(q.1 + 1 == i && q.2.category == 2))))) : lv_has ls nL (pAs ad (pS2 L i v)) := by
  refine ⟨h.1, h.2.1, fun p hp => h.2.2 p ?_⟩
  obtain ⟨j, w⟩ := p
  obtain ⟨x, h1, rfl⟩ := pAs_mem.mp hp
  unfold pS2 at h1
  by_cases hj1 : j = i + 1
  · subst hj1
    rw [List.getElem?_set] at h1
    split at h1
    · split at h1 <;> cases h1
    · rename_i hne; exact absurd rfl hne
  rw [List.getElem?_set_ne (fun q => hj1 q.symm)] at h1
  by_cases hj : j = i
  · subst hj
    rw [List.getElem?_set] at h1
    split at h1
    · split at h1
      · cases h1; exact List.mem_cons_self
      · cases h1
    · rename_i hne; exact absurd rfl hne
  · rw [List.getElem?_set_ne (fun q => hj q.symm)] at h1
    obtain ⟨h2, h3⟩ := pKl_at h1
    refine List.mem_cons_of_mem _ (List.mem_filter.mpr ⟨pAs_mem.mpr ⟨x, h2, rfl⟩, ?_⟩)
    simp only [pTr_cat, Bool.and_eq_true, Bool.not_eq_true', beq_eq_false_iff_ne, ne_eq, Bool.and_eq_false_iff]
    refine ⟨hj, hj1, ?_⟩
    by_cases e : j + 1 = i
    · exact Or.inr fun q => h3 ⟨e, q⟩
    · exact Or.inl e
/-- forgetting locals -/
theorem pAs_weak {ad : Nat → Nat} {L L' : PL} {ls : Array Slot} {nL : Nat} (hw : ∀ (i : Nat) (v : Value), L'[i]? = some (some v) → L[i]? = some (some v)) (h : lv_has ls nL (pAs ad L)) : lv_has ls nL (pAs ad L') := by
  refine ⟨h.1, h.2.1, fun p hp => h.2.2 p ?_⟩
  obtain ⟨j, w⟩ := p
  obtain ⟨x, h1, rfl⟩ := pAs_mem.mp hp
  exact pAs_mem.mpr ⟨x, hw j x h1, rfl⟩
/-! the words -/
def pGood : List Cond := lw_tbl.filter goodWord
def pIsNest (w : Cond) : Bool := match w with
  | .fieldLinkNest _ _ _ _ _ _ => true
  | .methodLinkNest _ _ _ _ => true
  | _ => false
def pNest : List Cond := lw_tbl.filter pIsNest
theorem pGood_in {w : Cond} (i : Nat) (h : lw_tbl[i]? = some w) (hg : goodWord w = true) : w ∈ pGood := List.mem_filter.mpr ⟨List.mem_of_getElem? h, hg⟩
theorem pNest_in {w : Cond} (i : Nat) (h : lw_tbl[i]? = some w) (hg : pIsNest w = true) : w ∈ pNest := List.mem_filter.mpr ⟨List.mem_of_getElem? h, hg⟩
theorem pGood_ok {ws : List Cond} (h : ∀ w ∈ ws, w ∈ pGood) : GoodIn pGood ws := fun w hw => ⟨h w hw, good_of_word (List.mem_filter.mp (h w hw)).2⟩
theorem pNest_warm {s U : State} (hW : s.WarmedH U.vm) {w : Cond} (hw : w ∈ pNest) (h : va_Nw w s) : va_Nw w U := by
  have := (List.mem_filter.mp hw).2
  unfold pIsNest at this
  split at this
  · exact va_Nw.warmF hW h
  · exact va_Nw.warmM hW h
  · cases this
theorem pNest_tab {w : Cond} (hw : w ∈ pNest) : w.onTables = true := by
  have := (List.mem_filter.mp hw).2
  unfold pIsNest at this
  split at this
  · rfl
  · rfl
  · cases this
def pTys (tc : Nat → ClassId) : List (ClassId × FieldType) := [(tc 0, .int), (tc 1, .float), (tc 2, .boolean), (tc 3, .long), (tc 4, .byte)]
def pKK (D : va_G) (tc : Nat → ClassId) (U : State) : Prop := va_K D vwCl (pTys tc) U ∧ ∀ w ∈ pNest, va_Nw w U
theorem pKK.moved {D : va_G} {tc : Nat → ClassId} {s U : State} (hW : s.WarmedH U.vm) (h : pKK D tc s) : pKK D tc U := ⟨va_K.moved hW.alike h.1, fun w hw => pNest_warm hW hw (h.2 w hw)⟩
theorem pKK.same {D : va_G} {tc : Nat → ClassId} {s U : State} (hv : s.vm = U.vm) (h : pKK D tc s) : pKK D tc U := ⟨va_K.moved (by rw [hv]; exact Vm.Alike.refl _) h.1, fun w hw => va_Nw.same (pNest_tab hw) hv (h.2 w hw)⟩
/-- the arrays that nobody writes: the script (1000), LEAST, MOST -/
def pRoC (X : Nat × (Nat → Int32)) (j : Nat) : Nat × (Nat → Int32) := match j with
  | 0 => X
  | 1 => (5, fun k => ([0, 1, -12, 1, 0] : List Int32).getD k 0)
  | _ => (5, fun k => ([2, 64, 20, 12, 9] : List Int32).getD k 0)
/-- the text of music and its bytes (cells 1003, 1004), a static of String, the formatter that may be there (1005) -/
def pTx : List Int32 := [110, 49, 54, 45, 52, 39, 32, 98, 32, 114, 51]
def pFm (ad : Nat → Nat) (A : Nat → Prop) (U : State) (H : Heap) : Prop := va_Z "jdk/internal/util/Preconditions" "SIOOBE_FORMATTER" "Ljava/util/function/BiFunction;" .null A U H ∨ va_Z "jdk/internal/util/Preconditions" "SIOOBE_FORMATTER" "Ljava/util/function/BiFunction;" (.ref (ad 1005)) A U H
def pStr (ad : Nat → Nat) (A : Nat → Prop) (U : State) (H : Heap) : Prop :=
  vk_S 1 [11] [pTx] (fun _ => ad 1003) (fun _ => ad 1004) A U H ∧ vk_R "EngravedLinesLaw" 156 "n16-4' b r3" (ad 1003) U ∧ va_Z "java/lang/String" "COMPACT_STRINGS" "Z" (.int 1) A U H ∧ pFm ad A U H
def pRO (ad : Nat → Nat) (X : Nat × (Nat → Int32)) (A : Nat → Prop) (U : State) (H : Heap) : Prop :=
  (∀ j, j < 3 → ad (1000 + j) < H.size ∧ ¬ A (ad (1000 + j)) ∧ va_X (ad (1000 + j)) (pRoC X j).1 (pRoC X j).2 U H) ∧
  va_Z "EngravedLines" "LEAST" "[I" (.ref (ad 1001)) A U H ∧ va_Z "EngravedLines" "MOST" "[I" (.ref (ad 1002)) A U H ∧ pStr ad A U H
theorem pFm.moved {ad : Nat → Nat} {A : Nat → Prop} {u U : State} {H : Heap} (hvm : u.vm.Alike U.vm) (h : pFm ad A u H) : pFm ad A U H := h.elim (fun q => Or.inl (va_Z.moved hvm q)) (fun q => Or.inr (va_Z.moved hvm q))
theorem pFm.kept {ad : Nat → Nat} {A : Nat → Prop} {U : State} {H H1 : Heap} (h : pFm ad A U H) (hq : ∀ a : Nat, a < H.size → ¬ A a → H1[a]? = H[a]?) : pFm ad A U H1 := h.elim (fun q => Or.inl (q.kept hq)) (fun q => Or.inr (q.kept hq))
theorem pFm.narrow {ad : Nat → Nat} {A B : Nat → Prop} {U : State} {H : Heap} (h : pFm ad A U H) (hAB : ∀ q, B q → A q) : pFm ad B U H := h.elim (fun q => Or.inl (q.narrow hAB)) (fun q => Or.inr (q.narrow hAB))
theorem pRO.warm {ad : Nat → Nat} {X : Nat × (Nat → Int32)} {A : Nat → Prop} {u U : State} {H : Heap} (hW : u.WarmedH U.vm) (h : pRO ad X A u H) : pRO ad X A U H :=
  ⟨fun j hj => ⟨(h.1 j hj).1, (h.1 j hj).2.1, (h.1 j hj).2.2.moved hW.alike⟩, va_Z.moved hW.alike h.2.1, va_Z.moved hW.alike h.2.2.1, vk_S.moved hW.alike h.2.2.2.1, vk_R.warm hW h.2.2.2.2.1, va_Z.moved hW.alike h.2.2.2.2.2.1, pFm.moved hW.alike h.2.2.2.2.2.2⟩
theorem pRO.same {ad : Nat → Nat} {X : Nat × (Nat → Int32)} {A : Nat → Prop} {u U : State} {H : Heap} (hv : U.vm = u.vm) (h : pRO ad X A u H) : pRO ad X A U H := by
  have hW : u.vm.Alike U.vm := by rw [hv]; exact Vm.Alike.refl _
  exact ⟨fun j hj => ⟨(h.1 j hj).1, (h.1 j hj).2.1, (h.1 j hj).2.2.moved hW⟩, va_Z.moved hW h.2.1, va_Z.moved hW h.2.2.1, vk_S.moved hW h.2.2.2.1, vk_R.same hv h.2.2.2.2.1, va_Z.moved hW h.2.2.2.2.2.1, pFm.moved hW h.2.2.2.2.2.2⟩
theorem pRO.kept {ad : Nat → Nat} {X : Nat × (Nat → Int32)} {A : Nat → Prop} {U : State} {H H1 : Heap} (h : pRO ad X A U H) (hz : H.size ≤ H1.size) (hq : ∀ a : Nat, a < H.size → ¬ A a → H1[a]? = H[a]?) : pRO ad X A U H1 :=
  ⟨fun j hj => ⟨Nat.lt_of_lt_of_le (h.1 j hj).1 hz, (h.1 j hj).2.1, (h.1 j hj).2.2.kept (hq _ (h.1 j hj).1 (h.1 j hj).2.1)⟩, h.2.1.kept hq, h.2.2.1.kept hq, h.2.2.2.1.kept hq, h.2.2.2.2.1, h.2.2.2.2.2.1.kept hq, h.2.2.2.2.2.2.kept hq⟩
theorem pRO.narrow {ad : Nat → Nat} {X : Nat × (Nat → Int32)} {A B : Nat → Prop} {U : State} {H : Heap} (h : pRO ad X A U H) (hAB : ∀ q, B q → A q) : pRO ad X B U H :=
  ⟨fun j hj => ⟨(h.1 j hj).1, fun q => (h.1 j hj).2.1 (hAB _ q), (h.1 j hj).2.2⟩, h.2.1.narrow hAB, h.2.2.1.narrow hAB, h.2.2.2.1.narrow hAB, h.2.2.2.2.1, h.2.2.2.2.2.1.narrow hAB, h.2.2.2.2.2.2.narrow hAB⟩
theorem pRO.ads {ad ad' : Nat → Nat} {X : Nat × (Nat → Int32)} {A : Nat → Prop} {U : State} {H : Heap} (he : ∀ k, 1000 ≤ k → ad' k = ad k) (h : pRO ad X A U H) : pRO ad' X A U H := by
  refine ⟨fun j hj => ?_, ?_, ?_, ?_, ?_, h.2.2.2.2.2.1, ?_⟩
  · rw [he (1000 + j) (by omega)]; exact h.1 j hj
  · rw [he 1001 (by omega)]; exact h.2.1
  · rw [he 1002 (by omega)]; exact h.2.2.1
  · rw [he 1003 (by omega), he 1004 (by omega)]; exact h.2.2.2.1
  · rw [he 1003 (by omega)]; exact h.2.2.2.2.1
  · have h9 := h.2.2.2.2.2.2
    unfold pFm at *
    rw [he 1005 (by omega)]; exact h9
/-! contracts and walks -/
def pRoom (d mc ms : Nat) : Room := { frames := d, cells := mc, slots := ms, locals := 39 * d }
def pWs (M : PM) : List Cond := .code M.1 M.2.1 M.2.2.1 M.2.2.2.1 :: pGood
def pPc (av : List Value) (D : va_G) (tc ad : Nat → Nat) (X : Nat × (Nat → Int32)) (sh : List PSh) (S : PSt) (sz : Nat) : Array Value → State → Prop := fun v U =>
  v = (av.map (pTr ad)).toArray ∧ U.heap.size = sz ∧ va_P D vwCl (pW tc ad sh S) U.heap ∧ pKK D tc U ∧ va_D (fun _ => True) (pW tc ad sh S) ∧ pRO ad X (va_A (pW tc ad sh S) sz) U U.heap
def pQc (A : Nat → Prop) (D : va_G) (tc ad : Nat → Nat) (n0 : Nat) (Q : PQ) : Array Value → State → Outcome → State → Prop := fun _ st o t =>
  (∃ (r : Option Value) (sh : List PSh) (S : PSt) (ad' : Nat → Nat), (∀ k, ¬ (n0 ≤ k ∧ k < sh.length) → ad' k = ad k) ∧ n0 ≤ sh.length ∧ sh.length < 1000 ∧ pShOk sh ∧ o = .returned (r.map (pTr ad')) ∧ Q r sh S ∧ va_P D vwCl (pW tc ad' sh S) t.heap ∧ va_D A (pW tc ad' sh S)) ∧ va_F A st t
/-- the contract of a method: from the arguments av, the shapes sh, the contents S it returns, with Q; calls that stand open below it: d -/
def pSpec (M : PM) (d mc ms : Nat) (av : List Value) (X : Nat × (Nat → Int32)) (sh : List PSh) (S : PSt) (Q : PQ) : Prop :=
  sh.length < 1000 → pShOk sh → ∀ (l : Launch) (D : va_G) (tc ad : Nat → Nat) (sz : Nat), Met l M.1 (pWs M) (pRoom d mc ms) (pPc av D tc ad X sh S sz) (pQc (va_A (pW tc ad sh S) sz) D tc ad sh.length Q) mc ms (va_A (pW tc ad sh S) sz)
def pCtx (M : PM) (p : Program) (s : State) (m : MethodId) (args : Array Value) (meth : Method) (c : Code) : Prop :=
  p.tables.exec = Jvm.exec ∧ c.code = M.2.1 ∧ c.maxLocals = M.2.2.1 ∧ meth.sig.returnType = M.2.2.2.1 ∧ s.vm.findClass M.1.cls = some m.cls ∧ meth.locks = false ∧ (M.1.name = "<init>" → meth.name = "<init>") ∧ ∀ w ∈ pGood, w.before args s = true
/-- what moves on: addresses, the world, the locals -/
def pNow (n0 nL : Nat) (D : va_G) (tc ad0 ad : Nat → Nat) (A : Nat → Prop) (s : State) (H : Heap) (locs : List Loc) (ls : Array Slot) (L : PL) (sh : List PSh) (S : PSt) : Prop :=
  (∀ k, ¬ (n0 ≤ k ∧ k < sh.length) → ad k = ad0 k) ∧ n0 ≤ sh.length ∧ sh.length < 1000 ∧ pShOk sh ∧ va_P D vwCl (pW tc ad sh S) H ∧ va_D A (pW tc ad sh S) ∧ va_S A s.heap H locs ∧ lv_has ls nL (pAs ad L)
/-- the method goes on from pc with the locals L, the stack st, cells and slots made so far, and comes to its end with Q -/
def pWP (M : PM) (d mc ms n0 : Nat) (X : Nat × (Nat → Int32)) (Q : PQ) (pc : Nat) (L : PL) (st : List Value) (kc ks : Nat) (sh : List PSh) (S : PSt) : Prop :=
  ∀ (p : Program) (l : Launch) (e : Env) (R : Room) (s : State) (m : MethodId) (args : Array Value) (below : List Frame) (meth : Method) (c : Code) (D : va_G) (tc ad0 : Nat → Nat) (A : Nat → Prop),
    pTabOk M.2.1 M.2.2.2.2 = true → pCtx M p s m args meth c → (d ≤ R.frames ∧ 39 * d ≤ R.locals ∧ mc ≤ R.cells ∧ ms ≤ R.slots) → pKK D tc s → pRO ad0 X A s s.heap → (∀ q, s.heap.size ≤ q → A q) →
    ∀ (ad : Nat → Nat) (H : Heap) (locs : List Loc) (ls : Array Slot), pNow n0 M.2.2.1 D tc ad0 ad A s H locs ls L sh S →
      W p l e R s m args below meth c H locs kc ks (MQ below (pQc A D tc ad0 n0 Q) args s mc ms A) (F0 m pc ls (st.map (pTr ad)))
