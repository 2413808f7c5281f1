/-! the pure machine: cells that are made, the JDK's own -/
def pSZ (S : PSt) (n : Nat) : PSt := (fun a b => if a = n then 0 else S.1 a b, fun a b => if a = n then 0 else S.2.1 a b, fun a b => if a = n then 0 else S.2.2.1 a b, fun a b => if a = n then 0 else S.2.2.2 a b)
theorem pSZ_ne {S : PSt} {n a : Nat} (h : a ≠ n) : (pSZ S n).1 a = S.1 a ∧ (pSZ S n).2.1 a = S.2.1 a ∧ (pSZ S n).2.2.1 a = S.2.2.1 a ∧ (pSZ S n).2.2.2 a = S.2.2.2 a := by
  simp [pSZ, h]
def pDef (f : Nat) : Value := match f with
  | 0 => .int 0
  | 1 => .float 0
  | _ => .null
theorem pDef_eq {ad : Nat → Nat} {S : PSt} {n j f : Nat} (h : f ≤ 2) : pTr ad (pFv (pSZ S n) n j f) = pDef f := by
  match f, h with
  | 0, _ => simp [pFv, pSZ, pDef, pTr]
  | 1, _ => simp [pFv, pSZ, pDef, pTr]
  | 2, _ => rfl
theorem pNow.grow {n0 nL : Nat} {D : va_G} {tc ad0 ad : Nat → Nat} {A : Nat → Prop} {s : State} {H H1 : Heap} {locs locs1 : List Loc} {ls : Array Slot} {L : PL} {sh : List PSh} {S : PSt} {e : PSh} {q : Nat} {el : va_E} (h : pNow n0 nL D tc ad0 ad A s H locs ls L sh S) (hlen : sh.length + 1 < 1000) (hL : L.all (pNoL sh.length) = true)
    (hel : pEl tc (pAdd ad sh.length q) (pSZ S sh.length) sh.length e = el) (hok : ∀ c fs, e = .inr (c, fs) → ∀ f ∈ fs, f ≤ 2) (hP : va_P D vwCl (pW tc ad sh S ++ [(q, el)]) H1) (hD : va_D A (pW tc ad sh S ++ [(q, el)])) (hS : va_S A s.heap H1 locs1) :
    pNow n0 nL D tc ad0 (pAdd ad sh.length q) A s H1 locs1 ls L (sh ++ [e]) (pSZ S sh.length) := by
  have ep : pW tc ad sh S ++ [(q, el)] = pW tc (pAdd ad sh.length q) (sh ++ [e]) (pSZ S sh.length) := by
    refine pW_push (by simp [pAdd]) hel (fun k hk => by simp [pAdd]; omega) (fun k c fs hk r hr => ?_) (fun a ha => pSZ_ne ha)
    have := h.2.2.2.1 k c fs hk r hr
    simp [pAdd]
    omega
  rw [ep] at hP hD
  refine ⟨fun k hk => ?_, ?_, ?_, ?_, hP, hD, hS, pAs_add hL h.ls⟩
  · rw [List.length_append] at hk
    have h1 := h.2.1
    have hk2 : k ≠ sh.length := fun q => hk ⟨by omega, by rw [q]; simp⟩
    have : pAdd ad sh.length q k = ad k := by simp [pAdd, hk2]
    rw [this]
    exact h.1 k (fun q => hk ⟨q.1, by have := q.2; simp; omega⟩)
  · rw [List.length_append]; have := h.2.1; simp; omega
  · rw [List.length_append]; simp; omega
  · intro k c fs hk r hr
    rw [List.length_append]
    by_cases hk2 : k < sh.length
    · rw [List.getElem?_append_left hk2] at hk
      have := h.2.2.2.1 k c fs hk r hr
      simp; omega
    · rw [List.getElem?_append_right (by omega)] at hk
      have hk3 : k - sh.length = 0 := by
        cases hz : k - sh.length with
        | zero => rfl
        | succ z => rw [hz] at hk; cases hk
      rw [hk3] at hk
      have he : e = .inr (c, fs) := Option.some.inj hk
      have := hok c fs he _ hr
      omega
section PMADE
variable {M : PM} {d mc ms n0 : Nat} {X : Nat × (Nat → Int32)} {Q : PQ} {pc : Nat} {L : PL} {st : List Value} {kc ks : Nat} {sh : List PSh} {S : PSt}
theorem pr_new {idx cI : Nat} {qc : vw_C} {fs : List Nat} (hi : pLook M.2.2.2.2 pc = some (.new idx, 3)) (hcl : vwCl[cI]? = some qc) (hlink : Cond.classLink M.1.cls idx qc.1 ∈ pGood) (hinst : Cond.instantiable qc.1 qc.2.2 ∈ pGood) (hini : Cond.initialized qc.1 ∈ pGood) (hfs : ∀ j, j < qc.2.2 → defaultValue (pTyp cI j) = vp_V (fs.map pDef) j) (h2 : ∀ f ∈ fs, f ≤ 2)
    (hlen : sh.length + 1 < 1000) (hst : st.all (pNoR sh.length) = true) (hL : L.all (pNoL sh.length) = true) (hm : kc + 1 ≤ mc ∧ ks + qc.2.2 ≤ ms)
    (k : pWP M d mc ms n0 X Q (pc + 3) L (.ref sh.length :: st) (kc + 1) (ks + qc.2.2) (sh ++ [.inr (cI, fs)]) (pSZ S sh.length)) : pWP M d mc ms n0 X Q pc L st kc ks sh S := by
  intro p l e R s m args below meth c D tc ad0 A hT hC hR hK hO hA ad H locs ls hN
  obtain ⟨C, T, N⟩ := qc
  obtain ⟨g1, g2, g3, g4⟩ := pCl hcl
  have hts := hC.2.2.2.2.2.2.2
  refine va_new (D := D) (ci := cI) (fs := fs.map pDef) (C := C) (T := T) (N := N) hC.1 hC.2.1 hts g1 (pTyp cI) g2 hC.2.2.2.2.1 (hts _ hlink) (hts _ hinst) (hts _ hini) hK.1 hN.hP hN.hD hN.hS hA hcl hfs (Nat.le_trans hm.1 hR.2.2.1) (Nat.le_trans hm.2 hR.2.2.2) (pLook_ok hT hi) (fun q H1 hP hD hS => ?_)
  have hel : pEl tc (pAdd ad sh.length q) (pSZ S sh.length) sh.length (.inr (cI, fs)) = .inr (cI, fs.map pDef) := by
    show Sum.inr (cI, fs.mapIdx fun j f => pTr (pAdd ad sh.length q) (pFv (pSZ S sh.length) sh.length j f)) = Sum.inr (cI, fs.map pDef)
    have : (fs.mapIdx fun j f => pTr (pAdd ad sh.length q) (pFv (pSZ S sh.length) sh.length j f)) = fs.map pDef := by
      apply List.ext_getElem?
      intro i
      rw [List.getElem?_mapIdx, List.getElem?_map]
      cases hf : fs[i]? with
      | none => rfl
      | some f => exact congrArg some (pDef_eq (h2 f (List.mem_of_getElem? hf)))
    rw [this]
  have kk := k p l e R s m args below meth c D tc ad0 A hT hC hR hK hO hA (pAdd ad sh.length q) H1 locs ls (hN.grow hlen hL hel (fun c9 fs9 he => by cases he; exact h2) hP hD hS)
  rw [List.map_cons, pTr_adds hst] at kk
  have e1 : pTr (pAdd ad sh.length q) (.ref sh.length) = .ref q := by simp [pTr, pAdd]
  rw [e1] at kk
  exact kk
theorem pr_objInit {idx a : Nat} (hi : pLook M.2.2.2.2 pc = some (.invokespecial idx, 3)) (h1 : Cond.methodLink M.1.cls idx Lib.objectInit ∈ pGood) (h2 : Cond.instanceMethod Lib.objectInit ∈ pGood) (h3 : Cond.code Lib.objectInit ⟨#[0xb1]⟩ 1 none ∈ pGood) (hd : 1 ≤ d) (hcat : (st.map fun v => v.category).sum ≤ 8)
    (k : pWP M d mc ms n0 X Q (pc + 3) L st kc ks sh S) : pWP M d mc ms n0 X Q pc L (.ref a :: st) kc ks sh S := by
  intro p l e R s m args below meth c D tc ad0 A hT hC hR hK hO hA ad H locs ls hN
  have hts := hC.2.2.2.2.2.2.2
  have hr := hR.1
  have hr2 := hR.2.1
  refine W.objInit hC.1 hC.2.1 hC.2.2.2.2.1 (hts _ h1) (hts _ h2) (hts _ h3) rfl (hN.ls.1.trans hC.2.2.1.symm) rfl (pLook_ok hT hi) (by omega) (by have := lv_room (m := m) (pc := pc) (ls := ls) (rest := List.map (pTr ad) (Value.ref a :: st)) (pCat (ad := ad) hcat); omega) ?_
  exact k p l e R s m args below meth c D tc ad0 A hT hC hR hK hO hA ad H locs ls hN
theorem pr_max {idx : Nat} {x y : Int32} (hi : pLook M.2.2.2.2 pc = some (.invokestatic idx, 3)) (h1 : Cond.methodLink M.1.cls idx Lib.Math.max.name ∈ pGood) (h2 : Cond.static Lib.Math.max.name ∈ pGood) (h3 : Cond.initialized "java/lang/Math" ∈ pGood) (h4 : Cond.code Lib.Math.max.name Lib.Math.max.code 2 (some .int) ∈ pGood) (hd : 1 ≤ d) (hm : kc ≤ mc ∧ ks ≤ ms) (hcat : (st.map fun v => v.category).sum ≤ 8)
    (k : pWP M d mc ms n0 X Q (pc + 3) L (.int (if x < y then y else x) :: st) kc ks sh S) : pWP M d mc ms n0 X Q pc L (.int y :: .int x :: st) kc ks sh S := by
  intro p l e R s m args below meth c D tc ad0 A hT hC hR hK hO hA ad H locs ls hN
  have hts := hC.2.2.2.2.2.2.2
  have hr := hR.1
  have hr2 := hR.2.1
  have hc9 := pCat (ad := ad) hcat
  exact va_mmax hC.1 hC.2.1 (hC.2.2.1.trans hN.ls.1.symm) hC.2.2.2.2.1 (hts _ h1) (hts _ h2) (hts _ h3) (hts _ h4) (by omega) (by omega) (Nat.le_trans hm.1 hR.2.2.1) (Nat.le_trans hm.2 hR.2.2.2) (pLook_ok hT hi) (k p l e R s m args below meth c D tc ad0 A hT hC hR hK hO hA ad H locs ls hN)
theorem pr_min {idx : Nat} {x y : Int32} (hi : pLook M.2.2.2.2 pc = some (.invokestatic idx, 3)) (h1 : Cond.methodLink M.1.cls idx Lib.Math.min.name ∈ pGood) (h2 : Cond.static Lib.Math.min.name ∈ pGood) (h3 : Cond.initialized "java/lang/Math" ∈ pGood) (h4 : Cond.code Lib.Math.min.name Lib.Math.min.code 2 (some .int) ∈ pGood) (hd : 1 ≤ d) (hm : kc ≤ mc ∧ ks ≤ ms) (hcat : (st.map fun v => v.category).sum ≤ 8)
    (k : pWP M d mc ms n0 X Q (pc + 3) L (.int (if y < x then y else x) :: st) kc ks sh S) : pWP M d mc ms n0 X Q pc L (.int y :: .int x :: st) kc ks sh S := by
  intro p l e R s m args below meth c D tc ad0 A hT hC hR hK hO hA ad H locs ls hN
  have hts := hC.2.2.2.2.2.2.2
  have hr := hR.1
  have hr2 := hR.2.1
  have hc9 := pCat (ad := ad) hcat
  exact va_mmin hC.1 hC.2.1 (hC.2.2.1.trans hN.ls.1.symm) hC.2.2.2.2.1 (hts _ h1) (hts _ h2) (hts _ h3) (hts _ h4) (by omega) (by omega) (Nat.le_trans hm.1 hR.2.2.1) (Nat.le_trans hm.2 hR.2.2.2) (pLook_ok hT hi) (k p l e R s m args below meth c D tc ad0 A hT hC hR hK hO hA ad H locs ls hN)
theorem pr_rawF {idx : Nat} {x : UInt32} (hi : pLook M.2.2.2.2 pc = some (.invokestatic idx, 3)) (h1 : Cond.methodLink M.1.cls idx ⟨"java/lang/Float", "floatToRawIntBits", "(F)I"⟩ ∈ pGood) (h2 : Cond.native ⟨"java/lang/Float", "floatToRawIntBits", "(F)I"⟩ ∈ pGood) (h3 : Cond.static ⟨"java/lang/Float", "floatToRawIntBits", "(F)I"⟩ ∈ pGood) (h4 : Cond.initialized "java/lang/Float" ∈ pGood) (hd : 1 ≤ d) (hcat : (st.map fun v => v.category).sum ≤ 8)
    (k : pWP M d mc ms n0 X Q (pc + 3) L (.int x.toInt32 :: st) kc ks sh S) : pWP M d mc ms n0 X Q pc L (.float x :: st) kc ks sh S := by
  intro p l e R s m args below meth c D tc ad0 A hT hC hR hK hO hA ad H locs ls hN
  have hts := hC.2.2.2.2.2.2.2
  have hr := hR.1
  have hr2 := hR.2.1
  have hc9 := pCat (ad := ad) hcat
  exact vn_f2i hC.1 hC.2.1 (hC.2.2.1.trans hN.ls.1.symm) hC.2.2.2.2.1 (hts _ h1) (hts _ h2) (hts _ h3) (hts _ h4) (by omega) (by omega) (pLook_ok hT hi) (k p l e R s m args below meth c D tc ad0 A hT hC hR hK hO hA ad H locs ls hN)
theorem pr_newa0 {x : Int32} {n : Nat} (hi : pLook M.2.2.2.2 pc = some (.newarray .int, 2)) (hac : Cond.arrayClass .int ∈ pGood) (hx : ¬ x < 0) (hn : x.toNatClampNeg = n) (hb : n * 8 ≤ 536870912) (hlen : sh.length + 1 < 1000) (hst : st.all (pNoR sh.length) = true) (hL : L.all (pNoL sh.length) = true) (hm : kc + 1 ≤ mc ∧ ks + n ≤ ms)
    (k : pWP M d mc ms n0 X Q (pc + 2) L (.ref sh.length :: st) (kc + 1) (ks + n) (sh ++ [.inl (0, n)]) (pSZ S sh.length)) : pWP M d mc ms n0 X Q pc L (.int x :: st) kc ks sh S := by
  intro p l e R s m args below meth c D tc ad0 A hT hC hR hK hO hA ad H locs ls hN
  have hts := hC.2.2.2.2.2.2.2
  refine va_newa (atype := .int) (ty := .int) (D := D) (tys := pTys tc) (N' := n) (a0 := (n, .inl (fun _ => 0))) hC.1 hC.2.1 (hts _ hac) rfl hK.1 hN.hP hN.hD hN.hS hA (fun cA => rfl) hx hn (Nat.le_trans (Nat.mul_le_mul_left n (by decide)) hb) (Nat.le_trans hm.1 hR.2.2.1) (Nat.le_trans hm.2 hR.2.2.2) (pLook_ok hT hi) (fun q cA H1 hK2 hP hD hS => ?_)
  have a1 : va_RA s cA .int := (hK2.2 5 (cA, .int) rfl).2
  have a2 : va_RA s (tc 0) .int := (hK.1.2 0 (tc 0, .int) rfl).2
  have ec : cA = tc 0 := Option.some.inj ((show s.vm.findClass _ = some cA from a1).symm.trans (show s.vm.findClass _ = some (tc 0) from a2))
  subst ec
  have hel : pEl tc (pAdd ad sh.length q) (pSZ S sh.length) sh.length (.inl (0, n)) = .inl (tc 0, n, .inl (fun _ => 0)) := by
    show Sum.inl (tc 0, n, pArr (pSZ S sh.length) sh.length 0) = Sum.inl (tc 0, n, _)
    have : pArr (pSZ S sh.length) sh.length 0 = .inl (fun _ => 0) := by simp [pArr, pSZ]
    rw [this]
  have kk := k p l e R s m args below meth c D tc ad0 A hT hC hR hK hO hA (pAdd ad sh.length q) H1 locs ls (hN.grow hlen hL hel (fun c9 fs9 he => by cases he) hP hD hS)
  rw [List.map_cons, pTr_adds hst] at kk
  have e1 : pTr (pAdd ad sh.length q) (.ref sh.length) = .ref q := by simp [pTr, pAdd]
  rw [e1] at kk
  exact kk
theorem pr_newa1 {x : Int32} {n : Nat} (hi : pLook M.2.2.2.2 pc = some (.newarray .float, 2)) (hac : Cond.arrayClass .float ∈ pGood) (hx : ¬ x < 0) (hn : x.toNatClampNeg = n) (hb : n * 8 ≤ 536870912) (hlen : sh.length + 1 < 1000) (hst : st.all (pNoR sh.length) = true) (hL : L.all (pNoL sh.length) = true) (hm : kc + 1 ≤ mc ∧ ks + n ≤ ms)
    (k : pWP M d mc ms n0 X Q (pc + 2) L (.ref sh.length :: st) (kc + 1) (ks + n) (sh ++ [.inl (1, n)]) (pSZ S sh.length)) : pWP M d mc ms n0 X Q pc L (.int x :: st) kc ks sh S := by
  intro p l e R s m args below meth c D tc ad0 A hT hC hR hK hO hA ad H locs ls hN
  have hts := hC.2.2.2.2.2.2.2
  refine va_newa (atype := .float) (ty := .float) (D := D) (tys := pTys tc) (N' := n) (a0 := (n, .inr (.inr (.inl (fun _ => 0))))) hC.1 hC.2.1 (hts _ hac) rfl hK.1 hN.hP hN.hD hN.hS hA (fun cA => rfl) hx hn (Nat.le_trans (Nat.mul_le_mul_left n (by decide)) hb) (Nat.le_trans hm.1 hR.2.2.1) (Nat.le_trans hm.2 hR.2.2.2) (pLook_ok hT hi) (fun q cA H1 hK2 hP hD hS => ?_)
  have a1 : va_RA s cA .float := (hK2.2 5 (cA, .float) rfl).2
  have a2 : va_RA s (tc 1) .float := (hK.1.2 1 (tc 1, .float) rfl).2
  have ec : cA = tc 1 := Option.some.inj ((show s.vm.findClass _ = some cA from a1).symm.trans (show s.vm.findClass _ = some (tc 1) from a2))
  subst ec
  have hel : pEl tc (pAdd ad sh.length q) (pSZ S sh.length) sh.length (.inl (1, n)) = .inl (tc 1, n, .inr (.inr (.inl (fun _ => 0)))) := by
    show Sum.inl (tc 1, n, pArr (pSZ S sh.length) sh.length 1) = Sum.inl (tc 1, n, _)
    have : pArr (pSZ S sh.length) sh.length 1 = .inr (.inr (.inl (fun _ => 0))) := by simp [pArr, pSZ]
    rw [this]
  have kk := k p l e R s m args below meth c D tc ad0 A hT hC hR hK hO hA (pAdd ad sh.length q) H1 locs ls (hN.grow hlen hL hel (fun c9 fs9 he => by cases he) hP hD hS)
  rw [List.map_cons, pTr_adds hst] at kk
  have e1 : pTr (pAdd ad sh.length q) (.ref sh.length) = .ref q := by simp [pTr, pAdd]
  rw [e1] at kk
  exact kk
theorem pr_newa2 {x : Int32} {n : Nat} (hi : pLook M.2.2.2.2 pc = some (.newarray .boolean, 2)) (hac : Cond.arrayClass .boolean ∈ pGood) (hx : ¬ x < 0) (hn : x.toNatClampNeg = n) (hb : n * 8 ≤ 536870912) (hlen : sh.length + 1 < 1000) (hst : st.all (pNoR sh.length) = true) (hL : L.all (pNoL sh.length) = true) (hm : kc + 1 ≤ mc ∧ ks + n ≤ ms)
    (k : pWP M d mc ms n0 X Q (pc + 2) L (.ref sh.length :: st) (kc + 1) (ks + n) (sh ++ [.inl (2, n)]) (pSZ S sh.length)) : pWP M d mc ms n0 X Q pc L (.int x :: st) kc ks sh S := by
  intro p l e R s m args below meth c D tc ad0 A hT hC hR hK hO hA ad H locs ls hN
  have hts := hC.2.2.2.2.2.2.2
  refine va_newa (atype := .boolean) (ty := .boolean) (D := D) (tys := pTys tc) (N' := n) (a0 := (n, .inl (fun _ => 0))) hC.1 hC.2.1 (hts _ hac) rfl hK.1 hN.hP hN.hD hN.hS hA (fun cA => rfl) hx hn (Nat.le_trans (Nat.mul_le_mul_left n (by decide)) hb) (Nat.le_trans hm.1 hR.2.2.1) (Nat.le_trans hm.2 hR.2.2.2) (pLook_ok hT hi) (fun q cA H1 hK2 hP hD hS => ?_)
  have a1 : va_RA s cA .boolean := (hK2.2 5 (cA, .boolean) rfl).2
  have a2 : va_RA s (tc 2) .boolean := (hK.1.2 2 (tc 2, .boolean) rfl).2
  have ec : cA = tc 2 := Option.some.inj ((show s.vm.findClass _ = some cA from a1).symm.trans (show s.vm.findClass _ = some (tc 2) from a2))
  subst ec
  have hel : pEl tc (pAdd ad sh.length q) (pSZ S sh.length) sh.length (.inl (2, n)) = .inl (tc 2, n, .inl (fun _ => 0)) := by
    show Sum.inl (tc 2, n, pArr (pSZ S sh.length) sh.length 2) = Sum.inl (tc 2, n, _)
    have : pArr (pSZ S sh.length) sh.length 2 = .inl (fun _ => 0) := by simp [pArr, pSZ]
    rw [this]
  have kk := k p l e R s m args below meth c D tc ad0 A hT hC hR hK hO hA (pAdd ad sh.length q) H1 locs ls (hN.grow hlen hL hel (fun c9 fs9 he => by cases he) hP hD hS)
  rw [List.map_cons, pTr_adds hst] at kk
  have e1 : pTr (pAdd ad sh.length q) (.ref sh.length) = .ref q := by simp [pTr, pAdd]
  rw [e1] at kk
  exact kk
theorem pr_newa3 {x : Int32} {n : Nat} (hi : pLook M.2.2.2.2 pc = some (.newarray .long, 2)) (hac : Cond.arrayClass .long ∈ pGood) (hx : ¬ x < 0) (hn : x.toNatClampNeg = n) (hb : n * 8 ≤ 536870912) (hlen : sh.length + 1 < 1000) (hst : st.all (pNoR sh.length) = true) (hL : L.all (pNoL sh.length) = true) (hm : kc + 1 ≤ mc ∧ ks + n ≤ ms)
    (k : pWP M d mc ms n0 X Q (pc + 2) L (.ref sh.length :: st) (kc + 1) (ks + n) (sh ++ [.inl (3, n)]) (pSZ S sh.length)) : pWP M d mc ms n0 X Q pc L (.int x :: st) kc ks sh S := by
  intro p l e R s m args below meth c D tc ad0 A hT hC hR hK hO hA ad H locs ls hN
  have hts := hC.2.2.2.2.2.2.2
  refine va_newa (atype := .long) (ty := .long) (D := D) (tys := pTys tc) (N' := n) (a0 := (n, .inr (.inl (fun _ => 0)))) hC.1 hC.2.1 (hts _ hac) rfl hK.1 hN.hP hN.hD hN.hS hA (fun cA => rfl) hx hn (Nat.le_trans (Nat.mul_le_mul_left n (by decide)) hb) (Nat.le_trans hm.1 hR.2.2.1) (Nat.le_trans hm.2 hR.2.2.2) (pLook_ok hT hi) (fun q cA H1 hK2 hP hD hS => ?_)
  have a1 : va_RA s cA .long := (hK2.2 5 (cA, .long) rfl).2
  have a2 : va_RA s (tc 3) .long := (hK.1.2 3 (tc 3, .long) rfl).2
  have ec : cA = tc 3 := Option.some.inj ((show s.vm.findClass _ = some cA from a1).symm.trans (show s.vm.findClass _ = some (tc 3) from a2))
  subst ec
  have hel : pEl tc (pAdd ad sh.length q) (pSZ S sh.length) sh.length (.inl (3, n)) = .inl (tc 3, n, .inr (.inl (fun _ => 0))) := by
    show Sum.inl (tc 3, n, pArr (pSZ S sh.length) sh.length 3) = Sum.inl (tc 3, n, _)
    have : pArr (pSZ S sh.length) sh.length 3 = .inr (.inl (fun _ => 0)) := by simp [pArr, pSZ]
    rw [this]
  have kk := k p l e R s m args below meth c D tc ad0 A hT hC hR hK hO hA (pAdd ad sh.length q) H1 locs ls (hN.grow hlen hL hel (fun c9 fs9 he => by cases he) hP hD hS)
  rw [List.map_cons, pTr_adds hst] at kk
  have e1 : pTr (pAdd ad sh.length q) (.ref sh.length) = .ref q := by simp [pTr, pAdd]
  rw [e1] at kk
  exact kk
end PMADE
