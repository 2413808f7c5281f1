/-! rules of the pure machine: fields, arrays, constants, ends, calls -/
def pTyp (c : Nat) : Nat → FieldType := match c with
  | 0 => tyX0
  | 1 => tyX1
  | 2 => tyX3
  | 3 => tyX4
  | 4 => tyX5
  | 5 => tyX6
  | 6 => tyX7
  | 7 => tyX8
  | _ => tyX9
/-- a field site: in the class own the pool's entry idx is field j of the class c -/
def pFL (own : String) (idx c j : Nat) : Prop := ∃ (C : String) (T : u_T) (N : Nat), vwCl[c]? = some (C, T, N) ∧ j < N ∧
  (Cond.fieldLink own idx (T j).1 (T j).2.1 (T j).2.2.1 ∈ pGood ∨ ∃ h, Cond.fieldLinkNest own idx (T j).1 (T j).2.1 (T j).2.2.1 h ∈ pNest)
def pClOk (c : Nat) (q : vw_C) : Prop := (∀ w ∈ u_ws q.1 q.2.1 q.2.2, w ∈ pGood) ∧ (∀ k, k < q.2.2 → parseFieldDescriptor (q.2.1 k).2.2.1 = some (pTyp c k)) ∧ (∀ a, a < q.2.2 → ∀ b, b < q.2.2 → a ≠ b → (q.2.1 a).2.1 ≠ (q.2.1 b).2.1) ∧ (∀ a, a < q.2.2 → (q.2.1 a).1 = q.1)
theorem pCl0 : pClOk 0 (RX0, TX0, 7) := ⟨by decide +kernel, tyX0_ok, nmX0, by decide +kernel⟩
theorem pCl1 : pClOk 1 (RX1, TX1, 6) := ⟨by decide +kernel, tyX1_ok, nmX1, by decide +kernel⟩
theorem pCl2 : pClOk 2 (RX3, TX3, 3) := ⟨by decide +kernel, tyX3_ok, nmX3, by decide +kernel⟩
theorem pCl3 : pClOk 3 (RX4, TX4, 1) := ⟨by decide +kernel, tyX4_ok, nmX4, by decide +kernel⟩
theorem pCl4 : pClOk 4 (RX5, TX5, 3) := ⟨by decide +kernel, tyX5_ok, nmX5, by decide +kernel⟩
theorem pCl5 : pClOk 5 (RX6, TX6, 10) := ⟨by decide +kernel, tyX6_ok, nmX6, by decide +kernel⟩
theorem pCl6 : pClOk 6 (RX7, TX7, 5) := ⟨by decide +kernel, tyX7_ok, nmX7, by decide +kernel⟩
theorem pCl7 : pClOk 7 (RX8, TX8, 13) := ⟨by decide +kernel, tyX8_ok, nmX8, by decide +kernel⟩
theorem pCl {c : Nat} {q : vw_C} (h : vwCl[c]? = some q) : pClOk c q := by
  match c, h with
  | 0, h => cases h; exact pCl0
  | 1, h => cases h; exact pCl1
  | 2, h => cases h; exact pCl2
  | 3, h => cases h; exact pCl3
  | 4, h => cases h; exact pCl4
  | 5, h => cases h; exact pCl5
  | 6, h => cases h; exact pCl6
  | 7, h => cases h; exact pCl7
  | n + 8, h => cases h
theorem pNow.hP {n0 nL : Nat} {D : va_G} {tc ad0 ad : Nat → Nat} {A : Nat → Prop} {s : State} {H : Heap} {locs : List Loc} {ls : Array Slot} {L : PL} {sh : List PSh} {S : PSt} (h : pNow n0 nL D tc ad0 ad A s H locs ls L sh S) : va_P D vwCl (pW tc ad sh S) H := h.2.2.2.2.1
theorem pNow.hD {n0 nL : Nat} {D : va_G} {tc ad0 ad : Nat → Nat} {A : Nat → Prop} {s : State} {H : Heap} {locs : List Loc} {ls : Array Slot} {L : PL} {sh : List PSh} {S : PSt} (h : pNow n0 nL D tc ad0 ad A s H locs ls L sh S) : va_D A (pW tc ad sh S) := h.2.2.2.2.2.1
theorem pNow.hS {n0 nL : Nat} {D : va_G} {tc ad0 ad : Nat → Nat} {A : Nat → Prop} {s : State} {H : Heap} {locs : List Loc} {ls : Array Slot} {L : PL} {sh : List PSh} {S : PSt} (h : pNow n0 nL D tc ad0 ad A s H locs ls L sh S) : va_S A s.heap H locs := h.2.2.2.2.2.2.1
theorem pNow.wr {n0 nL : Nat} {D : va_G} {tc ad0 ad : Nat → Nat} {A : Nat → Prop} {s : State} {H H1 : Heap} {locs locs1 : List Loc} {ls : Array Slot} {L : PL} {sh : List PSh} {S S' : PSt} (h : pNow n0 nL D tc ad0 ad A s H locs ls L sh S) (hP : va_P D vwCl (pW tc ad sh S') H1) (hD : va_D A (pW tc ad sh S')) (hS : va_S A s.heap H1 locs1) : pNow n0 nL D tc ad0 ad A s H1 locs1 ls L sh S' :=
  ⟨h.1, h.2.1, h.2.2.1, h.2.2.2.1, hP, hD, hS, h.2.2.2.2.2.2.2⟩
section PH
variable {M : PM} {d mc ms n0 : Nat} {X : Nat × (Nat → Int32)} {Q : PQ} {pc : Nat} {L : PL} {st : List Value} {kc ks : Nat} {sh : List PSh} {S : PSt}
theorem pr_get {a c j idx f : Nat} {fs : List Nat} {v : Value} (hi : pLook M.2.2.2.2 pc = some (.getfield idx, 3)) (hF : pFL M.1.cls idx c j) (hs : sh[a]? = some (.inr (c, fs))) (hf : fs[j]? = some f) (hv : pFv S a j f = v) (k : pWP M d mc ms n0 X Q (pc + 3) L (v :: st) kc ks sh S) : pWP M d mc ms n0 X Q pc L (.ref a :: st) kc ks sh S := by
  intro p l e R s m args below meth c1 D tc ad0 A hT hC hR hK hO hA ad H locs ls hN
  obtain ⟨C, T, N, h1, h2, h3⟩ := hF
  obtain ⟨g1, g2, g3, g4⟩ := pCl h1
  have hts := hC.2.2.2.2.2.2.2
  have hv2 : (fs.mapIdx fun j f => pTr ad (pFv S a j f))[j]? = some (pTr ad v) := by rw [List.getElem?_mapIdx, hf, ← hv]; rfl
  have kk := k p l e R s m args below meth c1 D tc ad0 A hT hC hR hK hO hA ad H locs ls hN
  rcases h3 with h3 | ⟨host, h3⟩
  · exact va_get (D := D) (ci := c) (C := C) (T := T) (N := N) hC.1 hC.2.1 hts g1 hC.2.2.2.2.1 hK.1 hN.hP a (pW_at hs) h1 j h2 (hts _ h3) (fun _ h9 => h9) hv2 (pLook_ok hT hi) kk
  · exact va_getN (D := D) (ci := c) (C := C) (T := T) (N := N) hC.1 hC.2.1 hts g1 hC.2.2.2.2.1 hK.1 hN.hP a (pW_at hs) h1 j h2 (va_Nw.use (pNest_tab h3) (hK.2 _ h3)) (fun _ h9 => h9) hv2 (pLook_ok hT hi) kk
/-- a field is written: the contents change, or the shape (a reference); S2, sh2: what comes -/
theorem pr_put0 {a c j idx : Nat} {fs : List Nat} {v : Value} {sh2 : List PSh} {S2 : PSt} (hi : pLook M.2.2.2.2 pc = some (.putfield idx, 3)) (hF : pFL M.1.cls idx c j) (hs : sh[a]? = some (.inr (c, fs)))
    (hj : j < fs.length) (hfin : ∀ q, vwCl[c]? = some q → (q.2.1 j).2.2.2 = false ∨ ((q.2.1 j).2.2.2 = true ∧ q.1 = M.1.cls ∧ M.1.name = "<init>" ∧ Cond.fieldLink M.1.cls idx (q.2.1 j).1 (q.2.1 j).2.1 (q.2.1 j).2.2.1 ∈ pGood))
    (hn : ∀ ad : Nat → Nat, narrow (pTyp c j) (pTr ad v) = pTr ad v) (hfit : ∀ ad : Nat → Nat, fits (pTyp c j) (pTr ad v) = true)
    (hw : ∀ tc ad : Nat → Nat, (pW tc ad sh S).set a (ad a, .inr (c, (fs.mapIdx fun j f => pTr ad (pFv S a j f)).set j (pTr ad v))) = pW tc ad sh2 S2) (hl2 : sh2.length = sh.length) (hok : pShOk sh → pShOk sh2)
    (k : pWP M d mc ms n0 X Q (pc + 3) L st kc ks sh2 S2) : pWP M d mc ms n0 X Q pc L (v :: .ref a :: st) kc ks sh S := by
  intro p l e R s m args below meth c1 D tc ad0 A hT hC hR hK hO hA ad H locs ls hN
  obtain ⟨C, T, N, h1, h2, h3⟩ := hF
  obtain ⟨g1, g2, g3, g4⟩ := pCl h1
  have hts := hC.2.2.2.2.2.2.2
  have kk : ∀ (H1 : Heap) (locs1 : List Loc), va_P D vwCl ((pW tc ad sh S).set a (ad a, .inr (c, (fs.mapIdx fun j f => pTr ad (pFv S a j f)).set j (pTr ad v)))) H1 → va_D A ((pW tc ad sh S).set a (ad a, .inr (c, (fs.mapIdx fun j f => pTr ad (pFv S a j f)).set j (pTr ad v)))) → va_S A s.heap H1 locs1 → W p l e R s m args below meth c1 H1 locs1 kc ks (MQ below (pQc A D tc ad0 n0 Q) args s mc ms A) (F0 m (pc + 3) ls (st.map (pTr ad))) := by
    intro H1 locs1 hP hD hS
    rw [hw] at hP hD
    refine k p l e R s m args below meth c1 D tc ad0 A hT hC hR hK hO hA ad H1 locs1 ls ⟨?_, ?_, ?_, hok hN.2.2.2.1, hP, hD, hS, hN.ls⟩
    · rw [hl2]; exact hN.1
    · rw [hl2]; exact hN.2.1
    · rw [hl2]; exact hN.2.2.1
  have hjl : j < (fs.mapIdx fun j f => pTr ad (pFv S a j f)).length := by rw [List.length_mapIdx]; exact hj
  rcases hfin _ h1 with hf | ⟨hf, hc, hin, h3'⟩
  · rcases h3 with h3 | ⟨host, h3⟩
    · exact va_put (D := D) (ci := c) (C := C) (T := T) (N := N) hC.1 hC.2.1 hts g1 (pTyp c) g2 g3 hC.2.2.2.2.1 hK.1 hN.hP hN.hD hN.hS a (pW_at hs) h1 j h2 (hts _ h3) (fun _ h9 => h9) hf (g2 j h2) (hn ad) (hfit ad) hjl (pLook_ok hT hi) kk
    · exact va_putN (D := D) (ci := c) (C := C) (T := T) (N := N) hC.1 hC.2.1 hts g1 (pTyp c) g2 g3 hC.2.2.2.2.1 hK.1 hN.hP hN.hD hN.hS a (pW_at hs) h1 j h2 (va_Nw.use (pNest_tab h3) (hK.2 _ h3)) (fun _ h9 => h9) hf (g2 j h2) (hn ad) (hfit ad) hjl (pLook_ok hT hi) kk
  · exact va_putF (D := D) (ci := c) (C := C) (T := T) (N := N) hC.1 hC.2.1 hts g1 (pTyp c) g2 g3 hC.2.2.2.2.1 hK.1 hN.hP hN.hD hN.hS a (pW_at hs) h1 j h2 (hts _ h3') (fun _ h9 => h9) hf (hC.2.2.2.2.2.2.1 hin) ((g4 j h2).trans hc) (g2 j h2) (hn ad) (hfit ad) hjl (pLook_ok hT hi) kk
theorem pFs_set {ad : Nat → Nat} {S S' : PSt} {a j : Nat} {fs : List Nat} {v : Value} {f : Nat} (hf : fs[j]? = some f) (hv : pFv S' a j f = v) (ho : ∀ i g, i ≠ j → pFv S' a i g = pFv S a i g) :
    (fs.mapIdx fun j f => pTr ad (pFv S a j f)).set j (pTr ad v) = fs.mapIdx fun j f => pTr ad (pFv S' a j f) := by
  have hj : j < fs.length := (List.getElem?_eq_some_iff.mp hf).1
  apply List.ext_getElem?
  intro i
  by_cases hi : i = j
  · subst hi
    rw [List.getElem?_set_self (by rw [List.length_mapIdx]; exact hj), List.getElem?_mapIdx, hf, ← hv]
    rfl
  · rw [List.getElem?_set_ne (fun q => hi q.symm), List.getElem?_mapIdx, List.getElem?_mapIdx]
    cases hg : fs[i]? with
    | none => rfl
    | some g => show some (pTr ad (pFv S a i g)) = some (pTr ad (pFv S' a i g)); rw [ho i g hi]
theorem pr_putI {a c j idx : Nat} {fs : List Nat} {x : Int32} (hi : pLook M.2.2.2.2 pc = some (.putfield idx, 3)) (hF : pFL M.1.cls idx c j) (hs : sh[a]? = some (.inr (c, fs))) (hf : fs[j]? = some 0)
    (hfin : ∀ q, vwCl[c]? = some q → (q.2.1 j).2.2.2 = false ∨ ((q.2.1 j).2.2.2 = true ∧ q.1 = M.1.cls ∧ M.1.name = "<init>" ∧ Cond.fieldLink M.1.cls idx (q.2.1 j).1 (q.2.1 j).2.1 (q.2.1 j).2.2.1 ∈ pGood))
    (hn : narrow (pTyp c j) (.int x) = .int x) (hfit : fits (pTyp c j) (.int x) = true) (k : pWP M d mc ms n0 X Q (pc + 3) L st kc ks sh (pSI S a j x)) : pWP M d mc ms n0 X Q pc L (.int x :: .ref a :: st) kc ks sh S := by
  refine pr_put0 (v := .int x) hi hF hs (List.getElem?_eq_some_iff.mp hf).1 hfin (fun _ => hn) (fun _ => hfit) (fun tc ad => ?_) rfl (fun h => h) k
  rw [pFs_set (S' := pSI S a j x) hf (by simp [pFv, pSI, pU]) (fun i g hig => by unfold pFv; split <;> simp [pSI, pU, hig])]
  exact pW_set hs rfl (fun b hb => ⟨pU_ne hb, rfl, rfl, rfl⟩)
theorem pr_putF {a c j idx : Nat} {fs : List Nat} {x : UInt32} (hi : pLook M.2.2.2.2 pc = some (.putfield idx, 3)) (hF : pFL M.1.cls idx c j) (hs : sh[a]? = some (.inr (c, fs))) (hf : fs[j]? = some 1)
    (hfin : ∀ q, vwCl[c]? = some q → (q.2.1 j).2.2.2 = false ∨ ((q.2.1 j).2.2.2 = true ∧ q.1 = M.1.cls ∧ M.1.name = "<init>" ∧ Cond.fieldLink M.1.cls idx (q.2.1 j).1 (q.2.1 j).2.1 (q.2.1 j).2.2.1 ∈ pGood))
    (hn : narrow (pTyp c j) (.float x) = .float x) (hfit : fits (pTyp c j) (.float x) = true) (k : pWP M d mc ms n0 X Q (pc + 3) L st kc ks sh (pSF S a j x)) : pWP M d mc ms n0 X Q pc L (.float x :: .ref a :: st) kc ks sh S := by
  refine pr_put0 (v := .float x) hi hF hs (List.getElem?_eq_some_iff.mp hf).1 hfin (fun _ => hn) (fun _ => hfit) (fun tc ad => ?_) rfl (fun h => h) k
  rw [pFs_set (S' := pSF S a j x) hf (by simp [pFv, pSF, pU]) (fun i g hig => by unfold pFv; split <;> simp [pSF, pU, hig])]
  exact pW_set hs rfl (fun b hb => ⟨rfl, pU_ne hb, rfl, rfl⟩)
/-- a reference comes to a field (a constructor's) -/
theorem pr_putR {a c j idx r : Nat} {fs : List Nat} (hi : pLook M.2.2.2.2 pc = some (.putfield idx, 3)) (hF : pFL M.1.cls idx c j) (hs : sh[a]? = some (.inr (c, fs))) (hj : j < fs.length)
    (hfin : ∀ q, vwCl[c]? = some q → (q.2.1 j).2.2.2 = false ∨ ((q.2.1 j).2.2.2 = true ∧ q.1 = M.1.cls ∧ M.1.name = "<init>" ∧ Cond.fieldLink M.1.cls idx (q.2.1 j).1 (q.2.1 j).2.1 (q.2.1 j).2.2.1 ∈ pGood))
    (hn : ∀ b : Nat, narrow (pTyp c j) (.ref b) = .ref b) (hfit : ∀ b : Nat, fits (pTyp c j) (.ref b) = true) (hr : r < sh.length) (k : pWP M d mc ms n0 X Q (pc + 3) L st kc ks (sh.set a (.inr (c, fs.set j (r + 3)))) S) : pWP M d mc ms n0 X Q pc L (.ref r :: .ref a :: st) kc ks sh S := by
  refine pr_put0 (v := .ref r) hi hF hs hj hfin (fun ad => hn (ad r)) (fun ad => hfit (ad r)) (fun tc ad => ?_) (List.length_set ..) (fun h => ?_) k
  · refine pW_setSh hs ?_
    show Sum.inr (c, (fs.set j (r + 3)).mapIdx fun j f => pTr ad (pFv S a j f)) = Sum.inr (c, _)
    have : ((fs.set j (r + 3)).mapIdx fun j f => pTr ad (pFv S a j f)) = (fs.mapIdx fun j f => pTr ad (pFv S a j f)).set j (.ref (ad r)) := by
      apply List.ext_getElem?
      intro i
      by_cases hij : i = j
      · subst hij
        rw [List.getElem?_mapIdx, List.getElem?_set_self hj, List.getElem?_set_self (by rw [List.length_mapIdx]; exact hj)]
        rfl
      · rw [List.getElem?_mapIdx, List.getElem?_set_ne (fun q => hij q.symm), List.getElem?_set_ne (fun q => hij q.symm), List.getElem?_mapIdx]
    rw [this]
    rfl
  · intro k9 c9 fs9 h9 r9 hr9
    rw [List.length_set]
    by_cases hk : k9 = a
    · subst hk
      rw [List.getElem?_set_self (List.getElem?_eq_some_iff.mp hs).1] at h9
      cases h9
      rcases List.mem_or_eq_of_mem_set hr9 with q | q
      · exact h _ _ _ hs r9 q
      · have : r9 = r := by omega
        rw [this]; exact hr
    · rw [List.getElem?_set_ne (fun q => hk q.symm)] at h9
      exact h _ _ _ h9 r9 hr9
end PH
