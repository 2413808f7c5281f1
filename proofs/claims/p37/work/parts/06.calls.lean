/-! the pure machine: a contract from a walk, calls -/
/-- the locals at a method's entry -/
def pArgs (av : List Value) : PL := match av with
  | [] => []
  | v :: vs => if v.category = 2 then some v :: none :: pArgs vs else some v :: pArgs vs
def pL0 (n : Nat) (av : List Value) : PL := pArgs av ++ List.replicate (n - (pArgs av).length) none
theorem pArgs_in (ad : Nat → Nat) : ∀ (av : List Value) (i j : Nat) (v : Value), (pArgs av)[j]? = some (some v) → (i + j, pTr ad v) ∈ lv_args i (av.map (pTr ad)) := by
  intro av
  induction av with
  | nil => intro i j v h; cases h
  | cons w vs ih =>
    intro i j v h
    show (i + j, pTr ad v) ∈ (i, pTr ad w) :: lv_args (if (pTr ad w).category = 2 then i + 2 else i + 1) (vs.map (pTr ad))
    rw [pTr_cat]
    unfold pArgs at h
    by_cases hc : w.category = 2
    · rw [if_pos hc] at h ⊢
      match j, h with
      | 0, h => cases h; exact List.mem_cons_self
      | 1, h => cases h
      | j + 2, h =>
        have := ih (i + 2) j v h
        rw [show i + (j + 2) = i + 2 + j by omega]
        exact List.mem_cons_of_mem _ this
    · rw [if_neg hc] at h ⊢
      match j, h with
      | 0, h => cases h; exact List.mem_cons_self
      | j + 1, h =>
        have := ih (i + 1) j v h
        rw [show i + (j + 1) = i + 1 + j by omega]
        exact List.mem_cons_of_mem _ this
theorem pArgs_len (ad : Nat → Nat) (av : List Value) : (lg_sl (av.map (pTr ad))).length = (pArgs av).length := by
  induction av with
  | nil => rfl
  | cons w vs ih =>
    unfold lg_sl at ih ⊢
    rw [List.map_cons, List.flatMap_cons, List.length_append, ih]
    have e : pArgs (w :: vs) = if w.category = 2 then some w :: none :: pArgs vs else some w :: pArgs vs := rfl
    rw [e, pTr_cat]
    by_cases hc : w.category = 2
    · rw [if_pos hc, if_pos hc]; simp; omega
    · rw [if_neg hc, if_neg hc]; simp; omega
theorem pSpec.of {M : PM} {d mc ms : Nat} {av : List Value} {X : Nat × (Nat → Int32)} {sh : List PSh} {S : PSt} {Q : PQ} (hy : plainName M.1.cls = true) (hT : pTabOk M.2.1 M.2.2.2.2 = true) (ha : (pArgs av).length ≤ M.2.2.1)
    (h : pWP M d mc ms sh.length X Q 0 (pL0 M.2.2.1 av) [] 0 0 sh S) : pSpec M d mc ms av X sh S Q := by
  intro h1000 hok l D tc ad sz
  refine Met.ofW (cc := M.2.1) (maxL := M.2.2.1) (ret := M.2.2.2.1) hy rfl ?_
  intro p e s m args below meth c s₁ B hml hv
  obtain ⟨rfl, hsz, hP, hK, hD0, hO⟩ := hv
  have hts := atoms_spec (ws := pWs M) B.pre
  subst hsz
  rw [lg_entry_eq]
  have hl := lv_entry (av.map (pTr ad)) (n := M.2.2.1) (by rw [pArgs_len]; exact ha)
  have hC : pCtx M p s m (av.map (pTr ad)).toArray meth c := ⟨B.exec, B.bytes, hml, B.returns, findClass_of_methodNamed B.named, B.notSynchronized, fun hi => (name_of_methodNamed B.named B.method).1.trans hi, fun w hw => hts w (List.mem_cons_of_mem _ hw)⟩
  refine h p l e _ s m _ below meth c D tc ad (va_A (pW tc ad sh S) s.heap.size) hT hC ⟨Nat.le_refl _, Nat.le_refl _, Nat.le_refl _, Nat.le_refl _⟩ hK hO (fun q hq => Or.inr hq) ad s.heap [] _ ⟨fun _ _ => rfl, Nat.le_refl _, h1000, hok, hP, hD0.self, va_S.rf, ?_⟩
  refine ⟨hl.1, hl.2.1, fun q hq => hl.2.2 q ?_⟩
  obtain ⟨j, w⟩ := q
  obtain ⟨v, h1, rfl⟩ := pAs_mem.mp hq
  have h2 : (pArgs av)[j]? = some (some v) := by
    unfold pL0 at h1
    by_cases hj : j < (pArgs av).length
    · rw [List.getElem?_append_left hj] at h1; exact h1
    · rw [List.getElem?_append_right (by omega), List.getElem?_replicate] at h1
      split at h1 <;> cases h1
  have h3 := pArgs_in ad av 0 j v h2
  rwa [Nat.zero_add] at h3
/-- what a callee must be among the words -/
def pCallee (M : PM) (n : Nat) : Prop := (M.1.cls ≠ "java/lang/invoke/MethodHandle" ∧ M.1.cls ≠ "java/lang/invoke/VarHandle" ∧ (parseMethodDescriptor M.1.desc).map (fun d => d.parameters.length) = some n) ∧ Cond.code M.1 M.2.1 M.2.2.1 M.2.2.2.1 ∈ pGood ∧ Cond.initialized M.1.cls ∈ pGood ∧ M.2.2.1 ≤ 20
/-- a call site: in the class own the pool's entry idx is the method M -/
def pML (own : String) (idx : Nat) (M : PM) : Prop := Cond.methodLink own idx M.1 ∈ pGood ∨ ∃ h, Cond.methodLinkNest own idx M.1 h ∈ pNest
theorem pWs_good {M : PM} {n : Nat} (h : pCallee M n) : GoodIn pGood (pWs M) := pGood_ok fun w hw => by
  rcases List.mem_cons.mp hw with rfl | hw
  · exact h.2.1
  · exact hw
theorem pPc_blind {av : List Value} {D : va_G} {tc ad : Nat → Nat} {X : Nat × (Nat → Int32)} {sh : List PSh} {S : PSt} {sz : Nat} : FrameBlind (pPc av D tc ad X sh S sz) := fun a U g mk q => by
  obtain ⟨q0, q1, qP, qK, qD, qO⟩ := q
  exact ⟨q0, q1, qP, pKK.same (s := U) (U := U.calling g mk a) rfl qK, qD, pRO.same (u := U) (U := U.calling g mk a) rfl qO⟩
theorem pA_in {tc ad : Nat → Nat} {sh : List PSh} {S : PSt} {A : Nat → Prop} {s : State} {H : Heap} {locs : List Loc} (hD : va_D A (pW tc ad sh S)) (hS : va_S A s.heap H locs) (hA : ∀ q, s.heap.size ≤ q → A q) : ∀ q, va_A (pW tc ad sh S) H.size q → A q := by
  intro q h
  rcases h with ⟨k, e, h⟩ | h
  · exact hD.2 k (q, e) h
  · exact hA q (Nat.le_trans hS.1 h)
theorem pPc_at {av : List Value} {n0 nL : Nat} {D : va_G} {tc ad0 ad : Nat → Nat} {X : Nat × (Nat → Int32)} {A : Nat → Prop} {s : State} {H : Heap} {locs : List Loc} {ls : Array Slot} {L : PL} {sh : List PSh} {S : PSt} (hN : pNow n0 nL D tc ad0 ad A s H locs ls L sh S) (hK : pKK D tc s) (hO : pRO ad0 X A s s.heap) (hA : ∀ q, s.heap.size ≤ q → A q) :
    ∀ U : State, U.heap = H → s.WarmedH U.vm → pPc av D tc ad X sh S H.size (av.map (pTr ad)).toArray U := by
  intro U hU hW
  refine ⟨rfl, by rw [hU], by rw [hU]; exact hN.hP, hK.moved hW, hN.hD.weaken (fun _ _ _ _ => trivial), ?_⟩
  rw [hU]
  have h1 : pRO ad X A s s.heap := pRO.ads (fun k hk => hN.1 k (fun q => by have := hN.2.2.1; omega)) hO
  exact ((h1.kept hN.hS.1 hN.hS.2.1).warm hW).narrow (pA_in hN.hD hN.hS hA)
/-- behind a call: the callee's end is the caller's next state -/
theorem pr_back {M : PM} {d mc ms n0 : Nat} {X : Nat × (Nat → Int32)} {Q Q1 : PQ} {pc kc ks mc1 ms1 : Nat} {L : PL} {st rest : List Value} {sh : List PSh} {S : PSt} {p : Program} {l : Launch} {e : Env} {R : Room} {s : State} {m : MethodId} {args : Array Value} {below : List Frame} {meth : Method} {c : Code} {D : va_G} {tc ad0 : Nat → Nat} {A : Nat → Prop} {ad : Nat → Nat} {H : Heap} {locs : List Loc} {ls : Array Slot} {a9 : Array Value}
    (hT : pTabOk M.2.1 M.2.2.2.2 = true) (hC : pCtx M p s m args meth c) (hR : d ≤ R.frames ∧ 39 * d ≤ R.locals ∧ mc ≤ R.cells ∧ ms ≤ R.slots) (hK : pKK D tc s) (hO : pRO ad0 X A s s.heap) (hA : ∀ q, s.heap.size ≤ q → A q) (hN : pNow n0 M.2.2.1 D tc ad0 ad A s H locs ls L sh S)
    (hrun : va_Run p l e R s m args below meth c H locs kc ks mc1 ms1 (F0 m pc ls st) (rest.map (pTr ad)) (pQc (va_A (pW tc ad sh S) H.size) D tc ad sh.length Q1 a9) (va_A (pW tc ad sh S) H.size))
    (hsame : ∀ r sh2 S2, Q1 r sh2 S2 → (∀ ad2 : Nat → Nat, (∀ k, ¬ (sh.length ≤ k ∧ k < sh2.length) → ad2 k = ad k) → rest.map (pTr ad2) = rest.map (pTr ad) ∧ ∀ (j : Nat) (v : Value), L[j]? = some (some v) → pTr ad2 v = pTr ad v))
    (k : ∀ r sh2 S2, Q1 r sh2 S2 → pWP M d mc ms n0 X Q (pc + 3) L (r.toList ++ rest) (kc + mc1) (ks + ms1) sh2 S2) : W p l e R s m args below meth c H locs kc ks (MQ below (pQc A D tc ad0 n0 Q) args s mc ms A) (F0 m pc ls st) := by
  intro T hT9 X9
  obtain ⟨v, st₀, t, T', L9, h0, X', hL, e1, e2, ⟨⟨r, sh2, S2, ad2, hag, hn, h1000, hok, hv, hq, hP1, hD1⟩, hz, hk⟩, hst⟩ := hrun T hT9 X9
  cases hv
  rw [h0] at hz hk
  have hAin := pA_in hN.hD hN.hS hA
  have hS2 : va_S A s.heap T'.heap (locs ++ L9) := ⟨Nat.le_trans hN.hS.1 (by rw [e1]; exact hz), fun q h1 h2 => by rw [e1, hk q (Nat.lt_of_lt_of_le h1 hN.hS.1) (fun z => h2 (hAin q z))]; exact hN.hS.2.1 q h1 h2, fun q hq => by
      rcases List.mem_append.mp hq with h | h
      · exact hN.hS.2.2 q h
      · exact hAin _ (hL q h)⟩
  obtain ⟨hr1, hr2⟩ := hsame r sh2 S2 hq ad2 hag
  have hls : lv_has ls M.2.2.1 (pAs ad2 L) := by
    refine ⟨hN.ls.1, hN.ls.2.1, fun q hq9 => ?_⟩
    obtain ⟨j, w⟩ := q
    obtain ⟨v, h1, rfl⟩ := pAs_mem.mp hq9
    rw [hr2 j v h1]
    exact hN.ls.2.2 (j, pTr ad v) (pAs_mem.mpr ⟨v, h1, rfl⟩)
  have hN2 : pNow n0 M.2.2.1 D tc ad0 ad2 A s T'.heap (locs ++ L9) ls L sh2 S2 := by
    refine ⟨fun k hk9 => ?_, Nat.le_trans hN.2.1 hn, h1000, hok, by rw [e1]; exact hP1, hD1.weaken (fun k q _ h => hAin q.1 h), hS2, hls⟩
    have a1 : ad2 k = ad k := hag k (fun q => hk9 ⟨Nat.le_trans hN.2.1 q.1, q.2⟩)
    rw [a1]
    exact hN.1 k (fun q => hk9 ⟨q.1, Nat.lt_of_lt_of_le q.2 hn⟩)
  obtain ⟨t2, a1, b1⟩ := k r sh2 S2 hq p l e R s m args below meth c D tc ad0 A hT hC hR hK hO hA ad2 T'.heap (locs ++ L9) ls hN2 T' rfl X'
  refine ⟨t2, hst t2 ?_, b1⟩
  have he : (r.map (pTr ad2)).toList ++ rest.map (pTr ad) = (r.toList ++ rest).map (pTr ad2) := by
    rw [List.map_append, hr1]
    cases r <;> rfl
  show Steps p.tables e below (T'.setTop { F0 m pc ls st with pc := pc + 3, stack := (r.map (pTr ad2)).toList ++ rest.map (pTr ad) }) t2
  rw [he]
  exact a1
theorem pCat {ad : Nat → Nat} {rest : List Value} (h : (rest.map fun v => v.category).sum ≤ 8) : ((rest.map (pTr ad)).map fun v => v.category).sum ≤ 8 := by
  have : (rest.map (pTr ad)).map (fun v => v.category) = rest.map (fun v => v.category) := by
    rw [List.map_map]
    exact List.map_congr_left fun v _ => pTr_cat ad v
  rw [this]
  exact h
section PCALL
variable {M M1 : PM} {d d1 mc ms n0 : Nat} {X : Nat × (Nat → Int32)} {Q Q1 : PQ} {pc : Nat} {L : PL} {rest : List Value} {kc ks mc1 ms1 : Nat} {sh : List PSh} {S : PSt} {idx n : Nat} {as : List Value}
/-- a static call -/
theorem pr_callS (hi : pLook M.2.2.2.2 pc = some (.invokestatic idx, 3)) (hce : pCallee M1 n) (hml : pML M.1.cls idx M1) (hst : Cond.static M1.1 ∈ pGood) (hn : as.length = n) (hd : d1 + 1 ≤ d) (hcat : (rest.map fun v => v.category).sum ≤ 8) (hm : kc + mc1 ≤ mc ∧ ks + ms1 ≤ ms)
    (hsp : pSpec M1 d1 mc1 ms1 as X sh S Q1)
    (hsame : ∀ r sh2 S2, Q1 r sh2 S2 → (∀ ad ad2 : Nat → Nat, (∀ k, ¬ (sh.length ≤ k ∧ k < sh2.length) → ad2 k = ad k) → rest.map (pTr ad2) = rest.map (pTr ad) ∧ ∀ (j : Nat) (v : Value), L[j]? = some (some v) → pTr ad2 v = pTr ad v))
    (k : ∀ r sh2 S2, Q1 r sh2 S2 → pWP M d mc ms n0 X Q (pc + 3) L (r.toList ++ rest) (kc + mc1) (ks + ms1) sh2 S2) : pWP M d mc ms n0 X Q pc L (as.reverse ++ rest) kc ks sh S := by
  intro p l e R s m args below meth c D tc ad0 A hT hC hR hK hO hA ad H locs ls hN
  have hts := hC.2.2.2.2.2.2.2
  have hM := hsp hN.2.2.1 hN.2.2.2.1 l D tc ad H.size
  have hfix : CallFix p m c M.2.1 M.2.2.1 s args pGood M.1.cls := ⟨hC.1, hC.2.1, hC.2.2.1, hC.2.2.2.2.1, hts⟩
  have hRm : (pRoom d1 mc1 ms1).frames + 1 ≤ R.frames ∧ 8 + (M1.2.2.1 + 11) + (pRoom d1 mc1 ms1).locals ≤ R.locals := by
    refine ⟨Nat.le_trans hd hR.1, ?_⟩
    show 8 + (M1.2.2.1 + 11) + 39 * d1 ≤ R.locals
    have h20 := hce.2.2.2
    have := hR.2.1
    omega
  have hstk : (as.reverse ++ rest).map (pTr ad) = (as.map (pTr ad)).reverse ++ rest.map (pTr ad) := by rw [List.map_append, List.map_reverse]
  have hf : kc + mc1 ≤ R.cells ∧ ks + ms1 ≤ R.slots := ⟨Nat.le_trans hm.1 hR.2.2.1, Nat.le_trans hm.2 hR.2.2.2⟩
  have hlen : (as.map (pTr ad)).length = n := by rw [List.length_map]; exact hn
  rcases hml with hml | ⟨host, hml⟩
  · exact pr_back hT hC hR hK hO hA hN (va_runS hfix hM ⟨callB_of n hts (pWs_good hce) rfl rfl rfl (hts _ hce.2.2.1) (hts _ hml) hce.1 hRm, hts _ hst⟩ ⟨pPc_blind, pPc_at hN hK hO hA⟩ rfl hlen hN.ls.1 hstk (lv_room (pCat hcat)) (pLook_ok hT hi) hf) (fun r sh2 S2 h ad2 ha => hsame r sh2 S2 h ad ad2 ha) k
  · exact pr_back hT hC hR hK hO hA hN (va_runSN hfix hM ⟨va_cnB n hts (pWs_good hce) rfl rfl rfl (hK.2 _ hml) (hts _ hce.2.2.1) hce.1 hRm, hts _ hst, trivial⟩ ⟨pPc_blind, pPc_at hN hK hO hA⟩ rfl hlen hN.ls.1 hstk (lv_room (pCat hcat)) (pLook_ok hT hi) hf) (fun r sh2 S2 h ad2 ha => hsame r sh2 S2 h ad ad2 ha) k
/-- a call of an object's method -/
theorem pr_callV {b cI : Nat} {fs : List Nat} {qc : vw_C} (hi : pLook M.2.2.2.2 pc = some (.invokevirtual idx, 3)) (hce : pCallee M1 n) (hml : pML M.1.cls idx M1) (hin : Cond.instanceMethod M1.1 ∈ pGood) (hse : Cond.selects M1.1.cls M1.1 M1.1 ∈ pGood) (hb : sh[b]? = some (.inr (cI, fs))) (hcl : vwCl[cI]? = some qc) (hqc : qc.1 = M1.1.cls) (hn : as.length = n) (hd : d1 + 1 ≤ d) (hcat : (rest.map fun v => v.category).sum ≤ 8) (hm : kc + mc1 ≤ mc ∧ ks + ms1 ≤ ms)
    (hsp : pSpec M1 d1 mc1 ms1 (.ref b :: as) X sh S Q1)
    (hsame : ∀ r sh2 S2, Q1 r sh2 S2 → (∀ ad ad2 : Nat → Nat, (∀ k, ¬ (sh.length ≤ k ∧ k < sh2.length) → ad2 k = ad k) → rest.map (pTr ad2) = rest.map (pTr ad) ∧ ∀ (j : Nat) (v : Value), L[j]? = some (some v) → pTr ad2 v = pTr ad v))
    (k : ∀ r sh2 S2, Q1 r sh2 S2 → pWP M d mc ms n0 X Q (pc + 3) L (r.toList ++ rest) (kc + mc1) (ks + ms1) sh2 S2) : pWP M d mc ms n0 X Q pc L (as.reverse ++ .ref b :: rest) kc ks sh S := by
  intro p l e R s m args below meth c D tc ad0 A hT hC hR hK hO hA ad H locs ls hN
  have hts := hC.2.2.2.2.2.2.2
  have hM := hsp hN.2.2.1 hN.2.2.2.1 l D tc ad H.size
  have hfix : CallFix p m c M.2.1 M.2.2.1 s args pGood M.1.cls := ⟨hC.1, hC.2.1, hC.2.2.1, hC.2.2.2.2.1, hts⟩
  have hRm : (pRoom d1 mc1 ms1).frames + 1 ≤ R.frames ∧ 8 + (M1.2.2.1 + 11) + (pRoom d1 mc1 ms1).locals ≤ R.locals := by
    refine ⟨Nat.le_trans hd hR.1, ?_⟩
    show 8 + (M1.2.2.1 + 11) + 39 * d1 ≤ R.locals
    have h20 := hce.2.2.2
    have := hR.2.1
    omega
  have hstk : (as.reverse ++ .ref b :: rest).map (pTr ad) = (as.map (pTr ad)).reverse ++ .ref (ad b) :: rest.map (pTr ad) := by rw [List.map_append, List.map_reverse]; rfl
  have hf : kc + mc1 ≤ R.cells ∧ ks + ms1 ≤ R.slots := ⟨Nat.le_trans hm.1 hR.2.2.1, Nat.le_trans hm.2 hR.2.2.2⟩
  have hlen : (as.map (pTr ad)).length = n := by rw [List.length_map]; exact hn
  have hpv : PreV s H M1.1.cls (ad b) (pPc (.ref b :: as) D tc ad X sh S H.size) (as.map (pTr ad)) := ⟨pPc_blind, by rw [← hqc]; exact va_recv hK.1 hN.hP hcl (pW_at hb), pPc_at (av := .ref b :: as) hN hK hO hA⟩
  rcases hml with hml | ⟨host, hml⟩
  · exact pr_back hT hC hR hK hO hA hN (va_runV hfix hM ⟨callB_of n hts (pWs_good hce) rfl rfl rfl (hts _ hce.2.2.1) (hts _ hml) hce.1 hRm, hts _ hin, hts _ hse⟩ hpv rfl hlen hN.ls.1 hstk (lv_room (pCat hcat)) (pLook_ok hT hi) hf) (fun r sh2 S2 h ad2 ha => hsame r sh2 S2 h ad ad2 ha) k
  · exact pr_back hT hC hR hK hO hA hN (va_runVN hfix hM ⟨va_cnB n hts (pWs_good hce) rfl rfl rfl (hK.2 _ hml) (hts _ hce.2.2.1) hce.1 hRm, hts _ hin, hts _ hse⟩ hpv rfl hlen hN.ls.1 hstk (lv_room (pCat hcat)) (pLook_ok hT hi) hf) (fun r sh2 S2 h ad2 ha => hsame r sh2 S2 h ad ad2 ha) k
/-- a constructor's call -/
theorem pr_callI {b : Nat} (hi : pLook M.2.2.2.2 pc = some (.invokespecial idx, 3)) (hce : pCallee M1 n) (hml : pML M.1.cls idx M1) (hin : Cond.instanceMethod M1.1 ∈ pGood) (hnm : M1.1.name = "<init>") (hrt : M1.2.2.2.1 = none) (hn : as.length = n) (hd : d1 + 1 ≤ d) (hcat : (rest.map fun v => v.category).sum ≤ 8) (hm : kc + mc1 ≤ mc ∧ ks + ms1 ≤ ms)
    (hsp : pSpec M1 d1 mc1 ms1 (.ref b :: as) X sh S Q1)
    (hsame : ∀ r sh2 S2, Q1 r sh2 S2 → (∀ ad ad2 : Nat → Nat, (∀ k, ¬ (sh.length ≤ k ∧ k < sh2.length) → ad2 k = ad k) → rest.map (pTr ad2) = rest.map (pTr ad) ∧ ∀ (j : Nat) (v : Value), L[j]? = some (some v) → pTr ad2 v = pTr ad v))
    (k : ∀ r sh2 S2, Q1 r sh2 S2 → pWP M d mc ms n0 X Q (pc + 3) L (r.toList ++ rest) (kc + mc1) (ks + ms1) sh2 S2) : pWP M d mc ms n0 X Q pc L (as.reverse ++ .ref b :: rest) kc ks sh S := by
  intro p l e R s m args below meth c D tc ad0 A hT hC hR hK hO hA ad H locs ls hN
  have hts := hC.2.2.2.2.2.2.2
  have hM := hsp hN.2.2.1 hN.2.2.2.1 l D tc ad H.size
  have hfix : CallFix p m c M.2.1 M.2.2.1 s args pGood M.1.cls := ⟨hC.1, hC.2.1, hC.2.2.1, hC.2.2.2.2.1, hts⟩
  have hRm : (pRoom d1 mc1 ms1).frames + 1 ≤ R.frames ∧ 8 + (M1.2.2.1 + 11) + (pRoom d1 mc1 ms1).locals ≤ R.locals := by
    refine ⟨Nat.le_trans hd hR.1, ?_⟩
    show 8 + (M1.2.2.1 + 11) + 39 * d1 ≤ R.locals
    have h20 := hce.2.2.2
    have := hR.2.1
    omega
  have hstk : (as.reverse ++ .ref b :: rest).map (pTr ad) = (as.map (pTr ad)).reverse ++ .ref (ad b) :: rest.map (pTr ad) := by rw [List.map_append, List.map_reverse]; rfl
  have hf : kc + mc1 ≤ R.cells ∧ ks + ms1 ≤ R.slots := ⟨Nat.le_trans hm.1 hR.2.2.1, Nat.le_trans hm.2 hR.2.2.2⟩
  have hlen : (as.map (pTr ad)).length = n := by rw [List.length_map]; exact hn
  have hps : PreS s H (pPc (.ref b :: as) D tc ad X sh S H.size) (.ref (ad b) :: as.map (pTr ad)) := ⟨pPc_blind, pPc_at (av := .ref b :: as) hN hK hO hA⟩
  have hgd : pWs M1 = Cond.code M1.1 M1.2.1 M1.2.2.1 none :: pGood := by unfold pWs; rw [hrt]
  rcases hml with hml | ⟨host, hml⟩
  · exact pr_back hT hC hR hK hO hA hN (va_runI hfix hM ⟨callB_of n hts (pWs_good hce) hgd rfl rfl (hts _ hce.2.2.1) (hts _ hml) hce.1 hRm, hnm, hts _ hin⟩ hps rfl hlen hN.ls.1 hstk (lv_room (pCat hcat)) (pLook_ok hT hi) hf) (fun r sh2 S2 h ad2 ha => hsame r sh2 S2 h ad ad2 ha) k
  · exact pr_back hT hC hR hK hO hA hN (va_runIN hfix hM ⟨va_cnB n hts (pWs_good hce) hgd rfl rfl (hK.2 _ hml) (hts _ hce.2.2.1) hce.1 hRm, hnm, hts _ hin⟩ hps rfl hlen hN.ls.1 hstk (lv_room (pCat hcat)) (pLook_ok hT hi) hf) (fun r sh2 S2 h ad2 ha => hsame r sh2 S2 h ad ad2 ha) k
/-- a callee that makes nothing leaves all addresses -/
theorem pSame0 {sh2 : List PSh} (h : sh2.length = sh.length) : ∀ ad ad2 : Nat → Nat, (∀ k, ¬ (sh.length ≤ k ∧ k < sh2.length) → ad2 k = ad k) → rest.map (pTr ad2) = rest.map (pTr ad) ∧ ∀ (j : Nat) (v : Value), L[j]? = some (some v) → pTr ad2 v = pTr ad v := by
  intro ad ad2 ha
  have : ad2 = ad := funext fun k => ha k (by omega)
  rw [this]
  exact ⟨rfl, fun _ _ _ => rfl⟩
def pOld (n : Nat) (v : Value) : Bool := match v with
  | .ref r => decide (r < n) || decide (1000 ≤ r)
  | _ => true
def pOldL (n : Nat) (o : Option Value) : Bool := match o with
  | some v => pOld n v
  | none => true
theorem pSameN {sh2 : List PSh} (h2 : sh2.length < 1000) (hr : rest.all (pOld sh.length) = true) (hL : L.all (pOldL sh.length) = true) : ∀ ad ad2 : Nat → Nat, (∀ k, ¬ (sh.length ≤ k ∧ k < sh2.length) → ad2 k = ad k) → rest.map (pTr ad2) = rest.map (pTr ad) ∧ ∀ (j : Nat) (v : Value), L[j]? = some (some v) → pTr ad2 v = pTr ad v := by
  intro ad ad2 ha
  have key : ∀ v : Value, pOld sh.length v = true → pTr ad2 v = pTr ad v := by
    intro v hv
    cases v <;> try rfl
    rename_i r
    simp only [pOld, Bool.or_eq_true, decide_eq_true_eq] at hv
    show Value.ref (ad2 r) = Value.ref (ad r)
    have hne : ¬ (sh.length ≤ r ∧ r < sh2.length) := fun q => hv.elim (fun h => absurd q.1 (Nat.not_le.mpr h)) (fun h => absurd (Nat.lt_trans q.2 h2) (Nat.not_lt.mpr h))
    rw [ha r hne]
  refine ⟨List.map_congr_left fun v hv => key v (List.all_eq_true.mp hr v hv), fun j v hj => key v ?_⟩
  exact List.all_eq_true.mp hL _ (List.mem_of_getElem? hj)
end PCALL
