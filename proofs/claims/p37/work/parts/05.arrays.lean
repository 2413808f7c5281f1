/-! arrays, constants: written by wip/whole/gen/arrays.py -/
section PA
variable {M : PM} {d mc ms n0 : Nat} {X : Nat × (Nat → Int32)} {Q : PQ} {pc : Nat} {L : PL} {st : List Value} {kc ks : Nat} {sh : List PSh} {S : PSt}
theorem pr_iald {a n : Nat} {i : Int32} (hi : pLook M.2.2.2.2 pc = some (.iaload, 1)) (hs : sh[a]? = some (.inl (0, n))) (hin : vp_in i n) (k : pWP M d mc ms n0 X Q (pc + 1) L (.int (S.1 a i.toNatClampNeg) :: st) kc ks sh S) : pWP M d mc ms n0 X Q pc L (.int i :: .ref a :: st) kc ks sh S := by
  intro p l e R s m args below meth c D tc ad0 A hT hC hR hK hO hA ad H locs ls hN
  exact va_iald (D := D) (cA := tc 0) (n := n) (f := S.1 a) hC.1 hC.2.1 hK.1 hN.hP a 0 (pW_at hs) rfl hin (pLook_ok hT hi) (k p l e R s m args below meth c D tc ad0 A hT hC hR hK hO hA ad H locs ls hN)
theorem pr_fald {a n : Nat} {i : Int32} (hi : pLook M.2.2.2.2 pc = some (.faload, 1)) (hs : sh[a]? = some (.inl (1, n))) (hin : vp_in i n) (k : pWP M d mc ms n0 X Q (pc + 1) L (.float (S.2.1 a i.toNatClampNeg) :: st) kc ks sh S) : pWP M d mc ms n0 X Q pc L (.int i :: .ref a :: st) kc ks sh S := by
  intro p l e R s m args below meth c D tc ad0 A hT hC hR hK hO hA ad H locs ls hN
  exact va_fald (D := D) (cA := tc 1) (n := n) (f := S.2.1 a) hC.1 hC.2.1 hK.1 hN.hP a 1 (pW_at hs) rfl hin (pLook_ok hT hi) (k p l e R s m args below meth c D tc ad0 A hT hC hR hK hO hA ad H locs ls hN)
theorem pr_zald {a n : Nat} {i : Int32} (hi : pLook M.2.2.2.2 pc = some (.baload, 1)) (hs : sh[a]? = some (.inl (2, n))) (hin : vp_in i n) (k : pWP M d mc ms n0 X Q (pc + 1) L (.int (S.1 a i.toNatClampNeg) :: st) kc ks sh S) : pWP M d mc ms n0 X Q pc L (.int i :: .ref a :: st) kc ks sh S := by
  intro p l e R s m args below meth c D tc ad0 A hT hC hR hK hO hA ad H locs ls hN
  exact va_zald (D := D) (cA := tc 2) (n := n) (f := S.1 a) hC.1 hC.2.1 hK.1 hN.hP a 2 (pW_at hs) rfl hin (pLook_ok hT hi) (k p l e R s m args below meth c D tc ad0 A hT hC hR hK hO hA ad H locs ls hN)
theorem pr_lald {a n : Nat} {i : Int32} (hi : pLook M.2.2.2.2 pc = some (.laload, 1)) (hs : sh[a]? = some (.inl (3, n))) (hin : vp_in i n) (k : pWP M d mc ms n0 X Q (pc + 1) L (.long (S.2.2.1 a i.toNatClampNeg) :: st) kc ks sh S) : pWP M d mc ms n0 X Q pc L (.int i :: .ref a :: st) kc ks sh S := by
  intro p l e R s m args below meth c D tc ad0 A hT hC hR hK hO hA ad H locs ls hN
  exact va_lald (D := D) (cA := tc 3) (n := n) (f := S.2.2.1 a) hC.1 hC.2.1 hK.1 hN.hP a 3 (pW_at hs) rfl hin (pLook_ok hT hi) (k p l e R s m args below meth c D tc ad0 A hT hC hR hK hO hA ad H locs ls hN)
theorem pr_ialdR {j : Nat} {i : Int32} (hj : j < 3) (hi : pLook M.2.2.2.2 pc = some (.iaload, 1)) (hin : vp_in i (pRoC X j).1) (k : pWP M d mc ms n0 X Q (pc + 1) L (.int ((pRoC X j).2 i.toNatClampNeg) :: st) kc ks sh S) : pWP M d mc ms n0 X Q pc L (.int i :: .ref (1000 + j) :: st) kc ks sh S := by
  intro p l e R s m args below meth c D tc ad0 A hT hC hR hK hO hA ad H locs ls hN
  have ea : ad (1000 + j) = ad0 (1000 + j) := hN.1 _ (fun q => by have := hN.2.2.1; omega)
  obtain ⟨o1, o2, o3⟩ := hO.1 j hj
  rw [← ea] at o1 o2 o3
  exact va_sld hC.1 hC.2.1 o3 o1 o2 hN.hS hin (pLook_ok hT hi) (k p l e R s m args below meth c D tc ad0 A hT hC hR hK hO hA ad H locs ls hN)
theorem pr_alen {a t n : Nat} (hi : pLook M.2.2.2.2 pc = some (.arraylength, 1)) (hs : sh[a]? = some (.inl (t, n))) (ht : t < 5) (k : pWP M d mc ms n0 X Q (pc + 1) L (.int (Int32.ofNat n) :: st) kc ks sh S) : pWP M d mc ms n0 X Q pc L (.ref a :: st) kc ks sh S := by
  intro p l e R s m args below meth c D tc ad0 A hT hC hR hK hO hA ad H locs ls hN
  have hty : ∃ ty, (pTys tc)[t]? = some (tc t, ty) := by
    match t, ht with
    | 0, _ => exact ⟨_, rfl⟩
    | 1, _ => exact ⟨_, rfl⟩
    | 2, _ => exact ⟨_, rfl⟩
    | 3, _ => exact ⟨_, rfl⟩
    | 4, _ => exact ⟨_, rfl⟩
  obtain ⟨ty, hty⟩ := hty
  exact va_alen (D := D) (cA := tc t) (x := (n, pArr S a t)) hC.1 hC.2.1 hK.1 hN.hP a t (pW_at hs) hty rfl (pLook_ok hT hi) (k p l e R s m args below meth c D tc ad0 A hT hC hR hK hO hA ad H locs ls hN)
theorem pr_alenR {j : Nat} (hj : j < 3) (hi : pLook M.2.2.2.2 pc = some (.arraylength, 1)) (k : pWP M d mc ms n0 X Q (pc + 1) L (.int (Int32.ofNat (pRoC X j).1) :: st) kc ks sh S) : pWP M d mc ms n0 X Q pc L (.ref (1000 + j) :: st) kc ks sh S := by
  intro p l e R s m args below meth c D tc ad0 A hT hC hR hK hO hA ad H locs ls hN
  have ea : ad (1000 + j) = ad0 (1000 + j) := hN.1 _ (fun q => by have := hN.2.2.1; omega)
  obtain ⟨o1, o2, o3⟩ := hO.1 j hj
  rw [← ea] at o1 o2 o3
  exact va_slen hC.1 hC.2.1 o3 o1 o2 hN.hS (pLook_ok hT hi) (k p l e R s m args below meth c D tc ad0 A hT hC hR hK hO hA ad H locs ls hN)
theorem pr_iast {a n : Nat} {i : Int32} {x : Int32} (hi : pLook M.2.2.2.2 pc = some (.iastore, 1)) (hs : sh[a]? = some (.inl (0, n))) (hin : vp_in i n) (k : pWP M d mc ms n0 X Q (pc + 1) L st kc ks sh (pSI S a i.toNatClampNeg x)) : pWP M d mc ms n0 X Q pc L (.int x :: .int i :: .ref a :: st) kc ks sh S := by
  intro p l e9 R s m args below meth c D tc ad0 A hT hC hR hK hO hA ad H locs ls hN
  have e : (pW tc ad sh S).set a (ad a, .inl (tc 0, n, .inl (upd (S.1 a) i.toNatClampNeg x))) = pW tc ad sh (pSI S a i.toNatClampNeg x) := by
    refine pW_set hs ?_ (fun b hb => ⟨pU_ne hb, rfl, rfl, rfl⟩)
    show Sum.inl (tc 0, n, pArr (pSI S a i.toNatClampNeg x) a 0) = Sum.inl (tc 0, n, _)
    congr 3
    first | (show Sum.inl _ = Sum.inl _; congr 1; funext b; simp [pSI, pU, upd]; done) | (simp only [pArr]; congr; funext b; simp [pSI, pU, upd, vf_upd, vp_updL]; done)
  refine va_iast (D := D) (cA := tc 0) (n := n) (f := S.1 a) hC.1 hC.2.1 hK.1 hN.hP hN.hD hN.hS a 0 (pW_at hs) rfl hin (pLook_ok hT hi) (fun H1 locs1 hP hD hS => ?_)
  rw [e] at hP hD
  exact k p l e9 R s m args below meth c D tc ad0 A hT hC hR hK hO hA ad H1 locs1 ls (hN.wr hP hD hS)
theorem pr_fast {a n : Nat} {i : Int32} {x : UInt32} (hi : pLook M.2.2.2.2 pc = some (.fastore, 1)) (hs : sh[a]? = some (.inl (1, n))) (hin : vp_in i n) (k : pWP M d mc ms n0 X Q (pc + 1) L st kc ks sh (pSF S a i.toNatClampNeg x)) : pWP M d mc ms n0 X Q pc L (.float x :: .int i :: .ref a :: st) kc ks sh S := by
  intro p l e9 R s m args below meth c D tc ad0 A hT hC hR hK hO hA ad H locs ls hN
  have e : (pW tc ad sh S).set a (ad a, .inl (tc 1, n, .inr (.inr (.inl (vf_upd (S.2.1 a) i.toNatClampNeg x))))) = pW tc ad sh (pSF S a i.toNatClampNeg x) := by
    refine pW_set hs ?_ (fun b hb => ⟨rfl, pU_ne hb, rfl, rfl⟩)
    show Sum.inl (tc 1, n, pArr (pSF S a i.toNatClampNeg x) a 1) = Sum.inl (tc 1, n, _)
    congr 3
    first | (show Sum.inl _ = Sum.inl _; congr 1; funext b; simp [pSF, pU, upd]; done) | (simp only [pArr]; congr; funext b; simp [pSF, pU, upd, vf_upd, vp_updL]; done)
  refine va_fast (D := D) (cA := tc 1) (n := n) (f := S.2.1 a) hC.1 hC.2.1 hK.1 hN.hP hN.hD hN.hS a 1 (pW_at hs) rfl hin (pLook_ok hT hi) (fun H1 locs1 hP hD hS => ?_)
  rw [e] at hP hD
  exact k p l e9 R s m args below meth c D tc ad0 A hT hC hR hK hO hA ad H1 locs1 ls (hN.wr hP hD hS)
theorem pr_zast {a n : Nat} {i : Int32} {x : Int32} (hi : pLook M.2.2.2.2 pc = some (.bastore, 1)) (hs : sh[a]? = some (.inl (2, n))) (hin : vp_in i n) (hx : vp_nar .boolean x = x) (k : pWP M d mc ms n0 X Q (pc + 1) L st kc ks sh (pSI S a i.toNatClampNeg x)) : pWP M d mc ms n0 X Q pc L (.int x :: .int i :: .ref a :: st) kc ks sh S := by
  intro p l e9 R s m args below meth c D tc ad0 A hT hC hR hK hO hA ad H locs ls hN
  have e : (pW tc ad sh S).set a (ad a, .inl (tc 2, n, .inl (upd (S.1 a) i.toNatClampNeg (vp_nar .boolean x)))) = pW tc ad sh (pSI S a i.toNatClampNeg x) := by
    refine pW_set hs ?_ (fun b hb => ⟨pU_ne hb, rfl, rfl, rfl⟩)
    show Sum.inl (tc 2, n, pArr (pSI S a i.toNatClampNeg x) a 2) = Sum.inl (tc 2, n, _)
    congr 3
    first | (show Sum.inl _ = Sum.inl _; congr 1; funext b; simp [pSI, pU, upd, hx]; done) | (simp only [pArr]; congr; funext b; simp [pSI, pU, upd, vf_upd, vp_updL, hx]; done)
  refine va_zast (D := D) (cA := tc 2) (n := n) (f := S.1 a) hC.1 hC.2.1 hK.1 hN.hP hN.hD hN.hS a 2 (pW_at hs) rfl hin (pLook_ok hT hi) (fun H1 locs1 hP hD hS => ?_)
  rw [e] at hP hD
  exact k p l e9 R s m args below meth c D tc ad0 A hT hC hR hK hO hA ad H1 locs1 ls (hN.wr hP hD hS)
theorem pr_last {a n : Nat} {i : Int32} {x : Int64} (hi : pLook M.2.2.2.2 pc = some (.lastore, 1)) (hs : sh[a]? = some (.inl (3, n))) (hin : vp_in i n) (k : pWP M d mc ms n0 X Q (pc + 1) L st kc ks sh (pSJ S a i.toNatClampNeg x)) : pWP M d mc ms n0 X Q pc L (.long x :: .int i :: .ref a :: st) kc ks sh S := by
  intro p l e9 R s m args below meth c D tc ad0 A hT hC hR hK hO hA ad H locs ls hN
  have e : (pW tc ad sh S).set a (ad a, .inl (tc 3, n, .inr (.inl (vp_updL (S.2.2.1 a) i.toNatClampNeg x)))) = pW tc ad sh (pSJ S a i.toNatClampNeg x) := by
    refine pW_set hs ?_ (fun b hb => ⟨rfl, rfl, pU_ne hb, rfl⟩)
    show Sum.inl (tc 3, n, pArr (pSJ S a i.toNatClampNeg x) a 3) = Sum.inl (tc 3, n, _)
    congr 3
    first | (show Sum.inl _ = Sum.inl _; congr 1; funext b; simp [pSJ, pU, upd]; done) | (simp only [pArr]; congr; funext b; simp [pSJ, pU, upd, vf_upd, vp_updL]; done)
  refine va_last (D := D) (cA := tc 3) (n := n) (f := S.2.2.1 a) hC.1 hC.2.1 hK.1 hN.hP hN.hD hN.hS a 3 (pW_at hs) rfl hin (pLook_ok hT hi) (fun H1 locs1 hP hD hS => ?_)
  rw [e] at hP hD
  exact k p l e9 R s m args below meth c D tc ad0 A hT hC hR hK hO hA ad H1 locs1 ls (hN.wr hP hD hS)
theorem pr_ldc {idx : Nat} {v : Int32} (hi : pLook M.2.2.2.2 pc = some (.ldc idx, 2)) (hc : Cond.constant M.1.cls idx v ∈ pGood) (k : pWP M d mc ms n0 X Q (pc + 2) L (.int v :: st) kc ks sh S) : pWP M d mc ms n0 X Q pc L st kc ks sh S := by
  intro p l e R s m args below meth c D tc ad0 A hT hC hR hK hO hA ad H locs ls hN
  exact lv_ldc hC.1 hC.2.1 hC.2.2.2.2.1 (hC.2.2.2.2.2.2.2 _ hc) (pLook_ok hT hi) (k p l e R s m args below meth c D tc ad0 A hT hC hR hK hO hA ad H locs ls hN)
theorem pr_ldcf {idx : Nat} {v : UInt32} (hi : pLook M.2.2.2.2 pc = some (.ldc idx, 2)) (hc : Cond.constantFloat M.1.cls idx v ∈ pGood) (k : pWP M d mc ms n0 X Q (pc + 2) L (.float v :: st) kc ks sh S) : pWP M d mc ms n0 X Q pc L st kc ks sh S := by
  intro p l e R s m args below meth c D tc ad0 A hT hC hR hK hO hA ad H locs ls hN
  exact lv_ldcf hC.1 hC.2.1 hC.2.2.2.2.1 (hC.2.2.2.2.2.2.2 _ hc) (pLook_ok hT hi) (k p l e R s m args below meth c D tc ad0 A hT hC hR hK hO hA ad H locs ls hN)
theorem pr_ldcw {idx : Nat} {v : Int32} (hi : pLook M.2.2.2.2 pc = some (.ldc_w idx, 3)) (hc : Cond.constant M.1.cls idx v ∈ pGood) (k : pWP M d mc ms n0 X Q (pc + 3) L (.int v :: st) kc ks sh S) : pWP M d mc ms n0 X Q pc L st kc ks sh S := by
  intro p l e R s m args below meth c D tc ad0 A hT hC hR hK hO hA ad H locs ls hN
  exact lv_ldcw hC.1 hC.2.1 hC.2.2.2.2.1 (hC.2.2.2.2.2.2.2 _ hc) (pLook_ok hT hi) (k p l e R s m args below meth c D tc ad0 A hT hC hR hK hO hA ad H locs ls hN)
end PA
section PAW
variable {p : Program} {l : Launch} {e : Env} {R : Room} {s : State} {m : MethodId} {args : Array Value} {below : List Frame} {meth : Method} {c : Code} {H : Heap} {locs : List Loc} {cells slots : Nat} {Q : State → Prop} {cc : ByteArray} {pc : Nat} {ls : Array Slot} {rest : List Value}
theorem pw_ldcwf0 {T : State} (X : Stand p l e R s m args below meth c T locs cells slots) (hexec : p.tables.exec = Jvm.exec) {own : String} {index : Nat} {b : UInt32} (hown : s.vm.findClass own = some m.cls)
    (hconst : (Cond.constantFloat own index b).before args s = true) {g : JFrame} (hg : g.method = m) (hdg : decode c.code g.pc = .ok (.ldc_w index, 3)) :
    ∀ target, Steps p.tables e below (T.setTop { g with pc := g.pc + 3, stack := .float b :: g.stack }) target → Steps p.tables e below (T.setTop g) target := by
  obtain ⟨k, cf, hk, hcf, hcp⟩ := Cond.constantFloat_spec hown hconst
  obtain ⟨k2, hk2, he⟩ := X.warmed.alike.2.2 _ _ hk
  intro target hrest
  subst hg
  jvm_step X.here [hexec, hdg, ldc_w.wp_float (s := T) (f := g) X.here.top hk2 (by rw [he]; exact hcf) hcp]
  exact hrest
theorem pw_ldcwf (hexec : p.tables.exec = Jvm.exec) (hb : c.code = cc) {own : String} {index : Nat} {v : UInt32} (hown : s.vm.findClass own = some m.cls) (hconst : (Jvm.Cond.constantFloat own index v).before args s = true) (hdg : decode cc pc = .ok (.ldc_w index, 3)) (k : W p l e R s m args below meth c H locs cells slots Q (F0 m (pc + 3) ls (.float v :: rest))) : W p l e R s m args below meth c H locs cells slots Q (F0 m pc ls rest) := by
  intro T hT X
  obtain ⟨t, a, b⟩ := k T hT X
  exact ⟨t, pw_ldcwf0 X hexec hown hconst (g := F0 m pc ls rest) rfl (by rw [hb]; exact hdg) t a, b⟩
end PAW
section PB
variable {M : PM} {d mc ms n0 : Nat} {X : Nat × (Nat → Int32)} {Q : PQ} {pc : Nat} {L : PL} {st : List Value} {kc ks : Nat} {sh : List PSh} {S : PSt}
theorem pr_ldcwf {idx : Nat} {v : UInt32} (hi : pLook M.2.2.2.2 pc = some (.ldc_w idx, 3)) (hc : Cond.constantFloat M.1.cls idx v ∈ pGood) (k : pWP M d mc ms n0 X Q (pc + 3) L (.float v :: st) kc ks sh S) : pWP M d mc ms n0 X Q pc L st kc ks sh S := by
  intro p l e R s m args below meth c D tc ad0 A hT hC hR hK hO hA ad H locs ls hN
  exact pw_ldcwf hC.1 hC.2.1 hC.2.2.2.2.1 (hC.2.2.2.2.2.2.2 _ hc) (pLook_ok hT hi) (k p l e R s m args below meth c D tc ad0 A hT hC hR hK hO hA ad H locs ls hN)
theorem pr_ldc2 {idx : Nat} {v : Int64} (hi : pLook M.2.2.2.2 pc = some (.ldc2_w idx, 3)) (hc : Cond.constantLong M.1.cls idx v ∈ pGood) (k : pWP M d mc ms n0 X Q (pc + 3) L (.long v :: st) kc ks sh S) : pWP M d mc ms n0 X Q pc L st kc ks sh S := by
  intro p l e R s m args below meth c D tc ad0 A hT hC hR hK hO hA ad H locs ls hN
  exact lv_ldc2 hC.1 hC.2.1 hC.2.2.2.2.1 (hC.2.2.2.2.2.2.2 _ hc) (pLook_ok hT hi) (k p l e R s m args below meth c D tc ad0 A hT hC hR hK hO hA ad H locs ls hN)
theorem pr_ldc2d {idx : Nat} {v : UInt64} (hi : pLook M.2.2.2.2 pc = some (.ldc2_w idx, 3)) (hc : Cond.constantDouble M.1.cls idx v ∈ pGood) (k : pWP M d mc ms n0 X Q (pc + 3) L (.double v :: st) kc ks sh S) : pWP M d mc ms n0 X Q pc L st kc ks sh S := by
  intro p l e R s m args below meth c D tc ad0 A hT hC hR hK hO hA ad H locs ls hN
  exact lv_ldc2d hC.1 hC.2.1 hC.2.2.2.2.1 (hC.2.2.2.2.2.2.2 _ hc) (pLook_ok hT hi) (k p l e R s m args below meth c D tc ad0 A hT hC hR hK hO hA ad H locs ls hN)
theorem pr_getsLEAST {idx : Nat} (hi : pLook M.2.2.2.2 pc = some (.getstatic idx, 3)) (hc : Cond.fieldLink M.1.cls idx "EngravedLines" "LEAST" "[I" ∈ pGood) (k : pWP M d mc ms n0 X Q (pc + 3) L (.ref 1001 :: st) kc ks sh S) : pWP M d mc ms n0 X Q pc L st kc ks sh S := by
  intro p l e R s m args below meth c D tc ad0 A hT hC hR hK hO hA ad H locs ls hN
  have ea : ad 1001 = ad0 1001 := hN.1 _ (fun q => by have := hN.2.2.1; omega)
  have hZ := hO.2.1
  rw [← ea] at hZ
  exact va_gets hC.1 hC.2.1 hZ hN.hS hC.2.2.2.2.1 (hC.2.2.2.2.2.2.2 _ hc) (fun _ h9 => h9) (pLook_ok hT hi) (k p l e R s m args below meth c D tc ad0 A hT hC hR hK hO hA ad H locs ls hN)
theorem pr_getsMOST {idx : Nat} (hi : pLook M.2.2.2.2 pc = some (.getstatic idx, 3)) (hc : Cond.fieldLink M.1.cls idx "EngravedLines" "MOST" "[I" ∈ pGood) (k : pWP M d mc ms n0 X Q (pc + 3) L (.ref 1002 :: st) kc ks sh S) : pWP M d mc ms n0 X Q pc L st kc ks sh S := by
  intro p l e R s m args below meth c D tc ad0 A hT hC hR hK hO hA ad H locs ls hN
  have ea : ad 1002 = ad0 1002 := hN.1 _ (fun q => by have := hN.2.2.1; omega)
  have hZ := hO.2.2.1
  rw [← ea] at hZ
  exact va_gets hC.1 hC.2.1 hZ hN.hS hC.2.2.2.2.1 (hC.2.2.2.2.2.2.2 _ hc) (fun _ h9 => h9) (pLook_ok hT hi) (k p l e R s m args below meth c D tc ad0 A hT hC hR hK hO hA ad H locs ls hN)
theorem pr_forget {L2 : PL} (hw : ∀ (i : Nat) (v : Value), L2[i]? = some (some v) → L[i]? = some (some v)) (k : pWP M d mc ms n0 X Q pc L2 st kc ks sh S) : pWP M d mc ms n0 X Q pc L st kc ks sh S := by
  intro p l e R s m args below meth c D tc ad0 A hT hC hR hK hO hA ad H locs ls hN
  exact k p l e R s m args below meth c D tc ad0 A hT hC hR hK hO hA ad H locs ls (hN.st (pAs_weak hw hN.ls))
theorem pr_post {Q2 : PQ} (hq : ∀ r sh2 S2, Q2 r sh2 S2 → Q r sh2 S2) (k : pWP M d mc ms n0 X Q2 pc L st kc ks sh S) : pWP M d mc ms n0 X Q pc L st kc ks sh S := by
  intro p l e R s m args below meth c D tc ad0 A hT hC hR hK hO hA ad H locs ls hN
  intro T hT9 X9
  obtain ⟨t, a1, o, b1, b2, ⟨⟨r, sh3, S3, ad3, c1, c2, c3, c4, c5, c6, c7⟩, b3⟩, b4⟩ := k p l e R s m args below meth c D tc ad0 A hT hC hR hK hO hA ad H locs ls hN T hT9 X9
  exact ⟨t, a1, o, b1, b2, ⟨⟨r, sh3, S3, ad3, c1, c2, c3, c4, c5, hq _ _ _ c6, c7⟩, b3⟩, b4⟩
theorem pr_lret {x : Int64} (hi : pLook M.2.2.2.2 pc = some (.lreturn, 1)) (hr : M.2.2.2.1 = some .long) (hk : kc ≤ mc ∧ ks ≤ ms) (hq : Q (some (.long x)) sh S) : pWP M d mc ms n0 X Q pc L [.long x] kc ks sh S := by
  intro p l e R s m args below meth c D tc ad0 A hT hC hR hK hO hA ad H locs ls hN
  refine W.widen hk.1 hk.2 ?_
  exact W.lret hC.1 hC.2.1 (hC.2.2.2.1.trans hr) (fun t ht _ => ⟨⟨some (.long x), sh, S, ad, hN.1, hN.2.1, hN.2.2.1, hN.2.2.2.1, rfl, hq, by rw [ht]; exact hN.hP, hN.hD⟩, hN.hS.F ht⟩) hN.hS.2.2 (pLook_ok hT hi) hC.2.2.2.2.2.1
theorem pr_fret {x : UInt32} (hi : pLook M.2.2.2.2 pc = some (.freturn, 1)) (hr : M.2.2.2.1 = some .float) (hk : kc ≤ mc ∧ ks ≤ ms) (hq : Q (some (.float x)) sh S) : pWP M d mc ms n0 X Q pc L [.float x] kc ks sh S := by
  intro p l e R s m args below meth c D tc ad0 A hT hC hR hK hO hA ad H locs ls hN
  refine W.widen hk.1 hk.2 ?_
  exact W.fret hC.1 hC.2.1 (hC.2.2.2.1.trans hr) (fun t ht _ => ⟨⟨some (.float x), sh, S, ad, hN.1, hN.2.1, hN.2.2.1, hN.2.2.2.1, rfl, hq, by rw [ht]; exact hN.hP, hN.hD⟩, hN.hS.F ht⟩) hN.hS.2.2 (pLook_ok hT hi) hC.2.2.2.2.2.1
theorem pr_dret {x : UInt64} (hi : pLook M.2.2.2.2 pc = some (.dreturn, 1)) (hr : M.2.2.2.1 = some .double) (hk : kc ≤ mc ∧ ks ≤ ms) (hq : Q (some (.double x)) sh S) : pWP M d mc ms n0 X Q pc L [.double x] kc ks sh S := by
  intro p l e R s m args below meth c D tc ad0 A hT hC hR hK hO hA ad H locs ls hN
  refine W.widen hk.1 hk.2 ?_
  exact W.dret hC.1 hC.2.1 (hC.2.2.2.1.trans hr) (fun t ht _ => ⟨⟨some (.double x), sh, S, ad, hN.1, hN.2.1, hN.2.2.1, hN.2.2.2.1, rfl, hq, by rw [ht]; exact hN.hP, hN.hD⟩, hN.hS.F ht⟩) hN.hS.2.2 (pLook_ok hT hi) hC.2.2.2.2.2.1
theorem pr_iret {x : Int32} (hi : pLook M.2.2.2.2 pc = some (.ireturn, 1)) (hr : M.2.2.2.1 = some .int) (hk : kc ≤ mc ∧ ks ≤ ms) (hq : Q (some (.int x)) sh S) : pWP M d mc ms n0 X Q pc L [.int x] kc ks sh S := by
  intro p l e R s m args below meth c D tc ad0 A hT hC hR hK hO hA ad H locs ls hN
  refine W.widen hk.1 hk.2 ?_
  exact W.iret hC.1 hC.2.1 (hC.2.2.2.1.trans hr) (fun t ht _ => ⟨⟨some (.int x), sh, S, ad, hN.1, hN.2.1, hN.2.2.1, hN.2.2.2.1, rfl, hq, by rw [ht]; exact hN.hP, hN.hD⟩, hN.hS.F ht⟩) hN.hS.2.2 (pLook_ok hT hi) hC.2.2.2.2.2.1
theorem pr_zret {x : Int32} {ty : FieldType} (hi : pLook M.2.2.2.2 pc = some (.ireturn, 1)) (hr : M.2.2.2.1 = some ty) (hn : narrow ty (.int x) = .int x) (hk : kc ≤ mc ∧ ks ≤ ms) (hq : Q (some (.int x)) sh S) : pWP M d mc ms n0 X Q pc L [.int x] kc ks sh S := by
  intro p l e R s m args below meth c D tc ad0 A hT hC hR hK hO hA ad H locs ls hN
  refine W.widen hk.1 hk.2 ?_
  exact W.zret hC.1 hC.2.1 (hC.2.2.2.1.trans hr) hn (fun t ht _ => ⟨⟨some (.int x), sh, S, ad, hN.1, hN.2.1, hN.2.2.1, hN.2.2.2.1, rfl, hq, by rw [ht]; exact hN.hP, hN.hD⟩, hN.hS.F ht⟩) hN.hS.2.2 (pLook_ok hT hi) hC.2.2.2.2.2.1
theorem pr_vret (hi : pLook M.2.2.2.2 pc = some (.return_, 1)) (hr : M.2.2.2.1 = none) (hk : kc ≤ mc ∧ ks ≤ ms) (hq : Q none sh S) : pWP M d mc ms n0 X Q pc L [] kc ks sh S := by
  intro p l e R s m args below meth c D tc ad0 A hT hC hR hK hO hA ad H locs ls hN
  refine W.widen hk.1 hk.2 ?_
  exact W.vret hC.1 hC.2.1 (hC.2.2.2.1.trans hr) (fun t ht _ => ⟨⟨none, sh, S, ad, hN.1, hN.2.1, hN.2.2.1, hN.2.2.2.1, rfl, hq, by rw [ht]; exact hN.hP, hN.hD⟩, hN.hS.F ht⟩) hN.hS.2.2 (pLook_ok hT hi) hC.2.2.2.2.2.1
end PB
