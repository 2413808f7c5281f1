/-! rules of the pure machine: written by wip/whole/gen/rules.py -/
def pLook (t : pTab) (pc : Nat) : Option (Instr × Nat) := (t.find? fun q => q.1 == pc).map fun q => q.2
theorem pLook_ok {c : ByteArray} {t : pTab} {pc len : Nat} {i : Instr} (ht : pTabOk c t = true) (h : pLook t pc = some (i, len)) : decode c pc = .ok (i, len) := by
  unfold pLook at h
  cases hf : t.find? (fun q => q.1 == pc) with
  | none => rw [hf] at h; cases h
  | some q =>
    rw [hf] at h
    have h1 : q.2 = (i, len) := Option.some.inj h
    have h2 : q.1 = pc := by simpa using List.find?_some hf
    have h3 := List.all_eq_true.mp ht q (List.mem_of_find?_eq_some hf)
    have h4 := of_decide_eq_true h3
    rw [h2, h1] at h4
    exact h4
theorem pNow.st {n0 nL : Nat} {D : va_G} {tc ad0 ad : Nat → Nat} {A : Nat → Prop} {s : State} {H : Heap} {locs : List Loc} {ls ls' : Array Slot} {L L' : PL} {sh : List PSh} {S : PSt} (h : pNow n0 nL D tc ad0 ad A s H locs ls L sh S) (hl : lv_has ls' nL (pAs ad L')) : pNow n0 nL D tc ad0 ad A s H locs ls' L' sh S :=
  ⟨h.1, h.2.1, h.2.2.1, h.2.2.2.1, h.2.2.2.2.1, h.2.2.2.2.2.1, h.2.2.2.2.2.2.1, hl⟩
theorem pNow.ls {n0 nL : Nat} {D : va_G} {tc ad0 ad : Nat → Nat} {A : Nat → Prop} {s : State} {H : Heap} {locs : List Loc} {ls : Array Slot} {L : PL} {sh : List PSh} {S : PSt} (h : pNow n0 nL D tc ad0 ad A s H locs ls L sh S) : lv_has ls nL (pAs ad L) := h.2.2.2.2.2.2.2
section PR
variable {M : PM} {d mc ms n0 : Nat} {X : Nat × (Nat → Int32)} {Q : PQ} {pc : Nat} {L : PL} {st : List Value} {kc ks : Nat} {sh : List PSh} {S : PSt}
theorem pr_iconst {n : Int} (hi : pLook M.2.2.2.2 pc = some (.iconst n, 1)) (k : pWP M d mc ms n0 X Q (pc + 1) L (.int (Int32.ofInt n) :: st) kc ks sh S) : pWP M d mc ms n0 X Q pc L st kc ks sh S := by
  intro p l e R s m args below meth c D tc ad0 A hT hC hR hK hO hA ad H locs ls hN
  exact lv_iconst hC.1 hC.2.1 (pLook_ok hT hi) rfl (k p l e R s m args below meth c D tc ad0 A hT hC hR hK hO hA ad H locs ls hN)
theorem pr_bipush {n : Int} (hi : pLook M.2.2.2.2 pc = some (.bipush n, 2)) (k : pWP M d mc ms n0 X Q (pc + 2) L (.int (Int8.ofInt n).toInt32 :: st) kc ks sh S) : pWP M d mc ms n0 X Q pc L st kc ks sh S := by
  intro p l e R s m args below meth c D tc ad0 A hT hC hR hK hO hA ad H locs ls hN
  exact lv_bipush hC.1 hC.2.1 (pLook_ok hT hi) rfl (k p l e R s m args below meth c D tc ad0 A hT hC hR hK hO hA ad H locs ls hN)
theorem pr_sipush {n : Int} (hi : pLook M.2.2.2.2 pc = some (.sipush n, 3)) (k : pWP M d mc ms n0 X Q (pc + 3) L (.int (Int16.ofInt n).toInt32 :: st) kc ks sh S) : pWP M d mc ms n0 X Q pc L st kc ks sh S := by
  intro p l e R s m args below meth c D tc ad0 A hT hC hR hK hO hA ad H locs ls hN
  exact lv_sipush hC.1 hC.2.1 (pLook_ok hT hi) rfl (k p l e R s m args below meth c D tc ad0 A hT hC hR hK hO hA ad H locs ls hN)
theorem pr_lconst {n : Fin 2} (hi : pLook M.2.2.2.2 pc = some (.lconst n, 1)) (k : pWP M d mc ms n0 X Q (pc + 1) L (.long (Int64.ofNat (n : Nat)) :: st) kc ks sh S) : pWP M d mc ms n0 X Q pc L st kc ks sh S := by
  intro p l e R s m args below meth c D tc ad0 A hT hC hR hK hO hA ad H locs ls hN
  exact lv_lconst hC.1 hC.2.1 (pLook_ok hT hi) rfl (k p l e R s m args below meth c D tc ad0 A hT hC hR hK hO hA ad H locs ls hN)
theorem pr_fconst0  (hi : pLook M.2.2.2.2 pc = some (.fconst 0, 1)) (k : pWP M d mc ms n0 X Q (pc + 1) L (.float FP.fconst0 :: st) kc ks sh S) : pWP M d mc ms n0 X Q pc L st kc ks sh S := by
  intro p l e R s m args below meth c D tc ad0 A hT hC hR hK hO hA ad H locs ls hN
  exact lv_fconst0 hC.1 hC.2.1 (pLook_ok hT hi)  (k p l e R s m args below meth c D tc ad0 A hT hC hR hK hO hA ad H locs ls hN)
theorem pr_fconst1  (hi : pLook M.2.2.2.2 pc = some (.fconst 1, 1)) (k : pWP M d mc ms n0 X Q (pc + 1) L (.float FP.fconst1 :: st) kc ks sh S) : pWP M d mc ms n0 X Q pc L st kc ks sh S := by
  intro p l e R s m args below meth c D tc ad0 A hT hC hR hK hO hA ad H locs ls hN
  exact lv_fconst1 hC.1 hC.2.1 (pLook_ok hT hi)  (k p l e R s m args below meth c D tc ad0 A hT hC hR hK hO hA ad H locs ls hN)
theorem pr_fconst2  (hi : pLook M.2.2.2.2 pc = some (.fconst 2, 1)) (k : pWP M d mc ms n0 X Q (pc + 1) L (.float FP.fconst2 :: st) kc ks sh S) : pWP M d mc ms n0 X Q pc L st kc ks sh S := by
  intro p l e R s m args below meth c D tc ad0 A hT hC hR hK hO hA ad H locs ls hN
  exact lv_fconst2 hC.1 hC.2.1 (pLook_ok hT hi)  (k p l e R s m args below meth c D tc ad0 A hT hC hR hK hO hA ad H locs ls hN)
theorem pr_dconst0  (hi : pLook M.2.2.2.2 pc = some (.dconst 0, 1)) (k : pWP M d mc ms n0 X Q (pc + 1) L (.double FP.dconst0 :: st) kc ks sh S) : pWP M d mc ms n0 X Q pc L st kc ks sh S := by
  intro p l e R s m args below meth c D tc ad0 A hT hC hR hK hO hA ad H locs ls hN
  exact lv_dconst0 hC.1 hC.2.1 (pLook_ok hT hi)  (k p l e R s m args below meth c D tc ad0 A hT hC hR hK hO hA ad H locs ls hN)
theorem pr_dconst1  (hi : pLook M.2.2.2.2 pc = some (.dconst 1, 1)) (k : pWP M d mc ms n0 X Q (pc + 1) L (.double FP.dconst1 :: st) kc ks sh S) : pWP M d mc ms n0 X Q pc L st kc ks sh S := by
  intro p l e R s m args below meth c D tc ad0 A hT hC hR hK hO hA ad H locs ls hN
  exact lv_dconst1 hC.1 hC.2.1 (pLook_ok hT hi)  (k p l e R s m args below meth c D tc ad0 A hT hC hR hK hO hA ad H locs ls hN)
theorem pr_iload_n {j : Fin 4} {x : Int32} (hi : pLook M.2.2.2.2 pc = some (.iload_n j, 1)) (hl : pLd L (j : Nat) = some (.int x)) (k : pWP M d mc ms n0 X Q (pc + 1) L (.int x :: st) kc ks sh S) : pWP M d mc ms n0 X Q pc L st kc ks sh S := by
  intro p l e R s m args below meth c D tc ad0 A hT hC hR hK hO hA ad H locs ls hN
  exact lv_iload_n hC.1 hC.2.1 (pLook_ok hT hi) rfl (pLd_at hN.ls hl) (k p l e R s m args below meth c D tc ad0 A hT hC hR hK hO hA ad H locs ls hN)
theorem pr_iload {j : Nat} {x : Int32} (hi : pLook M.2.2.2.2 pc = some (.iload j, 2)) (hl : pLd L j = some (.int x)) (k : pWP M d mc ms n0 X Q (pc + 2) L (.int x :: st) kc ks sh S) : pWP M d mc ms n0 X Q pc L st kc ks sh S := by
  intro p l e R s m args below meth c D tc ad0 A hT hC hR hK hO hA ad H locs ls hN
  exact lv_iload hC.1 hC.2.1 (pLook_ok hT hi) (pLd_at hN.ls hl) (k p l e R s m args below meth c D tc ad0 A hT hC hR hK hO hA ad H locs ls hN)
theorem pr_lload_n {j : Fin 4} {x : Int64} (hi : pLook M.2.2.2.2 pc = some (.lload_n j, 1)) (hl : pLd L (j : Nat) = some (.long x)) (k : pWP M d mc ms n0 X Q (pc + 1) L (.long x :: st) kc ks sh S) : pWP M d mc ms n0 X Q pc L st kc ks sh S := by
  intro p l e R s m args below meth c D tc ad0 A hT hC hR hK hO hA ad H locs ls hN
  exact lv_lload_n hC.1 hC.2.1 (pLook_ok hT hi) rfl (pLd_at hN.ls hl) (k p l e R s m args below meth c D tc ad0 A hT hC hR hK hO hA ad H locs ls hN)
theorem pr_lload {j : Nat} {x : Int64} (hi : pLook M.2.2.2.2 pc = some (.lload j, 2)) (hl : pLd L j = some (.long x)) (k : pWP M d mc ms n0 X Q (pc + 2) L (.long x :: st) kc ks sh S) : pWP M d mc ms n0 X Q pc L st kc ks sh S := by
  intro p l e R s m args below meth c D tc ad0 A hT hC hR hK hO hA ad H locs ls hN
  exact lv_lload hC.1 hC.2.1 (pLook_ok hT hi) (pLd_at hN.ls hl) (k p l e R s m args below meth c D tc ad0 A hT hC hR hK hO hA ad H locs ls hN)
theorem pr_fload_n {j : Fin 4} {x : UInt32} (hi : pLook M.2.2.2.2 pc = some (.fload_n j, 1)) (hl : pLd L (j : Nat) = some (.float x)) (k : pWP M d mc ms n0 X Q (pc + 1) L (.float x :: st) kc ks sh S) : pWP M d mc ms n0 X Q pc L st kc ks sh S := by
  intro p l e R s m args below meth c D tc ad0 A hT hC hR hK hO hA ad H locs ls hN
  exact lv_fload_n hC.1 hC.2.1 (pLook_ok hT hi) rfl (pLd_at hN.ls hl) (k p l e R s m args below meth c D tc ad0 A hT hC hR hK hO hA ad H locs ls hN)
theorem pr_fload {j : Nat} {x : UInt32} (hi : pLook M.2.2.2.2 pc = some (.fload j, 2)) (hl : pLd L j = some (.float x)) (k : pWP M d mc ms n0 X Q (pc + 2) L (.float x :: st) kc ks sh S) : pWP M d mc ms n0 X Q pc L st kc ks sh S := by
  intro p l e R s m args below meth c D tc ad0 A hT hC hR hK hO hA ad H locs ls hN
  exact lv_fload hC.1 hC.2.1 (pLook_ok hT hi) (pLd_at hN.ls hl) (k p l e R s m args below meth c D tc ad0 A hT hC hR hK hO hA ad H locs ls hN)
theorem pr_dload_n {j : Fin 4} {x : UInt64} (hi : pLook M.2.2.2.2 pc = some (.dload_n j, 1)) (hl : pLd L (j : Nat) = some (.double x)) (k : pWP M d mc ms n0 X Q (pc + 1) L (.double x :: st) kc ks sh S) : pWP M d mc ms n0 X Q pc L st kc ks sh S := by
  intro p l e R s m args below meth c D tc ad0 A hT hC hR hK hO hA ad H locs ls hN
  exact lv_dload_n hC.1 hC.2.1 (pLook_ok hT hi) rfl (pLd_at hN.ls hl) (k p l e R s m args below meth c D tc ad0 A hT hC hR hK hO hA ad H locs ls hN)
theorem pr_dload {j : Nat} {x : UInt64} (hi : pLook M.2.2.2.2 pc = some (.dload j, 2)) (hl : pLd L j = some (.double x)) (k : pWP M d mc ms n0 X Q (pc + 2) L (.double x :: st) kc ks sh S) : pWP M d mc ms n0 X Q pc L st kc ks sh S := by
  intro p l e R s m args below meth c D tc ad0 A hT hC hR hK hO hA ad H locs ls hN
  exact lv_dload hC.1 hC.2.1 (pLook_ok hT hi) (pLd_at hN.ls hl) (k p l e R s m args below meth c D tc ad0 A hT hC hR hK hO hA ad H locs ls hN)
theorem pr_aload_n {j : Fin 4} {x : Nat} (hi : pLook M.2.2.2.2 pc = some (.aload_n j, 1)) (hl : pLd L (j : Nat) = some (.ref x)) (k : pWP M d mc ms n0 X Q (pc + 1) L (.ref x :: st) kc ks sh S) : pWP M d mc ms n0 X Q pc L st kc ks sh S := by
  intro p l e R s m args below meth c D tc ad0 A hT hC hR hK hO hA ad H locs ls hN
  exact lv_aload_n hC.1 hC.2.1 (pLook_ok hT hi) rfl (pLd_at hN.ls hl) (k p l e R s m args below meth c D tc ad0 A hT hC hR hK hO hA ad H locs ls hN)
theorem pr_aload {j : Nat} {x : Nat} (hi : pLook M.2.2.2.2 pc = some (.aload j, 2)) (hl : pLd L j = some (.ref x)) (k : pWP M d mc ms n0 X Q (pc + 2) L (.ref x :: st) kc ks sh S) : pWP M d mc ms n0 X Q pc L st kc ks sh S := by
  intro p l e R s m args below meth c D tc ad0 A hT hC hR hK hO hA ad H locs ls hN
  exact lv_aload hC.1 hC.2.1 (pLook_ok hT hi) (pLd_at hN.ls hl) (k p l e R s m args below meth c D tc ad0 A hT hC hR hK hO hA ad H locs ls hN)
theorem pr_istore_n {j : Fin 4} {x : Int32} (hi : pLook M.2.2.2.2 pc = some (.istore_n j, 1)) (hj : (j : Nat) < M.2.2.1) (k : pWP M d mc ms n0 X Q (pc + 1) (pS1 L (j : Nat) (.int x)) st kc ks sh S) : pWP M d mc ms n0 X Q pc L (.int x :: st) kc ks sh S := by
  intro p l e R s m args below meth c D tc ad0 A hT hC hR hK hO hA ad H locs ls hN
  exact lv_istore_n hC.1 hC.2.1 (pLook_ok hT hi) rfl hN.ls hj rfl (fun ls2 h2 => k p l e R s m args below meth c D tc ad0 A hT hC hR hK hO hA ad H locs ls2 (hN.st (pS1_has (v := .int x) h2)))
theorem pr_istore {j : Nat} {x : Int32} (hi : pLook M.2.2.2.2 pc = some (.istore j, 2)) (hj : j < M.2.2.1) (k : pWP M d mc ms n0 X Q (pc + 2) (pS1 L j (.int x)) st kc ks sh S) : pWP M d mc ms n0 X Q pc L (.int x :: st) kc ks sh S := by
  intro p l e R s m args below meth c D tc ad0 A hT hC hR hK hO hA ad H locs ls hN
  exact lv_istore hC.1 hC.2.1 (pLook_ok hT hi)  hN.ls hj rfl (fun ls2 h2 => k p l e R s m args below meth c D tc ad0 A hT hC hR hK hO hA ad H locs ls2 (hN.st (pS1_has (v := .int x) h2)))
theorem pr_lstore_n {j : Fin 4} {x : Int64} (hi : pLook M.2.2.2.2 pc = some (.lstore_n j, 1)) (hj : (j : Nat) + 1 < M.2.2.1) (k : pWP M d mc ms n0 X Q (pc + 1) (pS2 L (j : Nat) (.long x)) st kc ks sh S) : pWP M d mc ms n0 X Q pc L (.long x :: st) kc ks sh S := by
  intro p l e R s m args below meth c D tc ad0 A hT hC hR hK hO hA ad H locs ls hN
  exact lv_lstore_n hC.1 hC.2.1 (pLook_ok hT hi) rfl hN.ls hj rfl (fun ls2 h2 => k p l e R s m args below meth c D tc ad0 A hT hC hR hK hO hA ad H locs ls2 (hN.st (pS2_has (v := .long x) h2)))
theorem pr_lstore {j : Nat} {x : Int64} (hi : pLook M.2.2.2.2 pc = some (.lstore j, 2)) (hj : j + 1 < M.2.2.1) (k : pWP M d mc ms n0 X Q (pc + 2) (pS2 L j (.long x)) st kc ks sh S) : pWP M d mc ms n0 X Q pc L (.long x :: st) kc ks sh S := by
  intro p l e R s m args below meth c D tc ad0 A hT hC hR hK hO hA ad H locs ls hN
  exact lv_lstore hC.1 hC.2.1 (pLook_ok hT hi)  hN.ls hj rfl (fun ls2 h2 => k p l e R s m args below meth c D tc ad0 A hT hC hR hK hO hA ad H locs ls2 (hN.st (pS2_has (v := .long x) h2)))
theorem pr_fstore_n {j : Fin 4} {x : UInt32} (hi : pLook M.2.2.2.2 pc = some (.fstore_n j, 1)) (hj : (j : Nat) < M.2.2.1) (k : pWP M d mc ms n0 X Q (pc + 1) (pS1 L (j : Nat) (.float x)) st kc ks sh S) : pWP M d mc ms n0 X Q pc L (.float x :: st) kc ks sh S := by
  intro p l e R s m args below meth c D tc ad0 A hT hC hR hK hO hA ad H locs ls hN
  exact lv_fstore_n hC.1 hC.2.1 (pLook_ok hT hi) rfl hN.ls hj rfl (fun ls2 h2 => k p l e R s m args below meth c D tc ad0 A hT hC hR hK hO hA ad H locs ls2 (hN.st (pS1_has (v := .float x) h2)))
theorem pr_fstore {j : Nat} {x : UInt32} (hi : pLook M.2.2.2.2 pc = some (.fstore j, 2)) (hj : j < M.2.2.1) (k : pWP M d mc ms n0 X Q (pc + 2) (pS1 L j (.float x)) st kc ks sh S) : pWP M d mc ms n0 X Q pc L (.float x :: st) kc ks sh S := by
  intro p l e R s m args below meth c D tc ad0 A hT hC hR hK hO hA ad H locs ls hN
  exact lv_fstore hC.1 hC.2.1 (pLook_ok hT hi)  hN.ls hj rfl (fun ls2 h2 => k p l e R s m args below meth c D tc ad0 A hT hC hR hK hO hA ad H locs ls2 (hN.st (pS1_has (v := .float x) h2)))
theorem pr_dstore_n {j : Fin 4} {x : UInt64} (hi : pLook M.2.2.2.2 pc = some (.dstore_n j, 1)) (hj : (j : Nat) + 1 < M.2.2.1) (k : pWP M d mc ms n0 X Q (pc + 1) (pS2 L (j : Nat) (.double x)) st kc ks sh S) : pWP M d mc ms n0 X Q pc L (.double x :: st) kc ks sh S := by
  intro p l e R s m args below meth c D tc ad0 A hT hC hR hK hO hA ad H locs ls hN
  exact lv_dstore_n hC.1 hC.2.1 (pLook_ok hT hi) rfl hN.ls hj rfl (fun ls2 h2 => k p l e R s m args below meth c D tc ad0 A hT hC hR hK hO hA ad H locs ls2 (hN.st (pS2_has (v := .double x) h2)))
theorem pr_dstore {j : Nat} {x : UInt64} (hi : pLook M.2.2.2.2 pc = some (.dstore j, 2)) (hj : j + 1 < M.2.2.1) (k : pWP M d mc ms n0 X Q (pc + 2) (pS2 L j (.double x)) st kc ks sh S) : pWP M d mc ms n0 X Q pc L (.double x :: st) kc ks sh S := by
  intro p l e R s m args below meth c D tc ad0 A hT hC hR hK hO hA ad H locs ls hN
  exact lv_dstore hC.1 hC.2.1 (pLook_ok hT hi)  hN.ls hj rfl (fun ls2 h2 => k p l e R s m args below meth c D tc ad0 A hT hC hR hK hO hA ad H locs ls2 (hN.st (pS2_has (v := .double x) h2)))
theorem pr_astore_n {j : Fin 4} {x : Nat} (hi : pLook M.2.2.2.2 pc = some (.astore_n j, 1)) (hj : (j : Nat) < M.2.2.1) (k : pWP M d mc ms n0 X Q (pc + 1) (pS1 L (j : Nat) (.ref x)) st kc ks sh S) : pWP M d mc ms n0 X Q pc L (.ref x :: st) kc ks sh S := by
  intro p l e R s m args below meth c D tc ad0 A hT hC hR hK hO hA ad H locs ls hN
  exact lv_astore_n hC.1 hC.2.1 (pLook_ok hT hi) rfl hN.ls hj rfl (fun ls2 h2 => k p l e R s m args below meth c D tc ad0 A hT hC hR hK hO hA ad H locs ls2 (hN.st (pS1_has (v := .ref x) h2)))
theorem pr_astore {j : Nat} {x : Nat} (hi : pLook M.2.2.2.2 pc = some (.astore j, 2)) (hj : j < M.2.2.1) (k : pWP M d mc ms n0 X Q (pc + 2) (pS1 L j (.ref x)) st kc ks sh S) : pWP M d mc ms n0 X Q pc L (.ref x :: st) kc ks sh S := by
  intro p l e R s m args below meth c D tc ad0 A hT hC hR hK hO hA ad H locs ls hN
  exact lv_astore hC.1 hC.2.1 (pLook_ok hT hi)  hN.ls hj rfl (fun ls2 h2 => k p l e R s m args below meth c D tc ad0 A hT hC hR hK hO hA ad H locs ls2 (hN.st (pS1_has (v := .ref x) h2)))
theorem pr_iinc {j : Nat} {n : Int} {x : Int32} (hi : pLook M.2.2.2.2 pc = some (.iinc j n, 3)) (hj : j < M.2.2.1) (hl : pLd L j = some (.int x)) (k : pWP M d mc ms n0 X Q (pc + 3) (pS1 L j (.int (x + Int32.ofInt n))) st kc ks sh S) : pWP M d mc ms n0 X Q pc L st kc ks sh S := by
  intro p l e R s m args below meth c D tc ad0 A hT hC hR hK hO hA ad H locs ls hN
  have hm : (j, Value.int x) ∈ pAs ad L := pAs_mem.mpr ⟨.int x, by
    unfold pLd at hl
    rw [List.getD_eq_getElem?_getD] at hl
    cases hL : L[j]? with
    | none => rw [hL] at hl; cases hl
    | some o => rw [hL] at hl; exact congrArg some hl, rfl⟩
  obtain ⟨i9, h9⟩ := List.getElem?_of_mem hm
  exact lv_iinc hC.1 hC.2.1 (pLook_ok hT hi) hN.ls h9 rfl hj rfl (fun ls2 h2 => k p l e R s m args below meth c D tc ad0 A hT hC hR hK hO hA ad H locs ls2 (hN.st (pS1_has (v := .int _) h2)))
theorem pr_iadd  {x : Int32} {y : Int32} (hi : pLook M.2.2.2.2 pc = some (.iadd, 1)) (k : pWP M d mc ms n0 X Q (pc + 1) L (.int (x + y) :: st) kc ks sh S) : pWP M d mc ms n0 X Q pc L (.int y :: .int x :: st) kc ks sh S := by
  intro p l e R s m args below meth c D tc ad0 A hT hC hR hK hO hA ad H locs ls hN
  exact lv_iadd hC.1 hC.2.1 (pLook_ok hT hi)  (k p l e R s m args below meth c D tc ad0 A hT hC hR hK hO hA ad H locs ls hN)
theorem pr_isub  {x : Int32} {y : Int32} (hi : pLook M.2.2.2.2 pc = some (.isub, 1)) (k : pWP M d mc ms n0 X Q (pc + 1) L (.int (x - y) :: st) kc ks sh S) : pWP M d mc ms n0 X Q pc L (.int y :: .int x :: st) kc ks sh S := by
  intro p l e R s m args below meth c D tc ad0 A hT hC hR hK hO hA ad H locs ls hN
  exact lv_isub hC.1 hC.2.1 (pLook_ok hT hi)  (k p l e R s m args below meth c D tc ad0 A hT hC hR hK hO hA ad H locs ls hN)
theorem pr_imul  {x : Int32} {y : Int32} (hi : pLook M.2.2.2.2 pc = some (.imul, 1)) (k : pWP M d mc ms n0 X Q (pc + 1) L (.int (x * y) :: st) kc ks sh S) : pWP M d mc ms n0 X Q pc L (.int y :: .int x :: st) kc ks sh S := by
  intro p l e R s m args below meth c D tc ad0 A hT hC hR hK hO hA ad H locs ls hN
  exact lv_imul hC.1 hC.2.1 (pLook_ok hT hi)  (k p l e R s m args below meth c D tc ad0 A hT hC hR hK hO hA ad H locs ls hN)
theorem pr_iand  {x : Int32} {y : Int32} (hi : pLook M.2.2.2.2 pc = some (.iand, 1)) (k : pWP M d mc ms n0 X Q (pc + 1) L (.int (x &&& y) :: st) kc ks sh S) : pWP M d mc ms n0 X Q pc L (.int y :: .int x :: st) kc ks sh S := by
  intro p l e R s m args below meth c D tc ad0 A hT hC hR hK hO hA ad H locs ls hN
  exact lv_iand hC.1 hC.2.1 (pLook_ok hT hi)  (k p l e R s m args below meth c D tc ad0 A hT hC hR hK hO hA ad H locs ls hN)
theorem pr_ineg  {x : Int32} (hi : pLook M.2.2.2.2 pc = some (.ineg, 1)) (k : pWP M d mc ms n0 X Q (pc + 1) L (.int (-x) :: st) kc ks sh S) : pWP M d mc ms n0 X Q pc L (.int x :: st) kc ks sh S := by
  intro p l e R s m args below meth c D tc ad0 A hT hC hR hK hO hA ad H locs ls hN
  exact lv_ineg hC.1 hC.2.1 (pLook_ok hT hi)  (k p l e R s m args below meth c D tc ad0 A hT hC hR hK hO hA ad H locs ls hN)
theorem pr_ishl  {x : Int32} {y : Int32} (hi : pLook M.2.2.2.2 pc = some (.ishl, 1)) (k : pWP M d mc ms n0 X Q (pc + 1) L (.int (x <<< (y &&& 31)) :: st) kc ks sh S) : pWP M d mc ms n0 X Q pc L (.int y :: .int x :: st) kc ks sh S := by
  intro p l e R s m args below meth c D tc ad0 A hT hC hR hK hO hA ad H locs ls hN
  exact lv_ishl hC.1 hC.2.1 (pLook_ok hT hi)  (k p l e R s m args below meth c D tc ad0 A hT hC hR hK hO hA ad H locs ls hN)
theorem pr_ladd  {x : Int64} {y : Int64} (hi : pLook M.2.2.2.2 pc = some (.ladd, 1)) (k : pWP M d mc ms n0 X Q (pc + 1) L (.long (x + y) :: st) kc ks sh S) : pWP M d mc ms n0 X Q pc L (.long y :: .long x :: st) kc ks sh S := by
  intro p l e R s m args below meth c D tc ad0 A hT hC hR hK hO hA ad H locs ls hN
  exact lv_ladd hC.1 hC.2.1 (pLook_ok hT hi)  (k p l e R s m args below meth c D tc ad0 A hT hC hR hK hO hA ad H locs ls hN)
theorem pr_lsub  {x : Int64} {y : Int64} (hi : pLook M.2.2.2.2 pc = some (.lsub, 1)) (k : pWP M d mc ms n0 X Q (pc + 1) L (.long (x - y) :: st) kc ks sh S) : pWP M d mc ms n0 X Q pc L (.long y :: .long x :: st) kc ks sh S := by
  intro p l e R s m args below meth c D tc ad0 A hT hC hR hK hO hA ad H locs ls hN
  exact lv_lsub hC.1 hC.2.1 (pLook_ok hT hi)  (k p l e R s m args below meth c D tc ad0 A hT hC hR hK hO hA ad H locs ls hN)
theorem pr_land  {x : Int64} {y : Int64} (hi : pLook M.2.2.2.2 pc = some (.land, 1)) (k : pWP M d mc ms n0 X Q (pc + 1) L (.long (x &&& y) :: st) kc ks sh S) : pWP M d mc ms n0 X Q pc L (.long y :: .long x :: st) kc ks sh S := by
  intro p l e R s m args below meth c D tc ad0 A hT hC hR hK hO hA ad H locs ls hN
  exact lv_land hC.1 hC.2.1 (pLook_ok hT hi)  (k p l e R s m args below meth c D tc ad0 A hT hC hR hK hO hA ad H locs ls hN)
theorem pr_lor  {x : Int64} {y : Int64} (hi : pLook M.2.2.2.2 pc = some (.lor, 1)) (k : pWP M d mc ms n0 X Q (pc + 1) L (.long (x ||| y) :: st) kc ks sh S) : pWP M d mc ms n0 X Q pc L (.long y :: .long x :: st) kc ks sh S := by
  intro p l e R s m args below meth c D tc ad0 A hT hC hR hK hO hA ad H locs ls hN
  exact lv_lor hC.1 hC.2.1 (pLook_ok hT hi)  (k p l e R s m args below meth c D tc ad0 A hT hC hR hK hO hA ad H locs ls hN)
theorem pr_lshl  {x : Int64} {y : Int32} (hi : pLook M.2.2.2.2 pc = some (.lshl, 1)) (k : pWP M d mc ms n0 X Q (pc + 1) L (.long (x <<< (y.toInt64 &&& 63)) :: st) kc ks sh S) : pWP M d mc ms n0 X Q pc L (.int y :: .long x :: st) kc ks sh S := by
  intro p l e R s m args below meth c D tc ad0 A hT hC hR hK hO hA ad H locs ls hN
  exact lv_lshl hC.1 hC.2.1 (pLook_ok hT hi) rfl (k p l e R s m args below meth c D tc ad0 A hT hC hR hK hO hA ad H locs ls hN)
theorem pr_lshr  {x : Int64} {y : Int32} (hi : pLook M.2.2.2.2 pc = some (.lshr, 1)) (k : pWP M d mc ms n0 X Q (pc + 1) L (.long (x >>> (y.toInt64 &&& 63)) :: st) kc ks sh S) : pWP M d mc ms n0 X Q pc L (.int y :: .long x :: st) kc ks sh S := by
  intro p l e R s m args below meth c D tc ad0 A hT hC hR hK hO hA ad H locs ls hN
  exact lv_lshr hC.1 hC.2.1 (pLook_ok hT hi) rfl (k p l e R s m args below meth c D tc ad0 A hT hC hR hK hO hA ad H locs ls hN)
theorem pr_i2l  {x : Int32} (hi : pLook M.2.2.2.2 pc = some (.i2l, 1)) (k : pWP M d mc ms n0 X Q (pc + 1) L (.long x.toInt64 :: st) kc ks sh S) : pWP M d mc ms n0 X Q pc L (.int x :: st) kc ks sh S := by
  intro p l e R s m args below meth c D tc ad0 A hT hC hR hK hO hA ad H locs ls hN
  exact lv_i2l hC.1 hC.2.1 (pLook_ok hT hi) rfl (k p l e R s m args below meth c D tc ad0 A hT hC hR hK hO hA ad H locs ls hN)
theorem pr_l2i  {x : Int64} (hi : pLook M.2.2.2.2 pc = some (.l2i, 1)) (k : pWP M d mc ms n0 X Q (pc + 1) L (.int x.toInt32 :: st) kc ks sh S) : pWP M d mc ms n0 X Q pc L (.long x :: st) kc ks sh S := by
  intro p l e R s m args below meth c D tc ad0 A hT hC hR hK hO hA ad H locs ls hN
  exact lv_l2i hC.1 hC.2.1 (pLook_ok hT hi) rfl (k p l e R s m args below meth c D tc ad0 A hT hC hR hK hO hA ad H locs ls hN)
theorem pr_i2s  {x : Int32} (hi : pLook M.2.2.2.2 pc = some (.i2s, 1)) (k : pWP M d mc ms n0 X Q (pc + 1) L (.int x.toInt16.toInt32 :: st) kc ks sh S) : pWP M d mc ms n0 X Q pc L (.int x :: st) kc ks sh S := by
  intro p l e R s m args below meth c D tc ad0 A hT hC hR hK hO hA ad H locs ls hN
  exact lv_i2s hC.1 hC.2.1 (pLook_ok hT hi) rfl (k p l e R s m args below meth c D tc ad0 A hT hC hR hK hO hA ad H locs ls hN)
theorem pr_i2f  {x : Int32} (hi : pLook M.2.2.2.2 pc = some (.i2f, 1)) (k : pWP M d mc ms n0 X Q (pc + 1) L (.float (FP.i2f x) :: st) kc ks sh S) : pWP M d mc ms n0 X Q pc L (.int x :: st) kc ks sh S := by
  intro p l e R s m args below meth c D tc ad0 A hT hC hR hK hO hA ad H locs ls hN
  exact lv_i2f hC.1 hC.2.1 (pLook_ok hT hi)  (k p l e R s m args below meth c D tc ad0 A hT hC hR hK hO hA ad H locs ls hN)
theorem pr_l2f  {x : Int64} (hi : pLook M.2.2.2.2 pc = some (.l2f, 1)) (k : pWP M d mc ms n0 X Q (pc + 1) L (.float (FP.l2f x) :: st) kc ks sh S) : pWP M d mc ms n0 X Q pc L (.long x :: st) kc ks sh S := by
  intro p l e R s m args below meth c D tc ad0 A hT hC hR hK hO hA ad H locs ls hN
  exact lv_l2f hC.1 hC.2.1 (pLook_ok hT hi)  (k p l e R s m args below meth c D tc ad0 A hT hC hR hK hO hA ad H locs ls hN)
theorem pr_f2i  {x : UInt32} (hi : pLook M.2.2.2.2 pc = some (.f2i, 1)) (k : pWP M d mc ms n0 X Q (pc + 1) L (.int (FP.f2i x) :: st) kc ks sh S) : pWP M d mc ms n0 X Q pc L (.float x :: st) kc ks sh S := by
  intro p l e R s m args below meth c D tc ad0 A hT hC hR hK hO hA ad H locs ls hN
  exact lv_f2i hC.1 hC.2.1 (pLook_ok hT hi)  (k p l e R s m args below meth c D tc ad0 A hT hC hR hK hO hA ad H locs ls hN)
theorem pr_i2d  {x : Int32} (hi : pLook M.2.2.2.2 pc = some (.i2d, 1)) (k : pWP M d mc ms n0 X Q (pc + 1) L (.double (FP.i2d x) :: st) kc ks sh S) : pWP M d mc ms n0 X Q pc L (.int x :: st) kc ks sh S := by
  intro p l e R s m args below meth c D tc ad0 A hT hC hR hK hO hA ad H locs ls hN
  exact lv_i2d hC.1 hC.2.1 (pLook_ok hT hi)  (k p l e R s m args below meth c D tc ad0 A hT hC hR hK hO hA ad H locs ls hN)
theorem pr_l2d  {x : Int64} (hi : pLook M.2.2.2.2 pc = some (.l2d, 1)) (k : pWP M d mc ms n0 X Q (pc + 1) L (.double (FP.l2d x) :: st) kc ks sh S) : pWP M d mc ms n0 X Q pc L (.long x :: st) kc ks sh S := by
  intro p l e R s m args below meth c D tc ad0 A hT hC hR hK hO hA ad H locs ls hN
  exact lv_l2d hC.1 hC.2.1 (pLook_ok hT hi)  (k p l e R s m args below meth c D tc ad0 A hT hC hR hK hO hA ad H locs ls hN)
theorem pr_d2i  {x : UInt64} (hi : pLook M.2.2.2.2 pc = some (.d2i, 1)) (k : pWP M d mc ms n0 X Q (pc + 1) L (.int (FP.d2i x) :: st) kc ks sh S) : pWP M d mc ms n0 X Q pc L (.double x :: st) kc ks sh S := by
  intro p l e R s m args below meth c D tc ad0 A hT hC hR hK hO hA ad H locs ls hN
  exact lv_d2i hC.1 hC.2.1 (pLook_ok hT hi)  (k p l e R s m args below meth c D tc ad0 A hT hC hR hK hO hA ad H locs ls hN)
theorem pr_d2l  {x : UInt64} (hi : pLook M.2.2.2.2 pc = some (.d2l, 1)) (k : pWP M d mc ms n0 X Q (pc + 1) L (.long (FP.d2l x) :: st) kc ks sh S) : pWP M d mc ms n0 X Q pc L (.double x :: st) kc ks sh S := by
  intro p l e R s m args below meth c D tc ad0 A hT hC hR hK hO hA ad H locs ls hN
  exact lv_d2l hC.1 hC.2.1 (pLook_ok hT hi)  (k p l e R s m args below meth c D tc ad0 A hT hC hR hK hO hA ad H locs ls hN)
theorem pr_dneg  {x : UInt64} (hi : pLook M.2.2.2.2 pc = some (.dneg, 1)) (k : pWP M d mc ms n0 X Q (pc + 1) L (.double (FP.dneg x) :: st) kc ks sh S) : pWP M d mc ms n0 X Q pc L (.double x :: st) kc ks sh S := by
  intro p l e R s m args below meth c D tc ad0 A hT hC hR hK hO hA ad H locs ls hN
  exact lv_dneg hC.1 hC.2.1 (pLook_ok hT hi)  (k p l e R s m args below meth c D tc ad0 A hT hC hR hK hO hA ad H locs ls hN)
theorem pr_fcmp {op : CmpOp} {x : UInt32} {y : UInt32} (hi : pLook M.2.2.2.2 pc = some (.fcmp op, 1)) (k : pWP M d mc ms n0 X Q (pc + 1) L (.int (Op.cmpValue (FP.fcmp x y) op) :: st) kc ks sh S) : pWP M d mc ms n0 X Q pc L (.float y :: .float x :: st) kc ks sh S := by
  intro p l e R s m args below meth c D tc ad0 A hT hC hR hK hO hA ad H locs ls hN
  exact lv_fcmp hC.1 hC.2.1 (pLook_ok hT hi)  (k p l e R s m args below meth c D tc ad0 A hT hC hR hK hO hA ad H locs ls hN)
theorem pr_dcmp {op : CmpOp} {x : UInt64} {y : UInt64} (hi : pLook M.2.2.2.2 pc = some (.dcmp op, 1)) (k : pWP M d mc ms n0 X Q (pc + 1) L (.int (Op.cmpValue (FP.dcmp x y) op) :: st) kc ks sh S) : pWP M d mc ms n0 X Q pc L (.double y :: .double x :: st) kc ks sh S := by
  intro p l e R s m args below meth c D tc ad0 A hT hC hR hK hO hA ad H locs ls hN
  exact lv_dcmp hC.1 hC.2.1 (pLook_ok hT hi)  (k p l e R s m args below meth c D tc ad0 A hT hC hR hK hO hA ad H locs ls hN)
theorem pr_dup {v : Value} (hi : pLook M.2.2.2.2 pc = some (.dup, 1)) (hv : v.category = 1) (k : pWP M d mc ms n0 X Q (pc + 1) L (v :: v :: st) kc ks sh S) : pWP M d mc ms n0 X Q pc L (v :: st) kc ks sh S := by
  intro p l e R s m args below meth c D tc ad0 A hT hC hR hK hO hA ad H locs ls hN
  exact lv_dup hC.1 hC.2.1 (pLook_ok hT hi) (by rw [pTr_cat]; exact hv) (k p l e R s m args below meth c D tc ad0 A hT hC hR hK hO hA ad H locs ls hN)
theorem pr_pop {v : Value} (hi : pLook M.2.2.2.2 pc = some (.pop, 1)) (hv : v.category = 1) (k : pWP M d mc ms n0 X Q (pc + 1) L st kc ks sh S) : pWP M d mc ms n0 X Q pc L (v :: st) kc ks sh S := by
  intro p l e R s m args below meth c D tc ad0 A hT hC hR hK hO hA ad H locs ls hN
  exact lv_pop hC.1 hC.2.1 (pLook_ok hT hi) (by rw [pTr_cat]; exact hv) (k p l e R s m args below meth c D tc ad0 A hT hC hR hK hO hA ad H locs ls hN)
theorem pr_dup2 {v w : Value} (hi : pLook M.2.2.2.2 pc = some (.dup2, 1)) (hv : v.category = 1) (hw : w.category = 1) (k : pWP M d mc ms n0 X Q (pc + 1) L (v :: w :: v :: w :: st) kc ks sh S) : pWP M d mc ms n0 X Q pc L (v :: w :: st) kc ks sh S := by
  intro p l e R s m args below meth c D tc ad0 A hT hC hR hK hO hA ad H locs ls hN
  exact lv_dup2_11 hC.1 hC.2.1 (pLook_ok hT hi) (by rw [pTr_cat]; exact hv) (by rw [pTr_cat]; exact hw) (k p l e R s m args below meth c D tc ad0 A hT hC hR hK hO hA ad H locs ls hN)
theorem pr_lcmp {x y : Int64} (hi : pLook M.2.2.2.2 pc = some (.lcmp, 1)) (k : pWP M d mc ms n0 X Q (pc + 1) L (.int (lg_cmp x y) :: st) kc ks sh S) : pWP M d mc ms n0 X Q pc L (.long y :: .long x :: st) kc ks sh S := by
  intro p l e R s m args below meth c D tc ad0 A hT hC hR hK hO hA ad H locs ls hN
  exact W.lcmp hC.1 hC.2.1 (pLook_ok hT hi) (k p l e R s m args below meth c D tc ad0 A hT hC hR hK hO hA ad H locs ls hN)
theorem pr_fadd {x y : UInt32} (hi : pLook M.2.2.2.2 pc = some (.fadd, 1)) (hne : vf_n32 (FP.fadd x y)) (k : pWP M d mc ms n0 X Q (pc + 1) L (.float (FP.fadd x y) :: st) kc ks sh S) : pWP M d mc ms n0 X Q pc L (.float y :: .float x :: st) kc ks sh S := by
  intro p l e R s m args below meth c D tc ad0 A hT hC hR hK hO hA ad H locs ls hN
  exact lv_fadd hC.1 hC.2.1 (pLook_ok hT hi) hne (k p l e R s m args below meth c D tc ad0 A hT hC hR hK hO hA ad H locs ls hN)
theorem pr_fsub {x y : UInt32} (hi : pLook M.2.2.2.2 pc = some (.fsub, 1)) (hne : vf_n32 (FP.fsub x y)) (k : pWP M d mc ms n0 X Q (pc + 1) L (.float (FP.fsub x y) :: st) kc ks sh S) : pWP M d mc ms n0 X Q pc L (.float y :: .float x :: st) kc ks sh S := by
  intro p l e R s m args below meth c D tc ad0 A hT hC hR hK hO hA ad H locs ls hN
  exact lv_fsub hC.1 hC.2.1 (pLook_ok hT hi) hne (k p l e R s m args below meth c D tc ad0 A hT hC hR hK hO hA ad H locs ls hN)
theorem pr_fmul {x y : UInt32} (hi : pLook M.2.2.2.2 pc = some (.fmul, 1)) (hne : vf_n32 (FP.fmul x y)) (k : pWP M d mc ms n0 X Q (pc + 1) L (.float (FP.fmul x y) :: st) kc ks sh S) : pWP M d mc ms n0 X Q pc L (.float y :: .float x :: st) kc ks sh S := by
  intro p l e R s m args below meth c D tc ad0 A hT hC hR hK hO hA ad H locs ls hN
  exact lv_fmul hC.1 hC.2.1 (pLook_ok hT hi) hne (k p l e R s m args below meth c D tc ad0 A hT hC hR hK hO hA ad H locs ls hN)
theorem pr_fdiv {x y : UInt32} (hi : pLook M.2.2.2.2 pc = some (.fdiv, 1)) (hne : vf_n32 (FP.fdiv x y)) (k : pWP M d mc ms n0 X Q (pc + 1) L (.float (FP.fdiv x y) :: st) kc ks sh S) : pWP M d mc ms n0 X Q pc L (.float y :: .float x :: st) kc ks sh S := by
  intro p l e R s m args below meth c D tc ad0 A hT hC hR hK hO hA ad H locs ls hN
  exact lv_fdiv hC.1 hC.2.1 (pLook_ok hT hi) hne (k p l e R s m args below meth c D tc ad0 A hT hC hR hK hO hA ad H locs ls hN)
theorem pr_frem {x y : UInt32} (hi : pLook M.2.2.2.2 pc = some (.frem, 1)) (hne : vf_n32 (FP.frem x y)) (k : pWP M d mc ms n0 X Q (pc + 1) L (.float (FP.frem x y) :: st) kc ks sh S) : pWP M d mc ms n0 X Q pc L (.float y :: .float x :: st) kc ks sh S := by
  intro p l e R s m args below meth c D tc ad0 A hT hC hR hK hO hA ad H locs ls hN
  exact lv_frem hC.1 hC.2.1 (pLook_ok hT hi) hne (k p l e R s m args below meth c D tc ad0 A hT hC hR hK hO hA ad H locs ls hN)
theorem pr_dadd {x y : UInt64} (hi : pLook M.2.2.2.2 pc = some (.dadd, 1)) (hne : vf_n64 (FP.dadd x y)) (k : pWP M d mc ms n0 X Q (pc + 1) L (.double (FP.dadd x y) :: st) kc ks sh S) : pWP M d mc ms n0 X Q pc L (.double y :: .double x :: st) kc ks sh S := by
  intro p l e R s m args below meth c D tc ad0 A hT hC hR hK hO hA ad H locs ls hN
  exact lv_dadd hC.1 hC.2.1 (pLook_ok hT hi) hne (k p l e R s m args below meth c D tc ad0 A hT hC hR hK hO hA ad H locs ls hN)
theorem pr_dsub {x y : UInt64} (hi : pLook M.2.2.2.2 pc = some (.dsub, 1)) (hne : vf_n64 (FP.dsub x y)) (k : pWP M d mc ms n0 X Q (pc + 1) L (.double (FP.dsub x y) :: st) kc ks sh S) : pWP M d mc ms n0 X Q pc L (.double y :: .double x :: st) kc ks sh S := by
  intro p l e R s m args below meth c D tc ad0 A hT hC hR hK hO hA ad H locs ls hN
  exact lv_dsub hC.1 hC.2.1 (pLook_ok hT hi) hne (k p l e R s m args below meth c D tc ad0 A hT hC hR hK hO hA ad H locs ls hN)
theorem pr_dmul {x y : UInt64} (hi : pLook M.2.2.2.2 pc = some (.dmul, 1)) (hne : vf_n64 (FP.dmul x y)) (k : pWP M d mc ms n0 X Q (pc + 1) L (.double (FP.dmul x y) :: st) kc ks sh S) : pWP M d mc ms n0 X Q pc L (.double y :: .double x :: st) kc ks sh S := by
  intro p l e R s m args below meth c D tc ad0 A hT hC hR hK hO hA ad H locs ls hN
  exact lv_dmul hC.1 hC.2.1 (pLook_ok hT hi) hne (k p l e R s m args below meth c D tc ad0 A hT hC hR hK hO hA ad H locs ls hN)
theorem pr_ddiv {x y : UInt64} (hi : pLook M.2.2.2.2 pc = some (.ddiv, 1)) (hne : vf_n64 (FP.ddiv x y)) (k : pWP M d mc ms n0 X Q (pc + 1) L (.double (FP.ddiv x y) :: st) kc ks sh S) : pWP M d mc ms n0 X Q pc L (.double y :: .double x :: st) kc ks sh S := by
  intro p l e R s m args below meth c D tc ad0 A hT hC hR hK hO hA ad H locs ls hN
  exact lv_ddiv hC.1 hC.2.1 (pLook_ok hT hi) hne (k p l e R s m args below meth c D tc ad0 A hT hC hR hK hO hA ad H locs ls hN)
theorem pr_drem {x y : UInt64} (hi : pLook M.2.2.2.2 pc = some (.drem, 1)) (hne : vf_n64 (FP.drem x y)) (k : pWP M d mc ms n0 X Q (pc + 1) L (.double (FP.drem x y) :: st) kc ks sh S) : pWP M d mc ms n0 X Q pc L (.double y :: .double x :: st) kc ks sh S := by
  intro p l e R s m args below meth c D tc ad0 A hT hC hR hK hO hA ad H locs ls hN
  exact lv_drem hC.1 hC.2.1 (pLook_ok hT hi) hne (k p l e R s m args below meth c D tc ad0 A hT hC hR hK hO hA ad H locs ls hN)
theorem pr_f2d {x : UInt32} (hi : pLook M.2.2.2.2 pc = some (.f2d, 1)) (hne : vf_n64 (FP.f2d x)) (k : pWP M d mc ms n0 X Q (pc + 1) L (.double (FP.f2d x) :: st) kc ks sh S) : pWP M d mc ms n0 X Q pc L (.float x :: st) kc ks sh S := by
  intro p l e R s m args below meth c D tc ad0 A hT hC hR hK hO hA ad H locs ls hN
  exact lv_f2d hC.1 hC.2.1 (pLook_ok hT hi) hne (k p l e R s m args below meth c D tc ad0 A hT hC hR hK hO hA ad H locs ls hN)
theorem pr_d2f {x : UInt64} (hi : pLook M.2.2.2.2 pc = some (.d2f, 1)) (hne : vf_n32 (FP.d2f x)) (k : pWP M d mc ms n0 X Q (pc + 1) L (.float (FP.d2f x) :: st) kc ks sh S) : pWP M d mc ms n0 X Q pc L (.double x :: st) kc ks sh S := by
  intro p l e R s m args below meth c D tc ad0 A hT hC hR hK hO hA ad H locs ls hN
  exact lv_d2f hC.1 hC.2.1 (pLook_ok hT hi) hne (k p l e R s m args below meth c D tc ad0 A hT hC hR hK hO hA ad H locs ls hN)
theorem pr_irem {x y : Int32} (hi : pLook M.2.2.2.2 pc = some (.irem, 1)) (hne : ¬ y = 0) (k : pWP M d mc ms n0 X Q (pc + 1) L (.int (x - x / y * y) :: st) kc ks sh S) : pWP M d mc ms n0 X Q pc L (.int y :: .int x :: st) kc ks sh S := by
  intro p l e R s m args below meth c D tc ad0 A hT hC hR hK hO hA ad H locs ls hN
  exact lv_irem hC.1 hC.2.1 (pLook_ok hT hi) hne (k p l e R s m args below meth c D tc ad0 A hT hC hR hK hO hA ad H locs ls hN)
theorem pr_lrem {x y : Int64} (hi : pLook M.2.2.2.2 pc = some (.lrem, 1)) (hne : ¬ y = 0) (k : pWP M d mc ms n0 X Q (pc + 1) L (.long (x - x / y * y) :: st) kc ks sh S) : pWP M d mc ms n0 X Q pc L (.long y :: .long x :: st) kc ks sh S := by
  intro p l e R s m args below meth c D tc ad0 A hT hC hR hK hO hA ad H locs ls hN
  exact lv_lrem hC.1 hC.2.1 (pLook_ok hT hi) hne (k p l e R s m args below meth c D tc ad0 A hT hC hR hK hO hA ad H locs ls hN)
theorem pr_if_eq {x : Int32} {off : Int} (tgt : Nat) (hi : pLook M.2.2.2.2 pc = some (.ifCond .eq off, 3)) (ht : (pc : Int) + off = (tgt : Int)) (k1 : x = 0 → pWP M d mc ms n0 X Q tgt L st kc ks sh S) (k2 : ¬ (x = 0) → pWP M d mc ms n0 X Q (pc + 3) L st kc ks sh S) : pWP M d mc ms n0 X Q pc L (.int x :: st) kc ks sh S := by
  intro p l e R s m args below meth c D tc ad0 A hT hC hR hK hO hA ad H locs ls hN
  exact lv_if_eq hC.1 hC.2.1 (pLook_ok hT hi) ht (fun h => k1 h p l e R s m args below meth c D tc ad0 A hT hC hR hK hO hA ad H locs ls hN) (fun h => k2 h p l e R s m args below meth c D tc ad0 A hT hC hR hK hO hA ad H locs ls hN)
theorem pr_icmp_eq {x y : Int32} {off : Int} (tgt : Nat) (hi : pLook M.2.2.2.2 pc = some (.if_icmp .eq off, 3)) (ht : (pc : Int) + off = (tgt : Int)) (k1 : x = y → pWP M d mc ms n0 X Q tgt L st kc ks sh S) (k2 : ¬ (x = y) → pWP M d mc ms n0 X Q (pc + 3) L st kc ks sh S) : pWP M d mc ms n0 X Q pc L (.int y :: .int x :: st) kc ks sh S := by
  intro p l e R s m args below meth c D tc ad0 A hT hC hR hK hO hA ad H locs ls hN
  exact lv_icmp_eq hC.1 hC.2.1 (pLook_ok hT hi) ht (fun h => k1 h p l e R s m args below meth c D tc ad0 A hT hC hR hK hO hA ad H locs ls hN) (fun h => k2 h p l e R s m args below meth c D tc ad0 A hT hC hR hK hO hA ad H locs ls hN)
theorem pr_if_ne {x : Int32} {off : Int} (tgt : Nat) (hi : pLook M.2.2.2.2 pc = some (.ifCond .ne off, 3)) (ht : (pc : Int) + off = (tgt : Int)) (k1 : ¬ x = 0 → pWP M d mc ms n0 X Q tgt L st kc ks sh S) (k2 : x = 0 → pWP M d mc ms n0 X Q (pc + 3) L st kc ks sh S) : pWP M d mc ms n0 X Q pc L (.int x :: st) kc ks sh S := by
  intro p l e R s m args below meth c D tc ad0 A hT hC hR hK hO hA ad H locs ls hN
  exact lv_if_ne hC.1 hC.2.1 (pLook_ok hT hi) ht (fun h => k1 h p l e R s m args below meth c D tc ad0 A hT hC hR hK hO hA ad H locs ls hN) (fun h => k2 h p l e R s m args below meth c D tc ad0 A hT hC hR hK hO hA ad H locs ls hN)
theorem pr_icmp_ne {x y : Int32} {off : Int} (tgt : Nat) (hi : pLook M.2.2.2.2 pc = some (.if_icmp .ne off, 3)) (ht : (pc : Int) + off = (tgt : Int)) (k1 : ¬ x = y → pWP M d mc ms n0 X Q tgt L st kc ks sh S) (k2 : x = y → pWP M d mc ms n0 X Q (pc + 3) L st kc ks sh S) : pWP M d mc ms n0 X Q pc L (.int y :: .int x :: st) kc ks sh S := by
  intro p l e R s m args below meth c D tc ad0 A hT hC hR hK hO hA ad H locs ls hN
  exact lv_icmp_ne hC.1 hC.2.1 (pLook_ok hT hi) ht (fun h => k1 h p l e R s m args below meth c D tc ad0 A hT hC hR hK hO hA ad H locs ls hN) (fun h => k2 h p l e R s m args below meth c D tc ad0 A hT hC hR hK hO hA ad H locs ls hN)
theorem pr_if_lt {x : Int32} {off : Int} (tgt : Nat) (hi : pLook M.2.2.2.2 pc = some (.ifCond .lt off, 3)) (ht : (pc : Int) + off = (tgt : Int)) (k1 : x < 0 → pWP M d mc ms n0 X Q tgt L st kc ks sh S) (k2 : ¬ (x < 0) → pWP M d mc ms n0 X Q (pc + 3) L st kc ks sh S) : pWP M d mc ms n0 X Q pc L (.int x :: st) kc ks sh S := by
  intro p l e R s m args below meth c D tc ad0 A hT hC hR hK hO hA ad H locs ls hN
  exact lv_if_lt hC.1 hC.2.1 (pLook_ok hT hi) ht (fun h => k1 h p l e R s m args below meth c D tc ad0 A hT hC hR hK hO hA ad H locs ls hN) (fun h => k2 h p l e R s m args below meth c D tc ad0 A hT hC hR hK hO hA ad H locs ls hN)
theorem pr_icmp_lt {x y : Int32} {off : Int} (tgt : Nat) (hi : pLook M.2.2.2.2 pc = some (.if_icmp .lt off, 3)) (ht : (pc : Int) + off = (tgt : Int)) (k1 : x < y → pWP M d mc ms n0 X Q tgt L st kc ks sh S) (k2 : ¬ (x < y) → pWP M d mc ms n0 X Q (pc + 3) L st kc ks sh S) : pWP M d mc ms n0 X Q pc L (.int y :: .int x :: st) kc ks sh S := by
  intro p l e R s m args below meth c D tc ad0 A hT hC hR hK hO hA ad H locs ls hN
  exact lv_icmp_lt hC.1 hC.2.1 (pLook_ok hT hi) ht (fun h => k1 h p l e R s m args below meth c D tc ad0 A hT hC hR hK hO hA ad H locs ls hN) (fun h => k2 h p l e R s m args below meth c D tc ad0 A hT hC hR hK hO hA ad H locs ls hN)
theorem pr_if_ge {x : Int32} {off : Int} (tgt : Nat) (hi : pLook M.2.2.2.2 pc = some (.ifCond .ge off, 3)) (ht : (pc : Int) + off = (tgt : Int)) (k1 : 0 ≤ x → pWP M d mc ms n0 X Q tgt L st kc ks sh S) (k2 : ¬ (0 ≤ x) → pWP M d mc ms n0 X Q (pc + 3) L st kc ks sh S) : pWP M d mc ms n0 X Q pc L (.int x :: st) kc ks sh S := by
  intro p l e R s m args below meth c D tc ad0 A hT hC hR hK hO hA ad H locs ls hN
  exact lv_if_ge hC.1 hC.2.1 (pLook_ok hT hi) ht (fun h => k1 h p l e R s m args below meth c D tc ad0 A hT hC hR hK hO hA ad H locs ls hN) (fun h => k2 h p l e R s m args below meth c D tc ad0 A hT hC hR hK hO hA ad H locs ls hN)
theorem pr_icmp_ge {x y : Int32} {off : Int} (tgt : Nat) (hi : pLook M.2.2.2.2 pc = some (.if_icmp .ge off, 3)) (ht : (pc : Int) + off = (tgt : Int)) (k1 : y ≤ x → pWP M d mc ms n0 X Q tgt L st kc ks sh S) (k2 : ¬ (y ≤ x) → pWP M d mc ms n0 X Q (pc + 3) L st kc ks sh S) : pWP M d mc ms n0 X Q pc L (.int y :: .int x :: st) kc ks sh S := by
  intro p l e R s m args below meth c D tc ad0 A hT hC hR hK hO hA ad H locs ls hN
  exact lv_icmp_ge hC.1 hC.2.1 (pLook_ok hT hi) ht (fun h => k1 h p l e R s m args below meth c D tc ad0 A hT hC hR hK hO hA ad H locs ls hN) (fun h => k2 h p l e R s m args below meth c D tc ad0 A hT hC hR hK hO hA ad H locs ls hN)
theorem pr_if_gt {x : Int32} {off : Int} (tgt : Nat) (hi : pLook M.2.2.2.2 pc = some (.ifCond .gt off, 3)) (ht : (pc : Int) + off = (tgt : Int)) (k1 : 0 < x → pWP M d mc ms n0 X Q tgt L st kc ks sh S) (k2 : ¬ (0 < x) → pWP M d mc ms n0 X Q (pc + 3) L st kc ks sh S) : pWP M d mc ms n0 X Q pc L (.int x :: st) kc ks sh S := by
  intro p l e R s m args below meth c D tc ad0 A hT hC hR hK hO hA ad H locs ls hN
  exact lv_if_gt hC.1 hC.2.1 (pLook_ok hT hi) ht (fun h => k1 h p l e R s m args below meth c D tc ad0 A hT hC hR hK hO hA ad H locs ls hN) (fun h => k2 h p l e R s m args below meth c D tc ad0 A hT hC hR hK hO hA ad H locs ls hN)
theorem pr_icmp_gt {x y : Int32} {off : Int} (tgt : Nat) (hi : pLook M.2.2.2.2 pc = some (.if_icmp .gt off, 3)) (ht : (pc : Int) + off = (tgt : Int)) (k1 : y < x → pWP M d mc ms n0 X Q tgt L st kc ks sh S) (k2 : ¬ (y < x) → pWP M d mc ms n0 X Q (pc + 3) L st kc ks sh S) : pWP M d mc ms n0 X Q pc L (.int y :: .int x :: st) kc ks sh S := by
  intro p l e R s m args below meth c D tc ad0 A hT hC hR hK hO hA ad H locs ls hN
  exact lv_icmp_gt hC.1 hC.2.1 (pLook_ok hT hi) ht (fun h => k1 h p l e R s m args below meth c D tc ad0 A hT hC hR hK hO hA ad H locs ls hN) (fun h => k2 h p l e R s m args below meth c D tc ad0 A hT hC hR hK hO hA ad H locs ls hN)
theorem pr_if_le {x : Int32} {off : Int} (tgt : Nat) (hi : pLook M.2.2.2.2 pc = some (.ifCond .le off, 3)) (ht : (pc : Int) + off = (tgt : Int)) (k1 : x ≤ 0 → pWP M d mc ms n0 X Q tgt L st kc ks sh S) (k2 : ¬ (x ≤ 0) → pWP M d mc ms n0 X Q (pc + 3) L st kc ks sh S) : pWP M d mc ms n0 X Q pc L (.int x :: st) kc ks sh S := by
  intro p l e R s m args below meth c D tc ad0 A hT hC hR hK hO hA ad H locs ls hN
  exact lv_if_le hC.1 hC.2.1 (pLook_ok hT hi) ht (fun h => k1 h p l e R s m args below meth c D tc ad0 A hT hC hR hK hO hA ad H locs ls hN) (fun h => k2 h p l e R s m args below meth c D tc ad0 A hT hC hR hK hO hA ad H locs ls hN)
theorem pr_icmp_le {x y : Int32} {off : Int} (tgt : Nat) (hi : pLook M.2.2.2.2 pc = some (.if_icmp .le off, 3)) (ht : (pc : Int) + off = (tgt : Int)) (k1 : x ≤ y → pWP M d mc ms n0 X Q tgt L st kc ks sh S) (k2 : ¬ (x ≤ y) → pWP M d mc ms n0 X Q (pc + 3) L st kc ks sh S) : pWP M d mc ms n0 X Q pc L (.int y :: .int x :: st) kc ks sh S := by
  intro p l e R s m args below meth c D tc ad0 A hT hC hR hK hO hA ad H locs ls hN
  exact lv_icmp_le hC.1 hC.2.1 (pLook_ok hT hi) ht (fun h => k1 h p l e R s m args below meth c D tc ad0 A hT hC hR hK hO hA ad H locs ls hN) (fun h => k2 h p l e R s m args below meth c D tc ad0 A hT hC hR hK hO hA ad H locs ls hN)
theorem pr_goto {off : Int} (tgt : Nat) (hi : pLook M.2.2.2.2 pc = some (.goto off, 3)) (ht : (pc : Int) + off = (tgt : Int)) (k : pWP M d mc ms n0 X Q tgt L st kc ks sh S) : pWP M d mc ms n0 X Q pc L st kc ks sh S := by
  intro p l e R s m args below meth c D tc ad0 A hT hC hR hK hO hA ad H locs ls hN
  exact lv_goto hC.1 hC.2.1 (pLook_ok hT hi) ht (k p l e R s m args below meth c D tc ad0 A hT hC hR hK hO hA ad H locs ls hN)
theorem pr_ifnull {x : Nat} {off : Int} (hi : pLook M.2.2.2.2 pc = some (.ifnull off, 3)) (k : pWP M d mc ms n0 X Q (pc + 3) L st kc ks sh S) : pWP M d mc ms n0 X Q pc L (.ref x :: st) kc ks sh S := by
  intro p l e R s m args below meth c D tc ad0 A hT hC hR hK hO hA ad H locs ls hN
  exact lv_ifnull hC.1 hC.2.1 (pLook_ok hT hi) (k p l e R s m args below meth c D tc ad0 A hT hC hR hK hO hA ad H locs ls hN)
theorem pr_ifnonnull {x : Nat} {off : Int} (tgt : Nat) (hi : pLook M.2.2.2.2 pc = some (.ifnonnull off, 3)) (ht : (pc : Int) + off = (tgt : Int)) (k : pWP M d mc ms n0 X Q tgt L st kc ks sh S) : pWP M d mc ms n0 X Q pc L (.ref x :: st) kc ks sh S := by
  intro p l e R s m args below meth c D tc ad0 A hT hC hR hK hO hA ad H locs ls hN
  exact lv_ifnonnull hC.1 hC.2.1 (pLook_ok hT hi) ht (k p l e R s m args below meth c D tc ad0 A hT hC hR hK hO hA ad H locs ls hN)
theorem pr_tableOut {dflt lo hi9 : Int} {offs : Array Int} {len : Nat} {x : Int32} (tgt : Nat) (hi : pLook M.2.2.2.2 pc = some (.tableswitch dflt lo hi9 offs, len)) (h : x.toInt < lo ∨ hi9 < x.toInt) (ht : (pc : Int) + dflt = (tgt : Int)) (k : pWP M d mc ms n0 X Q tgt L st kc ks sh S) : pWP M d mc ms n0 X Q pc L (.int x :: st) kc ks sh S := by
  intro p l e R s m args below meth c D tc ad0 A hT hC hR hK hO hA ad H locs ls hN
  exact lv_tableOut hC.1 hC.2.1 (pLook_ok hT hi) h ht (k p l e R s m args below meth c D tc ad0 A hT hC hR hK hO hA ad H locs ls hN)
theorem pr_tableIn {dflt lo hi9 : Int} {offs : Array Int} {len : Nat} {x : Int32} {off : Int} (tgt : Nat) (hi : pLook M.2.2.2.2 pc = some (.tableswitch dflt lo hi9 offs, len)) (h1 : ¬ x.toInt < lo) (h2 : ¬ hi9 < x.toInt) (ho : offs[(x.toInt - lo).toNat]? = some off) (ht : (pc : Int) + off = (tgt : Int)) (k : pWP M d mc ms n0 X Q tgt L st kc ks sh S) : pWP M d mc ms n0 X Q pc L (.int x :: st) kc ks sh S := by
  intro p l e R s m args below meth c D tc ad0 A hT hC hR hK hO hA ad H locs ls hN
  exact lv_tableIn hC.1 hC.2.1 (pLook_ok hT hi) h1 h2 ho ht (k p l e R s m args below meth c D tc ad0 A hT hC hR hK hO hA ad H locs ls hN)
theorem pr_lookup {dflt : Int} {ps : Array (Int × Int)} {len : Nat} {x : Int32} {off : Int} (tgt : Nat) (hi : pLook M.2.2.2.2 pc = some (.lookupswitch dflt ps, len)) (hp : (ps.toList.zip (ps.toList.drop 1)).all (fun (a, next) => a.1 < next.1) = true) (ho : Op.lookupswitch.offset ps.toList dflt x.toInt = off) (ht : (pc : Int) + off = (tgt : Int)) (k : pWP M d mc ms n0 X Q tgt L st kc ks sh S) : pWP M d mc ms n0 X Q pc L (.int x :: st) kc ks sh S := by
  intro p l e R s m args below meth c D tc ad0 A hT hC hR hK hO hA ad H locs ls hN
  exact lv_lookup hC.1 hC.2.1 (pLook_ok hT hi) hp ho ht (k p l e R s m args below meth c D tc ad0 A hT hC hR hK hO hA ad H locs ls hN)
end PR
