/-! Math.abs and Math.min of floats: the machine runs them by their rows of the table of natives; written by wip/p37/gen/ov.py -/
theorem ov_find {tb : Tables} {e : Env} {s : State} {f : JFrame} {k : Class} {x : Method} {row : NativeRow} (hpc : f.pc = 0) (hk : s.vm.classes[f.method.cls]? = some k) (hin : k.name ∈ overriddenIn) (hboot : k.loader = none) (hx : k.methods[f.method.idx]? = some x)
    (hrow : NativeRow.find? tb.natives k.name x.name x.desc = some row) : overridden tb e s f = some row := by
  unfold overridden
  simp [hpc, hk, hboot, hx, hrow]
  exact fun q => absurd hin q

theorem ov_goA {p : Program} {e : Env} {below : List Frame} {s target : State} {g : JFrame} {c : Code} {m : MethodId} {meth : Method} {k : Class} {cm : Code} {row : NativeRow} {a : UInt32} {v : Value} {ig : Instr} {len : Nat} (acts : List Action) (h : At s g.method c below)
    (hk : s.vm.classes[m.cls]? = some k) (hx : k.methods[m.idx]? = some meth) (hboot : k.loader = none) (hin : k.name ∈ overriddenIn) (hrow : NativeRow.find? p.tables.natives k.name meth.name meth.desc = some row)
    (hpar : meth.sig.parameters.length = 1) (hc : meth.code = some cm) (hml : cm.maxLocals = 1) (hl : meth.locks = false)
    (hfull : e.platform.stackFull (((s.setTop g).threads[(s.setTop g).cur]?).getD { frames := [] }) (s.setTop g).frames 1 = false)
    (hrun : ∀ S : State, ∃ acts, (row.sem #[.float a]).run e S = .ok (some v) S acts) (hdg : decode c.code g.pc = .ok (ig, len))
    (hrest : Steps p.tables e below (s.setTop { g with pc := g.pc + len, stack := v :: g.stack }) target) : Steps p.tables e below (doInvoke e (s.setTop g) acts m #[.float a]).1 target := by
  obtain ⟨g0, hg⟩ := Option.isSome_iff_exists.mp h.top
  obtain ⟨r, hr⟩ := State.topJava?_eq_some.mp hg
  obtain ⟨mid, hmid⟩ := h.above
  have hcur : s.cur < s.threads.size := State.cur_lt_of_frames hr
  have htop : s.setTop g = s.setFrames (.java g :: r) := State.setTop_of_frames _ hr
  have hm : s.vm.method? m = some meth := by simp [Vm.method?, hk, hx]
  rw [(doInvoke_java (s := s.setTop g) (e := e) (acts := acts) (args := #[.float a]) (meth := meth) (code := cm) hm hc hl (by rw [hml]; exact hfull)).1, hml]
  have hU : (s.setTop g).pushFrame (.java { method := m, pc := 0, locals := argsToLocals #[.float a] 1, stack := [], locked := none }) = s.setFrames (.java (entryFrame m #[.float a] 1) :: .java g :: r) := by
    rw [State.pushFrame, State.frames_setTop _ hr, htop, State.setFrames_setFrames]
    rfl
  rw [hU]
  have hf1 : (s.setFrames (.java (entryFrame m #[.float a] 1) :: .java g :: r)).frames = .java (entryFrame m #[.float a] 1) :: .java g :: r := State.frames_setFrames _ hcur
  have hov : overridden p.tables e (s.setFrames (.java (entryFrame m #[.float a] 1) :: .java g :: r)) (entryFrame m #[.float a] 1) = some row := ov_find (k := k) (x := meth) rfl hk hin hboot hx hrow
  have hb2 : (s.vm.classes[m.cls]?.bind fun y => y.methods[m.idx]?) = some meth := by simp [hk, hx]
  have htake : ∀ j : Nat, List.take (1 + j) [Value.float a] = [Value.float a] := fun j => List.take_of_length_le (Nat.le_add_right 1 j)
  obtain ⟨acts2, hr2⟩ := hrun (s.setFrames (.native { method := m, args := #[.float a] } :: .java g :: r))
  have hcode : ∀ F : List Frame, (s.setFrames F).code? g.method = some c := by
    intro F
    have := h.code
    rw [State.code?_eq] at this ⊢
    simpa [State.setFrames] using this
  have hfs : handOver (s.setFrames (.native { method := m, args := #[.float a] } :: .java g :: r)) (some v) (.java g :: r) = some (.java { g with pc := g.pc + len, stack := v :: g.stack } :: r) := by
    simp [handOver, hcode, hdg, Except.toOption]
  have hstep : (stepThread p.tables e (s.setFrames (.java (entryFrame m #[.float a] 1) :: .java g :: r))).1 = s.setTop { g with pc := g.pc + len, stack := v :: g.stack } := by
    unfold stepThread
    simp only [hf1, hov]
    simp [entryFrame, argsToLocals, Value.category, argCount, hb2, hpar, htake, hr2, afterNative]
    rw [doReturn_native (f := { method := m, args := #[.float a] }) (below := .java g :: r) (State.frames_setFrames _ hcur) rfl hfs, State.setFrames_setFrames, ← State.setTop_of_frames _ hr]
  refine Steps.head ⟨h.running, by simpa using h.runnable, by simpa using h.alone⟩ ⟨.java (entryFrame m #[.float a] 1) :: .java g :: mid, by rw [hf1]; rw [hr] at hmid; simp at hmid; simp [hmid], by simp, by simp⟩ ?_
  rw [hstep]
  exact hrest
/-- such a call in a walk -/
theorem ov_WA {p : Program} {l : Launch} {e : Env} {R : Room} {s : State} {m : MethodId} {args : Array Value} {below : List Frame} {meth : Method} {c : Code} {H : Heap} {locs : List Loc} {cells slots : Nat} {Q : State → Prop} {cc : ByteArray} {pc : Nat} {ls : Array Slot} {rest : List Value}
    {y : MethodName} {cd : ByteArray} {ret : Option FieldType} {row : NativeRow} {a : UInt32} {v : Value} (hexec : p.tables.exec = Jvm.exec) (hb : c.code = cc) (hml : c.maxLocals = ls.size) {own : String} {index : Nat} (hown : s.vm.findClass own = some m.cls) (hlink : (Cond.methodLink own index y).before args s = true)
    (hcode : (Cond.code y cd 1 ret).before args s = true) (hstat : (Cond.static y).before args s = true) (hinit : (Cond.initialized y.cls).before args s = true) (hin : y.cls ∈ overriddenIn) (hy : y.cls ≠ "java/lang/invoke/MethodHandle" ∧ y.cls ≠ "java/lang/invoke/VarHandle")
    (hdesc : (parseMethodDescriptor y.desc).map (fun d => d.parameters.length) = some 1) (hrow : NativeRow.find? p.tables.natives y.cls y.name y.desc = some row) (hrun : ∀ S : State, ∃ acts, (row.sem #[.float a]).run e S = .ok (some v) S acts)
    (hframes : 1 ≤ R.frames) (hlocals : (rest.map fun v => v.category).sum + 15 ≤ R.locals) (hdg : decode cc pc = .ok (.invokestatic index, 3))
    (k : W p l e R s m args below meth c H locs cells slots Q (F0 m (pc + 3) ls (v :: rest))) : W p l e R s m args below meth c H locs cells slots Q (F0 m pc ls ([Value.float a].reverse ++ rest)) := by
  intro T hT X
  obtain ⟨mk, hnamed⟩ := Cond.code_named hcode
  obtain ⟨methM, cM, hmethM, hcodeM, -, hlocalsM, -, hlocksM, -, hsigM⟩ := Cond.code_spec hnamed hcode
  have hstatic : methM.isStatic = true := Cond.static_spec hnamed hmethM hstat
  obtain ⟨kP, hkP, hkname⟩ := className_of_methodNamed hnamed
  obtain ⟨hmnM, hmdM⟩ := name_of_methodNamed hnamed hmethM
  have hinitP : kP.init = .initialized := Cond.initialized_spec (findClass_of_methodNamed hnamed) hkP hinit
  have hxP : kP.methods[mk.idx]? = some methM := by simpa [Vm.method?, hkP] using hmethM
  have hbootP : kP.loader = none := Vm.bootOf_findClass (findClass_of_methodNamed hnamed) hkP
  have hpar : methM.sig.parameters.length = 1 := by
    rw [hsigM] at hdesc
    simpa using hdesc
  obtain ⟨vm', X', step⟩ := X.invokestatic hexec hown hlink hnamed hmethM hstatic hkP hinitP hy (g := F0 m pc ls ([Value.float a].reverse ++ rest)) rfl (argsL := [Value.float a]) (rest := rest) hpar.symm rfl (by rw [hb]; exact hdg)
  obtain ⟨t, a1, b1⟩ := k (T.setVm vm') hT X'
  refine ⟨t, step t fun acts => ?_, b1⟩
  obtain ⟨kQ, hkQ, heQ⟩ := X'.warmed.alike.2.2 _ _ hkP
  have hmQ : kQ.methods = kP.methods := by rw [heQ]
  have hnQ : kQ.name = kP.name := by rw [heQ]
  have hlQ : kQ.loader = kP.loader := by rw [heQ]
  exact ov_goA (g := F0 m pc ls rest) acts X'.here hkQ (by rw [hmQ]; exact hxP) (by rw [hlQ]; exact hbootP) (by rw [hnQ, hkname]; exact hin) (by rw [hnQ, hkname, hmnM, hmdM]; exact hrow) hpar hcodeM hlocalsM hlocksM (X'.notFull (g := F0 m pc ls rest) (by rw [hml]) hframes (by show 2 * 0 + _ + _ ≤ _; show 2 * 0 + (rest.map fun v => v.category).sum + (1 + 11) ≤ R.locals; omega)) hrun (by rw [hb]; exact hdg) a1

theorem ov_goM {p : Program} {e : Env} {below : List Frame} {s target : State} {g : JFrame} {c : Code} {m : MethodId} {meth : Method} {k : Class} {cm : Code} {row : NativeRow} {a b : UInt32} {v : Value} {ig : Instr} {len : Nat} (acts : List Action) (h : At s g.method c below)
    (hk : s.vm.classes[m.cls]? = some k) (hx : k.methods[m.idx]? = some meth) (hboot : k.loader = none) (hin : k.name ∈ overriddenIn) (hrow : NativeRow.find? p.tables.natives k.name meth.name meth.desc = some row)
    (hpar : meth.sig.parameters.length = 2) (hc : meth.code = some cm) (hml : cm.maxLocals = 2) (hl : meth.locks = false)
    (hfull : e.platform.stackFull (((s.setTop g).threads[(s.setTop g).cur]?).getD { frames := [] }) (s.setTop g).frames 2 = false)
    (hrun : ∀ S : State, ∃ acts, (row.sem #[.float a, .float b]).run e S = .ok (some v) S acts) (hdg : decode c.code g.pc = .ok (ig, len))
    (hrest : Steps p.tables e below (s.setTop { g with pc := g.pc + len, stack := v :: g.stack }) target) : Steps p.tables e below (doInvoke e (s.setTop g) acts m #[.float a, .float b]).1 target := by
  obtain ⟨g0, hg⟩ := Option.isSome_iff_exists.mp h.top
  obtain ⟨r, hr⟩ := State.topJava?_eq_some.mp hg
  obtain ⟨mid, hmid⟩ := h.above
  have hcur : s.cur < s.threads.size := State.cur_lt_of_frames hr
  have htop : s.setTop g = s.setFrames (.java g :: r) := State.setTop_of_frames _ hr
  have hm : s.vm.method? m = some meth := by simp [Vm.method?, hk, hx]
  rw [(doInvoke_java (s := s.setTop g) (e := e) (acts := acts) (args := #[.float a, .float b]) (meth := meth) (code := cm) hm hc hl (by rw [hml]; exact hfull)).1, hml]
  have hU : (s.setTop g).pushFrame (.java { method := m, pc := 0, locals := argsToLocals #[.float a, .float b] 2, stack := [], locked := none }) = s.setFrames (.java (entryFrame m #[.float a, .float b] 2) :: .java g :: r) := by
    rw [State.pushFrame, State.frames_setTop _ hr, htop, State.setFrames_setFrames]
    rfl
  rw [hU]
  have hf1 : (s.setFrames (.java (entryFrame m #[.float a, .float b] 2) :: .java g :: r)).frames = .java (entryFrame m #[.float a, .float b] 2) :: .java g :: r := State.frames_setFrames _ hcur
  have hov : overridden p.tables e (s.setFrames (.java (entryFrame m #[.float a, .float b] 2) :: .java g :: r)) (entryFrame m #[.float a, .float b] 2) = some row := ov_find (k := k) (x := meth) rfl hk hin hboot hx hrow
  have hb2 : (s.vm.classes[m.cls]?.bind fun y => y.methods[m.idx]?) = some meth := by simp [hk, hx]
  have htake : ∀ j : Nat, List.take (2 + j) [Value.float a, Value.float b] = [Value.float a, Value.float b] := fun j => List.take_of_length_le (Nat.le_add_right 2 j)
  obtain ⟨acts2, hr2⟩ := hrun (s.setFrames (.native { method := m, args := #[.float a, .float b] } :: .java g :: r))
  have hcode : ∀ F : List Frame, (s.setFrames F).code? g.method = some c := by
    intro F
    have := h.code
    rw [State.code?_eq] at this ⊢
    simpa [State.setFrames] using this
  have hfs : handOver (s.setFrames (.native { method := m, args := #[.float a, .float b] } :: .java g :: r)) (some v) (.java g :: r) = some (.java { g with pc := g.pc + len, stack := v :: g.stack } :: r) := by
    simp [handOver, hcode, hdg, Except.toOption]
  have hstep : (stepThread p.tables e (s.setFrames (.java (entryFrame m #[.float a, .float b] 2) :: .java g :: r))).1 = s.setTop { g with pc := g.pc + len, stack := v :: g.stack } := by
    unfold stepThread
    simp only [hf1, hov]
    simp [entryFrame, argsToLocals, Value.category, argCount, hb2, hpar, htake, hr2, afterNative]
    rw [doReturn_native (f := { method := m, args := #[.float a, .float b] }) (below := .java g :: r) (State.frames_setFrames _ hcur) rfl hfs, State.setFrames_setFrames, ← State.setTop_of_frames _ hr]
  refine Steps.head ⟨h.running, by simpa using h.runnable, by simpa using h.alone⟩ ⟨.java (entryFrame m #[.float a, .float b] 2) :: .java g :: mid, by rw [hf1]; rw [hr] at hmid; simp at hmid; simp [hmid], by simp, by simp⟩ ?_
  rw [hstep]
  exact hrest
/-- such a call in a walk -/
theorem ov_WM {p : Program} {l : Launch} {e : Env} {R : Room} {s : State} {m : MethodId} {args : Array Value} {below : List Frame} {meth : Method} {c : Code} {H : Heap} {locs : List Loc} {cells slots : Nat} {Q : State → Prop} {cc : ByteArray} {pc : Nat} {ls : Array Slot} {rest : List Value}
    {y : MethodName} {cd : ByteArray} {ret : Option FieldType} {row : NativeRow} {a b : UInt32} {v : Value} (hexec : p.tables.exec = Jvm.exec) (hb : c.code = cc) (hml : c.maxLocals = ls.size) {own : String} {index : Nat} (hown : s.vm.findClass own = some m.cls) (hlink : (Cond.methodLink own index y).before args s = true)
    (hcode : (Cond.code y cd 2 ret).before args s = true) (hstat : (Cond.static y).before args s = true) (hinit : (Cond.initialized y.cls).before args s = true) (hin : y.cls ∈ overriddenIn) (hy : y.cls ≠ "java/lang/invoke/MethodHandle" ∧ y.cls ≠ "java/lang/invoke/VarHandle")
    (hdesc : (parseMethodDescriptor y.desc).map (fun d => d.parameters.length) = some 2) (hrow : NativeRow.find? p.tables.natives y.cls y.name y.desc = some row) (hrun : ∀ S : State, ∃ acts, (row.sem #[.float a, .float b]).run e S = .ok (some v) S acts)
    (hframes : 1 ≤ R.frames) (hlocals : (rest.map fun v => v.category).sum + 15 ≤ R.locals) (hdg : decode cc pc = .ok (.invokestatic index, 3))
    (k : W p l e R s m args below meth c H locs cells slots Q (F0 m (pc + 3) ls (v :: rest))) : W p l e R s m args below meth c H locs cells slots Q (F0 m pc ls ([Value.float a, Value.float b].reverse ++ rest)) := by
  intro T hT X
  obtain ⟨mk, hnamed⟩ := Cond.code_named hcode
  obtain ⟨methM, cM, hmethM, hcodeM, -, hlocalsM, -, hlocksM, -, hsigM⟩ := Cond.code_spec hnamed hcode
  have hstatic : methM.isStatic = true := Cond.static_spec hnamed hmethM hstat
  obtain ⟨kP, hkP, hkname⟩ := className_of_methodNamed hnamed
  obtain ⟨hmnM, hmdM⟩ := name_of_methodNamed hnamed hmethM
  have hinitP : kP.init = .initialized := Cond.initialized_spec (findClass_of_methodNamed hnamed) hkP hinit
  have hxP : kP.methods[mk.idx]? = some methM := by simpa [Vm.method?, hkP] using hmethM
  have hbootP : kP.loader = none := Vm.bootOf_findClass (findClass_of_methodNamed hnamed) hkP
  have hpar : methM.sig.parameters.length = 2 := by
    rw [hsigM] at hdesc
    simpa using hdesc
  obtain ⟨vm', X', step⟩ := X.invokestatic hexec hown hlink hnamed hmethM hstatic hkP hinitP hy (g := F0 m pc ls ([Value.float a, Value.float b].reverse ++ rest)) rfl (argsL := [Value.float a, Value.float b]) (rest := rest) hpar.symm rfl (by rw [hb]; exact hdg)
  obtain ⟨t, a1, b1⟩ := k (T.setVm vm') hT X'
  refine ⟨t, step t fun acts => ?_, b1⟩
  obtain ⟨kQ, hkQ, heQ⟩ := X'.warmed.alike.2.2 _ _ hkP
  have hmQ : kQ.methods = kP.methods := by rw [heQ]
  have hnQ : kQ.name = kP.name := by rw [heQ]
  have hlQ : kQ.loader = kP.loader := by rw [heQ]
  exact ov_goM (g := F0 m pc ls rest) acts X'.here hkQ (by rw [hmQ]; exact hxP) (by rw [hlQ]; exact hbootP) (by rw [hnQ, hkname]; exact hin) (by rw [hnQ, hkname, hmnM, hmdM]; exact hrow) hpar hcodeM hlocalsM hlocksM (X'.notFull (g := F0 m pc ls rest) (by rw [hml]) hframes (by show 2 * 0 + _ + _ ≤ _; show 2 * 0 + (rest.map fun v => v.category).sum + (2 + 11) ≤ R.locals; omega)) hrun (by rw [hb]; exact hdg) a1

def rwAbs : NativeRow := (NativeRow.find? Native.java_lang_Math.nans.rows "java/lang/Math" "abs" "(F)F").get (by decide +kernel)
def rwMin : NativeRow := (NativeRow.find? Native.java_lang_Math.nans.rows "java/lang/Math" "min" "(FF)F").get (by decide +kernel)
set_option maxRecDepth 100000 in
theorem rwAbs_in (p : Program) : NativeRow.find? p.tables.natives "java/lang/Math" "abs" "(F)F" = some rwAbs := by cases p <;> rfl
set_option maxRecDepth 100000 in
theorem rwMin_in (p : Program) : NativeRow.find? p.tables.natives "java/lang/Math" "min" "(FF)F" = some rwMin := by cases p <;> rfl
theorem run_ok {t : Sem (Option Value)} {e : Env} {S : State} {v : Option Value} (hw : wpRun t (fun u S2 _ => u = v ∧ S2 = S) (fun _ _ _ => False) e S) : ∃ acts, t.run e S = .ok v S acts := by
  have hw' := (wpRun_iff_run _ _ _ _ _).mp hw
  cases hr : t.run e S with
  | ok u S2 acts => rw [hr] at hw'; obtain ⟨rfl, rfl⟩ := hw'; exact ⟨_, rfl⟩
  | ctl x S2 acts => rw [hr] at hw'; cases x <;> exact hw'.elim
theorem rwAbs_run {a : UInt32} (ha : a &&& 0x7fffffff ≤ 0x7f800000) (e : Env) (S : State) : ∃ acts, (rwAbs.sem #[.float a]).run e S = .ok (some (.float (a &&& 0x7fffffff))) S acts := by
  refine run_ok ?_
  have hs : rwAbs.sem #[.float a] = (do
      let r ← anyNaN32 (a &&& 0x7fffffff)
      mark "nat.java_lang_Math.abs/float"
      Pure.pure (some (Value.float r))) := rfl
  have hn : (a &&& 0x7fffffff) &&& 0x7fffffff ≤ 0x7f800000 := by rw [UInt32.and_assoc, UInt32.and_self]; exact ha
  rw [hs]
  simp [jvm, wpRun, anyNaN32, hn]
theorem rwMin_run {a b : UInt32} (ha : FP.fIsNaN a = false) (hb : FP.fIsNaN b = false) (e : Env) (S : State) : ∃ acts, (rwMin.sem #[.float a, .float b]).run e S = .ok (some (.float (Native.java_lang_Math.nans.pick32 false a b))) S acts := by
  refine run_ok ?_
  have hs : rwMin.sem #[.float a, .float b] = (do
      let r ← if FP.fIsNaN a then anyNaN32 a else if FP.fIsNaN b then anyNaN32 b else Pure.pure (Native.java_lang_Math.nans.pick32 false a b)
      mark "nat.java_lang_Math.min/float"
      Pure.pure (some (Value.float r))) := rfl
  rw [hs]
  simp [jvm, wpRun, ha, hb]
section OVR
variable {M : PM} {d mc ms n0 : Nat} {X : Nat × (Nat → Int32)} {Q : PQ} {pc : Nat} {L : PL} {st : List Value} {kc ks : Nat} {sh : List PSh} {S : PSt}
theorem pr_absF {idx : Nat} {x : UInt32} (hi : pLook M.2.2.2.2 pc = some (.invokestatic idx, 3)) (h1 : Cond.methodLink M.1.cls idx yJ9_abs_f6c48 ∈ pGood) (hd : 1 ≤ d) (hcat : (st.map fun v => v.category).sum ≤ 8) (hx : x &&& 0x7fffffff ≤ 0x7f800000)
    (k : pWP M d mc ms n0 X Q (pc + 3) L (.float (x &&& 0x7fffffff) :: st) kc ks sh S) : pWP M d mc ms n0 X Q pc L (.float x :: st) kc ks sh S := by
  intro p l e R s m args below meth c D tc ad0 A hT hC hR hK hO hA ad H locs ls hN
  have hts := hC.2.2.2.2.2.2.2
  have hr := hR.1
  have hr2 := hR.2.1
  have hc9 := pCat (ad := ad) hcat
  exact ov_WA (row := rwAbs) hC.1 hC.2.1 (hC.2.2.1.trans hN.ls.1.symm) hC.2.2.2.2.1 (hts _ h1) (hts _ co_J9_abs_f6c48) (hts _ st_J9_abs_f6c48) (hts _ in_J9) (by decide) ⟨by decide, by decide⟩ (by decide +kernel) (rwAbs_in p) (fun S => rwAbs_run hx e S) (by omega) (by omega) (pLook_ok hT hi) (k p l e R s m args below meth c D tc ad0 A hT hC hR hK hO hA ad H locs ls hN)
theorem pr_minF {idx : Nat} {x y : UInt32} (hi : pLook M.2.2.2.2 pc = some (.invokestatic idx, 3)) (h1 : Cond.methodLink M.1.cls idx yJ9_min_e70c8 ∈ pGood) (hd : 1 ≤ d) (hcat : (st.map fun v => v.category).sum ≤ 8) (hx : FP.fIsNaN x = false) (hy : FP.fIsNaN y = false)
    (k : pWP M d mc ms n0 X Q (pc + 3) L (.float (Native.java_lang_Math.nans.pick32 false x y) :: st) kc ks sh S) : pWP M d mc ms n0 X Q pc L (.float y :: .float x :: st) kc ks sh S := by
  intro p l e R s m args below meth c D tc ad0 A hT hC hR hK hO hA ad H locs ls hN
  have hts := hC.2.2.2.2.2.2.2
  have hr := hR.1
  have hr2 := hR.2.1
  have hc9 := pCat (ad := ad) hcat
  exact ov_WM (row := rwMin) hC.1 hC.2.1 (hC.2.2.1.trans hN.ls.1.symm) hC.2.2.2.2.1 (hts _ h1) (hts _ co_J9_min_e70c8) (hts _ st_J9_min_e70c8) (hts _ in_J9) (by decide) ⟨by decide, by decide⟩ (by decide +kernel) (rwMin_in p) (fun S => rwMin_run hx hy e S) (by omega) (by omega) (pLook_ok hT hi) (k p l e R s m args below meth c D tc ad0 A hT hC hR hK hO hA ad H locs ls hN)
end OVR
theorem q_absF {M : PM} {d n0 : Nat} {X : Nat × (Nat → Int32)} {sh : List PSh} {P : Option Value → PSt → Prop} {pc : Nat} {L : PL} {st : List Value} {S : PSt} {idx : Nat} {x : UInt32} (hi : pLook M.2.2.2.2 pc = some (.invokestatic idx, 3)) (h1 : Cond.methodLink M.1.cls idx yJ9_abs_f6c48 ∈ pGood) (hd : 1 ≤ d) (hcat : (st.map fun v => v.category).sum ≤ 8) (hx : x &&& 0x7fffffff ≤ 0x7f800000) (k : pV M d n0 X sh P (pc + 3) L (.float (x &&& 0x7fffffff) :: st) S) : pV M d n0 X sh P pc L (.float x :: st) S := pr_absF hi h1 hd hcat hx k
def minF (x y : UInt32) : UInt32 := Native.java_lang_Math.nans.pick32 false x y
theorem q_minF {M : PM} {d n0 : Nat} {X : Nat × (Nat → Int32)} {sh : List PSh} {P : Option Value → PSt → Prop} {pc : Nat} {L : PL} {st : List Value} {S : PSt} {idx : Nat} {x y : UInt32} (hi : pLook M.2.2.2.2 pc = some (.invokestatic idx, 3)) (h1 : Cond.methodLink M.1.cls idx yJ9_min_e70c8 ∈ pGood) (hd : 1 ≤ d) (hcat : (st.map fun v => v.category).sum ≤ 8) (hx : FP.fIsNaN x = false) (hy : FP.fIsNaN y = false) (k : pV M d n0 X sh P (pc + 3) L (.float (minF x y) :: st) S) : pV M d n0 X sh P pc L (.float y :: .float x :: st) S := pr_minF hi h1 hd hcat hx hy k
