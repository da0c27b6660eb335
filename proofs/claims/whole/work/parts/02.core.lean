/-! CALLS THAT MAY THROW. A method's contract says of every start: it returns (Rt), or it throws an object of the class named E (Th). All here is general; nothing of this claim's own. -/
def mx_Q (Rt : Array Value → State → Option Value → State → Prop) (Th : Array Value → State → String → State → Prop) (free : Addr → Prop) (rc rs : Nat) : Array Value → State → Outcome → State → Prop := fun a st o t =>
  ∃ L : List Loc, (∀ z ∈ L, free z.base) ∧ st.WarmedH t.vm ∧
    ((∃ v : Option Value, o = .returned v ∧ Rt a st v t ∧ st.sameButNew ({ t with vm := st.vm } : State) L rc rs) ∨
     (∃ (q : Addr) (E : String) (ce : Cell), o = .threw q ∧ Th a st E t ∧ t.heap[q]? = some ce ∧ ce.vm = .none ∧ st.vm.findClass E = some ce.cls ∧ st.sameButNew ({ t with vm := st.vm } : State) L 1 6))
def mx_M (l : Launch) (y : MethodName) (ws : List Cond) (rm : Room) (Pc : Array Value → State → Prop) (Rt : Array Value → State → Option Value → State → Prop) (Th : Array Value → State → String → State → Prop) (free : Addr → Prop) (rc rs : Nat) : Prop :=
  MetFree l y (headSpec ws rm) Pc (fun _ _ _ _ _ => True) (mx_Q Rt Th free rc rs)
/-- what a body owes at its end -/
def mx_E (below : List Frame) (Rt : Array Value → State → Option Value → State → Prop) (Th : Array Value → State → String → State → Prop) (free : Addr → Prop) (rc rs : Nat) (a : Array Value) (s : State) : State → Prop := fun t =>
  ∃ o, t.status = .running ∧ Ended t below o ∧ mx_Q Rt Th free rc rs a s o t
/-- the method that a name stands for: its code's number of locals, its parameters -/
def mx_Is (s : State) (y : MethodName) (maxL : Nat) : Prop := ∃ (mk : MethodId) (methM : Method) (cM : Code), s.methodNamed? y = some mk ∧ s.vm.method? mk = some methM ∧ methM.code = some cM ∧ cM.maxLocals = maxL ∧ parseMethodDescriptor y.desc = some methM.sig
theorem mx_Is.code {args : Array Value} {s : State} {y : MethodName} {bytes : ByteArray} {maxL : Nat} {ret : Option FieldType} (h : (Cond.code y bytes maxL ret).before args s = true) : mx_Is s y maxL := by
  obtain ⟨mk, hn⟩ := Cond.code_named h
  obtain ⟨methM, cM, hm, hc, -, hl, -, -, -, hsig⟩ := Cond.code_spec hn h
  exact ⟨mk, methM, cM, hn, hm, hc, hl, hsig⟩
theorem mx_Is.with {args : Array Value} {s : State} {y : MethodName} {bytes : ByteArray} {maxL : Nat} {ret : Option FieldType} {hh : List (Nat × Nat × Nat × Nat)} (h : (Cond.codeWith y bytes maxL ret hh).before args s = true) : mx_Is s y maxL := by
  obtain ⟨mk, methM, cM, hn, hm, hc, -, hl, -, -, -, hsig⟩ := Cond.codeWith_spec h
  exact ⟨mk, methM, cM, hn, hm, hc, hl, hsig⟩
section MXB
variable {l : Launch} {y : MethodName} {ws ws' : List Cond} {rm : Room} {Pc : Array Value → State → Prop} {Rt : Array Value → State → Option Value → State → Prop} {Th : Array Value → State → String → State → Prop} {free : Addr → Prop} {rc rs : Nat} {cc : ByteArray} {maxL : Nat} {ret : Option FieldType}
/-- a body without handlers -/
theorem mx_of (hy : plainName y.cls = true) (hw : ws = Cond.code y cc maxL ret :: ws')
    (body : ∀ p e s m args below meth c s₁, BodyLoose p l y (headSpec ws rm) cc maxL ret e s m args below meth c s₁ → c.maxLocals = maxL → c.exceptionTable.toList = [] → Pc args s →
      W p l e rm s m args below meth c s.heap [] 0 0 (mx_E below Rt Th free rc rs args s) (entryFrame m args maxL)) : mx_M l y ws rm Pc Rt Th free rc rs := by
  refine MetFree.of_bodyS (code := cc) (maxLocals := maxL) (ret := ret) hy ?_ ?_
  · intro args s m h hn
    obtain ⟨meth, c, h1, h2, h3, h4, h5, h6, -, -⟩ := Cond.code_spec hn (atoms_spec (ws := ws) h _ (by rw [hw]; exact List.mem_cons_self))
    exact ⟨meth, c, h1, h2, h3, h4, h5, h6⟩
  · intro p e s m args below meth c s₁ B hml hP _
    have hh0 : s₁.heap = s.heap := by rw [B.state]; rfl
    have hE : c.exceptionTable.isEmpty = true := BodyLoose.noHandlers B (atoms_spec (ws := ws) B.pre _ (by rw [hw]; exact List.mem_cons_self))
    have hE2 : c.exceptionTable.toList = [] := by rw [Array.isEmpty_iff.mp hE]
    obtain ⟨t, a1, o, b1, b2, b3⟩ := body p e s m args below meth c s₁ B hml hE2 hP s₁ hh0 (Stand.of_body B)
    exact ⟨t, o, a1, b1, b2, b3⟩
/-- a body with handlers -/
theorem mx_ofH {hh : List (Nat × Nat × Nat × Nat)} (hy : plainName y.cls = true) (hw : ws = Cond.codeWith y cc maxL ret hh :: ws')
    (body : ∀ p e s m args below meth c s₁, BodyLoose p l y (headSpec ws rm) cc maxL ret e s m args below meth c s₁ → c.maxLocals = maxL → c.exceptionTable.toList = tableOf hh → Pc args s →
      W p l e rm s m args below meth c s.heap [] 0 0 (mx_E below Rt Th free rc rs args s) (entryFrame m args maxL)) : mx_M l y ws rm Pc Rt Th free rc rs := by
  refine MetFree.of_bodyS (code := cc) (maxLocals := maxL) (ret := ret) hy ?_ ?_
  · intro args s m h hn
    obtain ⟨m9, meth, c, hn9, h1, h2, h3, h4, -, h5, h6, -⟩ := Cond.codeWith_spec (atoms_spec (ws := ws) h _ (by rw [hw]; exact List.mem_cons_self))
    cases hn.symm.trans hn9
    exact ⟨meth, c, h1, h2, h3, h4, h5, h6⟩
  · intro p e s m args below meth c s₁ B hml hP _
    have hh0 : s₁.heap = s.heap := by rw [B.state]; rfl
    have hE2 : c.exceptionTable.toList = tableOf hh := by
      obtain ⟨m9, meth9, c9, hn9, h1, h2, -, -, h6, -⟩ := Cond.codeWith_spec (atoms_spec (ws := ws) B.pre _ (by rw [hw]; exact List.mem_cons_self))
      cases Option.some.inj (hn9.symm.trans B.named)
      cases Option.some.inj (h1.symm.trans B.method)
      cases Option.some.inj (h2.symm.trans (Stand.of_body B).code)
      rw [← h6, table_eq]
    obtain ⟨t, a1, o, b1, b2, b3⟩ := body p e s m args below meth c s₁ B hml hE2 hP s₁ hh0 (Stand.of_body B)
    exact ⟨t, o, a1, b1, b2, b3⟩
end MXB
section MXW
variable {p : Program} {l : Launch} {e : Env} {R : Room} {s : State} {m : MethodId} {args : Array Value} {below : List Frame} {meth : Method} {c : Code} {H : Heap} {locs : List Loc} {cells slots : Nat} {Q : State → Prop}
/-- the frame g, with q thrown over it -/
def mx_N (p : Program) (l : Launch) (e : Env) (R : Room) (s : State) (m : MethodId) (args : Array Value) (below : List Frame) (meth : Method) (c : Code) (H : Heap) (locs : List Loc) (cells slots : Nat) (Q : State → Prop) (g : JFrame) (q : Addr) : Prop :=
  ∀ T : State, T.heap = H → Stand p l e R s m args below meth c T locs cells slots → ∃ t, Steps p.tables e below ((T.setTop g).pushFrame (.throwing q)) t ∧ Q t
/-- an instruction that invokes y, up to its doInvoke -/
def ix_Go (p : Program) (l : Launch) (e : Env) (R : Room) (s : State) (m : MethodId) (args : Array Value) (below : List Frame) (meth : Method) (c : Code) (H : Heap) (locs : List Loc) (cells slots : Nat) (g : JFrame) (rest : List Value) (y : MethodName) (a : List Value) : Prop :=
  ∀ T : State, T.heap = H → Stand p l e R s m args below meth c T locs cells slots → ∃ (vm' : Vm) (mk : MethodId), Stand p l e R s m args below meth c (T.setVm vm') locs cells slots ∧ s.methodNamed? y = some mk ∧
    ∀ target, Steps p.tables e below (doInvoke e ((T.setVm vm').setTop { g with stack := rest }) [] mk a.toArray).1 target → Steps p.tables e below (T.setTop g) target
variable {cc : ByteArray} {own C host : String} {index maxL : Nat} {y : MethodName} {b : Addr} {As rest : List Value} {g : JFrame}
theorem ix_V (hexec : p.tables.exec = Jvm.exec) (hb : c.code = cc) (hown : s.vm.findClass own = some m.cls) (hlink : (Cond.methodLink own index y).before args s = true) (hinst : (Cond.instanceMethod y).before args s = true) (hsel : (Cond.selects C y y).before args s = true) (his : mx_Is s y maxL)
    (hy : y.cls ≠ "java/lang/invoke/MethodHandle" ∧ y.cls ≠ "java/lang/invoke/VarHandle") (hcell : ∃ cell : Cell, H[b]? = some cell ∧ cell.vm.isStatics = false ∧ s.vm.findClass C = some cell.cls) (hg : g.method = m) (hn : (parseMethodDescriptor y.desc).map (fun d => d.parameters.length) = some As.length)
    (hstack : g.stack = As.reverse ++ .ref b :: rest) (hdg : decode cc g.pc = .ok (.invokevirtual index, 3)) : ix_Go p l e R s m args below meth c H locs cells slots g rest y (.ref b :: As) := by
  intro T hT X
  obtain ⟨cellB, hcB, hobj, hcls⟩ := hcell
  obtain ⟨mk, methM, hnamed, hmethM, hstM, habM⟩ := Cond.instanceMethod_spec hinst
  obtain ⟨mk2, methM', cM, hn2, hmethM', -, -, hsig⟩ := his
  cases hnamed.symm.trans hn2
  cases hmethM.symm.trans hmethM'
  obtain ⟨c2, r2, m2, q1, q2, q3, q4, kP, hkP, hkPi⟩ := Cond.selects_spec hsel
  cases hcls.symm.trans q1
  cases (State.methodFound?_of_named hnamed hy).symm.trans q2
  cases hnamed.symm.trans q3
  have hselP : selectMethod e.platform s.vm cellB.cls mk = .method mk := by rw [Launch.admits_selectMethod X.admits]; exact q4
  have hlen : As.length = methM.sig.parameters.length := by rw [hsig] at hn; exact (Option.some.inj hn).symm
  obtain ⟨vm₁, X₁, hstep₁⟩ := X.invokevirtual hexec hown hlink hnamed hmethM hstM hkP hkPi hy (a := b) (cell := cellB) (by rw [hT]; exact hcB)
    (fun z h => by rw [h] at hobj; cases hobj) hselP hmethM habM hkP hkPi (g := g) hg (argsL := As) (rest := rest) hlen hstack (by rw [hb]; exact hdg)
  exact ⟨vm₁, mk, X₁, hnamed, fun target h => hstep₁ _ fun acts => by rw [doInvoke_state]; exact h⟩
theorem ix_VN (hexec : p.tables.exec = Jvm.exec) (hb : c.code = cc) (hown : s.vm.findClass own = some m.cls) (hlink : (Cond.methodLinkNest own index y host).before args s = true) (hinst : (Cond.instanceMethod y).before args s = true) (hsel : (Cond.selects C y y).before args s = true) (his : mx_Is s y maxL)
    (hy : y.cls ≠ "java/lang/invoke/MethodHandle" ∧ y.cls ≠ "java/lang/invoke/VarHandle") (hcell : ∃ cell : Cell, H[b]? = some cell ∧ cell.vm.isStatics = false ∧ s.vm.findClass C = some cell.cls) (hg : g.method = m) (hn : (parseMethodDescriptor y.desc).map (fun d => d.parameters.length) = some As.length)
    (hstack : g.stack = As.reverse ++ .ref b :: rest) (hdg : decode cc g.pc = .ok (.invokevirtual index, 3)) : ix_Go p l e R s m args below meth c H locs cells slots g rest y (.ref b :: As) := by
  intro T hT X
  obtain ⟨cellB, hcB, hobj, hcls⟩ := hcell
  obtain ⟨mk, methM, hnamed, hmethM, hstM, habM⟩ := Cond.instanceMethod_spec hinst
  obtain ⟨mk2, methM', cM, hn2, hmethM', -, -, hsig⟩ := his
  cases hnamed.symm.trans hn2
  cases hmethM.symm.trans hmethM'
  obtain ⟨c2, r2, m2, q1, q2, q3, q4, kP, hkP, hkPi⟩ := Cond.selects_spec hsel
  cases hcls.symm.trans q1
  cases (State.methodFound?_of_named hnamed hy).symm.trans q2
  cases hnamed.symm.trans q3
  have hselP : selectMethod e.platform s.vm cellB.cls mk = .method mk := by rw [Launch.admits_selectMethod X.admits]; exact q4
  have hlen : As.length = methM.sig.parameters.length := by rw [hsig] at hn; exact (Option.some.inj hn).symm
  obtain ⟨vm₁, X₁, hstep₁⟩ := X.invokevirtualNest hexec hown hlink hnamed hmethM hstM hkP hkPi hy (a := b) (cell := cellB) (by rw [hT]; exact hcB)
    (fun z h => by rw [h] at hobj; cases hobj) hselP hmethM habM hkP hkPi (g := g) hg (argsL := As) (rest := rest) hlen hstack (by rw [hb]; exact hdg)
  exact ⟨vm₁, mk, X₁, hnamed, fun target h => hstep₁ _ fun acts => by rw [doInvoke_state]; exact h⟩
theorem ix_S (hexec : p.tables.exec = Jvm.exec) (hb : c.code = cc) (hown : s.vm.findClass own = some m.cls) (hlink : (Cond.methodLink own index y).before args s = true) (hstat : (Cond.static y).before args s = true) (hinit : (Cond.initialized y.cls).before args s = true) (his : mx_Is s y maxL)
    (hy : y.cls ≠ "java/lang/invoke/MethodHandle" ∧ y.cls ≠ "java/lang/invoke/VarHandle") (hg : g.method = m) (hn : (parseMethodDescriptor y.desc).map (fun d => d.parameters.length) = some As.length)
    (hstack : g.stack = As.reverse ++ rest) (hdg : decode cc g.pc = .ok (.invokestatic index, 3)) : ix_Go p l e R s m args below meth c H locs cells slots g rest y As := by
  intro T hT X
  obtain ⟨mk, methM, cM, hnamed, hmethM, -, -, hsig⟩ := his
  have hstatic : methM.isStatic = true := Cond.static_spec hnamed hmethM hstat
  obtain ⟨kP, hkP, -⟩ := className_of_methodNamed hnamed
  have hinitP : kP.init = .initialized := Cond.initialized_spec (findClass_of_methodNamed hnamed) hkP hinit
  have hlen : As.length = methM.sig.parameters.length := by rw [hsig] at hn; exact (Option.some.inj hn).symm
  obtain ⟨vm₁, X₁, hstep₁⟩ := X.invokestatic hexec hown hlink hnamed hmethM hstatic hkP hinitP hy (g := g) hg (argsL := As) (rest := rest) hlen hstack (by rw [hb]; exact hdg)
  exact ⟨vm₁, mk, X₁, hnamed, fun target h => hstep₁ _ fun acts => by rw [doInvoke_state]; exact h⟩
theorem ix_I (hexec : p.tables.exec = Jvm.exec) (hb : c.code = cc) (hown : s.vm.findClass own = some m.cls) (hlink : (Cond.methodLink own index y).before args s = true) (hinst : (Cond.instanceMethod y).before args s = true) {bytes : ByteArray} (hcode : (Cond.code y bytes maxL none).before args s = true) (hy1 : y.name = "<init>")
    (hy : y.cls ≠ "java/lang/invoke/MethodHandle" ∧ y.cls ≠ "java/lang/invoke/VarHandle") (hg : g.method = m) (hn : (parseMethodDescriptor y.desc).map (fun d => d.parameters.length) = some As.length)
    (hstack : g.stack = As.reverse ++ .ref b :: rest) (hdg : decode cc g.pc = .ok (.invokespecial index, 3)) : ix_Go p l e R s m args below meth c H locs cells slots g rest y (.ref b :: As) := by
  intro T hT X
  subst hg
  have hpl : e.platform.magicAccessors = ({} : Platform).magicAccessors := by rw [X.admits.platform]
  obtain ⟨mk, methM, cM, kP, vm₁, hnamed, hmethM, hcodeM, -, hlocalsM, -, hkP, -, hW₁, hstep₁⟩ := Steps.initColdArgs (e := e) X.here hexec X.warmed hpl hown hy1 hy hlink hinst hcode (f := g) rfl (fun sig h => by rw [h] at hn; exact (Option.some.inj hn).symm) hstack (by rw [hb]; exact hdg)
  exact ⟨vm₁, mk, X.noted hW₁, hnamed, fun target h => hstep₁ _ fun acts => by rw [doInvoke_state]; exact h⟩
theorem ix_IN (hexec : p.tables.exec = Jvm.exec) (hb : c.code = cc) (hown : s.vm.findClass own = some m.cls) (hlink : (Cond.methodLinkNest own index y host).before args s = true) (hinst : (Cond.instanceMethod y).before args s = true) {bytes : ByteArray} (hcode : (Cond.code y bytes maxL none).before args s = true) (hy1 : y.name = "<init>")
    (hy : y.cls ≠ "java/lang/invoke/MethodHandle" ∧ y.cls ≠ "java/lang/invoke/VarHandle") (hg : g.method = m) (hn : (parseMethodDescriptor y.desc).map (fun d => d.parameters.length) = some As.length)
    (hstack : g.stack = As.reverse ++ .ref b :: rest) (hdg : decode cc g.pc = .ok (.invokespecial index, 3)) : ix_Go p l e R s m args below meth c H locs cells slots g rest y (.ref b :: As) := by
  intro T hT X
  subst hg
  have hpl : e.platform.magicAccessors = ({} : Platform).magicAccessors := by rw [X.admits.platform]
  obtain ⟨mk, methM, cM, kP, vm₁, hnamed, hmethM, hcodeM, -, hlocalsM, -, hkP, -, hW₁, hstep₁⟩ := Steps.initColdArgsNest (e := e) X.here hexec X.warmed hpl hown hy1 hy hlink hinst hcode (f := g) rfl (fun sig h => by rw [h] at hn; exact (Option.some.inj hn).symm) hstack (by rw [hb]; exact hdg)
  exact ⟨vm₁, mk, X.noted hW₁, hnamed, fun target h => hstep₁ _ fun acts => by rw [doInvoke_state]; exact h⟩
variable {ws : List Cond} {rm : Room} {Pc : Array Value → State → Prop} {Rt : Array Value → State → Option Value → State → Prop} {Th : Array Value → State → String → State → Prop} {free : Addr → Prop} {rc rs : Nat}
/-- THE CALL: it comes back, or what was thrown lies over this frame -/
theorem ix_call {a : List Value} {ig : Instr} (hgo : ix_Go p l e R s m args below meth c H locs cells slots g rest y a) (hM : mx_M l y ws rm Pc Rt Th free rc rs)
    (hws : ∀ w ∈ ws, ∀ (a' : Array Value) (U : State), s.WarmedH U.vm → w.before a' U = true) (his : mx_Is s y maxL) (hini : (Cond.initialized y.cls).before args s = true)
    (hbl : FrameBlind Pc) (hPc : ∀ U : State, U.heap = H → s.WarmedH U.vm → Pc a.toArray U)
    (hR : rm.frames + 1 ≤ R.frames ∧ 8 + (maxL + 11) + rm.locals ≤ R.locals) (hf : cells + rm.cells ≤ R.cells ∧ slots + rm.slots ≤ R.slots)
    (hg : g.method = m) (hsize : g.locals.size = c.maxLocals) (hW : 2 * g.monitorRoom + (rest.map fun v => v.category).sum ≤ 8) (hdg : decode c.code g.pc = .ok (ig, 3))
    (kr : ∀ (v : Option Value) (st t : State) (L : List Loc), st.heap = H → s.vm.Alike t.vm → Rt a.toArray st v t → (∀ z ∈ L, free z.base) → W p l e R s m args below meth c t.heap (locs ++ L) (cells + rc) (slots + rs) Q { g with pc := g.pc + 3, stack := v.toList ++ rest })
    (kt : ∀ (q : Addr) (E : String) (ce : Cell) (st t : State) (L : List Loc), st.heap = H → s.vm.Alike t.vm → Th a.toArray st E t → t.heap[q]? = some ce → ce.vm = .none → s.vm.findClass E = some ce.cls → (∀ z ∈ L, free z.base) →
      mx_N p l e R s m args below meth c t.heap (locs ++ L) (cells + 1) (slots + 6) Q { g with stack := rest } q) : W p l e R s m args below meth c H locs cells slots Q g := by
  intro T hT X
  obtain ⟨vm', mk, X₁, hn0, hstep⟩ := hgo T hT X
  obtain ⟨mk0, methY, cY, hnY, hmY0, hcY, hlY, -⟩ := his
  cases hnY.symm.trans hn0
  have hUh : (T.setVm vm').heap = H := hT
  generalize T.setVm vm' = U at X₁ hstep hUh
  have hn := X₁.named hn0
  have h1 : (headSpec ws rm).pre.before a.toArray U = true := atoms_intro fun w hw => hws w hw _ _ X₁.warmed
  have h3 : (Cond.initialized y.cls).before a.toArray U = true := word_at X₁.warmed (Or.inl (by first | rfl | simp [Cond.onTables, Cond.keeps, Cond.steady])) hini
  have hmY : U.vm.method? mk = some methY := by rw [X₁.warmed.alike.method?]; exact hmY0
  obtain ⟨kY, hkY, -⟩ := className_of_methodNamed hn
  have hinitY : kY.init = .initialized := Cond.initialized_spec (findClass_of_methodNamed hn) hkY h3
  obtain ⟨g1, hg1e⟩ : ∃ z : JFrame, z = { g with stack := rest } := ⟨_, rfl⟩
  have hg1 : g1.method = m := by rw [hg1e]; exact hg
  have hsize1 : g1.locals.size = c.maxLocals := by rw [hg1e]; exact hsize
  have hdg1 : decode c.code g1.pc = .ok (ig, 3) := by rw [hg1e]; exact hdg
  have hW1 : 2 * g1.monitorRoom + (g1.stack.map fun v => v.category).sum ≤ 8 := by rw [hg1e]; exact hW
  rw [← hg1e] at hstep
  have hAt : At U g1.method c below := by rw [hg1]; exact X₁.here
  have hlo : 8 + (maxL + 11) + (headSpec ws rm).room.locals ≤ R.locals := hR.2
  have happ : (headSpec ws rm).appliesLoose y e.platform (U.calling g1 mk a.toArray) = true :=
    Spec.appliesLoose_calling (g := g1) hAt hdg1 hn hkY hinitY
      (X₁.room_calling (g := g1) (R' := (headSpec ws rm).room) hsize1 hmY hcY hR.1 (by rw [hlY]; omega) hf.1 hf.2) h1
  obtain ⟨mid, hmid⟩ := hAt.above
  have hfr : (U.setTop g1).frames = (.java g1 :: mid) ++ below := by rw [State.frames_setTop' g1 hAt.top, hmid]; rfl
  obtain ⟨o, s₂, hsteps, -, hend, hq⟩ := Steps.callFree hM p X₁.admits X₁.cas X₁.clock (acts := []) hfr happ (hbl _ _ _ _ (hPc U hUh X₁.warmed)) trivial
  rw [State.frames_setTop' g1 hAt.top, X₁.tail] at hend
  obtain ⟨L, hL, hWm, hq⟩ := hq
  have hUW : U.WarmedH s₂.vm := hWm
  have hsal : s.vm.Alike s₂.vm := (State.WarmedH.trans X₁.warmed hUW).alike
  rcases hq with ⟨v, rfl, hRt, hsame⟩ | ⟨q, E, ce, rfl, hTh, hce, hcv, hcl, hsame⟩
  · obtain ⟨T', X', -, -, ht⟩ := X₁.outOf hg1 hdg1 hend hWm hsame
    have hh : T'.heap = s₂.heap := by rw [ht]; rfl
    have k := kr v (U.calling g1 mk a.toArray) s₂ L hUh hsal hRt hL
    have k2 : W p l e R s m args below meth c s₂.heap (locs ++ L) (cells + rc) (slots + rs) Q { g1 with pc := g1.pc + 3, stack := v.toList ++ g1.stack } := by rw [hg1e]; exact k
    obtain ⟨t2, a1, b1⟩ := k2 T' hh X'
    refine ⟨t2, hstep t2 (hsteps.trans ?_), b1⟩
    rw [ht]
    exact a1
  · obtain ⟨T', X', -, -, ht⟩ := X₁.outOfThrown hg1 hend hWm hsame
    have hh : T'.heap = s₂.heap := by rw [ht]; rfl
    have hcl2 : s.vm.findClass E = some ce.cls := by
      have h9 : U.vm.findClass E = some ce.cls := hcl
      rw [X₁.warmed.alike.findClass] at h9
      exact h9
    have k := kt q E ce (U.calling g1 mk a.toArray) s₂ L hUh hsal hTh hce hcv hcl2 hL
    rw [← hg1e] at k
    obtain ⟨t2, a1, b1⟩ := k T' hh X'
    refine ⟨t2, hstep t2 (hsteps.trans ?_), b1⟩
    rw [ht]
    exact a1
/-- a road that returns, in a body that may throw -/
theorem mx_ret (k : W p l e R s m args below meth c H locs cells slots (MQ below (fun a st o t => ∃ v, o = .returned v ∧ Rt a st v t) args s rc rs free) g) : W p l e R s m args below meth c H locs cells slots (mx_E below Rt Th free rc rs args s) g := by
  intro T hT X
  obtain ⟨t, a1, o, b1, b2, ⟨v, rfl, b3⟩, L, ⟨-, b4, b5⟩, b6⟩ := k T hT X
  exact ⟨t, a1, _, b1, b2, L, b6, b4, Or.inl ⟨v, rfl, b3, b5⟩⟩
/-- what was thrown leaves this method -/
theorem mx_out {q : Addr} {E : String} {ce : Cell} {pc : Nat} {ls : Array Slot} (hE : c.exceptionTable.toList = []) (hlocks : meth.locks = false) (hcell : H[q]? = some ce) (hv : ce.vm = .none) (hcl : s.vm.findClass E = some ce.cls)
    (hx : ∀ t : State, t.heap = H → s.vm.Alike t.vm → Th args s E t) (hf : ∀ z ∈ locs, free z.base) (hc : cells ≤ 1) (hs : slots ≤ 6) :
    mx_N p l e R s m args below meth c H locs cells slots (mx_E below Rt Th free rc rs args s) (F0 m pc ls rest) q := by
  intro T hT X
  obtain ⟨st1, hrun, hend, hW, hsm⟩ := X.leaveThrown q (g := F0 m pc ls rest) rfl rfl rfl (by rw [hE]; exact fun _ h => nomatch h) hlocks
  have hcell9 : (T.setFrames (.throwing q :: below)).heap[q]? = some ce := by
    show T.heap[q]? = some ce
    rw [hT]; exact hcell
  exact ⟨_, st1, .threw q, hrun, hend, locs, hf, hW, Or.inr ⟨q, E, ce, rfl, hx _ hT hW.alike, hcell9, hv, hcl, hsm.mono hc hs⟩⟩
end MXW
