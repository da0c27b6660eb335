/-! THROWING AND CATCHING, over the library's laws of the machine. -/
section MXF
/-- old cells that no written slot belongs to are as they were -/
theorem mx_frame {s U : State} {locs : List Loc} {k n : Nat} (h : s.sameButNew ({ U with vm := s.vm } : State) locs k n) : s.heap.size ≤ U.heap.size ∧ ∀ q : Nat, q < s.heap.size → (∀ z ∈ locs, z.base ≠ q) → U.heap[q]? = s.heap[q]? := by
  obtain ⟨-, h2, -, -, -, h6⟩ := h
  refine ⟨h2, fun q hq hz => ?_⟩
  obtain ⟨c9, e1, e2, e3, e4⟩ := h6 q _ (Array.getElem?_eq_getElem hq)
  have hs : c9.slots = (s.heap[q]).slots := Array.ext_getElem? fun i => e4 i fun hm => hz _ hm rfl
  have h9 : c9 = s.heap[q] := by
    rw [hs] at e2
    exact e2
  have e5 : U.heap[q]? = some c9 := e1
  rw [e5, h9, Array.getElem?_eq_getElem hq]
end MXF
section MXT
variable {p : Program} {l : Launch} {e : Env} {R : Room} {s : State} {m : MethodId} {args : Array Value} {below : List Frame} {meth : Method} {c : Code}
variable {Rt : Array Value → State → Option Value → State → Prop} {Th : Array Value → State → String → State → Prop} {free : Addr → Prop} {rc rs : Nat}
set_option maxHeartbeats 1000000 in
/-- throw new E("text"), in a method without handlers that has written nothing: new; dup; the text (w bytes); invokespecial; athrow -/
theorem mx_throwG {cc : ByteArray} {pc w : Nat} {ls : Array Slot} {rest : List Value} (hexec : p.tables.exec = Jvm.exec) (hb : c.code = cc) (hl : l.stackTraces = false) {own cls : String} {names : List String} {ik ic sa : Nat}
    (hown : s.vm.findClass own = some m.cls) (hcls : Bundle.fit cls = true) (hnames : ∀ n ∈ names, Bundle.fit n = true)
    (hk : (Cond.classLink own ik cls).before args s = true) (hini : (Cond.initialized cls).before args s = true) (h : ∀ w ∈ Bundle.ownAtoms own ic cls names, w.before args s = true)
    (hldc : ∀ T : State, Stand p l e R s m args below meth c T [] 1 6 → ∀ (st : List Value) (target : State), Steps p.tables e below (T.setTop (F0 m (pc + 4 + w) ls (.ref sa :: st))) target → Steps p.tables e below (T.setTop (F0 m (pc + 4) ls st)) target)
    (hsize : ls.size = c.maxLocals) (d0 : decode cc pc = .ok (.new ik, 3)) (d3 : decode cc (pc + 3) = .ok (.dup, 1)) (d6 : decode cc (pc + 4 + w) = .ok (.invokespecial ic, 3)) (d9 : decode cc (pc + 4 + w + 3) = .ok (.athrow, 1))
    (hE : c.exceptionTable.toList = []) (hlocks : meth.locks = false)
    (hRframes : names.length + 3 < R.frames) (hRlocals : (rest.map fun v => v.category).sum + (13 * (names.length + 1) + 43) ≤ R.locals) (hRcells : 1 ≤ R.cells) (hRslots : 6 ≤ R.slots)
    (hx : ∀ t : State, s.vm.Alike t.vm → s.heap.size ≤ t.heap.size → (∀ q : Nat, q < s.heap.size → t.heap[q]? = s.heap[q]?) → Th args s cls t) :
    W p l e R s m args below meth c s.heap [] 0 0 (mx_E below Rt Th free rc rs args s) (F0 m pc ls rest) := by
  intro T hT X
  have htr : e.platform.stackTraces = false := (show e.platform.stackTraces = l.stackTraces by rw [X.admits.platform]).trans hl
  have hins : (Cond.instantiable cls 6).before args s = true := h _ (by simp [Bundle.ownAtoms])
  obtain ⟨vm₁, cX, kX, hfX, hkX, -, -, X₁, st1⟩ := X.newCold hexec (own := own) (C := cls) (index := ik) (n := 6) hown hk hins hini
    (g := F0 m pc ls rest) rfl (by rw [hb]; exact d0) (by omega) (by omega)
  generalize hT1 : (T.setVm vm₁).pushCell { cls := cX, slots := kX.instanceTypes.map defaultValue, vm := .none } = T1 at X₁ st1
  have hcat : (Value.ref T.heap.size).category = 1 := rfl
  have hcellA : T1.heap[T.heap.size]? = some (freshCell cX kX) := by rw [← hT1]; exact State.heap_pushCell_size _ _
  have d3' : decode c.code (pc + 3) = .ok (.dup, 1) := by rw [hb]; exact d3
  obtain ⟨U, hsteps, hrun, hend, hW, hsame, ce, hce, hO⟩ := X₁.ctorThrowS hexec htr (own := own) (cls := cls) (names := names) (ic := ic) hown hcls hnames h (fun x hx => nomatch hx) hfX hkX hcellA (by rw [hT]; exact Nat.le_refl _) (msg := .ref sa) rfl
    (g := F0 m (pc + 4 + w) ls (.ref sa :: .ref T.heap.size :: .ref T.heap.size :: rest)) rfl hsize rfl rfl (rest := rest) rfl
    (by rw [hb]; exact d6) (by rw [hb]; exact d9) (by rw [hE]; exact fun _ h => nomatch h) hRframes (by show 2 * 0 + _ + _ ≤ _; simp only [List.map_cons, List.sum_cons, hcat]; omega) hlocks
  obtain ⟨f1, f2⟩ := mx_frame hsame
  refine ⟨U, ?_, .threw T.heap.size, hrun, hend, [], (fun _ h => nomatch h), hW, Or.inr ⟨T.heap.size, cls, ce, rfl, hx U hW.alike f1 (fun q hq => f2 q hq (fun z hz => nomatch hz)), hce, hO.vm, hO.cls, hsame⟩⟩
  refine st1 _ ?_
  show Steps p.tables e below (T1.setTop (F0 m (pc + 3) ls (.ref T.heap.size :: rest))) _
  jvm_step X₁.here [X₁.here.top, hexec, d3', Value.category]
  exact hldc T1 X₁ _ _ hsteps
theorem mx_ldcS {cc : ByteArray} {pc : Nat} {ls : Array Slot} {own text : String} {is sa : Nat} (hexec : p.tables.exec = Jvm.exec) (hb : c.code = cc) (hown : s.vm.findClass own = some m.cls) (hstr : vk_R own is text sa s) (d4 : decode cc (pc + 4) = .ok (.ldc is, 2)) :
    ∀ T : State, Stand p l e R s m args below meth c T [] 1 6 → ∀ (st : List Value) (target : State), Steps p.tables e below (T.setTop (F0 m (pc + 4 + 2) ls (.ref sa :: st))) target → Steps p.tables e below (T.setTop (F0 m (pc + 4) ls st)) target :=
  fun _ X st target h => X.ldcString hexec (own := own) (text := text) (index := is) (a := sa) hown hstr.1 hstr.2 (g := F0 m (pc + 4) ls st) rfl (by rw [hb]; exact d4) target h
theorem mx_ldcSW {cc : ByteArray} {pc : Nat} {ls : Array Slot} {own text : String} {is sa : Nat} (hexec : p.tables.exec = Jvm.exec) (hb : c.code = cc) (hown : s.vm.findClass own = some m.cls) (hstr : vk_R own is text sa s) (d4 : decode cc (pc + 4) = .ok (.ldc_w is, 3)) :
    ∀ T : State, Stand p l e R s m args below meth c T [] 1 6 → ∀ (st : List Value) (target : State), Steps p.tables e below (T.setTop (F0 m (pc + 4 + 3) ls (.ref sa :: st))) target → Steps p.tables e below (T.setTop (F0 m (pc + 4) ls st)) target :=
  fun _ X st target h => X.ldcStringW hexec (own := own) (text := text) (index := is) (a := sa) hown hstr.1 hstr.2 (g := F0 m (pc + 4) ls st) rfl (by rw [hb]; exact d4) target h
end MXT
section MXC
/-- the search through the rows of a table ends at the handler h -/
def hx_R (pl : Platform) (s : State) (d thrown : ClassId) (pc h : Nat) : List ExceptionTableEntry → Prop
  | [] => False
  | y :: ys => (covers y pc = false ∧ hx_R pl s d thrown pc h ys) ∨ (covers y pc = true ∧ y.catchType ≠ 0 ∧ ∃ c : ClassId, s.vm.ClassLinks pl d y.catchType c ∧ ((s.vm.assignable thrown c = true ∧ y.handlerPc = h) ∨ (s.vm.assignable thrown c = false ∧ hx_R pl s d thrown pc h ys)))
theorem hx_row {Q : Handler → Pre} {E : CtlPost} {e : Env} {d : Bool} {acts : List Action} {S : State} {f : JFrame} {a : Addr} {x : ExceptionTableEntry} {t : List ExceptionTableEntry} {c : ClassId} {cell : Cell} (hx : covers x f.pc = true) (h0 : x.catchType ≠ 0)
    (hl : S.vm.ClassLinks e.platform f.method.cls x.catchType c) (hcell : S.heap[a]? = some cell) (hobj : ∀ k, cell.vm ≠ .statics k) (hk : ∃ k, S.vm.classes[cell.cls]? = some k) (hc : ∃ k, S.vm.classes[c]? = some k) :
    wp (findHandler.go f a (x :: t)) Q E e d acts S ↔ (if S.vm.assignable cell.cls c = true then Q (.found x.handlerPc) d acts (S.setVm (S.vm.noted f.method.cls x.catchType (.cls c))) else wp (findHandler.go f a t) Q E e d acts (S.setVm (S.vm.noted f.method.cls x.catchType (.cls c)))) := by
  simp only [covers] at hx
  obtain ⟨ha, ht⟩ := (resolveClass_links e.toSetting hl).op (op := VmOp.resolveClass f.method.cls x.catchType) rfl
  have hal : S.vm.Alike (S.vm.noted f.method.cls x.catchType (.cls c)) := (Vm.Alike.refl S.vm).noted _ _ _
  obtain ⟨k1, hk1⟩ := hk
  obtain ⟨k2, hk2⟩ := hc
  obtain ⟨k1', hk1', -⟩ := hal.2.2 _ _ hk1
  obtain ⟨k2', hk2', -⟩ := hal.2.2 _ _ hk2
  cases hf : S.vm.assignable cell.cls c with
  | true =>
    have hf' : (S.vm.noted f.method.cls x.catchType (.cls c)).assignable cell.cls c = true := by rw [hal.assignable]; exact hf
    simp [findHandler.go, hx, h0, ha, ht, hcell, hobj, hk1', hk2', hf', VmOp.dirties, VmOp.acts]
  | false =>
    have hf' : (S.vm.noted f.method.cls x.catchType (.cls c)).assignable cell.cls c = false := by rw [hal.assignable]; exact hf
    simp [findHandler.go, hx, h0, ha, ht, hcell, hobj, hk1', hk2', hf', VmOp.dirties, VmOp.acts]
theorem hx_search {e : Env} {s : State} {f : JFrame} {a : Addr} {cell : Cell} {h : Nat} (hobj : ∀ k, cell.vm ≠ .statics k) (hk0 : ∃ k, s.vm.classes[cell.cls]? = some k) :
    ∀ (rows : List ExceptionTableEntry) (S : State), s.WarmedH S.vm → S.heap[a]? = some cell → hx_R e.platform s f.method.cls cell.cls f.pc h rows →
      ∃ vm' : Vm, s.WarmedH vm' ∧ ∀ (Q : Handler → Pre) (E : CtlPost) (d : Bool) (acts : List Action), wp (findHandler.go f a rows) Q E e d acts S ↔ Q (.found h) d acts (S.setVm vm') := by
  obtain ⟨k0, hk0⟩ := hk0
  intro rows
  induction rows with
  | nil => intro S _ _ hR; exact hR.elim
  | cons y ys ih =>
    intro S hW hcell hR
    obtain ⟨k0', hk0', -⟩ := hW.alike.2.2 _ _ hk0
    rcases hR with ⟨hno, hR⟩ | ⟨hco, h0, c, hl, hR⟩
    · obtain ⟨vm', hW', hq⟩ := ih S hW hcell hR
      exact ⟨vm', hW', fun Q E d acts => by rw [Jvm.W.findHandler_go_skip hno]; exact hq Q E d acts⟩
    · obtain ⟨dk, _, _, kt, hd, _, _, _, _, hkt, _, hopen⟩ := hl.here
      obtain ⟨kt', hkt', -⟩ := hW.alike.2.2 _ _ hkt
      have hW2 : s.WarmedH (S.vm.noted f.method.cls y.catchType (.cls c)) := hW.noted hd hopen (State.rightAt_cls hl)
      rcases hR with ⟨hf, hh⟩ | ⟨hf, hR⟩
      · refine ⟨_, hW2, fun Q E d acts => ?_⟩
        rw [hx_row hco h0 (hW.classLinks hl) hcell hobj ⟨k0', hk0'⟩ ⟨kt', hkt'⟩, if_pos (by rw [hW.alike.assignable]; exact hf), hh]
      · obtain ⟨vm', hW', hq⟩ := ih (S.setVm (S.vm.noted f.method.cls y.catchType (.cls c))) hW2 hcell hR
        refine ⟨vm', hW', fun Q E d acts => ?_⟩
        rw [hx_row hco h0 (hW.classLinks hl) hcell hobj ⟨k0', hk0'⟩ ⟨kt', hkt'⟩, if_neg (by rw [hW.alike.assignable, hf]; decide)]
        exact hq Q E d acts
theorem hx_step {e : Env} {S : State} {a : Addr} {f : JFrame} {r : List Frame} {pc : Nat} {vm' : Vm} (hfind : ∀ (Q : Handler → Pre) (E : CtlPost) (d : Bool) (acts : List Action), wp (findHandler f a) Q E e d acts S ↔ Q (.found pc) d acts (S.setVm vm')) :
    (stepThrowing e S a (.java f :: r)).Is ((S.setVm vm').setFrames (.java { f with pc := pc, stack := [.ref a] } :: r)) [] := by
  simp only [stepThrowing, searchFrame, vmDo]
  generalize hr : Sem.go _ e false [] S = res
  obtain ⟨as, rfl, ha⟩ := Sem.eq_ok_of hr (a := Handler.found pc) (s' := S.setVm vm') (acts' := []) (by simp [hfind _ _ _ _])
  exact ⟨rfl, ha⟩
variable {p : Program} {l : Launch} {e : Env} {R : Room} {s : State} {m : MethodId} {args : Array Value} {below : List Frame} {meth : Method} {c : Code} {H : Heap} {locs : List Loc} {cells slots : Nat} {Q : State → Prop}
/-- caught in this method -/
theorem mx_catch {q : Addr} {E : String} {ce : Cell} {pc h : Nat} {ls : Array Slot} {rest : List Value} {rows : List ExceptionTableEntry} (hE : c.exceptionTable.toList = rows) (hrow : ∀ pl : Platform, pl.magicAccessors = ({} : Platform).magicAccessors → hx_R pl s m.cls ce.cls pc h rows) (hcell : H[q]? = some ce) (hv : ce.vm = .none) (hcl : s.vm.findClass E = some ce.cls)
    (kk : W p l e R s m args below meth c H locs cells slots Q (F0 m h ls [.ref q])) : mx_N p l e R s m args below meth c H locs cells slots Q (F0 m pc ls rest) q := by
  intro T hT X
  have hpl : e.platform.magicAccessors = ({} : Platform).magicAccessors := by rw [X.admits.platform]
  have hc1 : ((T.setTop (F0 m pc ls rest)).pushFrame (.throwing q)).heap[q]? = some ce := by
    show T.heap[q]? = some ce
    rw [hT]; exact hcell
  obtain ⟨vm', hW', hq⟩ := hx_search (e := e) (s := s) (f := F0 m pc ls rest) (a := q) (cell := ce) (h := h) (fun k hk => by rw [hv] at hk; cases hk) (Vm.classAt_of_findClass hcl) rows ((T.setTop (F0 m pc ls rest)).pushFrame (.throwing q)) X.warmed hc1 (hrow _ hpl)
  have hfind : ∀ (Q : Handler → Pre) (E : CtlPost) (d : Bool) (acts : List Action), wp (findHandler (F0 m pc ls rest) q) Q E e d acts ((T.setTop (F0 m pc ls rest)).pushFrame (.throwing q)) ↔ Q (.found h) d acts (((T.setTop (F0 m pc ls rest)).pushFrame (.throwing q)).setVm vm') := fun Q E d acts => by
    rw [Jvm.W.findHandler_eq (meth := meth) (code := c) X.method' X.code, hE]
    exact hq Q E d acts
  obtain ⟨t, a1, b1⟩ := kk (T.setVm vm') hT (X.noted hW')
  refine ⟨t, ?_, b1⟩
  have hAt : At T (F0 m pc ls rest).method c below := X.here
  obtain ⟨hgo, hw⟩ := hAt.throwing q
  refine Steps.head hgo hw ?_
  rw [stepThread_throwing (frames_entered hAt.top _), (hx_step (S := (T.setTop (F0 m pc ls rest)).pushFrame (.throwing q)) hfind).1]
  obtain ⟨g₀, hr⟩ := X.frames_eq
  have hr' : (T.setVm vm').frames = .java g₀ :: below := hr
  rw [State.setTop_of_frames _ hr'] at a1
  have e9 : ∀ (u : State) (F G : List Frame), ((u.setFrames F).setVm vm').setFrames G = (u.setVm vm').setFrames G := fun u F G => by
    have h1 : (u.setFrames F).setVm vm' = (u.setVm vm').setFrames F := rfl
    rw [h1, State.setFrames_setFrames]
  rw [hr, List.tail_cons, State.pushFrame, e9, State.setTop_of_frames _ hr, e9]
  exact a1
/-- rows of a table, by the words -/
theorem hx_hit {own name E : String} {pl : Platform} {cls : ClassId} {x : ExceptionTableEntry} {t : List ExceptionTableEntry} {pc h : Nat} (hpl : pl.magicAccessors = ({} : Platform).magicAccessors) (hown : s.vm.findClass own = some m.cls) (hx : covers x pc = true) (h0 : x.catchType ≠ 0) (hh : x.handlerPc = h)
    (hlink : (Cond.classLink own x.catchType name).before args s = true) (hcast : (Cond.castable E name).before args s = true) (hcl : s.vm.findClass E = some cls) : hx_R pl s m.cls cls pc h (x :: t) := by
  obtain ⟨c3, c4, hc3, hc4, hasg⟩ := Cond.castable_spec hcast
  cases Option.some.inj (hc3.symm.trans hcl)
  obtain ⟨c5, hc5, hcl5⟩ := Cond.classLink_spec hown hlink pl hpl
  cases Option.some.inj (hc4.symm.trans hc5)
  exact Or.inr ⟨hx, h0, _, hcl5, Or.inl ⟨hasg, hh⟩⟩
theorem hx_pass {own name E : String} {pl : Platform} {cls : ClassId} {x : ExceptionTableEntry} {t : List ExceptionTableEntry} {pc h : Nat} (hpl : pl.magicAccessors = ({} : Platform).magicAccessors) (hown : s.vm.findClass own = some m.cls) (hx : covers x pc = true) (h0 : x.catchType ≠ 0)
    (hlink : (Cond.classLink own x.catchType name).before args s = true) (hno : va_Nc E name s) (hcl : s.vm.findClass E = some cls) (hr : hx_R pl s m.cls cls pc h t) : hx_R pl s m.cls cls pc h (x :: t) := by
  obtain ⟨c5, hc5, hcl5⟩ := Cond.classLink_spec hown hlink pl hpl
  obtain ⟨a8, b8, h1, h2, h3⟩ := hno
  cases Option.some.inj (h1.symm.trans hcl)
  cases Option.some.inj (h2.symm.trans hc5)
  exact Or.inr ⟨hx, h0, _, hcl5, Or.inr ⟨h3, hr⟩⟩
theorem hx_skip {pl : Platform} {d cls : ClassId} {x : ExceptionTableEntry} {t : List ExceptionTableEntry} {pc h : Nat} (hx : covers x pc = false) (hr : hx_R pl s d cls pc h t) : hx_R pl s d cls pc h (x :: t) := Or.inl ⟨hx, hr⟩
end MXC
