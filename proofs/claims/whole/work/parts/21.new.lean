/-! NEW CELLS, at the front of the world -/
section GN
variable {p : Program} {l : Launch} {e : Env} {R : Room} {s : State} {m : MethodId} {args : Array Value} {below : List Frame} {meth : Method} {c : Code} {H : Heap} {locs : List Loc} {cells slots : Nat} {Q : State → Prop}
variable {G : GG} {ws : va_W} {pc : Nat} {ls : Array Slot} {rest : List Value} {cc : ByteArray}
theorem g_hA {x : Nat × va_E} (hP : va_P G.1 g_cl (x :: ws) H) (hD : va_D (g_A G) (x :: ws)) : ∀ q, H.size ≤ q → g_A G q := fun _ h => Nat.le_trans (Nat.le_of_lt (Nat.lt_of_le_of_lt (hD.2 0 x rfl) (hP 0 x rfl).lt)) h
theorem g_cls {cA : ClassId} {ty : FieldType} {t0 : Nat} {c0 : ClassId} (hC : g_C G s) (h0 : (g_tys G)[t0]? = some (c0, ty)) (hK : va_K G.1 g_cl (g_tys G ++ [(cA, ty)]) s) (hp : ∀ c : ClassId, va_RA s c ty → s.vm.findClass ("[" ++ ty.toString) = some c) : cA = c0 := by
  have h1 := hp _ (hC.K.2 t0 _ h0).2
  have h2 := hp _ (hK.2 3 (cA, ty) rfl).2
  exact Option.some.inj (h2.symm.trans h1)
theorem g_newi (hx : p.tables.exec = Jvm.exec) (hb : c.code = cc) (hC : g_C G s) (hP : va_P G.1 g_cl ws H) (hD : va_D (g_A G) ws) (hS : va_S (g_A G) s.heap H locs) (hA : ∀ q, s.heap.size ≤ q → g_A G q) {n : Int32} {N : Nat} (hn : ¬ n < 0) (hN : n.toNatClampNeg = N) (hB : N ≤ 1000) (hcells : cells + 1 ≤ R.cells) (hslots : slots + N ≤ R.slots) (hdg : decode cc pc = .ok (.newarray .int, 2))
    (kk : ∀ (q : Nat) (H1 : Heap), va_P G.1 g_cl ((q, .inl (G.2.1 0, N, .inl (fun _ => 0))) :: ws) H1 → va_D (g_A G) ((q, .inl (G.2.1 0, N, .inl (fun _ => 0))) :: ws) → va_S (g_A G) s.heap H1 locs → W p l e R s m args below meth c H1 locs (cells + 1) (slots + N) Q (F0 m (pc + 2) ls (.ref q :: rest))) :
    W p l e R s m args below meth c H locs cells slots Q (F0 m pc ls (.int n :: rest)) := by
  have hc9 : componentBytes .int = 4 := rfl
  have ht9 : newarray.typeOf .int = .int := rfl
  refine va_newa (atype := .int) (ty := .int) hx hb (by rw [ht9]; exact ka_int hC) ht9 hC.K hP hD hS hA (a0 := (N, .inl (fun _ => 0))) (fun _ => rfl) hn hN (by rw [hc9]; omega) hcells hslots hdg (fun q cA H1 hK hP hD hS => ?_)
  obtain rfl := g_cls (t0 := 0) hC rfl hK (fun _ h => h)
  obtain ⟨h1, h2⟩ := gl_front hP hD
  exact kk q H1 h1 h2 hS
theorem g_newz (hx : p.tables.exec = Jvm.exec) (hb : c.code = cc) (hC : g_C G s) (hP : va_P G.1 g_cl ws H) (hD : va_D (g_A G) ws) (hS : va_S (g_A G) s.heap H locs) (hA : ∀ q, s.heap.size ≤ q → g_A G q) {n : Int32} {N : Nat} (hn : ¬ n < 0) (hN : n.toNatClampNeg = N) (hB : N ≤ 1000) (hcells : cells + 1 ≤ R.cells) (hslots : slots + N ≤ R.slots) (hdg : decode cc pc = .ok (.newarray .boolean, 2))
    (kk : ∀ (q : Nat) (H1 : Heap), va_P G.1 g_cl ((q, .inl (G.2.1 1, N, .inl (fun _ => 0))) :: ws) H1 → va_D (g_A G) ((q, .inl (G.2.1 1, N, .inl (fun _ => 0))) :: ws) → va_S (g_A G) s.heap H1 locs → W p l e R s m args below meth c H1 locs (cells + 1) (slots + N) Q (F0 m (pc + 2) ls (.ref q :: rest))) :
    W p l e R s m args below meth c H locs cells slots Q (F0 m pc ls (.int n :: rest)) := by
  have hc9 : componentBytes .boolean = 1 := rfl
  have ht9 : newarray.typeOf .boolean = .boolean := rfl
  refine va_newa (atype := .boolean) (ty := .boolean) hx hb (by rw [ht9]; exact ka_boolean hC) ht9 hC.K hP hD hS hA (a0 := (N, .inl (fun _ => 0))) (fun _ => rfl) hn hN (by rw [hc9]; omega) hcells hslots hdg (fun q cA H1 hK hP hD hS => ?_)
  obtain rfl := g_cls (t0 := 1) hC rfl hK (fun _ h => h)
  obtain ⟨h1, h2⟩ := gl_front hP hD
  exact kk q H1 h1 h2 hS
theorem g_newl (hx : p.tables.exec = Jvm.exec) (hb : c.code = cc) (hC : g_C G s) (hP : va_P G.1 g_cl ws H) (hD : va_D (g_A G) ws) (hS : va_S (g_A G) s.heap H locs) (hA : ∀ q, s.heap.size ≤ q → g_A G q) {n : Int32} {N : Nat} (hn : ¬ n < 0) (hN : n.toNatClampNeg = N) (hB : N ≤ 1000) (hcells : cells + 1 ≤ R.cells) (hslots : slots + N ≤ R.slots) (hdg : decode cc pc = .ok (.newarray .long, 2))
    (kk : ∀ (q : Nat) (H1 : Heap), va_P G.1 g_cl ((q, .inl (G.2.1 2, N, .inr (.inl (fun _ => 0)))) :: ws) H1 → va_D (g_A G) ((q, .inl (G.2.1 2, N, .inr (.inl (fun _ => 0)))) :: ws) → va_S (g_A G) s.heap H1 locs → W p l e R s m args below meth c H1 locs (cells + 1) (slots + N) Q (F0 m (pc + 2) ls (.ref q :: rest))) :
    W p l e R s m args below meth c H locs cells slots Q (F0 m pc ls (.int n :: rest)) := by
  have hc9 : componentBytes .long = 8 := rfl
  have ht9 : newarray.typeOf .long = .long := rfl
  refine va_newa (atype := .long) (ty := .long) hx hb (by rw [ht9]; exact ka_long hC) ht9 hC.K hP hD hS hA (a0 := (N, .inr (.inl (fun _ => 0)))) (fun _ => rfl) hn hN (by rw [hc9]; omega) hcells hslots hdg (fun q cA H1 hK hP hD hS => ?_)
  obtain rfl := g_cls (t0 := 2) hC rfl hK (fun _ h => h)
  obtain ⟨h1, h2⟩ := gl_front hP hD
  exact kk q H1 h1 h2 hS
theorem g_new (hx : p.tables.exec = Jvm.exec) (hb : c.code = cc) {own C : String} {T : u_T} {N ci index : Nat} (hts : ∀ w ∈ u_ws C T N, w.before args s = true) (ty : Nat → FieldType) (hty : ∀ k, k < N → parseFieldDescriptor (T k).2.2.1 = some (ty k)) (hown : s.vm.findClass own = some m.cls) (hcl : (Cond.classLink own index C).before args s = true) (hinst : (Cond.instantiable C N).before args s = true) (hini : (Cond.initialized C).before args s = true)
    (hC : g_C G s) (hP : va_P G.1 g_cl ws H) (hD : va_D (g_A G) ws) (hS : va_S (g_A G) s.heap H locs) (hA : ∀ q, s.heap.size ≤ q → g_A G q) (hc : g_cl[ci]? = some (C, T, N)) {fs : List Value} (hfs : ∀ j, j < N → defaultValue (ty j) = vp_V fs j) (hcells : cells + 1 ≤ R.cells) (hslots : slots + N ≤ R.slots) (hdg : decode cc pc = .ok (.new index, 3))
    (kk : ∀ (q : Nat) (H1 : Heap), va_P G.1 g_cl ((q, .inr (ci, fs)) :: ws) H1 → va_D (g_A G) ((q, .inr (ci, fs)) :: ws) → va_S (g_A G) s.heap H1 locs → W p l e R s m args below meth c H1 locs (cells + 1) (slots + N) Q (F0 m (pc + 3) ls (.ref q :: rest))) :
    W p l e R s m args below meth c H locs cells slots Q (F0 m pc ls rest) := by
  refine va_new hx hb hts (fun _ h => h) ty hty hown hcl hinst hini hC.K hP hD hS hA hc hfs hcells hslots hdg (fun q H1 hP hD hS => ?_)
  obtain ⟨h1, h2⟩ := gl_front hP hD
  exact kk q H1 h1 h2 hS
end GN
