/-! WHAT HOLDS ANYWHERE in the run: the tables' words that stay, the classes' numbers, the two statics of Throwable, the texts. G: numbers of classes and slots; of the array classes; the texts' cells; the first cell that is ours. -/
abbrev GG : Type := va_G × (Nat → ClassId) × (Nat → Nat) × Nat
def g_A (G : GG) : Nat → Prop := fun q => G.2.2.2 ≤ q
def g_tys (G : GG) : List (ClassId × FieldType) := [(G.2.1 0, .int), (G.2.1 1, .boolean), (G.2.1 2, .long)]
def g_nest : Cond → Bool
  | .fieldLinkNest .. => true
  | .methodLinkNest .. => true
  | _ => false
def g_face : Cond → Bool
  | .castable .. => true
  | .declares .. => true
  | _ => false
def g_ok (w : Cond) : Bool := goodWord w || (g_nest w || g_face w)
theorem g_ok_to {w : Cond} {u U : State} (hok : g_ok w = true) (hW : u.WarmedH U.vm) (h : va_Nw w u) : va_Nw w U := by
  simp only [g_ok, Bool.or_eq_true] at hok
  rcases hok with hok | hok | hok
  · exact word_at hW (good_of_word hok) h
  · cases w <;> first | (simp [g_nest] at hok; done) | exact va_Nw.warmF hW h | exact va_Nw.warmM hW h
  · cases w <;> first | (simp [g_face] at hok; done) | exact va_tabs (u := u.setVm U.vm) rfl rfl (Cond.before_warmed hW _ trivial h)
theorem g_ok_use {w : Cond} {U : State} {A : Array Value} (hok : g_ok w = true) (h : va_Nw w U) : w.before A U = true := by
  simp only [g_ok, Bool.or_eq_true] at hok
  rcases hok with hok | hok | hok
  · exact word_at (State.WarmedH.refl U) (good_of_word hok) h
  · cases w <;> first | (simp [g_nest] at hok; done) | exact va_Nw.use rfl h
  · cases w <;> first | (simp [g_face] at hok; done) | exact va_Nw.use rfl h
theorem g_ok_of {w : Cond} {U : State} {A : Array Value} (hok : g_ok w = true) (h : w.before A U = true) : va_Nw w U := by
  simp only [g_ok, Bool.or_eq_true] at hok
  rcases hok with hok | hok | hok
  · exact word_at (State.WarmedH.refl U) (good_of_word hok) h
  · cases w <;> first | (simp [g_nest] at hok; done) | exact va_Nw.of rfl h
  · cases w <;> first | (simp [g_face] at hok; done) | exact va_Nw.of rfl h
/-- a static field that holds a reference or null, in a cell that nobody writes -/
def g_Z (C n d : String) (A : Nat → Prop) (U : State) (H : Heap) : Prop := ∃ (c : ClassId) (k : Class) (i : Nat) (f : Field) (a : Nat) (cell : Cell) (v : Value), U.vm.findClass C = some c ∧ U.fieldFound? C n d = some (c, k, i, f) ∧ f.isStatic = true ∧ k.statics = some a ∧ H[a]? = some cell ∧ cell.vm.isStatics = true ∧ cell.cls = c ∧ f.slot < cell.slots.size ∧ k.staticTypes[f.slot]? = some f.type ∧ cell.slots[f.slot]? = some v ∧ v.isRef = true ∧ ¬ A a
theorem g_Z.to {C n d : String} {A : Nat → Prop} {u U : State} {H H1 : Heap} (h : g_Z C n d A u H) (hvm : u.vm.Alike U.vm) (hq : ∀ a : Nat, a < H.size → ¬ A a → H1[a]? = H[a]?) : g_Z C n d A U H1 := by
  obtain ⟨c, k, i, f, a, cell, v, h1, h2, h3, h4, h5, h6, h7, h8, h9, h10, h11, h12⟩ := h
  obtain ⟨k', hi', he⟩ := State.fieldFound?_setVm hvm h2
  exact ⟨c, k', i, f, a, cell, v, by rw [hvm.findClass]; exact h1, hi', h3, by rw [he]; exact h4, by rw [hq a (Array.getElem?_eq_some_iff.mp h5).1 h12]; exact h5, h6, h7, h8, by rw [he]; exact h9, h10, h11, h12⟩
theorem g_Z.lays {C n d : String} {A : Nat → Prop} {s : State} {args : Array Value} (h : g_Z C n d A s s.heap) : (Cond.laysStatic C n d).before args s = true := by
  obtain ⟨c, k, i, f, a, cell, v, h1, h2, h3, h4, h5, h6, h7, h8, h9, -⟩ := h
  show (Cond.laysStatic C n d).holds args s none s [] = true
  exact Cond.laysStatic_of h1 h2 h3 h4 h5 h6 h7 h8 h9
theorem g_Z.ref {C n d : String} {A : Nat → Prop} {s : State} {args : Array Value} (h : g_Z C n d A s s.heap) : (Cond.isRef (.static C n d)).before args s = true := by
  obtain ⟨c, k, i, f, a, cell, v, h1, h2, h3, h4, h5, h6, h7, h8, h9, h10, h11, -⟩ := h
  have he : (Term.static C n d).eval args s none [] s = some v := by
    simp [Term.eval, State.fieldNamed?, h2, h3, h4, h5, h6, h10]
  simp only [Cond.before, Cond.holds, Cond.value, he]
  cases v <;> simp_all [Value.isRef]
theorem g_Z.of {C n d : String} {A : Nat → Prop} {s : State} {args : Array Value} (hl : (Cond.laysStatic C n d).before args s = true) (h : (Cond.isRef (.static C n d)).before args s = true) (hA : ∀ a : Nat, a < s.heap.size → ¬ A a) : g_Z C n d A s s.heap := by
  obtain ⟨c, k, i, f, a, cell, h1, h2, h3, h4, h5, h6, h7, h8, h9⟩ := Cond.laysStatic_spec hl
  obtain ⟨u, hu⟩ := Cond.staticRefV h2 h3 h4 h5 h6 h
  exact ⟨c, k, i, f, a, cell, u.v, h1, h2, h3, h4, h5, h6, h7, h8, h9, hu, u.2, hA a (Array.getElem?_eq_some_iff.mp h5).1⟩
/-- the texts of the class's throws, by their places -/
def g_txt : List (Nat × String) := [(209, "the weights sum to 0"), (250, "no day went by"), (256, "unknown number"), (261, "number outside its range"), (266, "not in this state"), (271, "no room")]
/-- pairs of classes that aren't castable -/
def g_nc : List (String × String) := [("java/lang/ArithmeticException", "java/lang/IllegalArgumentException"), ("java/lang/ArithmeticException", "java/lang/IllegalStateException"), ("java/lang/ArithmeticException", "java/lang/IndexOutOfBoundsException"), ("java/lang/ArithmeticException", "java/lang/UnsupportedOperationException"), ("java/lang/IllegalArgumentException", "java/lang/ArithmeticException"), ("java/lang/IllegalArgumentException", "java/lang/IllegalStateException"), ("java/lang/IllegalArgumentException", "java/lang/IndexOutOfBoundsException"), ("java/lang/IllegalArgumentException", "java/lang/UnsupportedOperationException"), ("java/lang/IllegalStateException", "java/lang/ArithmeticException"), ("java/lang/IllegalStateException", "java/lang/IllegalArgumentException"), ("java/lang/IllegalStateException", "java/lang/IndexOutOfBoundsException"), ("java/lang/IllegalStateException", "java/lang/UnsupportedOperationException"), ("java/lang/IndexOutOfBoundsException", "java/lang/ArithmeticException"), ("java/lang/IndexOutOfBoundsException", "java/lang/IllegalArgumentException"), ("java/lang/IndexOutOfBoundsException", "java/lang/IllegalStateException"), ("java/lang/IndexOutOfBoundsException", "java/lang/UnsupportedOperationException"), ("java/lang/UnsupportedOperationException", "java/lang/ArithmeticException"), ("java/lang/UnsupportedOperationException", "java/lang/IllegalArgumentException"), ("java/lang/UnsupportedOperationException", "java/lang/IllegalStateException"), ("java/lang/UnsupportedOperationException", "java/lang/IndexOutOfBoundsException")]
def g_C (G : GG) (U : State) : Prop := va_K G.1 g_cl (g_tys G) U ∧ (∀ w ∈ lw_tbl, g_ok w = true → va_Nw w U) ∧ g_Z Bundle.tN "UNASSIGNED_STACK" Bundle.steD (g_A G) U U.heap ∧ g_Z Bundle.tN "SUPPRESSED_SENTINEL" Bundle.listD (g_A G) U U.heap ∧
  (∀ q ∈ g_txt, vk_R "CostBooks" q.1 q.2 (G.2.2.1 q.1) U) ∧ ∀ q ∈ g_nc, va_Nc q.1 q.2 U
theorem g_C.K {G : GG} {U : State} (h : g_C G U) : va_K G.1 g_cl (g_tys G) U := h.1
theorem g_C.w {G : GG} {U : State} {A : Array Value} (h : g_C G U) {w : Cond} (hw : w ∈ lw_tbl) (hok : g_ok w = true) : w.before A U = true := g_ok_use hok (h.2.1 w hw hok)
theorem g_C.to {G : GG} {u U : State} (h : g_C G u) (hW : u.WarmedH U.vm) (hq : ∀ a : Nat, a < u.heap.size → ¬ g_A G a → U.heap[a]? = u.heap[a]?) : g_C G U :=
  ⟨va_K.moved hW.alike h.1, fun w hw hok => g_ok_to hok hW (h.2.1 w hw hok), h.2.2.1.to hW.alike hq, h.2.2.2.1.to hW.alike hq, fun q hq => vk_R.warm hW (h.2.2.2.2.1 q hq), fun q hq => va_Nc.moved hW.alike (h.2.2.2.2.2 q hq)⟩
theorem tb_1 {w : Cond} (h : w ∈ tables_1_1) : w ∈ lw_tbl := List.mem_append_right _ (List.mem_append_left _ h)
theorem tb_2 {w : Cond} (h : w ∈ tables_1_2) : w ∈ lw_tbl := List.mem_append_right _ (List.mem_append_right _ (List.mem_append_left _ h))
theorem tb_3 {w : Cond} (h : w ∈ tables_1_3) : w ∈ lw_tbl := List.mem_append_right _ (List.mem_append_right _ (List.mem_append_right _ (List.mem_append_left _ h)))
theorem tb_4 {w : Cond} (h : w ∈ tables_1_4) : w ∈ lw_tbl := List.mem_append_right _ (List.mem_append_right _ (List.mem_append_right _ (List.mem_append_right _ (List.mem_append_left _ h))))
theorem tb_5 {w : Cond} (h : w ∈ tables_1_5) : w ∈ lw_tbl := List.mem_append_right _ (List.mem_append_right _ (List.mem_append_right _ (List.mem_append_right _ (List.mem_append_right _ h))))
/-- the words of a throw: those of the tables, and four of the heap -/
def g_heapw (w : Cond) : Bool := decide (w = .isRef (.static Bundle.tN "UNASSIGNED_STACK" Bundle.steD)) || decide (w = .isRef (.static Bundle.tN "SUPPRESSED_SENTINEL" Bundle.listD)) || decide (w = .laysStatic Bundle.tN "UNASSIGNED_STACK" Bundle.steD) || decide (w = .laysStatic Bundle.tN "SUPPRESSED_SENTINEL" Bundle.listD)
theorem g_own {G : GG} {U : State} {A : Array Value} (h : g_C G U) (L : List Cond) (hL : ∀ w ∈ L, g_heapw w = true ∨ (w ∈ lw_tbl ∧ g_ok w = true)) : ∀ w ∈ L, w.before A U = true := by
  intro w hw
  rcases hL w hw with h1 | ⟨h1, h2⟩
  · simp only [g_heapw, Bool.or_eq_true, decide_eq_true_eq] at h1
    rcases h1 with ((rfl | rfl) | rfl) | rfl
    · exact h.2.2.1.ref
    · exact h.2.2.2.1.ref
    · exact h.2.2.1.lays
    · exact h.2.2.2.1.lays
  · exact h.w h1 h2
