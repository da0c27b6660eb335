/-! WORLDS AS LISTS: parts of them, in another order. -/
section GL
variable {D : va_G} {cl : List vw_C} {A : Nat → Prop} {H : Heap}
theorem gl_mem {w : va_W} : va_P D cl w H ↔ ∀ q ∈ w, va_at D cl q H := by
  refine ⟨fun h q hq => ?_, fun h k q hk => h q (List.mem_of_getElem? hk)⟩
  obtain ⟨k, hk⟩ := List.getElem?_of_mem hq
  exact h k q hk
theorem gl_nodup {w : va_W} : va_D A w ↔ (w.map (fun q => q.1)).Nodup ∧ ∀ q ∈ w, A q.1 := by
  constructor
  · intro h
    refine ⟨List.pairwise_iff_getElem.mpr (fun i j hi hj hij => ?_), fun q hq => ?_⟩
    · have hi2 : i < w.length := by rw [List.length_map] at hi; exact hi
      have hj2 : j < w.length := by rw [List.length_map] at hj; exact hj
      rw [List.getElem_map, List.getElem_map]
      intro he
      have h1 := h.1 i j _ _ (List.getElem?_eq_getElem hi2) (List.getElem?_eq_getElem hj2) he
      omega
    · obtain ⟨k, hk⟩ := List.getElem?_of_mem hq
      exact h.2 k q hk
  · intro h
    have h1 := List.pairwise_iff_getElem.mp h.1
    refine ⟨fun i j p q hi hj he => ?_, fun k q hk => h.2 q (List.mem_of_getElem? hk)⟩
    obtain ⟨li, ei⟩ := List.getElem?_eq_some_iff.mp hi
    obtain ⟨lj, ej⟩ := List.getElem?_eq_some_iff.mp hj
    rcases Nat.lt_trichotomy i j with hlt | heq | hlt
    · exact absurd (by rw [List.getElem_map, List.getElem_map, ei, ej]; exact he) (h1 i j (by rw [List.length_map]; exact li) (by rw [List.length_map]; exact lj) hlt)
    · exact heq
    · exact absurd (by rw [List.getElem_map, List.getElem_map, ei, ej]; exact he.symm) (h1 j i (by rw [List.length_map]; exact lj) (by rw [List.length_map]; exact li) hlt)
theorem gl_permP {w w' : va_W} (hp : w.Perm w') (h : va_P D cl w H) : va_P D cl w' H := gl_mem.mpr fun q hq => gl_mem.mp h q (hp.mem_iff.mpr hq)
theorem gl_permD {w w' : va_W} (hp : w.Perm w') (h : va_D A w) : va_D A w' := by
  obtain ⟨h1, h2⟩ := gl_nodup.mp h
  exact gl_nodup.mpr ⟨(hp.map _).nodup_iff.mp h1, fun q hq => h2 q (hp.mem_iff.mpr hq)⟩
theorem gl_leftP {a b : va_W} (h : va_P D cl (a ++ b) H) : va_P D cl a H ∧ va_P D cl b H :=
  ⟨gl_mem.mpr fun q hq => gl_mem.mp h q (List.mem_append_left _ hq), gl_mem.mpr fun q hq => gl_mem.mp h q (List.mem_append_right _ hq)⟩
theorem gl_left {p : va_W} (rest : va_W) {k : Nat} {q : Nat × va_E} (h : p[k]? = some q) : (p ++ rest)[k]? = some q := by
  rw [List.getElem?_append_left (List.getElem?_eq_some_iff.mp h).1]; exact h
theorem gl_right (p : va_W) {rest : va_W} {k : Nat} {q : Nat × va_E} (h : rest[k]? = some q) : (p ++ rest)[p.length + k]? = some q := by
  rw [List.getElem?_append_right (Nat.le_add_right _ _), Nat.add_sub_cancel_left]; exact h
/-- some cells of the list p first, the others behind them, then the rest -/
theorem gl_split {p rest wc wr : va_W} (hP : va_P D cl (p ++ rest) H) (hD : va_D A (p ++ rest)) (ks : List Nat) (hk : ks.map (fun i => p[i]?) = (wc ++ wr).map some) (hn : va_nd ks = true) : va_P D cl (wc ++ (wr ++ rest)) H ∧ va_D A (wc ++ (wr ++ rest)) := by
  have key : ∀ (k : Nat) (q : Nat × va_E), (wc ++ wr)[k]? = some q → ∃ i, ks[k]? = some i ∧ p[i]? = some q := by
    intro k q hq
    have h1 : (ks.map (fun i => p[i]?))[k]? = some (some q) := by rw [hk, List.getElem?_map, hq]; rfl
    rw [List.getElem?_map] at h1
    cases hi : ks[k]? with
    | none => rw [hi] at h1; cases h1
    | some i => rw [hi] at h1; exact ⟨i, rfl, Option.some.inj h1⟩
  have hDp : va_D A p := ⟨fun i j x y hi hj he => hD.1 i j x y (gl_left rest hi) (gl_left rest hj) he, fun k q hq => hD.2 k q (gl_left rest hq)⟩
  have hDr : va_D A rest := ⟨fun i j x y hi hj he => by have := hD.1 _ _ x y (gl_right p hi) (gl_right p hj) he; omega, fun k q hq => hD.2 _ q (gl_right p hq)⟩
  rw [← List.append_assoc]
  refine ⟨va_P.app (fun k q hq => ?_) (gl_leftP hP).2, va_D.app (hDp.sub ks hn hk) hDr (fun i j x y hx hy he => ?_)⟩
  · obtain ⟨i, -, h2⟩ := key k q hq
    exact hP i q (gl_left rest h2)
  · obtain ⟨a, -, h2⟩ := key i x hx
    have h3 := hD.1 a (p.length + j) x y (gl_left rest h2) (gl_right p hy) he
    have h4 := (List.getElem?_eq_some_iff.mp h2).1
    omega
theorem gl_swap {a b c : va_W} (hP : va_P D cl (a ++ (b ++ c)) H) (hD : va_D A (a ++ (b ++ c))) : va_P D cl (b ++ (a ++ c)) H ∧ va_D A (b ++ (a ++ c)) :=
  ⟨gl_permP (List.perm_append_comm_assoc a b c) hP, gl_permD (List.perm_append_comm_assoc a b c) hD⟩
theorem gl_front {w : va_W} {x : Nat × va_E} (hP : va_P D cl (w ++ [x]) H) (hD : va_D A (w ++ [x])) : va_P D cl (x :: w) H ∧ va_D A (x :: w) :=
  ⟨gl_permP (List.perm_append_comm (l₁ := w) (l₂ := [x])) hP, gl_permD (List.perm_append_comm (l₁ := w) (l₂ := [x])) hD⟩
end GL
