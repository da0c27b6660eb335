/-! WORLDS AS LISTS: parts of them, in another order. -/
section GL
variable {D : va_G} {cl : List vw_C} {A : Nat → Prop} {H : Heap}
theorem gl_mem {w : va_W} : va_P D cl w H ↔ ∀ q ∈ w, va_at D cl q H := by
  refine ⟨fun h q hq => ?_, fun h k q hk => h q (List.mem_of_getElem? hk)⟩
  obtain ⟨k, hk⟩ := List.getElem?_of_mem hq
  exact h k q hk
theorem gl_nodup {w : va_W} : va_D A w ↔ (w.map (fun q => q.1)).Nodup ∧ ∀ q ∈ w, A q.1 := by
  constructor
  · intro h
    refine ⟨?_, fun q hq => ?_⟩
    · rw [List.nodup_iff_getElem?_ne_getElem?]
      intro i j hij hj he
      rw [List.length_map] at hj
      rw [List.getElem?_map, List.getElem?_map, List.getElem?_eq_getElem (Nat.lt_trans hij hj), List.getElem?_eq_getElem hj] at he
      have h1 := h.1 i j _ _ (List.getElem?_eq_getElem (Nat.lt_trans hij hj)) (List.getElem?_eq_getElem hj) (Option.some.inj he)
      omega
    · obtain ⟨k, hk⟩ := List.getElem?_of_mem hq
      exact h.2 k q hk
  · intro h
    refine ⟨fun i j p q hi hj he => ?_, fun k q hk => h.2 q (List.mem_of_getElem? hk)⟩
    have h1 := List.nodup_iff_getElem?_ne_getElem?.mp h.1
    rcases Nat.lt_trichotomy i j with hlt | heq | hlt
    · have hjl : j < (w.map (fun q => q.1)).length := by rw [List.length_map]; exact (List.getElem?_eq_some_iff.mp hj).1
      exact absurd (by rw [List.getElem?_map, List.getElem?_map, hi, hj]; simp [he]) (h1 i j hlt hjl)
    · exact heq
    · have hil : i < (w.map (fun q => q.1)).length := by rw [List.length_map]; exact (List.getElem?_eq_some_iff.mp hi).1
      exact absurd (by rw [List.getElem?_map, List.getElem?_map, hi, hj]; simp [he]) (h1 j i hlt hil)
theorem gl_permP {w w' : va_W} (hp : w.Perm w') (h : va_P D cl w H) : va_P D cl w' H := gl_mem.mpr fun q hq => gl_mem.mp h q (hp.mem_iff.mpr hq)
theorem gl_permD {w w' : va_W} (hp : w.Perm w') (h : va_D A w) : va_D A w' := by
  obtain ⟨h1, h2⟩ := gl_nodup.mp h
  exact gl_nodup.mpr ⟨(hp.map _).nodup_iff.mp h1, fun q hq => h2 q (hp.mem_iff.mpr hq)⟩
/-- the places of a list, each once: the list in another order -/
theorem gl_perm (p w : va_W) (ks : List Nat) (hk : ks.map (fun i => p[i]?) = w.map some) (hn : va_nd ks = true) (hl : ks.length = p.length) : p.Perm w := by
  have hnd : ks.Nodup := by
    rw [List.nodup_iff_getElem?_ne_getElem?]
    intro i j hij hj he
    have h1 := va_nd_inj ks hn i j ks[j] (by rw [he]; exact List.getElem?_eq_getElem hj) (List.getElem?_eq_getElem hj)
    omega
  have hlt : ∀ i ∈ ks, i < p.length := by
    intro i hi
    obtain ⟨k, hk2⟩ := List.getElem?_of_mem hi
    have h1 : (ks.map (fun i => p[i]?))[k]? = some (p[i]?) := by rw [List.getElem?_map, hk2]; rfl
    rw [hk, List.getElem?_map] at h1
    cases hw : w[k]? with
    | none => rw [hw] at h1; cases h1
    | some x =>
      rw [hw] at h1
      have h2 : p[i]? = some x := (Option.some.inj h1).symm
      exact (List.getElem?_eq_some_iff.mp h2).1
  have hsub : ks.Perm (List.range p.length) := by
    refine List.Subperm.perm_of_length_le (List.subperm_of_subset hnd (fun i hi => List.mem_range.mpr (hlt i hi))) ?_
    rw [List.length_range, hl]
    exact Nat.le_refl _
  have h3 : (ks.map (fun i => p[i]?)).Perm (p.map some) := by
    have h4 : (List.range p.length).map (fun i => p[i]?) = p.map some := by
      apply List.ext_getElem?
      intro i
      rw [List.getElem?_map, List.getElem?_map]
      by_cases hi : i < p.length
      · rw [List.getElem?_range hi, List.getElem?_eq_getElem hi]
        simp [hi]
      · rw [List.getElem?_eq_none (by rw [List.length_range]; omega), List.getElem?_eq_none (by omega)]
        rfl
    rw [← h4]
    exact hsub.map _
  rw [hk] at h3
  have h5 := h3.symm.filterMap id
  simpa [List.filterMap_map] using h5
/-- some cells of the list p first, the others behind them, then the rest -/
theorem gl_split {p rest wc wr : va_W} (hP : va_P D cl (p ++ rest) H) (hD : va_D A (p ++ rest)) (ks : List Nat) (hk : ks.map (fun i => p[i]?) = (wc ++ wr).map some) (hn : va_nd ks = true) (hl : ks.length = p.length) : va_P D cl (wc ++ (wr ++ rest)) H ∧ va_D A (wc ++ (wr ++ rest)) := by
  have hp : (p ++ rest).Perm (wc ++ (wr ++ rest)) := by
    rw [← List.append_assoc]
    exact (gl_perm p (wc ++ wr) ks hk hn hl).append_right rest
  exact ⟨gl_permP hp hP, gl_permD hp hD⟩
theorem gl_swap {a b c : va_W} (hP : va_P D cl (a ++ (b ++ c)) H) (hD : va_D A (a ++ (b ++ c))) : va_P D cl (b ++ (a ++ c)) H ∧ va_D A (b ++ (a ++ c)) :=
  ⟨gl_permP (List.perm_append_comm_assoc a b c) hP, gl_permD (List.perm_append_comm_assoc a b c) hD⟩
end GL
