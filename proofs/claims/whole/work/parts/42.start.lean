set_option maxHeartbeats 4000000 in
set_option maxRecDepth 100000 in
/-- what the tables and the start say, in one: g_C -/
theorem g_start {s : State} {b : Nat} (hts : ∀ w ∈ lw_tbl, w.before #[Value.ref b] s = true) (hgv : (Jvm.Cond.and given_1 narrow_1).before #[Value.ref b] s = true) : ∃ G : GG, g_C G s ∧ G.2.2.2 = s.heap.size := by
  have hs := flat_of_before _ hgv
  obtain ⟨c0, i0, h0⟩ := u_known (C := R_CB) (T := F_CB) (N := 12) (n := 12) hts (fun w hw => (i_CB w hw).1) (hts (.instantiable R_CB 12) (tb_1 (List.mem_of_getElem? (i := 22) rfl)))
  obtain ⟨c1, i1, h1⟩ := u_known (C := R_Bu) (T := F_Bu) (N := 3) (n := 3) hts (fun w hw => (i_Bu w hw).1) (hts (.instantiable R_Bu 3) (tb_1 (List.mem_of_getElem? (i := 30) rfl)))
  obtain ⟨c2, i2, h2⟩ := u_known (C := R_Or) (T := F_Or) (N := 4) (n := 4) hts (fun w hw => (i_Or w hw).1) (hts (.instantiable R_Or 4) (tb_1 (List.mem_of_getElem? (i := 50) rfl)))
  obtain ⟨c3, i3, h3⟩ := u_known (C := R_Ta) (T := F_Ta) (N := 2) (n := 2) hts (fun w hw => (i_Ta w hw).1) (hts (.instantiable R_Ta 2) (tb_1 (List.mem_of_getElem? (i := 74) rfl)))
  obtain ⟨c4, i4, h4⟩ := u_known (C := R_Re) (T := F_Re) (N := 8) (n := 8) hts (fun w hw => (i_Re w hw).1) (hts (.instantiable R_Re 8) (tb_1 (List.mem_of_getElem? (i := 90) rfl)))
  obtain ⟨c5, i5, h5⟩ := u_known (C := R_Tf) (T := F_Tf) (N := 2) (n := 2) hts (fun w hw => (i_Tf w hw).1) (hts (.instantiable R_Tf 2) (tb_1 (List.mem_of_getElem? (i := 124) rfl)))
  obtain ⟨c6, i6, h6⟩ := u_known (C := R_Bi) (T := F_Bi) (N := 6) (n := 6) hts (fun w hw => (i_Bi w hw).1) (hts (.instantiable R_Bi 6) (tb_1 (List.mem_of_getElem? (i := 137) rfl)))
  obtain ⟨c7, i7, h7⟩ := u_known (C := R_Ho) (T := F_Ho) (N := 1) (n := 1) hts (fun w hw => (i_Ho w hw).1) (hts (.instantiable R_Ho 1) (tb_1 (List.mem_of_getElem? (i := 167) rfl)))
  obtain ⟨c8, i8, h8⟩ := u_known (C := R_Gr) (T := F_Gr) (N := 3) (n := 3) hts (fun w hw => (i_Gr w hw).1) (hts (.instantiable R_Gr 3) (tb_1 (List.mem_of_getElem? (i := 178) rfl)))
  obtain ⟨c9, i9, h9⟩ := u_known (C := R_Le) (T := F_Le) (N := 4) (n := 4) hts (fun w hw => (i_Le w hw).1) (hts (.instantiable R_Le 4) (tb_1 (List.mem_of_getElem? (i := 197) rfl)))
  obtain ⟨c10, i10, h10⟩ := u_known (C := R_Mo) (T := F_Mo) (N := 33) (n := 33) hts (fun w hw => (i_Mo w hw).1) (hts (.instantiable R_Mo 33) (tb_4 (List.mem_of_getElem? (i := 0) rfl)))
  obtain ⟨a0, ka0, co0, ea0, eb0, ec0⟩ := Cond.arrayClass_spec (hts (.arrayClass .int) (tb_1 (List.mem_of_getElem? (i := 48) rfl)))
  obtain ⟨a1, ka1, co1, ea1, eb1, ec1⟩ := Cond.arrayClass_spec (hts (.arrayClass .boolean) (tb_1 (List.mem_of_getElem? (i := 72) rfl)))
  obtain ⟨a2, ka2, co2, ea2, eb2, ec2⟩ := Cond.arrayClass_spec (hts (.arrayClass .long) (tb_1 (List.mem_of_getElem? (i := 217) rfl)))
  have hr209 : (Cond.stringRef "CostBooks" 209 "the weights sum to 0").before #[Value.ref b] s = true := hts _ (tb_3 (List.mem_of_getElem? (i := 136) rfl))
  obtain ⟨_, _, _, t209, _, _, _, _, _, ev209⟩ := Cond.stringRef_spec h0.2.1 hr209
  have hr250 : (Cond.stringRef "CostBooks" 250 "no day went by").before #[Value.ref b] s = true := hts _ (tb_3 (List.mem_of_getElem? (i := 237) rfl))
  obtain ⟨_, _, _, t250, _, _, _, _, _, ev250⟩ := Cond.stringRef_spec h0.2.1 hr250
  have hr256 : (Cond.stringRef "CostBooks" 256 "unknown number").before #[Value.ref b] s = true := hts _ (tb_2 (List.mem_of_getElem? (i := 75) rfl))
  obtain ⟨_, _, _, t256, _, _, _, _, _, ev256⟩ := Cond.stringRef_spec h0.2.1 hr256
  have hr261 : (Cond.stringRef "CostBooks" 261 "number outside its range").before #[Value.ref b] s = true := hts _ (tb_2 (List.mem_of_getElem? (i := 115) rfl))
  obtain ⟨_, _, _, t261, _, _, _, _, _, ev261⟩ := Cond.stringRef_spec h0.2.1 hr261
  have hr266 : (Cond.stringRef "CostBooks" 266 "not in this state").before #[Value.ref b] s = true := hts _ (tb_2 (List.mem_of_getElem? (i := 145) rfl))
  obtain ⟨_, _, _, t266, _, _, _, _, _, ev266⟩ := Cond.stringRef_spec h0.2.1 hr266
  have hr271 : (Cond.stringRef "CostBooks" 271 "no room").before #[Value.ref b] s = true := hts _ (tb_2 (List.mem_of_getElem? (i := 191) rfl))
  obtain ⟨_, _, _, t271, _, _, _, _, _, ev271⟩ := Cond.stringRef_spec h0.2.1 hr271
  refine ⟨((fun k => if k = 0 then c0 else if k = 1 then c1 else if k = 2 then c2 else if k = 3 then c3 else if k = 4 then c4 else if k = 5 then c5 else if k = 6 then c6 else if k = 7 then c7 else if k = 8 then c8 else if k = 9 then c9 else c10, fun k => if k = 0 then i0 else if k = 1 then i1 else if k = 2 then i2 else if k = 3 then i3 else if k = 4 then i4 else if k = 5 then i5 else if k = 6 then i6 else if k = 7 then i7 else if k = 8 then i8 else if k = 9 then i9 else i10), (fun k => if k = 0 then a0 else if k = 1 then a1 else a2), (fun k => if k = 209 then t209 else if k = 250 then t250 else if k = 256 then t256 else if k = 261 then t261 else if k = 266 then t266 else if k = 271 then t271 else 0), s.heap.size), ⟨⟨?_, ?_⟩, fun w hw hok => g_ok_of hok (hts w hw), ?_, ?_, ?_, ?_⟩, rfl⟩
  · intro k q hq
    match k, hq with
    | 0, hq => cases hq; exact h0
    | 1, hq => cases hq; exact h1
    | 2, hq => cases hq; exact h2
    | 3, hq => cases hq; exact h3
    | 4, hq => cases hq; exact h4
    | 5, hq => cases hq; exact h5
    | 6, hq => cases hq; exact h6
    | 7, hq => cases hq; exact h7
    | 8, hq => cases hq; exact h8
    | 9, hq => cases hq; exact h9
    | 10, hq => cases hq; exact h10
    | k + 11, hq => simp [g_cl] at hq
  · intro k q hq
    match k, hq with
    | 0, hq => cases hq; exact ⟨fun n z => ⟨fun k h => (by cases h), ka0, eb0, co0, ec0⟩, ea0⟩
    | 1, hq => cases hq; exact ⟨fun n z => ⟨fun k h => (by cases h), ka1, eb1, co1, ec1⟩, ea1⟩
    | 2, hq => cases hq; exact ⟨fun n z => ⟨fun k h => (by cases h), ka2, eb2, co2, ec2⟩, ea2⟩
    | k + 3, hq => simp [g_tys] at hq
  · exact g_Z.of (hts (.laysStatic Bundle.tN "UNASSIGNED_STACK" Bundle.steD) (tb_2 (List.mem_of_getElem? (i := 59) rfl))) (hs (.isRef (.static Bundle.tN "UNASSIGNED_STACK" Bundle.steD)) (by decide +kernel)) (fun a ha => Nat.not_le.mpr ha)
  · exact g_Z.of (hts (.laysStatic Bundle.tN "SUPPRESSED_SENTINEL" Bundle.listD) (tb_2 (List.mem_of_getElem? (i := 61) rfl))) (hs (.isRef (.static Bundle.tN "SUPPRESSED_SENTINEL" Bundle.listD)) (by decide +kernel)) (fun a ha => Nat.not_le.mpr ha)
  · intro q hq
    simp only [g_txt, List.mem_cons, List.not_mem_nil, or_false] at hq
    rcases hq with rfl | rfl | rfl | rfl | rfl | rfl
    · exact vk_R.of hr209 ev209
    · exact vk_R.of hr250 ev250
    · exact vk_R.of hr256 ev256
    · exact vk_R.of hr261 ev261
    · exact vk_R.of hr266 ev266
    · exact vk_R.of hr271 ev271
  · intro q hq
    have hn : ∀ q ∈ g_nc, Cond.not (.castable q.1 q.2) ∈ flatC (Jvm.Cond.and given_1 narrow_1) := by decide +kernel
    exact va_Nc.of (hs _ (hn q hq))
theorem g_inv0 : INV (fun k : Nat => bif Nat.beq k 11 then (100 : Int32) else bif Nat.beq k 12 then (-1) else 0) (fun _ _ : Nat => (0 : Int32)) (fun _ _ : Nat => (0 : Int32)) := by
  have z : ∀ N : Nat, 0 < N → N < 1000 → vp_in 0 N := fun N h h2 => vp_in_nI (n := 0) h (by omega)
  have z0 : ((0 : Int32)).toNatClampNeg = 0 := by decide
  refine inv_mk ⟨z _ (by decide) (by decide), fun _ => z _ (by decide) (by decide), fun _ => ⟨by (try dsimp only); decide, by (try dsimp only); decide⟩, fun j hj => ?_⟩ (z _ (by decide) (by decide)) (z _ (by decide) (by decide)) (fun j hj => ⟨rfl, rfl, ⟨0, by decide, rfl⟩, ⟨0, by decide, rfl⟩⟩) ⟨z _ (by decide) (by decide), fun _ => ⟨by (try dsimp only); decide, by (try dsimp only); decide⟩, fun _ _ => rfl⟩ (fun _ _ => ⟨by (try dsimp only); decide, by (try dsimp only); decide⟩) (z _ (by decide) (by decide)) ⟨z _ (by decide) (by decide), fun _ => z _ (by decide) (by decide)⟩ ⟨z _ (by decide) (by decide), fun j hj => ?_⟩ (by decide)
  · exact absurd (show j < (0 : Int32).toNatClampNeg from hj) (by rw [z0]; omega)
  · exact ⟨fun _ => nI_pos (by omega), fun _ => rfl⟩
