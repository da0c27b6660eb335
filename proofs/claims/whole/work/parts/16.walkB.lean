set_option maxHeartbeats 4000000 in
set_option maxRecDepth 100000 in
theorem c_Or_anyOpenIn (l : Launch) (hl0 : l.stackTraces = false) (G : GG) (o0 : Nat) (o1 : Nat) (o2 : Nat) (o3 : Nat) (Fo1 : Nat → Int32) (Fo2 : Nat → Int32) (Fo3 : Nat → Int32) (So4 : Int32) (x : Int32) (hc : vp_in So4 61) : px l G y_Or_anyOpenIn cd_Or_anyOpenIn rm_Or_anyOpenIn [.ref o0, .int x] [(o0, .inr (2, [.ref o1, .ref o2, .ref o3, .int So4])), (o1, .inl (G.2.1 0, 60, .inl Fo1)), (o2, .inl (G.2.1 0, 60, .inl Fo2)), (o3, .inl (G.2.1 1, 60, .inl Fo3))] (none : Option String) (some (.int (if ∃ j : Nat, j < So4.toNatClampNeg ∧ ¬ Fo3 j = 0 ∧ Fo1 j / 10 = x then 1 else 0))) := by
  intro rest
  refine mx_of (cc := b_Or_anyOpenIn) (maxL := 3) (ret := (some .boolean)) (by decide) rfl ?_
  intro p e s m args below meth c s₁ B hml hE hv
  obtain ⟨rfl, hC, hP, hD⟩ := hv
  have hx := B.exec
  have hb := B.bytes
  have hr := B.returns
  have hlocks := B.notSynchronized
  have hown : s.vm.findClass R_Or = some m.cls := findClass_of_methodNamed B.named
  have hS : va_S (g_A G) s.heap s.heap [] := va_S.rf
  have hl := lv_entry ([.ref o0, .int x]) (n := 3) (Nat.le_of_ble_eq_true rfl)
  rw [lg_entry_eq]
  generalize (lg_sl ([.ref o0, .int x]) ++ List.replicate (3 - (lg_sl ([.ref o0, .int x])).length) Slot.unset).toArray = ls at hl ⊢
  have hl : lv_has ls 3 [(0, .ref o0), (1, .int x)] := hl
  have hsize : ls.size = c.maxLocals := by rw [hml]; exact hl.1
  have hP : va_P G.1 g_cl ((o0, .inr (2, [.ref o1, .ref o2, .ref o3, .int So4])) :: (o1, .inl (G.2.1 0, 60, .inl Fo1)) :: (o2, .inl (G.2.1 0, 60, .inl Fo2)) :: (o3, .inl (G.2.1 1, 60, .inl Fo3)) :: rest) s.heap := hP
  have hD : va_D (g_A G) ((o0, .inr (2, [.ref o1, .ref o2, .ref o3, .int So4])) :: (o1, .inl (G.2.1 0, 60, .inl Fo1)) :: (o2, .inl (G.2.1 0, 60, .inl Fo2)) :: (o3, .inl (G.2.1 1, 60, .inl Fo3)) :: rest) := hD
  obtain ⟨k, hk, rfl⟩ := vp_in_of hc (by decide)
  have ekk : (nI k).toNatClampNeg = k := nI_clamp (by omega)
  refine lv_iconst (v := 0) hx hb d_Or_anyOpenIn_0 (by decide) ?_
  refine lv_istore_n (lv' := [(2, .int 0), (0, .ref o0), (1, .int x)]) hx hb d_Or_anyOpenIn_1 rfl hl (by decide) rfl (fun ls hl => ?_)
  have hsize : ls.size = c.maxLocals := by rw [hml]; exact hl.1
  have loop_2 : ∀ (n : Nat) (i : Nat) (ls : Array Slot), (i + n = k) → (∀ j : Nat, j < i → ¬ (¬ Fo3 j = 0 ∧ Fo1 j / 10 = x)) → lv_has ls 3 [(2, .int (nI i)), (0, .ref o0), (1, .int x)] → W p l e rm_Or_anyOpenIn s m ([.ref o0, .int x].toArray) below meth c s.heap [] 0 0 (mx_E below (px_R (none : Option String) (some (.int (if ∃ j : Nat, j < (nI k).toNatClampNeg ∧ ¬ Fo3 j = 0 ∧ Fo1 j / 10 = x then 1 else 0)))) (px_T (none : Option String)) (fun _ => False) 0 0 ([.ref o0, .int x].toArray) s) (F0 m 2 ls []) := by
    intro n
    induction n with
    | zero =>
      intro i ls hin hno hl
      have hsize : ls.size = c.maxLocals := by rw [hml]; exact hl.1
      refine lv_iload_n hx hb d_Or_anyOpenIn_2 rfl (lv_at hl 0 rfl) ?_
      refine lv_aload_n hx hb d_Or_anyOpenIn_3 rfl (lv_at hl 1 rfl) ?_
      refine va_get (D := G.1) (ci := 2) (v := .int (nI k)) (C := R_Or) (T := F_Or) (N := 4) hx hb (u_Or hC) (fun _ h => h) hown hC.K hP 0 rfl rfl 3 (by decide) (k_Or_22 hC) (fun _ h9 => h9) rfl d_Or_anyOpenIn_4 ?_
      refine lv_icmp_ge (tgt := 40) hx hb d_Or_anyOpenIn_7 (by decide) (fun c_7 => ?_) (fun c_7 => ?_)
      · refine lv_iconst (v := 0) hx hb d_Or_anyOpenIn_40 (by decide) ?_
        exact px_retz hx hb hr hlocks rfl rfl (by rw [if_neg (fun ⟨j, h1, h2⟩ => hno j (by rw [ekk] at h1; omega) h2)]) d_Or_anyOpenIn_41
      · exact absurd (nI_le (by omega) (by omega)) c_7
    | succ n ih =>
      intro i ls hin hno hl
      have hsize : ls.size = c.maxLocals := by rw [hml]; exact hl.1
      have hi : vp_in (nI i) 60 := vp_in_nI (by omega) (by decide)
      have eki : (nI i).toNatClampNeg = i := nI_clamp (by omega)
      refine lv_iload_n hx hb d_Or_anyOpenIn_2 rfl (lv_at hl 0 rfl) ?_
      refine lv_aload_n hx hb d_Or_anyOpenIn_3 rfl (lv_at hl 1 rfl) ?_
      refine va_get (D := G.1) (ci := 2) (v := .int (nI k)) (C := R_Or) (T := F_Or) (N := 4) hx hb (u_Or hC) (fun _ h => h) hown hC.K hP 0 rfl rfl 3 (by decide) (k_Or_22 hC) (fun _ h9 => h9) rfl d_Or_anyOpenIn_4 ?_
      refine lv_icmp_ge (tgt := 40) hx hb d_Or_anyOpenIn_7 (by decide) (fun c_7 => ?_) (fun c_7 => ?_)
      · exact absurd c_7 (nI_ge (by omega) (by omega))
      · refine lv_aload_n hx hb d_Or_anyOpenIn_10 rfl (lv_at hl 1 rfl) ?_
        refine va_get (D := G.1) (ci := 2) (v := .ref o3) (C := R_Or) (T := F_Or) (N := 4) hx hb (u_Or hC) (fun _ h => h) hown hC.K hP 0 rfl rfl 2 (by decide) (k_Or_18 hC) (fun _ h9 => h9) rfl d_Or_anyOpenIn_11 ?_
        refine lv_iload_n hx hb d_Or_anyOpenIn_14 rfl (lv_at hl 0 rfl) ?_
        refine va_zald hx hb hC.K hP 3 1 rfl rfl hi d_Or_anyOpenIn_15 ?_
        refine lv_if_eq (tgt := 34) hx hb d_Or_anyOpenIn_16 (by decide) (fun c_16 => ?_) (fun c_16 => ?_)
        · refine lv_iinc (v := ((nI i) + 1)) (lv' := [(2, .int ((nI i) + 1)), (0, .ref o0), (1, .int x)]) hx hb d_Or_anyOpenIn_34 hl (k := 0) rfl rfl (by decide) rfl (fun ls hl => ?_)
          have hsize : ls.size = c.maxLocals := by rw [hml]; exact hl.1
          refine lv_goto (tgt := 2) hx hb d_Or_anyOpenIn_37 (by decide) ?_
          rw [nI_1] at hl
          exact ih (i + 1) ls (by omega) (fun j hj => by rcases Nat.lt_succ_iff_lt_or_eq.mp hj with h | h; exact hno j h; subst h; rw [eki] at c_16; exact fun q => q.1 c_16) (lv_sub hl [0, 1, 2] rfl)
        · refine lv_aload_n hx hb d_Or_anyOpenIn_19 rfl (lv_at hl 1 rfl) ?_
          refine va_get (D := G.1) (ci := 2) (v := .ref o1) (C := R_Or) (T := F_Or) (N := 4) hx hb (u_Or hC) (fun _ h => h) hown hC.K hP 0 rfl rfl 0 (by decide) (k_Or_9 hC) (fun _ h9 => h9) rfl d_Or_anyOpenIn_20 ?_
          refine lv_iload_n hx hb d_Or_anyOpenIn_23 rfl (lv_at hl 0 rfl) ?_
          refine va_iald hx hb hC.K hP 1 0 rfl rfl hi d_Or_anyOpenIn_24 ?_
          refine lv_bipush (v := 10) hx hb d_Or_anyOpenIn_25 (by decide) ?_
          refine lv_idiv hx hb d_Or_anyOpenIn_27 (by decide) ?_
          refine lv_iload_n hx hb d_Or_anyOpenIn_28 rfl (lv_at hl 2 rfl) ?_
          refine lv_icmp_ne (tgt := 34) hx hb d_Or_anyOpenIn_29 (by decide) (fun c_29 => ?_) (fun c_29 => ?_)
          · refine lv_iinc (v := ((nI i) + 1)) (lv' := [(2, .int ((nI i) + 1)), (0, .ref o0), (1, .int x)]) hx hb d_Or_anyOpenIn_34 hl (k := 0) rfl rfl (by decide) rfl (fun ls hl => ?_)
            have hsize : ls.size = c.maxLocals := by rw [hml]; exact hl.1
            refine lv_goto (tgt := 2) hx hb d_Or_anyOpenIn_37 (by decide) ?_
            rw [nI_1] at hl
            exact ih (i + 1) ls (by omega) (fun j hj => by rcases Nat.lt_succ_iff_lt_or_eq.mp hj with h | h; exact hno j h; subst h; rw [eki] at c_29; exact fun q => c_29 q.2) (lv_sub hl [0, 1, 2] rfl)
          · refine lv_iconst (v := 1) hx hb d_Or_anyOpenIn_32 (by decide) ?_
            exact px_retz hx hb hr hlocks rfl rfl (by rw [if_pos ⟨i, by rw [ekk]; omega, by rw [eki] at c_16; exact c_16, by rw [eki] at c_29; exact c_29⟩]) d_Or_anyOpenIn_33
  exact loop_2 k 0 ls (by omega) (fun j h => absurd h (Nat.not_lt_zero j)) (lv_sub hl [0, 1, 2] rfl)
set_option maxHeartbeats 4000000 in
set_option maxRecDepth 100000 in
theorem c_Ho_sumOfWeights (l : Launch) (hl0 : l.stackTraces = false) (G : GG) (h0 : Nat) (h1 : Nat) (Fh1 : Nat → Int32)  : px l G y_Ho_sumOfWeights cd_Ho_sumOfWeights rm_Ho_sumOfWeights [.ref h0] [(h0, .inr (7, [.ref h1])), (h1, .inl (G.2.1 0, 6, .inl Fh1))] (none : Option String) (some (.int (bx_sum Fh1 6))) := by
  intro rest
  refine mx_of (cc := b_Ho_sumOfWeights) (maxL := 3) (ret := (some .int)) (by decide) rfl ?_
  intro p e s m args below meth c s₁ B hml hE hv
  obtain ⟨rfl, hC, hP, hD⟩ := hv
  have hx := B.exec
  have hb := B.bytes
  have hr := B.returns
  have hlocks := B.notSynchronized
  have hown : s.vm.findClass R_Ho = some m.cls := findClass_of_methodNamed B.named
  have hS : va_S (g_A G) s.heap s.heap [] := va_S.rf
  have hl := lv_entry ([.ref h0]) (n := 3) (Nat.le_of_ble_eq_true rfl)
  rw [lg_entry_eq]
  generalize (lg_sl ([.ref h0]) ++ List.replicate (3 - (lg_sl ([.ref h0])).length) Slot.unset).toArray = ls at hl ⊢
  have hl : lv_has ls 3 [(0, .ref h0)] := hl
  have hsize : ls.size = c.maxLocals := by rw [hml]; exact hl.1
  have hP : va_P G.1 g_cl ((h0, .inr (7, [.ref h1])) :: (h1, .inl (G.2.1 0, 6, .inl Fh1)) :: rest) s.heap := hP
  have hD : va_D (g_A G) ((h0, .inr (7, [.ref h1])) :: (h1, .inl (G.2.1 0, 6, .inl Fh1)) :: rest) := hD
  refine lv_iconst (v := 0) hx hb d_Ho_sumOfWeights_0 (by decide) ?_
  refine lv_istore_n (lv' := [(1, .int 0), (0, .ref h0)]) hx hb d_Ho_sumOfWeights_1 rfl hl (by decide) rfl (fun ls hl => ?_)
  have hsize : ls.size = c.maxLocals := by rw [hml]; exact hl.1
  refine lv_iconst (v := 0) hx hb d_Ho_sumOfWeights_2 (by decide) ?_
  refine lv_istore_n (lv' := [(2, .int 0), (1, .int 0), (0, .ref h0)]) hx hb d_Ho_sumOfWeights_3 rfl hl (by decide) rfl (fun ls hl => ?_)
  have hsize : ls.size = c.maxLocals := by rw [hml]; exact hl.1
  have loop_4 : ∀ (n : Nat) (i : Nat) (ls : Array Slot), (i + n = 6) → lv_has ls 3 [(2, .int (nI i)), (1, .int (bx_sum Fh1 i)), (0, .ref h0)] → W p l e rm_Ho_sumOfWeights s m ([.ref h0].toArray) below meth c s.heap [] 0 0 (mx_E below (px_R (none : Option String) (some (.int (bx_sum Fh1 6)))) (px_T (none : Option String)) (fun _ => False) 0 0 ([.ref h0].toArray) s) (F0 m 4 ls []) := by
    intro n
    induction n with
    | zero =>
      intro i ls hin hl
      have hsize : ls.size = c.maxLocals := by rw [hml]; exact hl.1
      refine lv_iload_n hx hb d_Ho_sumOfWeights_4 rfl (lv_at hl 0 rfl) ?_
      refine lv_bipush (v := 6) hx hb d_Ho_sumOfWeights_5 (by decide) ?_
      refine lv_icmp_ge (tgt := 25) hx hb d_Ho_sumOfWeights_7 (by decide) (fun c_7 => ?_) (fun c_7 => ?_)
      · refine lv_iload_n hx hb d_Ho_sumOfWeights_25 rfl (lv_at hl 1 rfl) ?_
        exact px_reti hx hb hr hlocks rfl (by rw [show i = 6 by omega]) d_Ho_sumOfWeights_26
      · exact absurd (by rw [show i = 6 by omega]; decide) c_7
    | succ n ih =>
      intro i ls hin hl
      have hsize : ls.size = c.maxLocals := by rw [hml]; exact hl.1
      have hi : vp_in (nI i) 6 := vp_in_nI (by omega) (by decide)
      have eki : (nI i).toNatClampNeg = i := nI_clamp (by omega)
      refine lv_iload_n hx hb d_Ho_sumOfWeights_4 rfl (lv_at hl 0 rfl) ?_
      refine lv_bipush (v := 6) hx hb d_Ho_sumOfWeights_5 (by decide) ?_
      refine lv_icmp_ge (tgt := 25) hx hb d_Ho_sumOfWeights_7 (by decide) (fun c_7 => ?_) (fun c_7 => ?_)
      · exact absurd c_7 (le_lit (N := 6) (by decide +kernel) (by omega) (by decide))
      · refine lv_iload_n hx hb d_Ho_sumOfWeights_10 rfl (lv_at hl 1 rfl) ?_
        refine lv_aload_n hx hb d_Ho_sumOfWeights_11 rfl (lv_at hl 2 rfl) ?_
        refine va_get (D := G.1) (ci := 7) (v := .ref h1) (C := R_Ho) (T := F_Ho) (N := 1) hx hb (u_Ho hC) (fun _ h => h) hown hC.K hP 0 rfl rfl 0 (by decide) (k_Ho_9 hC) (fun _ h9 => h9) rfl d_Ho_sumOfWeights_12 ?_
        refine lv_iload_n hx hb d_Ho_sumOfWeights_15 rfl (lv_at hl 0 rfl) ?_
        refine va_iald hx hb hC.K hP 1 0 rfl rfl hi d_Ho_sumOfWeights_16 ?_
        refine lv_iadd hx hb d_Ho_sumOfWeights_17 ?_
        refine lv_istore_n (lv' := [(1, .int ((bx_sum Fh1 i) + (Fh1 (nI i).toNatClampNeg))), (2, .int (nI i)), (0, .ref h0)]) hx hb d_Ho_sumOfWeights_18 rfl hl (by decide) rfl (fun ls hl => ?_)
        have hsize : ls.size = c.maxLocals := by rw [hml]; exact hl.1
        refine lv_iinc (v := ((nI i) + 1)) (lv' := [(2, .int ((nI i) + 1)), (1, .int ((bx_sum Fh1 i) + (Fh1 (nI i).toNatClampNeg))), (0, .ref h0)]) hx hb d_Ho_sumOfWeights_19 hl (k := 1) rfl rfl (by decide) rfl (fun ls hl => ?_)
        have hsize : ls.size = c.maxLocals := by rw [hml]; exact hl.1
        refine lv_goto (tgt := 4) hx hb d_Ho_sumOfWeights_22 (by decide) ?_
        rw [nI_1, eki] at hl
        exact ih (i + 1) ls (by omega) (lv_sub hl [0, 1, 2] rfl)
  exact loop_4 6 0 ls rfl (lv_sub hl [0, 1, 2] rfl)
set_option maxHeartbeats 4000000 in
set_option maxRecDepth 100000 in
theorem c_Ho_roundedPart (l : Launch) (hl0 : l.stackTraces = false) (G : GG) (h0 : Nat) (h1 : Nat) (Fh1 : Nat → Int32) (x : Int32) (y : Int32) (z : Int32) (hi : vp_in x 6) (hz : ¬ z.toInt64 = 0) : px l G y_Ho_roundedPart cd_Ho_roundedPart rm_Ho_roundedPart [.ref h0, .int x, .int y, .int z] [(h0, .inr (7, [.ref h1])), (h1, .inl (G.2.1 0, 6, .inl Fh1))] (none : Option String) (some (.int (((y.toInt64 * (Fh1 x.toNatClampNeg).toInt64) / z.toInt64).toInt32))) := by
  intro rest
  refine mx_of (cc := b_Ho_roundedPart) (maxL := 4) (ret := (some .int)) (by decide) rfl ?_
  intro p e s m args below meth c s₁ B hml hE hv
  obtain ⟨rfl, hC, hP, hD⟩ := hv
  have hx := B.exec
  have hb := B.bytes
  have hr := B.returns
  have hlocks := B.notSynchronized
  have hown : s.vm.findClass R_Ho = some m.cls := findClass_of_methodNamed B.named
  have hS : va_S (g_A G) s.heap s.heap [] := va_S.rf
  have hl := lv_entry ([.ref h0, .int x, .int y, .int z]) (n := 4) (Nat.le_of_ble_eq_true rfl)
  rw [lg_entry_eq]
  generalize (lg_sl ([.ref h0, .int x, .int y, .int z]) ++ List.replicate (4 - (lg_sl ([.ref h0, .int x, .int y, .int z])).length) Slot.unset).toArray = ls at hl ⊢
  have hl : lv_has ls 4 [(0, .ref h0), (1, .int x), (2, .int y), (3, .int z)] := hl
  have hsize : ls.size = c.maxLocals := by rw [hml]; exact hl.1
  have hP : va_P G.1 g_cl ((h0, .inr (7, [.ref h1])) :: (h1, .inl (G.2.1 0, 6, .inl Fh1)) :: rest) s.heap := hP
  have hD : va_D (g_A G) ((h0, .inr (7, [.ref h1])) :: (h1, .inl (G.2.1 0, 6, .inl Fh1)) :: rest) := hD
  refine lv_iload_n hx hb d_Ho_roundedPart_0 rfl (lv_at hl 2 rfl) ?_
  refine lv_i2l hx hb d_Ho_roundedPart_1 rfl ?_
  refine lv_aload_n hx hb d_Ho_roundedPart_2 rfl (lv_at hl 0 rfl) ?_
  refine va_get (D := G.1) (ci := 7) (v := .ref h1) (C := R_Ho) (T := F_Ho) (N := 1) hx hb (u_Ho hC) (fun _ h => h) hown hC.K hP 0 rfl rfl 0 (by decide) (k_Ho_9 hC) (fun _ h9 => h9) rfl d_Ho_roundedPart_3 ?_
  refine lv_iload_n hx hb d_Ho_roundedPart_6 rfl (lv_at hl 1 rfl) ?_
  refine va_iald hx hb hC.K hP 1 0 rfl rfl hi d_Ho_roundedPart_7 ?_
  refine lv_i2l hx hb d_Ho_roundedPart_8 rfl ?_
  refine lv_lmul hx hb d_Ho_roundedPart_9 ?_
  refine lv_iload_n hx hb d_Ho_roundedPart_10 rfl (lv_at hl 3 rfl) ?_
  refine lv_i2l hx hb d_Ho_roundedPart_11 rfl ?_
  refine lv_ldiv hx hb d_Ho_roundedPart_12 hz ?_
  refine lv_l2i hx hb d_Ho_roundedPart_13 rfl ?_
  exact px_reti hx hb hr hlocks rfl rfl d_Ho_roundedPart_14
set_option maxHeartbeats 4000000 in
set_option maxRecDepth 100000 in
theorem c_Ho_remainder (l : Launch) (hl0 : l.stackTraces = false) (G : GG) (h0 : Nat) (h1 : Nat) (Fh1 : Nat → Int32) (x : Int32) (y : Int32) (z : Int32) (hi : vp_in x 6) (hz : ¬ z.toInt64 = 0) : px l G y_Ho_remainder cd_Ho_remainder rm_Ho_remainder [.ref h0, .int x, .int y, .int z] [(h0, .inr (7, [.ref h1])), (h1, .inl (G.2.1 0, 6, .inl Fh1))] (none : Option String) (some (.long ((y.toInt64 * (Fh1 x.toNatClampNeg).toInt64) - (y.toInt64 * (Fh1 x.toNatClampNeg).toInt64) / z.toInt64 * z.toInt64))) := by
  intro rest
  refine mx_of (cc := b_Ho_remainder) (maxL := 4) (ret := (some .long)) (by decide) rfl ?_
  intro p e s m args below meth c s₁ B hml hE hv
  obtain ⟨rfl, hC, hP, hD⟩ := hv
  have hx := B.exec
  have hb := B.bytes
  have hr := B.returns
  have hlocks := B.notSynchronized
  have hown : s.vm.findClass R_Ho = some m.cls := findClass_of_methodNamed B.named
  have hS : va_S (g_A G) s.heap s.heap [] := va_S.rf
  have hl := lv_entry ([.ref h0, .int x, .int y, .int z]) (n := 4) (Nat.le_of_ble_eq_true rfl)
  rw [lg_entry_eq]
  generalize (lg_sl ([.ref h0, .int x, .int y, .int z]) ++ List.replicate (4 - (lg_sl ([.ref h0, .int x, .int y, .int z])).length) Slot.unset).toArray = ls at hl ⊢
  have hl : lv_has ls 4 [(0, .ref h0), (1, .int x), (2, .int y), (3, .int z)] := hl
  have hsize : ls.size = c.maxLocals := by rw [hml]; exact hl.1
  have hP : va_P G.1 g_cl ((h0, .inr (7, [.ref h1])) :: (h1, .inl (G.2.1 0, 6, .inl Fh1)) :: rest) s.heap := hP
  have hD : va_D (g_A G) ((h0, .inr (7, [.ref h1])) :: (h1, .inl (G.2.1 0, 6, .inl Fh1)) :: rest) := hD
  refine lv_iload_n hx hb d_Ho_remainder_0 rfl (lv_at hl 2 rfl) ?_
  refine lv_i2l hx hb d_Ho_remainder_1 rfl ?_
  refine lv_aload_n hx hb d_Ho_remainder_2 rfl (lv_at hl 0 rfl) ?_
  refine va_get (D := G.1) (ci := 7) (v := .ref h1) (C := R_Ho) (T := F_Ho) (N := 1) hx hb (u_Ho hC) (fun _ h => h) hown hC.K hP 0 rfl rfl 0 (by decide) (k_Ho_9 hC) (fun _ h9 => h9) rfl d_Ho_remainder_3 ?_
  refine lv_iload_n hx hb d_Ho_remainder_6 rfl (lv_at hl 1 rfl) ?_
  refine va_iald hx hb hC.K hP 1 0 rfl rfl hi d_Ho_remainder_7 ?_
  refine lv_i2l hx hb d_Ho_remainder_8 rfl ?_
  refine lv_lmul hx hb d_Ho_remainder_9 ?_
  refine lv_iload_n hx hb d_Ho_remainder_10 rfl (lv_at hl 3 rfl) ?_
  refine lv_i2l hx hb d_Ho_remainder_11 rfl ?_
  refine lv_lrem hx hb d_Ho_remainder_12 hz ?_
  exact px_retl hx hb hr hlocks rfl rfl d_Ho_remainder_13
set_option maxHeartbeats 4000000 in
set_option maxRecDepth 100000 in
theorem c_Ho_comesBefore (l : Launch) (hl0 : l.stackTraces = false) (G : GG) (h0 : Nat) (h1 : Nat) (Fh1 : Nat → Int32) (x : Int32) (v : Int32) (y : Int32) (z : Int32) (hi : vp_in x 6) (hj : vp_in v 6) (hz : ¬ z.toInt64 = 0) : px l G y_Ho_comesBefore cd_Ho_comesBefore rm_Ho_comesBefore [.ref h0, .int x, .int v, .int y, .int z] [(h0, .inr (7, [.ref h1])), (h1, .inl (G.2.1 0, 6, .inl Fh1))] (none : Option String) (some (.int (if hp_before Fh1 y z x v then 1 else 0))) := by
  intro rest
  refine mx_of (cc := b_Ho_comesBefore) (maxL := 9) (ret := (some .boolean)) (by decide) rfl ?_
  intro p e s m args below meth c s₁ B hml hE hv
  obtain ⟨rfl, hC, hP, hD⟩ := hv
  have hx := B.exec
  have hb := B.bytes
  have hr := B.returns
  have hlocks := B.notSynchronized
  have hown : s.vm.findClass R_Ho = some m.cls := findClass_of_methodNamed B.named
  have hS : va_S (g_A G) s.heap s.heap [] := va_S.rf
  have hl := lv_entry ([.ref h0, .int x, .int v, .int y, .int z]) (n := 9) (Nat.le_of_ble_eq_true rfl)
  rw [lg_entry_eq]
  generalize (lg_sl ([.ref h0, .int x, .int v, .int y, .int z]) ++ List.replicate (9 - (lg_sl ([.ref h0, .int x, .int v, .int y, .int z])).length) Slot.unset).toArray = ls at hl ⊢
  have hl : lv_has ls 9 [(0, .ref h0), (1, .int x), (2, .int v), (3, .int y), (4, .int z)] := hl
  have hsize : ls.size = c.maxLocals := by rw [hml]; exact hl.1
  have hP : va_P G.1 g_cl ((h0, .inr (7, [.ref h1])) :: (h1, .inl (G.2.1 0, 6, .inl Fh1)) :: rest) s.heap := hP
  have hD : va_D (g_A G) ((h0, .inr (7, [.ref h1])) :: (h1, .inl (G.2.1 0, 6, .inl Fh1)) :: rest) := hD
  refine lv_aload_n hx hb d_Ho_comesBefore_0 rfl (lv_at hl 0 rfl) ?_
  refine lv_iload_n hx hb d_Ho_comesBefore_1 rfl (lv_at hl 1 rfl) ?_
  refine lv_iload_n hx hb d_Ho_comesBefore_2 rfl (lv_at hl 3 rfl) ?_
  refine lv_iload hx hb d_Ho_comesBefore_3 (lv_at hl 4 rfl) ?_
  refine px_callN (ix_V (As := [.int x, .int y, .int z]) (rest := []) hx hb hown (k_Ho_23 hC) (ki_Ho_remainder hC) (kv_Ho_remainder hC) (mx_Is.code (args := #[]) (kc_Ho_remainder hC)) kh_Ho_remainder (va_recv hC.K hP (ci := 7) (q0 := 0) rfl rfl) rfl kp_Ho_remainder rfl d_Ho_comesBefore_5) (c_Ho_remainder l hl0 G h0 h1 Fh1 x y z hi hz) (kc_Ho_remainder hC) rfl (mx_Is.code (args := #[]) (kc_Ho_remainder hC)) (kn_Ho hC) hb hC (hP.sub (ws' := [(h0, .inr (7, [.ref h1])), (h1, .inl (G.2.1 0, 6, .inl Fh1))]) [0, 1] rfl) (hD.sub (ws' := [(h0, .inr (7, [.ref h1])), (h1, .inl (G.2.1 0, 6, .inl Fh1))]) [0, 1] (by decide) rfl) hS (by decide) (by decide) hsize (Nat.le_of_ble_eq_true rfl) d_Ho_comesBefore_5 ?_
  refine W.eq (g2 := F0 m 8 ls [.long ((y.toInt64 * (Fh1 x.toNatClampNeg).toInt64) - (y.toInt64 * (Fh1 x.toNatClampNeg).toInt64) / z.toInt64 * z.toInt64)]) rfl ?_
  refine lv_lstore (lv' := [(5, .long ((y.toInt64 * (Fh1 x.toNatClampNeg).toInt64) - (y.toInt64 * (Fh1 x.toNatClampNeg).toInt64) / z.toInt64 * z.toInt64)), (0, .ref h0), (1, .int x), (2, .int v), (3, .int y), (4, .int z)]) hx hb d_Ho_comesBefore_8 hl (by decide) rfl (fun ls hl => ?_)
  have hsize : ls.size = c.maxLocals := by rw [hml]; exact hl.1
  refine lv_aload_n hx hb d_Ho_comesBefore_10 rfl (lv_at hl 1 rfl) ?_
  refine lv_iload_n hx hb d_Ho_comesBefore_11 rfl (lv_at hl 3 rfl) ?_
  refine lv_iload_n hx hb d_Ho_comesBefore_12 rfl (lv_at hl 4 rfl) ?_
  refine lv_iload hx hb d_Ho_comesBefore_13 (lv_at hl 5 rfl) ?_
  refine px_callN (ix_V (As := [.int v, .int y, .int z]) (rest := []) hx hb hown (k_Ho_23 hC) (ki_Ho_remainder hC) (kv_Ho_remainder hC) (mx_Is.code (args := #[]) (kc_Ho_remainder hC)) kh_Ho_remainder (va_recv hC.K hP (ci := 7) (q0 := 0) rfl rfl) rfl kp_Ho_remainder rfl d_Ho_comesBefore_15) (c_Ho_remainder l hl0 G h0 h1 Fh1 v y z hj hz) (kc_Ho_remainder hC) rfl (mx_Is.code (args := #[]) (kc_Ho_remainder hC)) (kn_Ho hC) hb hC (hP.sub (ws' := [(h0, .inr (7, [.ref h1])), (h1, .inl (G.2.1 0, 6, .inl Fh1))]) [0, 1] rfl) (hD.sub (ws' := [(h0, .inr (7, [.ref h1])), (h1, .inl (G.2.1 0, 6, .inl Fh1))]) [0, 1] (by decide) rfl) hS (by decide) (by decide) hsize (Nat.le_of_ble_eq_true rfl) d_Ho_comesBefore_15 ?_
  refine W.eq (g2 := F0 m 18 ls [.long ((y.toInt64 * (Fh1 v.toNatClampNeg).toInt64) - (y.toInt64 * (Fh1 v.toNatClampNeg).toInt64) / z.toInt64 * z.toInt64)]) rfl ?_
  refine lv_lstore (lv' := [(7, .long ((y.toInt64 * (Fh1 v.toNatClampNeg).toInt64) - (y.toInt64 * (Fh1 v.toNatClampNeg).toInt64) / z.toInt64 * z.toInt64)), (5, .long ((y.toInt64 * (Fh1 x.toNatClampNeg).toInt64) - (y.toInt64 * (Fh1 x.toNatClampNeg).toInt64) / z.toInt64 * z.toInt64)), (0, .ref h0), (1, .int x), (2, .int v), (3, .int y), (4, .int z)]) hx hb d_Ho_comesBefore_18 hl (by decide) rfl (fun ls hl => ?_)
  have hsize : ls.size = c.maxLocals := by rw [hml]; exact hl.1
  refine lv_lload hx hb d_Ho_comesBefore_20 (lv_at hl 1 rfl) ?_
  refine lv_lload hx hb d_Ho_comesBefore_22 (lv_at hl 0 rfl) ?_
  refine W.lcmp hx hb d_Ho_comesBefore_24 ?_
  refine lv_if_gt (tgt := 41) hx hb d_Ho_comesBefore_25 (by decide) (fun c_25 => ?_) (fun c_25 => ?_)
  · rw [lg_cmp_gt] at c_25
    refine lv_iconst (v := 1) hx hb d_Ho_comesBefore_41 (by decide) ?_
    refine lv_goto (tgt := 46) hx hb d_Ho_comesBefore_42 (by decide) ?_
    exact px_retz hx hb hr hlocks rfl rfl (by rw [if_pos (show hp_before Fh1 y z x v from Or.inl c_25)]) d_Ho_comesBefore_46
  · rw [lg_cmp_gt] at c_25
    refine lv_lload hx hb d_Ho_comesBefore_28 (lv_at hl 1 rfl) ?_
    refine lv_lload hx hb d_Ho_comesBefore_30 (lv_at hl 0 rfl) ?_
    refine W.lcmp hx hb d_Ho_comesBefore_32 ?_
    refine lv_if_ne (tgt := 45) hx hb d_Ho_comesBefore_33 (by decide) (fun c_33 => ?_) (fun c_33 => ?_)
    · rw [lg_cmp_eq] at c_33
      refine lv_iconst (v := 0) hx hb d_Ho_comesBefore_45 (by decide) ?_
      exact px_retz hx hb hr hlocks rfl rfl (by rw [if_neg (show ¬ hp_before Fh1 y z x v from fun q => q.elim c_25 (fun r => c_33 r.1))]) d_Ho_comesBefore_46
    · rw [lg_cmp_eq] at c_33
      refine lv_iload_n hx hb d_Ho_comesBefore_36 rfl (lv_at hl 3 rfl) ?_
      refine lv_iload_n hx hb d_Ho_comesBefore_37 rfl (lv_at hl 4 rfl) ?_
      refine lv_icmp_ge (tgt := 45) hx hb d_Ho_comesBefore_38 (by decide) (fun c_38 => ?_) (fun c_38 => ?_)
      · refine lv_iconst (v := 0) hx hb d_Ho_comesBefore_45 (by decide) ?_
        exact px_retz hx hb hr hlocks rfl rfl (by rw [if_neg (show ¬ hp_before Fh1 y z x v from fun q => q.elim c_25 (fun r => absurd r.2 (Int32.not_lt.mpr c_38)))]) d_Ho_comesBefore_46
      · refine lv_iconst (v := 1) hx hb d_Ho_comesBefore_41 (by decide) ?_
        refine lv_goto (tgt := 46) hx hb d_Ho_comesBefore_42 (by decide) ?_
        exact px_retz hx hb hr hlocks rfl rfl (by rw [if_pos (show hp_before Fh1 y z x v from Or.inr ⟨c_33, Int32.not_le.mp c_38⟩)]) d_Ho_comesBefore_46
set_option maxHeartbeats 4000000 in
set_option maxRecDepth 100000 in
theorem c_Ho_partOf (l : Launch) (hl0 : l.stackTraces = false) (G : GG) (h0 : Nat) (h1 : Nat) (Fh1 : Nat → Int32) (x : Int32) (y : Int32) (z : Int32) (hi : vp_in x 6) (hz : ¬ z.toInt64 = 0) : px l G y_Ho_partOf cd_Ho_partOf rm_Ho_partOf [.ref h0, .int x, .int y, .int z] [(h0, .inr (7, [.ref h1])), (h1, .inl (G.2.1 0, 6, .inl Fh1))] (none : Option String) (some (.int (hp_part Fh1 y z x))) := by
  intro rest
  refine mx_of (cc := b_Ho_partOf) (maxL := 7) (ret := (some .int)) (by decide) rfl ?_
  intro p e s m args below meth c s₁ B hml hE hv
  obtain ⟨rfl, hC, hP, hD⟩ := hv
  have hx := B.exec
  have hb := B.bytes
  have hr := B.returns
  have hlocks := B.notSynchronized
  have hown : s.vm.findClass R_Ho = some m.cls := findClass_of_methodNamed B.named
  have hS : va_S (g_A G) s.heap s.heap [] := va_S.rf
  have hl := lv_entry ([.ref h0, .int x, .int y, .int z]) (n := 7) (Nat.le_of_ble_eq_true rfl)
  rw [lg_entry_eq]
  generalize (lg_sl ([.ref h0, .int x, .int y, .int z]) ++ List.replicate (7 - (lg_sl ([.ref h0, .int x, .int y, .int z])).length) Slot.unset).toArray = ls at hl ⊢
  have hl : lv_has ls 7 [(0, .ref h0), (1, .int x), (2, .int y), (3, .int z)] := hl
  have hsize : ls.size = c.maxLocals := by rw [hml]; exact hl.1
  have hP : va_P G.1 g_cl ((h0, .inr (7, [.ref h1])) :: (h1, .inl (G.2.1 0, 6, .inl Fh1)) :: rest) s.heap := hP
  have hD : va_D (g_A G) ((h0, .inr (7, [.ref h1])) :: (h1, .inl (G.2.1 0, 6, .inl Fh1)) :: rest) := hD
  refine lv_iload_n hx hb d_Ho_partOf_0 rfl (lv_at hl 2 rfl) ?_
  refine lv_istore (lv' := [(4, .int y), (0, .ref h0), (1, .int x), (2, .int y), (3, .int z)]) hx hb d_Ho_partOf_1 hl (by decide) rfl (fun ls hl => ?_)
  have hsize : ls.size = c.maxLocals := by rw [hml]; exact hl.1
  refine lv_iconst (v := 0) hx hb d_Ho_partOf_3 (by decide) ?_
  refine lv_istore (lv' := [(5, .int 0), (4, .int y), (0, .ref h0), (1, .int x), (2, .int y), (3, .int z)]) hx hb d_Ho_partOf_4 hl (by decide) rfl (fun ls hl => ?_)
  have hsize : ls.size = c.maxLocals := by rw [hml]; exact hl.1
  refine lv_iconst (v := 0) hx hb d_Ho_partOf_6 (by decide) ?_
  refine lv_istore (lv' := [(6, .int 0), (5, .int 0), (4, .int y), (0, .ref h0), (1, .int x), (2, .int y), (3, .int z)]) hx hb d_Ho_partOf_7 hl (by decide) rfl (fun ls hl => ?_)
  have hsize : ls.size = c.maxLocals := by rw [hml]; exact hl.1
  have loop_9 : ∀ (n : Nat) (i : Nat) (ls : Array Slot), (i + n = 6) → lv_has ls 7 [(6, .int (nI i)), (5, .int (hp_cnt Fh1 y z x i)), (4, .int (hp_left Fh1 y z i)), (0, .ref h0), (1, .int x), (2, .int y), (3, .int z)] → W p l e rm_Ho_partOf s m ([.ref h0, .int x, .int y, .int z].toArray) below meth c s.heap [] 0 0 (mx_E below (px_R (none : Option String) (some (.int (hp_part Fh1 y z x)))) (px_T (none : Option String)) (fun _ => False) 0 0 ([.ref h0, .int x, .int y, .int z].toArray) s) (F0 m 9 ls []) := by
    intro n
    induction n with
    | zero =>
      intro i ls hin hl
      have hsize : ls.size = c.maxLocals := by rw [hml]; exact hl.1
      obtain ei : i = 6 := by omega
      refine lv_iload hx hb d_Ho_partOf_9 (lv_at hl 0 rfl) ?_
      refine lv_bipush (v := 6) hx hb d_Ho_partOf_11 (by decide) ?_
      refine lv_icmp_ge (tgt := 50) hx hb d_Ho_partOf_13 (by decide) (fun c_13 => ?_) (fun c_13 => ?_)
      · refine lv_aload_n hx hb d_Ho_partOf_50 rfl (lv_at hl 3 rfl) ?_
        refine lv_iload_n hx hb d_Ho_partOf_51 rfl (lv_at hl 4 rfl) ?_
        refine lv_iload_n hx hb d_Ho_partOf_52 rfl (lv_at hl 5 rfl) ?_
        refine lv_iload_n hx hb d_Ho_partOf_53 rfl (lv_at hl 6 rfl) ?_
        refine px_callN (ix_V (As := [.int x, .int y, .int z]) (rest := []) hx hb hown (k_Ho_15 hC) (ki_Ho_roundedPart hC) (kv_Ho_roundedPart hC) (mx_Is.code (args := #[]) (kc_Ho_roundedPart hC)) kh_Ho_roundedPart (va_recv hC.K hP (ci := 7) (q0 := 0) rfl rfl) rfl kp_Ho_roundedPart rfl d_Ho_partOf_54) (c_Ho_roundedPart l hl0 G h0 h1 Fh1 x y z hi hz) (kc_Ho_roundedPart hC) rfl (mx_Is.code (args := #[]) (kc_Ho_roundedPart hC)) (kn_Ho hC) hb hC (hP.sub (ws' := [(h0, .inr (7, [.ref h1])), (h1, .inl (G.2.1 0, 6, .inl Fh1))]) [0, 1] rfl) (hD.sub (ws' := [(h0, .inr (7, [.ref h1])), (h1, .inl (G.2.1 0, 6, .inl Fh1))]) [0, 1] (by decide) rfl) hS (by decide) (by decide) hsize (Nat.le_of_ble_eq_true rfl) d_Ho_partOf_54 ?_
        refine W.eq (g2 := F0 m 57 ls [.int (((y.toInt64 * (Fh1 x.toNatClampNeg).toInt64) / z.toInt64).toInt32)]) rfl ?_
        refine lv_istore (lv' := [(6, .int (((y.toInt64 * (Fh1 x.toNatClampNeg).toInt64) / z.toInt64).toInt32)), (5, .int (hp_cnt Fh1 y z x i)), (4, .int (hp_left Fh1 y z i)), (0, .ref h0), (1, .int x), (2, .int y), (3, .int z)]) hx hb d_Ho_partOf_57 hl (by decide) rfl (fun ls hl => ?_)
        have hsize : ls.size = c.maxLocals := by rw [hml]; exact hl.1
        refine lv_iload hx hb d_Ho_partOf_59 (lv_at hl 1 rfl) ?_
        refine lv_iload hx hb d_Ho_partOf_61 (lv_at hl 2 rfl) ?_
        refine lv_icmp_ge (tgt := 73) hx hb d_Ho_partOf_63 (by decide) (fun c_63 => ?_) (fun c_63 => ?_)
        · refine lv_iload hx hb d_Ho_partOf_73 (lv_at hl 0 rfl) ?_
          exact px_reti hx hb hr hlocks rfl (by rw [ei] at c_63; rw [hp_part]; first | (rw [if_pos (Int32.not_le.mp c_63)]; rfl) | (rw [if_neg (Int32.not_lt.mpr c_63)]; rfl)) d_Ho_partOf_75
        · refine lv_iload hx hb d_Ho_partOf_66 (lv_at hl 0 rfl) ?_
          refine lv_iconst (v := 1) hx hb d_Ho_partOf_68 (by decide) ?_
          refine lv_iadd hx hb d_Ho_partOf_69 ?_
          refine lv_goto (tgt := 75) hx hb d_Ho_partOf_70 (by decide) ?_
          exact px_reti hx hb hr hlocks rfl (by rw [ei] at c_63; rw [hp_part]; first | (rw [if_pos (Int32.not_le.mp c_63)]; rfl) | (rw [if_neg (Int32.not_lt.mpr c_63)]; rfl)) d_Ho_partOf_75
      · exact absurd (by rw [show i = 6 by omega]; decide) c_13
    | succ n ih =>
      intro i ls hin hl
      have hsize : ls.size = c.maxLocals := by rw [hml]; exact hl.1
      have hii : vp_in (nI i) 6 := vp_in_nI (by omega) (by decide)
      have eki : (nI i).toNatClampNeg = i := nI_clamp (by omega)
      refine lv_iload hx hb d_Ho_partOf_9 (lv_at hl 0 rfl) ?_
      refine lv_bipush (v := 6) hx hb d_Ho_partOf_11 (by decide) ?_
      refine lv_icmp_ge (tgt := 50) hx hb d_Ho_partOf_13 (by decide) (fun c_13 => ?_) (fun c_13 => ?_)
      · exact absurd c_13 (le_lit (N := 6) (by decide +kernel) (by omega) (by decide))
      · refine lv_iload hx hb d_Ho_partOf_16 (lv_at hl 2 rfl) ?_
        refine lv_aload_n hx hb d_Ho_partOf_18 rfl (lv_at hl 3 rfl) ?_
        refine lv_iload hx hb d_Ho_partOf_19 (lv_at hl 0 rfl) ?_
        refine lv_iload_n hx hb d_Ho_partOf_21 rfl (lv_at hl 5 rfl) ?_
        refine lv_iload_n hx hb d_Ho_partOf_22 rfl (lv_at hl 6 rfl) ?_
        refine px_callN (ix_V (As := [.int (nI i), .int y, .int z]) (rest := [.int (hp_left Fh1 y z i)]) hx hb hown (k_Ho_15 hC) (ki_Ho_roundedPart hC) (kv_Ho_roundedPart hC) (mx_Is.code (args := #[]) (kc_Ho_roundedPart hC)) kh_Ho_roundedPart (va_recv hC.K hP (ci := 7) (q0 := 0) rfl rfl) rfl kp_Ho_roundedPart rfl d_Ho_partOf_23) (c_Ho_roundedPart l hl0 G h0 h1 Fh1 (nI i) y z hii hz) (kc_Ho_roundedPart hC) rfl (mx_Is.code (args := #[]) (kc_Ho_roundedPart hC)) (kn_Ho hC) hb hC (hP.sub (ws' := [(h0, .inr (7, [.ref h1])), (h1, .inl (G.2.1 0, 6, .inl Fh1))]) [0, 1] rfl) (hD.sub (ws' := [(h0, .inr (7, [.ref h1])), (h1, .inl (G.2.1 0, 6, .inl Fh1))]) [0, 1] (by decide) rfl) hS (by decide) (by decide) hsize (Nat.le_of_ble_eq_true rfl) d_Ho_partOf_23 ?_
        refine W.eq (g2 := F0 m 26 ls [.int (((y.toInt64 * (Fh1 (nI i).toNatClampNeg).toInt64) / z.toInt64).toInt32), .int (hp_left Fh1 y z i)]) rfl ?_
        refine lv_isub hx hb d_Ho_partOf_26 ?_
        refine lv_istore (lv' := [(4, .int ((hp_left Fh1 y z i) - ((y.toInt64 * (Fh1 (nI i).toNatClampNeg).toInt64) / z.toInt64).toInt32)), (6, .int (nI i)), (5, .int (hp_cnt Fh1 y z x i)), (0, .ref h0), (1, .int x), (2, .int y), (3, .int z)]) hx hb d_Ho_partOf_27 hl (by decide) rfl (fun ls hl => ?_)
        have hsize : ls.size = c.maxLocals := by rw [hml]; exact hl.1
        refine lv_aload_n hx hb d_Ho_partOf_29 rfl (lv_at hl 3 rfl) ?_
        refine lv_iload hx hb d_Ho_partOf_30 (lv_at hl 1 rfl) ?_
        refine lv_iload_n hx hb d_Ho_partOf_32 rfl (lv_at hl 4 rfl) ?_
        refine lv_iload_n hx hb d_Ho_partOf_33 rfl (lv_at hl 5 rfl) ?_
        refine lv_iload_n hx hb d_Ho_partOf_34 rfl (lv_at hl 6 rfl) ?_
        refine px_callN (ix_V (As := [.int (nI i), .int x, .int y, .int z]) (rest := []) hx hb hown (k_Ho_19 hC) (ki_Ho_comesBefore hC) (kv_Ho_comesBefore hC) (mx_Is.code (args := #[]) (kc_Ho_comesBefore hC)) kh_Ho_comesBefore (va_recv hC.K hP (ci := 7) (q0 := 0) rfl rfl) rfl kp_Ho_comesBefore rfl d_Ho_partOf_35) (c_Ho_comesBefore l hl0 G h0 h1 Fh1 (nI i) x y z hii hi hz) (kc_Ho_comesBefore hC) rfl (mx_Is.code (args := #[]) (kc_Ho_comesBefore hC)) (kn_Ho hC) hb hC (hP.sub (ws' := [(h0, .inr (7, [.ref h1])), (h1, .inl (G.2.1 0, 6, .inl Fh1))]) [0, 1] rfl) (hD.sub (ws' := [(h0, .inr (7, [.ref h1])), (h1, .inl (G.2.1 0, 6, .inl Fh1))]) [0, 1] (by decide) rfl) hS (by decide) (by decide) hsize (Nat.le_of_ble_eq_true rfl) d_Ho_partOf_35 ?_
        by_cases b_35 : hp_before Fh1 y z (nI i) x
        · rw [if_pos b_35]
          refine W.eq (g2 := F0 m 38 ls [.int 1]) rfl ?_
          refine lv_if_eq (tgt := 44) hx hb d_Ho_partOf_38 (by decide) (fun c_38 => absurd c_38 (by decide)) (fun _ => ?_)
          refine lv_iinc (v := ((hp_cnt Fh1 y z x i) + 1)) (lv' := [(5, .int ((hp_cnt Fh1 y z x i) + 1)), (4, .int ((hp_left Fh1 y z i) - ((y.toInt64 * (Fh1 (nI i).toNatClampNeg).toInt64) / z.toInt64).toInt32)), (6, .int (nI i)), (0, .ref h0), (1, .int x), (2, .int y), (3, .int z)]) hx hb d_Ho_partOf_41 hl (k := 2) rfl rfl (by decide) rfl (fun ls hl => ?_)
          have hsize : ls.size = c.maxLocals := by rw [hml]; exact hl.1
          refine lv_iinc (v := ((nI i) + 1)) (lv' := [(6, .int ((nI i) + 1)), (5, .int ((hp_cnt Fh1 y z x i) + 1)), (4, .int ((hp_left Fh1 y z i) - ((y.toInt64 * (Fh1 (nI i).toNatClampNeg).toInt64) / z.toInt64).toInt32)), (0, .ref h0), (1, .int x), (2, .int y), (3, .int z)]) hx hb d_Ho_partOf_44 hl (k := 2) rfl rfl (by decide) rfl (fun ls hl => ?_)
          have hsize : ls.size = c.maxLocals := by rw [hml]; exact hl.1
          refine lv_goto (tgt := 9) hx hb d_Ho_partOf_47 (by decide) ?_
          rw [nI_1] at hl
          have hl := lv_sub hl [0, 1, 2, 3, 4, 5, 6] rfl
          have e5 : ((hp_cnt Fh1 y z x i) + 1) = hp_cnt Fh1 y z x (i + 1) := by rw [hp_cnt, if_pos b_35]
          have e4 : ((hp_left Fh1 y z i) - ((y.toInt64 * (Fh1 (nI i).toNatClampNeg).toInt64) / z.toInt64).toInt32) = hp_left Fh1 y z (i + 1) := by rw [eki]; rfl
          rw [e5, e4] at hl
          exact ih (i + 1) ls (by omega) (lv_sub hl [0, 1, 2, 3, 4, 5, 6] rfl)
        · rw [if_neg b_35]
          refine W.eq (g2 := F0 m 38 ls [.int 0]) rfl ?_
          refine lv_if_eq (tgt := 44) hx hb d_Ho_partOf_38 (by decide) (fun _ => ?_) (fun c_38 => absurd c_38 (by decide))
          refine lv_iinc (v := ((nI i) + 1)) (lv' := [(6, .int ((nI i) + 1)), (4, .int ((hp_left Fh1 y z i) - ((y.toInt64 * (Fh1 (nI i).toNatClampNeg).toInt64) / z.toInt64).toInt32)), (5, .int (hp_cnt Fh1 y z x i)), (0, .ref h0), (1, .int x), (2, .int y), (3, .int z)]) hx hb d_Ho_partOf_44 hl (k := 1) rfl rfl (by decide) rfl (fun ls hl => ?_)
          have hsize : ls.size = c.maxLocals := by rw [hml]; exact hl.1
          refine lv_goto (tgt := 9) hx hb d_Ho_partOf_47 (by decide) ?_
          rw [nI_1] at hl
          have hl := lv_sub hl [0, 2, 1, 3, 4, 5, 6] rfl
          have e5 : (hp_cnt Fh1 y z x i) = hp_cnt Fh1 y z x (i + 1) := by rw [hp_cnt, if_neg b_35]
          have e4 : ((hp_left Fh1 y z i) - ((y.toInt64 * (Fh1 (nI i).toNatClampNeg).toInt64) / z.toInt64).toInt32) = hp_left Fh1 y z (i + 1) := by rw [eki]; rfl
          rw [e5, e4] at hl
          exact ih (i + 1) ls (by omega) (lv_sub hl [0, 1, 2, 3, 4, 5, 6] rfl)
  exact loop_9 6 0 ls rfl (lv_sub hl [0, 1, 2, 3, 4, 5, 6] rfl)
set_option maxHeartbeats 4000000 in
set_option maxRecDepth 100000 in
theorem c_Le_sumOfRows (l : Launch) (hl0 : l.stackTraces = false) (G : GG) (e0 : Nat) (e1 : Nat) (e2 : Nat) (e3 : Nat) (Fe1 : Nat → Int64) (Fe2 : Nat → Int32) (Fe3 : Nat → Int32) (Se4 : Int32) (hc : vp_in Se4 9) : px l G y_Le_sumOfRows cd_Le_sumOfRows rm_Le_sumOfRows [.ref e0] [(e0, .inr (9, [.ref e1, .ref e2, .ref e3, .int Se4])), (e1, .inl (G.2.1 2, 50, .inr (.inl Fe1))), (e2, .inl (G.2.1 0, 8, .inl Fe2)), (e3, .inl (G.2.1 0, 8, .inl Fe3))] (none : Option String) (some (.int (bx_sum Fe3 Se4.toNatClampNeg))) := by
  intro rest
  refine mx_of (cc := b_Le_sumOfRows) (maxL := 3) (ret := (some .int)) (by decide) rfl ?_
  intro p e s m args below meth c s₁ B hml hE hv
  obtain ⟨rfl, hC, hP, hD⟩ := hv
  have hx := B.exec
  have hb := B.bytes
  have hr := B.returns
  have hlocks := B.notSynchronized
  have hown : s.vm.findClass R_Le = some m.cls := findClass_of_methodNamed B.named
  have hS : va_S (g_A G) s.heap s.heap [] := va_S.rf
  have hl := lv_entry ([.ref e0]) (n := 3) (Nat.le_of_ble_eq_true rfl)
  rw [lg_entry_eq]
  generalize (lg_sl ([.ref e0]) ++ List.replicate (3 - (lg_sl ([.ref e0])).length) Slot.unset).toArray = ls at hl ⊢
  have hl : lv_has ls 3 [(0, .ref e0)] := hl
  have hsize : ls.size = c.maxLocals := by rw [hml]; exact hl.1
  have hP : va_P G.1 g_cl ((e0, .inr (9, [.ref e1, .ref e2, .ref e3, .int Se4])) :: (e1, .inl (G.2.1 2, 50, .inr (.inl Fe1))) :: (e2, .inl (G.2.1 0, 8, .inl Fe2)) :: (e3, .inl (G.2.1 0, 8, .inl Fe3)) :: rest) s.heap := hP
  have hD : va_D (g_A G) ((e0, .inr (9, [.ref e1, .ref e2, .ref e3, .int Se4])) :: (e1, .inl (G.2.1 2, 50, .inr (.inl Fe1))) :: (e2, .inl (G.2.1 0, 8, .inl Fe2)) :: (e3, .inl (G.2.1 0, 8, .inl Fe3)) :: rest) := hD
  obtain ⟨k, hk, rfl⟩ := vp_in_of hc (by decide)
  have ekk : (nI k).toNatClampNeg = k := nI_clamp (by omega)
  refine lv_iconst (v := 0) hx hb d_Le_sumOfRows_0 (by decide) ?_
  refine lv_istore_n (lv' := [(1, .int 0), (0, .ref e0)]) hx hb d_Le_sumOfRows_1 rfl hl (by decide) rfl (fun ls hl => ?_)
  have hsize : ls.size = c.maxLocals := by rw [hml]; exact hl.1
  refine lv_iconst (v := 0) hx hb d_Le_sumOfRows_2 (by decide) ?_
  refine lv_istore_n (lv' := [(2, .int 0), (1, .int 0), (0, .ref e0)]) hx hb d_Le_sumOfRows_3 rfl hl (by decide) rfl (fun ls hl => ?_)
  have hsize : ls.size = c.maxLocals := by rw [hml]; exact hl.1
  have loop_4 : ∀ (n : Nat) (i : Nat) (ls : Array Slot), (i + n = k) → lv_has ls 3 [(2, .int (nI i)), (1, .int (bx_sum Fe3 i)), (0, .ref e0)] → W p l e rm_Le_sumOfRows s m ([.ref e0].toArray) below meth c s.heap [] 0 0 (mx_E below (px_R (none : Option String) (some (.int (bx_sum Fe3 (nI k).toNatClampNeg)))) (px_T (none : Option String)) (fun _ => False) 0 0 ([.ref e0].toArray) s) (F0 m 4 ls []) := by
    intro n
    induction n with
    | zero =>
      intro i ls hin hl
      have hsize : ls.size = c.maxLocals := by rw [hml]; exact hl.1
      refine lv_iload_n hx hb d_Le_sumOfRows_4 rfl (lv_at hl 0 rfl) ?_
      refine lv_aload_n hx hb d_Le_sumOfRows_5 rfl (lv_at hl 2 rfl) ?_
      refine va_get (D := G.1) (ci := 9) (v := .int (nI k)) (C := R_Le) (T := F_Le) (N := 4) hx hb (u_Le hC) (fun _ h => h) hown hC.K hP 0 rfl rfl 3 (by decide) (k_Le_22 hC) (fun _ h9 => h9) rfl d_Le_sumOfRows_6 ?_
      refine lv_icmp_ge (tgt := 27) hx hb d_Le_sumOfRows_9 (by decide) (fun c_9 => ?_) (fun c_9 => ?_)
      · refine lv_iload_n hx hb d_Le_sumOfRows_27 rfl (lv_at hl 1 rfl) ?_
        exact px_reti hx hb hr hlocks rfl (by rw [ekk, show i = k by omega]) d_Le_sumOfRows_28
      · exact absurd (nI_le (by omega) (by omega)) c_9
    | succ n ih =>
      intro i ls hin hl
      have hsize : ls.size = c.maxLocals := by rw [hml]; exact hl.1
      have hi : vp_in (nI i) 8 := vp_in_nI (by omega) (by decide)
      have eki : (nI i).toNatClampNeg = i := nI_clamp (by omega)
      refine lv_iload_n hx hb d_Le_sumOfRows_4 rfl (lv_at hl 0 rfl) ?_
      refine lv_aload_n hx hb d_Le_sumOfRows_5 rfl (lv_at hl 2 rfl) ?_
      refine va_get (D := G.1) (ci := 9) (v := .int (nI k)) (C := R_Le) (T := F_Le) (N := 4) hx hb (u_Le hC) (fun _ h => h) hown hC.K hP 0 rfl rfl 3 (by decide) (k_Le_22 hC) (fun _ h9 => h9) rfl d_Le_sumOfRows_6 ?_
      refine lv_icmp_ge (tgt := 27) hx hb d_Le_sumOfRows_9 (by decide) (fun c_9 => ?_) (fun c_9 => ?_)
      · exact absurd c_9 (nI_ge (by omega) (by omega))
      · refine lv_iload_n hx hb d_Le_sumOfRows_12 rfl (lv_at hl 1 rfl) ?_
        refine lv_aload_n hx hb d_Le_sumOfRows_13 rfl (lv_at hl 2 rfl) ?_
        refine va_get (D := G.1) (ci := 9) (v := .ref e3) (C := R_Le) (T := F_Le) (N := 4) hx hb (u_Le hC) (fun _ h => h) hown hC.K hP 0 rfl rfl 2 (by decide) (k_Le_19 hC) (fun _ h9 => h9) rfl d_Le_sumOfRows_14 ?_
        refine lv_iload_n hx hb d_Le_sumOfRows_17 rfl (lv_at hl 0 rfl) ?_
        refine va_iald hx hb hC.K hP 3 0 rfl rfl hi d_Le_sumOfRows_18 ?_
        refine lv_iadd hx hb d_Le_sumOfRows_19 ?_
        refine lv_istore_n (lv' := [(1, .int ((bx_sum Fe3 i) + (Fe3 (nI i).toNatClampNeg))), (2, .int (nI i)), (0, .ref e0)]) hx hb d_Le_sumOfRows_20 rfl hl (by decide) rfl (fun ls hl => ?_)
        have hsize : ls.size = c.maxLocals := by rw [hml]; exact hl.1
        refine lv_iinc (v := ((nI i) + 1)) (lv' := [(2, .int ((nI i) + 1)), (1, .int ((bx_sum Fe3 i) + (Fe3 (nI i).toNatClampNeg))), (0, .ref e0)]) hx hb d_Le_sumOfRows_21 hl (k := 1) rfl rfl (by decide) rfl (fun ls hl => ?_)
        have hsize : ls.size = c.maxLocals := by rw [hml]; exact hl.1
        refine lv_goto (tgt := 4) hx hb d_Le_sumOfRows_24 (by decide) ?_
        rw [nI_1, eki] at hl
        exact ih (i + 1) ls (by omega) (lv_sub hl [0, 1, 2] rfl)
  exact loop_4 k 0 ls (by omega) (lv_sub hl [0, 1, 2] rfl)
set_option maxHeartbeats 4000000 in
set_option maxRecDepth 100000 in
theorem c_Le_bookRows (l : Launch) (hl0 : l.stackTraces = false) (G : GG) (e0 : Nat) (e1 : Nat) (e2 : Nat) (e3 : Nat) (Fe1 : Nat → Int64) (Fe2 : Nat → Int32) (Fe3 : Nat → Int32) (Se4 : Int32) (x : Int32) (hc : vp_in Se4 9) (hx5 : vp_in x 5) (ha : ∀ j : Nat, vp_in (Fe2 j) 10) : gx l G y_Le_bookRows cd_Le_bookRows rm_Le_bookRows [.ref e0, .int x] [(e0, .inr (9, [.ref e1, .ref e2, .ref e3, .int Se4])), (e1, .inl (G.2.1 2, 50, .inr (.inl Fe1))), (e2, .inl (G.2.1 0, 8, .inl Fe2)), (e3, .inl (G.2.1 0, 8, .inl Fe3))] (fun v w' => (none : Option String) = none ∧ v = none ∧ w' = [(e0, .inr (9, [.ref e1, .ref e2, .ref e3, .int Se4])), (e1, .inl (G.2.1 2, 50, .inr (.inl (bk_all Fe2 Fe3 x Fe1 Se4.toNatClampNeg)))), (e2, .inl (G.2.1 0, 8, .inl Fe2)), (e3, .inl (G.2.1 0, 8, .inl Fe3))]) (fun E w' => (none : Option String) = some E ∧ w' = [(e0, .inr (9, [.ref e1, .ref e2, .ref e3, .int Se4])), (e1, .inl (G.2.1 2, 50, .inr (.inl Fe1))), (e2, .inl (G.2.1 0, 8, .inl Fe2)), (e3, .inl (G.2.1 0, 8, .inl Fe3))]) 0 0 := by
  intro rest
  refine mx_of (cc := b_Le_bookRows) (maxL := 3) (ret := none) (by decide) rfl ?_
  intro p e s m args below meth c s₁ B hml hE hv
  obtain ⟨rfl, hC, hP, hD⟩ := hv
  have hx := B.exec
  have hb := B.bytes
  have hr := B.returns
  have hlocks := B.notSynchronized
  have hown : s.vm.findClass R_Le = some m.cls := findClass_of_methodNamed B.named
  have hS : va_S (g_A G) s.heap s.heap [] := va_S.rf
  have hl := lv_entry ([.ref e0, .int x]) (n := 3) (Nat.le_of_ble_eq_true rfl)
  rw [lg_entry_eq]
  generalize (lg_sl ([.ref e0, .int x]) ++ List.replicate (3 - (lg_sl ([.ref e0, .int x])).length) Slot.unset).toArray = ls at hl ⊢
  have hl : lv_has ls 3 [(0, .ref e0), (1, .int x)] := hl
  have hsize : ls.size = c.maxLocals := by rw [hml]; exact hl.1
  have hP : va_P G.1 g_cl ((e0, .inr (9, [.ref e1, .ref e2, .ref e3, .int Se4])) :: (e1, .inl (G.2.1 2, 50, .inr (.inl Fe1))) :: (e2, .inl (G.2.1 0, 8, .inl Fe2)) :: (e3, .inl (G.2.1 0, 8, .inl Fe3)) :: rest) s.heap := hP
  have hD : va_D (g_A G) ((e0, .inr (9, [.ref e1, .ref e2, .ref e3, .int Se4])) :: (e1, .inl (G.2.1 2, 50, .inr (.inl Fe1))) :: (e2, .inl (G.2.1 0, 8, .inl Fe2)) :: (e3, .inl (G.2.1 0, 8, .inl Fe3)) :: rest) := hD
  obtain ⟨k, hk, rfl⟩ := vp_in_of hc (by decide)
  have ekk : (nI k).toNatClampNeg = k := nI_clamp (by omega)
  refine lv_iconst (v := 0) hx hb d_Le_bookRows_0 (by decide) ?_
  refine lv_istore_n (lv' := [(2, .int 0), (0, .ref e0), (1, .int x)]) hx hb d_Le_bookRows_1 rfl hl (by decide) rfl (fun ls hl => ?_)
  have hsize : ls.size = c.maxLocals := by rw [hml]; exact hl.1
  have loop_2 : ∀ (n : Nat) (i : Nat) (f : Nat → Int64) (ls : Array Slot) (H : Heap) (locs : List Loc), (i + n = k) → (f = bk_all Fe2 Fe3 x Fe1 i) → lv_has ls 3 [(2, .int (nI i)), (0, .ref e0), (1, .int x)] → va_P G.1 g_cl ((e0, .inr (9, [.ref e1, .ref e2, .ref e3, .int (nI k)])) :: (e1, .inl (G.2.1 2, 50, .inr (.inl f))) :: (e2, .inl (G.2.1 0, 8, .inl Fe2)) :: (e3, .inl (G.2.1 0, 8, .inl Fe3)) :: rest) H → va_D (g_A G) ((e0, .inr (9, [.ref e1, .ref e2, .ref e3, .int (nI k)])) :: (e1, .inl (G.2.1 2, 50, .inr (.inl f))) :: (e2, .inl (G.2.1 0, 8, .inl Fe2)) :: (e3, .inl (G.2.1 0, 8, .inl Fe3)) :: rest) → va_S (g_A G) s.heap H locs → W p l e rm_Le_bookRows s m ([.ref e0, .int x].toArray) below meth c H locs 0 0 (mx_E below (gx_R G rest (fun v w' => (none : Option String) = none ∧ v = none ∧ w' = [(e0, .inr (9, [.ref e1, .ref e2, .ref e3, .int (nI k)])), (e1, .inl (G.2.1 2, 50, .inr (.inl (bk_all Fe2 Fe3 x Fe1 (nI k).toNatClampNeg)))), (e2, .inl (G.2.1 0, 8, .inl Fe2)), (e3, .inl (G.2.1 0, 8, .inl Fe3))])) (gx_T G rest (fun E w' => (none : Option String) = some E ∧ w' = [(e0, .inr (9, [.ref e1, .ref e2, .ref e3, .int (nI k)])), (e1, .inl (G.2.1 2, 50, .inr (.inl Fe1))), (e2, .inl (G.2.1 0, 8, .inl Fe2)), (e3, .inl (G.2.1 0, 8, .inl Fe3))])) (g_A G) 0 0 ([.ref e0, .int x].toArray) s) (F0 m 2 ls []) := by
    intro n
    induction n with
    | zero =>
      intro i f ls H locs hin hf hl hP hD hS
      have hsize : ls.size = c.maxLocals := by rw [hml]; exact hl.1
      refine lv_iload_n hx hb d_Le_bookRows_2 rfl (lv_at hl 0 rfl) ?_
      refine lv_aload_n hx hb d_Le_bookRows_3 rfl (lv_at hl 1 rfl) ?_
      refine va_get (D := G.1) (ci := 9) (v := .int (nI k)) (C := R_Le) (T := F_Le) (N := 4) hx hb (u_Le hC) (fun _ h => h) hown hC.K hP 0 rfl rfl 3 (by decide) (k_Le_22 hC) (fun _ h9 => h9) rfl d_Le_bookRows_4 ?_
      refine lv_icmp_ge (tgt := 42) hx hb d_Le_bookRows_7 (by decide) (fun c_7 => ?_) (fun c_7 => ?_)
      · exact gx_retv [(e0, .inr (9, [.ref e1, .ref e2, .ref e3, .int (nI k)])), (e1, .inl (G.2.1 2, 50, .inr (.inl f))), (e2, .inl (G.2.1 0, 8, .inl Fe2)), (e3, .inl (G.2.1 0, 8, .inl Fe3))] hx hb hr hlocks ⟨rfl, rfl, (by rw [ekk, hf, show i = k by omega])⟩ hP hD hS (Nat.le_of_ble_eq_true rfl) (Nat.le_of_ble_eq_true rfl) d_Le_bookRows_42
      · exact absurd (nI_le (by omega) (by omega)) c_7
    | succ n ih =>
      intro i f ls H locs hin hf hl hP hD hS
      have hsize : ls.size = c.maxLocals := by rw [hml]; exact hl.1
      have hi : vp_in (nI i) 8 := vp_in_nI (by omega) (by decide)
      have eki : (nI i).toNatClampNeg = i := nI_clamp (by omega)
      have hcl : vp_in (((Fe2 (nI i).toNatClampNeg) * 5) + x) 50 := in_cell (ha _) hx5
      refine lv_iload_n hx hb d_Le_bookRows_2 rfl (lv_at hl 0 rfl) ?_
      refine lv_aload_n hx hb d_Le_bookRows_3 rfl (lv_at hl 1 rfl) ?_
      refine va_get (D := G.1) (ci := 9) (v := .int (nI k)) (C := R_Le) (T := F_Le) (N := 4) hx hb (u_Le hC) (fun _ h => h) hown hC.K hP 0 rfl rfl 3 (by decide) (k_Le_22 hC) (fun _ h9 => h9) rfl d_Le_bookRows_4 ?_
      refine lv_icmp_ge (tgt := 42) hx hb d_Le_bookRows_7 (by decide) (fun c_7 => ?_) (fun c_7 => ?_)
      · exact absurd c_7 (nI_ge (by omega) (by omega))
      · refine lv_aload_n hx hb d_Le_bookRows_10 rfl (lv_at hl 1 rfl) ?_
        refine va_get (D := G.1) (ci := 9) (v := .ref e1) (C := R_Le) (T := F_Le) (N := 4) hx hb (u_Le hC) (fun _ h => h) hown hC.K hP 0 rfl rfl 0 (by decide) (k_Le_9 hC) (fun _ h9 => h9) rfl d_Le_bookRows_11 ?_
        refine lv_aload_n hx hb d_Le_bookRows_14 rfl (lv_at hl 1 rfl) ?_
        refine lv_aload_n hx hb d_Le_bookRows_15 rfl (lv_at hl 1 rfl) ?_
        refine va_get (D := G.1) (ci := 9) (v := .ref e2) (C := R_Le) (T := F_Le) (N := 4) hx hb (u_Le hC) (fun _ h => h) hown hC.K hP 0 rfl rfl 1 (by decide) (k_Le_15 hC) (fun _ h9 => h9) rfl d_Le_bookRows_16 ?_
        refine lv_iload_n hx hb d_Le_bookRows_19 rfl (lv_at hl 0 rfl) ?_
        refine va_iald hx hb hC.K hP 2 0 rfl rfl hi d_Le_bookRows_20 ?_
        refine lv_iload_n hx hb d_Le_bookRows_21 rfl (lv_at hl 2 rfl) ?_
        refine px_callN (ix_V (As := [.int (Fe2 (nI i).toNatClampNeg), .int x]) (rest := [.ref e1]) hx hb hown (k_Le_26 hC) (ki_Le_cellOf hC) (kv_Le_cellOf hC) (mx_Is.code (args := #[]) (kc_Le_cellOf hC)) kh_Le_cellOf (va_recv hC.K hP (ci := 9) (q0 := 0) rfl rfl) rfl kp_Le_cellOf rfl d_Le_bookRows_22) (c_Le_cellOf l hl0 G e0 (Fe2 (nI i).toNatClampNeg) x e1 e2 e3 (nI k)) (kc_Le_cellOf hC) rfl (mx_Is.code (args := #[]) (kc_Le_cellOf hC)) (kn_Le hC) hb hC (hP.sub (ws' := [(e0, .inr (9, [.ref e1, .ref e2, .ref e3, .int (nI k)]))]) [0] rfl) (hD.sub (ws' := [(e0, .inr (9, [.ref e1, .ref e2, .ref e3, .int (nI k)]))]) [0] (by decide) rfl) hS (by decide) (by decide) hsize (Nat.le_of_ble_eq_true rfl) d_Le_bookRows_22 ?_
        refine W.eq (g2 := F0 m 25 ls [.int (((Fe2 (nI i).toNatClampNeg) * 5) + x), .ref e1]) rfl ?_
        refine lv_dup2_11 hx hb d_Le_bookRows_25 rfl rfl ?_
        refine va_lald hx hb hC.K hP 1 2 rfl rfl hcl d_Le_bookRows_26 ?_
        refine lv_aload_n hx hb d_Le_bookRows_27 rfl (lv_at hl 1 rfl) ?_
        refine va_get (D := G.1) (ci := 9) (v := .ref e3) (C := R_Le) (T := F_Le) (N := 4) hx hb (u_Le hC) (fun _ h => h) hown hC.K hP 0 rfl rfl 2 (by decide) (k_Le_19 hC) (fun _ h9 => h9) rfl d_Le_bookRows_28 ?_
        refine lv_iload_n hx hb d_Le_bookRows_31 rfl (lv_at hl 0 rfl) ?_
        refine va_iald hx hb hC.K hP 3 0 rfl rfl hi d_Le_bookRows_32 ?_
        refine lv_i2l hx hb d_Le_bookRows_33 rfl ?_
        refine lv_ladd hx hb d_Le_bookRows_34 ?_
        refine va_last hx hb hC.K hP hD hS 1 2 rfl rfl hcl d_Le_bookRows_35 (fun H locs hP hD hS => ?_)
        have hP : va_P G.1 g_cl ((e0, .inr (9, [.ref e1, .ref e2, .ref e3, .int (nI k)])) :: (e1, .inl (G.2.1 2, 50, .inr (.inl (vp_updL f (((Fe2 (nI i).toNatClampNeg) * 5) + x).toNatClampNeg ((f (((Fe2 (nI i).toNatClampNeg) * 5) + x).toNatClampNeg) + (Fe3 (nI i).toNatClampNeg).toInt64))))) :: (e2, .inl (G.2.1 0, 8, .inl Fe2)) :: (e3, .inl (G.2.1 0, 8, .inl Fe3)) :: rest) H := hP
        have hD : va_D (g_A G) ((e0, .inr (9, [.ref e1, .ref e2, .ref e3, .int (nI k)])) :: (e1, .inl (G.2.1 2, 50, .inr (.inl (vp_updL f (((Fe2 (nI i).toNatClampNeg) * 5) + x).toNatClampNeg ((f (((Fe2 (nI i).toNatClampNeg) * 5) + x).toNatClampNeg) + (Fe3 (nI i).toNatClampNeg).toInt64))))) :: (e2, .inl (G.2.1 0, 8, .inl Fe2)) :: (e3, .inl (G.2.1 0, 8, .inl Fe3)) :: rest) := hD
        refine lv_iinc (v := ((nI i) + 1)) (lv' := [(2, .int ((nI i) + 1)), (0, .ref e0), (1, .int x)]) hx hb d_Le_bookRows_36 hl (k := 0) rfl rfl (by decide) rfl (fun ls hl => ?_)
        have hsize : ls.size = c.maxLocals := by rw [hml]; exact hl.1
        refine lv_goto (tgt := 2) hx hb d_Le_bookRows_39 (by decide) ?_
        rw [nI_1] at hl
        exact ih (i + 1) _ ls _ _ (by omega) (by rw [hf, bk_all, eki]) (lv_sub hl [0, 1, 2] rfl) hP hD hS
  exact loop_2 k 0 Fe1 ls _ _ (by omega) rfl (lv_sub hl [0, 1, 2] rfl) hP hD hS
set_option maxHeartbeats 4000000 in
set_option maxRecDepth 100000 in
theorem c_Bi_remindAll (l : Launch) (hl0 : l.stackTraces = false) (G : GG) (i0 : Nat) (i1 : Nat) (i2 : Nat) (i3 : Nat) (i4 : Nat) (i5 : Nat) (Fi1 : Nat → Int32) (Fi2 : Nat → Int32) (Fi3 : Nat → Int32) (Fi4 : Nat → Int32) (Fi5 : Nat → Int32) (Si6 : Int32) (x : Int32) (hc : vp_in Si6 61) : gx l G y_Bi_remindAll cd_Bi_remindAll rm_Bi_remindAll [.ref i0, .int x] [(i0, .inr (6, [.ref i1, .ref i2, .ref i3, .ref i4, .ref i5, .int Si6])), (i1, .inl (G.2.1 0, 60, .inl Fi1)), (i2, .inl (G.2.1 0, 60, .inl Fi2)), (i3, .inl (G.2.1 0, 60, .inl Fi3)), (i4, .inl (G.2.1 0, 60, .inl Fi4)), (i5, .inl (G.2.1 1, 60, .inl Fi5))] (fun v w' => (none : Option String) = none ∧ v = (some (.int (rm_cnt Fi1 Fi2 Fi3 Fi5 x Si6.toNatClampNeg))) ∧ w' = [(i0, .inr (6, [.ref i1, .ref i2, .ref i3, .ref i4, .ref i5, .int Si6])), (i1, .inl (G.2.1 0, 60, .inl Fi1)), (i2, .inl (G.2.1 0, 60, .inl Fi2)), (i3, .inl (G.2.1 0, 60, .inl Fi3)), (i4, .inl (G.2.1 0, 60, .inl (rm_all Fi1 Fi2 Fi3 Fi5 x Fi4 Si6.toNatClampNeg))), (i5, .inl (G.2.1 1, 60, .inl Fi5))]) (fun E w' => (none : Option String) = some E ∧ w' = [(i0, .inr (6, [.ref i1, .ref i2, .ref i3, .ref i4, .ref i5, .int Si6])), (i1, .inl (G.2.1 0, 60, .inl Fi1)), (i2, .inl (G.2.1 0, 60, .inl Fi2)), (i3, .inl (G.2.1 0, 60, .inl Fi3)), (i4, .inl (G.2.1 0, 60, .inl Fi4)), (i5, .inl (G.2.1 1, 60, .inl Fi5))]) 0 0 := by
  intro rest
  refine mx_of (cc := b_Bi_remindAll) (maxL := 4) (ret := (some .int)) (by decide) rfl ?_
  intro p e s m args below meth c s₁ B hml hE hv
  obtain ⟨rfl, hC, hP, hD⟩ := hv
  have hx := B.exec
  have hb := B.bytes
  have hr := B.returns
  have hlocks := B.notSynchronized
  have hown : s.vm.findClass R_Bi = some m.cls := findClass_of_methodNamed B.named
  have hS : va_S (g_A G) s.heap s.heap [] := va_S.rf
  have hl := lv_entry ([.ref i0, .int x]) (n := 4) (Nat.le_of_ble_eq_true rfl)
  rw [lg_entry_eq]
  generalize (lg_sl ([.ref i0, .int x]) ++ List.replicate (4 - (lg_sl ([.ref i0, .int x])).length) Slot.unset).toArray = ls at hl ⊢
  have hl : lv_has ls 4 [(0, .ref i0), (1, .int x)] := hl
  have hsize : ls.size = c.maxLocals := by rw [hml]; exact hl.1
  have hP : va_P G.1 g_cl ((i0, .inr (6, [.ref i1, .ref i2, .ref i3, .ref i4, .ref i5, .int Si6])) :: (i1, .inl (G.2.1 0, 60, .inl Fi1)) :: (i2, .inl (G.2.1 0, 60, .inl Fi2)) :: (i3, .inl (G.2.1 0, 60, .inl Fi3)) :: (i4, .inl (G.2.1 0, 60, .inl Fi4)) :: (i5, .inl (G.2.1 1, 60, .inl Fi5)) :: rest) s.heap := hP
  have hD : va_D (g_A G) ((i0, .inr (6, [.ref i1, .ref i2, .ref i3, .ref i4, .ref i5, .int Si6])) :: (i1, .inl (G.2.1 0, 60, .inl Fi1)) :: (i2, .inl (G.2.1 0, 60, .inl Fi2)) :: (i3, .inl (G.2.1 0, 60, .inl Fi3)) :: (i4, .inl (G.2.1 0, 60, .inl Fi4)) :: (i5, .inl (G.2.1 1, 60, .inl Fi5)) :: rest) := hD
  obtain ⟨k, hk, rfl⟩ := vp_in_of hc (by decide)
  have ekk : (nI k).toNatClampNeg = k := nI_clamp (by omega)
  refine lv_iconst (v := 0) hx hb d_Bi_remindAll_0 (by decide) ?_
  refine lv_istore_n (lv' := [(2, .int 0), (0, .ref i0), (1, .int x)]) hx hb d_Bi_remindAll_1 rfl hl (by decide) rfl (fun ls hl => ?_)
  have hsize : ls.size = c.maxLocals := by rw [hml]; exact hl.1
  refine lv_iconst (v := 0) hx hb d_Bi_remindAll_2 (by decide) ?_
  refine lv_istore_n (lv' := [(3, .int 0), (2, .int 0), (0, .ref i0), (1, .int x)]) hx hb d_Bi_remindAll_3 rfl hl (by decide) rfl (fun ls hl => ?_)
  have hsize : ls.size = c.maxLocals := by rw [hml]; exact hl.1
  have loop_4 : ∀ (n : Nat) (i : Nat) (f : Nat → Int32) (r : Int32) (ls : Array Slot) (H : Heap) (locs : List Loc), (i + n = k) → (f = rm_all Fi1 Fi2 Fi3 Fi5 x Fi4 i) → (r = rm_cnt Fi1 Fi2 Fi3 Fi5 x i) → lv_has ls 4 [(3, .int (nI i)), (2, .int r), (0, .ref i0), (1, .int x)] → va_P G.1 g_cl ((i0, .inr (6, [.ref i1, .ref i2, .ref i3, .ref i4, .ref i5, .int (nI k)])) :: (i1, .inl (G.2.1 0, 60, .inl Fi1)) :: (i2, .inl (G.2.1 0, 60, .inl Fi2)) :: (i3, .inl (G.2.1 0, 60, .inl Fi3)) :: (i4, .inl (G.2.1 0, 60, .inl f)) :: (i5, .inl (G.2.1 1, 60, .inl Fi5)) :: rest) H → va_D (g_A G) ((i0, .inr (6, [.ref i1, .ref i2, .ref i3, .ref i4, .ref i5, .int (nI k)])) :: (i1, .inl (G.2.1 0, 60, .inl Fi1)) :: (i2, .inl (G.2.1 0, 60, .inl Fi2)) :: (i3, .inl (G.2.1 0, 60, .inl Fi3)) :: (i4, .inl (G.2.1 0, 60, .inl f)) :: (i5, .inl (G.2.1 1, 60, .inl Fi5)) :: rest) → va_S (g_A G) s.heap H locs → W p l e rm_Bi_remindAll s m ([.ref i0, .int x].toArray) below meth c H locs 0 0 (mx_E below (gx_R G rest (fun v w' => (none : Option String) = none ∧ v = (some (.int (rm_cnt Fi1 Fi2 Fi3 Fi5 x (nI k).toNatClampNeg))) ∧ w' = [(i0, .inr (6, [.ref i1, .ref i2, .ref i3, .ref i4, .ref i5, .int (nI k)])), (i1, .inl (G.2.1 0, 60, .inl Fi1)), (i2, .inl (G.2.1 0, 60, .inl Fi2)), (i3, .inl (G.2.1 0, 60, .inl Fi3)), (i4, .inl (G.2.1 0, 60, .inl (rm_all Fi1 Fi2 Fi3 Fi5 x Fi4 (nI k).toNatClampNeg))), (i5, .inl (G.2.1 1, 60, .inl Fi5))])) (gx_T G rest (fun E w' => (none : Option String) = some E ∧ w' = [(i0, .inr (6, [.ref i1, .ref i2, .ref i3, .ref i4, .ref i5, .int (nI k)])), (i1, .inl (G.2.1 0, 60, .inl Fi1)), (i2, .inl (G.2.1 0, 60, .inl Fi2)), (i3, .inl (G.2.1 0, 60, .inl Fi3)), (i4, .inl (G.2.1 0, 60, .inl Fi4)), (i5, .inl (G.2.1 1, 60, .inl Fi5))])) (g_A G) 0 0 ([.ref i0, .int x].toArray) s) (F0 m 4 ls []) := by
    intro n
    induction n with
    | zero =>
      intro i f r ls H locs hin hf hr2 hl hP hD hS
      have hsize : ls.size = c.maxLocals := by rw [hml]; exact hl.1
      refine lv_iload_n hx hb d_Bi_remindAll_4 rfl (lv_at hl 0 rfl) ?_
      refine lv_aload_n hx hb d_Bi_remindAll_5 rfl (lv_at hl 2 rfl) ?_
      refine va_get (D := G.1) (ci := 6) (v := .int (nI k)) (C := R_Bi) (T := F_Bi) (N := 6) hx hb (u_Bi hC) (fun _ h => h) hown hC.K hP 0 rfl rfl 5 (by decide) (k_Bi_28 hC) (fun _ h9 => h9) rfl d_Bi_remindAll_6 ?_
      refine lv_icmp_ge (tgt := 58) hx hb d_Bi_remindAll_9 (by decide) (fun c_9 => ?_) (fun c_9 => ?_)
      · refine lv_iload_n hx hb d_Bi_remindAll_58 rfl (lv_at hl 1 rfl) ?_
        exact gx_reti [(i0, .inr (6, [.ref i1, .ref i2, .ref i3, .ref i4, .ref i5, .int (nI k)])), (i1, .inl (G.2.1 0, 60, .inl Fi1)), (i2, .inl (G.2.1 0, 60, .inl Fi2)), (i3, .inl (G.2.1 0, 60, .inl Fi3)), (i4, .inl (G.2.1 0, 60, .inl f)), (i5, .inl (G.2.1 1, 60, .inl Fi5))] hx hb hr hlocks ⟨rfl, (by rw [ekk, hr2, show i = k by omega]), (by rw [ekk, hf, show i = k by omega])⟩ hP hD hS (Nat.le_of_ble_eq_true rfl) (Nat.le_of_ble_eq_true rfl) d_Bi_remindAll_59
      · exact absurd (nI_le (by omega) (by omega)) c_9
    | succ n ih =>
      intro i f r ls H locs hin hf hr2 hl hP hD hS
      have hsize : ls.size = c.maxLocals := by rw [hml]; exact hl.1
      have hi : vp_in (nI i) 60 := vp_in_nI (by omega) (by decide)
      have eki : (nI i).toNatClampNeg = i := nI_clamp (by omega)
      refine lv_iload_n hx hb d_Bi_remindAll_4 rfl (lv_at hl 0 rfl) ?_
      refine lv_aload_n hx hb d_Bi_remindAll_5 rfl (lv_at hl 2 rfl) ?_
      refine va_get (D := G.1) (ci := 6) (v := .int (nI k)) (C := R_Bi) (T := F_Bi) (N := 6) hx hb (u_Bi hC) (fun _ h => h) hown hC.K hP 0 rfl rfl 5 (by decide) (k_Bi_28 hC) (fun _ h9 => h9) rfl d_Bi_remindAll_6 ?_
      refine lv_icmp_ge (tgt := 58) hx hb d_Bi_remindAll_9 (by decide) (fun c_9 => ?_) (fun c_9 => ?_)
      · exact absurd c_9 (nI_ge (by omega) (by omega))
      · refine lv_aload_n hx hb d_Bi_remindAll_12 rfl (lv_at hl 2 rfl) ?_
        refine lv_iload_n hx hb d_Bi_remindAll_13 rfl (lv_at hl 0 rfl) ?_
        refine px_callN (ix_V (As := [.int (nI i)]) (rest := []) hx hb hown (k_Bi_36 hC) (ki_Bi_isOpen hC) (kv_Bi_isOpen hC) (mx_Is.code (args := #[]) (kc_Bi_isOpen hC)) kh_Bi_isOpen (va_recv hC.K hP (ci := 6) (q0 := 0) rfl rfl) rfl kp_Bi_isOpen rfl d_Bi_remindAll_14) (c_Bi_isOpen l hl0 G i0 i1 i2 i3 i4 i5 Fi1 Fi2 Fi3 f Fi5 (nI k) (nI i) hi) (kc_Bi_isOpen hC) rfl (mx_Is.code (args := #[]) (kc_Bi_isOpen hC)) (kn_Bi hC) hb hC (hP.sub (ws' := [(i0, .inr (6, [.ref i1, .ref i2, .ref i3, .ref i4, .ref i5, .int (nI k)])), (i1, .inl (G.2.1 0, 60, .inl Fi1)), (i2, .inl (G.2.1 0, 60, .inl Fi2)), (i3, .inl (G.2.1 0, 60, .inl Fi3)), (i4, .inl (G.2.1 0, 60, .inl f)), (i5, .inl (G.2.1 1, 60, .inl Fi5))]) [0, 1, 2, 3, 4, 5] rfl) (hD.sub (ws' := [(i0, .inr (6, [.ref i1, .ref i2, .ref i3, .ref i4, .ref i5, .int (nI k)])), (i1, .inl (G.2.1 0, 60, .inl Fi1)), (i2, .inl (G.2.1 0, 60, .inl Fi2)), (i3, .inl (G.2.1 0, 60, .inl Fi3)), (i4, .inl (G.2.1 0, 60, .inl f)), (i5, .inl (G.2.1 1, 60, .inl Fi5))]) [0, 1, 2, 3, 4, 5] (by decide) rfl) hS (by decide) (by decide) hsize (Nat.le_of_ble_eq_true rfl) d_Bi_remindAll_14 ?_
        by_cases b_14 : 0 < ((Fi1 (nI i).toNatClampNeg) - (Fi2 (nI i).toNatClampNeg))
        · rw [if_pos b_14]
          refine W.eq (g2 := F0 m 17 ls [.int 1]) rfl ?_
          refine lv_if_eq (tgt := 52) hx hb d_Bi_remindAll_17 (by decide) (fun c_17 => absurd c_17 (by decide)) (fun _ => ?_)
          refine lv_aload_n hx hb d_Bi_remindAll_20 rfl (lv_at hl 2 rfl) ?_
          refine va_get (D := G.1) (ci := 6) (v := .ref i5) (C := R_Bi) (T := F_Bi) (N := 6) hx hb (u_Bi hC) (fun _ h => h) hown hC.K hP 0 rfl rfl 4 (by decide) (k_Bi_24 hC) (fun _ h9 => h9) rfl d_Bi_remindAll_21 ?_
          refine lv_iload_n hx hb d_Bi_remindAll_24 rfl (lv_at hl 0 rfl) ?_
          refine va_zald hx hb hC.K hP 5 1 rfl rfl hi d_Bi_remindAll_25 ?_
          refine lv_if_ne (tgt := 52) hx hb d_Bi_remindAll_26 (by decide) (fun c_26 => ?_) (fun c_26 => ?_)
          · refine lv_iinc (v := ((nI i) + 1)) (lv' := [(3, .int ((nI i) + 1)), (2, .int r), (0, .ref i0), (1, .int x)]) hx hb d_Bi_remindAll_52 hl (k := 0) rfl rfl (by decide) rfl (fun ls hl => ?_)
            have hsize : ls.size = c.maxLocals := by rw [hml]; exact hl.1
            refine lv_goto (tgt := 4) hx hb d_Bi_remindAll_55 (by decide) ?_
            rw [nI_1] at hl
            exact ih (i + 1) _ _ ls _ _ (by omega) (by rw [rm_all, if_neg (by first | (rw [eki] at b_14; exact fun q => b_14 q.1) | (rw [eki] at c_26; exact fun q => c_26 q.2.1) | (rw [eki] at c_36; exact fun q => absurd q.2.2 (Int32.not_lt.mpr c_36))), hf]) (by rw [rm_cnt, if_neg (by first | (rw [eki] at b_14; exact fun q => b_14 q.1) | (rw [eki] at c_26; exact fun q => c_26 q.2.1) | (rw [eki] at c_36; exact fun q => absurd q.2.2 (Int32.not_lt.mpr c_36))), hr2]) (lv_sub hl [0, 1, 2, 3] rfl) hP hD hS
          · refine lv_aload_n hx hb d_Bi_remindAll_29 rfl (lv_at hl 2 rfl) ?_
            refine va_get (D := G.1) (ci := 6) (v := .ref i3) (C := R_Bi) (T := F_Bi) (N := 6) hx hb (u_Bi hC) (fun _ h => h) hown hC.K hP 0 rfl rfl 2 (by decide) (k_Bi_18 hC) (fun _ h9 => h9) rfl d_Bi_remindAll_30 ?_
            refine lv_iload_n hx hb d_Bi_remindAll_33 rfl (lv_at hl 0 rfl) ?_
            refine va_iald hx hb hC.K hP 3 0 rfl rfl hi d_Bi_remindAll_34 ?_
            refine lv_iload_n hx hb d_Bi_remindAll_35 rfl (lv_at hl 3 rfl) ?_
            refine lv_icmp_ge (tgt := 52) hx hb d_Bi_remindAll_36 (by decide) (fun c_36 => ?_) (fun c_36 => ?_)
            · refine lv_iinc (v := ((nI i) + 1)) (lv' := [(3, .int ((nI i) + 1)), (2, .int r), (0, .ref i0), (1, .int x)]) hx hb d_Bi_remindAll_52 hl (k := 0) rfl rfl (by decide) rfl (fun ls hl => ?_)
              have hsize : ls.size = c.maxLocals := by rw [hml]; exact hl.1
              refine lv_goto (tgt := 4) hx hb d_Bi_remindAll_55 (by decide) ?_
              rw [nI_1] at hl
              exact ih (i + 1) _ _ ls _ _ (by omega) (by rw [rm_all, if_neg (by first | (rw [eki] at b_14; exact fun q => b_14 q.1) | (rw [eki] at c_26; exact fun q => c_26 q.2.1) | (rw [eki] at c_36; exact fun q => absurd q.2.2 (Int32.not_lt.mpr c_36))), hf]) (by rw [rm_cnt, if_neg (by first | (rw [eki] at b_14; exact fun q => b_14 q.1) | (rw [eki] at c_26; exact fun q => c_26 q.2.1) | (rw [eki] at c_36; exact fun q => absurd q.2.2 (Int32.not_lt.mpr c_36))), hr2]) (lv_sub hl [0, 1, 2, 3] rfl) hP hD hS
            · refine lv_aload_n hx hb d_Bi_remindAll_39 rfl (lv_at hl 2 rfl) ?_
              refine va_get (D := G.1) (ci := 6) (v := .ref i4) (C := R_Bi) (T := F_Bi) (N := 6) hx hb (u_Bi hC) (fun _ h => h) hown hC.K hP 0 rfl rfl 3 (by decide) (k_Bi_21 hC) (fun _ h9 => h9) rfl d_Bi_remindAll_40 ?_
              refine lv_iload_n hx hb d_Bi_remindAll_43 rfl (lv_at hl 0 rfl) ?_
              refine lv_dup2_11 hx hb d_Bi_remindAll_44 rfl rfl ?_
              refine va_iald hx hb hC.K hP 4 0 rfl rfl hi d_Bi_remindAll_45 ?_
              refine lv_iconst (v := 1) hx hb d_Bi_remindAll_46 (by decide) ?_
              refine lv_iadd hx hb d_Bi_remindAll_47 ?_
              refine va_iast hx hb hC.K hP hD hS 4 0 rfl rfl hi d_Bi_remindAll_48 (fun H locs hP hD hS => ?_)
              have hP : va_P G.1 g_cl ((i0, .inr (6, [.ref i1, .ref i2, .ref i3, .ref i4, .ref i5, .int (nI k)])) :: (i1, .inl (G.2.1 0, 60, .inl Fi1)) :: (i2, .inl (G.2.1 0, 60, .inl Fi2)) :: (i3, .inl (G.2.1 0, 60, .inl Fi3)) :: (i4, .inl (G.2.1 0, 60, .inl (upd f (nI i).toNatClampNeg ((f (nI i).toNatClampNeg) + 1)))) :: (i5, .inl (G.2.1 1, 60, .inl Fi5)) :: rest) H := hP
              have hD : va_D (g_A G) ((i0, .inr (6, [.ref i1, .ref i2, .ref i3, .ref i4, .ref i5, .int (nI k)])) :: (i1, .inl (G.2.1 0, 60, .inl Fi1)) :: (i2, .inl (G.2.1 0, 60, .inl Fi2)) :: (i3, .inl (G.2.1 0, 60, .inl Fi3)) :: (i4, .inl (G.2.1 0, 60, .inl (upd f (nI i).toNatClampNeg ((f (nI i).toNatClampNeg) + 1)))) :: (i5, .inl (G.2.1 1, 60, .inl Fi5)) :: rest) := hD
              refine lv_iinc (v := (r + 1)) (lv' := [(2, .int (r + 1)), (3, .int (nI i)), (0, .ref i0), (1, .int x)]) hx hb d_Bi_remindAll_49 hl (k := 1) rfl rfl (by decide) rfl (fun ls hl => ?_)
              have hsize : ls.size = c.maxLocals := by rw [hml]; exact hl.1
              refine lv_iinc (v := ((nI i) + 1)) (lv' := [(3, .int ((nI i) + 1)), (2, .int (r + 1)), (0, .ref i0), (1, .int x)]) hx hb d_Bi_remindAll_52 hl (k := 1) rfl rfl (by decide) rfl (fun ls hl => ?_)
              have hsize : ls.size = c.maxLocals := by rw [hml]; exact hl.1
              refine lv_goto (tgt := 4) hx hb d_Bi_remindAll_55 (by decide) ?_
              rw [nI_1] at hl
              exact ih (i + 1) _ _ ls _ _ (by omega) (by rw [rm_all, if_pos (by rw [eki] at b_14 c_26 c_36; exact ⟨b_14, c_26, Int32.not_le.mp c_36⟩), hf, eki]) (by rw [rm_cnt, if_pos (by rw [eki] at b_14 c_26 c_36; exact ⟨b_14, c_26, Int32.not_le.mp c_36⟩), hr2]) (lv_sub hl [0, 1, 2, 3] rfl) hP hD hS
        · rw [if_neg b_14]
          refine W.eq (g2 := F0 m 17 ls [.int 0]) rfl ?_
          refine lv_if_eq (tgt := 52) hx hb d_Bi_remindAll_17 (by decide) (fun _ => ?_) (fun c_17 => absurd c_17 (by decide))
          refine lv_iinc (v := ((nI i) + 1)) (lv' := [(3, .int ((nI i) + 1)), (2, .int r), (0, .ref i0), (1, .int x)]) hx hb d_Bi_remindAll_52 hl (k := 0) rfl rfl (by decide) rfl (fun ls hl => ?_)
          have hsize : ls.size = c.maxLocals := by rw [hml]; exact hl.1
          refine lv_goto (tgt := 4) hx hb d_Bi_remindAll_55 (by decide) ?_
          rw [nI_1] at hl
          exact ih (i + 1) _ _ ls _ _ (by omega) (by rw [rm_all, if_neg (by first | (rw [eki] at b_14; exact fun q => b_14 q.1) | (rw [eki] at c_26; exact fun q => c_26 q.2.1) | (rw [eki] at c_36; exact fun q => absurd q.2.2 (Int32.not_lt.mpr c_36))), hf]) (by rw [rm_cnt, if_neg (by first | (rw [eki] at b_14; exact fun q => b_14 q.1) | (rw [eki] at c_26; exact fun q => c_26 q.2.1) | (rw [eki] at c_36; exact fun q => absurd q.2.2 (Int32.not_lt.mpr c_36))), hr2]) (lv_sub hl [0, 1, 2, 3] rfl) hP hD hS
  exact loop_4 k 0 Fi4 0 ls _ _ (by omega) rfl rfl (lv_sub hl [0, 1, 2, 3] rfl) hP hD hS
