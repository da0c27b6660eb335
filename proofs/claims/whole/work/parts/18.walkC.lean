set_option maxHeartbeats 4000000 in
set_option maxRecDepth 100000 in
theorem c_Ta_write (l : Launch) (hl0 : l.stackTraces = false) (G : GG) (t0 : Nat) (t1 : Nat) (Ft1 : Nat → Int32) (St2 : Int32) (pp : Int64) (x : Int32) (h1 : vp_in x 9) (h2 : vp_in St2 201) (h3 : St2.toNatClampNeg + x.toNatClampNeg ≤ 200) : gx l G y_Ta_write cd_Ta_write rm_Ta_write [.ref t0, .long pp, .int x] [(t0, .inr (3, [.ref t1, .int St2])), (t1, .inl (G.2.1 0, 200, .inl Ft1))] (fun v w' => (none : Option String) = none ∧ v = none ∧ w' = [(t0, .inr (3, [.ref t1, .int (St2 + x)])), (t1, .inl (G.2.1 0, 200, .inl (wr_all pp x.toNatClampNeg St2.toNatClampNeg Ft1)))]) (fun E w' => (none : Option String) = some E ∧ w' = [(t0, .inr (3, [.ref t1, .int St2])), (t1, .inl (G.2.1 0, 200, .inl Ft1))]) 0 0 := by
  intro rest
  refine mx_of (cc := b_Ta_write) (maxL := 5) (ret := none) (by decide) rfl ?_
  intro p e s m args below meth c s₁ B hml hE hv
  obtain ⟨rfl, hC, hP, hD⟩ := hv
  have hx := B.exec
  have hb := B.bytes
  have hr := B.returns
  have hlocks := B.notSynchronized
  have hown : s.vm.findClass R_Ta = some m.cls := findClass_of_methodNamed B.named
  have hS : va_S (g_A G) s.heap s.heap [] := va_S.rf
  have hl := lv_entry ([.ref t0, .long pp, .int x]) (n := 5) (Nat.le_of_ble_eq_true rfl)
  rw [lg_entry_eq]
  generalize (lg_sl ([.ref t0, .long pp, .int x]) ++ List.replicate (5 - (lg_sl ([.ref t0, .long pp, .int x])).length) Slot.unset).toArray = ls at hl ⊢
  have hl : lv_has ls 5 [(0, .ref t0), (1, .long pp), (3, .int x)] := hl
  have hsize : ls.size = c.maxLocals := by rw [hml]; exact hl.1
  have hP : va_P G.1 g_cl ((t0, .inr (3, [.ref t1, .int St2])) :: (t1, .inl (G.2.1 0, 200, .inl Ft1)) :: rest) s.heap := hP
  have hD : va_D (g_A G) ((t0, .inr (3, [.ref t1, .int St2])) :: (t1, .inl (G.2.1 0, 200, .inl Ft1)) :: rest) := hD
  obtain ⟨k, hk, rfl⟩ := vp_in_of h1 (by decide)
  obtain ⟨l0, hl9, rfl⟩ := vp_in_of h2 (by decide)
  have ek1 : (nI k).toNatClampNeg = k := nI_clamp (by omega)
  have ek2 : (nI l0).toNatClampNeg = l0 := nI_clamp (by omega)
  rw [ek1, ek2] at h3
  refine lv_iload_n hx hb d_Ta_write_0 rfl (lv_at hl 2 rfl) ?_
  refine lv_iconst (v := 1) hx hb d_Ta_write_1 (by decide) ?_
  refine lv_isub hx hb d_Ta_write_2 ?_
  refine lv_istore (lv' := [(4, .int ((nI k) - 1)), (0, .ref t0), (1, .long pp), (3, .int (nI k))]) hx hb d_Ta_write_3 hl (by decide) rfl (fun ls hl => ?_)
  have hsize : ls.size = c.maxLocals := by rw [hml]; exact hl.1
  have loop_5 : ∀ (n : Nat) (len : Nat) (f : Nat → Int32) (ls : Array Slot) (H : Heap) (locs : List Loc), (len + n = l0 + k) → (wr_all pp n len f = wr_all pp k l0 Ft1) → lv_has ls 5 [(4, .int ((nI n) - 1)), (0, .ref t0), (1, .long pp), (3, .int (nI k))] → va_P G.1 g_cl ((t0, .inr (3, [.ref t1, .int (nI len)])) :: (t1, .inl (G.2.1 0, 200, .inl f)) :: rest) H → va_D (g_A G) ((t0, .inr (3, [.ref t1, .int (nI len)])) :: (t1, .inl (G.2.1 0, 200, .inl f)) :: rest) → va_S (g_A G) s.heap H locs → W p l e rm_Ta_write s m ([.ref t0, .long pp, .int (nI k)].toArray) below meth c H locs 0 0 (mx_E below (gx_R G rest (fun v w' => (none : Option String) = none ∧ v = none ∧ w' = [(t0, .inr (3, [.ref t1, .int ((nI l0) + (nI k))])), (t1, .inl (G.2.1 0, 200, .inl (wr_all pp (nI k).toNatClampNeg (nI l0).toNatClampNeg Ft1)))])) (gx_T G rest (fun E w' => (none : Option String) = some E ∧ w' = [(t0, .inr (3, [.ref t1, .int (nI l0)])), (t1, .inl (G.2.1 0, 200, .inl Ft1))])) (g_A G) 0 0 ([.ref t0, .long pp, .int (nI k)].toArray) s) (F0 m 5 ls []) := by
    intro n
    induction n with
    | zero =>
      intro len f ls H locs hbb hf hl hP hD hS
      have hsize : ls.size = c.maxLocals := by rw [hml]; exact hl.1
      refine lv_iload hx hb d_Ta_write_5 (lv_at hl 0 rfl) ?_
      refine lv_if_lt (tgt := 47) hx hb d_Ta_write_7 (by decide) (fun c_7 => ?_) (fun c_7 => ?_)
      · exact gx_retv [(t0, .inr (3, [.ref t1, .int (nI len)])), (t1, .inl (G.2.1 0, 200, .inl f))] hx hb hr hlocks ⟨rfl, rfl, (by rw [ek1, ek2, nI_add, ← hf, ← hbb]; rfl)⟩ hP hD hS (Nat.le_of_ble_eq_true rfl) (Nat.le_of_ble_eq_true rfl) d_Ta_write_47
      · exact absurd (show ((nI 0) - 1 : Int32) < 0 by decide) c_7
    | succ n ih =>
      intro len f ls H locs hbb hf hl hP hD hS
      have hsize : ls.size = c.maxLocals := by rw [hml]; exact hl.1
      rw [nI_pred] at hl
      have ekl : (nI len).toNatClampNeg = len := nI_clamp (by omega)
      have hi : vp_in (nI len) 200 := vp_in_nI (by omega) (by decide)
      refine lv_iload hx hb d_Ta_write_5 (lv_at hl 0 rfl) ?_
      refine lv_if_lt (tgt := 47) hx hb d_Ta_write_7 (by decide) (fun c_7 => ?_) (fun c_7 => ?_)
      · exact absurd c_7 (nI_pos (by omega))
      · refine lv_aload_n hx hb d_Ta_write_10 rfl (lv_at hl 1 rfl) ?_
        refine va_get (D := G.1) (ci := 3) (v := .ref t1) (C := R_Ta) (T := F_Ta) (N := 2) hx hb (u_Ta hC) (fun _ h => h) hown hC.K hP 0 rfl rfl 0 (by decide) (k_Ta_9 hC) (fun _ h9 => h9) rfl d_Ta_write_11 ?_
        refine lv_aload_n hx hb d_Ta_write_14 rfl (lv_at hl 1 rfl) ?_
        refine va_get (D := G.1) (ci := 3) (v := .int (nI len)) (C := R_Ta) (T := F_Ta) (N := 2) hx hb (u_Ta hC) (fun _ h => h) hown hC.K hP 0 rfl rfl 1 (by decide) (k_Ta_15 hC) (fun _ h9 => h9) rfl d_Ta_write_15 ?_
        refine lv_lload_n hx hb d_Ta_write_18 rfl (lv_at hl 2 rfl) ?_
        refine lv_bipush (v := 8) hx hb d_Ta_write_19 (by decide) ?_
        refine lv_iload hx hb d_Ta_write_21 (lv_at hl 0 rfl) ?_
        refine lv_imul hx hb d_Ta_write_23 ?_
        refine lv_lushr hx hb d_Ta_write_24 rfl ?_
        refine lv_l2i hx hb d_Ta_write_25 rfl ?_
        refine lv_sipush (v := 255) hx hb d_Ta_write_26 (by decide) ?_
        refine lv_iand hx hb d_Ta_write_29 ?_
        refine va_iast hx hb hC.K hP hD hS 1 0 rfl rfl hi d_Ta_write_30 (fun H locs hP hD hS => ?_)
        have hP : va_P G.1 g_cl ((t0, .inr (3, [.ref t1, .int (nI len)])) :: (t1, .inl (G.2.1 0, 200, .inl (upd f (nI len).toNatClampNeg (((pp.toUInt64 >>> ((8 * (nI n)).toInt64.toUInt64 &&& Int64.toUInt64 63)).toInt64).toInt32 &&& 255)))) :: rest) H := hP
        have hD : va_D (g_A G) ((t0, .inr (3, [.ref t1, .int (nI len)])) :: (t1, .inl (G.2.1 0, 200, .inl (upd f (nI len).toNatClampNeg (((pp.toUInt64 >>> ((8 * (nI n)).toInt64.toUInt64 &&& Int64.toUInt64 63)).toInt64).toInt32 &&& 255)))) :: rest) := hD
        refine lv_aload_n hx hb d_Ta_write_31 rfl (lv_at hl 1 rfl) ?_
        refine lv_dup hx hb d_Ta_write_32 rfl ?_
        refine va_get (D := G.1) (ci := 3) (v := .int (nI len)) (C := R_Ta) (T := F_Ta) (N := 2) hx hb (u_Ta hC) (fun _ h => h) hown hC.K hP 0 rfl rfl 1 (by decide) (k_Ta_15 hC) (fun _ h9 => h9) rfl d_Ta_write_33 ?_
        refine lv_iconst (v := 1) hx hb d_Ta_write_36 (by decide) ?_
        refine lv_iadd hx hb d_Ta_write_37 ?_
        refine va_put (D := G.1) (ci := 3) (v := .int ((nI len) + 1)) (ty := .int) (C := R_Ta) (T := F_Ta) (N := 2) hx hb (u_Ta hC) (fun _ h => h) t_Ta t_Ta_ok n_Ta hown hC.K hP hD hS 0 rfl rfl 1 (by decide) (k_Ta_15 hC) (fun _ h9 => h9) rfl (by decide +kernel) rfl rfl (Nat.le_of_ble_eq_true rfl) d_Ta_write_38 (fun H locs hP hD hS => ?_)
        have hP : va_P G.1 g_cl ((t0, .inr (3, [.ref t1, .int ((nI len) + 1)])) :: (t1, .inl (G.2.1 0, 200, .inl (upd f (nI len).toNatClampNeg (((pp.toUInt64 >>> ((8 * (nI n)).toInt64.toUInt64 &&& Int64.toUInt64 63)).toInt64).toInt32 &&& 255)))) :: rest) H := hP
        have hD : va_D (g_A G) ((t0, .inr (3, [.ref t1, .int ((nI len) + 1)])) :: (t1, .inl (G.2.1 0, 200, .inl (upd f (nI len).toNatClampNeg (((pp.toUInt64 >>> ((8 * (nI n)).toInt64.toUInt64 &&& Int64.toUInt64 63)).toInt64).toInt32 &&& 255)))) :: rest) := hD
        refine lv_iinc (v := ((nI n) + (-1))) (lv' := [(4, .int ((nI n) + (-1))), (0, .ref t0), (1, .long pp), (3, .int (nI k))]) hx hb d_Ta_write_41 hl (k := 0) rfl rfl (by decide) rfl (fun ls hl => ?_)
        have hsize : ls.size = c.maxLocals := by rw [hml]; exact hl.1
        refine lv_goto (tgt := 5) hx hb d_Ta_write_44 (by decide) ?_
        rw [nI_1, ekl] at hP hD
        have hl := lv_sub hl [0, 1, 2, 3] rfl
        rw [nI_dec] at hl
        exact ih (len + 1) _ ls _ _ (by omega) hf (lv_sub hl [0, 1, 2, 3] rfl) hP hD hS
  exact loop_5 k l0 Ft1 ls _ _ rfl rfl (lv_sub hl [0, 1, 2, 3] rfl) hP hD hS
set_option maxHeartbeats 4000000 in
set_option maxRecDepth 100000 in
theorem c_CB_sign (l : Launch) (hl0 : l.stackTraces = false) (G : GG) (c0 : Nat) (u0 : Nat) (o0 : Nat) (t0 : Nat) (r0 : Nat) (f0 : Nat) (i0 : Nat) (h0 : Nat) (g0 : Nat) (e0 : Nat) (Sc10 : Int32) (Sc11 : Int32) (Sc12 : Int32) (t1 : Nat) (Ft1 : Nat → Int32) (St2 : Int32) (pp : Int64) (x : Int32) (hc : vp_in St2 201) : gx l G y_CB_sign cd_CB_sign rm_CB_sign [.ref c0, .long pp, .int x] [(c0, .inr (0, [.ref u0, .ref o0, .ref t0, .ref r0, .ref f0, .ref i0, .ref h0, .ref g0, .ref e0, .int Sc10, .int Sc11, .int Sc12])), (t0, .inr (3, [.ref t1, .int St2])), (t1, .inl (G.2.1 0, 200, .inl Ft1))] (fun v w' => (th_sign x St2) = none ∧ v = (some (.int (St2 + x))) ∧ w' = [(c0, .inr (0, [.ref u0, .ref o0, .ref t0, .ref r0, .ref f0, .ref i0, .ref h0, .ref g0, .ref e0, .int Sc10, .int Sc11, .int Sc12])), (t0, .inr (3, [.ref t1, .int (St2 + x)])), (t1, .inl (G.2.1 0, 200, .inl (wr_all pp x.toNatClampNeg St2.toNatClampNeg Ft1)))]) (fun E w' => (th_sign x St2) = some E ∧ w' = [(c0, .inr (0, [.ref u0, .ref o0, .ref t0, .ref r0, .ref f0, .ref i0, .ref h0, .ref g0, .ref e0, .int Sc10, .int Sc11, .int Sc12])), (t0, .inr (3, [.ref t1, .int St2])), (t1, .inl (G.2.1 0, 200, .inl Ft1))]) 0 0 := by
  intro rest
  refine mx_of (cc := b_CB_sign) (maxL := 4) (ret := (some .int)) (by decide) rfl ?_
  intro p e s m args below meth c s₁ B hml hE hv
  obtain ⟨rfl, hC, hP, hD⟩ := hv
  have hx := B.exec
  have hb := B.bytes
  have hr := B.returns
  have hlocks := B.notSynchronized
  have hown : s.vm.findClass R_CB = some m.cls := findClass_of_methodNamed B.named
  have hS : va_S (g_A G) s.heap s.heap [] := va_S.rf
  have hl := lv_entry ([.ref c0, .long pp, .int x]) (n := 4) (Nat.le_of_ble_eq_true rfl)
  rw [lg_entry_eq]
  generalize (lg_sl ([.ref c0, .long pp, .int x]) ++ List.replicate (4 - (lg_sl ([.ref c0, .long pp, .int x])).length) Slot.unset).toArray = ls at hl ⊢
  have hl : lv_has ls 4 [(0, .ref c0), (1, .long pp), (3, .int x)] := hl
  have hsize : ls.size = c.maxLocals := by rw [hml]; exact hl.1
  have hP : va_P G.1 g_cl ((c0, .inr (0, [.ref u0, .ref o0, .ref t0, .ref r0, .ref f0, .ref i0, .ref h0, .ref g0, .ref e0, .int Sc10, .int Sc11, .int Sc12])) :: (t0, .inr (3, [.ref t1, .int St2])) :: (t1, .inl (G.2.1 0, 200, .inl Ft1)) :: rest) s.heap := hP
  have hD : va_D (g_A G) ((c0, .inr (0, [.ref u0, .ref o0, .ref t0, .ref r0, .ref f0, .ref i0, .ref h0, .ref g0, .ref e0, .int Sc10, .int Sc11, .int Sc12])) :: (t0, .inr (3, [.ref t1, .int St2])) :: (t1, .inl (G.2.1 0, 200, .inl Ft1)) :: rest) := hD
  refine lv_iload_n hx hb d_CB_sign_0 rfl (lv_at hl 2 rfl) ?_
  refine lv_iconst (v := 1) hx hb d_CB_sign_1 (by decide) ?_
  refine lv_bipush (v := 8) hx hb d_CB_sign_2 (by decide) ?_
  refine px_call (ix_S (As := [.int x, .int 1, .int 8]) (rest := []) hx hb hown (k_CB_87 hC) (ks_CB_requireRange hC) (kn_CB hC) (mx_Is.code (args := #[]) (kc_CB_requireRange hC)) kh_CB_requireRange rfl kp_CB_requireRange rfl d_CB_sign_4) (c_CB_requireRange l hl0 G x 1 8) (kc_CB_requireRange hC) rfl (mx_Is.code (args := #[]) (kc_CB_requireRange hC)) (kn_CB hC) hb hC (hP.sub (ws' := []) [] rfl) (hD.sub (ws' := []) [] (by decide) rfl) hS (by decide) (by decide) hsize (Nat.le_of_ble_eq_true rfl) d_CB_sign_4 (fun h_4 => ?_) (fun E H1 q ce h_4 he1 he2 hq1 hq2 hq3 => ?_)
  · refine W.eq (g2 := F0 m 7 ls []) rfl ?_
    refine lv_aload_n hx hb d_CB_sign_7 rfl (lv_at hl 0 rfl) ?_
    refine va_get (D := G.1) (ci := 0) (v := .ref t0) (C := R_CB) (T := F_CB) (N := 12) hx hb (u_CB hC) (fun _ h => h) hown hC.K hP 0 rfl rfl 2 (by decide) (k_CB_26 hC) (fun _ h9 => h9) rfl d_CB_sign_8 ?_
    refine va_getN (D := G.1) (ci := 3) (v := .int St2) (C := R_Ta) (T := F_Ta) (N := 2) hx hb (u_Ta hC) (fun _ h => h) hown hC.K hP 1 rfl rfl 1 (by decide) (k_CB_152 hC) (fun _ h9 => h9) rfl d_CB_sign_11 ?_
    refine lv_iload_n hx hb d_CB_sign_14 rfl (lv_at hl 2 rfl) ?_
    refine lv_iadd hx hb d_CB_sign_15 ?_
    refine lv_sipush (v := 200) hx hb d_CB_sign_16 (by decide) ?_
    refine lv_icmp_gt (tgt := 26) hx hb d_CB_sign_19 (by decide) (fun c_19 => ?_) (fun c_19 => ?_)
    · refine lv_iconst (v := 0) hx hb d_CB_sign_26 (by decide) ?_
      refine px_call (ix_S (As := [.int 0]) (rest := []) hx hb hown (k_CB_123 hC) (ks_CB_requireRoom hC) (kn_CB hC) (mx_Is.code (args := #[]) (kc_CB_requireRoom hC)) kh_CB_requireRoom rfl kp_CB_requireRoom rfl d_CB_sign_27) (c_CB_requireRoom l hl0 G 0) (kc_CB_requireRoom hC) rfl (mx_Is.code (args := #[]) (kc_CB_requireRoom hC)) (kn_CB hC) hb hC (hP.sub (ws' := []) [] rfl) (hD.sub (ws' := []) [] (by decide) rfl) hS (by decide) (by decide) hsize (Nat.le_of_ble_eq_true rfl) d_CB_sign_27 (fun h_27 => ?_) (fun E H1 q ce h_27 he1 he2 hq1 hq2 hq3 => ?_)
      · exact absurd h_27 (by simp [ck_room])
      · obtain rfl : eUO = E := Option.some.inj ((show ck_room 0 = some eUO from rfl).symm.trans h_27)
        exact gx_out (w' := [(c0, .inr (0, [.ref u0, .ref o0, .ref t0, .ref r0, .ref f0, .ref i0, .ref h0, .ref g0, .ref e0, .int Sc10, .int Sc11, .int Sc12])), (t0, .inr (3, [.ref t1, .int St2])), (t1, .inl (G.2.1 0, 200, .inl Ft1))]) hE hlocks ⟨by first | rfl | (simp only [th_sign, c_19, h_4, Option.none_or, Option.some_or, Option.or_none, or_true, true_or, or_false, false_or, or_self, and_true, true_and, and_false, false_and, and_self, not_true_eq_false, not_false_eq_true, ↓reduceIte]; done) | (simp only [th_sign, c_19, h_4, Option.none_or, Option.some_or, Option.or_none, or_true, true_or, or_false, false_or, or_self, and_true, true_and, and_false, false_and, and_self, not_true_eq_false, not_false_eq_true, ↓reduceIte]; rfl) | (simp [th_sign, c_19, h_4]; done), rfl⟩ (g_kept hP he2) hD (g_keptS hS he1 he2) (Nat.le_of_ble_eq_true rfl) (Nat.le_of_ble_eq_true rfl) hq1 hq2 hq3
    · refine lv_iconst (v := 1) hx hb d_CB_sign_22 (by decide) ?_
      refine lv_goto (tgt := 27) hx hb d_CB_sign_23 (by decide) ?_
      refine px_call (ix_S (As := [.int 1]) (rest := []) hx hb hown (k_CB_123 hC) (ks_CB_requireRoom hC) (kn_CB hC) (mx_Is.code (args := #[]) (kc_CB_requireRoom hC)) kh_CB_requireRoom rfl kp_CB_requireRoom rfl d_CB_sign_27) (c_CB_requireRoom l hl0 G 1) (kc_CB_requireRoom hC) rfl (mx_Is.code (args := #[]) (kc_CB_requireRoom hC)) (kn_CB hC) hb hC (hP.sub (ws' := []) [] rfl) (hD.sub (ws' := []) [] (by decide) rfl) hS (by decide) (by decide) hsize (Nat.le_of_ble_eq_true rfl) d_CB_sign_27 (fun h_27 => ?_) (fun E H1 q ce h_27 he1 he2 hq1 hq2 hq3 => ?_)
      · refine W.eq (g2 := F0 m 30 ls []) rfl ?_
        have h1 : vp_in x 9 := in_r9 h_4
        have h3 : St2.toNatClampNeg + x.toNatClampNeg ≤ 200 := sum_200 hc (in_r9 h_4) c_19
        refine lv_aload_n hx hb d_CB_sign_30 rfl (lv_at hl 0 rfl) ?_
        refine va_get (D := G.1) (ci := 0) (v := .ref t0) (C := R_CB) (T := F_CB) (N := 12) hx hb (u_CB hC) (fun _ h => h) hown hC.K hP 0 rfl rfl 2 (by decide) (k_CB_26 hC) (fun _ h9 => h9) rfl d_CB_sign_31 ?_
        refine lv_lload_n hx hb d_CB_sign_34 rfl (lv_at hl 1 rfl) ?_
        refine lv_iload_n hx hb d_CB_sign_35 rfl (lv_at hl 2 rfl) ?_
        obtain ⟨hPc, hDc⟩ := gl_split (p := [(c0, .inr (0, [.ref u0, .ref o0, .ref t0, .ref r0, .ref f0, .ref i0, .ref h0, .ref g0, .ref e0, .int Sc10, .int Sc11, .int Sc12])), (t0, .inr (3, [.ref t1, .int St2])), (t1, .inl (G.2.1 0, 200, .inl Ft1))]) (rest := rest) (wc := [(t0, .inr (3, [.ref t1, .int St2])), (t1, .inl (G.2.1 0, 200, .inl Ft1))]) (wr := [(c0, .inr (0, [.ref u0, .ref o0, .ref t0, .ref r0, .ref f0, .ref i0, .ref h0, .ref g0, .ref e0, .int Sc10, .int Sc11, .int Sc12]))]) hP hD [1, 2, 0] rfl (by decide)
        refine gx_call (ix_VN (As := [.long pp, .int x]) (rest := []) hx hb hown (k_CB_155 hC) (ki_Ta_write hC) (kv_Ta_write hC) (mx_Is.code (args := #[]) (kc_Ta_write hC)) kh_Ta_write (va_recv hC.K hP (ci := 3) (q0 := 1) rfl rfl) rfl kp_Ta_write rfl d_CB_sign_36) (c_Ta_write l hl0 G t0 t1 Ft1 St2 pp x h1 hc h3) (kc_Ta_write hC) rfl (mx_Is.code (args := #[]) (kc_Ta_write hC)) (kn_Ta hC) hb hC hPc hDc hS (by decide) (by decide) hsize (Nat.le_of_ble_eq_true rfl) d_CB_sign_36 (fun v w' H locs hPo hP hD hS => ?_) (fun E w' H1 locs1 q ce hPx hP hD hS hq1 hq2 hq3 => ?_)
        · obtain ⟨-, rfl, rfl⟩ := hPo
          obtain ⟨hP, hD⟩ := gl_split (p := [(t0, .inr (3, [.ref t1, .int (St2 + x)])), (t1, .inl (G.2.1 0, 200, .inl (wr_all pp x.toNatClampNeg St2.toNatClampNeg Ft1))), (c0, .inr (0, [.ref u0, .ref o0, .ref t0, .ref r0, .ref f0, .ref i0, .ref h0, .ref g0, .ref e0, .int Sc10, .int Sc11, .int Sc12]))]) (rest := rest) (wc := [(c0, .inr (0, [.ref u0, .ref o0, .ref t0, .ref r0, .ref f0, .ref i0, .ref h0, .ref g0, .ref e0, .int Sc10, .int Sc11, .int Sc12])), (t0, .inr (3, [.ref t1, .int (St2 + x)])), (t1, .inl (G.2.1 0, 200, .inl (wr_all pp x.toNatClampNeg St2.toNatClampNeg Ft1)))]) (wr := []) hP hD [2, 0, 1] rfl (by decide)
          have hP : va_P G.1 g_cl ((c0, .inr (0, [.ref u0, .ref o0, .ref t0, .ref r0, .ref f0, .ref i0, .ref h0, .ref g0, .ref e0, .int Sc10, .int Sc11, .int Sc12])) :: (t0, .inr (3, [.ref t1, .int (St2 + x)])) :: (t1, .inl (G.2.1 0, 200, .inl (wr_all pp x.toNatClampNeg St2.toNatClampNeg Ft1))) :: rest) H := hP
          have hD : va_D (g_A G) ((c0, .inr (0, [.ref u0, .ref o0, .ref t0, .ref r0, .ref f0, .ref i0, .ref h0, .ref g0, .ref e0, .int Sc10, .int Sc11, .int Sc12])) :: (t0, .inr (3, [.ref t1, .int (St2 + x)])) :: (t1, .inl (G.2.1 0, 200, .inl (wr_all pp x.toNatClampNeg St2.toNatClampNeg Ft1))) :: rest) := hD
          refine W.eq (g2 := F0 m 39 ls []) rfl ?_
          refine lv_aload_n hx hb d_CB_sign_39 rfl (lv_at hl 0 rfl) ?_
          refine va_get (D := G.1) (ci := 0) (v := .ref t0) (C := R_CB) (T := F_CB) (N := 12) hx hb (u_CB hC) (fun _ h => h) hown hC.K hP 0 rfl rfl 2 (by decide) (k_CB_26 hC) (fun _ h9 => h9) rfl d_CB_sign_40 ?_
          refine va_getN (D := G.1) (ci := 3) (v := .int (St2 + x)) (C := R_Ta) (T := F_Ta) (N := 2) hx hb (u_Ta hC) (fun _ h => h) hown hC.K hP 1 rfl rfl 1 (by decide) (k_CB_152 hC) (fun _ h9 => h9) rfl d_CB_sign_43 ?_
          exact gx_reti [(c0, .inr (0, [.ref u0, .ref o0, .ref t0, .ref r0, .ref f0, .ref i0, .ref h0, .ref g0, .ref e0, .int Sc10, .int Sc11, .int Sc12])), (t0, .inr (3, [.ref t1, .int (St2 + x)])), (t1, .inl (G.2.1 0, 200, .inl (wr_all pp x.toNatClampNeg St2.toNatClampNeg Ft1)))] hx hb hr hlocks ⟨(by first | rfl | (simp only [th_sign, c_19, h_4, Option.none_or, Option.some_or, Option.or_none, or_true, true_or, or_false, false_or, or_self, and_true, true_and, and_false, false_and, and_self, not_true_eq_false, not_false_eq_true, ↓reduceIte]; done) | (simp only [th_sign, c_19, h_4, Option.none_or, Option.some_or, Option.or_none, or_true, true_or, or_false, false_or, or_self, and_true, true_and, and_false, false_and, and_self, not_true_eq_false, not_false_eq_true, ↓reduceIte]; rfl) | (simp [th_sign, c_19, h_4]; done)), rfl, rfl⟩ hP hD hS (Nat.le_of_ble_eq_true rfl) (Nat.le_of_ble_eq_true rfl) d_CB_sign_46
        · exact nomatch hPx.1
      · exact absurd h_27 (by simp [ck_room])
  · exact gx_out (w' := [(c0, .inr (0, [.ref u0, .ref o0, .ref t0, .ref r0, .ref f0, .ref i0, .ref h0, .ref g0, .ref e0, .int Sc10, .int Sc11, .int Sc12])), (t0, .inr (3, [.ref t1, .int St2])), (t1, .inl (G.2.1 0, 200, .inl Ft1))]) hE hlocks ⟨by first | rfl | (simp only [th_sign, h_4, Option.none_or, Option.some_or, Option.or_none, or_true, true_or, or_false, false_or, or_self, and_true, true_and, and_false, false_and, and_self, not_true_eq_false, not_false_eq_true, ↓reduceIte]; done) | (simp only [th_sign, h_4, Option.none_or, Option.some_or, Option.or_none, or_true, true_or, or_false, false_or, or_self, and_true, true_and, and_false, false_and, and_self, not_true_eq_false, not_false_eq_true, ↓reduceIte]; rfl) | (simp [th_sign, h_4]; done), rfl⟩ (g_kept hP he2) hD (g_keptS hS he1 he2) (Nat.le_of_ble_eq_true rfl) (Nat.le_of_ble_eq_true rfl) hq1 hq2 hq3
set_option maxHeartbeats 4000000 in
set_option maxRecDepth 100000 in
theorem c_Re_isDigit (l : Launch) (hl0 : l.stackTraces = false) (G : GG) (x : Int32)  : px l G y_Re_isDigit cd_Re_isDigit rm_Re_isDigit [.int x] [] (none : Option String) (some (.int (if (48 ≤ x ∧ x ≤ 57) then 1 else 0))) := by
  intro rest
  refine mx_of (cc := b_Re_isDigit) (maxL := 1) (ret := (some .boolean)) (by decide) rfl ?_
  intro p e s m args below meth c s₁ B hml hE hv
  obtain ⟨rfl, hC, hP, hD⟩ := hv
  have hx := B.exec
  have hb := B.bytes
  have hr := B.returns
  have hlocks := B.notSynchronized
  have hown : s.vm.findClass R_Re = some m.cls := findClass_of_methodNamed B.named
  have hS : va_S (g_A G) s.heap s.heap [] := va_S.rf
  have hl := lv_entry ([.int x]) (n := 1) (Nat.le_of_ble_eq_true rfl)
  rw [lg_entry_eq]
  generalize (lg_sl ([.int x]) ++ List.replicate (1 - (lg_sl ([.int x])).length) Slot.unset).toArray = ls at hl ⊢
  have hl : lv_has ls 1 [(0, .int x)] := hl
  have hsize : ls.size = c.maxLocals := by rw [hml]; exact hl.1
  have hP : va_P G.1 g_cl rest s.heap := hP
  have hD : va_D (g_A G) rest := hD
  refine lv_iload_n hx hb d_Re_isDigit_0 rfl (lv_at hl 0 rfl) ?_
  refine lv_bipush (v := 48) hx hb d_Re_isDigit_1 (by decide) ?_
  refine lv_icmp_lt (tgt := 16) hx hb d_Re_isDigit_3 (by decide) (fun c_3 => ?_) (fun c_3 => ?_)
  · refine lv_iconst (v := 0) hx hb d_Re_isDigit_16 (by decide) ?_
    exact px_retz hx hb hr hlocks rfl rfl (by rw [if_neg (fun q => absurd q.1 (Int32.not_le.mpr c_3))]) d_Re_isDigit_17
  · refine lv_iload_n hx hb d_Re_isDigit_6 rfl (lv_at hl 0 rfl) ?_
    refine lv_bipush (v := 57) hx hb d_Re_isDigit_7 (by decide) ?_
    refine lv_icmp_gt (tgt := 16) hx hb d_Re_isDigit_9 (by decide) (fun c_9 => ?_) (fun c_9 => ?_)
    · refine lv_iconst (v := 0) hx hb d_Re_isDigit_16 (by decide) ?_
      exact px_retz hx hb hr hlocks rfl rfl (by rw [if_neg (fun q => absurd q.2 (Int32.not_le.mpr c_9))]) d_Re_isDigit_17
    · refine lv_iconst (v := 1) hx hb d_Re_isDigit_12 (by decide) ?_
      refine lv_goto (tgt := 17) hx hb d_Re_isDigit_13 (by decide) ?_
      exact px_retz hx hb hr hlocks rfl rfl (by rw [if_pos ⟨Int32.not_lt.mp c_3, Int32.not_lt.mp c_9⟩]) d_Re_isDigit_17
set_option maxHeartbeats 4000000 in
set_option maxRecDepth 100000 in
theorem c_Re_startNumber (l : Launch) (hl0 : l.stackTraces = false) (G : GG) (r0 : Nat) (r1 : Nat) (r2 : Nat) (r3 : Nat) (Fr1 : Nat → Int32) (Fr2 : Nat → Int32) (Fr3 : Nat → Int32) (Sr4 : Int32) (Sr5 : Int32) (Sr6 : Int32) (Sr7 : Int32) (Sr8 : Int32)  : gx l G y_Re_startNumber cd_Re_startNumber rm_Re_startNumber [.ref r0] [(r0, .inr (4, [.ref r1, .ref r2, .ref r3, .int Sr4, .int Sr5, .int Sr6, .int Sr7, .int Sr8])), (r1, .inl (G.2.1 0, 10, .inl Fr1)), (r2, .inl (G.2.1 0, 10, .inl Fr2)), (r3, .inl (G.2.1 1, 10, .inl Fr3))] (fun v w' => (none : Option String) = none ∧ v = none ∧ w' = [(r0, .inr (4, [.ref r1, .ref r2, .ref r3, .int Sr4, .int Sr5, .int Sr6, .int 0, .int 0])), (r1, .inl (G.2.1 0, 10, .inl Fr1)), (r2, .inl (G.2.1 0, 10, .inl Fr2)), (r3, .inl (G.2.1 1, 10, .inl Fr3))]) (fun E w' => (none : Option String) = some E ∧ w' = [(r0, .inr (4, [.ref r1, .ref r2, .ref r3, .int Sr4, .int Sr5, .int Sr6, .int Sr7, .int Sr8])), (r1, .inl (G.2.1 0, 10, .inl Fr1)), (r2, .inl (G.2.1 0, 10, .inl Fr2)), (r3, .inl (G.2.1 1, 10, .inl Fr3))]) 0 0 := by
  intro rest
  refine mx_of (cc := b_Re_startNumber) (maxL := 1) (ret := none) (by decide) rfl ?_
  intro p e s m args below meth c s₁ B hml hE hv
  obtain ⟨rfl, hC, hP, hD⟩ := hv
  have hx := B.exec
  have hb := B.bytes
  have hr := B.returns
  have hlocks := B.notSynchronized
  have hown : s.vm.findClass R_Re = some m.cls := findClass_of_methodNamed B.named
  have hS : va_S (g_A G) s.heap s.heap [] := va_S.rf
  have hl := lv_entry ([.ref r0]) (n := 1) (Nat.le_of_ble_eq_true rfl)
  rw [lg_entry_eq]
  generalize (lg_sl ([.ref r0]) ++ List.replicate (1 - (lg_sl ([.ref r0])).length) Slot.unset).toArray = ls at hl ⊢
  have hl : lv_has ls 1 [(0, .ref r0)] := hl
  have hsize : ls.size = c.maxLocals := by rw [hml]; exact hl.1
  have hP : va_P G.1 g_cl ((r0, .inr (4, [.ref r1, .ref r2, .ref r3, .int Sr4, .int Sr5, .int Sr6, .int Sr7, .int Sr8])) :: (r1, .inl (G.2.1 0, 10, .inl Fr1)) :: (r2, .inl (G.2.1 0, 10, .inl Fr2)) :: (r3, .inl (G.2.1 1, 10, .inl Fr3)) :: rest) s.heap := hP
  have hD : va_D (g_A G) ((r0, .inr (4, [.ref r1, .ref r2, .ref r3, .int Sr4, .int Sr5, .int Sr6, .int Sr7, .int Sr8])) :: (r1, .inl (G.2.1 0, 10, .inl Fr1)) :: (r2, .inl (G.2.1 0, 10, .inl Fr2)) :: (r3, .inl (G.2.1 1, 10, .inl Fr3)) :: rest) := hD
  refine lv_aload_n hx hb d_Re_startNumber_0 rfl (lv_at hl 0 rfl) ?_
  refine lv_iconst (v := 0) hx hb d_Re_startNumber_1 (by decide) ?_
  refine va_put (D := G.1) (ci := 4) (v := .int 0) (ty := .int) (C := R_Re) (T := F_Re) (N := 8) hx hb (u_Re hC) (fun _ h => h) t_Re t_Re_ok n_Re hown hC.K hP hD hS 0 rfl rfl 6 (by decide) (k_Re_32 hC) (fun _ h9 => h9) rfl (by decide +kernel) rfl rfl (Nat.le_of_ble_eq_true rfl) d_Re_startNumber_2 (fun H locs hP hD hS => ?_)
  have hP : va_P G.1 g_cl ((r0, .inr (4, [.ref r1, .ref r2, .ref r3, .int Sr4, .int Sr5, .int Sr6, .int 0, .int Sr8])) :: (r1, .inl (G.2.1 0, 10, .inl Fr1)) :: (r2, .inl (G.2.1 0, 10, .inl Fr2)) :: (r3, .inl (G.2.1 1, 10, .inl Fr3)) :: rest) H := hP
  have hD : va_D (g_A G) ((r0, .inr (4, [.ref r1, .ref r2, .ref r3, .int Sr4, .int Sr5, .int Sr6, .int 0, .int Sr8])) :: (r1, .inl (G.2.1 0, 10, .inl Fr1)) :: (r2, .inl (G.2.1 0, 10, .inl Fr2)) :: (r3, .inl (G.2.1 1, 10, .inl Fr3)) :: rest) := hD
  refine lv_aload_n hx hb d_Re_startNumber_5 rfl (lv_at hl 0 rfl) ?_
  refine lv_iconst (v := 0) hx hb d_Re_startNumber_6 (by decide) ?_
  refine va_put (D := G.1) (ci := 4) (v := .int 0) (ty := .int) (C := R_Re) (T := F_Re) (N := 8) hx hb (u_Re hC) (fun _ h => h) t_Re t_Re_ok n_Re hown hC.K hP hD hS 0 rfl rfl 7 (by decide) (k_Re_35 hC) (fun _ h9 => h9) rfl (by decide +kernel) rfl rfl (Nat.le_of_ble_eq_true rfl) d_Re_startNumber_7 (fun H locs hP hD hS => ?_)
  have hP : va_P G.1 g_cl ((r0, .inr (4, [.ref r1, .ref r2, .ref r3, .int Sr4, .int Sr5, .int Sr6, .int 0, .int 0])) :: (r1, .inl (G.2.1 0, 10, .inl Fr1)) :: (r2, .inl (G.2.1 0, 10, .inl Fr2)) :: (r3, .inl (G.2.1 1, 10, .inl Fr3)) :: rest) H := hP
  have hD : va_D (g_A G) ((r0, .inr (4, [.ref r1, .ref r2, .ref r3, .int Sr4, .int Sr5, .int Sr6, .int 0, .int 0])) :: (r1, .inl (G.2.1 0, 10, .inl Fr1)) :: (r2, .inl (G.2.1 0, 10, .inl Fr2)) :: (r3, .inl (G.2.1 1, 10, .inl Fr3)) :: rest) := hD
  exact gx_retv [(r0, .inr (4, [.ref r1, .ref r2, .ref r3, .int Sr4, .int Sr5, .int Sr6, .int 0, .int 0])), (r1, .inl (G.2.1 0, 10, .inl Fr1)), (r2, .inl (G.2.1 0, 10, .inl Fr2)), (r3, .inl (G.2.1 1, 10, .inl Fr3))] hx hb hr hlocks ⟨rfl, rfl, rfl⟩ hP hD hS (Nat.le_of_ble_eq_true rfl) (Nat.le_of_ble_eq_true rfl) d_Re_startNumber_10
set_option maxHeartbeats 4000000 in
set_option maxRecDepth 100000 in
theorem c_Re_startAnew (l : Launch) (hl0 : l.stackTraces = false) (G : GG) (r0 : Nat) (r1 : Nat) (r2 : Nat) (r3 : Nat) (Fr1 : Nat → Int32) (Fr2 : Nat → Int32) (Fr3 : Nat → Int32) (Sr4 : Int32) (Sr5 : Int32) (Sr6 : Int32) (Sr7 : Int32) (Sr8 : Int32)  : gx l G y_Re_startAnew cd_Re_startAnew rm_Re_startAnew [.ref r0] [(r0, .inr (4, [.ref r1, .ref r2, .ref r3, .int Sr4, .int Sr5, .int Sr6, .int Sr7, .int Sr8])), (r1, .inl (G.2.1 0, 10, .inl Fr1)), (r2, .inl (G.2.1 0, 10, .inl Fr2)), (r3, .inl (G.2.1 1, 10, .inl Fr3))] (fun v w' => (none : Option String) = none ∧ v = none ∧ w' = [(r0, .inr (4, [.ref r1, .ref r2, .ref r3, .int 0, .int 0, .int Sr6, .int 0, .int 0])), (r1, .inl (G.2.1 0, 10, .inl (zf Fr1 10))), (r2, .inl (G.2.1 0, 10, .inl (zf Fr2 10))), (r3, .inl (G.2.1 1, 10, .inl (zf Fr3 10)))]) (fun E w' => (none : Option String) = some E ∧ w' = [(r0, .inr (4, [.ref r1, .ref r2, .ref r3, .int Sr4, .int Sr5, .int Sr6, .int Sr7, .int Sr8])), (r1, .inl (G.2.1 0, 10, .inl Fr1)), (r2, .inl (G.2.1 0, 10, .inl Fr2)), (r3, .inl (G.2.1 1, 10, .inl Fr3))]) 0 0 := by
  intro rest
  refine mx_of (cc := b_Re_startAnew) (maxL := 2) (ret := none) (by decide) rfl ?_
  intro p e s m args below meth c s₁ B hml hE hv
  obtain ⟨rfl, hC, hP, hD⟩ := hv
  have hx := B.exec
  have hb := B.bytes
  have hr := B.returns
  have hlocks := B.notSynchronized
  have hown : s.vm.findClass R_Re = some m.cls := findClass_of_methodNamed B.named
  have hS : va_S (g_A G) s.heap s.heap [] := va_S.rf
  have hl := lv_entry ([.ref r0]) (n := 2) (Nat.le_of_ble_eq_true rfl)
  rw [lg_entry_eq]
  generalize (lg_sl ([.ref r0]) ++ List.replicate (2 - (lg_sl ([.ref r0])).length) Slot.unset).toArray = ls at hl ⊢
  have hl : lv_has ls 2 [(0, .ref r0)] := hl
  have hsize : ls.size = c.maxLocals := by rw [hml]; exact hl.1
  have hP : va_P G.1 g_cl ((r0, .inr (4, [.ref r1, .ref r2, .ref r3, .int Sr4, .int Sr5, .int Sr6, .int Sr7, .int Sr8])) :: (r1, .inl (G.2.1 0, 10, .inl Fr1)) :: (r2, .inl (G.2.1 0, 10, .inl Fr2)) :: (r3, .inl (G.2.1 1, 10, .inl Fr3)) :: rest) s.heap := hP
  have hD : va_D (g_A G) ((r0, .inr (4, [.ref r1, .ref r2, .ref r3, .int Sr4, .int Sr5, .int Sr6, .int Sr7, .int Sr8])) :: (r1, .inl (G.2.1 0, 10, .inl Fr1)) :: (r2, .inl (G.2.1 0, 10, .inl Fr2)) :: (r3, .inl (G.2.1 1, 10, .inl Fr3)) :: rest) := hD
  refine lv_iconst (v := 0) hx hb d_Re_startAnew_0 (by decide) ?_
  refine lv_istore_n (lv' := [(1, .int 0), (0, .ref r0)]) hx hb d_Re_startAnew_1 rfl hl (by decide) rfl (fun ls hl => ?_)
  have hsize : ls.size = c.maxLocals := by rw [hml]; exact hl.1
  have loop_2 : ∀ (n : Nat) (i : Nat) (fa : Nat → Int32) (fb : Nat → Int32) (fc : Nat → Int32) (ls : Array Slot) (H : Heap) (locs : List Loc), (i + n = 10) → (fa = zf Fr1 i) → (fb = zf Fr2 i) → (fc = zf Fr3 i) → lv_has ls 2 [(1, .int (nI i)), (0, .ref r0)] → va_P G.1 g_cl ((r0, .inr (4, [.ref r1, .ref r2, .ref r3, .int Sr4, .int Sr5, .int Sr6, .int Sr7, .int Sr8])) :: (r1, .inl (G.2.1 0, 10, .inl fa)) :: (r2, .inl (G.2.1 0, 10, .inl fb)) :: (r3, .inl (G.2.1 1, 10, .inl fc)) :: rest) H → va_D (g_A G) ((r0, .inr (4, [.ref r1, .ref r2, .ref r3, .int Sr4, .int Sr5, .int Sr6, .int Sr7, .int Sr8])) :: (r1, .inl (G.2.1 0, 10, .inl fa)) :: (r2, .inl (G.2.1 0, 10, .inl fb)) :: (r3, .inl (G.2.1 1, 10, .inl fc)) :: rest) → va_S (g_A G) s.heap H locs → W p l e rm_Re_startAnew s m ([.ref r0].toArray) below meth c H locs 0 0 (mx_E below (gx_R G rest (fun v w' => (none : Option String) = none ∧ v = none ∧ w' = [(r0, .inr (4, [.ref r1, .ref r2, .ref r3, .int 0, .int 0, .int Sr6, .int 0, .int 0])), (r1, .inl (G.2.1 0, 10, .inl (zf Fr1 10))), (r2, .inl (G.2.1 0, 10, .inl (zf Fr2 10))), (r3, .inl (G.2.1 1, 10, .inl (zf Fr3 10)))])) (gx_T G rest (fun E w' => (none : Option String) = some E ∧ w' = [(r0, .inr (4, [.ref r1, .ref r2, .ref r3, .int Sr4, .int Sr5, .int Sr6, .int Sr7, .int Sr8])), (r1, .inl (G.2.1 0, 10, .inl Fr1)), (r2, .inl (G.2.1 0, 10, .inl Fr2)), (r3, .inl (G.2.1 1, 10, .inl Fr3))])) (g_A G) 0 0 ([.ref r0].toArray) s) (F0 m 2 ls []) := by
    intro n
    induction n with
    | zero =>
      intro i fa fb fc ls H locs hin e1 e2 e3 hl hP hD hS
      have hsize : ls.size = c.maxLocals := by rw [hml]; exact hl.1
      obtain ei : i = 10 := by omega
      rw [ei] at e1 e2 e3
      refine lv_iload_n hx hb d_Re_startAnew_2 rfl (lv_at hl 0 rfl) ?_
      refine lv_bipush (v := 10) hx hb d_Re_startAnew_3 (by decide) ?_
      refine lv_icmp_ge (tgt := 35) hx hb d_Re_startAnew_5 (by decide) (fun c_5 => ?_) (fun c_5 => ?_)
      · refine lv_aload_n hx hb d_Re_startAnew_35 rfl (lv_at hl 1 rfl) ?_
        refine lv_iconst (v := 0) hx hb d_Re_startAnew_36 (by decide) ?_
        refine va_put (D := G.1) (ci := 4) (v := .int 0) (ty := .int) (C := R_Re) (T := F_Re) (N := 8) hx hb (u_Re hC) (fun _ h => h) t_Re t_Re_ok n_Re hown hC.K hP hD hS 0 rfl rfl 3 (by decide) (k_Re_22 hC) (fun _ h9 => h9) rfl (by decide +kernel) rfl rfl (Nat.le_of_ble_eq_true rfl) d_Re_startAnew_37 (fun H locs hP hD hS => ?_)
        have hP : va_P G.1 g_cl ((r0, .inr (4, [.ref r1, .ref r2, .ref r3, .int 0, .int Sr5, .int Sr6, .int Sr7, .int Sr8])) :: (r1, .inl (G.2.1 0, 10, .inl fa)) :: (r2, .inl (G.2.1 0, 10, .inl fb)) :: (r3, .inl (G.2.1 1, 10, .inl fc)) :: rest) H := hP
        have hD : va_D (g_A G) ((r0, .inr (4, [.ref r1, .ref r2, .ref r3, .int 0, .int Sr5, .int Sr6, .int Sr7, .int Sr8])) :: (r1, .inl (G.2.1 0, 10, .inl fa)) :: (r2, .inl (G.2.1 0, 10, .inl fb)) :: (r3, .inl (G.2.1 1, 10, .inl fc)) :: rest) := hD
        refine lv_aload_n hx hb d_Re_startAnew_40 rfl (lv_at hl 1 rfl) ?_
        refine lv_iconst (v := 0) hx hb d_Re_startAnew_41 (by decide) ?_
        refine va_put (D := G.1) (ci := 4) (v := .int 0) (ty := .int) (C := R_Re) (T := F_Re) (N := 8) hx hb (u_Re hC) (fun _ h => h) t_Re t_Re_ok n_Re hown hC.K hP hD hS 0 rfl rfl 4 (by decide) (k_Re_26 hC) (fun _ h9 => h9) rfl (by decide +kernel) rfl rfl (Nat.le_of_ble_eq_true rfl) d_Re_startAnew_42 (fun H locs hP hD hS => ?_)
        have hP : va_P G.1 g_cl ((r0, .inr (4, [.ref r1, .ref r2, .ref r3, .int 0, .int 0, .int Sr6, .int Sr7, .int Sr8])) :: (r1, .inl (G.2.1 0, 10, .inl fa)) :: (r2, .inl (G.2.1 0, 10, .inl fb)) :: (r3, .inl (G.2.1 1, 10, .inl fc)) :: rest) H := hP
        have hD : va_D (g_A G) ((r0, .inr (4, [.ref r1, .ref r2, .ref r3, .int 0, .int 0, .int Sr6, .int Sr7, .int Sr8])) :: (r1, .inl (G.2.1 0, 10, .inl fa)) :: (r2, .inl (G.2.1 0, 10, .inl fb)) :: (r3, .inl (G.2.1 1, 10, .inl fc)) :: rest) := hD
        refine lv_aload_n hx hb d_Re_startAnew_45 rfl (lv_at hl 1 rfl) ?_
        obtain ⟨hPc, hDc⟩ := gl_split (p := [(r0, .inr (4, [.ref r1, .ref r2, .ref r3, .int 0, .int 0, .int Sr6, .int Sr7, .int Sr8])), (r1, .inl (G.2.1 0, 10, .inl fa)), (r2, .inl (G.2.1 0, 10, .inl fb)), (r3, .inl (G.2.1 1, 10, .inl fc))]) (rest := rest) (wc := [(r0, .inr (4, [.ref r1, .ref r2, .ref r3, .int 0, .int 0, .int Sr6, .int Sr7, .int Sr8])), (r1, .inl (G.2.1 0, 10, .inl fa)), (r2, .inl (G.2.1 0, 10, .inl fb)), (r3, .inl (G.2.1 1, 10, .inl fc))]) (wr := []) hP hD [0, 1, 2, 3] rfl (by decide)
        refine gx_call (ix_V (As := []) (rest := []) hx hb hown (k_Re_53 hC) (ki_Re_startNumber hC) (kv_Re_startNumber hC) (mx_Is.code (args := #[]) (kc_Re_startNumber hC)) kh_Re_startNumber (va_recv hC.K hP (ci := 4) (q0 := 0) rfl rfl) rfl kp_Re_startNumber rfl d_Re_startAnew_46) (c_Re_startNumber l hl0 G r0 r1 r2 r3 fa fb fc 0 0 Sr6 Sr7 Sr8) (kc_Re_startNumber hC) rfl (mx_Is.code (args := #[]) (kc_Re_startNumber hC)) (kn_Re hC) hb hC hPc hDc hS (by decide) (by decide) hsize (Nat.le_of_ble_eq_true rfl) d_Re_startAnew_46 (fun v w' H locs hPo hP hD hS => ?_) (fun E w' H1 locs1 q ce hPx hP hD hS hq1 hq2 hq3 => ?_)
        · obtain ⟨-, rfl, rfl⟩ := hPo
          obtain ⟨hP, hD⟩ := gl_split (p := [(r0, .inr (4, [.ref r1, .ref r2, .ref r3, .int 0, .int 0, .int Sr6, .int 0, .int 0])), (r1, .inl (G.2.1 0, 10, .inl fa)), (r2, .inl (G.2.1 0, 10, .inl fb)), (r3, .inl (G.2.1 1, 10, .inl fc))]) (rest := rest) (wc := [(r0, .inr (4, [.ref r1, .ref r2, .ref r3, .int 0, .int 0, .int Sr6, .int 0, .int 0])), (r1, .inl (G.2.1 0, 10, .inl fa)), (r2, .inl (G.2.1 0, 10, .inl fb)), (r3, .inl (G.2.1 1, 10, .inl fc))]) (wr := []) hP hD [0, 1, 2, 3] rfl (by decide)
          have hP : va_P G.1 g_cl ((r0, .inr (4, [.ref r1, .ref r2, .ref r3, .int 0, .int 0, .int Sr6, .int 0, .int 0])) :: (r1, .inl (G.2.1 0, 10, .inl fa)) :: (r2, .inl (G.2.1 0, 10, .inl fb)) :: (r3, .inl (G.2.1 1, 10, .inl fc)) :: rest) H := hP
          have hD : va_D (g_A G) ((r0, .inr (4, [.ref r1, .ref r2, .ref r3, .int 0, .int 0, .int Sr6, .int 0, .int 0])) :: (r1, .inl (G.2.1 0, 10, .inl fa)) :: (r2, .inl (G.2.1 0, 10, .inl fb)) :: (r3, .inl (G.2.1 1, 10, .inl fc)) :: rest) := hD
          refine W.eq (g2 := F0 m 49 ls []) rfl ?_
          exact gx_retv [(r0, .inr (4, [.ref r1, .ref r2, .ref r3, .int 0, .int 0, .int Sr6, .int 0, .int 0])), (r1, .inl (G.2.1 0, 10, .inl fa)), (r2, .inl (G.2.1 0, 10, .inl fb)), (r3, .inl (G.2.1 1, 10, .inl fc))] hx hb hr hlocks ⟨rfl, rfl, (by rw [e1, e2, e3])⟩ hP hD hS (Nat.le_of_ble_eq_true rfl) (Nat.le_of_ble_eq_true rfl) d_Re_startAnew_49
        · exact nomatch hPx.1
      · exact absurd (by rw [show i = 10 by omega]; decide) c_5
    | succ n ih =>
      intro i fa fb fc ls H locs hin e1 e2 e3 hl hP hD hS
      have hsize : ls.size = c.maxLocals := by rw [hml]; exact hl.1
      have hi : vp_in (nI i) 10 := vp_in_nI (by omega) (by decide)
      have eki : (nI i).toNatClampNeg = i := nI_clamp (by omega)
      refine lv_iload_n hx hb d_Re_startAnew_2 rfl (lv_at hl 0 rfl) ?_
      refine lv_bipush (v := 10) hx hb d_Re_startAnew_3 (by decide) ?_
      refine lv_icmp_ge (tgt := 35) hx hb d_Re_startAnew_5 (by decide) (fun c_5 => ?_) (fun c_5 => ?_)
      · exact absurd c_5 (le_lit (N := 10) (by decide +kernel) (by omega) (by decide))
      · refine lv_aload_n hx hb d_Re_startAnew_8 rfl (lv_at hl 1 rfl) ?_
        refine va_get (D := G.1) (ci := 4) (v := .ref r1) (C := R_Re) (T := F_Re) (N := 8) hx hb (u_Re hC) (fun _ h => h) hown hC.K hP 0 rfl rfl 0 (by decide) (k_Re_9 hC) (fun _ h9 => h9) rfl d_Re_startAnew_9 ?_
        refine lv_iload_n hx hb d_Re_startAnew_12 rfl (lv_at hl 0 rfl) ?_
        refine lv_iconst (v := 0) hx hb d_Re_startAnew_13 (by decide) ?_
        refine va_iast hx hb hC.K hP hD hS 1 0 rfl rfl hi d_Re_startAnew_14 (fun H locs hP hD hS => ?_)
        have hP : va_P G.1 g_cl ((r0, .inr (4, [.ref r1, .ref r2, .ref r3, .int Sr4, .int Sr5, .int Sr6, .int Sr7, .int Sr8])) :: (r1, .inl (G.2.1 0, 10, .inl (upd fa (nI i).toNatClampNeg 0))) :: (r2, .inl (G.2.1 0, 10, .inl fb)) :: (r3, .inl (G.2.1 1, 10, .inl fc)) :: rest) H := hP
        have hD : va_D (g_A G) ((r0, .inr (4, [.ref r1, .ref r2, .ref r3, .int Sr4, .int Sr5, .int Sr6, .int Sr7, .int Sr8])) :: (r1, .inl (G.2.1 0, 10, .inl (upd fa (nI i).toNatClampNeg 0))) :: (r2, .inl (G.2.1 0, 10, .inl fb)) :: (r3, .inl (G.2.1 1, 10, .inl fc)) :: rest) := hD
        refine lv_aload_n hx hb d_Re_startAnew_15 rfl (lv_at hl 1 rfl) ?_
        refine va_get (D := G.1) (ci := 4) (v := .ref r2) (C := R_Re) (T := F_Re) (N := 8) hx hb (u_Re hC) (fun _ h => h) hown hC.K hP 0 rfl rfl 1 (by decide) (k_Re_15 hC) (fun _ h9 => h9) rfl d_Re_startAnew_16 ?_
        refine lv_iload_n hx hb d_Re_startAnew_19 rfl (lv_at hl 0 rfl) ?_
        refine lv_iconst (v := 0) hx hb d_Re_startAnew_20 (by decide) ?_
        refine va_iast hx hb hC.K hP hD hS 2 0 rfl rfl hi d_Re_startAnew_21 (fun H locs hP hD hS => ?_)
        have hP : va_P G.1 g_cl ((r0, .inr (4, [.ref r1, .ref r2, .ref r3, .int Sr4, .int Sr5, .int Sr6, .int Sr7, .int Sr8])) :: (r1, .inl (G.2.1 0, 10, .inl (upd fa (nI i).toNatClampNeg 0))) :: (r2, .inl (G.2.1 0, 10, .inl (upd fb (nI i).toNatClampNeg 0))) :: (r3, .inl (G.2.1 1, 10, .inl fc)) :: rest) H := hP
        have hD : va_D (g_A G) ((r0, .inr (4, [.ref r1, .ref r2, .ref r3, .int Sr4, .int Sr5, .int Sr6, .int Sr7, .int Sr8])) :: (r1, .inl (G.2.1 0, 10, .inl (upd fa (nI i).toNatClampNeg 0))) :: (r2, .inl (G.2.1 0, 10, .inl (upd fb (nI i).toNatClampNeg 0))) :: (r3, .inl (G.2.1 1, 10, .inl fc)) :: rest) := hD
        refine lv_aload_n hx hb d_Re_startAnew_22 rfl (lv_at hl 1 rfl) ?_
        refine va_get (D := G.1) (ci := 4) (v := .ref r3) (C := R_Re) (T := F_Re) (N := 8) hx hb (u_Re hC) (fun _ h => h) hown hC.K hP 0 rfl rfl 2 (by decide) (k_Re_18 hC) (fun _ h9 => h9) rfl d_Re_startAnew_23 ?_
        refine lv_iload_n hx hb d_Re_startAnew_26 rfl (lv_at hl 0 rfl) ?_
        refine lv_iconst (v := 0) hx hb d_Re_startAnew_27 (by decide) ?_
        refine va_zast hx hb hC.K hP hD hS 3 1 rfl rfl hi d_Re_startAnew_28 (fun H locs hP hD hS => ?_)
        have hP : va_P G.1 g_cl ((r0, .inr (4, [.ref r1, .ref r2, .ref r3, .int Sr4, .int Sr5, .int Sr6, .int Sr7, .int Sr8])) :: (r1, .inl (G.2.1 0, 10, .inl (upd fa (nI i).toNatClampNeg 0))) :: (r2, .inl (G.2.1 0, 10, .inl (upd fb (nI i).toNatClampNeg 0))) :: (r3, .inl (G.2.1 1, 10, .inl (upd fc (nI i).toNatClampNeg 0))) :: rest) H := hP
        have hD : va_D (g_A G) ((r0, .inr (4, [.ref r1, .ref r2, .ref r3, .int Sr4, .int Sr5, .int Sr6, .int Sr7, .int Sr8])) :: (r1, .inl (G.2.1 0, 10, .inl (upd fa (nI i).toNatClampNeg 0))) :: (r2, .inl (G.2.1 0, 10, .inl (upd fb (nI i).toNatClampNeg 0))) :: (r3, .inl (G.2.1 1, 10, .inl (upd fc (nI i).toNatClampNeg 0))) :: rest) := hD
        refine lv_iinc (v := ((nI i) + 1)) (lv' := [(1, .int ((nI i) + 1)), (0, .ref r0)]) hx hb d_Re_startAnew_29 hl (k := 0) rfl rfl (by decide) rfl (fun ls hl => ?_)
        have hsize : ls.size = c.maxLocals := by rw [hml]; exact hl.1
        refine lv_goto (tgt := 2) hx hb d_Re_startAnew_32 (by decide) ?_
        rw [nI_1] at hl
        rw [eki] at hP hD
        exact ih (i + 1) _ _ _ ls _ _ (by omega) (by rw [e1, zf_s]) (by rw [e2, zf_s]) (by rw [e3, zf_s]) (lv_sub hl [0, 1] rfl) hP hD hS
  exact loop_2 10 0 Fr1 Fr2 Fr3 ls _ _ rfl ((zf_0 Fr1).symm) ((zf_0 Fr2).symm) ((zf_0 Fr3).symm) (lv_sub hl [0, 1] rfl) hP hD hS
set_option maxHeartbeats 4000000 in
set_option maxRecDepth 100000 in
theorem c_Re_takesKind (l : Launch) (hl0 : l.stackTraces = false) (G : GG) (r0 : Nat) (r1 : Nat) (r2 : Nat) (r3 : Nat) (Fr1 : Nat → Int32) (Fr2 : Nat → Int32) (Fr3 : Nat → Int32) (Sr4 : Int32) (Sr5 : Int32) (Sr6 : Int32) (Sr7 : Int32) (Sr8 : Int32) (x : Int32)  : gx l G y_Re_takesKind cd_Re_takesKind rm_Re_takesKind [.ref r0, .int x] [(r0, .inr (4, [.ref r1, .ref r2, .ref r3, .int Sr4, .int Sr5, .int Sr6, .int Sr7, .int Sr8])), (r1, .inl (G.2.1 0, 10, .inl Fr1)), (r2, .inl (G.2.1 0, 10, .inl Fr2)), (r3, .inl (G.2.1 1, 10, .inl Fr3))] (fun v w' => (none : Option String) = none ∧ v = (some (.int (if ((48 ≤ x ∧ x ≤ 57) ∧ (Fr3 (x - 48).toNatClampNeg) = 0) then 1 else 0))) ∧ w' = [(r0, .inr (4, [.ref r1, .ref r2, .ref r3, .int Sr4, .int (if ((48 ≤ x ∧ x ≤ 57) ∧ (Fr3 (x - 48).toNatClampNeg) = 0) then 1 else Sr5), .int (if ((48 ≤ x ∧ x ≤ 57) ∧ (Fr3 (x - 48).toNatClampNeg) = 0) then (x - 48) else Sr6), .int Sr7, .int Sr8])), (r1, .inl (G.2.1 0, 10, .inl Fr1)), (r2, .inl (G.2.1 0, 10, .inl Fr2)), (r3, .inl (G.2.1 1, 10, .inl (if ((48 ≤ x ∧ x ≤ 57) ∧ (Fr3 (x - 48).toNatClampNeg) = 0) then (upd Fr3 (x - 48).toNatClampNeg 1) else Fr3)))]) (fun E w' => (none : Option String) = some E ∧ w' = [(r0, .inr (4, [.ref r1, .ref r2, .ref r3, .int Sr4, .int Sr5, .int Sr6, .int Sr7, .int Sr8])), (r1, .inl (G.2.1 0, 10, .inl Fr1)), (r2, .inl (G.2.1 0, 10, .inl Fr2)), (r3, .inl (G.2.1 1, 10, .inl Fr3))]) 0 0 := by
  intro rest
  refine mx_of (cc := b_Re_takesKind) (maxL := 2) (ret := (some .boolean)) (by decide) rfl ?_
  intro p e s m args below meth c s₁ B hml hE hv
  obtain ⟨rfl, hC, hP, hD⟩ := hv
  have hx := B.exec
  have hb := B.bytes
  have hr := B.returns
  have hlocks := B.notSynchronized
  have hown : s.vm.findClass R_Re = some m.cls := findClass_of_methodNamed B.named
  have hS : va_S (g_A G) s.heap s.heap [] := va_S.rf
  have hl := lv_entry ([.ref r0, .int x]) (n := 2) (Nat.le_of_ble_eq_true rfl)
  rw [lg_entry_eq]
  generalize (lg_sl ([.ref r0, .int x]) ++ List.replicate (2 - (lg_sl ([.ref r0, .int x])).length) Slot.unset).toArray = ls at hl ⊢
  have hl : lv_has ls 2 [(0, .ref r0), (1, .int x)] := hl
  have hsize : ls.size = c.maxLocals := by rw [hml]; exact hl.1
  have hP : va_P G.1 g_cl ((r0, .inr (4, [.ref r1, .ref r2, .ref r3, .int Sr4, .int Sr5, .int Sr6, .int Sr7, .int Sr8])) :: (r1, .inl (G.2.1 0, 10, .inl Fr1)) :: (r2, .inl (G.2.1 0, 10, .inl Fr2)) :: (r3, .inl (G.2.1 1, 10, .inl Fr3)) :: rest) s.heap := hP
  have hD : va_D (g_A G) ((r0, .inr (4, [.ref r1, .ref r2, .ref r3, .int Sr4, .int Sr5, .int Sr6, .int Sr7, .int Sr8])) :: (r1, .inl (G.2.1 0, 10, .inl Fr1)) :: (r2, .inl (G.2.1 0, 10, .inl Fr2)) :: (r3, .inl (G.2.1 1, 10, .inl Fr3)) :: rest) := hD
  refine lv_iload_n hx hb d_Re_takesKind_0 rfl (lv_at hl 1 rfl) ?_
  refine px_callN (ix_S (As := [.int x]) (rest := []) hx hb hown (k_Re_69 hC) (ks_Re_isDigit hC) (kn_Re hC) (mx_Is.code (args := #[]) (kc_Re_isDigit hC)) kh_Re_isDigit rfl kp_Re_isDigit rfl d_Re_takesKind_1) (c_Re_isDigit l hl0 G x) (kc_Re_isDigit hC) rfl (mx_Is.code (args := #[]) (kc_Re_isDigit hC)) (kn_Re hC) hb hC (hP.sub (ws' := []) [] rfl) (hD.sub (ws' := []) [] (by decide) rfl) hS (by decide) (by decide) hsize (Nat.le_of_ble_eq_true rfl) d_Re_takesKind_1 ?_
  by_cases b_1 : (48 ≤ x ∧ x ≤ 57)
  · rw [if_pos b_1]
    refine W.eq (g2 := F0 m 4 ls [.int 1]) rfl ?_
    refine lv_if_eq (tgt := 19) hx hb d_Re_takesKind_4 (by decide) (fun c_4 => absurd c_4 (by decide)) (fun _ => ?_)
    have hk : vp_in (x - 48) 10 := in_dig b_1
    refine lv_aload_n hx hb d_Re_takesKind_7 rfl (lv_at hl 0 rfl) ?_
    refine va_get (D := G.1) (ci := 4) (v := .ref r3) (C := R_Re) (T := F_Re) (N := 8) hx hb (u_Re hC) (fun _ h => h) hown hC.K hP 0 rfl rfl 2 (by decide) (k_Re_18 hC) (fun _ h9 => h9) rfl d_Re_takesKind_8 ?_
    refine lv_iload_n hx hb d_Re_takesKind_11 rfl (lv_at hl 1 rfl) ?_
    refine lv_bipush (v := 48) hx hb d_Re_takesKind_12 (by decide) ?_
    refine lv_isub hx hb d_Re_takesKind_14 ?_
    refine va_zald hx hb hC.K hP 3 1 rfl rfl hk d_Re_takesKind_15 ?_
    refine lv_if_eq (tgt := 21) hx hb d_Re_takesKind_16 (by decide) (fun c_16 => ?_) (fun c_16 => ?_)
    · have hk : vp_in (x - 48) 10 := in_dig b_1
      refine lv_aload_n hx hb d_Re_takesKind_21 rfl (lv_at hl 0 rfl) ?_
      refine lv_iload_n hx hb d_Re_takesKind_22 rfl (lv_at hl 1 rfl) ?_
      refine lv_bipush (v := 48) hx hb d_Re_takesKind_23 (by decide) ?_
      refine lv_isub hx hb d_Re_takesKind_25 ?_
      refine va_put (D := G.1) (ci := 4) (v := .int (x - 48)) (ty := .int) (C := R_Re) (T := F_Re) (N := 8) hx hb (u_Re hC) (fun _ h => h) t_Re t_Re_ok n_Re hown hC.K hP hD hS 0 rfl rfl 5 (by decide) (k_Re_29 hC) (fun _ h9 => h9) rfl (by decide +kernel) rfl rfl (Nat.le_of_ble_eq_true rfl) d_Re_takesKind_26 (fun H locs hP hD hS => ?_)
      have hP : va_P G.1 g_cl ((r0, .inr (4, [.ref r1, .ref r2, .ref r3, .int Sr4, .int Sr5, .int (x - 48), .int Sr7, .int Sr8])) :: (r1, .inl (G.2.1 0, 10, .inl Fr1)) :: (r2, .inl (G.2.1 0, 10, .inl Fr2)) :: (r3, .inl (G.2.1 1, 10, .inl Fr3)) :: rest) H := hP
      have hD : va_D (g_A G) ((r0, .inr (4, [.ref r1, .ref r2, .ref r3, .int Sr4, .int Sr5, .int (x - 48), .int Sr7, .int Sr8])) :: (r1, .inl (G.2.1 0, 10, .inl Fr1)) :: (r2, .inl (G.2.1 0, 10, .inl Fr2)) :: (r3, .inl (G.2.1 1, 10, .inl Fr3)) :: rest) := hD
      refine lv_aload_n hx hb d_Re_takesKind_29 rfl (lv_at hl 0 rfl) ?_
      refine va_get (D := G.1) (ci := 4) (v := .ref r3) (C := R_Re) (T := F_Re) (N := 8) hx hb (u_Re hC) (fun _ h => h) hown hC.K hP 0 rfl rfl 2 (by decide) (k_Re_18 hC) (fun _ h9 => h9) rfl d_Re_takesKind_30 ?_
      refine lv_aload_n hx hb d_Re_takesKind_33 rfl (lv_at hl 0 rfl) ?_
      refine va_get (D := G.1) (ci := 4) (v := .int (x - 48)) (C := R_Re) (T := F_Re) (N := 8) hx hb (u_Re hC) (fun _ h => h) hown hC.K hP 0 rfl rfl 5 (by decide) (k_Re_29 hC) (fun _ h9 => h9) rfl d_Re_takesKind_34 ?_
      refine lv_iconst (v := 1) hx hb d_Re_takesKind_37 (by decide) ?_
      refine va_zast hx hb hC.K hP hD hS 3 1 rfl rfl hk d_Re_takesKind_38 (fun H locs hP hD hS => ?_)
      have hP : va_P G.1 g_cl ((r0, .inr (4, [.ref r1, .ref r2, .ref r3, .int Sr4, .int Sr5, .int (x - 48), .int Sr7, .int Sr8])) :: (r1, .inl (G.2.1 0, 10, .inl Fr1)) :: (r2, .inl (G.2.1 0, 10, .inl Fr2)) :: (r3, .inl (G.2.1 1, 10, .inl (upd Fr3 (x - 48).toNatClampNeg 1))) :: rest) H := hP
      have hD : va_D (g_A G) ((r0, .inr (4, [.ref r1, .ref r2, .ref r3, .int Sr4, .int Sr5, .int (x - 48), .int Sr7, .int Sr8])) :: (r1, .inl (G.2.1 0, 10, .inl Fr1)) :: (r2, .inl (G.2.1 0, 10, .inl Fr2)) :: (r3, .inl (G.2.1 1, 10, .inl (upd Fr3 (x - 48).toNatClampNeg 1))) :: rest) := hD
      refine lv_aload_n hx hb d_Re_takesKind_39 rfl (lv_at hl 0 rfl) ?_
      refine lv_iconst (v := 1) hx hb d_Re_takesKind_40 (by decide) ?_
      refine va_put (D := G.1) (ci := 4) (v := .int 1) (ty := .int) (C := R_Re) (T := F_Re) (N := 8) hx hb (u_Re hC) (fun _ h => h) t_Re t_Re_ok n_Re hown hC.K hP hD hS 0 rfl rfl 4 (by decide) (k_Re_26 hC) (fun _ h9 => h9) rfl (by decide +kernel) rfl rfl (Nat.le_of_ble_eq_true rfl) d_Re_takesKind_41 (fun H locs hP hD hS => ?_)
      have hP : va_P G.1 g_cl ((r0, .inr (4, [.ref r1, .ref r2, .ref r3, .int Sr4, .int 1, .int (x - 48), .int Sr7, .int Sr8])) :: (r1, .inl (G.2.1 0, 10, .inl Fr1)) :: (r2, .inl (G.2.1 0, 10, .inl Fr2)) :: (r3, .inl (G.2.1 1, 10, .inl (upd Fr3 (x - 48).toNatClampNeg 1))) :: rest) H := hP
      have hD : va_D (g_A G) ((r0, .inr (4, [.ref r1, .ref r2, .ref r3, .int Sr4, .int 1, .int (x - 48), .int Sr7, .int Sr8])) :: (r1, .inl (G.2.1 0, 10, .inl Fr1)) :: (r2, .inl (G.2.1 0, 10, .inl Fr2)) :: (r3, .inl (G.2.1 1, 10, .inl (upd Fr3 (x - 48).toNatClampNeg 1))) :: rest) := hD
      refine lv_iconst (v := 1) hx hb d_Re_takesKind_44 (by decide) ?_
      exact gx_retz [(r0, .inr (4, [.ref r1, .ref r2, .ref r3, .int Sr4, .int 1, .int (x - 48), .int Sr7, .int Sr8])), (r1, .inl (G.2.1 0, 10, .inl Fr1)), (r2, .inl (G.2.1 0, 10, .inl Fr2)), (r3, .inl (G.2.1 1, 10, .inl (upd Fr3 (x - 48).toNatClampNeg 1)))] hx hb hr hlocks rfl ⟨rfl, (by simp only [if_pos (show ((48 ≤ x ∧ x ≤ 57) ∧ (Fr3 (x - 48).toNatClampNeg) = 0) from ⟨b_1, c_16⟩)]), (by simp only [if_pos (show ((48 ≤ x ∧ x ≤ 57) ∧ (Fr3 (x - 48).toNatClampNeg) = 0) from ⟨b_1, c_16⟩)])⟩ hP hD hS (Nat.le_of_ble_eq_true rfl) (Nat.le_of_ble_eq_true rfl) d_Re_takesKind_45
    · refine lv_iconst (v := 0) hx hb d_Re_takesKind_19 (by decide) ?_
      exact gx_retz [(r0, .inr (4, [.ref r1, .ref r2, .ref r3, .int Sr4, .int Sr5, .int Sr6, .int Sr7, .int Sr8])), (r1, .inl (G.2.1 0, 10, .inl Fr1)), (r2, .inl (G.2.1 0, 10, .inl Fr2)), (r3, .inl (G.2.1 1, 10, .inl Fr3))] hx hb hr hlocks rfl ⟨rfl, (by simp only [if_neg (show ¬ ((48 ≤ x ∧ x ≤ 57) ∧ (Fr3 (x - 48).toNatClampNeg) = 0) from fun q => c_16 q.2)]), (by simp only [if_neg (show ¬ ((48 ≤ x ∧ x ≤ 57) ∧ (Fr3 (x - 48).toNatClampNeg) = 0) from fun q => c_16 q.2)])⟩ hP hD hS (Nat.le_of_ble_eq_true rfl) (Nat.le_of_ble_eq_true rfl) d_Re_takesKind_20
  · rw [if_neg b_1]
    refine W.eq (g2 := F0 m 4 ls [.int 0]) rfl ?_
    refine lv_if_eq (tgt := 19) hx hb d_Re_takesKind_4 (by decide) (fun _ => ?_) (fun c_4 => absurd c_4 (by decide))
    refine lv_iconst (v := 0) hx hb d_Re_takesKind_19 (by decide) ?_
    exact gx_retz [(r0, .inr (4, [.ref r1, .ref r2, .ref r3, .int Sr4, .int Sr5, .int Sr6, .int Sr7, .int Sr8])), (r1, .inl (G.2.1 0, 10, .inl Fr1)), (r2, .inl (G.2.1 0, 10, .inl Fr2)), (r3, .inl (G.2.1 1, 10, .inl Fr3))] hx hb hr hlocks rfl ⟨rfl, (by simp only [if_neg (show ¬ ((48 ≤ x ∧ x ≤ 57) ∧ (Fr3 (x - 48).toNatClampNeg) = 0) from fun q => b_1 q.1)]), (by simp only [if_neg (show ¬ ((48 ≤ x ∧ x ≤ 57) ∧ (Fr3 (x - 48).toNatClampNeg) = 0) from fun q => b_1 q.1)])⟩ hP hD hS (Nat.le_of_ble_eq_true rfl) (Nat.le_of_ble_eq_true rfl) d_Re_takesKind_20
set_option maxHeartbeats 4000000 in
set_option maxRecDepth 100000 in
theorem c_Re_takesDigit (l : Launch) (hl0 : l.stackTraces = false) (G : GG) (r0 : Nat) (r1 : Nat) (r2 : Nat) (r3 : Nat) (Fr1 : Nat → Int32) (Fr2 : Nat → Int32) (Fr3 : Nat → Int32) (Sr4 : Int32) (Sr5 : Int32) (Sr6 : Int32) (Sr7 : Int32) (Sr8 : Int32) (x : Int32)  : gx l G y_Re_takesDigit cd_Re_takesDigit rm_Re_takesDigit [.ref r0, .int x] [(r0, .inr (4, [.ref r1, .ref r2, .ref r3, .int Sr4, .int Sr5, .int Sr6, .int Sr7, .int Sr8])), (r1, .inl (G.2.1 0, 10, .inl Fr1)), (r2, .inl (G.2.1 0, 10, .inl Fr2)), (r3, .inl (G.2.1 1, 10, .inl Fr3))] (fun v w' => (none : Option String) = none ∧ v = (some (.int (if ((48 ≤ x ∧ x ≤ 57) ∧ (Sr8 = 0 ∨ (0 < Sr7 ∧ Sr8 < 6))) then 1 else 0))) ∧ w' = [(r0, .inr (4, [.ref r1, .ref r2, .ref r3, .int Sr4, .int Sr5, .int Sr6, .int (if ((48 ≤ x ∧ x ≤ 57) ∧ (Sr8 = 0 ∨ (0 < Sr7 ∧ Sr8 < 6))) then ((Sr7 * 10) + (x - 48)) else Sr7), .int (if ((48 ≤ x ∧ x ≤ 57) ∧ (Sr8 = 0 ∨ (0 < Sr7 ∧ Sr8 < 6))) then (Sr8 + 1) else Sr8)])), (r1, .inl (G.2.1 0, 10, .inl Fr1)), (r2, .inl (G.2.1 0, 10, .inl Fr2)), (r3, .inl (G.2.1 1, 10, .inl Fr3))]) (fun E w' => (none : Option String) = some E ∧ w' = [(r0, .inr (4, [.ref r1, .ref r2, .ref r3, .int Sr4, .int Sr5, .int Sr6, .int Sr7, .int Sr8])), (r1, .inl (G.2.1 0, 10, .inl Fr1)), (r2, .inl (G.2.1 0, 10, .inl Fr2)), (r3, .inl (G.2.1 1, 10, .inl Fr3))]) 0 0 := by
  intro rest
  refine mx_of (cc := b_Re_takesDigit) (maxL := 3) (ret := (some .boolean)) (by decide) rfl ?_
  intro p e s m args below meth c s₁ B hml hE hv
  obtain ⟨rfl, hC, hP, hD⟩ := hv
  have hx := B.exec
  have hb := B.bytes
  have hr := B.returns
  have hlocks := B.notSynchronized
  have hown : s.vm.findClass R_Re = some m.cls := findClass_of_methodNamed B.named
  have hS : va_S (g_A G) s.heap s.heap [] := va_S.rf
  have hl := lv_entry ([.ref r0, .int x]) (n := 3) (Nat.le_of_ble_eq_true rfl)
  rw [lg_entry_eq]
  generalize (lg_sl ([.ref r0, .int x]) ++ List.replicate (3 - (lg_sl ([.ref r0, .int x])).length) Slot.unset).toArray = ls at hl ⊢
  have hl : lv_has ls 3 [(0, .ref r0), (1, .int x)] := hl
  have hsize : ls.size = c.maxLocals := by rw [hml]; exact hl.1
  have hP : va_P G.1 g_cl ((r0, .inr (4, [.ref r1, .ref r2, .ref r3, .int Sr4, .int Sr5, .int Sr6, .int Sr7, .int Sr8])) :: (r1, .inl (G.2.1 0, 10, .inl Fr1)) :: (r2, .inl (G.2.1 0, 10, .inl Fr2)) :: (r3, .inl (G.2.1 1, 10, .inl Fr3)) :: rest) s.heap := hP
  have hD : va_D (g_A G) ((r0, .inr (4, [.ref r1, .ref r2, .ref r3, .int Sr4, .int Sr5, .int Sr6, .int Sr7, .int Sr8])) :: (r1, .inl (G.2.1 0, 10, .inl Fr1)) :: (r2, .inl (G.2.1 0, 10, .inl Fr2)) :: (r3, .inl (G.2.1 1, 10, .inl Fr3)) :: rest) := hD
  refine lv_aload_n hx hb d_Re_takesDigit_0 rfl (lv_at hl 0 rfl) ?_
  refine va_get (D := G.1) (ci := 4) (v := .int Sr8) (C := R_Re) (T := F_Re) (N := 8) hx hb (u_Re hC) (fun _ h => h) hown hC.K hP 0 rfl rfl 7 (by decide) (k_Re_35 hC) (fun _ h9 => h9) rfl d_Re_takesDigit_1 ?_
  refine lv_if_eq (tgt := 23) hx hb d_Re_takesDigit_4 (by decide) (fun c_4 => ?_) (fun c_4 => ?_)
  · refine lv_iconst (v := 1) hx hb d_Re_takesDigit_23 (by decide) ?_
    refine lv_goto (tgt := 28) hx hb d_Re_takesDigit_24 (by decide) ?_
    refine lv_istore_n (lv' := [(2, .int 1), (0, .ref r0), (1, .int x)]) hx hb d_Re_takesDigit_28 rfl hl (by decide) rfl (fun ls hl => ?_)
    have hsize : ls.size = c.maxLocals := by rw [hml]; exact hl.1
    refine lv_iload_n hx hb d_Re_takesDigit_29 rfl (lv_at hl 2 rfl) ?_
    refine px_callN (ix_S (As := [.int x]) (rest := []) hx hb hown (k_Re_69 hC) (ks_Re_isDigit hC) (kn_Re hC) (mx_Is.code (args := #[]) (kc_Re_isDigit hC)) kh_Re_isDigit rfl kp_Re_isDigit rfl d_Re_takesDigit_30) (c_Re_isDigit l hl0 G x) (kc_Re_isDigit hC) rfl (mx_Is.code (args := #[]) (kc_Re_isDigit hC)) (kn_Re hC) hb hC (hP.sub (ws' := []) [] rfl) (hD.sub (ws' := []) [] (by decide) rfl) hS (by decide) (by decide) hsize (Nat.le_of_ble_eq_true rfl) d_Re_takesDigit_30 ?_
    by_cases b_30 : (48 ≤ x ∧ x ≤ 57)
    · rw [if_pos b_30]
      refine W.eq (g2 := F0 m 33 ls [.int 1]) rfl ?_
      refine lv_if_eq (tgt := 40) hx hb d_Re_takesDigit_33 (by decide) (fun c_33 => absurd c_33 (by decide)) (fun _ => ?_)
      refine lv_iload_n hx hb d_Re_takesDigit_36 rfl (lv_at hl 0 rfl) ?_
      refine lv_if_ne (tgt := 42) hx hb d_Re_takesDigit_37 (by decide) (fun _ => ?_) (fun c_37 => absurd c_37 (by decide))
      refine lv_aload_n hx hb d_Re_takesDigit_42 rfl (lv_at hl 1 rfl) ?_
      refine lv_aload_n hx hb d_Re_takesDigit_43 rfl (lv_at hl 1 rfl) ?_
      refine va_get (D := G.1) (ci := 4) (v := .int Sr7) (C := R_Re) (T := F_Re) (N := 8) hx hb (u_Re hC) (fun _ h => h) hown hC.K hP 0 rfl rfl 6 (by decide) (k_Re_32 hC) (fun _ h9 => h9) rfl d_Re_takesDigit_44 ?_
      refine lv_bipush (v := 10) hx hb d_Re_takesDigit_47 (by decide) ?_
      refine lv_imul hx hb d_Re_takesDigit_49 ?_
      refine lv_iload_n hx hb d_Re_takesDigit_50 rfl (lv_at hl 2 rfl) ?_
      refine lv_bipush (v := 48) hx hb d_Re_takesDigit_51 (by decide) ?_
      refine lv_isub hx hb d_Re_takesDigit_53 ?_
      refine lv_iadd hx hb d_Re_takesDigit_54 ?_
      refine va_put (D := G.1) (ci := 4) (v := .int ((Sr7 * 10) + (x - 48))) (ty := .int) (C := R_Re) (T := F_Re) (N := 8) hx hb (u_Re hC) (fun _ h => h) t_Re t_Re_ok n_Re hown hC.K hP hD hS 0 rfl rfl 6 (by decide) (k_Re_32 hC) (fun _ h9 => h9) rfl (by decide +kernel) rfl rfl (Nat.le_of_ble_eq_true rfl) d_Re_takesDigit_55 (fun H locs hP hD hS => ?_)
      have hP : va_P G.1 g_cl ((r0, .inr (4, [.ref r1, .ref r2, .ref r3, .int Sr4, .int Sr5, .int Sr6, .int ((Sr7 * 10) + (x - 48)), .int Sr8])) :: (r1, .inl (G.2.1 0, 10, .inl Fr1)) :: (r2, .inl (G.2.1 0, 10, .inl Fr2)) :: (r3, .inl (G.2.1 1, 10, .inl Fr3)) :: rest) H := hP
      have hD : va_D (g_A G) ((r0, .inr (4, [.ref r1, .ref r2, .ref r3, .int Sr4, .int Sr5, .int Sr6, .int ((Sr7 * 10) + (x - 48)), .int Sr8])) :: (r1, .inl (G.2.1 0, 10, .inl Fr1)) :: (r2, .inl (G.2.1 0, 10, .inl Fr2)) :: (r3, .inl (G.2.1 1, 10, .inl Fr3)) :: rest) := hD
      refine lv_aload_n hx hb d_Re_takesDigit_58 rfl (lv_at hl 1 rfl) ?_
      refine lv_dup hx hb d_Re_takesDigit_59 rfl ?_
      refine va_get (D := G.1) (ci := 4) (v := .int Sr8) (C := R_Re) (T := F_Re) (N := 8) hx hb (u_Re hC) (fun _ h => h) hown hC.K hP 0 rfl rfl 7 (by decide) (k_Re_35 hC) (fun _ h9 => h9) rfl d_Re_takesDigit_60 ?_
      refine lv_iconst (v := 1) hx hb d_Re_takesDigit_63 (by decide) ?_
      refine lv_iadd hx hb d_Re_takesDigit_64 ?_
      refine va_put (D := G.1) (ci := 4) (v := .int (Sr8 + 1)) (ty := .int) (C := R_Re) (T := F_Re) (N := 8) hx hb (u_Re hC) (fun _ h => h) t_Re t_Re_ok n_Re hown hC.K hP hD hS 0 rfl rfl 7 (by decide) (k_Re_35 hC) (fun _ h9 => h9) rfl (by decide +kernel) rfl rfl (Nat.le_of_ble_eq_true rfl) d_Re_takesDigit_65 (fun H locs hP hD hS => ?_)
      have hP : va_P G.1 g_cl ((r0, .inr (4, [.ref r1, .ref r2, .ref r3, .int Sr4, .int Sr5, .int Sr6, .int ((Sr7 * 10) + (x - 48)), .int (Sr8 + 1)])) :: (r1, .inl (G.2.1 0, 10, .inl Fr1)) :: (r2, .inl (G.2.1 0, 10, .inl Fr2)) :: (r3, .inl (G.2.1 1, 10, .inl Fr3)) :: rest) H := hP
      have hD : va_D (g_A G) ((r0, .inr (4, [.ref r1, .ref r2, .ref r3, .int Sr4, .int Sr5, .int Sr6, .int ((Sr7 * 10) + (x - 48)), .int (Sr8 + 1)])) :: (r1, .inl (G.2.1 0, 10, .inl Fr1)) :: (r2, .inl (G.2.1 0, 10, .inl Fr2)) :: (r3, .inl (G.2.1 1, 10, .inl Fr3)) :: rest) := hD
      refine lv_iconst (v := 1) hx hb d_Re_takesDigit_68 (by decide) ?_
      exact gx_retz [(r0, .inr (4, [.ref r1, .ref r2, .ref r3, .int Sr4, .int Sr5, .int Sr6, .int ((Sr7 * 10) + (x - 48)), .int (Sr8 + 1)])), (r1, .inl (G.2.1 0, 10, .inl Fr1)), (r2, .inl (G.2.1 0, 10, .inl Fr2)), (r3, .inl (G.2.1 1, 10, .inl Fr3))] hx hb hr hlocks rfl ⟨rfl, (by simp only [if_pos (show ((48 ≤ x ∧ x ≤ 57) ∧ (Sr8 = 0 ∨ (0 < Sr7 ∧ Sr8 < 6))) from ⟨b_30, Or.inl c_4⟩)]), (by simp only [if_pos (show ((48 ≤ x ∧ x ≤ 57) ∧ (Sr8 = 0 ∨ (0 < Sr7 ∧ Sr8 < 6))) from ⟨b_30, Or.inl c_4⟩)])⟩ hP hD hS (Nat.le_of_ble_eq_true rfl) (Nat.le_of_ble_eq_true rfl) d_Re_takesDigit_69
    · rw [if_neg b_30]
      refine W.eq (g2 := F0 m 33 ls [.int 0]) rfl ?_
      refine lv_if_eq (tgt := 40) hx hb d_Re_takesDigit_33 (by decide) (fun _ => ?_) (fun c_33 => absurd c_33 (by decide))
      refine lv_iconst (v := 0) hx hb d_Re_takesDigit_40 (by decide) ?_
      exact gx_retz [(r0, .inr (4, [.ref r1, .ref r2, .ref r3, .int Sr4, .int Sr5, .int Sr6, .int Sr7, .int Sr8])), (r1, .inl (G.2.1 0, 10, .inl Fr1)), (r2, .inl (G.2.1 0, 10, .inl Fr2)), (r3, .inl (G.2.1 1, 10, .inl Fr3))] hx hb hr hlocks rfl ⟨rfl, (by simp only [if_neg (show ¬ ((48 ≤ x ∧ x ≤ 57) ∧ (Sr8 = 0 ∨ (0 < Sr7 ∧ Sr8 < 6))) from fun q => b_30 q.1)]), (by simp only [if_neg (show ¬ ((48 ≤ x ∧ x ≤ 57) ∧ (Sr8 = 0 ∨ (0 < Sr7 ∧ Sr8 < 6))) from fun q => b_30 q.1)])⟩ hP hD hS (Nat.le_of_ble_eq_true rfl) (Nat.le_of_ble_eq_true rfl) d_Re_takesDigit_41
  · refine lv_aload_n hx hb d_Re_takesDigit_7 rfl (lv_at hl 0 rfl) ?_
    refine va_get (D := G.1) (ci := 4) (v := .int Sr7) (C := R_Re) (T := F_Re) (N := 8) hx hb (u_Re hC) (fun _ h => h) hown hC.K hP 0 rfl rfl 6 (by decide) (k_Re_32 hC) (fun _ h9 => h9) rfl d_Re_takesDigit_8 ?_
    refine lv_if_le (tgt := 27) hx hb d_Re_takesDigit_11 (by decide) (fun c_11 => ?_) (fun c_11 => ?_)
    · refine lv_iconst (v := 0) hx hb d_Re_takesDigit_27 (by decide) ?_
      refine lv_istore_n (lv' := [(2, .int 0), (0, .ref r0), (1, .int x)]) hx hb d_Re_takesDigit_28 rfl hl (by decide) rfl (fun ls hl => ?_)
      have hsize : ls.size = c.maxLocals := by rw [hml]; exact hl.1
      refine lv_iload_n hx hb d_Re_takesDigit_29 rfl (lv_at hl 2 rfl) ?_
      refine px_callN (ix_S (As := [.int x]) (rest := []) hx hb hown (k_Re_69 hC) (ks_Re_isDigit hC) (kn_Re hC) (mx_Is.code (args := #[]) (kc_Re_isDigit hC)) kh_Re_isDigit rfl kp_Re_isDigit rfl d_Re_takesDigit_30) (c_Re_isDigit l hl0 G x) (kc_Re_isDigit hC) rfl (mx_Is.code (args := #[]) (kc_Re_isDigit hC)) (kn_Re hC) hb hC (hP.sub (ws' := []) [] rfl) (hD.sub (ws' := []) [] (by decide) rfl) hS (by decide) (by decide) hsize (Nat.le_of_ble_eq_true rfl) d_Re_takesDigit_30 ?_
      by_cases b_30 : (48 ≤ x ∧ x ≤ 57)
      · rw [if_pos b_30]
        refine W.eq (g2 := F0 m 33 ls [.int 1]) rfl ?_
        refine lv_if_eq (tgt := 40) hx hb d_Re_takesDigit_33 (by decide) (fun c_33 => absurd c_33 (by decide)) (fun _ => ?_)
        refine lv_iload_n hx hb d_Re_takesDigit_36 rfl (lv_at hl 0 rfl) ?_
        refine lv_if_ne (tgt := 42) hx hb d_Re_takesDigit_37 (by decide) (fun c_37 => absurd c_37 (by decide)) (fun _ => ?_)
        refine lv_iconst (v := 0) hx hb d_Re_takesDigit_40 (by decide) ?_
        exact gx_retz [(r0, .inr (4, [.ref r1, .ref r2, .ref r3, .int Sr4, .int Sr5, .int Sr6, .int Sr7, .int Sr8])), (r1, .inl (G.2.1 0, 10, .inl Fr1)), (r2, .inl (G.2.1 0, 10, .inl Fr2)), (r3, .inl (G.2.1 1, 10, .inl Fr3))] hx hb hr hlocks rfl ⟨rfl, (by simp only [if_neg (show ¬ ((48 ≤ x ∧ x ≤ 57) ∧ (Sr8 = 0 ∨ (0 < Sr7 ∧ Sr8 < 6))) from fun q => q.2.elim c_4 (fun r => absurd r.1 (Int32.not_lt.mpr c_11)))]), (by simp only [if_neg (show ¬ ((48 ≤ x ∧ x ≤ 57) ∧ (Sr8 = 0 ∨ (0 < Sr7 ∧ Sr8 < 6))) from fun q => q.2.elim c_4 (fun r => absurd r.1 (Int32.not_lt.mpr c_11)))])⟩ hP hD hS (Nat.le_of_ble_eq_true rfl) (Nat.le_of_ble_eq_true rfl) d_Re_takesDigit_41
      · rw [if_neg b_30]
        refine W.eq (g2 := F0 m 33 ls [.int 0]) rfl ?_
        refine lv_if_eq (tgt := 40) hx hb d_Re_takesDigit_33 (by decide) (fun _ => ?_) (fun c_33 => absurd c_33 (by decide))
        refine lv_iconst (v := 0) hx hb d_Re_takesDigit_40 (by decide) ?_
        exact gx_retz [(r0, .inr (4, [.ref r1, .ref r2, .ref r3, .int Sr4, .int Sr5, .int Sr6, .int Sr7, .int Sr8])), (r1, .inl (G.2.1 0, 10, .inl Fr1)), (r2, .inl (G.2.1 0, 10, .inl Fr2)), (r3, .inl (G.2.1 1, 10, .inl Fr3))] hx hb hr hlocks rfl ⟨rfl, (by simp only [if_neg (show ¬ ((48 ≤ x ∧ x ≤ 57) ∧ (Sr8 = 0 ∨ (0 < Sr7 ∧ Sr8 < 6))) from fun q => b_30 q.1)]), (by simp only [if_neg (show ¬ ((48 ≤ x ∧ x ≤ 57) ∧ (Sr8 = 0 ∨ (0 < Sr7 ∧ Sr8 < 6))) from fun q => b_30 q.1)])⟩ hP hD hS (Nat.le_of_ble_eq_true rfl) (Nat.le_of_ble_eq_true rfl) d_Re_takesDigit_41
    · refine lv_aload_n hx hb d_Re_takesDigit_14 rfl (lv_at hl 0 rfl) ?_
      refine va_get (D := G.1) (ci := 4) (v := .int Sr8) (C := R_Re) (T := F_Re) (N := 8) hx hb (u_Re hC) (fun _ h => h) hown hC.K hP 0 rfl rfl 7 (by decide) (k_Re_35 hC) (fun _ h9 => h9) rfl d_Re_takesDigit_15 ?_
      refine lv_bipush (v := 6) hx hb d_Re_takesDigit_18 (by decide) ?_
      refine lv_icmp_ge (tgt := 27) hx hb d_Re_takesDigit_20 (by decide) (fun c_20 => ?_) (fun c_20 => ?_)
      · refine lv_iconst (v := 0) hx hb d_Re_takesDigit_27 (by decide) ?_
        refine lv_istore_n (lv' := [(2, .int 0), (0, .ref r0), (1, .int x)]) hx hb d_Re_takesDigit_28 rfl hl (by decide) rfl (fun ls hl => ?_)
        have hsize : ls.size = c.maxLocals := by rw [hml]; exact hl.1
        refine lv_iload_n hx hb d_Re_takesDigit_29 rfl (lv_at hl 2 rfl) ?_
        refine px_callN (ix_S (As := [.int x]) (rest := []) hx hb hown (k_Re_69 hC) (ks_Re_isDigit hC) (kn_Re hC) (mx_Is.code (args := #[]) (kc_Re_isDigit hC)) kh_Re_isDigit rfl kp_Re_isDigit rfl d_Re_takesDigit_30) (c_Re_isDigit l hl0 G x) (kc_Re_isDigit hC) rfl (mx_Is.code (args := #[]) (kc_Re_isDigit hC)) (kn_Re hC) hb hC (hP.sub (ws' := []) [] rfl) (hD.sub (ws' := []) [] (by decide) rfl) hS (by decide) (by decide) hsize (Nat.le_of_ble_eq_true rfl) d_Re_takesDigit_30 ?_
        by_cases b_30 : (48 ≤ x ∧ x ≤ 57)
        · rw [if_pos b_30]
          refine W.eq (g2 := F0 m 33 ls [.int 1]) rfl ?_
          refine lv_if_eq (tgt := 40) hx hb d_Re_takesDigit_33 (by decide) (fun c_33 => absurd c_33 (by decide)) (fun _ => ?_)
          refine lv_iload_n hx hb d_Re_takesDigit_36 rfl (lv_at hl 0 rfl) ?_
          refine lv_if_ne (tgt := 42) hx hb d_Re_takesDigit_37 (by decide) (fun c_37 => absurd c_37 (by decide)) (fun _ => ?_)
          refine lv_iconst (v := 0) hx hb d_Re_takesDigit_40 (by decide) ?_
          exact gx_retz [(r0, .inr (4, [.ref r1, .ref r2, .ref r3, .int Sr4, .int Sr5, .int Sr6, .int Sr7, .int Sr8])), (r1, .inl (G.2.1 0, 10, .inl Fr1)), (r2, .inl (G.2.1 0, 10, .inl Fr2)), (r3, .inl (G.2.1 1, 10, .inl Fr3))] hx hb hr hlocks rfl ⟨rfl, (by simp only [if_neg (show ¬ ((48 ≤ x ∧ x ≤ 57) ∧ (Sr8 = 0 ∨ (0 < Sr7 ∧ Sr8 < 6))) from fun q => q.2.elim c_4 (fun r => absurd r.2 (Int32.not_lt.mpr c_20)))]), (by simp only [if_neg (show ¬ ((48 ≤ x ∧ x ≤ 57) ∧ (Sr8 = 0 ∨ (0 < Sr7 ∧ Sr8 < 6))) from fun q => q.2.elim c_4 (fun r => absurd r.2 (Int32.not_lt.mpr c_20)))])⟩ hP hD hS (Nat.le_of_ble_eq_true rfl) (Nat.le_of_ble_eq_true rfl) d_Re_takesDigit_41
        · rw [if_neg b_30]
          refine W.eq (g2 := F0 m 33 ls [.int 0]) rfl ?_
          refine lv_if_eq (tgt := 40) hx hb d_Re_takesDigit_33 (by decide) (fun _ => ?_) (fun c_33 => absurd c_33 (by decide))
          refine lv_iconst (v := 0) hx hb d_Re_takesDigit_40 (by decide) ?_
          exact gx_retz [(r0, .inr (4, [.ref r1, .ref r2, .ref r3, .int Sr4, .int Sr5, .int Sr6, .int Sr7, .int Sr8])), (r1, .inl (G.2.1 0, 10, .inl Fr1)), (r2, .inl (G.2.1 0, 10, .inl Fr2)), (r3, .inl (G.2.1 1, 10, .inl Fr3))] hx hb hr hlocks rfl ⟨rfl, (by simp only [if_neg (show ¬ ((48 ≤ x ∧ x ≤ 57) ∧ (Sr8 = 0 ∨ (0 < Sr7 ∧ Sr8 < 6))) from fun q => b_30 q.1)]), (by simp only [if_neg (show ¬ ((48 ≤ x ∧ x ≤ 57) ∧ (Sr8 = 0 ∨ (0 < Sr7 ∧ Sr8 < 6))) from fun q => b_30 q.1)])⟩ hP hD hS (Nat.le_of_ble_eq_true rfl) (Nat.le_of_ble_eq_true rfl) d_Re_takesDigit_41
      · refine lv_iconst (v := 1) hx hb d_Re_takesDigit_23 (by decide) ?_
        refine lv_goto (tgt := 28) hx hb d_Re_takesDigit_24 (by decide) ?_
        refine lv_istore_n (lv' := [(2, .int 1), (0, .ref r0), (1, .int x)]) hx hb d_Re_takesDigit_28 rfl hl (by decide) rfl (fun ls hl => ?_)
        have hsize : ls.size = c.maxLocals := by rw [hml]; exact hl.1
        refine lv_iload_n hx hb d_Re_takesDigit_29 rfl (lv_at hl 2 rfl) ?_
        refine px_callN (ix_S (As := [.int x]) (rest := []) hx hb hown (k_Re_69 hC) (ks_Re_isDigit hC) (kn_Re hC) (mx_Is.code (args := #[]) (kc_Re_isDigit hC)) kh_Re_isDigit rfl kp_Re_isDigit rfl d_Re_takesDigit_30) (c_Re_isDigit l hl0 G x) (kc_Re_isDigit hC) rfl (mx_Is.code (args := #[]) (kc_Re_isDigit hC)) (kn_Re hC) hb hC (hP.sub (ws' := []) [] rfl) (hD.sub (ws' := []) [] (by decide) rfl) hS (by decide) (by decide) hsize (Nat.le_of_ble_eq_true rfl) d_Re_takesDigit_30 ?_
        by_cases b_30 : (48 ≤ x ∧ x ≤ 57)
        · rw [if_pos b_30]
          refine W.eq (g2 := F0 m 33 ls [.int 1]) rfl ?_
          refine lv_if_eq (tgt := 40) hx hb d_Re_takesDigit_33 (by decide) (fun c_33 => absurd c_33 (by decide)) (fun _ => ?_)
          refine lv_iload_n hx hb d_Re_takesDigit_36 rfl (lv_at hl 0 rfl) ?_
          refine lv_if_ne (tgt := 42) hx hb d_Re_takesDigit_37 (by decide) (fun _ => ?_) (fun c_37 => absurd c_37 (by decide))
          refine lv_aload_n hx hb d_Re_takesDigit_42 rfl (lv_at hl 1 rfl) ?_
          refine lv_aload_n hx hb d_Re_takesDigit_43 rfl (lv_at hl 1 rfl) ?_
          refine va_get (D := G.1) (ci := 4) (v := .int Sr7) (C := R_Re) (T := F_Re) (N := 8) hx hb (u_Re hC) (fun _ h => h) hown hC.K hP 0 rfl rfl 6 (by decide) (k_Re_32 hC) (fun _ h9 => h9) rfl d_Re_takesDigit_44 ?_
          refine lv_bipush (v := 10) hx hb d_Re_takesDigit_47 (by decide) ?_
          refine lv_imul hx hb d_Re_takesDigit_49 ?_
          refine lv_iload_n hx hb d_Re_takesDigit_50 rfl (lv_at hl 2 rfl) ?_
          refine lv_bipush (v := 48) hx hb d_Re_takesDigit_51 (by decide) ?_
          refine lv_isub hx hb d_Re_takesDigit_53 ?_
          refine lv_iadd hx hb d_Re_takesDigit_54 ?_
          refine va_put (D := G.1) (ci := 4) (v := .int ((Sr7 * 10) + (x - 48))) (ty := .int) (C := R_Re) (T := F_Re) (N := 8) hx hb (u_Re hC) (fun _ h => h) t_Re t_Re_ok n_Re hown hC.K hP hD hS 0 rfl rfl 6 (by decide) (k_Re_32 hC) (fun _ h9 => h9) rfl (by decide +kernel) rfl rfl (Nat.le_of_ble_eq_true rfl) d_Re_takesDigit_55 (fun H locs hP hD hS => ?_)
          have hP : va_P G.1 g_cl ((r0, .inr (4, [.ref r1, .ref r2, .ref r3, .int Sr4, .int Sr5, .int Sr6, .int ((Sr7 * 10) + (x - 48)), .int Sr8])) :: (r1, .inl (G.2.1 0, 10, .inl Fr1)) :: (r2, .inl (G.2.1 0, 10, .inl Fr2)) :: (r3, .inl (G.2.1 1, 10, .inl Fr3)) :: rest) H := hP
          have hD : va_D (g_A G) ((r0, .inr (4, [.ref r1, .ref r2, .ref r3, .int Sr4, .int Sr5, .int Sr6, .int ((Sr7 * 10) + (x - 48)), .int Sr8])) :: (r1, .inl (G.2.1 0, 10, .inl Fr1)) :: (r2, .inl (G.2.1 0, 10, .inl Fr2)) :: (r3, .inl (G.2.1 1, 10, .inl Fr3)) :: rest) := hD
          refine lv_aload_n hx hb d_Re_takesDigit_58 rfl (lv_at hl 1 rfl) ?_
          refine lv_dup hx hb d_Re_takesDigit_59 rfl ?_
          refine va_get (D := G.1) (ci := 4) (v := .int Sr8) (C := R_Re) (T := F_Re) (N := 8) hx hb (u_Re hC) (fun _ h => h) hown hC.K hP 0 rfl rfl 7 (by decide) (k_Re_35 hC) (fun _ h9 => h9) rfl d_Re_takesDigit_60 ?_
          refine lv_iconst (v := 1) hx hb d_Re_takesDigit_63 (by decide) ?_
          refine lv_iadd hx hb d_Re_takesDigit_64 ?_
          refine va_put (D := G.1) (ci := 4) (v := .int (Sr8 + 1)) (ty := .int) (C := R_Re) (T := F_Re) (N := 8) hx hb (u_Re hC) (fun _ h => h) t_Re t_Re_ok n_Re hown hC.K hP hD hS 0 rfl rfl 7 (by decide) (k_Re_35 hC) (fun _ h9 => h9) rfl (by decide +kernel) rfl rfl (Nat.le_of_ble_eq_true rfl) d_Re_takesDigit_65 (fun H locs hP hD hS => ?_)
          have hP : va_P G.1 g_cl ((r0, .inr (4, [.ref r1, .ref r2, .ref r3, .int Sr4, .int Sr5, .int Sr6, .int ((Sr7 * 10) + (x - 48)), .int (Sr8 + 1)])) :: (r1, .inl (G.2.1 0, 10, .inl Fr1)) :: (r2, .inl (G.2.1 0, 10, .inl Fr2)) :: (r3, .inl (G.2.1 1, 10, .inl Fr3)) :: rest) H := hP
          have hD : va_D (g_A G) ((r0, .inr (4, [.ref r1, .ref r2, .ref r3, .int Sr4, .int Sr5, .int Sr6, .int ((Sr7 * 10) + (x - 48)), .int (Sr8 + 1)])) :: (r1, .inl (G.2.1 0, 10, .inl Fr1)) :: (r2, .inl (G.2.1 0, 10, .inl Fr2)) :: (r3, .inl (G.2.1 1, 10, .inl Fr3)) :: rest) := hD
          refine lv_iconst (v := 1) hx hb d_Re_takesDigit_68 (by decide) ?_
          exact gx_retz [(r0, .inr (4, [.ref r1, .ref r2, .ref r3, .int Sr4, .int Sr5, .int Sr6, .int ((Sr7 * 10) + (x - 48)), .int (Sr8 + 1)])), (r1, .inl (G.2.1 0, 10, .inl Fr1)), (r2, .inl (G.2.1 0, 10, .inl Fr2)), (r3, .inl (G.2.1 1, 10, .inl Fr3))] hx hb hr hlocks rfl ⟨rfl, (by simp only [if_pos (show ((48 ≤ x ∧ x ≤ 57) ∧ (Sr8 = 0 ∨ (0 < Sr7 ∧ Sr8 < 6))) from ⟨b_30, Or.inr ⟨Int32.not_le.mp c_11, Int32.not_le.mp c_20⟩⟩)]), (by simp only [if_pos (show ((48 ≤ x ∧ x ≤ 57) ∧ (Sr8 = 0 ∨ (0 < Sr7 ∧ Sr8 < 6))) from ⟨b_30, Or.inr ⟨Int32.not_le.mp c_11, Int32.not_le.mp c_20⟩⟩)])⟩ hP hD hS (Nat.le_of_ble_eq_true rfl) (Nat.le_of_ble_eq_true rfl) d_Re_takesDigit_69
        · rw [if_neg b_30]
          refine W.eq (g2 := F0 m 33 ls [.int 0]) rfl ?_
          refine lv_if_eq (tgt := 40) hx hb d_Re_takesDigit_33 (by decide) (fun _ => ?_) (fun c_33 => absurd c_33 (by decide))
          refine lv_iconst (v := 0) hx hb d_Re_takesDigit_40 (by decide) ?_
          exact gx_retz [(r0, .inr (4, [.ref r1, .ref r2, .ref r3, .int Sr4, .int Sr5, .int Sr6, .int Sr7, .int Sr8])), (r1, .inl (G.2.1 0, 10, .inl Fr1)), (r2, .inl (G.2.1 0, 10, .inl Fr2)), (r3, .inl (G.2.1 1, 10, .inl Fr3))] hx hb hr hlocks rfl ⟨rfl, (by simp only [if_neg (show ¬ ((48 ≤ x ∧ x ≤ 57) ∧ (Sr8 = 0 ∨ (0 < Sr7 ∧ Sr8 < 6))) from fun q => b_30 q.1)]), (by simp only [if_neg (show ¬ ((48 ≤ x ∧ x ≤ 57) ∧ (Sr8 = 0 ∨ (0 < Sr7 ∧ Sr8 < 6))) from fun q => b_30 q.1)])⟩ hP hD hS (Nat.le_of_ble_eq_true rfl) (Nat.le_of_ble_eq_true rfl) d_Re_takesDigit_41
set_option maxHeartbeats 4000000 in
set_option maxRecDepth 100000 in
theorem c_Re_endsBase (l : Launch) (hl0 : l.stackTraces = false) (G : GG) (r0 : Nat) (r1 : Nat) (r2 : Nat) (r3 : Nat) (Fr1 : Nat → Int32) (Fr2 : Nat → Int32) (Fr3 : Nat → Int32) (Sr4 : Int32) (Sr5 : Int32) (Sr6 : Int32) (Sr7 : Int32) (Sr8 : Int32) (hk : vp_in Sr6 10) : gx l G y_Re_endsBase cd_Re_endsBase rm_Re_endsBase [.ref r0] [(r0, .inr (4, [.ref r1, .ref r2, .ref r3, .int Sr4, .int Sr5, .int Sr6, .int Sr7, .int Sr8])), (r1, .inl (G.2.1 0, 10, .inl Fr1)), (r2, .inl (G.2.1 0, 10, .inl Fr2)), (r3, .inl (G.2.1 1, 10, .inl Fr3))] (fun v w' => (none : Option String) = none ∧ v = (some (.int (if 0 < Sr8 then 1 else 0))) ∧ w' = [(r0, .inr (4, [.ref r1, .ref r2, .ref r3, .int Sr4, .int 3, .int Sr6, .int 0, .int 0])), (r1, .inl (G.2.1 0, 10, .inl (upd Fr1 Sr6.toNatClampNeg Sr7))), (r2, .inl (G.2.1 0, 10, .inl Fr2)), (r3, .inl (G.2.1 1, 10, .inl Fr3))]) (fun E w' => (none : Option String) = some E ∧ w' = [(r0, .inr (4, [.ref r1, .ref r2, .ref r3, .int Sr4, .int Sr5, .int Sr6, .int Sr7, .int Sr8])), (r1, .inl (G.2.1 0, 10, .inl Fr1)), (r2, .inl (G.2.1 0, 10, .inl Fr2)), (r3, .inl (G.2.1 1, 10, .inl Fr3))]) 0 0 := by
  intro rest
  refine mx_of (cc := b_Re_endsBase) (maxL := 2) (ret := (some .boolean)) (by decide) rfl ?_
  intro p e s m args below meth c s₁ B hml hE hv
  obtain ⟨rfl, hC, hP, hD⟩ := hv
  have hx := B.exec
  have hb := B.bytes
  have hr := B.returns
  have hlocks := B.notSynchronized
  have hown : s.vm.findClass R_Re = some m.cls := findClass_of_methodNamed B.named
  have hS : va_S (g_A G) s.heap s.heap [] := va_S.rf
  have hl := lv_entry ([.ref r0]) (n := 2) (Nat.le_of_ble_eq_true rfl)
  rw [lg_entry_eq]
  generalize (lg_sl ([.ref r0]) ++ List.replicate (2 - (lg_sl ([.ref r0])).length) Slot.unset).toArray = ls at hl ⊢
  have hl : lv_has ls 2 [(0, .ref r0)] := hl
  have hsize : ls.size = c.maxLocals := by rw [hml]; exact hl.1
  have hP : va_P G.1 g_cl ((r0, .inr (4, [.ref r1, .ref r2, .ref r3, .int Sr4, .int Sr5, .int Sr6, .int Sr7, .int Sr8])) :: (r1, .inl (G.2.1 0, 10, .inl Fr1)) :: (r2, .inl (G.2.1 0, 10, .inl Fr2)) :: (r3, .inl (G.2.1 1, 10, .inl Fr3)) :: rest) s.heap := hP
  have hD : va_D (g_A G) ((r0, .inr (4, [.ref r1, .ref r2, .ref r3, .int Sr4, .int Sr5, .int Sr6, .int Sr7, .int Sr8])) :: (r1, .inl (G.2.1 0, 10, .inl Fr1)) :: (r2, .inl (G.2.1 0, 10, .inl Fr2)) :: (r3, .inl (G.2.1 1, 10, .inl Fr3)) :: rest) := hD
  refine lv_aload_n hx hb d_Re_endsBase_0 rfl (lv_at hl 0 rfl) ?_
  refine va_get (D := G.1) (ci := 4) (v := .int Sr8) (C := R_Re) (T := F_Re) (N := 8) hx hb (u_Re hC) (fun _ h => h) hown hC.K hP 0 rfl rfl 7 (by decide) (k_Re_35 hC) (fun _ h9 => h9) rfl d_Re_endsBase_1 ?_
  refine lv_if_le (tgt := 11) hx hb d_Re_endsBase_4 (by decide) (fun c_4 => ?_) (fun c_4 => ?_)
  · refine lv_iconst (v := 0) hx hb d_Re_endsBase_11 (by decide) ?_
    refine lv_istore_n (lv' := [(1, .int 0), (0, .ref r0)]) hx hb d_Re_endsBase_12 rfl hl (by decide) rfl (fun ls hl => ?_)
    have hsize : ls.size = c.maxLocals := by rw [hml]; exact hl.1
    refine lv_aload_n hx hb d_Re_endsBase_13 rfl (lv_at hl 1 rfl) ?_
    refine va_get (D := G.1) (ci := 4) (v := .ref r1) (C := R_Re) (T := F_Re) (N := 8) hx hb (u_Re hC) (fun _ h => h) hown hC.K hP 0 rfl rfl 0 (by decide) (k_Re_9 hC) (fun _ h9 => h9) rfl d_Re_endsBase_14 ?_
    refine lv_aload_n hx hb d_Re_endsBase_17 rfl (lv_at hl 1 rfl) ?_
    refine va_get (D := G.1) (ci := 4) (v := .int Sr6) (C := R_Re) (T := F_Re) (N := 8) hx hb (u_Re hC) (fun _ h => h) hown hC.K hP 0 rfl rfl 5 (by decide) (k_Re_29 hC) (fun _ h9 => h9) rfl d_Re_endsBase_18 ?_
    refine lv_aload_n hx hb d_Re_endsBase_21 rfl (lv_at hl 1 rfl) ?_
    refine va_get (D := G.1) (ci := 4) (v := .int Sr7) (C := R_Re) (T := F_Re) (N := 8) hx hb (u_Re hC) (fun _ h => h) hown hC.K hP 0 rfl rfl 6 (by decide) (k_Re_32 hC) (fun _ h9 => h9) rfl d_Re_endsBase_22 ?_
    refine va_iast hx hb hC.K hP hD hS 1 0 rfl rfl hk d_Re_endsBase_25 (fun H locs hP hD hS => ?_)
    have hP : va_P G.1 g_cl ((r0, .inr (4, [.ref r1, .ref r2, .ref r3, .int Sr4, .int Sr5, .int Sr6, .int Sr7, .int Sr8])) :: (r1, .inl (G.2.1 0, 10, .inl (upd Fr1 Sr6.toNatClampNeg Sr7))) :: (r2, .inl (G.2.1 0, 10, .inl Fr2)) :: (r3, .inl (G.2.1 1, 10, .inl Fr3)) :: rest) H := hP
    have hD : va_D (g_A G) ((r0, .inr (4, [.ref r1, .ref r2, .ref r3, .int Sr4, .int Sr5, .int Sr6, .int Sr7, .int Sr8])) :: (r1, .inl (G.2.1 0, 10, .inl (upd Fr1 Sr6.toNatClampNeg Sr7))) :: (r2, .inl (G.2.1 0, 10, .inl Fr2)) :: (r3, .inl (G.2.1 1, 10, .inl Fr3)) :: rest) := hD
    refine lv_aload_n hx hb d_Re_endsBase_26 rfl (lv_at hl 1 rfl) ?_
    refine lv_iconst (v := 3) hx hb d_Re_endsBase_27 (by decide) ?_
    refine va_put (D := G.1) (ci := 4) (v := .int 3) (ty := .int) (C := R_Re) (T := F_Re) (N := 8) hx hb (u_Re hC) (fun _ h => h) t_Re t_Re_ok n_Re hown hC.K hP hD hS 0 rfl rfl 4 (by decide) (k_Re_26 hC) (fun _ h9 => h9) rfl (by decide +kernel) rfl rfl (Nat.le_of_ble_eq_true rfl) d_Re_endsBase_28 (fun H locs hP hD hS => ?_)
    have hP : va_P G.1 g_cl ((r0, .inr (4, [.ref r1, .ref r2, .ref r3, .int Sr4, .int 3, .int Sr6, .int Sr7, .int Sr8])) :: (r1, .inl (G.2.1 0, 10, .inl (upd Fr1 Sr6.toNatClampNeg Sr7))) :: (r2, .inl (G.2.1 0, 10, .inl Fr2)) :: (r3, .inl (G.2.1 1, 10, .inl Fr3)) :: rest) H := hP
    have hD : va_D (g_A G) ((r0, .inr (4, [.ref r1, .ref r2, .ref r3, .int Sr4, .int 3, .int Sr6, .int Sr7, .int Sr8])) :: (r1, .inl (G.2.1 0, 10, .inl (upd Fr1 Sr6.toNatClampNeg Sr7))) :: (r2, .inl (G.2.1 0, 10, .inl Fr2)) :: (r3, .inl (G.2.1 1, 10, .inl Fr3)) :: rest) := hD
    refine lv_aload_n hx hb d_Re_endsBase_31 rfl (lv_at hl 1 rfl) ?_
    obtain ⟨hPc, hDc⟩ := gl_split (p := [(r0, .inr (4, [.ref r1, .ref r2, .ref r3, .int Sr4, .int 3, .int Sr6, .int Sr7, .int Sr8])), (r1, .inl (G.2.1 0, 10, .inl (upd Fr1 Sr6.toNatClampNeg Sr7))), (r2, .inl (G.2.1 0, 10, .inl Fr2)), (r3, .inl (G.2.1 1, 10, .inl Fr3))]) (rest := rest) (wc := [(r0, .inr (4, [.ref r1, .ref r2, .ref r3, .int Sr4, .int 3, .int Sr6, .int Sr7, .int Sr8])), (r1, .inl (G.2.1 0, 10, .inl (upd Fr1 Sr6.toNatClampNeg Sr7))), (r2, .inl (G.2.1 0, 10, .inl Fr2)), (r3, .inl (G.2.1 1, 10, .inl Fr3))]) (wr := []) hP hD [0, 1, 2, 3] rfl (by decide)
    refine gx_call (ix_V (As := []) (rest := []) hx hb hown (k_Re_53 hC) (ki_Re_startNumber hC) (kv_Re_startNumber hC) (mx_Is.code (args := #[]) (kc_Re_startNumber hC)) kh_Re_startNumber (va_recv hC.K hP (ci := 4) (q0 := 0) rfl rfl) rfl kp_Re_startNumber rfl d_Re_endsBase_32) (c_Re_startNumber l hl0 G r0 r1 r2 r3 (upd Fr1 Sr6.toNatClampNeg Sr7) Fr2 Fr3 Sr4 3 Sr6 Sr7 Sr8) (kc_Re_startNumber hC) rfl (mx_Is.code (args := #[]) (kc_Re_startNumber hC)) (kn_Re hC) hb hC hPc hDc hS (by decide) (by decide) hsize (Nat.le_of_ble_eq_true rfl) d_Re_endsBase_32 (fun v w' H locs hPo hP hD hS => ?_) (fun E w' H1 locs1 q ce hPx hP hD hS hq1 hq2 hq3 => ?_)
    · obtain ⟨-, rfl, rfl⟩ := hPo
      obtain ⟨hP, hD⟩ := gl_split (p := [(r0, .inr (4, [.ref r1, .ref r2, .ref r3, .int Sr4, .int 3, .int Sr6, .int 0, .int 0])), (r1, .inl (G.2.1 0, 10, .inl (upd Fr1 Sr6.toNatClampNeg Sr7))), (r2, .inl (G.2.1 0, 10, .inl Fr2)), (r3, .inl (G.2.1 1, 10, .inl Fr3))]) (rest := rest) (wc := [(r0, .inr (4, [.ref r1, .ref r2, .ref r3, .int Sr4, .int 3, .int Sr6, .int 0, .int 0])), (r1, .inl (G.2.1 0, 10, .inl (upd Fr1 Sr6.toNatClampNeg Sr7))), (r2, .inl (G.2.1 0, 10, .inl Fr2)), (r3, .inl (G.2.1 1, 10, .inl Fr3))]) (wr := []) hP hD [0, 1, 2, 3] rfl (by decide)
      have hP : va_P G.1 g_cl ((r0, .inr (4, [.ref r1, .ref r2, .ref r3, .int Sr4, .int 3, .int Sr6, .int 0, .int 0])) :: (r1, .inl (G.2.1 0, 10, .inl (upd Fr1 Sr6.toNatClampNeg Sr7))) :: (r2, .inl (G.2.1 0, 10, .inl Fr2)) :: (r3, .inl (G.2.1 1, 10, .inl Fr3)) :: rest) H := hP
      have hD : va_D (g_A G) ((r0, .inr (4, [.ref r1, .ref r2, .ref r3, .int Sr4, .int 3, .int Sr6, .int 0, .int 0])) :: (r1, .inl (G.2.1 0, 10, .inl (upd Fr1 Sr6.toNatClampNeg Sr7))) :: (r2, .inl (G.2.1 0, 10, .inl Fr2)) :: (r3, .inl (G.2.1 1, 10, .inl Fr3)) :: rest) := hD
      refine W.eq (g2 := F0 m 35 ls []) rfl ?_
      refine lv_iload_n hx hb d_Re_endsBase_35 rfl (lv_at hl 0 rfl) ?_
      exact gx_retz [(r0, .inr (4, [.ref r1, .ref r2, .ref r3, .int Sr4, .int 3, .int Sr6, .int 0, .int 0])), (r1, .inl (G.2.1 0, 10, .inl (upd Fr1 Sr6.toNatClampNeg Sr7))), (r2, .inl (G.2.1 0, 10, .inl Fr2)), (r3, .inl (G.2.1 1, 10, .inl Fr3))] hx hb hr hlocks rfl ⟨rfl, (by rw [if_neg (Int32.not_lt.mpr c_4)]), rfl⟩ hP hD hS (Nat.le_of_ble_eq_true rfl) (Nat.le_of_ble_eq_true rfl) d_Re_endsBase_36
    · exact nomatch hPx.1
  · refine lv_iconst (v := 1) hx hb d_Re_endsBase_7 (by decide) ?_
    refine lv_goto (tgt := 12) hx hb d_Re_endsBase_8 (by decide) ?_
    refine lv_istore_n (lv' := [(1, .int 1), (0, .ref r0)]) hx hb d_Re_endsBase_12 rfl hl (by decide) rfl (fun ls hl => ?_)
    have hsize : ls.size = c.maxLocals := by rw [hml]; exact hl.1
    refine lv_aload_n hx hb d_Re_endsBase_13 rfl (lv_at hl 1 rfl) ?_
    refine va_get (D := G.1) (ci := 4) (v := .ref r1) (C := R_Re) (T := F_Re) (N := 8) hx hb (u_Re hC) (fun _ h => h) hown hC.K hP 0 rfl rfl 0 (by decide) (k_Re_9 hC) (fun _ h9 => h9) rfl d_Re_endsBase_14 ?_
    refine lv_aload_n hx hb d_Re_endsBase_17 rfl (lv_at hl 1 rfl) ?_
    refine va_get (D := G.1) (ci := 4) (v := .int Sr6) (C := R_Re) (T := F_Re) (N := 8) hx hb (u_Re hC) (fun _ h => h) hown hC.K hP 0 rfl rfl 5 (by decide) (k_Re_29 hC) (fun _ h9 => h9) rfl d_Re_endsBase_18 ?_
    refine lv_aload_n hx hb d_Re_endsBase_21 rfl (lv_at hl 1 rfl) ?_
    refine va_get (D := G.1) (ci := 4) (v := .int Sr7) (C := R_Re) (T := F_Re) (N := 8) hx hb (u_Re hC) (fun _ h => h) hown hC.K hP 0 rfl rfl 6 (by decide) (k_Re_32 hC) (fun _ h9 => h9) rfl d_Re_endsBase_22 ?_
    refine va_iast hx hb hC.K hP hD hS 1 0 rfl rfl hk d_Re_endsBase_25 (fun H locs hP hD hS => ?_)
    have hP : va_P G.1 g_cl ((r0, .inr (4, [.ref r1, .ref r2, .ref r3, .int Sr4, .int Sr5, .int Sr6, .int Sr7, .int Sr8])) :: (r1, .inl (G.2.1 0, 10, .inl (upd Fr1 Sr6.toNatClampNeg Sr7))) :: (r2, .inl (G.2.1 0, 10, .inl Fr2)) :: (r3, .inl (G.2.1 1, 10, .inl Fr3)) :: rest) H := hP
    have hD : va_D (g_A G) ((r0, .inr (4, [.ref r1, .ref r2, .ref r3, .int Sr4, .int Sr5, .int Sr6, .int Sr7, .int Sr8])) :: (r1, .inl (G.2.1 0, 10, .inl (upd Fr1 Sr6.toNatClampNeg Sr7))) :: (r2, .inl (G.2.1 0, 10, .inl Fr2)) :: (r3, .inl (G.2.1 1, 10, .inl Fr3)) :: rest) := hD
    refine lv_aload_n hx hb d_Re_endsBase_26 rfl (lv_at hl 1 rfl) ?_
    refine lv_iconst (v := 3) hx hb d_Re_endsBase_27 (by decide) ?_
    refine va_put (D := G.1) (ci := 4) (v := .int 3) (ty := .int) (C := R_Re) (T := F_Re) (N := 8) hx hb (u_Re hC) (fun _ h => h) t_Re t_Re_ok n_Re hown hC.K hP hD hS 0 rfl rfl 4 (by decide) (k_Re_26 hC) (fun _ h9 => h9) rfl (by decide +kernel) rfl rfl (Nat.le_of_ble_eq_true rfl) d_Re_endsBase_28 (fun H locs hP hD hS => ?_)
    have hP : va_P G.1 g_cl ((r0, .inr (4, [.ref r1, .ref r2, .ref r3, .int Sr4, .int 3, .int Sr6, .int Sr7, .int Sr8])) :: (r1, .inl (G.2.1 0, 10, .inl (upd Fr1 Sr6.toNatClampNeg Sr7))) :: (r2, .inl (G.2.1 0, 10, .inl Fr2)) :: (r3, .inl (G.2.1 1, 10, .inl Fr3)) :: rest) H := hP
    have hD : va_D (g_A G) ((r0, .inr (4, [.ref r1, .ref r2, .ref r3, .int Sr4, .int 3, .int Sr6, .int Sr7, .int Sr8])) :: (r1, .inl (G.2.1 0, 10, .inl (upd Fr1 Sr6.toNatClampNeg Sr7))) :: (r2, .inl (G.2.1 0, 10, .inl Fr2)) :: (r3, .inl (G.2.1 1, 10, .inl Fr3)) :: rest) := hD
    refine lv_aload_n hx hb d_Re_endsBase_31 rfl (lv_at hl 1 rfl) ?_
    obtain ⟨hPc, hDc⟩ := gl_split (p := [(r0, .inr (4, [.ref r1, .ref r2, .ref r3, .int Sr4, .int 3, .int Sr6, .int Sr7, .int Sr8])), (r1, .inl (G.2.1 0, 10, .inl (upd Fr1 Sr6.toNatClampNeg Sr7))), (r2, .inl (G.2.1 0, 10, .inl Fr2)), (r3, .inl (G.2.1 1, 10, .inl Fr3))]) (rest := rest) (wc := [(r0, .inr (4, [.ref r1, .ref r2, .ref r3, .int Sr4, .int 3, .int Sr6, .int Sr7, .int Sr8])), (r1, .inl (G.2.1 0, 10, .inl (upd Fr1 Sr6.toNatClampNeg Sr7))), (r2, .inl (G.2.1 0, 10, .inl Fr2)), (r3, .inl (G.2.1 1, 10, .inl Fr3))]) (wr := []) hP hD [0, 1, 2, 3] rfl (by decide)
    refine gx_call (ix_V (As := []) (rest := []) hx hb hown (k_Re_53 hC) (ki_Re_startNumber hC) (kv_Re_startNumber hC) (mx_Is.code (args := #[]) (kc_Re_startNumber hC)) kh_Re_startNumber (va_recv hC.K hP (ci := 4) (q0 := 0) rfl rfl) rfl kp_Re_startNumber rfl d_Re_endsBase_32) (c_Re_startNumber l hl0 G r0 r1 r2 r3 (upd Fr1 Sr6.toNatClampNeg Sr7) Fr2 Fr3 Sr4 3 Sr6 Sr7 Sr8) (kc_Re_startNumber hC) rfl (mx_Is.code (args := #[]) (kc_Re_startNumber hC)) (kn_Re hC) hb hC hPc hDc hS (by decide) (by decide) hsize (Nat.le_of_ble_eq_true rfl) d_Re_endsBase_32 (fun v w' H locs hPo hP hD hS => ?_) (fun E w' H1 locs1 q ce hPx hP hD hS hq1 hq2 hq3 => ?_)
    · obtain ⟨-, rfl, rfl⟩ := hPo
      obtain ⟨hP, hD⟩ := gl_split (p := [(r0, .inr (4, [.ref r1, .ref r2, .ref r3, .int Sr4, .int 3, .int Sr6, .int 0, .int 0])), (r1, .inl (G.2.1 0, 10, .inl (upd Fr1 Sr6.toNatClampNeg Sr7))), (r2, .inl (G.2.1 0, 10, .inl Fr2)), (r3, .inl (G.2.1 1, 10, .inl Fr3))]) (rest := rest) (wc := [(r0, .inr (4, [.ref r1, .ref r2, .ref r3, .int Sr4, .int 3, .int Sr6, .int 0, .int 0])), (r1, .inl (G.2.1 0, 10, .inl (upd Fr1 Sr6.toNatClampNeg Sr7))), (r2, .inl (G.2.1 0, 10, .inl Fr2)), (r3, .inl (G.2.1 1, 10, .inl Fr3))]) (wr := []) hP hD [0, 1, 2, 3] rfl (by decide)
      have hP : va_P G.1 g_cl ((r0, .inr (4, [.ref r1, .ref r2, .ref r3, .int Sr4, .int 3, .int Sr6, .int 0, .int 0])) :: (r1, .inl (G.2.1 0, 10, .inl (upd Fr1 Sr6.toNatClampNeg Sr7))) :: (r2, .inl (G.2.1 0, 10, .inl Fr2)) :: (r3, .inl (G.2.1 1, 10, .inl Fr3)) :: rest) H := hP
      have hD : va_D (g_A G) ((r0, .inr (4, [.ref r1, .ref r2, .ref r3, .int Sr4, .int 3, .int Sr6, .int 0, .int 0])) :: (r1, .inl (G.2.1 0, 10, .inl (upd Fr1 Sr6.toNatClampNeg Sr7))) :: (r2, .inl (G.2.1 0, 10, .inl Fr2)) :: (r3, .inl (G.2.1 1, 10, .inl Fr3)) :: rest) := hD
      refine W.eq (g2 := F0 m 35 ls []) rfl ?_
      refine lv_iload_n hx hb d_Re_endsBase_35 rfl (lv_at hl 0 rfl) ?_
      exact gx_retz [(r0, .inr (4, [.ref r1, .ref r2, .ref r3, .int Sr4, .int 3, .int Sr6, .int 0, .int 0])), (r1, .inl (G.2.1 0, 10, .inl (upd Fr1 Sr6.toNatClampNeg Sr7))), (r2, .inl (G.2.1 0, 10, .inl Fr2)), (r3, .inl (G.2.1 1, 10, .inl Fr3))] hx hb hr hlocks rfl ⟨rfl, (by rw [if_pos (Int32.not_le.mp c_4)]), rfl⟩ hP hD hS (Nat.le_of_ble_eq_true rfl) (Nat.le_of_ble_eq_true rfl) d_Re_endsBase_36
    · exact nomatch hPx.1
set_option maxHeartbeats 4000000 in
set_option maxRecDepth 100000 in
theorem c_Re_endsHour (l : Launch) (hl0 : l.stackTraces = false) (G : GG) (r0 : Nat) (r1 : Nat) (r2 : Nat) (r3 : Nat) (Fr1 : Nat → Int32) (Fr2 : Nat → Int32) (Fr3 : Nat → Int32) (Sr4 : Int32) (Sr5 : Int32) (Sr6 : Int32) (Sr7 : Int32) (Sr8 : Int32) (hk : vp_in Sr6 10) : gx l G y_Re_endsHour cd_Re_endsHour rm_Re_endsHour [.ref r0] [(r0, .inr (4, [.ref r1, .ref r2, .ref r3, .int Sr4, .int Sr5, .int Sr6, .int Sr7, .int Sr8])), (r1, .inl (G.2.1 0, 10, .inl Fr1)), (r2, .inl (G.2.1 0, 10, .inl Fr2)), (r3, .inl (G.2.1 1, 10, .inl Fr3))] (fun v w' => (none : Option String) = none ∧ v = (some (.int (if 0 < Sr8 then 1 else 0))) ∧ w' = [(r0, .inr (4, [.ref r1, .ref r2, .ref r3, .int (Sr4 + 1), .int 0, .int Sr6, .int 0, .int 0])), (r1, .inl (G.2.1 0, 10, .inl Fr1)), (r2, .inl (G.2.1 0, 10, .inl (upd Fr2 Sr6.toNatClampNeg Sr7))), (r3, .inl (G.2.1 1, 10, .inl Fr3))]) (fun E w' => (none : Option String) = some E ∧ w' = [(r0, .inr (4, [.ref r1, .ref r2, .ref r3, .int Sr4, .int Sr5, .int Sr6, .int Sr7, .int Sr8])), (r1, .inl (G.2.1 0, 10, .inl Fr1)), (r2, .inl (G.2.1 0, 10, .inl Fr2)), (r3, .inl (G.2.1 1, 10, .inl Fr3))]) 0 0 := by
  intro rest
  refine mx_of (cc := b_Re_endsHour) (maxL := 2) (ret := (some .boolean)) (by decide) rfl ?_
  intro p e s m args below meth c s₁ B hml hE hv
  obtain ⟨rfl, hC, hP, hD⟩ := hv
  have hx := B.exec
  have hb := B.bytes
  have hr := B.returns
  have hlocks := B.notSynchronized
  have hown : s.vm.findClass R_Re = some m.cls := findClass_of_methodNamed B.named
  have hS : va_S (g_A G) s.heap s.heap [] := va_S.rf
  have hl := lv_entry ([.ref r0]) (n := 2) (Nat.le_of_ble_eq_true rfl)
  rw [lg_entry_eq]
  generalize (lg_sl ([.ref r0]) ++ List.replicate (2 - (lg_sl ([.ref r0])).length) Slot.unset).toArray = ls at hl ⊢
  have hl : lv_has ls 2 [(0, .ref r0)] := hl
  have hsize : ls.size = c.maxLocals := by rw [hml]; exact hl.1
  have hP : va_P G.1 g_cl ((r0, .inr (4, [.ref r1, .ref r2, .ref r3, .int Sr4, .int Sr5, .int Sr6, .int Sr7, .int Sr8])) :: (r1, .inl (G.2.1 0, 10, .inl Fr1)) :: (r2, .inl (G.2.1 0, 10, .inl Fr2)) :: (r3, .inl (G.2.1 1, 10, .inl Fr3)) :: rest) s.heap := hP
  have hD : va_D (g_A G) ((r0, .inr (4, [.ref r1, .ref r2, .ref r3, .int Sr4, .int Sr5, .int Sr6, .int Sr7, .int Sr8])) :: (r1, .inl (G.2.1 0, 10, .inl Fr1)) :: (r2, .inl (G.2.1 0, 10, .inl Fr2)) :: (r3, .inl (G.2.1 1, 10, .inl Fr3)) :: rest) := hD
  refine lv_aload_n hx hb d_Re_endsHour_0 rfl (lv_at hl 0 rfl) ?_
  refine va_get (D := G.1) (ci := 4) (v := .int Sr8) (C := R_Re) (T := F_Re) (N := 8) hx hb (u_Re hC) (fun _ h => h) hown hC.K hP 0 rfl rfl 7 (by decide) (k_Re_35 hC) (fun _ h9 => h9) rfl d_Re_endsHour_1 ?_
  refine lv_if_le (tgt := 11) hx hb d_Re_endsHour_4 (by decide) (fun c_4 => ?_) (fun c_4 => ?_)
  · refine lv_iconst (v := 0) hx hb d_Re_endsHour_11 (by decide) ?_
    refine lv_istore_n (lv' := [(1, .int 0), (0, .ref r0)]) hx hb d_Re_endsHour_12 rfl hl (by decide) rfl (fun ls hl => ?_)
    have hsize : ls.size = c.maxLocals := by rw [hml]; exact hl.1
    refine lv_aload_n hx hb d_Re_endsHour_13 rfl (lv_at hl 1 rfl) ?_
    refine va_get (D := G.1) (ci := 4) (v := .ref r2) (C := R_Re) (T := F_Re) (N := 8) hx hb (u_Re hC) (fun _ h => h) hown hC.K hP 0 rfl rfl 1 (by decide) (k_Re_15 hC) (fun _ h9 => h9) rfl d_Re_endsHour_14 ?_
    refine lv_aload_n hx hb d_Re_endsHour_17 rfl (lv_at hl 1 rfl) ?_
    refine va_get (D := G.1) (ci := 4) (v := .int Sr6) (C := R_Re) (T := F_Re) (N := 8) hx hb (u_Re hC) (fun _ h => h) hown hC.K hP 0 rfl rfl 5 (by decide) (k_Re_29 hC) (fun _ h9 => h9) rfl d_Re_endsHour_18 ?_
    refine lv_aload_n hx hb d_Re_endsHour_21 rfl (lv_at hl 1 rfl) ?_
    refine va_get (D := G.1) (ci := 4) (v := .int Sr7) (C := R_Re) (T := F_Re) (N := 8) hx hb (u_Re hC) (fun _ h => h) hown hC.K hP 0 rfl rfl 6 (by decide) (k_Re_32 hC) (fun _ h9 => h9) rfl d_Re_endsHour_22 ?_
    refine va_iast hx hb hC.K hP hD hS 2 0 rfl rfl hk d_Re_endsHour_25 (fun H locs hP hD hS => ?_)
    have hP : va_P G.1 g_cl ((r0, .inr (4, [.ref r1, .ref r2, .ref r3, .int Sr4, .int Sr5, .int Sr6, .int Sr7, .int Sr8])) :: (r1, .inl (G.2.1 0, 10, .inl Fr1)) :: (r2, .inl (G.2.1 0, 10, .inl (upd Fr2 Sr6.toNatClampNeg Sr7))) :: (r3, .inl (G.2.1 1, 10, .inl Fr3)) :: rest) H := hP
    have hD : va_D (g_A G) ((r0, .inr (4, [.ref r1, .ref r2, .ref r3, .int Sr4, .int Sr5, .int Sr6, .int Sr7, .int Sr8])) :: (r1, .inl (G.2.1 0, 10, .inl Fr1)) :: (r2, .inl (G.2.1 0, 10, .inl (upd Fr2 Sr6.toNatClampNeg Sr7))) :: (r3, .inl (G.2.1 1, 10, .inl Fr3)) :: rest) := hD
    refine lv_aload_n hx hb d_Re_endsHour_26 rfl (lv_at hl 1 rfl) ?_
    refine lv_iconst (v := 0) hx hb d_Re_endsHour_27 (by decide) ?_
    refine va_put (D := G.1) (ci := 4) (v := .int 0) (ty := .int) (C := R_Re) (T := F_Re) (N := 8) hx hb (u_Re hC) (fun _ h => h) t_Re t_Re_ok n_Re hown hC.K hP hD hS 0 rfl rfl 4 (by decide) (k_Re_26 hC) (fun _ h9 => h9) rfl (by decide +kernel) rfl rfl (Nat.le_of_ble_eq_true rfl) d_Re_endsHour_28 (fun H locs hP hD hS => ?_)
    have hP : va_P G.1 g_cl ((r0, .inr (4, [.ref r1, .ref r2, .ref r3, .int Sr4, .int 0, .int Sr6, .int Sr7, .int Sr8])) :: (r1, .inl (G.2.1 0, 10, .inl Fr1)) :: (r2, .inl (G.2.1 0, 10, .inl (upd Fr2 Sr6.toNatClampNeg Sr7))) :: (r3, .inl (G.2.1 1, 10, .inl Fr3)) :: rest) H := hP
    have hD : va_D (g_A G) ((r0, .inr (4, [.ref r1, .ref r2, .ref r3, .int Sr4, .int 0, .int Sr6, .int Sr7, .int Sr8])) :: (r1, .inl (G.2.1 0, 10, .inl Fr1)) :: (r2, .inl (G.2.1 0, 10, .inl (upd Fr2 Sr6.toNatClampNeg Sr7))) :: (r3, .inl (G.2.1 1, 10, .inl Fr3)) :: rest) := hD
    refine lv_aload_n hx hb d_Re_endsHour_31 rfl (lv_at hl 1 rfl) ?_
    refine lv_dup hx hb d_Re_endsHour_32 rfl ?_
    refine va_get (D := G.1) (ci := 4) (v := .int Sr4) (C := R_Re) (T := F_Re) (N := 8) hx hb (u_Re hC) (fun _ h => h) hown hC.K hP 0 rfl rfl 3 (by decide) (k_Re_22 hC) (fun _ h9 => h9) rfl d_Re_endsHour_33 ?_
    refine lv_iconst (v := 1) hx hb d_Re_endsHour_36 (by decide) ?_
    refine lv_iadd hx hb d_Re_endsHour_37 ?_
    refine va_put (D := G.1) (ci := 4) (v := .int (Sr4 + 1)) (ty := .int) (C := R_Re) (T := F_Re) (N := 8) hx hb (u_Re hC) (fun _ h => h) t_Re t_Re_ok n_Re hown hC.K hP hD hS 0 rfl rfl 3 (by decide) (k_Re_22 hC) (fun _ h9 => h9) rfl (by decide +kernel) rfl rfl (Nat.le_of_ble_eq_true rfl) d_Re_endsHour_38 (fun H locs hP hD hS => ?_)
    have hP : va_P G.1 g_cl ((r0, .inr (4, [.ref r1, .ref r2, .ref r3, .int (Sr4 + 1), .int 0, .int Sr6, .int Sr7, .int Sr8])) :: (r1, .inl (G.2.1 0, 10, .inl Fr1)) :: (r2, .inl (G.2.1 0, 10, .inl (upd Fr2 Sr6.toNatClampNeg Sr7))) :: (r3, .inl (G.2.1 1, 10, .inl Fr3)) :: rest) H := hP
    have hD : va_D (g_A G) ((r0, .inr (4, [.ref r1, .ref r2, .ref r3, .int (Sr4 + 1), .int 0, .int Sr6, .int Sr7, .int Sr8])) :: (r1, .inl (G.2.1 0, 10, .inl Fr1)) :: (r2, .inl (G.2.1 0, 10, .inl (upd Fr2 Sr6.toNatClampNeg Sr7))) :: (r3, .inl (G.2.1 1, 10, .inl Fr3)) :: rest) := hD
    refine lv_aload_n hx hb d_Re_endsHour_41 rfl (lv_at hl 1 rfl) ?_
    obtain ⟨hPc, hDc⟩ := gl_split (p := [(r0, .inr (4, [.ref r1, .ref r2, .ref r3, .int (Sr4 + 1), .int 0, .int Sr6, .int Sr7, .int Sr8])), (r1, .inl (G.2.1 0, 10, .inl Fr1)), (r2, .inl (G.2.1 0, 10, .inl (upd Fr2 Sr6.toNatClampNeg Sr7))), (r3, .inl (G.2.1 1, 10, .inl Fr3))]) (rest := rest) (wc := [(r0, .inr (4, [.ref r1, .ref r2, .ref r3, .int (Sr4 + 1), .int 0, .int Sr6, .int Sr7, .int Sr8])), (r1, .inl (G.2.1 0, 10, .inl Fr1)), (r2, .inl (G.2.1 0, 10, .inl (upd Fr2 Sr6.toNatClampNeg Sr7))), (r3, .inl (G.2.1 1, 10, .inl Fr3))]) (wr := []) hP hD [0, 1, 2, 3] rfl (by decide)
    refine gx_call (ix_V (As := []) (rest := []) hx hb hown (k_Re_53 hC) (ki_Re_startNumber hC) (kv_Re_startNumber hC) (mx_Is.code (args := #[]) (kc_Re_startNumber hC)) kh_Re_startNumber (va_recv hC.K hP (ci := 4) (q0 := 0) rfl rfl) rfl kp_Re_startNumber rfl d_Re_endsHour_42) (c_Re_startNumber l hl0 G r0 r1 r2 r3 Fr1 (upd Fr2 Sr6.toNatClampNeg Sr7) Fr3 (Sr4 + 1) 0 Sr6 Sr7 Sr8) (kc_Re_startNumber hC) rfl (mx_Is.code (args := #[]) (kc_Re_startNumber hC)) (kn_Re hC) hb hC hPc hDc hS (by decide) (by decide) hsize (Nat.le_of_ble_eq_true rfl) d_Re_endsHour_42 (fun v w' H locs hPo hP hD hS => ?_) (fun E w' H1 locs1 q ce hPx hP hD hS hq1 hq2 hq3 => ?_)
    · obtain ⟨-, rfl, rfl⟩ := hPo
      obtain ⟨hP, hD⟩ := gl_split (p := [(r0, .inr (4, [.ref r1, .ref r2, .ref r3, .int (Sr4 + 1), .int 0, .int Sr6, .int 0, .int 0])), (r1, .inl (G.2.1 0, 10, .inl Fr1)), (r2, .inl (G.2.1 0, 10, .inl (upd Fr2 Sr6.toNatClampNeg Sr7))), (r3, .inl (G.2.1 1, 10, .inl Fr3))]) (rest := rest) (wc := [(r0, .inr (4, [.ref r1, .ref r2, .ref r3, .int (Sr4 + 1), .int 0, .int Sr6, .int 0, .int 0])), (r1, .inl (G.2.1 0, 10, .inl Fr1)), (r2, .inl (G.2.1 0, 10, .inl (upd Fr2 Sr6.toNatClampNeg Sr7))), (r3, .inl (G.2.1 1, 10, .inl Fr3))]) (wr := []) hP hD [0, 1, 2, 3] rfl (by decide)
      have hP : va_P G.1 g_cl ((r0, .inr (4, [.ref r1, .ref r2, .ref r3, .int (Sr4 + 1), .int 0, .int Sr6, .int 0, .int 0])) :: (r1, .inl (G.2.1 0, 10, .inl Fr1)) :: (r2, .inl (G.2.1 0, 10, .inl (upd Fr2 Sr6.toNatClampNeg Sr7))) :: (r3, .inl (G.2.1 1, 10, .inl Fr3)) :: rest) H := hP
      have hD : va_D (g_A G) ((r0, .inr (4, [.ref r1, .ref r2, .ref r3, .int (Sr4 + 1), .int 0, .int Sr6, .int 0, .int 0])) :: (r1, .inl (G.2.1 0, 10, .inl Fr1)) :: (r2, .inl (G.2.1 0, 10, .inl (upd Fr2 Sr6.toNatClampNeg Sr7))) :: (r3, .inl (G.2.1 1, 10, .inl Fr3)) :: rest) := hD
      refine W.eq (g2 := F0 m 45 ls []) rfl ?_
      refine lv_iload_n hx hb d_Re_endsHour_45 rfl (lv_at hl 0 rfl) ?_
      exact gx_retz [(r0, .inr (4, [.ref r1, .ref r2, .ref r3, .int (Sr4 + 1), .int 0, .int Sr6, .int 0, .int 0])), (r1, .inl (G.2.1 0, 10, .inl Fr1)), (r2, .inl (G.2.1 0, 10, .inl (upd Fr2 Sr6.toNatClampNeg Sr7))), (r3, .inl (G.2.1 1, 10, .inl Fr3))] hx hb hr hlocks rfl ⟨rfl, (by rw [if_neg (Int32.not_lt.mpr c_4)]), rfl⟩ hP hD hS (Nat.le_of_ble_eq_true rfl) (Nat.le_of_ble_eq_true rfl) d_Re_endsHour_46
    · exact nomatch hPx.1
  · refine lv_iconst (v := 1) hx hb d_Re_endsHour_7 (by decide) ?_
    refine lv_goto (tgt := 12) hx hb d_Re_endsHour_8 (by decide) ?_
    refine lv_istore_n (lv' := [(1, .int 1), (0, .ref r0)]) hx hb d_Re_endsHour_12 rfl hl (by decide) rfl (fun ls hl => ?_)
    have hsize : ls.size = c.maxLocals := by rw [hml]; exact hl.1
    refine lv_aload_n hx hb d_Re_endsHour_13 rfl (lv_at hl 1 rfl) ?_
    refine va_get (D := G.1) (ci := 4) (v := .ref r2) (C := R_Re) (T := F_Re) (N := 8) hx hb (u_Re hC) (fun _ h => h) hown hC.K hP 0 rfl rfl 1 (by decide) (k_Re_15 hC) (fun _ h9 => h9) rfl d_Re_endsHour_14 ?_
    refine lv_aload_n hx hb d_Re_endsHour_17 rfl (lv_at hl 1 rfl) ?_
    refine va_get (D := G.1) (ci := 4) (v := .int Sr6) (C := R_Re) (T := F_Re) (N := 8) hx hb (u_Re hC) (fun _ h => h) hown hC.K hP 0 rfl rfl 5 (by decide) (k_Re_29 hC) (fun _ h9 => h9) rfl d_Re_endsHour_18 ?_
    refine lv_aload_n hx hb d_Re_endsHour_21 rfl (lv_at hl 1 rfl) ?_
    refine va_get (D := G.1) (ci := 4) (v := .int Sr7) (C := R_Re) (T := F_Re) (N := 8) hx hb (u_Re hC) (fun _ h => h) hown hC.K hP 0 rfl rfl 6 (by decide) (k_Re_32 hC) (fun _ h9 => h9) rfl d_Re_endsHour_22 ?_
    refine va_iast hx hb hC.K hP hD hS 2 0 rfl rfl hk d_Re_endsHour_25 (fun H locs hP hD hS => ?_)
    have hP : va_P G.1 g_cl ((r0, .inr (4, [.ref r1, .ref r2, .ref r3, .int Sr4, .int Sr5, .int Sr6, .int Sr7, .int Sr8])) :: (r1, .inl (G.2.1 0, 10, .inl Fr1)) :: (r2, .inl (G.2.1 0, 10, .inl (upd Fr2 Sr6.toNatClampNeg Sr7))) :: (r3, .inl (G.2.1 1, 10, .inl Fr3)) :: rest) H := hP
    have hD : va_D (g_A G) ((r0, .inr (4, [.ref r1, .ref r2, .ref r3, .int Sr4, .int Sr5, .int Sr6, .int Sr7, .int Sr8])) :: (r1, .inl (G.2.1 0, 10, .inl Fr1)) :: (r2, .inl (G.2.1 0, 10, .inl (upd Fr2 Sr6.toNatClampNeg Sr7))) :: (r3, .inl (G.2.1 1, 10, .inl Fr3)) :: rest) := hD
    refine lv_aload_n hx hb d_Re_endsHour_26 rfl (lv_at hl 1 rfl) ?_
    refine lv_iconst (v := 0) hx hb d_Re_endsHour_27 (by decide) ?_
    refine va_put (D := G.1) (ci := 4) (v := .int 0) (ty := .int) (C := R_Re) (T := F_Re) (N := 8) hx hb (u_Re hC) (fun _ h => h) t_Re t_Re_ok n_Re hown hC.K hP hD hS 0 rfl rfl 4 (by decide) (k_Re_26 hC) (fun _ h9 => h9) rfl (by decide +kernel) rfl rfl (Nat.le_of_ble_eq_true rfl) d_Re_endsHour_28 (fun H locs hP hD hS => ?_)
    have hP : va_P G.1 g_cl ((r0, .inr (4, [.ref r1, .ref r2, .ref r3, .int Sr4, .int 0, .int Sr6, .int Sr7, .int Sr8])) :: (r1, .inl (G.2.1 0, 10, .inl Fr1)) :: (r2, .inl (G.2.1 0, 10, .inl (upd Fr2 Sr6.toNatClampNeg Sr7))) :: (r3, .inl (G.2.1 1, 10, .inl Fr3)) :: rest) H := hP
    have hD : va_D (g_A G) ((r0, .inr (4, [.ref r1, .ref r2, .ref r3, .int Sr4, .int 0, .int Sr6, .int Sr7, .int Sr8])) :: (r1, .inl (G.2.1 0, 10, .inl Fr1)) :: (r2, .inl (G.2.1 0, 10, .inl (upd Fr2 Sr6.toNatClampNeg Sr7))) :: (r3, .inl (G.2.1 1, 10, .inl Fr3)) :: rest) := hD
    refine lv_aload_n hx hb d_Re_endsHour_31 rfl (lv_at hl 1 rfl) ?_
    refine lv_dup hx hb d_Re_endsHour_32 rfl ?_
    refine va_get (D := G.1) (ci := 4) (v := .int Sr4) (C := R_Re) (T := F_Re) (N := 8) hx hb (u_Re hC) (fun _ h => h) hown hC.K hP 0 rfl rfl 3 (by decide) (k_Re_22 hC) (fun _ h9 => h9) rfl d_Re_endsHour_33 ?_
    refine lv_iconst (v := 1) hx hb d_Re_endsHour_36 (by decide) ?_
    refine lv_iadd hx hb d_Re_endsHour_37 ?_
    refine va_put (D := G.1) (ci := 4) (v := .int (Sr4 + 1)) (ty := .int) (C := R_Re) (T := F_Re) (N := 8) hx hb (u_Re hC) (fun _ h => h) t_Re t_Re_ok n_Re hown hC.K hP hD hS 0 rfl rfl 3 (by decide) (k_Re_22 hC) (fun _ h9 => h9) rfl (by decide +kernel) rfl rfl (Nat.le_of_ble_eq_true rfl) d_Re_endsHour_38 (fun H locs hP hD hS => ?_)
    have hP : va_P G.1 g_cl ((r0, .inr (4, [.ref r1, .ref r2, .ref r3, .int (Sr4 + 1), .int 0, .int Sr6, .int Sr7, .int Sr8])) :: (r1, .inl (G.2.1 0, 10, .inl Fr1)) :: (r2, .inl (G.2.1 0, 10, .inl (upd Fr2 Sr6.toNatClampNeg Sr7))) :: (r3, .inl (G.2.1 1, 10, .inl Fr3)) :: rest) H := hP
    have hD : va_D (g_A G) ((r0, .inr (4, [.ref r1, .ref r2, .ref r3, .int (Sr4 + 1), .int 0, .int Sr6, .int Sr7, .int Sr8])) :: (r1, .inl (G.2.1 0, 10, .inl Fr1)) :: (r2, .inl (G.2.1 0, 10, .inl (upd Fr2 Sr6.toNatClampNeg Sr7))) :: (r3, .inl (G.2.1 1, 10, .inl Fr3)) :: rest) := hD
    refine lv_aload_n hx hb d_Re_endsHour_41 rfl (lv_at hl 1 rfl) ?_
    obtain ⟨hPc, hDc⟩ := gl_split (p := [(r0, .inr (4, [.ref r1, .ref r2, .ref r3, .int (Sr4 + 1), .int 0, .int Sr6, .int Sr7, .int Sr8])), (r1, .inl (G.2.1 0, 10, .inl Fr1)), (r2, .inl (G.2.1 0, 10, .inl (upd Fr2 Sr6.toNatClampNeg Sr7))), (r3, .inl (G.2.1 1, 10, .inl Fr3))]) (rest := rest) (wc := [(r0, .inr (4, [.ref r1, .ref r2, .ref r3, .int (Sr4 + 1), .int 0, .int Sr6, .int Sr7, .int Sr8])), (r1, .inl (G.2.1 0, 10, .inl Fr1)), (r2, .inl (G.2.1 0, 10, .inl (upd Fr2 Sr6.toNatClampNeg Sr7))), (r3, .inl (G.2.1 1, 10, .inl Fr3))]) (wr := []) hP hD [0, 1, 2, 3] rfl (by decide)
    refine gx_call (ix_V (As := []) (rest := []) hx hb hown (k_Re_53 hC) (ki_Re_startNumber hC) (kv_Re_startNumber hC) (mx_Is.code (args := #[]) (kc_Re_startNumber hC)) kh_Re_startNumber (va_recv hC.K hP (ci := 4) (q0 := 0) rfl rfl) rfl kp_Re_startNumber rfl d_Re_endsHour_42) (c_Re_startNumber l hl0 G r0 r1 r2 r3 Fr1 (upd Fr2 Sr6.toNatClampNeg Sr7) Fr3 (Sr4 + 1) 0 Sr6 Sr7 Sr8) (kc_Re_startNumber hC) rfl (mx_Is.code (args := #[]) (kc_Re_startNumber hC)) (kn_Re hC) hb hC hPc hDc hS (by decide) (by decide) hsize (Nat.le_of_ble_eq_true rfl) d_Re_endsHour_42 (fun v w' H locs hPo hP hD hS => ?_) (fun E w' H1 locs1 q ce hPx hP hD hS hq1 hq2 hq3 => ?_)
    · obtain ⟨-, rfl, rfl⟩ := hPo
      obtain ⟨hP, hD⟩ := gl_split (p := [(r0, .inr (4, [.ref r1, .ref r2, .ref r3, .int (Sr4 + 1), .int 0, .int Sr6, .int 0, .int 0])), (r1, .inl (G.2.1 0, 10, .inl Fr1)), (r2, .inl (G.2.1 0, 10, .inl (upd Fr2 Sr6.toNatClampNeg Sr7))), (r3, .inl (G.2.1 1, 10, .inl Fr3))]) (rest := rest) (wc := [(r0, .inr (4, [.ref r1, .ref r2, .ref r3, .int (Sr4 + 1), .int 0, .int Sr6, .int 0, .int 0])), (r1, .inl (G.2.1 0, 10, .inl Fr1)), (r2, .inl (G.2.1 0, 10, .inl (upd Fr2 Sr6.toNatClampNeg Sr7))), (r3, .inl (G.2.1 1, 10, .inl Fr3))]) (wr := []) hP hD [0, 1, 2, 3] rfl (by decide)
      have hP : va_P G.1 g_cl ((r0, .inr (4, [.ref r1, .ref r2, .ref r3, .int (Sr4 + 1), .int 0, .int Sr6, .int 0, .int 0])) :: (r1, .inl (G.2.1 0, 10, .inl Fr1)) :: (r2, .inl (G.2.1 0, 10, .inl (upd Fr2 Sr6.toNatClampNeg Sr7))) :: (r3, .inl (G.2.1 1, 10, .inl Fr3)) :: rest) H := hP
      have hD : va_D (g_A G) ((r0, .inr (4, [.ref r1, .ref r2, .ref r3, .int (Sr4 + 1), .int 0, .int Sr6, .int 0, .int 0])) :: (r1, .inl (G.2.1 0, 10, .inl Fr1)) :: (r2, .inl (G.2.1 0, 10, .inl (upd Fr2 Sr6.toNatClampNeg Sr7))) :: (r3, .inl (G.2.1 1, 10, .inl Fr3)) :: rest) := hD
      refine W.eq (g2 := F0 m 45 ls []) rfl ?_
      refine lv_iload_n hx hb d_Re_endsHour_45 rfl (lv_at hl 0 rfl) ?_
      exact gx_retz [(r0, .inr (4, [.ref r1, .ref r2, .ref r3, .int (Sr4 + 1), .int 0, .int Sr6, .int 0, .int 0])), (r1, .inl (G.2.1 0, 10, .inl Fr1)), (r2, .inl (G.2.1 0, 10, .inl (upd Fr2 Sr6.toNatClampNeg Sr7))), (r3, .inl (G.2.1 1, 10, .inl Fr3))] hx hb hr hlocks rfl ⟨rfl, (by rw [if_pos (Int32.not_le.mp c_4)]), rfl⟩ hP hD hS (Nat.le_of_ble_eq_true rfl) (Nat.le_of_ble_eq_true rfl) d_Re_endsHour_46
    · exact nomatch hPx.1
