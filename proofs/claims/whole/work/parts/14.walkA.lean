set_option maxHeartbeats 4000000 in
set_option maxRecDepth 100000 in
theorem c_CB_requireKnown (l : Launch) (hl0 : l.stackTraces = false) (G : GG) (x : Int32) (n : Int32)  : px l G y_CB_requireKnown cd_CB_requireKnown rm_CB_requireKnown [.int x, .int n] [] (ck_known x n) none := by
  intro rest
  refine mx_of (cc := b_CB_requireKnown) (maxL := 2) (ret := none) (by decide) rfl ?_
  intro p e s m args below meth c s₁ B hml hE hv
  obtain ⟨rfl, hC, hP, hD⟩ := hv
  have hx := B.exec
  have hb := B.bytes
  have hr := B.returns
  have hlocks := B.notSynchronized
  have hown : s.vm.findClass R_CB = some m.cls := findClass_of_methodNamed B.named
  have hS : va_S (g_A G) s.heap s.heap [] := va_S.rf
  have hl := lv_entry ([.int x, .int n]) (n := 2) (Nat.le_of_ble_eq_true rfl)
  rw [lg_entry_eq]
  generalize (lg_sl ([.int x, .int n]) ++ List.replicate (2 - (lg_sl ([.int x, .int n])).length) Slot.unset).toArray = ls at hl ⊢
  have hl : lv_has ls 2 [(0, .int x), (1, .int n)] := hl
  have hsize : ls.size = c.maxLocals := by rw [hml]; exact hl.1
  have hP : va_P G.1 g_cl rest s.heap := hP
  have hD : va_D (g_A G) rest := hD
  refine lv_iload_n hx hb d_CB_requireKnown_0 rfl (lv_at hl 0 rfl) ?_
  refine lv_if_lt (tgt := 9) hx hb d_CB_requireKnown_1 (by decide) (fun c_1 => ?_) (fun c_1 => ?_)
  · exact mx_throwG (w := 3) hx hb hl0 hown (by decide +kernel) (by decide +kernel) (k_CB_254 hC) (kn_eIA hC) (oa_CB_258 hC) (mx_ldcSW hx hb hown (k_CB_256 hC) d_CB_requireKnown_13) hsize d_CB_requireKnown_9 d_CB_requireKnown_12 d_CB_requireKnown_16 d_CB_requireKnown_19 hE hlocks (by decide) (Nat.le_of_ble_eq_true rfl) (by decide) (by decide) (fun t _ h1 h2 => ⟨by first | rfl | (simp only [ck_known, c_1, Option.none_or, Option.some_or, Option.or_none, or_true, true_or, or_false, false_or, or_self, and_true, true_and, and_false, false_and, and_self, not_true_eq_false, not_false_eq_true, ↓reduceIte]; done) | (simp only [ck_known, c_1, Option.none_or, Option.some_or, Option.or_none, or_true, true_or, or_false, false_or, or_self, and_true, true_and, and_false, false_and, and_self, not_true_eq_false, not_false_eq_true, ↓reduceIte]; rfl) | (simp [ck_known, c_1]; done), h1, h2⟩)
  · refine lv_iload_n hx hb d_CB_requireKnown_4 rfl (lv_at hl 0 rfl) ?_
    refine lv_iload_n hx hb d_CB_requireKnown_5 rfl (lv_at hl 1 rfl) ?_
    refine lv_icmp_lt (tgt := 20) hx hb d_CB_requireKnown_6 (by decide) (fun c_6 => ?_) (fun c_6 => ?_)
    · exact px_retv hx hb hr hlocks (by first | rfl | (simp only [ck_known, c_1, c_6, Option.none_or, Option.some_or, Option.or_none, or_true, true_or, or_false, false_or, or_self, and_true, true_and, and_false, false_and, and_self, not_true_eq_false, not_false_eq_true, ↓reduceIte]; done) | (simp only [ck_known, c_1, c_6, Option.none_or, Option.some_or, Option.or_none, or_true, true_or, or_false, false_or, or_self, and_true, true_and, and_false, false_and, and_self, not_true_eq_false, not_false_eq_true, ↓reduceIte]; rfl) | (simp [ck_known, c_1, c_6]; done)) rfl d_CB_requireKnown_20
    · exact mx_throwG (w := 3) hx hb hl0 hown (by decide +kernel) (by decide +kernel) (k_CB_254 hC) (kn_eIA hC) (oa_CB_258 hC) (mx_ldcSW hx hb hown (k_CB_256 hC) d_CB_requireKnown_13) hsize d_CB_requireKnown_9 d_CB_requireKnown_12 d_CB_requireKnown_16 d_CB_requireKnown_19 hE hlocks (by decide) (Nat.le_of_ble_eq_true rfl) (by decide) (by decide) (fun t _ h1 h2 => ⟨by first | rfl | (simp only [ck_known, c_1, c_6, Option.none_or, Option.some_or, Option.or_none, or_true, true_or, or_false, false_or, or_self, and_true, true_and, and_false, false_and, and_self, not_true_eq_false, not_false_eq_true, ↓reduceIte]; done) | (simp only [ck_known, c_1, c_6, Option.none_or, Option.some_or, Option.or_none, or_true, true_or, or_false, false_or, or_self, and_true, true_and, and_false, false_and, and_self, not_true_eq_false, not_false_eq_true, ↓reduceIte]; rfl) | (simp [ck_known, c_1, c_6]; done), h1, h2⟩)
set_option maxHeartbeats 4000000 in
set_option maxRecDepth 100000 in
theorem c_CB_requireRange (l : Launch) (hl0 : l.stackTraces = false) (G : GG) (x : Int32) (lo : Int32) (hi : Int32)  : px l G y_CB_requireRange cd_CB_requireRange rm_CB_requireRange [.int x, .int lo, .int hi] [] (ck_range x lo hi) none := by
  intro rest
  refine mx_of (cc := b_CB_requireRange) (maxL := 3) (ret := none) (by decide) rfl ?_
  intro p e s m args below meth c s₁ B hml hE hv
  obtain ⟨rfl, hC, hP, hD⟩ := hv
  have hx := B.exec
  have hb := B.bytes
  have hr := B.returns
  have hlocks := B.notSynchronized
  have hown : s.vm.findClass R_CB = some m.cls := findClass_of_methodNamed B.named
  have hS : va_S (g_A G) s.heap s.heap [] := va_S.rf
  have hl := lv_entry ([.int x, .int lo, .int hi]) (n := 3) (Nat.le_of_ble_eq_true rfl)
  rw [lg_entry_eq]
  generalize (lg_sl ([.int x, .int lo, .int hi]) ++ List.replicate (3 - (lg_sl ([.int x, .int lo, .int hi])).length) Slot.unset).toArray = ls at hl ⊢
  have hl : lv_has ls 3 [(0, .int x), (1, .int lo), (2, .int hi)] := hl
  have hsize : ls.size = c.maxLocals := by rw [hml]; exact hl.1
  have hP : va_P G.1 g_cl rest s.heap := hP
  have hD : va_D (g_A G) rest := hD
  refine lv_iload_n hx hb d_CB_requireRange_0 rfl (lv_at hl 0 rfl) ?_
  refine lv_iload_n hx hb d_CB_requireRange_1 rfl (lv_at hl 1 rfl) ?_
  refine lv_icmp_lt (tgt := 10) hx hb d_CB_requireRange_2 (by decide) (fun c_2 => ?_) (fun c_2 => ?_)
  · exact mx_throwG (w := 3) hx hb hl0 hown (by decide +kernel) (by decide +kernel) (k_CB_259 hC) (kn_eIO hC) (oa_CB_263 hC) (mx_ldcSW hx hb hown (k_CB_261 hC) d_CB_requireRange_14) hsize d_CB_requireRange_10 d_CB_requireRange_13 d_CB_requireRange_17 d_CB_requireRange_20 hE hlocks (by decide) (Nat.le_of_ble_eq_true rfl) (by decide) (by decide) (fun t _ h1 h2 => ⟨by first | rfl | (simp only [ck_range, c_2, Option.none_or, Option.some_or, Option.or_none, or_true, true_or, or_false, false_or, or_self, and_true, true_and, and_false, false_and, and_self, not_true_eq_false, not_false_eq_true, ↓reduceIte]; done) | (simp only [ck_range, c_2, Option.none_or, Option.some_or, Option.or_none, or_true, true_or, or_false, false_or, or_self, and_true, true_and, and_false, false_and, and_self, not_true_eq_false, not_false_eq_true, ↓reduceIte]; rfl) | (simp [ck_range, c_2]; done), h1, h2⟩)
  · refine lv_iload_n hx hb d_CB_requireRange_5 rfl (lv_at hl 0 rfl) ?_
    refine lv_iload_n hx hb d_CB_requireRange_6 rfl (lv_at hl 2 rfl) ?_
    refine lv_icmp_le (tgt := 21) hx hb d_CB_requireRange_7 (by decide) (fun c_7 => ?_) (fun c_7 => ?_)
    · exact px_retv hx hb hr hlocks (by first | rfl | (simp only [ck_range, c_2, c_7, Option.none_or, Option.some_or, Option.or_none, or_true, true_or, or_false, false_or, or_self, and_true, true_and, and_false, false_and, and_self, not_true_eq_false, not_false_eq_true, ↓reduceIte]; done) | (simp only [ck_range, c_2, c_7, Option.none_or, Option.some_or, Option.or_none, or_true, true_or, or_false, false_or, or_self, and_true, true_and, and_false, false_and, and_self, not_true_eq_false, not_false_eq_true, ↓reduceIte]; rfl) | (simp [ck_range, c_2, c_7]; done)) rfl d_CB_requireRange_21
    · exact mx_throwG (w := 3) hx hb hl0 hown (by decide +kernel) (by decide +kernel) (k_CB_259 hC) (kn_eIO hC) (oa_CB_263 hC) (mx_ldcSW hx hb hown (k_CB_261 hC) d_CB_requireRange_14) hsize d_CB_requireRange_10 d_CB_requireRange_13 d_CB_requireRange_17 d_CB_requireRange_20 hE hlocks (by decide) (Nat.le_of_ble_eq_true rfl) (by decide) (by decide) (fun t _ h1 h2 => ⟨by first | rfl | (simp only [ck_range, c_2, c_7, Option.none_or, Option.some_or, Option.or_none, or_true, true_or, or_false, false_or, or_self, and_true, true_and, and_false, false_and, and_self, not_true_eq_false, not_false_eq_true, ↓reduceIte]; done) | (simp only [ck_range, c_2, c_7, Option.none_or, Option.some_or, Option.or_none, or_true, true_or, or_false, false_or, or_self, and_true, true_and, and_false, false_and, and_self, not_true_eq_false, not_false_eq_true, ↓reduceIte]; rfl) | (simp [ck_range, c_2, c_7]; done), h1, h2⟩)
set_option maxHeartbeats 4000000 in
set_option maxRecDepth 100000 in
theorem c_CB_requireState (l : Launch) (hl0 : l.stackTraces = false) (G : GG) (x : Int32)  : px l G y_CB_requireState cd_CB_requireState rm_CB_requireState [.int x] [] (ck_state x) none := by
  intro rest
  refine mx_of (cc := b_CB_requireState) (maxL := 1) (ret := none) (by decide) rfl ?_
  intro p e s m args below meth c s₁ B hml hE hv
  obtain ⟨rfl, hC, hP, hD⟩ := hv
  have hx := B.exec
  have hb := B.bytes
  have hr := B.returns
  have hlocks := B.notSynchronized
  have hown : s.vm.findClass R_CB = some m.cls := findClass_of_methodNamed B.named
  have hS : va_S (g_A G) s.heap s.heap [] := va_S.rf
  have hl := lv_entry ([.int x]) (n := 1) (Nat.le_of_ble_eq_true rfl)
  rw [lg_entry_eq]
  generalize (lg_sl ([.int x]) ++ List.replicate (1 - (lg_sl ([.int x])).length) Slot.unset).toArray = ls at hl ⊢
  have hl : lv_has ls 1 [(0, .int x)] := hl
  have hsize : ls.size = c.maxLocals := by rw [hml]; exact hl.1
  have hP : va_P G.1 g_cl rest s.heap := hP
  have hD : va_D (g_A G) rest := hD
  refine lv_iload_n hx hb d_CB_requireState_0 rfl (lv_at hl 0 rfl) ?_
  refine lv_if_ne (tgt := 15) hx hb d_CB_requireState_1 (by decide) (fun c_1 => ?_) (fun c_1 => ?_)
  · exact px_retv hx hb hr hlocks (by first | rfl | (simp only [ck_state, c_1, Option.none_or, Option.some_or, Option.or_none, or_true, true_or, or_false, false_or, or_self, and_true, true_and, and_false, false_and, and_self, not_true_eq_false, not_false_eq_true, ↓reduceIte]; done) | (simp only [ck_state, c_1, Option.none_or, Option.some_or, Option.or_none, or_true, true_or, or_false, false_or, or_self, and_true, true_and, and_false, false_and, and_self, not_true_eq_false, not_false_eq_true, ↓reduceIte]; rfl) | (simp [ck_state, c_1]; done)) rfl d_CB_requireState_15
  · exact mx_throwG (w := 3) hx hb hl0 hown (by decide +kernel) (by decide +kernel) (k_CB_264 hC) (kn_eIS hC) (oa_CB_268 hC) (mx_ldcSW hx hb hown (k_CB_266 hC) d_CB_requireState_8) hsize d_CB_requireState_4 d_CB_requireState_7 d_CB_requireState_11 d_CB_requireState_14 hE hlocks (by decide) (Nat.le_of_ble_eq_true rfl) (by decide) (by decide) (fun t _ h1 h2 => ⟨by first | rfl | (simp only [ck_state, c_1, Option.none_or, Option.some_or, Option.or_none, or_true, true_or, or_false, false_or, or_self, and_true, true_and, and_false, false_and, and_self, not_true_eq_false, not_false_eq_true, ↓reduceIte]; done) | (simp only [ck_state, c_1, Option.none_or, Option.some_or, Option.or_none, or_true, true_or, or_false, false_or, or_self, and_true, true_and, and_false, false_and, and_self, not_true_eq_false, not_false_eq_true, ↓reduceIte]; rfl) | (simp [ck_state, c_1]; done), h1, h2⟩)
set_option maxHeartbeats 4000000 in
set_option maxRecDepth 100000 in
theorem c_CB_requireRoom (l : Launch) (hl0 : l.stackTraces = false) (G : GG) (x : Int32)  : px l G y_CB_requireRoom cd_CB_requireRoom rm_CB_requireRoom [.int x] [] (ck_room x) none := by
  intro rest
  refine mx_of (cc := b_CB_requireRoom) (maxL := 1) (ret := none) (by decide) rfl ?_
  intro p e s m args below meth c s₁ B hml hE hv
  obtain ⟨rfl, hC, hP, hD⟩ := hv
  have hx := B.exec
  have hb := B.bytes
  have hr := B.returns
  have hlocks := B.notSynchronized
  have hown : s.vm.findClass R_CB = some m.cls := findClass_of_methodNamed B.named
  have hS : va_S (g_A G) s.heap s.heap [] := va_S.rf
  have hl := lv_entry ([.int x]) (n := 1) (Nat.le_of_ble_eq_true rfl)
  rw [lg_entry_eq]
  generalize (lg_sl ([.int x]) ++ List.replicate (1 - (lg_sl ([.int x])).length) Slot.unset).toArray = ls at hl ⊢
  have hl : lv_has ls 1 [(0, .int x)] := hl
  have hsize : ls.size = c.maxLocals := by rw [hml]; exact hl.1
  have hP : va_P G.1 g_cl rest s.heap := hP
  have hD : va_D (g_A G) rest := hD
  refine lv_iload_n hx hb d_CB_requireRoom_0 rfl (lv_at hl 0 rfl) ?_
  refine lv_if_ne (tgt := 15) hx hb d_CB_requireRoom_1 (by decide) (fun c_1 => ?_) (fun c_1 => ?_)
  · exact px_retv hx hb hr hlocks (by first | rfl | (simp only [ck_room, c_1, Option.none_or, Option.some_or, Option.or_none, or_true, true_or, or_false, false_or, or_self, and_true, true_and, and_false, false_and, and_self, not_true_eq_false, not_false_eq_true, ↓reduceIte]; done) | (simp only [ck_room, c_1, Option.none_or, Option.some_or, Option.or_none, or_true, true_or, or_false, false_or, or_self, and_true, true_and, and_false, false_and, and_self, not_true_eq_false, not_false_eq_true, ↓reduceIte]; rfl) | (simp [ck_room, c_1]; done)) rfl d_CB_requireRoom_15
  · exact mx_throwG (w := 3) hx hb hl0 hown (by decide +kernel) (by decide +kernel) (k_CB_269 hC) (kn_eUO hC) (oa_CB_273 hC) (mx_ldcSW hx hb hown (k_CB_271 hC) d_CB_requireRoom_8) hsize d_CB_requireRoom_4 d_CB_requireRoom_7 d_CB_requireRoom_11 d_CB_requireRoom_14 hE hlocks (by decide) (Nat.le_of_ble_eq_true rfl) (by decide) (by decide) (fun t _ h1 h2 => ⟨by first | rfl | (simp only [ck_room, c_1, Option.none_or, Option.some_or, Option.or_none, or_true, true_or, or_false, false_or, or_self, and_true, true_and, and_false, false_and, and_self, not_true_eq_false, not_false_eq_true, ↓reduceIte]; done) | (simp only [ck_room, c_1, Option.none_or, Option.some_or, Option.or_none, or_true, true_or, or_false, false_or, or_self, and_true, true_and, and_false, false_and, and_self, not_true_eq_false, not_false_eq_true, ↓reduceIte]; rfl) | (simp [ck_room, c_1]; done), h1, h2⟩)
set_option maxHeartbeats 4000000 in
set_option maxRecDepth 100000 in
theorem c_CB_slotOf (l : Launch) (hl0 : l.stackTraces = false) (G : GG) (x : Int32) (y : Int32)  : px l G y_CB_slotOf cd_CB_slotOf rm_CB_slotOf [.int x, .int y] [] (none : Option String) (some (.int ((x * 10) + y))) := by
  intro rest
  refine mx_of (cc := b_CB_slotOf) (maxL := 2) (ret := (some .int)) (by decide) rfl ?_
  intro p e s m args below meth c s₁ B hml hE hv
  obtain ⟨rfl, hC, hP, hD⟩ := hv
  have hx := B.exec
  have hb := B.bytes
  have hr := B.returns
  have hlocks := B.notSynchronized
  have hown : s.vm.findClass R_CB = some m.cls := findClass_of_methodNamed B.named
  have hS : va_S (g_A G) s.heap s.heap [] := va_S.rf
  have hl := lv_entry ([.int x, .int y]) (n := 2) (Nat.le_of_ble_eq_true rfl)
  rw [lg_entry_eq]
  generalize (lg_sl ([.int x, .int y]) ++ List.replicate (2 - (lg_sl ([.int x, .int y])).length) Slot.unset).toArray = ls at hl ⊢
  have hl : lv_has ls 2 [(0, .int x), (1, .int y)] := hl
  have hsize : ls.size = c.maxLocals := by rw [hml]; exact hl.1
  have hP : va_P G.1 g_cl rest s.heap := hP
  have hD : va_D (g_A G) rest := hD
  refine lv_iload_n hx hb d_CB_slotOf_0 rfl (lv_at hl 0 rfl) ?_
  refine lv_bipush (v := 10) hx hb d_CB_slotOf_1 (by decide) ?_
  refine lv_imul hx hb d_CB_slotOf_3 ?_
  refine lv_iload_n hx hb d_CB_slotOf_4 rfl (lv_at hl 1 rfl) ?_
  refine lv_iadd hx hb d_CB_slotOf_5 ?_
  exact px_reti hx hb hr hlocks rfl rfl d_CB_slotOf_6
set_option maxHeartbeats 4000000 in
set_option maxRecDepth 100000 in
theorem c_CB_isClosed (l : Launch) (hl0 : l.stackTraces = false) (G : GG) (c0 : Nat) (u0 : Nat) (o0 : Nat) (t0 : Nat) (r0 : Nat) (f0 : Nat) (i0 : Nat) (h0 : Nat) (g0 : Nat) (e0 : Nat) (Sc10 : Int32) (Sc11 : Int32) (Sc12 : Int32) (x : Int32)  : px l G y_CB_isClosed cd_CB_isClosed rm_CB_isClosed [.ref c0, .int x] [(c0, .inr (0, [.ref u0, .ref o0, .ref t0, .ref r0, .ref f0, .ref i0, .ref h0, .ref g0, .ref e0, .int Sc10, .int Sc11, .int Sc12]))] (none : Option String) (some (.int (if x < Sc12 then 1 else 0))) := by
  intro rest
  refine mx_of (cc := b_CB_isClosed) (maxL := 2) (ret := (some .boolean)) (by decide) rfl ?_
  intro p e s m args below meth c s₁ B hml hE hv
  obtain ⟨rfl, hC, hP, hD⟩ := hv
  have hx := B.exec
  have hb := B.bytes
  have hr := B.returns
  have hlocks := B.notSynchronized
  have hown : s.vm.findClass R_CB = some m.cls := findClass_of_methodNamed B.named
  have hS : va_S (g_A G) s.heap s.heap [] := va_S.rf
  have hl := lv_entry ([.ref c0, .int x]) (n := 2) (Nat.le_of_ble_eq_true rfl)
  rw [lg_entry_eq]
  generalize (lg_sl ([.ref c0, .int x]) ++ List.replicate (2 - (lg_sl ([.ref c0, .int x])).length) Slot.unset).toArray = ls at hl ⊢
  have hl : lv_has ls 2 [(0, .ref c0), (1, .int x)] := hl
  have hsize : ls.size = c.maxLocals := by rw [hml]; exact hl.1
  have hP : va_P G.1 g_cl ((c0, .inr (0, [.ref u0, .ref o0, .ref t0, .ref r0, .ref f0, .ref i0, .ref h0, .ref g0, .ref e0, .int Sc10, .int Sc11, .int Sc12])) :: rest) s.heap := hP
  have hD : va_D (g_A G) ((c0, .inr (0, [.ref u0, .ref o0, .ref t0, .ref r0, .ref f0, .ref i0, .ref h0, .ref g0, .ref e0, .int Sc10, .int Sc11, .int Sc12])) :: rest) := hD
  refine lv_iload_n hx hb d_CB_isClosed_0 rfl (lv_at hl 1 rfl) ?_
  refine lv_aload_n hx hb d_CB_isClosed_1 rfl (lv_at hl 0 rfl) ?_
  refine va_get (D := G.1) (ci := 0) (v := .int Sc12) (C := R_CB) (T := F_CB) (N := 12) hx hb (u_CB hC) (fun _ h => h) hown hC.K hP 0 rfl rfl 11 (by decide) (k_CB_79 hC) (fun _ h9 => h9) rfl d_CB_isClosed_2 ?_
  refine lv_icmp_ge (tgt := 12) hx hb d_CB_isClosed_5 (by decide) (fun c_5 => ?_) (fun c_5 => ?_)
  · refine lv_iconst (v := 0) hx hb d_CB_isClosed_12 (by decide) ?_
    exact px_retz hx hb hr hlocks rfl rfl (by first | rfl | (simp only [c_5, Option.none_or, Option.some_or, Option.or_none, or_true, true_or, or_false, false_or, or_self, and_true, true_and, and_false, false_and, and_self, not_true_eq_false, not_false_eq_true, ↓reduceIte]; done) | (simp only [c_5, Option.none_or, Option.some_or, Option.or_none, or_true, true_or, or_false, false_or, or_self, and_true, true_and, and_false, false_and, and_self, not_true_eq_false, not_false_eq_true, ↓reduceIte]; rfl) | (simp [c_5]; done)) d_CB_isClosed_13
  · refine lv_iconst (v := 1) hx hb d_CB_isClosed_8 (by decide) ?_
    refine lv_goto (tgt := 13) hx hb d_CB_isClosed_9 (by decide) ?_
    exact px_retz hx hb hr hlocks rfl rfl (by first | rfl | (simp only [c_5, Option.none_or, Option.some_or, Option.or_none, or_true, true_or, or_false, false_or, or_self, and_true, true_and, and_false, false_and, and_self, not_true_eq_false, not_false_eq_true, ↓reduceIte]; done) | (simp only [c_5, Option.none_or, Option.some_or, Option.or_none, or_true, true_or, or_false, false_or, or_self, and_true, true_and, and_false, false_and, and_self, not_true_eq_false, not_false_eq_true, ↓reduceIte]; rfl) | (simp [c_5]; done)) d_CB_isClosed_13
set_option maxHeartbeats 4000000 in
set_option maxRecDepth 100000 in
theorem c_Bu_boundIn (l : Launch) (hl0 : l.stackTraces = false) (G : GG) (u0 : Nat) (u1 : Nat) (u2 : Nat) (u3 : Nat) (Fu1 : Nat → Int32) (Fu2 : Nat → Int32) (Fu3 : Nat → Int32) (x : Int32) (hi : vp_in x 50) : px l G y_Bu_boundIn cd_Bu_boundIn rm_Bu_boundIn [.ref u0, .int x] [(u0, .inr (1, [.ref u1, .ref u2, .ref u3])), (u1, .inl (G.2.1 0, 50, .inl Fu1)), (u2, .inl (G.2.1 0, 50, .inl Fu2)), (u3, .inl (G.2.1 0, 50, .inl Fu3))] (none : Option String) (some (.int ((Fu2 x.toNatClampNeg) + (Fu3 x.toNatClampNeg)))) := by
  intro rest
  refine mx_of (cc := b_Bu_boundIn) (maxL := 2) (ret := (some .int)) (by decide) rfl ?_
  intro p e s m args below meth c s₁ B hml hE hv
  obtain ⟨rfl, hC, hP, hD⟩ := hv
  have hx := B.exec
  have hb := B.bytes
  have hr := B.returns
  have hlocks := B.notSynchronized
  have hown : s.vm.findClass R_Bu = some m.cls := findClass_of_methodNamed B.named
  have hS : va_S (g_A G) s.heap s.heap [] := va_S.rf
  have hl := lv_entry ([.ref u0, .int x]) (n := 2) (Nat.le_of_ble_eq_true rfl)
  rw [lg_entry_eq]
  generalize (lg_sl ([.ref u0, .int x]) ++ List.replicate (2 - (lg_sl ([.ref u0, .int x])).length) Slot.unset).toArray = ls at hl ⊢
  have hl : lv_has ls 2 [(0, .ref u0), (1, .int x)] := hl
  have hsize : ls.size = c.maxLocals := by rw [hml]; exact hl.1
  have hP : va_P G.1 g_cl ((u0, .inr (1, [.ref u1, .ref u2, .ref u3])) :: (u1, .inl (G.2.1 0, 50, .inl Fu1)) :: (u2, .inl (G.2.1 0, 50, .inl Fu2)) :: (u3, .inl (G.2.1 0, 50, .inl Fu3)) :: rest) s.heap := hP
  have hD : va_D (g_A G) ((u0, .inr (1, [.ref u1, .ref u2, .ref u3])) :: (u1, .inl (G.2.1 0, 50, .inl Fu1)) :: (u2, .inl (G.2.1 0, 50, .inl Fu2)) :: (u3, .inl (G.2.1 0, 50, .inl Fu3)) :: rest) := hD
  refine lv_aload_n hx hb d_Bu_boundIn_0 rfl (lv_at hl 0 rfl) ?_
  refine va_get (D := G.1) (ci := 1) (v := .ref u2) (C := R_Bu) (T := F_Bu) (N := 3) hx hb (u_Bu hC) (fun _ h => h) hown hC.K hP 0 rfl rfl 1 (by decide) (k_Bu_15 hC) (fun _ h9 => h9) rfl d_Bu_boundIn_1 ?_
  refine lv_iload_n hx hb d_Bu_boundIn_4 rfl (lv_at hl 1 rfl) ?_
  refine va_iald hx hb hC.K hP 2 0 rfl rfl hi d_Bu_boundIn_5 ?_
  refine lv_aload_n hx hb d_Bu_boundIn_6 rfl (lv_at hl 0 rfl) ?_
  refine va_get (D := G.1) (ci := 1) (v := .ref u3) (C := R_Bu) (T := F_Bu) (N := 3) hx hb (u_Bu hC) (fun _ h => h) hown hC.K hP 0 rfl rfl 2 (by decide) (k_Bu_18 hC) (fun _ h9 => h9) rfl d_Bu_boundIn_7 ?_
  refine lv_iload_n hx hb d_Bu_boundIn_10 rfl (lv_at hl 1 rfl) ?_
  refine va_iald hx hb hC.K hP 3 0 rfl rfl hi d_Bu_boundIn_11 ?_
  refine lv_iadd hx hb d_Bu_boundIn_12 ?_
  exact px_reti hx hb hr hlocks rfl rfl d_Bu_boundIn_13
set_option maxHeartbeats 4000000 in
set_option maxRecDepth 100000 in
theorem c_Bu_freeIn (l : Launch) (hl0 : l.stackTraces = false) (G : GG) (u0 : Nat) (u1 : Nat) (u2 : Nat) (u3 : Nat) (Fu1 : Nat → Int32) (Fu2 : Nat → Int32) (Fu3 : Nat → Int32) (x : Int32) (hi : vp_in x 50) : px l G y_Bu_freeIn cd_Bu_freeIn rm_Bu_freeIn [.ref u0, .int x] [(u0, .inr (1, [.ref u1, .ref u2, .ref u3])), (u1, .inl (G.2.1 0, 50, .inl Fu1)), (u2, .inl (G.2.1 0, 50, .inl Fu2)), (u3, .inl (G.2.1 0, 50, .inl Fu3))] (none : Option String) (some (.int ((Fu1 x.toNatClampNeg) - ((Fu2 x.toNatClampNeg) + (Fu3 x.toNatClampNeg))))) := by
  intro rest
  refine mx_of (cc := b_Bu_freeIn) (maxL := 2) (ret := (some .int)) (by decide) rfl ?_
  intro p e s m args below meth c s₁ B hml hE hv
  obtain ⟨rfl, hC, hP, hD⟩ := hv
  have hx := B.exec
  have hb := B.bytes
  have hr := B.returns
  have hlocks := B.notSynchronized
  have hown : s.vm.findClass R_Bu = some m.cls := findClass_of_methodNamed B.named
  have hS : va_S (g_A G) s.heap s.heap [] := va_S.rf
  have hl := lv_entry ([.ref u0, .int x]) (n := 2) (Nat.le_of_ble_eq_true rfl)
  rw [lg_entry_eq]
  generalize (lg_sl ([.ref u0, .int x]) ++ List.replicate (2 - (lg_sl ([.ref u0, .int x])).length) Slot.unset).toArray = ls at hl ⊢
  have hl : lv_has ls 2 [(0, .ref u0), (1, .int x)] := hl
  have hsize : ls.size = c.maxLocals := by rw [hml]; exact hl.1
  have hP : va_P G.1 g_cl ((u0, .inr (1, [.ref u1, .ref u2, .ref u3])) :: (u1, .inl (G.2.1 0, 50, .inl Fu1)) :: (u2, .inl (G.2.1 0, 50, .inl Fu2)) :: (u3, .inl (G.2.1 0, 50, .inl Fu3)) :: rest) s.heap := hP
  have hD : va_D (g_A G) ((u0, .inr (1, [.ref u1, .ref u2, .ref u3])) :: (u1, .inl (G.2.1 0, 50, .inl Fu1)) :: (u2, .inl (G.2.1 0, 50, .inl Fu2)) :: (u3, .inl (G.2.1 0, 50, .inl Fu3)) :: rest) := hD
  refine lv_aload_n hx hb d_Bu_freeIn_0 rfl (lv_at hl 0 rfl) ?_
  refine va_get (D := G.1) (ci := 1) (v := .ref u1) (C := R_Bu) (T := F_Bu) (N := 3) hx hb (u_Bu hC) (fun _ h => h) hown hC.K hP 0 rfl rfl 0 (by decide) (k_Bu_9 hC) (fun _ h9 => h9) rfl d_Bu_freeIn_1 ?_
  refine lv_iload_n hx hb d_Bu_freeIn_4 rfl (lv_at hl 1 rfl) ?_
  refine va_iald hx hb hC.K hP 1 0 rfl rfl hi d_Bu_freeIn_5 ?_
  refine lv_aload_n hx hb d_Bu_freeIn_6 rfl (lv_at hl 0 rfl) ?_
  refine lv_iload_n hx hb d_Bu_freeIn_7 rfl (lv_at hl 1 rfl) ?_
  refine px_callN (ix_V (As := [.int x]) (rest := [.int (Fu1 x.toNatClampNeg)]) hx hb hown (k_Bu_21 hC) (ki_Bu_boundIn hC) (kv_Bu_boundIn hC) (mx_Is.code (args := #[]) (kc_Bu_boundIn hC)) kh_Bu_boundIn (va_recv hC.K hP (ci := 1) (q0 := 0) rfl rfl) rfl kp_Bu_boundIn rfl d_Bu_freeIn_8) (c_Bu_boundIn l hl0 G u0 u1 u2 u3 Fu1 Fu2 Fu3 x hi) (kc_Bu_boundIn hC) rfl (mx_Is.code (args := #[]) (kc_Bu_boundIn hC)) (kn_Bu hC) hb hC (hP.sub (ws' := [(u0, .inr (1, [.ref u1, .ref u2, .ref u3])), (u1, .inl (G.2.1 0, 50, .inl Fu1)), (u2, .inl (G.2.1 0, 50, .inl Fu2)), (u3, .inl (G.2.1 0, 50, .inl Fu3))]) [0, 1, 2, 3] rfl) (hD.sub (ws' := [(u0, .inr (1, [.ref u1, .ref u2, .ref u3])), (u1, .inl (G.2.1 0, 50, .inl Fu1)), (u2, .inl (G.2.1 0, 50, .inl Fu2)), (u3, .inl (G.2.1 0, 50, .inl Fu3))]) [0, 1, 2, 3] (by decide) rfl) hS (by decide) (by decide) hsize (Nat.le_of_ble_eq_true rfl) d_Bu_freeIn_8 ?_
  refine W.eq (g2 := F0 m 11 ls [.int ((Fu2 x.toNatClampNeg) + (Fu3 x.toNatClampNeg)), .int (Fu1 x.toNatClampNeg)]) rfl ?_
  refine lv_isub hx hb d_Bu_freeIn_11 ?_
  exact px_reti hx hb hr hlocks rfl rfl d_Bu_freeIn_12
set_option maxHeartbeats 4000000 in
set_option maxRecDepth 100000 in
theorem c_Or_add (l : Launch) (hl0 : l.stackTraces = false) (G : GG) (o0 : Nat) (o1 : Nat) (o2 : Nat) (o3 : Nat) (Fo1 : Nat → Int32) (Fo2 : Nat → Int32) (Fo3 : Nat → Int32) (So4 : Int32) (x : Int32) (y : Int32) (hc : vp_in So4 60) : gx l G y_Or_add cd_Or_add rm_Or_add [.ref o0, .int x, .int y] [(o0, .inr (2, [.ref o1, .ref o2, .ref o3, .int So4])), (o1, .inl (G.2.1 0, 60, .inl Fo1)), (o2, .inl (G.2.1 0, 60, .inl Fo2)), (o3, .inl (G.2.1 1, 60, .inl Fo3))] (fun v w' => (none : Option String) = none ∧ v = (some (.int ((So4 + 1) - 1))) ∧ w' = [(o0, .inr (2, [.ref o1, .ref o2, .ref o3, .int (So4 + 1)])), (o1, .inl (G.2.1 0, 60, .inl (upd Fo1 So4.toNatClampNeg x))), (o2, .inl (G.2.1 0, 60, .inl (upd Fo2 So4.toNatClampNeg y))), (o3, .inl (G.2.1 1, 60, .inl (upd Fo3 So4.toNatClampNeg 1)))]) (fun E w' => (none : Option String) = some E ∧ w' = [(o0, .inr (2, [.ref o1, .ref o2, .ref o3, .int So4])), (o1, .inl (G.2.1 0, 60, .inl Fo1)), (o2, .inl (G.2.1 0, 60, .inl Fo2)), (o3, .inl (G.2.1 1, 60, .inl Fo3))]) 0 0 := by
  intro rest
  refine mx_of (cc := b_Or_add) (maxL := 3) (ret := (some .int)) (by decide) rfl ?_
  intro p e s m args below meth c s₁ B hml hE hv
  obtain ⟨rfl, hC, hP, hD⟩ := hv
  have hx := B.exec
  have hb := B.bytes
  have hr := B.returns
  have hlocks := B.notSynchronized
  have hown : s.vm.findClass R_Or = some m.cls := findClass_of_methodNamed B.named
  have hS : va_S (g_A G) s.heap s.heap [] := va_S.rf
  have hl := lv_entry ([.ref o0, .int x, .int y]) (n := 3) (Nat.le_of_ble_eq_true rfl)
  rw [lg_entry_eq]
  generalize (lg_sl ([.ref o0, .int x, .int y]) ++ List.replicate (3 - (lg_sl ([.ref o0, .int x, .int y])).length) Slot.unset).toArray = ls at hl ⊢
  have hl : lv_has ls 3 [(0, .ref o0), (1, .int x), (2, .int y)] := hl
  have hsize : ls.size = c.maxLocals := by rw [hml]; exact hl.1
  have hP : va_P G.1 g_cl ((o0, .inr (2, [.ref o1, .ref o2, .ref o3, .int So4])) :: (o1, .inl (G.2.1 0, 60, .inl Fo1)) :: (o2, .inl (G.2.1 0, 60, .inl Fo2)) :: (o3, .inl (G.2.1 1, 60, .inl Fo3)) :: rest) s.heap := hP
  have hD : va_D (g_A G) ((o0, .inr (2, [.ref o1, .ref o2, .ref o3, .int So4])) :: (o1, .inl (G.2.1 0, 60, .inl Fo1)) :: (o2, .inl (G.2.1 0, 60, .inl Fo2)) :: (o3, .inl (G.2.1 1, 60, .inl Fo3)) :: rest) := hD
  refine lv_aload_n hx hb d_Or_add_0 rfl (lv_at hl 0 rfl) ?_
  refine va_get (D := G.1) (ci := 2) (v := .ref o1) (C := R_Or) (T := F_Or) (N := 4) hx hb (u_Or hC) (fun _ h => h) hown hC.K hP 0 rfl rfl 0 (by decide) (k_Or_9 hC) (fun _ h9 => h9) rfl d_Or_add_1 ?_
  refine lv_aload_n hx hb d_Or_add_4 rfl (lv_at hl 0 rfl) ?_
  refine va_get (D := G.1) (ci := 2) (v := .int So4) (C := R_Or) (T := F_Or) (N := 4) hx hb (u_Or hC) (fun _ h => h) hown hC.K hP 0 rfl rfl 3 (by decide) (k_Or_22 hC) (fun _ h9 => h9) rfl d_Or_add_5 ?_
  refine lv_iload_n hx hb d_Or_add_8 rfl (lv_at hl 1 rfl) ?_
  refine va_iast hx hb hC.K hP hD hS 1 0 rfl rfl hc d_Or_add_9 (fun H locs hP hD hS => ?_)
  have hP : va_P G.1 g_cl ((o0, .inr (2, [.ref o1, .ref o2, .ref o3, .int So4])) :: (o1, .inl (G.2.1 0, 60, .inl (upd Fo1 So4.toNatClampNeg x))) :: (o2, .inl (G.2.1 0, 60, .inl Fo2)) :: (o3, .inl (G.2.1 1, 60, .inl Fo3)) :: rest) H := hP
  have hD : va_D (g_A G) ((o0, .inr (2, [.ref o1, .ref o2, .ref o3, .int So4])) :: (o1, .inl (G.2.1 0, 60, .inl (upd Fo1 So4.toNatClampNeg x))) :: (o2, .inl (G.2.1 0, 60, .inl Fo2)) :: (o3, .inl (G.2.1 1, 60, .inl Fo3)) :: rest) := hD
  refine lv_aload_n hx hb d_Or_add_10 rfl (lv_at hl 0 rfl) ?_
  refine va_get (D := G.1) (ci := 2) (v := .ref o2) (C := R_Or) (T := F_Or) (N := 4) hx hb (u_Or hC) (fun _ h => h) hown hC.K hP 0 rfl rfl 1 (by decide) (k_Or_15 hC) (fun _ h9 => h9) rfl d_Or_add_11 ?_
  refine lv_aload_n hx hb d_Or_add_14 rfl (lv_at hl 0 rfl) ?_
  refine va_get (D := G.1) (ci := 2) (v := .int So4) (C := R_Or) (T := F_Or) (N := 4) hx hb (u_Or hC) (fun _ h => h) hown hC.K hP 0 rfl rfl 3 (by decide) (k_Or_22 hC) (fun _ h9 => h9) rfl d_Or_add_15 ?_
  refine lv_iload_n hx hb d_Or_add_18 rfl (lv_at hl 2 rfl) ?_
  refine va_iast hx hb hC.K hP hD hS 2 0 rfl rfl hc d_Or_add_19 (fun H locs hP hD hS => ?_)
  have hP : va_P G.1 g_cl ((o0, .inr (2, [.ref o1, .ref o2, .ref o3, .int So4])) :: (o1, .inl (G.2.1 0, 60, .inl (upd Fo1 So4.toNatClampNeg x))) :: (o2, .inl (G.2.1 0, 60, .inl (upd Fo2 So4.toNatClampNeg y))) :: (o3, .inl (G.2.1 1, 60, .inl Fo3)) :: rest) H := hP
  have hD : va_D (g_A G) ((o0, .inr (2, [.ref o1, .ref o2, .ref o3, .int So4])) :: (o1, .inl (G.2.1 0, 60, .inl (upd Fo1 So4.toNatClampNeg x))) :: (o2, .inl (G.2.1 0, 60, .inl (upd Fo2 So4.toNatClampNeg y))) :: (o3, .inl (G.2.1 1, 60, .inl Fo3)) :: rest) := hD
  refine lv_aload_n hx hb d_Or_add_20 rfl (lv_at hl 0 rfl) ?_
  refine va_get (D := G.1) (ci := 2) (v := .ref o3) (C := R_Or) (T := F_Or) (N := 4) hx hb (u_Or hC) (fun _ h => h) hown hC.K hP 0 rfl rfl 2 (by decide) (k_Or_18 hC) (fun _ h9 => h9) rfl d_Or_add_21 ?_
  refine lv_aload_n hx hb d_Or_add_24 rfl (lv_at hl 0 rfl) ?_
  refine va_get (D := G.1) (ci := 2) (v := .int So4) (C := R_Or) (T := F_Or) (N := 4) hx hb (u_Or hC) (fun _ h => h) hown hC.K hP 0 rfl rfl 3 (by decide) (k_Or_22 hC) (fun _ h9 => h9) rfl d_Or_add_25 ?_
  refine lv_iconst (v := 1) hx hb d_Or_add_28 (by decide) ?_
  refine va_zast hx hb hC.K hP hD hS 3 1 rfl rfl hc d_Or_add_29 (fun H locs hP hD hS => ?_)
  have hP : va_P G.1 g_cl ((o0, .inr (2, [.ref o1, .ref o2, .ref o3, .int So4])) :: (o1, .inl (G.2.1 0, 60, .inl (upd Fo1 So4.toNatClampNeg x))) :: (o2, .inl (G.2.1 0, 60, .inl (upd Fo2 So4.toNatClampNeg y))) :: (o3, .inl (G.2.1 1, 60, .inl (upd Fo3 So4.toNatClampNeg 1))) :: rest) H := hP
  have hD : va_D (g_A G) ((o0, .inr (2, [.ref o1, .ref o2, .ref o3, .int So4])) :: (o1, .inl (G.2.1 0, 60, .inl (upd Fo1 So4.toNatClampNeg x))) :: (o2, .inl (G.2.1 0, 60, .inl (upd Fo2 So4.toNatClampNeg y))) :: (o3, .inl (G.2.1 1, 60, .inl (upd Fo3 So4.toNatClampNeg 1))) :: rest) := hD
  refine lv_aload_n hx hb d_Or_add_30 rfl (lv_at hl 0 rfl) ?_
  refine lv_dup hx hb d_Or_add_31 rfl ?_
  refine va_get (D := G.1) (ci := 2) (v := .int So4) (C := R_Or) (T := F_Or) (N := 4) hx hb (u_Or hC) (fun _ h => h) hown hC.K hP 0 rfl rfl 3 (by decide) (k_Or_22 hC) (fun _ h9 => h9) rfl d_Or_add_32 ?_
  refine lv_iconst (v := 1) hx hb d_Or_add_35 (by decide) ?_
  refine lv_iadd hx hb d_Or_add_36 ?_
  refine va_put (D := G.1) (ci := 2) (v := .int (So4 + 1)) (ty := .int) (C := R_Or) (T := F_Or) (N := 4) hx hb (u_Or hC) (fun _ h => h) t_Or t_Or_ok n_Or hown hC.K hP hD hS 0 rfl rfl 3 (by decide) (k_Or_22 hC) (fun _ h9 => h9) rfl (by decide +kernel) rfl rfl (Nat.le_of_ble_eq_true rfl) d_Or_add_37 (fun H locs hP hD hS => ?_)
  have hP : va_P G.1 g_cl ((o0, .inr (2, [.ref o1, .ref o2, .ref o3, .int (So4 + 1)])) :: (o1, .inl (G.2.1 0, 60, .inl (upd Fo1 So4.toNatClampNeg x))) :: (o2, .inl (G.2.1 0, 60, .inl (upd Fo2 So4.toNatClampNeg y))) :: (o3, .inl (G.2.1 1, 60, .inl (upd Fo3 So4.toNatClampNeg 1))) :: rest) H := hP
  have hD : va_D (g_A G) ((o0, .inr (2, [.ref o1, .ref o2, .ref o3, .int (So4 + 1)])) :: (o1, .inl (G.2.1 0, 60, .inl (upd Fo1 So4.toNatClampNeg x))) :: (o2, .inl (G.2.1 0, 60, .inl (upd Fo2 So4.toNatClampNeg y))) :: (o3, .inl (G.2.1 1, 60, .inl (upd Fo3 So4.toNatClampNeg 1))) :: rest) := hD
  refine lv_aload_n hx hb d_Or_add_40 rfl (lv_at hl 0 rfl) ?_
  refine va_get (D := G.1) (ci := 2) (v := .int (So4 + 1)) (C := R_Or) (T := F_Or) (N := 4) hx hb (u_Or hC) (fun _ h => h) hown hC.K hP 0 rfl rfl 3 (by decide) (k_Or_22 hC) (fun _ h9 => h9) rfl d_Or_add_41 ?_
  refine lv_iconst (v := 1) hx hb d_Or_add_44 (by decide) ?_
  refine lv_isub hx hb d_Or_add_45 ?_
  exact gx_reti [(o0, .inr (2, [.ref o1, .ref o2, .ref o3, .int (So4 + 1)])), (o1, .inl (G.2.1 0, 60, .inl (upd Fo1 So4.toNatClampNeg x))), (o2, .inl (G.2.1 0, 60, .inl (upd Fo2 So4.toNatClampNeg y))), (o3, .inl (G.2.1 1, 60, .inl (upd Fo3 So4.toNatClampNeg 1)))] hx hb hr hlocks ⟨rfl, rfl, rfl⟩ hP hD hS (Nat.le_of_ble_eq_true rfl) (Nat.le_of_ble_eq_true rfl) d_Or_add_46
set_option maxHeartbeats 4000000 in
set_option maxRecDepth 100000 in
theorem c_Or_bandOf (l : Launch) (hl0 : l.stackTraces = false) (G : GG) (o0 : Nat) (o1 : Nat) (o2 : Nat) (o3 : Nat) (Fo1 : Nat → Int32) (Fo2 : Nat → Int32) (Fo3 : Nat → Int32) (So4 : Int32) (x : Int32) (y : Int32) (hi : vp_in x 60) : px l G y_Or_bandOf cd_Or_bandOf rm_Or_bandOf [.ref o0, .int x, .int y] [(o0, .inr (2, [.ref o1, .ref o2, .ref o3, .int So4])), (o1, .inl (G.2.1 0, 60, .inl Fo1)), (o2, .inl (G.2.1 0, 60, .inl Fo2)), (o3, .inl (G.2.1 1, 60, .inl Fo3))] (none : Option String) (some (.long (((Fo2 x.toNatClampNeg).toInt64 * y.toInt64) / 1000))) := by
  intro rest
  refine mx_of (cc := b_Or_bandOf) (maxL := 3) (ret := (some .long)) (by decide) rfl ?_
  intro p e s m args below meth c s₁ B hml hE hv
  obtain ⟨rfl, hC, hP, hD⟩ := hv
  have hx := B.exec
  have hb := B.bytes
  have hr := B.returns
  have hlocks := B.notSynchronized
  have hown : s.vm.findClass R_Or = some m.cls := findClass_of_methodNamed B.named
  have hS : va_S (g_A G) s.heap s.heap [] := va_S.rf
  have hl := lv_entry ([.ref o0, .int x, .int y]) (n := 3) (Nat.le_of_ble_eq_true rfl)
  rw [lg_entry_eq]
  generalize (lg_sl ([.ref o0, .int x, .int y]) ++ List.replicate (3 - (lg_sl ([.ref o0, .int x, .int y])).length) Slot.unset).toArray = ls at hl ⊢
  have hl : lv_has ls 3 [(0, .ref o0), (1, .int x), (2, .int y)] := hl
  have hsize : ls.size = c.maxLocals := by rw [hml]; exact hl.1
  have hP : va_P G.1 g_cl ((o0, .inr (2, [.ref o1, .ref o2, .ref o3, .int So4])) :: (o1, .inl (G.2.1 0, 60, .inl Fo1)) :: (o2, .inl (G.2.1 0, 60, .inl Fo2)) :: (o3, .inl (G.2.1 1, 60, .inl Fo3)) :: rest) s.heap := hP
  have hD : va_D (g_A G) ((o0, .inr (2, [.ref o1, .ref o2, .ref o3, .int So4])) :: (o1, .inl (G.2.1 0, 60, .inl Fo1)) :: (o2, .inl (G.2.1 0, 60, .inl Fo2)) :: (o3, .inl (G.2.1 1, 60, .inl Fo3)) :: rest) := hD
  refine lv_aload_n hx hb d_Or_bandOf_0 rfl (lv_at hl 0 rfl) ?_
  refine va_get (D := G.1) (ci := 2) (v := .ref o2) (C := R_Or) (T := F_Or) (N := 4) hx hb (u_Or hC) (fun _ h => h) hown hC.K hP 0 rfl rfl 1 (by decide) (k_Or_15 hC) (fun _ h9 => h9) rfl d_Or_bandOf_1 ?_
  refine lv_iload_n hx hb d_Or_bandOf_4 rfl (lv_at hl 1 rfl) ?_
  refine va_iald hx hb hC.K hP 2 0 rfl rfl hi d_Or_bandOf_5 ?_
  refine lv_i2l hx hb d_Or_bandOf_6 rfl ?_
  refine lv_iload_n hx hb d_Or_bandOf_7 rfl (lv_at hl 2 rfl) ?_
  refine lv_i2l hx hb d_Or_bandOf_8 rfl ?_
  refine lv_lmul hx hb d_Or_bandOf_9 ?_
  refine lv_ldc2 (v := 1000) hx hb hown (k_Or_26 hC) d_Or_bandOf_10 ?_
  refine lv_ldiv hx hb d_Or_bandOf_13 (by decide) ?_
  exact px_retl hx hb hr hlocks rfl rfl d_Or_bandOf_14
set_option maxHeartbeats 4000000 in
set_option maxRecDepth 100000 in
theorem c_Tf_isFree (l : Launch) (hl0 : l.stackTraces = false) (G : GG) (f0 : Nat) (f1 : Nat) (f2 : Nat) (Ff1 : Nat → Int32) (Ff2 : Nat → Int32) (x : Int32) (hi : vp_in x 10) : px l G y_Tf_isFree cd_Tf_isFree rm_Tf_isFree [.ref f0, .int x] [(f0, .inr (5, [.ref f1, .ref f2])), (f1, .inl (G.2.1 0, 10, .inl Ff1)), (f2, .inl (G.2.1 0, 10, .inl Ff2))] (none : Option String) (some (.int (if (Ff1 x.toNatClampNeg) = 0 ∧ (Ff2 x.toNatClampNeg) = 0 then 1 else 0))) := by
  intro rest
  refine mx_of (cc := b_Tf_isFree) (maxL := 2) (ret := (some .boolean)) (by decide) rfl ?_
  intro p e s m args below meth c s₁ B hml hE hv
  obtain ⟨rfl, hC, hP, hD⟩ := hv
  have hx := B.exec
  have hb := B.bytes
  have hr := B.returns
  have hlocks := B.notSynchronized
  have hown : s.vm.findClass R_Tf = some m.cls := findClass_of_methodNamed B.named
  have hS : va_S (g_A G) s.heap s.heap [] := va_S.rf
  have hl := lv_entry ([.ref f0, .int x]) (n := 2) (Nat.le_of_ble_eq_true rfl)
  rw [lg_entry_eq]
  generalize (lg_sl ([.ref f0, .int x]) ++ List.replicate (2 - (lg_sl ([.ref f0, .int x])).length) Slot.unset).toArray = ls at hl ⊢
  have hl : lv_has ls 2 [(0, .ref f0), (1, .int x)] := hl
  have hsize : ls.size = c.maxLocals := by rw [hml]; exact hl.1
  have hP : va_P G.1 g_cl ((f0, .inr (5, [.ref f1, .ref f2])) :: (f1, .inl (G.2.1 0, 10, .inl Ff1)) :: (f2, .inl (G.2.1 0, 10, .inl Ff2)) :: rest) s.heap := hP
  have hD : va_D (g_A G) ((f0, .inr (5, [.ref f1, .ref f2])) :: (f1, .inl (G.2.1 0, 10, .inl Ff1)) :: (f2, .inl (G.2.1 0, 10, .inl Ff2)) :: rest) := hD
  refine lv_aload_n hx hb d_Tf_isFree_0 rfl (lv_at hl 0 rfl) ?_
  refine va_get (D := G.1) (ci := 5) (v := .ref f1) (C := R_Tf) (T := F_Tf) (N := 2) hx hb (u_Tf hC) (fun _ h => h) hown hC.K hP 0 rfl rfl 0 (by decide) (k_Tf_9 hC) (fun _ h9 => h9) rfl d_Tf_isFree_1 ?_
  refine lv_iload_n hx hb d_Tf_isFree_4 rfl (lv_at hl 1 rfl) ?_
  refine va_iald hx hb hC.K hP 1 0 rfl rfl hi d_Tf_isFree_5 ?_
  refine lv_if_ne (tgt := 22) hx hb d_Tf_isFree_6 (by decide) (fun c_6 => ?_) (fun c_6 => ?_)
  · refine lv_iconst (v := 0) hx hb d_Tf_isFree_22 (by decide) ?_
    exact px_retz hx hb hr hlocks rfl rfl (by first | rfl | (simp only [c_6, Option.none_or, Option.some_or, Option.or_none, or_true, true_or, or_false, false_or, or_self, and_true, true_and, and_false, false_and, and_self, not_true_eq_false, not_false_eq_true, ↓reduceIte]; done) | (simp only [c_6, Option.none_or, Option.some_or, Option.or_none, or_true, true_or, or_false, false_or, or_self, and_true, true_and, and_false, false_and, and_self, not_true_eq_false, not_false_eq_true, ↓reduceIte]; rfl) | (simp [c_6]; done)) d_Tf_isFree_23
  · refine lv_aload_n hx hb d_Tf_isFree_9 rfl (lv_at hl 0 rfl) ?_
    refine va_get (D := G.1) (ci := 5) (v := .ref f2) (C := R_Tf) (T := F_Tf) (N := 2) hx hb (u_Tf hC) (fun _ h => h) hown hC.K hP 0 rfl rfl 1 (by decide) (k_Tf_15 hC) (fun _ h9 => h9) rfl d_Tf_isFree_10 ?_
    refine lv_iload_n hx hb d_Tf_isFree_13 rfl (lv_at hl 1 rfl) ?_
    refine va_iald hx hb hC.K hP 2 0 rfl rfl hi d_Tf_isFree_14 ?_
    refine lv_if_ne (tgt := 22) hx hb d_Tf_isFree_15 (by decide) (fun c_15 => ?_) (fun c_15 => ?_)
    · refine lv_iconst (v := 0) hx hb d_Tf_isFree_22 (by decide) ?_
      exact px_retz hx hb hr hlocks rfl rfl (by first | rfl | (simp only [c_15, c_6, Option.none_or, Option.some_or, Option.or_none, or_true, true_or, or_false, false_or, or_self, and_true, true_and, and_false, false_and, and_self, not_true_eq_false, not_false_eq_true, ↓reduceIte]; done) | (simp only [c_15, c_6, Option.none_or, Option.some_or, Option.or_none, or_true, true_or, or_false, false_or, or_self, and_true, true_and, and_false, false_and, and_self, not_true_eq_false, not_false_eq_true, ↓reduceIte]; rfl) | (simp [c_15, c_6]; done)) d_Tf_isFree_23
    · refine lv_iconst (v := 1) hx hb d_Tf_isFree_18 (by decide) ?_
      refine lv_goto (tgt := 23) hx hb d_Tf_isFree_19 (by decide) ?_
      exact px_retz hx hb hr hlocks rfl rfl (by first | rfl | (simp only [c_15, c_6, Option.none_or, Option.some_or, Option.or_none, or_true, true_or, or_false, false_or, or_self, and_true, true_and, and_false, false_and, and_self, not_true_eq_false, not_false_eq_true, ↓reduceIte]; done) | (simp only [c_15, c_6, Option.none_or, Option.some_or, Option.or_none, or_true, true_or, or_false, false_or, or_self, and_true, true_and, and_false, false_and, and_self, not_true_eq_false, not_false_eq_true, ↓reduceIte]; rfl) | (simp [c_15, c_6]; done)) d_Tf_isFree_23
set_option maxHeartbeats 4000000 in
set_option maxRecDepth 100000 in
theorem c_Tf_costOf (l : Launch) (hl0 : l.stackTraces = false) (G : GG) (f0 : Nat) (f1 : Nat) (f2 : Nat) (Ff1 : Nat → Int32) (Ff2 : Nat → Int32) (x : Int32) (y : Int32) (hi : vp_in x 10) : px l G y_Tf_costOf cd_Tf_costOf rm_Tf_costOf [.ref f0, .int x, .int y] [(f0, .inr (5, [.ref f1, .ref f2])), (f1, .inl (G.2.1 0, 10, .inl Ff1)), (f2, .inl (G.2.1 0, 10, .inl Ff2))] (none : Option String) (some (.long ((Ff1 x.toNatClampNeg).toInt64 + ((Ff2 x.toNatClampNeg).toInt64 * (((y + 60) - 1) / 60).toInt64)))) := by
  intro rest
  refine mx_of (cc := b_Tf_costOf) (maxL := 4) (ret := (some .long)) (by decide) rfl ?_
  intro p e s m args below meth c s₁ B hml hE hv
  obtain ⟨rfl, hC, hP, hD⟩ := hv
  have hx := B.exec
  have hb := B.bytes
  have hr := B.returns
  have hlocks := B.notSynchronized
  have hown : s.vm.findClass R_Tf = some m.cls := findClass_of_methodNamed B.named
  have hS : va_S (g_A G) s.heap s.heap [] := va_S.rf
  have hl := lv_entry ([.ref f0, .int x, .int y]) (n := 4) (Nat.le_of_ble_eq_true rfl)
  rw [lg_entry_eq]
  generalize (lg_sl ([.ref f0, .int x, .int y]) ++ List.replicate (4 - (lg_sl ([.ref f0, .int x, .int y])).length) Slot.unset).toArray = ls at hl ⊢
  have hl : lv_has ls 4 [(0, .ref f0), (1, .int x), (2, .int y)] := hl
  have hsize : ls.size = c.maxLocals := by rw [hml]; exact hl.1
  have hP : va_P G.1 g_cl ((f0, .inr (5, [.ref f1, .ref f2])) :: (f1, .inl (G.2.1 0, 10, .inl Ff1)) :: (f2, .inl (G.2.1 0, 10, .inl Ff2)) :: rest) s.heap := hP
  have hD : va_D (g_A G) ((f0, .inr (5, [.ref f1, .ref f2])) :: (f1, .inl (G.2.1 0, 10, .inl Ff1)) :: (f2, .inl (G.2.1 0, 10, .inl Ff2)) :: rest) := hD
  refine lv_iload_n hx hb d_Tf_costOf_0 rfl (lv_at hl 2 rfl) ?_
  refine lv_bipush (v := 60) hx hb d_Tf_costOf_1 (by decide) ?_
  refine lv_iadd hx hb d_Tf_costOf_3 ?_
  refine lv_iconst (v := 1) hx hb d_Tf_costOf_4 (by decide) ?_
  refine lv_isub hx hb d_Tf_costOf_5 ?_
  refine lv_bipush (v := 60) hx hb d_Tf_costOf_6 (by decide) ?_
  refine lv_idiv hx hb d_Tf_costOf_8 (by decide) ?_
  refine lv_istore_n (lv' := [(3, .int (((y + 60) - 1) / 60)), (0, .ref f0), (1, .int x), (2, .int y)]) hx hb d_Tf_costOf_9 rfl hl (by decide) rfl (fun ls hl => ?_)
  have hsize : ls.size = c.maxLocals := by rw [hml]; exact hl.1
  refine lv_aload_n hx hb d_Tf_costOf_10 rfl (lv_at hl 1 rfl) ?_
  refine va_get (D := G.1) (ci := 5) (v := .ref f1) (C := R_Tf) (T := F_Tf) (N := 2) hx hb (u_Tf hC) (fun _ h => h) hown hC.K hP 0 rfl rfl 0 (by decide) (k_Tf_9 hC) (fun _ h9 => h9) rfl d_Tf_costOf_11 ?_
  refine lv_iload_n hx hb d_Tf_costOf_14 rfl (lv_at hl 2 rfl) ?_
  refine va_iald hx hb hC.K hP 1 0 rfl rfl hi d_Tf_costOf_15 ?_
  refine lv_i2l hx hb d_Tf_costOf_16 rfl ?_
  refine lv_aload_n hx hb d_Tf_costOf_17 rfl (lv_at hl 1 rfl) ?_
  refine va_get (D := G.1) (ci := 5) (v := .ref f2) (C := R_Tf) (T := F_Tf) (N := 2) hx hb (u_Tf hC) (fun _ h => h) hown hC.K hP 0 rfl rfl 1 (by decide) (k_Tf_15 hC) (fun _ h9 => h9) rfl d_Tf_costOf_18 ?_
  refine lv_iload_n hx hb d_Tf_costOf_21 rfl (lv_at hl 2 rfl) ?_
  refine va_iald hx hb hC.K hP 2 0 rfl rfl hi d_Tf_costOf_22 ?_
  refine lv_i2l hx hb d_Tf_costOf_23 rfl ?_
  refine lv_iload_n hx hb d_Tf_costOf_24 rfl (lv_at hl 0 rfl) ?_
  refine lv_i2l hx hb d_Tf_costOf_25 rfl ?_
  refine lv_lmul hx hb d_Tf_costOf_26 ?_
  refine lv_ladd hx hb d_Tf_costOf_27 ?_
  exact px_retl hx hb hr hlocks rfl rfl d_Tf_costOf_28
set_option maxHeartbeats 4000000 in
set_option maxRecDepth 100000 in
theorem c_Bi_add (l : Launch) (hl0 : l.stackTraces = false) (G : GG) (i0 : Nat) (i1 : Nat) (i2 : Nat) (i3 : Nat) (i4 : Nat) (i5 : Nat) (Fi1 : Nat → Int32) (Fi2 : Nat → Int32) (Fi3 : Nat → Int32) (Fi4 : Nat → Int32) (Fi5 : Nat → Int32) (Si6 : Int32) (x : Int32) (y : Int32) (hc : vp_in Si6 60) : gx l G y_Bi_add cd_Bi_add rm_Bi_add [.ref i0, .int x, .int y] [(i0, .inr (6, [.ref i1, .ref i2, .ref i3, .ref i4, .ref i5, .int Si6])), (i1, .inl (G.2.1 0, 60, .inl Fi1)), (i2, .inl (G.2.1 0, 60, .inl Fi2)), (i3, .inl (G.2.1 0, 60, .inl Fi3)), (i4, .inl (G.2.1 0, 60, .inl Fi4)), (i5, .inl (G.2.1 1, 60, .inl Fi5))] (fun v w' => (none : Option String) = none ∧ v = (some (.int ((Si6 + 1) - 1))) ∧ w' = [(i0, .inr (6, [.ref i1, .ref i2, .ref i3, .ref i4, .ref i5, .int (Si6 + 1)])), (i1, .inl (G.2.1 0, 60, .inl (upd Fi1 Si6.toNatClampNeg x))), (i2, .inl (G.2.1 0, 60, .inl Fi2)), (i3, .inl (G.2.1 0, 60, .inl (upd Fi3 Si6.toNatClampNeg y))), (i4, .inl (G.2.1 0, 60, .inl Fi4)), (i5, .inl (G.2.1 1, 60, .inl Fi5))]) (fun E w' => (none : Option String) = some E ∧ w' = [(i0, .inr (6, [.ref i1, .ref i2, .ref i3, .ref i4, .ref i5, .int Si6])), (i1, .inl (G.2.1 0, 60, .inl Fi1)), (i2, .inl (G.2.1 0, 60, .inl Fi2)), (i3, .inl (G.2.1 0, 60, .inl Fi3)), (i4, .inl (G.2.1 0, 60, .inl Fi4)), (i5, .inl (G.2.1 1, 60, .inl Fi5))]) 0 0 := by
  intro rest
  refine mx_of (cc := b_Bi_add) (maxL := 3) (ret := (some .int)) (by decide) rfl ?_
  intro p e s m args below meth c s₁ B hml hE hv
  obtain ⟨rfl, hC, hP, hD⟩ := hv
  have hx := B.exec
  have hb := B.bytes
  have hr := B.returns
  have hlocks := B.notSynchronized
  have hown : s.vm.findClass R_Bi = some m.cls := findClass_of_methodNamed B.named
  have hS : va_S (g_A G) s.heap s.heap [] := va_S.rf
  have hl := lv_entry ([.ref i0, .int x, .int y]) (n := 3) (Nat.le_of_ble_eq_true rfl)
  rw [lg_entry_eq]
  generalize (lg_sl ([.ref i0, .int x, .int y]) ++ List.replicate (3 - (lg_sl ([.ref i0, .int x, .int y])).length) Slot.unset).toArray = ls at hl ⊢
  have hl : lv_has ls 3 [(0, .ref i0), (1, .int x), (2, .int y)] := hl
  have hsize : ls.size = c.maxLocals := by rw [hml]; exact hl.1
  have hP : va_P G.1 g_cl ((i0, .inr (6, [.ref i1, .ref i2, .ref i3, .ref i4, .ref i5, .int Si6])) :: (i1, .inl (G.2.1 0, 60, .inl Fi1)) :: (i2, .inl (G.2.1 0, 60, .inl Fi2)) :: (i3, .inl (G.2.1 0, 60, .inl Fi3)) :: (i4, .inl (G.2.1 0, 60, .inl Fi4)) :: (i5, .inl (G.2.1 1, 60, .inl Fi5)) :: rest) s.heap := hP
  have hD : va_D (g_A G) ((i0, .inr (6, [.ref i1, .ref i2, .ref i3, .ref i4, .ref i5, .int Si6])) :: (i1, .inl (G.2.1 0, 60, .inl Fi1)) :: (i2, .inl (G.2.1 0, 60, .inl Fi2)) :: (i3, .inl (G.2.1 0, 60, .inl Fi3)) :: (i4, .inl (G.2.1 0, 60, .inl Fi4)) :: (i5, .inl (G.2.1 1, 60, .inl Fi5)) :: rest) := hD
  refine lv_aload_n hx hb d_Bi_add_0 rfl (lv_at hl 0 rfl) ?_
  refine va_get (D := G.1) (ci := 6) (v := .ref i1) (C := R_Bi) (T := F_Bi) (N := 6) hx hb (u_Bi hC) (fun _ h => h) hown hC.K hP 0 rfl rfl 0 (by decide) (k_Bi_9 hC) (fun _ h9 => h9) rfl d_Bi_add_1 ?_
  refine lv_aload_n hx hb d_Bi_add_4 rfl (lv_at hl 0 rfl) ?_
  refine va_get (D := G.1) (ci := 6) (v := .int Si6) (C := R_Bi) (T := F_Bi) (N := 6) hx hb (u_Bi hC) (fun _ h => h) hown hC.K hP 0 rfl rfl 5 (by decide) (k_Bi_28 hC) (fun _ h9 => h9) rfl d_Bi_add_5 ?_
  refine lv_iload_n hx hb d_Bi_add_8 rfl (lv_at hl 1 rfl) ?_
  refine va_iast hx hb hC.K hP hD hS 1 0 rfl rfl hc d_Bi_add_9 (fun H locs hP hD hS => ?_)
  have hP : va_P G.1 g_cl ((i0, .inr (6, [.ref i1, .ref i2, .ref i3, .ref i4, .ref i5, .int Si6])) :: (i1, .inl (G.2.1 0, 60, .inl (upd Fi1 Si6.toNatClampNeg x))) :: (i2, .inl (G.2.1 0, 60, .inl Fi2)) :: (i3, .inl (G.2.1 0, 60, .inl Fi3)) :: (i4, .inl (G.2.1 0, 60, .inl Fi4)) :: (i5, .inl (G.2.1 1, 60, .inl Fi5)) :: rest) H := hP
  have hD : va_D (g_A G) ((i0, .inr (6, [.ref i1, .ref i2, .ref i3, .ref i4, .ref i5, .int Si6])) :: (i1, .inl (G.2.1 0, 60, .inl (upd Fi1 Si6.toNatClampNeg x))) :: (i2, .inl (G.2.1 0, 60, .inl Fi2)) :: (i3, .inl (G.2.1 0, 60, .inl Fi3)) :: (i4, .inl (G.2.1 0, 60, .inl Fi4)) :: (i5, .inl (G.2.1 1, 60, .inl Fi5)) :: rest) := hD
  refine lv_aload_n hx hb d_Bi_add_10 rfl (lv_at hl 0 rfl) ?_
  refine va_get (D := G.1) (ci := 6) (v := .ref i3) (C := R_Bi) (T := F_Bi) (N := 6) hx hb (u_Bi hC) (fun _ h => h) hown hC.K hP 0 rfl rfl 2 (by decide) (k_Bi_18 hC) (fun _ h9 => h9) rfl d_Bi_add_11 ?_
  refine lv_aload_n hx hb d_Bi_add_14 rfl (lv_at hl 0 rfl) ?_
  refine va_get (D := G.1) (ci := 6) (v := .int Si6) (C := R_Bi) (T := F_Bi) (N := 6) hx hb (u_Bi hC) (fun _ h => h) hown hC.K hP 0 rfl rfl 5 (by decide) (k_Bi_28 hC) (fun _ h9 => h9) rfl d_Bi_add_15 ?_
  refine lv_iload_n hx hb d_Bi_add_18 rfl (lv_at hl 2 rfl) ?_
  refine va_iast hx hb hC.K hP hD hS 3 0 rfl rfl hc d_Bi_add_19 (fun H locs hP hD hS => ?_)
  have hP : va_P G.1 g_cl ((i0, .inr (6, [.ref i1, .ref i2, .ref i3, .ref i4, .ref i5, .int Si6])) :: (i1, .inl (G.2.1 0, 60, .inl (upd Fi1 Si6.toNatClampNeg x))) :: (i2, .inl (G.2.1 0, 60, .inl Fi2)) :: (i3, .inl (G.2.1 0, 60, .inl (upd Fi3 Si6.toNatClampNeg y))) :: (i4, .inl (G.2.1 0, 60, .inl Fi4)) :: (i5, .inl (G.2.1 1, 60, .inl Fi5)) :: rest) H := hP
  have hD : va_D (g_A G) ((i0, .inr (6, [.ref i1, .ref i2, .ref i3, .ref i4, .ref i5, .int Si6])) :: (i1, .inl (G.2.1 0, 60, .inl (upd Fi1 Si6.toNatClampNeg x))) :: (i2, .inl (G.2.1 0, 60, .inl Fi2)) :: (i3, .inl (G.2.1 0, 60, .inl (upd Fi3 Si6.toNatClampNeg y))) :: (i4, .inl (G.2.1 0, 60, .inl Fi4)) :: (i5, .inl (G.2.1 1, 60, .inl Fi5)) :: rest) := hD
  refine lv_aload_n hx hb d_Bi_add_20 rfl (lv_at hl 0 rfl) ?_
  refine lv_dup hx hb d_Bi_add_21 rfl ?_
  refine va_get (D := G.1) (ci := 6) (v := .int Si6) (C := R_Bi) (T := F_Bi) (N := 6) hx hb (u_Bi hC) (fun _ h => h) hown hC.K hP 0 rfl rfl 5 (by decide) (k_Bi_28 hC) (fun _ h9 => h9) rfl d_Bi_add_22 ?_
  refine lv_iconst (v := 1) hx hb d_Bi_add_25 (by decide) ?_
  refine lv_iadd hx hb d_Bi_add_26 ?_
  refine va_put (D := G.1) (ci := 6) (v := .int (Si6 + 1)) (ty := .int) (C := R_Bi) (T := F_Bi) (N := 6) hx hb (u_Bi hC) (fun _ h => h) t_Bi t_Bi_ok n_Bi hown hC.K hP hD hS 0 rfl rfl 5 (by decide) (k_Bi_28 hC) (fun _ h9 => h9) rfl (by decide +kernel) rfl rfl (Nat.le_of_ble_eq_true rfl) d_Bi_add_27 (fun H locs hP hD hS => ?_)
  have hP : va_P G.1 g_cl ((i0, .inr (6, [.ref i1, .ref i2, .ref i3, .ref i4, .ref i5, .int (Si6 + 1)])) :: (i1, .inl (G.2.1 0, 60, .inl (upd Fi1 Si6.toNatClampNeg x))) :: (i2, .inl (G.2.1 0, 60, .inl Fi2)) :: (i3, .inl (G.2.1 0, 60, .inl (upd Fi3 Si6.toNatClampNeg y))) :: (i4, .inl (G.2.1 0, 60, .inl Fi4)) :: (i5, .inl (G.2.1 1, 60, .inl Fi5)) :: rest) H := hP
  have hD : va_D (g_A G) ((i0, .inr (6, [.ref i1, .ref i2, .ref i3, .ref i4, .ref i5, .int (Si6 + 1)])) :: (i1, .inl (G.2.1 0, 60, .inl (upd Fi1 Si6.toNatClampNeg x))) :: (i2, .inl (G.2.1 0, 60, .inl Fi2)) :: (i3, .inl (G.2.1 0, 60, .inl (upd Fi3 Si6.toNatClampNeg y))) :: (i4, .inl (G.2.1 0, 60, .inl Fi4)) :: (i5, .inl (G.2.1 1, 60, .inl Fi5)) :: rest) := hD
  refine lv_aload_n hx hb d_Bi_add_30 rfl (lv_at hl 0 rfl) ?_
  refine va_get (D := G.1) (ci := 6) (v := .int (Si6 + 1)) (C := R_Bi) (T := F_Bi) (N := 6) hx hb (u_Bi hC) (fun _ h => h) hown hC.K hP 0 rfl rfl 5 (by decide) (k_Bi_28 hC) (fun _ h9 => h9) rfl d_Bi_add_31 ?_
  refine lv_iconst (v := 1) hx hb d_Bi_add_34 (by decide) ?_
  refine lv_isub hx hb d_Bi_add_35 ?_
  exact gx_reti [(i0, .inr (6, [.ref i1, .ref i2, .ref i3, .ref i4, .ref i5, .int (Si6 + 1)])), (i1, .inl (G.2.1 0, 60, .inl (upd Fi1 Si6.toNatClampNeg x))), (i2, .inl (G.2.1 0, 60, .inl Fi2)), (i3, .inl (G.2.1 0, 60, .inl (upd Fi3 Si6.toNatClampNeg y))), (i4, .inl (G.2.1 0, 60, .inl Fi4)), (i5, .inl (G.2.1 1, 60, .inl Fi5))] hx hb hr hlocks ⟨rfl, rfl, rfl⟩ hP hD hS (Nat.le_of_ble_eq_true rfl) (Nat.le_of_ble_eq_true rfl) d_Bi_add_36
set_option maxHeartbeats 4000000 in
set_option maxRecDepth 100000 in
theorem c_Bi_leftOf (l : Launch) (hl0 : l.stackTraces = false) (G : GG) (i0 : Nat) (i1 : Nat) (i2 : Nat) (i3 : Nat) (i4 : Nat) (i5 : Nat) (Fi1 : Nat → Int32) (Fi2 : Nat → Int32) (Fi3 : Nat → Int32) (Fi4 : Nat → Int32) (Fi5 : Nat → Int32) (Si6 : Int32) (x : Int32) (hi : vp_in x 60) : px l G y_Bi_leftOf cd_Bi_leftOf rm_Bi_leftOf [.ref i0, .int x] [(i0, .inr (6, [.ref i1, .ref i2, .ref i3, .ref i4, .ref i5, .int Si6])), (i1, .inl (G.2.1 0, 60, .inl Fi1)), (i2, .inl (G.2.1 0, 60, .inl Fi2)), (i3, .inl (G.2.1 0, 60, .inl Fi3)), (i4, .inl (G.2.1 0, 60, .inl Fi4)), (i5, .inl (G.2.1 1, 60, .inl Fi5))] (none : Option String) (some (.int ((Fi1 x.toNatClampNeg) - (Fi2 x.toNatClampNeg)))) := by
  intro rest
  refine mx_of (cc := b_Bi_leftOf) (maxL := 2) (ret := (some .int)) (by decide) rfl ?_
  intro p e s m args below meth c s₁ B hml hE hv
  obtain ⟨rfl, hC, hP, hD⟩ := hv
  have hx := B.exec
  have hb := B.bytes
  have hr := B.returns
  have hlocks := B.notSynchronized
  have hown : s.vm.findClass R_Bi = some m.cls := findClass_of_methodNamed B.named
  have hS : va_S (g_A G) s.heap s.heap [] := va_S.rf
  have hl := lv_entry ([.ref i0, .int x]) (n := 2) (Nat.le_of_ble_eq_true rfl)
  rw [lg_entry_eq]
  generalize (lg_sl ([.ref i0, .int x]) ++ List.replicate (2 - (lg_sl ([.ref i0, .int x])).length) Slot.unset).toArray = ls at hl ⊢
  have hl : lv_has ls 2 [(0, .ref i0), (1, .int x)] := hl
  have hsize : ls.size = c.maxLocals := by rw [hml]; exact hl.1
  have hP : va_P G.1 g_cl ((i0, .inr (6, [.ref i1, .ref i2, .ref i3, .ref i4, .ref i5, .int Si6])) :: (i1, .inl (G.2.1 0, 60, .inl Fi1)) :: (i2, .inl (G.2.1 0, 60, .inl Fi2)) :: (i3, .inl (G.2.1 0, 60, .inl Fi3)) :: (i4, .inl (G.2.1 0, 60, .inl Fi4)) :: (i5, .inl (G.2.1 1, 60, .inl Fi5)) :: rest) s.heap := hP
  have hD : va_D (g_A G) ((i0, .inr (6, [.ref i1, .ref i2, .ref i3, .ref i4, .ref i5, .int Si6])) :: (i1, .inl (G.2.1 0, 60, .inl Fi1)) :: (i2, .inl (G.2.1 0, 60, .inl Fi2)) :: (i3, .inl (G.2.1 0, 60, .inl Fi3)) :: (i4, .inl (G.2.1 0, 60, .inl Fi4)) :: (i5, .inl (G.2.1 1, 60, .inl Fi5)) :: rest) := hD
  refine lv_aload_n hx hb d_Bi_leftOf_0 rfl (lv_at hl 0 rfl) ?_
  refine va_get (D := G.1) (ci := 6) (v := .ref i1) (C := R_Bi) (T := F_Bi) (N := 6) hx hb (u_Bi hC) (fun _ h => h) hown hC.K hP 0 rfl rfl 0 (by decide) (k_Bi_9 hC) (fun _ h9 => h9) rfl d_Bi_leftOf_1 ?_
  refine lv_iload_n hx hb d_Bi_leftOf_4 rfl (lv_at hl 1 rfl) ?_
  refine va_iald hx hb hC.K hP 1 0 rfl rfl hi d_Bi_leftOf_5 ?_
  refine lv_aload_n hx hb d_Bi_leftOf_6 rfl (lv_at hl 0 rfl) ?_
  refine va_get (D := G.1) (ci := 6) (v := .ref i2) (C := R_Bi) (T := F_Bi) (N := 6) hx hb (u_Bi hC) (fun _ h => h) hown hC.K hP 0 rfl rfl 1 (by decide) (k_Bi_15 hC) (fun _ h9 => h9) rfl d_Bi_leftOf_7 ?_
  refine lv_iload_n hx hb d_Bi_leftOf_10 rfl (lv_at hl 1 rfl) ?_
  refine va_iald hx hb hC.K hP 2 0 rfl rfl hi d_Bi_leftOf_11 ?_
  refine lv_isub hx hb d_Bi_leftOf_12 ?_
  exact px_reti hx hb hr hlocks rfl rfl d_Bi_leftOf_13
set_option maxHeartbeats 4000000 in
set_option maxRecDepth 100000 in
theorem c_Bi_isOpen (l : Launch) (hl0 : l.stackTraces = false) (G : GG) (i0 : Nat) (i1 : Nat) (i2 : Nat) (i3 : Nat) (i4 : Nat) (i5 : Nat) (Fi1 : Nat → Int32) (Fi2 : Nat → Int32) (Fi3 : Nat → Int32) (Fi4 : Nat → Int32) (Fi5 : Nat → Int32) (Si6 : Int32) (x : Int32) (hi : vp_in x 60) : px l G y_Bi_isOpen cd_Bi_isOpen rm_Bi_isOpen [.ref i0, .int x] [(i0, .inr (6, [.ref i1, .ref i2, .ref i3, .ref i4, .ref i5, .int Si6])), (i1, .inl (G.2.1 0, 60, .inl Fi1)), (i2, .inl (G.2.1 0, 60, .inl Fi2)), (i3, .inl (G.2.1 0, 60, .inl Fi3)), (i4, .inl (G.2.1 0, 60, .inl Fi4)), (i5, .inl (G.2.1 1, 60, .inl Fi5))] (none : Option String) (some (.int (if 0 < ((Fi1 x.toNatClampNeg) - (Fi2 x.toNatClampNeg)) then 1 else 0))) := by
  intro rest
  refine mx_of (cc := b_Bi_isOpen) (maxL := 2) (ret := (some .boolean)) (by decide) rfl ?_
  intro p e s m args below meth c s₁ B hml hE hv
  obtain ⟨rfl, hC, hP, hD⟩ := hv
  have hx := B.exec
  have hb := B.bytes
  have hr := B.returns
  have hlocks := B.notSynchronized
  have hown : s.vm.findClass R_Bi = some m.cls := findClass_of_methodNamed B.named
  have hS : va_S (g_A G) s.heap s.heap [] := va_S.rf
  have hl := lv_entry ([.ref i0, .int x]) (n := 2) (Nat.le_of_ble_eq_true rfl)
  rw [lg_entry_eq]
  generalize (lg_sl ([.ref i0, .int x]) ++ List.replicate (2 - (lg_sl ([.ref i0, .int x])).length) Slot.unset).toArray = ls at hl ⊢
  have hl : lv_has ls 2 [(0, .ref i0), (1, .int x)] := hl
  have hsize : ls.size = c.maxLocals := by rw [hml]; exact hl.1
  have hP : va_P G.1 g_cl ((i0, .inr (6, [.ref i1, .ref i2, .ref i3, .ref i4, .ref i5, .int Si6])) :: (i1, .inl (G.2.1 0, 60, .inl Fi1)) :: (i2, .inl (G.2.1 0, 60, .inl Fi2)) :: (i3, .inl (G.2.1 0, 60, .inl Fi3)) :: (i4, .inl (G.2.1 0, 60, .inl Fi4)) :: (i5, .inl (G.2.1 1, 60, .inl Fi5)) :: rest) s.heap := hP
  have hD : va_D (g_A G) ((i0, .inr (6, [.ref i1, .ref i2, .ref i3, .ref i4, .ref i5, .int Si6])) :: (i1, .inl (G.2.1 0, 60, .inl Fi1)) :: (i2, .inl (G.2.1 0, 60, .inl Fi2)) :: (i3, .inl (G.2.1 0, 60, .inl Fi3)) :: (i4, .inl (G.2.1 0, 60, .inl Fi4)) :: (i5, .inl (G.2.1 1, 60, .inl Fi5)) :: rest) := hD
  refine lv_aload_n hx hb d_Bi_isOpen_0 rfl (lv_at hl 0 rfl) ?_
  refine lv_iload_n hx hb d_Bi_isOpen_1 rfl (lv_at hl 1 rfl) ?_
  refine px_callN (ix_V (As := [.int x]) (rest := []) hx hb hown (k_Bi_32 hC) (ki_Bi_leftOf hC) (kv_Bi_leftOf hC) (mx_Is.code (args := #[]) (kc_Bi_leftOf hC)) kh_Bi_leftOf (va_recv hC.K hP (ci := 6) (q0 := 0) rfl rfl) rfl kp_Bi_leftOf rfl d_Bi_isOpen_2) (c_Bi_leftOf l hl0 G i0 i1 i2 i3 i4 i5 Fi1 Fi2 Fi3 Fi4 Fi5 Si6 x hi) (kc_Bi_leftOf hC) rfl (mx_Is.code (args := #[]) (kc_Bi_leftOf hC)) (kn_Bi hC) hb hC (hP.sub (ws' := [(i0, .inr (6, [.ref i1, .ref i2, .ref i3, .ref i4, .ref i5, .int Si6])), (i1, .inl (G.2.1 0, 60, .inl Fi1)), (i2, .inl (G.2.1 0, 60, .inl Fi2)), (i3, .inl (G.2.1 0, 60, .inl Fi3)), (i4, .inl (G.2.1 0, 60, .inl Fi4)), (i5, .inl (G.2.1 1, 60, .inl Fi5))]) [0, 1, 2, 3, 4, 5] rfl) (hD.sub (ws' := [(i0, .inr (6, [.ref i1, .ref i2, .ref i3, .ref i4, .ref i5, .int Si6])), (i1, .inl (G.2.1 0, 60, .inl Fi1)), (i2, .inl (G.2.1 0, 60, .inl Fi2)), (i3, .inl (G.2.1 0, 60, .inl Fi3)), (i4, .inl (G.2.1 0, 60, .inl Fi4)), (i5, .inl (G.2.1 1, 60, .inl Fi5))]) [0, 1, 2, 3, 4, 5] (by decide) rfl) hS (by decide) (by decide) hsize (Nat.le_of_ble_eq_true rfl) d_Bi_isOpen_2 ?_
  refine W.eq (g2 := F0 m 5 ls [.int ((Fi1 x.toNatClampNeg) - (Fi2 x.toNatClampNeg))]) rfl ?_
  refine lv_if_le (tgt := 12) hx hb d_Bi_isOpen_5 (by decide) (fun c_5 => ?_) (fun c_5 => ?_)
  · refine lv_iconst (v := 0) hx hb d_Bi_isOpen_12 (by decide) ?_
    exact px_retz hx hb hr hlocks rfl rfl (by first | rfl | (simp only [c_5, Option.none_or, Option.some_or, Option.or_none, or_true, true_or, or_false, false_or, or_self, and_true, true_and, and_false, false_and, and_self, not_true_eq_false, not_false_eq_true, ↓reduceIte]; done) | (simp only [c_5, Option.none_or, Option.some_or, Option.or_none, or_true, true_or, or_false, false_or, or_self, and_true, true_and, and_false, false_and, and_self, not_true_eq_false, not_false_eq_true, ↓reduceIte]; rfl) | (simp [c_5]; done)) d_Bi_isOpen_13
  · refine lv_iconst (v := 1) hx hb d_Bi_isOpen_8 (by decide) ?_
    refine lv_goto (tgt := 13) hx hb d_Bi_isOpen_9 (by decide) ?_
    exact px_retz hx hb hr hlocks rfl rfl (by first | rfl | (simp only [c_5, Option.none_or, Option.some_or, Option.or_none, or_true, true_or, or_false, false_or, or_self, and_true, true_and, and_false, false_and, and_self, not_true_eq_false, not_false_eq_true, ↓reduceIte]; done) | (simp only [c_5, Option.none_or, Option.some_or, Option.or_none, or_true, true_or, or_false, false_or, or_self, and_true, true_and, and_false, false_and, and_self, not_true_eq_false, not_false_eq_true, ↓reduceIte]; rfl) | (simp [c_5]; done)) d_Bi_isOpen_13
set_option maxHeartbeats 4000000 in
set_option maxRecDepth 100000 in
theorem c_Gr_add (l : Launch) (hl0 : l.stackTraces = false) (G : GG) (g0 : Nat) (g1 : Nat) (g2 : Nat) (Fg1 : Nat → Int32) (Fg2 : Nat → Int32) (Sg3 : Int32) (x : Int32) (y : Int32) (hc : vp_in Sg3 20) : gx l G y_Gr_add cd_Gr_add rm_Gr_add [.ref g0, .int x, .int y] [(g0, .inr (8, [.ref g1, .ref g2, .int Sg3])), (g1, .inl (G.2.1 0, 20, .inl Fg1)), (g2, .inl (G.2.1 0, 20, .inl Fg2))] (fun v w' => (none : Option String) = none ∧ v = (some (.int ((Sg3 + 1) - 1))) ∧ w' = [(g0, .inr (8, [.ref g1, .ref g2, .int (Sg3 + 1)])), (g1, .inl (G.2.1 0, 20, .inl (upd Fg1 Sg3.toNatClampNeg x))), (g2, .inl (G.2.1 0, 20, .inl (upd Fg2 Sg3.toNatClampNeg y)))]) (fun E w' => (none : Option String) = some E ∧ w' = [(g0, .inr (8, [.ref g1, .ref g2, .int Sg3])), (g1, .inl (G.2.1 0, 20, .inl Fg1)), (g2, .inl (G.2.1 0, 20, .inl Fg2))]) 0 0 := by
  intro rest
  refine mx_of (cc := b_Gr_add) (maxL := 3) (ret := (some .int)) (by decide) rfl ?_
  intro p e s m args below meth c s₁ B hml hE hv
  obtain ⟨rfl, hC, hP, hD⟩ := hv
  have hx := B.exec
  have hb := B.bytes
  have hr := B.returns
  have hlocks := B.notSynchronized
  have hown : s.vm.findClass R_Gr = some m.cls := findClass_of_methodNamed B.named
  have hS : va_S (g_A G) s.heap s.heap [] := va_S.rf
  have hl := lv_entry ([.ref g0, .int x, .int y]) (n := 3) (Nat.le_of_ble_eq_true rfl)
  rw [lg_entry_eq]
  generalize (lg_sl ([.ref g0, .int x, .int y]) ++ List.replicate (3 - (lg_sl ([.ref g0, .int x, .int y])).length) Slot.unset).toArray = ls at hl ⊢
  have hl : lv_has ls 3 [(0, .ref g0), (1, .int x), (2, .int y)] := hl
  have hsize : ls.size = c.maxLocals := by rw [hml]; exact hl.1
  have hP : va_P G.1 g_cl ((g0, .inr (8, [.ref g1, .ref g2, .int Sg3])) :: (g1, .inl (G.2.1 0, 20, .inl Fg1)) :: (g2, .inl (G.2.1 0, 20, .inl Fg2)) :: rest) s.heap := hP
  have hD : va_D (g_A G) ((g0, .inr (8, [.ref g1, .ref g2, .int Sg3])) :: (g1, .inl (G.2.1 0, 20, .inl Fg1)) :: (g2, .inl (G.2.1 0, 20, .inl Fg2)) :: rest) := hD
  refine lv_aload_n hx hb d_Gr_add_0 rfl (lv_at hl 0 rfl) ?_
  refine va_get (D := G.1) (ci := 8) (v := .ref g1) (C := R_Gr) (T := F_Gr) (N := 3) hx hb (u_Gr hC) (fun _ h => h) hown hC.K hP 0 rfl rfl 0 (by decide) (k_Gr_9 hC) (fun _ h9 => h9) rfl d_Gr_add_1 ?_
  refine lv_aload_n hx hb d_Gr_add_4 rfl (lv_at hl 0 rfl) ?_
  refine va_get (D := G.1) (ci := 8) (v := .int Sg3) (C := R_Gr) (T := F_Gr) (N := 3) hx hb (u_Gr hC) (fun _ h => h) hown hC.K hP 0 rfl rfl 2 (by decide) (k_Gr_18 hC) (fun _ h9 => h9) rfl d_Gr_add_5 ?_
  refine lv_iload_n hx hb d_Gr_add_8 rfl (lv_at hl 1 rfl) ?_
  refine va_iast hx hb hC.K hP hD hS 1 0 rfl rfl hc d_Gr_add_9 (fun H locs hP hD hS => ?_)
  have hP : va_P G.1 g_cl ((g0, .inr (8, [.ref g1, .ref g2, .int Sg3])) :: (g1, .inl (G.2.1 0, 20, .inl (upd Fg1 Sg3.toNatClampNeg x))) :: (g2, .inl (G.2.1 0, 20, .inl Fg2)) :: rest) H := hP
  have hD : va_D (g_A G) ((g0, .inr (8, [.ref g1, .ref g2, .int Sg3])) :: (g1, .inl (G.2.1 0, 20, .inl (upd Fg1 Sg3.toNatClampNeg x))) :: (g2, .inl (G.2.1 0, 20, .inl Fg2)) :: rest) := hD
  refine lv_aload_n hx hb d_Gr_add_10 rfl (lv_at hl 0 rfl) ?_
  refine va_get (D := G.1) (ci := 8) (v := .ref g2) (C := R_Gr) (T := F_Gr) (N := 3) hx hb (u_Gr hC) (fun _ h => h) hown hC.K hP 0 rfl rfl 1 (by decide) (k_Gr_15 hC) (fun _ h9 => h9) rfl d_Gr_add_11 ?_
  refine lv_aload_n hx hb d_Gr_add_14 rfl (lv_at hl 0 rfl) ?_
  refine va_get (D := G.1) (ci := 8) (v := .int Sg3) (C := R_Gr) (T := F_Gr) (N := 3) hx hb (u_Gr hC) (fun _ h => h) hown hC.K hP 0 rfl rfl 2 (by decide) (k_Gr_18 hC) (fun _ h9 => h9) rfl d_Gr_add_15 ?_
  refine lv_iload_n hx hb d_Gr_add_18 rfl (lv_at hl 2 rfl) ?_
  refine va_iast hx hb hC.K hP hD hS 2 0 rfl rfl hc d_Gr_add_19 (fun H locs hP hD hS => ?_)
  have hP : va_P G.1 g_cl ((g0, .inr (8, [.ref g1, .ref g2, .int Sg3])) :: (g1, .inl (G.2.1 0, 20, .inl (upd Fg1 Sg3.toNatClampNeg x))) :: (g2, .inl (G.2.1 0, 20, .inl (upd Fg2 Sg3.toNatClampNeg y))) :: rest) H := hP
  have hD : va_D (g_A G) ((g0, .inr (8, [.ref g1, .ref g2, .int Sg3])) :: (g1, .inl (G.2.1 0, 20, .inl (upd Fg1 Sg3.toNatClampNeg x))) :: (g2, .inl (G.2.1 0, 20, .inl (upd Fg2 Sg3.toNatClampNeg y))) :: rest) := hD
  refine lv_aload_n hx hb d_Gr_add_20 rfl (lv_at hl 0 rfl) ?_
  refine lv_dup hx hb d_Gr_add_21 rfl ?_
  refine va_get (D := G.1) (ci := 8) (v := .int Sg3) (C := R_Gr) (T := F_Gr) (N := 3) hx hb (u_Gr hC) (fun _ h => h) hown hC.K hP 0 rfl rfl 2 (by decide) (k_Gr_18 hC) (fun _ h9 => h9) rfl d_Gr_add_22 ?_
  refine lv_iconst (v := 1) hx hb d_Gr_add_25 (by decide) ?_
  refine lv_iadd hx hb d_Gr_add_26 ?_
  refine va_put (D := G.1) (ci := 8) (v := .int (Sg3 + 1)) (ty := .int) (C := R_Gr) (T := F_Gr) (N := 3) hx hb (u_Gr hC) (fun _ h => h) t_Gr t_Gr_ok n_Gr hown hC.K hP hD hS 0 rfl rfl 2 (by decide) (k_Gr_18 hC) (fun _ h9 => h9) rfl (by decide +kernel) rfl rfl (Nat.le_of_ble_eq_true rfl) d_Gr_add_27 (fun H locs hP hD hS => ?_)
  have hP : va_P G.1 g_cl ((g0, .inr (8, [.ref g1, .ref g2, .int (Sg3 + 1)])) :: (g1, .inl (G.2.1 0, 20, .inl (upd Fg1 Sg3.toNatClampNeg x))) :: (g2, .inl (G.2.1 0, 20, .inl (upd Fg2 Sg3.toNatClampNeg y))) :: rest) H := hP
  have hD : va_D (g_A G) ((g0, .inr (8, [.ref g1, .ref g2, .int (Sg3 + 1)])) :: (g1, .inl (G.2.1 0, 20, .inl (upd Fg1 Sg3.toNatClampNeg x))) :: (g2, .inl (G.2.1 0, 20, .inl (upd Fg2 Sg3.toNatClampNeg y))) :: rest) := hD
  refine lv_aload_n hx hb d_Gr_add_30 rfl (lv_at hl 0 rfl) ?_
  refine va_get (D := G.1) (ci := 8) (v := .int (Sg3 + 1)) (C := R_Gr) (T := F_Gr) (N := 3) hx hb (u_Gr hC) (fun _ h => h) hown hC.K hP 0 rfl rfl 2 (by decide) (k_Gr_18 hC) (fun _ h9 => h9) rfl d_Gr_add_31 ?_
  refine lv_iconst (v := 1) hx hb d_Gr_add_34 (by decide) ?_
  refine lv_isub hx hb d_Gr_add_35 ?_
  exact gx_reti [(g0, .inr (8, [.ref g1, .ref g2, .int (Sg3 + 1)])), (g1, .inl (G.2.1 0, 20, .inl (upd Fg1 Sg3.toNatClampNeg x))), (g2, .inl (G.2.1 0, 20, .inl (upd Fg2 Sg3.toNatClampNeg y)))] hx hb hr hlocks ⟨rfl, rfl, rfl⟩ hP hD hS (Nat.le_of_ble_eq_true rfl) (Nat.le_of_ble_eq_true rfl) d_Gr_add_36
set_option maxHeartbeats 4000000 in
set_option maxRecDepth 100000 in
theorem c_Le_cellOf (l : Launch) (hl0 : l.stackTraces = false) (G : GG) (e0 : Nat) (x : Int32) (y : Int32) (e1 : Nat) (e2 : Nat) (e3 : Nat) (Se4 : Int32)  : px l G y_Le_cellOf cd_Le_cellOf rm_Le_cellOf [.ref e0, .int x, .int y] [(e0, .inr (9, [.ref e1, .ref e2, .ref e3, .int Se4]))] (none : Option String) (some (.int ((x * 5) + y))) := by
  intro rest
  refine mx_of (cc := b_Le_cellOf) (maxL := 3) (ret := (some .int)) (by decide) rfl ?_
  intro p e s m args below meth c s₁ B hml hE hv
  obtain ⟨rfl, hC, hP, hD⟩ := hv
  have hx := B.exec
  have hb := B.bytes
  have hr := B.returns
  have hlocks := B.notSynchronized
  have hown : s.vm.findClass R_Le = some m.cls := findClass_of_methodNamed B.named
  have hS : va_S (g_A G) s.heap s.heap [] := va_S.rf
  have hl := lv_entry ([.ref e0, .int x, .int y]) (n := 3) (Nat.le_of_ble_eq_true rfl)
  rw [lg_entry_eq]
  generalize (lg_sl ([.ref e0, .int x, .int y]) ++ List.replicate (3 - (lg_sl ([.ref e0, .int x, .int y])).length) Slot.unset).toArray = ls at hl ⊢
  have hl : lv_has ls 3 [(0, .ref e0), (1, .int x), (2, .int y)] := hl
  have hsize : ls.size = c.maxLocals := by rw [hml]; exact hl.1
  have hP : va_P G.1 g_cl ((e0, .inr (9, [.ref e1, .ref e2, .ref e3, .int Se4])) :: rest) s.heap := hP
  have hD : va_D (g_A G) ((e0, .inr (9, [.ref e1, .ref e2, .ref e3, .int Se4])) :: rest) := hD
  refine lv_iload_n hx hb d_Le_cellOf_0 rfl (lv_at hl 1 rfl) ?_
  refine lv_iconst (v := 5) hx hb d_Le_cellOf_1 (by decide) ?_
  refine lv_imul hx hb d_Le_cellOf_2 ?_
  refine lv_iload_n hx hb d_Le_cellOf_3 rfl (lv_at hl 2 rfl) ?_
  refine lv_iadd hx hb d_Le_cellOf_4 ?_
  exact px_reti hx hb hr hlocks rfl rfl d_Le_cellOf_5
set_option maxHeartbeats 4000000 in
set_option maxRecDepth 100000 in
theorem c_Le_addRow (l : Launch) (hl0 : l.stackTraces = false) (G : GG) (e0 : Nat) (e1 : Nat) (e2 : Nat) (e3 : Nat) (Fe1 : Nat → Int64) (Fe2 : Nat → Int32) (Fe3 : Nat → Int32) (Se4 : Int32) (x : Int32) (y : Int32) (hc : vp_in Se4 8) : gx l G y_Le_addRow cd_Le_addRow rm_Le_addRow [.ref e0, .int x, .int y] [(e0, .inr (9, [.ref e1, .ref e2, .ref e3, .int Se4])), (e1, .inl (G.2.1 2, 50, .inr (.inl Fe1))), (e2, .inl (G.2.1 0, 8, .inl Fe2)), (e3, .inl (G.2.1 0, 8, .inl Fe3))] (fun v w' => (none : Option String) = none ∧ v = none ∧ w' = [(e0, .inr (9, [.ref e1, .ref e2, .ref e3, .int (Se4 + 1)])), (e1, .inl (G.2.1 2, 50, .inr (.inl Fe1))), (e2, .inl (G.2.1 0, 8, .inl (upd Fe2 Se4.toNatClampNeg x))), (e3, .inl (G.2.1 0, 8, .inl (upd Fe3 Se4.toNatClampNeg y)))]) (fun E w' => (none : Option String) = some E ∧ w' = [(e0, .inr (9, [.ref e1, .ref e2, .ref e3, .int Se4])), (e1, .inl (G.2.1 2, 50, .inr (.inl Fe1))), (e2, .inl (G.2.1 0, 8, .inl Fe2)), (e3, .inl (G.2.1 0, 8, .inl Fe3))]) 0 0 := by
  intro rest
  refine mx_of (cc := b_Le_addRow) (maxL := 3) (ret := none) (by decide) rfl ?_
  intro p e s m args below meth c s₁ B hml hE hv
  obtain ⟨rfl, hC, hP, hD⟩ := hv
  have hx := B.exec
  have hb := B.bytes
  have hr := B.returns
  have hlocks := B.notSynchronized
  have hown : s.vm.findClass R_Le = some m.cls := findClass_of_methodNamed B.named
  have hS : va_S (g_A G) s.heap s.heap [] := va_S.rf
  have hl := lv_entry ([.ref e0, .int x, .int y]) (n := 3) (Nat.le_of_ble_eq_true rfl)
  rw [lg_entry_eq]
  generalize (lg_sl ([.ref e0, .int x, .int y]) ++ List.replicate (3 - (lg_sl ([.ref e0, .int x, .int y])).length) Slot.unset).toArray = ls at hl ⊢
  have hl : lv_has ls 3 [(0, .ref e0), (1, .int x), (2, .int y)] := hl
  have hsize : ls.size = c.maxLocals := by rw [hml]; exact hl.1
  have hP : va_P G.1 g_cl ((e0, .inr (9, [.ref e1, .ref e2, .ref e3, .int Se4])) :: (e1, .inl (G.2.1 2, 50, .inr (.inl Fe1))) :: (e2, .inl (G.2.1 0, 8, .inl Fe2)) :: (e3, .inl (G.2.1 0, 8, .inl Fe3)) :: rest) s.heap := hP
  have hD : va_D (g_A G) ((e0, .inr (9, [.ref e1, .ref e2, .ref e3, .int Se4])) :: (e1, .inl (G.2.1 2, 50, .inr (.inl Fe1))) :: (e2, .inl (G.2.1 0, 8, .inl Fe2)) :: (e3, .inl (G.2.1 0, 8, .inl Fe3)) :: rest) := hD
  refine lv_aload_n hx hb d_Le_addRow_0 rfl (lv_at hl 0 rfl) ?_
  refine va_get (D := G.1) (ci := 9) (v := .ref e2) (C := R_Le) (T := F_Le) (N := 4) hx hb (u_Le hC) (fun _ h => h) hown hC.K hP 0 rfl rfl 1 (by decide) (k_Le_15 hC) (fun _ h9 => h9) rfl d_Le_addRow_1 ?_
  refine lv_aload_n hx hb d_Le_addRow_4 rfl (lv_at hl 0 rfl) ?_
  refine va_get (D := G.1) (ci := 9) (v := .int Se4) (C := R_Le) (T := F_Le) (N := 4) hx hb (u_Le hC) (fun _ h => h) hown hC.K hP 0 rfl rfl 3 (by decide) (k_Le_22 hC) (fun _ h9 => h9) rfl d_Le_addRow_5 ?_
  refine lv_iload_n hx hb d_Le_addRow_8 rfl (lv_at hl 1 rfl) ?_
  refine va_iast hx hb hC.K hP hD hS 2 0 rfl rfl hc d_Le_addRow_9 (fun H locs hP hD hS => ?_)
  have hP : va_P G.1 g_cl ((e0, .inr (9, [.ref e1, .ref e2, .ref e3, .int Se4])) :: (e1, .inl (G.2.1 2, 50, .inr (.inl Fe1))) :: (e2, .inl (G.2.1 0, 8, .inl (upd Fe2 Se4.toNatClampNeg x))) :: (e3, .inl (G.2.1 0, 8, .inl Fe3)) :: rest) H := hP
  have hD : va_D (g_A G) ((e0, .inr (9, [.ref e1, .ref e2, .ref e3, .int Se4])) :: (e1, .inl (G.2.1 2, 50, .inr (.inl Fe1))) :: (e2, .inl (G.2.1 0, 8, .inl (upd Fe2 Se4.toNatClampNeg x))) :: (e3, .inl (G.2.1 0, 8, .inl Fe3)) :: rest) := hD
  refine lv_aload_n hx hb d_Le_addRow_10 rfl (lv_at hl 0 rfl) ?_
  refine va_get (D := G.1) (ci := 9) (v := .ref e3) (C := R_Le) (T := F_Le) (N := 4) hx hb (u_Le hC) (fun _ h => h) hown hC.K hP 0 rfl rfl 2 (by decide) (k_Le_19 hC) (fun _ h9 => h9) rfl d_Le_addRow_11 ?_
  refine lv_aload_n hx hb d_Le_addRow_14 rfl (lv_at hl 0 rfl) ?_
  refine va_get (D := G.1) (ci := 9) (v := .int Se4) (C := R_Le) (T := F_Le) (N := 4) hx hb (u_Le hC) (fun _ h => h) hown hC.K hP 0 rfl rfl 3 (by decide) (k_Le_22 hC) (fun _ h9 => h9) rfl d_Le_addRow_15 ?_
  refine lv_iload_n hx hb d_Le_addRow_18 rfl (lv_at hl 2 rfl) ?_
  refine va_iast hx hb hC.K hP hD hS 3 0 rfl rfl hc d_Le_addRow_19 (fun H locs hP hD hS => ?_)
  have hP : va_P G.1 g_cl ((e0, .inr (9, [.ref e1, .ref e2, .ref e3, .int Se4])) :: (e1, .inl (G.2.1 2, 50, .inr (.inl Fe1))) :: (e2, .inl (G.2.1 0, 8, .inl (upd Fe2 Se4.toNatClampNeg x))) :: (e3, .inl (G.2.1 0, 8, .inl (upd Fe3 Se4.toNatClampNeg y))) :: rest) H := hP
  have hD : va_D (g_A G) ((e0, .inr (9, [.ref e1, .ref e2, .ref e3, .int Se4])) :: (e1, .inl (G.2.1 2, 50, .inr (.inl Fe1))) :: (e2, .inl (G.2.1 0, 8, .inl (upd Fe2 Se4.toNatClampNeg x))) :: (e3, .inl (G.2.1 0, 8, .inl (upd Fe3 Se4.toNatClampNeg y))) :: rest) := hD
  refine lv_aload_n hx hb d_Le_addRow_20 rfl (lv_at hl 0 rfl) ?_
  refine lv_dup hx hb d_Le_addRow_21 rfl ?_
  refine va_get (D := G.1) (ci := 9) (v := .int Se4) (C := R_Le) (T := F_Le) (N := 4) hx hb (u_Le hC) (fun _ h => h) hown hC.K hP 0 rfl rfl 3 (by decide) (k_Le_22 hC) (fun _ h9 => h9) rfl d_Le_addRow_22 ?_
  refine lv_iconst (v := 1) hx hb d_Le_addRow_25 (by decide) ?_
  refine lv_iadd hx hb d_Le_addRow_26 ?_
  refine va_put (D := G.1) (ci := 9) (v := .int (Se4 + 1)) (ty := .int) (C := R_Le) (T := F_Le) (N := 4) hx hb (u_Le hC) (fun _ h => h) t_Le t_Le_ok n_Le hown hC.K hP hD hS 0 rfl rfl 3 (by decide) (k_Le_22 hC) (fun _ h9 => h9) rfl (by decide +kernel) rfl rfl (Nat.le_of_ble_eq_true rfl) d_Le_addRow_27 (fun H locs hP hD hS => ?_)
  have hP : va_P G.1 g_cl ((e0, .inr (9, [.ref e1, .ref e2, .ref e3, .int (Se4 + 1)])) :: (e1, .inl (G.2.1 2, 50, .inr (.inl Fe1))) :: (e2, .inl (G.2.1 0, 8, .inl (upd Fe2 Se4.toNatClampNeg x))) :: (e3, .inl (G.2.1 0, 8, .inl (upd Fe3 Se4.toNatClampNeg y))) :: rest) H := hP
  have hD : va_D (g_A G) ((e0, .inr (9, [.ref e1, .ref e2, .ref e3, .int (Se4 + 1)])) :: (e1, .inl (G.2.1 2, 50, .inr (.inl Fe1))) :: (e2, .inl (G.2.1 0, 8, .inl (upd Fe2 Se4.toNatClampNeg x))) :: (e3, .inl (G.2.1 0, 8, .inl (upd Fe3 Se4.toNatClampNeg y))) :: rest) := hD
  exact gx_retv [(e0, .inr (9, [.ref e1, .ref e2, .ref e3, .int (Se4 + 1)])), (e1, .inl (G.2.1 2, 50, .inr (.inl Fe1))), (e2, .inl (G.2.1 0, 8, .inl (upd Fe2 Se4.toNatClampNeg x))), (e3, .inl (G.2.1 0, 8, .inl (upd Fe3 Se4.toNatClampNeg y)))] hx hb hr hlocks ⟨rfl, rfl, rfl⟩ hP hD hS (Nat.le_of_ble_eq_true rfl) (Nat.le_of_ble_eq_true rfl) d_Le_addRow_30
