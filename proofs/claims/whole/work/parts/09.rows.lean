/-! CONTRACTS in this claim's words: g_C (what the tables and the start give, anywhere), a world w of cells beside any rest. px: reads only, may throw; gx: may write, may throw. -/
def g_P (G : GG) (w : va_W) (H : Heap) : Prop := va_P G.1 g_cl w H ∧ va_D (g_A G) w
def g_Pc (G : GG) (av : List Value) (w : va_W) : Array Value → State → Prop := fun a U => a = av.toArray ∧ g_C G U ∧ g_P G w U.heap
theorem g_blind {G : GG} {av : List Value} {w : va_W} : FrameBlind (g_Pc G av w) := fun _ U _ _ h => ⟨h.1, h.2.1.to (State.WarmedH.refl U) (fun _ _ _ => rfl), h.2.2⟩
def g_Ext (st t : State) : Prop := st.heap.size ≤ t.heap.size ∧ ∀ q : Nat, q < st.heap.size → t.heap[q]? = st.heap[q]?
def px_R (thr : Option String) (rv : Option Value) : Array Value → State → Option Value → State → Prop := fun _ st v t => thr = none ∧ v = rv ∧ t.heap = st.heap
def px_T (thr : Option String) : Array Value → State → String → State → Prop := fun _ st E t => thr = some E ∧ g_Ext st t
def px (l : Launch) (G : GG) (y : MethodName) (cd : Cond) (rm : Room) (av : List Value) (w : va_W) (thr : Option String) (rv : Option Value) : Prop :=
  ∀ rest : va_W, mx_M l y [cd] rm (g_Pc G av (w ++ rest)) (px_R thr rv) (px_T thr) (fun _ => False) 0 0
def gx_R (G : GG) (rest : va_W) (Po : Option Value → va_W → Prop) : Array Value → State → Option Value → State → Prop := fun _ st v t => (∃ w' : va_W, Po v w' ∧ g_P G (w' ++ rest) t.heap) ∧ va_F (g_A G) st t
def gx_T (G : GG) (rest : va_W) (Px : String → va_W → Prop) : Array Value → State → String → State → Prop := fun _ st E t => (∃ w' : va_W, Px E w' ∧ g_P G (w' ++ rest) t.heap) ∧ va_F (g_A G) st t
def gx (l : Launch) (G : GG) (y : MethodName) (cd : Cond) (rm : Room) (av : List Value) (w : va_W) (Po : Option Value → va_W → Prop) (Px : String → va_W → Prop) (rc rs : Nat) : Prop :=
  ∀ rest : va_W, mx_M l y [cd] rm (g_Pc G av (w ++ rest)) (gx_R G rest Po) (gx_T G rest Px) (g_A G) rc rs
section GX
variable {p : Program} {l : Launch} {e : Env} {R : Room} {s : State} {m : MethodId} {args : Array Value} {below : List Frame} {meth : Method} {c : Code} {H : Heap} {locs : List Loc} {cells slots : Nat} {Q : State → Prop}
variable {G : GG} {y : MethodName} {cd : Cond} {rm : Room} {av : List Value} {w wr : va_W} {pc maxL : Nat} {ls : Array Slot} {st0 rest : List Value} {ig : Instr} {cc : ByteArray}
theorem gx_S (hS : va_S (g_A G) s.heap H locs) {st t : State} {L : List Loc} (hst : st.heap = H) (hF : va_F (g_A G) st t) (hL : ∀ z ∈ L, g_A G z.base) : va_S (g_A G) s.heap t.heap (locs ++ L) :=
  ⟨Nat.le_trans hS.1 (by rw [← hst]; exact hF.1), fun q h1 h2 => (hF.2 q (by rw [hst]; exact Nat.lt_of_lt_of_le h1 hS.1) h2).trans (by rw [hst]; exact hS.2.1 q h1 h2), fun z hz => (List.mem_append.mp hz).elim (hS.2.2 z) (hL z)⟩
/-- a call by the contract of a method that may write -/
theorem gx_call {Po : Option Value → va_W → Prop} {Px : String → va_W → Prop} {rc rs : Nat} (hgo : ix_Go p l e R s m args below meth c H locs cells slots (F0 m pc ls st0) rest y av) (hM : gx l G y cd rm av w Po Px rc rs) (hcd : cd.before args s = true) (hgd : goodWord cd = true) (his : mx_Is s y maxL) (hini : (Cond.initialized y.cls).before args s = true)
    (hb : c.code = cc) (hC : g_C G s) (hP : va_P G.1 g_cl (w ++ wr) H) (hD : va_D (g_A G) (w ++ wr)) (hS : va_S (g_A G) s.heap H locs)
    (hR : rm.frames + 1 ≤ R.frames ∧ 8 + (maxL + 11) + rm.locals ≤ R.locals) (hf : cells + rm.cells ≤ R.cells ∧ slots + rm.slots ≤ R.slots) (hsize : ls.size = c.maxLocals) (hW : (rest.map fun v => v.category).sum ≤ 8) (hdg : decode cc pc = .ok (ig, 3))
    (kr : ∀ (v : Option Value) (w' : va_W) (H1 : Heap) (locs1 : List Loc), Po v w' → va_P G.1 g_cl (w' ++ wr) H1 → va_D (g_A G) (w' ++ wr) → va_S (g_A G) s.heap H1 locs1 → W p l e R s m args below meth c H1 locs1 (cells + rc) (slots + rs) Q (F0 m (pc + 3) ls (v.toList ++ rest)))
    (kt : ∀ (E : String) (w' : va_W) (H1 : Heap) (locs1 : List Loc) (q : Addr) (ce : Cell), Px E w' → va_P G.1 g_cl (w' ++ wr) H1 → va_D (g_A G) (w' ++ wr) → va_S (g_A G) s.heap H1 locs1 → H1[q]? = some ce → ce.vm = .none → s.vm.findClass E = some ce.cls → mx_N p l e R s m args below meth c H1 locs1 (cells + 1) (slots + 6) Q (F0 m pc ls rest) q) :
    W p l e R s m args below meth c H locs cells slots Q (F0 m pc ls st0) := by
  refine ix_call hgo (hM wr) (fun w hw a' U hW => by rw [List.mem_singleton.mp hw]; exact word_at hW (good_of_word hgd) hcd) his hini g_blind
    (fun U hU hWm => ⟨rfl, hC.to hWm (fun q h1 h2 => by rw [hU]; exact hS.2.1 q h1 h2), by rw [hU]; exact ⟨hP, hD⟩⟩) hR hf rfl hsize (lv_room hW) (by rw [hb]; exact hdg) ?_ ?_
  · intro v st t L hst _ hRt hL
    obtain ⟨⟨w', hPo, hP', hD'⟩, hF⟩ := hRt
    exact kr v w' t.heap (locs ++ L) hPo hP' hD' (gx_S hS hst hF hL)
  · intro q E ce st t L hst _ hTh h1 h2 h3 hL
    obtain ⟨⟨w', hPx, hP', hD'⟩, hF⟩ := hTh
    exact kt E w' t.heap (locs ++ L) q ce hPx hP' hD' (gx_S hS hst hF hL) h1 h2 h3
/-- a call by the contract of a method that only reads: the heap stays -/
theorem px_call {thr : Option String} {rv : Option Value} (hgo : ix_Go p l e R s m args below meth c H locs cells slots (F0 m pc ls st0) rest y av) (hM : px l G y cd rm av w thr rv) (hcd : cd.before args s = true) (hgd : goodWord cd = true) (his : mx_Is s y maxL) (hini : (Cond.initialized y.cls).before args s = true)
    (hb : c.code = cc) (hC : g_C G s) (hP : va_P G.1 g_cl w H) (hD : va_D (g_A G) w) (hS : va_S (g_A G) s.heap H locs)
    (hR : rm.frames + 1 ≤ R.frames ∧ 8 + (maxL + 11) + rm.locals ≤ R.locals) (hf : cells + rm.cells ≤ R.cells ∧ slots + rm.slots ≤ R.slots) (hsize : ls.size = c.maxLocals) (hW : (rest.map fun v => v.category).sum ≤ 8) (hdg : decode cc pc = .ok (ig, 3))
    (kr : thr = none → W p l e R s m args below meth c H locs cells slots Q (F0 m (pc + 3) ls (rv.toList ++ rest)))
    (kt : ∀ (E : String) (H1 : Heap) (q : Addr) (ce : Cell), thr = some E → H.size ≤ H1.size → (∀ q : Nat, q < H.size → H1[q]? = H[q]?) → H1[q]? = some ce → ce.vm = .none → s.vm.findClass E = some ce.cls → mx_N p l e R s m args below meth c H1 locs (cells + 1) (slots + 6) Q (F0 m pc ls rest) q) :
    W p l e R s m args below meth c H locs cells slots Q (F0 m pc ls st0) := by
  have hnil : ∀ L : List Loc, (∀ z ∈ L, (fun _ : Addr => False) z.base) → L = [] := fun L h => List.eq_nil_iff_forall_not_mem.mpr (fun z hz => h z hz)
  refine ix_call hgo (hM []) (fun w hw a' U hW => by rw [List.mem_singleton.mp hw]; exact word_at hW (good_of_word hgd) hcd) his hini g_blind
    (fun U hU hWm => ⟨rfl, hC.to hWm (fun q h1 h2 => by rw [hU]; exact hS.2.1 q h1 h2), by rw [hU, List.append_nil]; exact ⟨hP, hD⟩⟩) hR hf rfl hsize (lv_room hW) (by rw [hb]; exact hdg) ?_ ?_
  · intro v st t L hst _ hRt hL
    obtain ⟨h1, rfl, h3⟩ := hRt
    rw [hnil L hL, List.append_nil, h3, hst]
    exact kr h1
  · intro q E ce st t L hst _ hTh h1 h2 h3 hL
    obtain ⟨h4, h5, h6⟩ := hTh
    rw [hnil L hL, List.append_nil]
    exact kt E t.heap q ce h4 (by rw [← hst]; exact h5) (fun q hq => by rw [← hst]; exact h6 q (by rw [hst]; exact hq)) h1 h2 h3
/-- .. that never throws -/
theorem px_callN {rv : Option Value} (hgo : ix_Go p l e R s m args below meth c H locs cells slots (F0 m pc ls st0) rest y av) (hM : px l G y cd rm av w none rv) (hcd : cd.before args s = true) (hgd : goodWord cd = true) (his : mx_Is s y maxL) (hini : (Cond.initialized y.cls).before args s = true)
    (hb : c.code = cc) (hC : g_C G s) (hP : va_P G.1 g_cl w H) (hD : va_D (g_A G) w) (hS : va_S (g_A G) s.heap H locs)
    (hR : rm.frames + 1 ≤ R.frames ∧ 8 + (maxL + 11) + rm.locals ≤ R.locals) (hf : cells + rm.cells ≤ R.cells ∧ slots + rm.slots ≤ R.slots) (hsize : ls.size = c.maxLocals) (hW : (rest.map fun v => v.category).sum ≤ 8) (hdg : decode cc pc = .ok (ig, 3))
    (kr : W p l e R s m args below meth c H locs cells slots Q (F0 m (pc + 3) ls (rv.toList ++ rest))) :
    W p l e R s m args below meth c H locs cells slots Q (F0 m pc ls st0) :=
  px_call hgo hM hcd hgd his hini hb hC hP hD hS hR hf hsize hW hdg (fun _ => kr) (fun _ _ _ _ h => nomatch h)
/-- ends -/
theorem px_reti {thr : Option String} {rv : Option Value} {v : Int32} (hx : p.tables.exec = Jvm.exec) (hb : c.code = cc) (hr : meth.sig.returnType = some .int) (hlocks : meth.locks = false) (h1 : thr = none) (h2 : some (.int v) = rv) (hdg : decode cc pc = .ok (.ireturn, 1)) : W p l e R s m args below meth c s.heap [] 0 0 (mx_E below (px_R thr rv) (px_T thr) (fun _ => False) 0 0 args s) (F0 m pc ls [.int v]) :=
  mx_ret (W.iret hx hb hr (fun t ht _ => ⟨_, rfl, h1, h2, ht⟩) (fun _ h => nomatch h) hdg hlocks)
theorem px_retl {thr : Option String} {rv : Option Value} {v : Int64} (hx : p.tables.exec = Jvm.exec) (hb : c.code = cc) (hr : meth.sig.returnType = some .long) (hlocks : meth.locks = false) (h1 : thr = none) (h2 : some (.long v) = rv) (hdg : decode cc pc = .ok (.lreturn, 1)) : W p l e R s m args below meth c s.heap [] 0 0 (mx_E below (px_R thr rv) (px_T thr) (fun _ => False) 0 0 args s) (F0 m pc ls [.long v]) :=
  mx_ret (W.lret hx hb hr (fun t ht _ => ⟨_, rfl, h1, h2, ht⟩) (fun _ h => nomatch h) hdg hlocks)
theorem px_retz {thr : Option String} {rv : Option Value} {v : Int32} (hx : p.tables.exec = Jvm.exec) (hb : c.code = cc) (hr : meth.sig.returnType = some .boolean) (hlocks : meth.locks = false) (hn : narrow .boolean (.int v) = .int v) (h1 : thr = none) (h2 : some (.int v) = rv) (hdg : decode cc pc = .ok (.ireturn, 1)) : W p l e R s m args below meth c s.heap [] 0 0 (mx_E below (px_R thr rv) (px_T thr) (fun _ => False) 0 0 args s) (F0 m pc ls [.int v]) :=
  mx_ret (W.zret hx hb hr hn (fun t ht _ => ⟨_, rfl, h1, h2, ht⟩) (fun _ h => nomatch h) hdg hlocks)
theorem px_retv {thr : Option String} {rv : Option Value} (hx : p.tables.exec = Jvm.exec) (hb : c.code = cc) (hr : meth.sig.returnType = none) (hlocks : meth.locks = false) (h1 : thr = none) (h2 : none = rv) (hdg : decode cc pc = .ok (.return_, 1)) : W p l e R s m args below meth c s.heap [] 0 0 (mx_E below (px_R thr rv) (px_T thr) (fun _ => False) 0 0 args s) (F0 m pc ls []) :=
  mx_ret (W.vret hx hb hr (fun t ht _ => ⟨_, rfl, h1, h2, ht⟩) (fun _ h => nomatch h) hdg hlocks)
/-- thrown by a callee, out of here -/
theorem px_out {thr : Option String} {rv : Option Value} {E : String} {q : Addr} {ce : Cell} (hE : c.exceptionTable.toList = []) (hlocks : meth.locks = false) (h : thr = some E) (h1 : s.heap.size ≤ H.size) (h2 : ∀ q : Nat, q < s.heap.size → H[q]? = s.heap[q]?) (h3 : H[q]? = some ce) (h4 : ce.vm = .none) (h5 : s.vm.findClass E = some ce.cls) :
    mx_N p l e R s m args below meth c H [] 1 6 (mx_E below (px_R thr rv) (px_T thr) (fun _ => False) 0 0 args s) (F0 m pc ls rest) q :=
  mx_out hE hlocks h3 h4 h5 (fun t ht _ => ⟨h, by rw [ht]; exact h1, fun q hq => by rw [ht]; exact h2 q hq⟩) (fun _ h => nomatch h) (Nat.le_refl _) (Nat.le_refl _)
variable {Po : Option Value → va_W → Prop} {Px : String → va_W → Prop} {rc rs : Nat}
theorem gx_end {o : Option Value} {w' : va_W} (hPo : Po o w') (hP : va_P G.1 g_cl (w' ++ wr) H) (hD : va_D (g_A G) (w' ++ wr)) (hS : va_S (g_A G) s.heap H locs) {t : State} (ht : t.heap = H) : ∃ v, Outcome.returned o = .returned v ∧ gx_R G wr Po args s v t :=
  ⟨o, rfl, ⟨w', hPo, by rw [ht]; exact ⟨hP, hD⟩⟩, hS.F ht⟩
theorem gx_reti {v : Int32} (w' : va_W) (hx : p.tables.exec = Jvm.exec) (hb : c.code = cc) (hr : meth.sig.returnType = some .int) (hlocks : meth.locks = false) (hPo : Po (some (.int v)) w') (hP : va_P G.1 g_cl (w' ++ wr) H) (hD : va_D (g_A G) (w' ++ wr)) (hS : va_S (g_A G) s.heap H locs) (hc : cells ≤ rc) (hs : slots ≤ rs) (hdg : decode cc pc = .ok (.ireturn, 1)) : W p l e R s m args below meth c H locs cells slots (mx_E below (gx_R G wr Po) (gx_T G wr Px) (g_A G) rc rs args s) (F0 m pc ls [.int v]) :=
  W.widen hc hs (mx_ret (W.iret hx hb hr (fun _ ht _ => gx_end hPo hP hD hS ht) hS.2.2 hdg hlocks))
theorem gx_retl {v : Int64} (w' : va_W) (hx : p.tables.exec = Jvm.exec) (hb : c.code = cc) (hr : meth.sig.returnType = some .long) (hlocks : meth.locks = false) (hPo : Po (some (.long v)) w') (hP : va_P G.1 g_cl (w' ++ wr) H) (hD : va_D (g_A G) (w' ++ wr)) (hS : va_S (g_A G) s.heap H locs) (hc : cells ≤ rc) (hs : slots ≤ rs) (hdg : decode cc pc = .ok (.lreturn, 1)) : W p l e R s m args below meth c H locs cells slots (mx_E below (gx_R G wr Po) (gx_T G wr Px) (g_A G) rc rs args s) (F0 m pc ls [.long v]) :=
  W.widen hc hs (mx_ret (W.lret hx hb hr (fun _ ht _ => gx_end hPo hP hD hS ht) hS.2.2 hdg hlocks))
theorem gx_retz {v : Int32} (w' : va_W) (hx : p.tables.exec = Jvm.exec) (hb : c.code = cc) (hr : meth.sig.returnType = some .boolean) (hlocks : meth.locks = false) (hn : narrow .boolean (.int v) = .int v) (hPo : Po (some (.int v)) w') (hP : va_P G.1 g_cl (w' ++ wr) H) (hD : va_D (g_A G) (w' ++ wr)) (hS : va_S (g_A G) s.heap H locs) (hc : cells ≤ rc) (hs : slots ≤ rs) (hdg : decode cc pc = .ok (.ireturn, 1)) : W p l e R s m args below meth c H locs cells slots (mx_E below (gx_R G wr Po) (gx_T G wr Px) (g_A G) rc rs args s) (F0 m pc ls [.int v]) :=
  W.widen hc hs (mx_ret (W.zret hx hb hr hn (fun _ ht _ => gx_end hPo hP hD hS ht) hS.2.2 hdg hlocks))
theorem gx_retv (w' : va_W) (hx : p.tables.exec = Jvm.exec) (hb : c.code = cc) (hr : meth.sig.returnType = none) (hlocks : meth.locks = false) (hPo : Po none w') (hP : va_P G.1 g_cl (w' ++ wr) H) (hD : va_D (g_A G) (w' ++ wr)) (hS : va_S (g_A G) s.heap H locs) (hc : cells ≤ rc) (hs : slots ≤ rs) (hdg : decode cc pc = .ok (.return_, 1)) : W p l e R s m args below meth c H locs cells slots (mx_E below (gx_R G wr Po) (gx_T G wr Px) (g_A G) rc rs args s) (F0 m pc ls []) :=
  W.widen hc hs (mx_ret (W.vret hx hb hr (fun _ ht _ => gx_end hPo hP hD hS ht) hS.2.2 hdg hlocks))
theorem gx_out {E : String} {w' : va_W} {q : Addr} {ce : Cell} (hE : c.exceptionTable.toList = []) (hlocks : meth.locks = false) (hPx : Px E w') (hP : va_P G.1 g_cl (w' ++ wr) H) (hD : va_D (g_A G) (w' ++ wr)) (hS : va_S (g_A G) s.heap H locs) (hc : cells ≤ 1) (hs : slots ≤ 6) (h3 : H[q]? = some ce) (h4 : ce.vm = .none) (h5 : s.vm.findClass E = some ce.cls) :
    mx_N p l e R s m args below meth c H locs cells slots (mx_E below (gx_R G wr Po) (gx_T G wr Px) (g_A G) rc rs args s) (F0 m pc ls rest) q :=
  mx_out hE hlocks h3 h4 h5 (fun t ht _ => ⟨⟨w', hPx, by rw [ht]; exact ⟨hP, hD⟩⟩, hS.F ht⟩) hS.2.2 hc hs
/-- a world that a reader's throw leaves as it was -/
theorem g_kept {H1 : Heap} (hP : va_P G.1 g_cl w H) (h : ∀ q : Nat, q < H.size → H1[q]? = H[q]?) : va_P G.1 g_cl w H1 := hP.kept (fun k q hk => h q.1 (hP k q hk).lt)
theorem g_keptS {H1 : Heap} (hS : va_S (g_A G) s.heap H locs) (h0 : H.size ≤ H1.size) (h : ∀ q : Nat, q < H.size → H1[q]? = H[q]?) : va_S (g_A G) s.heap H1 locs :=
  ⟨Nat.le_trans hS.1 h0, fun q h1 h2 => (h q (Nat.lt_of_lt_of_le h1 hS.1)).trans (hS.2.1 q h1 h2), hS.2.2⟩
end GX
