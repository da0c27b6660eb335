/-! THE CLAIM OUT OF ONE WALK OF THE LAW'S BODY. Your part is whole_start (and what it stands on); all else here is the same for every law, but numbers. -/
def R_law : String := "CostBooksLaw"
def lw_P (b : Addr) (xs : List Int32) (args : Array Value) (s : State) : Prop := args = #[.ref b] ∧ s.IntsAt b xs ∧ xs.length ≤ 2560 ∧ (Jvm.Cond.and given_1 narrow_1).before args s = true
def lw_Q (_ : Array Value) (s : State) (o : Outcome) (t : State) : Prop := o = .returned (some (.int 1)) ∧ Framed s o t [] 1087 10306
def lw_Z (below : List Frame) (a : Array Value) (s : State) : State → Prop := fun t => ∃ o, t.status = .running ∧ Ended t below o ∧ lw_Q a s o t
/-- the law's own end, with 1 on the stack, nothing written that was there before, its room as the claim has it -/
theorem lw_ret {p : Program} {l : Launch} {e : Env} {s : State} {m : MethodId} {below : List Frame} {meth : Method} {c : Code} {b : Nat} (hx : p.tables.exec = Jvm.exec) (hb : c.code = code) (hr : meth.sig.returnType = ret) (hlocks : meth.locks = false) {pc : Nat} {H : Heap} {ls : Array Slot} (hdg : decode code pc = .ok (.ireturn, 1)) : W p l e room_1 s m #[Value.ref b] below meth c H [] 1087 10306 (lw_Z below #[Value.ref b] s) (F0 m pc ls [.int 1]) := by
  intro T hT X
  obtain ⟨fs, hret, hrun, hended, hW, hframe⟩ := X.leave (v := some (.int 1)) (hlocks := hlocks) (fun h => by rw [hr] at h; cases h)
  have hmeth' : T.vm.method? m = some meth := X.method'
  refine ⟨T.setFrames fs, ?_, .returned (some (.int 1)), hrun, hended, rfl, ⟨_, rfl⟩, hW, hframe⟩
  jvm_step X.here [X.here.top, hx, hb, hdg, hmeth', hr, ret, narrow_b1]
  (try refine ⟨rfl, ?_⟩); (try refine ⟨rfl, ?_⟩)
  first | (intro acts; rw [hret _ acts rfl rfl rfl]) | rw [hret _ _ rfl rfl rfl]
  exact Steps.refl _
/-- what holds at the law's entry: the machine, the code, the tables' words (any of lw_tbl by 'hts w (by decide +kernel)'), the script of L ints xs at the cell b, what the Statement gives of the start (any of its parts by flat_of_before) -/
def lw_At (p : Program) (s : State) (m : MethodId) (meth : Method) (c : Code) (b L : Nat) (xs : Nat → Int32) : Prop :=
  p.tables.exec = Jvm.exec ∧ c.code = code ∧ meth.sig.returnType = ret ∧ c.maxLocals = 8 ∧ s.vm.findClass R_law = some m.cls ∧ (∀ w ∈ lw_tbl, w.before #[Value.ref b] s = true) ∧ va_X b L xs s s.heap ∧ b < s.heap.size ∧ meth.locks = false ∧ (Jvm.Cond.and given_1 narrow_1).before #[Value.ref b] s = true
theorem tbl_out {v : Int32} (h : ¬ ∃ k : Nat, k < 23 ∧ v = nI k) : v.toInt < 0 ∨ 22 < v.toInt := by
  by_cases h1 : v.toInt < 0
  · exact Or.inl h1
  · refine Or.inr (Int.lt_of_not_ge fun h2 => h ?_)
    obtain ⟨e1, e2⟩ := nat_x (N := 23) (vp_in_iff.mpr ⟨Int.not_lt.mp h1, Int.lt_of_le_of_lt h2 (by decide)⟩) (by decide)
    exact ⟨_, e2, e1⟩
theorem law_in {i L : Nat} (hi : i ≤ 3000) (hL : L ≤ 2560) (h : ¬ (nI L - 5 : Int32) < nI i) : i + 5 ≤ L := by
  rw [i32_lt, Int32.toInt_sub, nI_toInt (by omega), nI_toInt (by omega), show (5 : Int32).toInt = 5 from by decide, Int.bmod_eq_of_le (by omega) (by omega)] at h
  omega
set_option maxHeartbeats 4000000 in
set_option maxRecDepth 100000 in
/-- THE LAW'S LOOP -/
theorem law_loop {p : Program} {l : Launch} {e : Env} {s : State} {m : MethodId} {below : List Frame} {meth : Method} {c : Code} (hl0 : l.stackTraces = false) {G : GG} (hC : g_C G s) (hG : G.2.2.2 = s.heap.size) (hx : p.tables.exec = Jvm.exec) (hb : c.code = code) (hr : meth.sig.returnType = ret) (hml : c.maxLocals = 8) (hown : s.vm.findClass R_La = some m.cls) {b L : Nat} {xs : Nat → Int32} (hX : va_X b L xs s s.heap) (hbl : b < s.heap.size) (hlocks : meth.locks = false) (hL : L ≤ 2560) {A B : Nat → Nat} {oo : Nat} : ∀ (n t : Nat) (FO : Nat → Int64) (XS : Nat → Int32) (XF : Nat → Nat → Int32) (XL : Nat → Int64) (ZS : Nat → Int32) (ZF : Nat → Nat → Int32) (H : Heap) (locs : List Loc) (ls : Array Slot), L < 5 * (t + n) + 5 → 5 * t ≤ L → INV XS XF ZF → va_P G.1 g_cl (((oo, .inl (G.2.1 2, 1, .inr (.inl FO))) :: wcb G A XS XF XL) ++ (wmo G B XS XF XL ZS ZF ++ [])) H → va_D (g_A G) (((oo, .inl (G.2.1 2, 1, .inr (.inl FO))) :: wcb G A XS XF XL) ++ (wmo G B XS XF XL ZS ZF ++ [])) → va_S (g_A G) s.heap H locs → lv_has ls 8 [(4, .int (nI (5 * t))), (3, .ref oo), (2, .ref (B 0)), (1, .ref (A 0)), (0, .ref b)] → W p l e room_1 s m #[Value.ref b] below meth c H locs (57 + t) (2078 + 6 * t) (lw_Z below #[Value.ref b] s) (F0 m 23 ls []) := by
  have hbA : ¬ g_A G b := by show ¬ G.2.2.2 ≤ b; rw [hG]; exact Nat.not_le.mpr hbl
  intro n
  induction n with
  | zero =>
    intro t FO XS XF XL ZS ZF H locs ls hn ht hI hP hD hS hl
    have hsize : ls.size = c.maxLocals := by rw [hml]; exact hl.1
    refine lv_iload hx hb d_La_law_23 (lv_at hl 0 rfl) ?_
    refine lv_aload_n hx hb d_La_law_25 rfl (lv_at hl 4 rfl) ?_
    refine va_slen hx hb hX hbl hbA hS d_La_law_26 ?_
    refine lv_iconst (v := 5) hx hb d_La_law_27 (by decide) ?_
    refine lv_isub hx hb d_La_law_28 ?_
    refine lv_icmp_gt (tgt := 1565) hx hb d_La_law_29 (by decide) (fun c_29 => ?_) (fun c_29 => ?_)
    · refine lv_iconst (v := 1) hx hb d_La_law_1565 (by decide) ?_
      refine va_forget (fun q hq => by have h9 : G.2.2.2 ≤ q.base := hS.2.2 q hq; rw [hG] at h9; exact h9) ?_
      refine W.widen (k := 1087) (n := 10306) (by omega) (by omega) ?_
      exact lw_ret hx hb hr hlocks d_La_law_1566
    · have hi : 5 * t + 5 ≤ L := law_in (by omega) hL c_29
      exact absurd hn (by omega)
  | succ n ih =>
    intro t FO XS XF XL ZS ZF H locs ls hn ht hI hP hD hS hl
    have hsize : ls.size = c.maxLocals := by rw [hml]; exact hl.1
    refine lv_iload hx hb d_La_law_23 (lv_at hl 0 rfl) ?_
    refine lv_aload_n hx hb d_La_law_25 rfl (lv_at hl 4 rfl) ?_
    refine va_slen hx hb hX hbl hbA hS d_La_law_26 ?_
    refine lv_iconst (v := 5) hx hb d_La_law_27 (by decide) ?_
    refine lv_isub hx hb d_La_law_28 ?_
    refine lv_icmp_gt (tgt := 1565) hx hb d_La_law_29 (by decide) (fun c_29 => ?_) (fun c_29 => ?_)
    · refine lv_iconst (v := 1) hx hb d_La_law_1565 (by decide) ?_
      refine va_forget (fun q hq => by have h9 : G.2.2.2 ≤ q.base := hS.2.2 q hq; rw [hG] at h9; exact h9) ?_
      refine W.widen (k := 1087) (n := 10306) (by omega) (by omega) ?_
      exact lw_ret hx hb hr hlocks d_La_law_1566
    · have hi : 5 * t + 5 ≤ L := law_in (by omega) hL c_29
      have kk : ∀ (FO' : Nat → Int64) (XS' : Nat → Int32) (XF' : Nat → Nat → Int32) (XL' : Nat → Int64) (ZS' : Nat → Int32) (ZF' : Nat → Nat → Int32) (H' : Heap) (locs' : List Loc) (ls' : Array Slot), INV XS' XF' ZF' → va_P G.1 g_cl (((oo, .inl (G.2.1 2, 1, .inr (.inl FO'))) :: wcb G A XS' XF' XL') ++ (wmo G B XS' XF' XL' ZS' ZF' ++ [])) H' → va_D (g_A G) (((oo, .inl (G.2.1 2, 1, .inr (.inl FO'))) :: wcb G A XS' XF' XL') ++ (wmo G B XS' XF' XL' ZS' ZF' ++ [])) → va_S (g_A G) s.heap H' locs' → lv_has ls' 8 [(4, .int (nI (5 * t))), (3, .ref oo), (2, .ref (B 0)), (1, .ref (A 0)), (0, .ref b)] → W p l e room_1 s m #[Value.ref b] below meth c H' locs' (57 + t + 1) (2078 + 6 * t + 6) (lw_Z below #[Value.ref b] s) (F0 m 1559 ls' []) := by
        intro FO' XS' XF' XL' ZS' ZF' H' locs' ls' hI' hP' hD' hS' hl'
        refine lv_iinc (v := nI (5 * (t + 1))) (lv' := [(4, .int (nI (5 * (t + 1)))), (3, .ref oo), (2, .ref (B 0)), (1, .ref (A 0)), (0, .ref b)]) hx hb d_La_law_1559 hl' (k := 0) rfl (by rw [show (5 * (t + 1)) = 5 * t + 5 by omega, ← nI_add]; rfl) (by decide) rfl (fun ls hl => ?_)
        refine lv_goto (tgt := 23) hx hb d_La_law_1562 (by decide) ?_
        exact ih (t + 1) FO' XS' XF' XL' ZS' ZF' H' locs' ls (by omega) (by omega) hI' hP' hD' hS' hl
      refine lv_aload_n hx hb d_La_law_32 rfl (lv_at hl 4 rfl) ?_
      refine lv_iload hx hb d_La_law_33 (lv_at hl 0 rfl) ?_
      refine va_sld hx hb hX hbl hbA hS (vp_in_nI (by omega) (by omega)) d_La_law_35 ?_
      refine lv_bipush (v := 31) hx hb d_La_law_36 (by decide) ?_
      refine lv_iand hx hb d_La_law_38 ?_
      generalize (xs (nI (5 * t)).toNatClampNeg &&& 31) = v
      by_cases hv : ∃ k : Nat, k < 23 ∧ v = nI k
      · obtain ⟨k, hk, ev⟩ := hv
        rcases (show k = 0 ∨ k = 1 ∨ k = 2 ∨ k = 3 ∨ k = 4 ∨ k = 5 ∨ k = 6 ∨ k = 7 ∨ k = 8 ∨ k = 9 ∨ k = 10 ∨ k = 11 ∨ k = 12 ∨ k = 13 ∨ k = 14 ∨ k = 15 ∨ k = 16 ∨ k = 17 ∨ k = 18 ∨ k = 19 ∨ k = 20 ∨ k = 21 ∨ k = 22 by omega) with rfl | rfl | rfl | rfl | rfl | rfl | rfl | rfl | rfl | rfl | rfl | rfl | rfl | rfl | rfl | rfl | rfl | rfl | rfl | rfl | rfl | rfl | rfl
        · refine lv_tableIn (tgt := 144) hx hb d_La_law_39 (by rw [ev]; decide) (by rw [ev]; decide) (by rw [ev]; rfl) (by decide) ?_
          exact case_0 hl0 hC hx hb hml hown hX hbl hbA hI hi hL (by omega) (by omega) hP hD hS hl kk
        · refine lv_tableIn (tgt := 204) hx hb d_La_law_39 (by rw [ev]; decide) (by rw [ev]; decide) (by rw [ev]; rfl) (by decide) ?_
          exact case_1 hl0 hC hx hb hml hown hX hbl hbA hI hi hL (by omega) (by omega) hP hD hS hl kk
        · refine lv_tableIn (tgt := 284) hx hb d_La_law_39 (by rw [ev]; decide) (by rw [ev]; decide) (by rw [ev]; rfl) (by decide) ?_
          exact case_2 hl0 hC hx hb hml hown hX hbl hbA hI hi hL (by omega) (by omega) hP hD hS hl kk
        · refine lv_tableIn (tgt := 320) hx hb d_La_law_39 (by rw [ev]; decide) (by rw [ev]; decide) (by rw [ev]; rfl) (by decide) ?_
          exact case_3 hl0 hC hx hb hml hown hX hbl hbA hI hi hL (by omega) (by omega) hP hD hS hl kk
        · refine lv_tableIn (tgt := 400) hx hb d_La_law_39 (by rw [ev]; decide) (by rw [ev]; decide) (by rw [ev]; rfl) (by decide) ?_
          exact case_4 hl0 hC hx hb hml hown hX hbl hbA hI hi hL (by omega) (by omega) hP hD hS hl kk
        · refine lv_tableIn (tgt := 448) hx hb d_La_law_39 (by rw [ev]; decide) (by rw [ev]; decide) (by rw [ev]; rfl) (by decide) ?_
          exact case_5 hl0 hC hx hb hml hown hX hbl hbA hI hi hL (by omega) (by omega) hP hD hS hl kk
        · refine lv_tableIn (tgt := 484) hx hb d_La_law_39 (by rw [ev]; decide) (by rw [ev]; decide) (by rw [ev]; rfl) (by decide) ?_
          exact case_6 hl0 hC hx hb hml hown hX hbl hbA hI hi hL (by omega) (by omega) hP hD hS hl kk
        · refine lv_tableIn (tgt := 584) hx hb d_La_law_39 (by rw [ev]; decide) (by rw [ev]; decide) (by rw [ev]; rfl) (by decide) ?_
          exact case_7 hl0 hC hx hb hml hown hX hbl hbA hI hi hL (by omega) (by omega) hP hD hS hl kk
        · refine lv_tableIn (tgt := 628) hx hb d_La_law_39 (by rw [ev]; decide) (by rw [ev]; decide) (by rw [ev]; rfl) (by decide) ?_
          exact case_8 hl0 hC hx hb hml hown hX hbl hbA hI hi hL (by omega) (by omega) hP hD hS hl kk
        · refine lv_tableIn (tgt := 641) hx hb d_La_law_39 (by rw [ev]; decide) (by rw [ev]; decide) (by rw [ev]; rfl) (by decide) ?_
          exact case_9 hl0 hC hx hb hml hown hX hbl hbA hI hi hL (by omega) (by omega) hP hD hS hl kk
        · refine lv_tableIn (tgt := 733) hx hb d_La_law_39 (by rw [ev]; decide) (by rw [ev]; decide) (by rw [ev]; rfl) (by decide) ?_
          exact case_10 hl0 hC hx hb hml hown hX hbl hbA hI hi hL (by omega) (by omega) hP hD hS hl kk
        · refine lv_tableIn (tgt := 801) hx hb d_La_law_39 (by rw [ev]; decide) (by rw [ev]; decide) (by rw [ev]; rfl) (by decide) ?_
          exact case_11 hl0 hC hx hb hml hown hX hbl hbA hI hi hL (by omega) (by omega) hP hD hS hl kk
        · refine lv_tableIn (tgt := 865) hx hb d_La_law_39 (by rw [ev]; decide) (by rw [ev]; decide) (by rw [ev]; rfl) (by decide) ?_
          exact case_12 hl0 hC hx hb hml hown hX hbl hbA hI hi hL (by omega) (by omega) hP hD hS hl kk
        · refine lv_tableIn (tgt := 921) hx hb d_La_law_39 (by rw [ev]; decide) (by rw [ev]; decide) (by rw [ev]; rfl) (by decide) ?_
          exact case_13 hl0 hC hx hb hml hown hX hbl hbA hI hi hL (by omega) (by omega) hP hD hS hl kk
        · refine lv_tableIn (tgt := 989) hx hb d_La_law_39 (by rw [ev]; decide) (by rw [ev]; decide) (by rw [ev]; rfl) (by decide) ?_
          exact case_14 hl0 hC hx hb hml hown hX hbl hbA hI hi hL (by omega) (by omega) hP hD hS hl kk
        · refine lv_tableIn (tgt := 1037) hx hb d_La_law_39 (by rw [ev]; decide) (by rw [ev]; decide) (by rw [ev]; rfl) (by decide) ?_
          exact case_15 hl0 hC hx hb hml hown hX hbl hbA hI hi hL (by omega) (by omega) hP hD hS hl kk
        · refine lv_tableIn (tgt := 1105) hx hb d_La_law_39 (by rw [ev]; decide) (by rw [ev]; decide) (by rw [ev]; rfl) (by decide) ?_
          exact case_16 hl0 hC hx hb hml hown hX hbl hbA hI hi hL (by omega) (by omega) hP hD hS hl kk
        · refine lv_tableIn (tgt := 1173) hx hb d_La_law_39 (by rw [ev]; decide) (by rw [ev]; decide) (by rw [ev]; rfl) (by decide) ?_
          exact case_17 hl0 hC hx hb hml hown hX hbl hbA hI hi hL (by omega) (by omega) hP hD hS hl kk
        · refine lv_tableIn (tgt := 1253) hx hb d_La_law_39 (by rw [ev]; decide) (by rw [ev]; decide) (by rw [ev]; rfl) (by decide) ?_
          exact case_18 hl0 hC hx hb hml hown hX hbl hbA hI hi hL (by omega) (by omega) hP hD hS hl kk
        · refine lv_tableIn (tgt := 1321) hx hb d_La_law_39 (by rw [ev]; decide) (by rw [ev]; decide) (by rw [ev]; rfl) (by decide) ?_
          exact case_19 hl0 hC hx hb hml hown hX hbl hbA hI hi hL (by omega) (by omega) hP hD hS hl kk
        · refine lv_tableIn (tgt := 1377) hx hb d_La_law_39 (by rw [ev]; decide) (by rw [ev]; decide) (by rw [ev]; rfl) (by decide) ?_
          exact case_20 hl0 hC hx hb hml hown hX hbl hbA hI hi hL (by omega) (by omega) hP hD hS hl kk
        · refine lv_tableIn (tgt := 1444) hx hb d_La_law_39 (by rw [ev]; decide) (by rw [ev]; decide) (by rw [ev]; rfl) (by decide) ?_
          exact case_21 hl0 hC hx hb hml hown hX hbl hbA hI hi hL (by omega) (by omega) hP hD hS hl kk
        · refine lv_tableIn (tgt := 1480) hx hb d_La_law_39 (by rw [ev]; decide) (by rw [ev]; decide) (by rw [ev]; rfl) (by decide) ?_
          exact case_22 hl0 hC hx hb hml hown hX hbl hbA hI hi hL (by omega) (by omega) hP hD hS hl kk
      · refine lv_tableOut (tgt := 1559) hx hb d_La_law_39 (tbl_out hv) (by decide) ?_
        refine W.widen (k := 57 + t + 1) (n := 2078 + 6 * t + 6) (by omega) (by omega) ?_
        exact kk FO XS XF XL ZS ZF H locs ls hI hP hD hS hl
