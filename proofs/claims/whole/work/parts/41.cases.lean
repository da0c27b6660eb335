set_option maxHeartbeats 4000000 in
set_option maxRecDepth 100000 in
theorem case_0 {p : Program} {l : Launch} {e : Env} {s : State} {m : MethodId} {below : List Frame} {meth : Method} {c : Code} (hl0 : l.stackTraces = false) {G : GG} (hC : g_C G s) (hx : p.tables.exec = Jvm.exec) (hb : c.code = code) (hml : c.maxLocals = 8) (hown : s.vm.findClass R_La = some m.cls) {b L : Nat} {xs : Nat → Int32} (hX : va_X b L xs s s.heap) (hbl : b < s.heap.size) (hbA : ¬ g_A G b) {Q : State → Prop} {A B : Nat → Nat} {oo : Nat} {XS : Nat → Int32} {XF : Nat → Nat → Int32} {XL : Nat → Int64} {ZS : Nat → Int32} {ZF : Nat → Nat → Int32} {FO : Nat → Int64} (hI : INV XS XF ZF) {i : Nat} (hi : i + 5 ≤ L) (hL : L ≤ 2560) {cs sl : Nat} (hcs : cs + 1 ≤ 1087) (hsl : sl + 6 ≤ 10306) {H : Heap} {locs : List Loc} (hP : va_P G.1 g_cl (((oo, .inl (G.2.1 2, 1, .inr (.inl FO))) :: wcb G A XS XF XL) ++ (wmo G B XS XF XL ZS ZF ++ [])) H) (hD : va_D (g_A G) (((oo, .inl (G.2.1 2, 1, .inr (.inl FO))) :: wcb G A XS XF XL) ++ (wmo G B XS XF XL ZS ZF ++ []))) (hS : va_S (g_A G) s.heap H locs) {ls : Array Slot} (hl : lv_has ls 8 [(4, .int (nI i)), (3, .ref oo), (2, .ref (B 0)), (1, .ref (A 0)), (0, .ref b)]) (kk : ∀ (FO' : Nat → Int64) (XS' : Nat → Int32) (XF' : Nat → Nat → Int32) (XL' : Nat → Int64) (ZS' : Nat → Int32) (ZF' : Nat → Nat → Int32) (H' : Heap) (locs' : List Loc) (ls' : Array Slot), INV XS' XF' ZF' → va_P G.1 g_cl (((oo, .inl (G.2.1 2, 1, .inr (.inl FO'))) :: wcb G A XS' XF' XL') ++ (wmo G B XS' XF' XL' ZS' ZF' ++ [])) H' → va_D (g_A G) (((oo, .inl (G.2.1 2, 1, .inr (.inl FO'))) :: wcb G A XS' XF' XL') ++ (wmo G B XS' XF' XL' ZS' ZF' ++ [])) → va_S (g_A G) s.heap H' locs' → lv_has ls' 8 [(4, .int (nI i)), (3, .ref oo), (2, .ref (B 0)), (1, .ref (A 0)), (0, .ref b)] → W p l e room_1 s m #[Value.ref b] below meth c H' locs' (cs + 1) (sl + 6) Q (F0 m 1559 ls' [])) : W p l e room_1 s m #[Value.ref b] below meth c H locs cs sl Q (F0 m 144 ls []) := by
  obtain ⟨hor, hta, hre, htf, hbi, hho, hgr, hle, hcl, hbd⟩ := id hI
  have hsize : ls.size = c.maxLocals := by rw [hml]; exact hl.1
  refine lv_aload_n hx hb d_La_law_144 rfl (lv_at hl 3 rfl) ?_
  refine lv_aload_n hx hb d_La_law_145 rfl (lv_at hl 4 rfl) ?_
  refine lv_iload hx hb d_La_law_146 (lv_at hl 0 rfl) ?_
  refine lv_iconst (v := 1) hx hb d_La_law_148 (by decide) ?_
  refine lv_iadd hx hb d_La_law_149 ?_
  have ha1 : vp_in ((nI i) + 1) L := by rw [show (1 : Int32) = nI 1 by decide +kernel, nI_add]; exact vp_in_nI (by omega) (by omega)
  refine va_sld hx hb hX hbl hbA hS ha1 d_La_law_150 ?_
  refine lv_aload_n hx hb d_La_law_151 rfl (lv_at hl 4 rfl) ?_
  refine lv_iload hx hb d_La_law_152 (lv_at hl 0 rfl) ?_
  refine lv_iconst (v := 2) hx hb d_La_law_154 (by decide) ?_
  refine lv_iadd hx hb d_La_law_155 ?_
  have ha2 : vp_in ((nI i) + 2) L := by rw [show (2 : Int32) = nI 2 by decide +kernel, nI_add]; exact vp_in_nI (by omega) (by omega)
  refine va_sld hx hb hX hbl hbA hS ha2 d_La_law_156 ?_
  refine lv_aload_n hx hb d_La_law_157 rfl (lv_at hl 4 rfl) ?_
  refine lv_iload hx hb d_La_law_158 (lv_at hl 0 rfl) ?_
  refine lv_iconst (v := 3) hx hb d_La_law_160 (by decide) ?_
  refine lv_iadd hx hb d_La_law_161 ?_
  have ha3 : vp_in ((nI i) + 3) L := by rw [show (3 : Int32) = nI 3 by decide +kernel, nI_add]; exact vp_in_nI (by omega) (by omega)
  refine va_sld hx hb hX hbl hbA hS ha3 d_La_law_162 ?_
  refine gx_call (ix_S (As := [.ref (A 0), .int (xs ((nI i) + 1).toNatClampNeg), .int (xs ((nI i) + 2).toNatClampNeg), .int (xs ((nI i) + 3).toNatClampNeg)]) (rest := []) hx hb hown (k_La_101 hC) (ks_La_budget hC) (kn_La hC) (mx_Is.with (args := #[]) (kc_La_budget hC)) kh_La_budget rfl kp_La_budget rfl d_La_law_163) (L_budget l hl0 G A XS XF XL oo FO (xs ((nI i) + 1).toNatClampNeg) (xs ((nI i) + 2).toNatClampNeg) (xs ((nI i) + 3).toNatClampNeg)) (kc_La_budget hC) rfl (mx_Is.with (args := #[]) (kc_La_budget hC)) (kn_La hC) hb hC hP hD hS (by decide) ⟨by show cs + 1 ≤ 1087; omega, by show sl + 6 ≤ 10306; omega⟩ hsize (Nat.le_of_ble_eq_true rfl) d_La_law_163 (fun v w' H locs hPo hP hD hS => ?_) (fun _ _ _ _ _ _ hPx => hPx.elim)
  obtain ⟨rfl, hn1, hn2⟩ := hPo
  obtain ⟨hT, hok, hbad⟩ := P_budget G B XS XF XL ZS ZF (xs ((nI i) + 1).toNatClampNeg) (xs ((nI i) + 2).toNatClampNeg) (xs ((nI i) + 3).toNatClampNeg) hI
  generalize hk : cod [eIA, eIO, eIS] (th_budget (xs ((nI i) + 1).toNatClampNeg) (xs ((nI i) + 2).toNatClampNeg) (xs ((nI i) + 3).toNatClampNeg) (XS 13) (((XF 2) (((xs ((nI i) + 1).toNatClampNeg) * 10) + (xs ((nI i) + 2).toNatClampNeg)).toNatClampNeg) + ((XF 3) (((xs ((nI i) + 1).toNatClampNeg) * 10) + (xs ((nI i) + 2).toNatClampNeg)).toNatClampNeg))) = k at hT ⊢
  refine W.eq (g2 := F0 m 166 ls [.int k]) rfl ?_
  refine lv_istore (lv' := [(5, .int k), (4, .int (nI i)), (3, .ref oo), (2, .ref (B 0)), (1, .ref (A 0)), (0, .ref b)]) hx hb d_La_law_166 hl (by decide) rfl (fun ls hl => ?_)
  have hsize : ls.size = c.maxLocals := by rw [hml]; exact hl.1
  refine lv_aload_n hx hb d_La_law_168 rfl (lv_at hl 3 rfl) ?_
  refine lv_aload_n hx hb d_La_law_169 rfl (lv_at hl 5 rfl) ?_
  refine lv_iload hx hb d_La_law_170 (lv_at hl 1 rfl) ?_
  refine lv_iconst (v := 1) hx hb d_La_law_172 (by decide) ?_
  refine lv_iadd hx hb d_La_law_173 ?_
  refine va_sld hx hb hX hbl hbA hS ha1 d_La_law_174 ?_
  refine lv_aload_n hx hb d_La_law_175 rfl (lv_at hl 5 rfl) ?_
  refine lv_iload hx hb d_La_law_176 (lv_at hl 1 rfl) ?_
  refine lv_iconst (v := 2) hx hb d_La_law_178 (by decide) ?_
  refine lv_iadd hx hb d_La_law_179 ?_
  refine va_sld hx hb hX hbl hbA hS ha2 d_La_law_180 ?_
  refine lv_aload_n hx hb d_La_law_181 rfl (lv_at hl 5 rfl) ?_
  refine lv_iload hx hb d_La_law_182 (lv_at hl 1 rfl) ?_
  refine lv_iconst (v := 3) hx hb d_La_law_184 (by decide) ?_
  refine lv_iadd hx hb d_La_law_185 ?_
  refine va_sld hx hb hX hbl hbA hS ha3 d_La_law_186 ?_
  obtain ⟨hP, hD⟩ := gl_swap hP hD
  refine gx_call (ix_V (As := [.int (xs ((nI i) + 1).toNatClampNeg), .int (xs ((nI i) + 2).toNatClampNeg), .int (xs ((nI i) + 3).toNatClampNeg)]) (rest := []) hx hb hown (k_La_106 hC) (ki_Mo_budget hC) (kv_Mo_budget hC) (mx_Is.code (args := #[]) (kc_Mo_budget hC)) kh_Mo_budget (va_recv hC.K hP (ci := 10) (q0 := 0) rfl rfl) rfl kp_Mo_budget rfl d_La_law_187) (M_budget l hl0 G B XS XF XL ZS ZF (xs ((nI i) + 1).toNatClampNeg) (xs ((nI i) + 2).toNatClampNeg) (xs ((nI i) + 3).toNatClampNeg)) (kc_Mo_budget hC) rfl (mx_Is.code (args := #[]) (kc_Mo_budget hC)) (kn_Mo hC) hb hC hP hD hS (by decide) ⟨by show cs + 1 + 0 ≤ 1087; omega, by show sl + 6 + 0 ≤ 10306; omega⟩ hsize (Nat.le_of_ble_eq_true rfl) d_La_law_187 (fun v w2 H locs hMo hP hD hS => ?_) (fun _ _ _ _ _ _ hPx => hPx.elim)
  rcases hMo with ⟨hT0, rfl, rfl⟩ | ⟨hT0, rfl, rfl⟩
  · have ht : th_budget (xs ((nI i) + 1).toNatClampNeg) (xs ((nI i) + 2).toNatClampNeg) (xs ((nI i) + 3).toNatClampNeg) (XS 13) (((XF 2) (((xs ((nI i) + 1).toNatClampNeg) * 10) + (xs ((nI i) + 2).toNatClampNeg)).toNatClampNeg) + ((XF 3) (((xs ((nI i) + 1).toNatClampNeg) * 10) + (xs ((nI i) + 2).toNatClampNeg)).toNatClampNeg)) = none := cod_none (hk.trans (hT.trans hT0)) (by decide)
    obtain rfl := hn1 ht
    obtain ⟨⟨hw, hI1⟩, hrv⟩ := hok ht
    rw [hw] at hP hD
    have hk0 : k = 0 := hT.trans hT0
    subst hk0
    refine W.eq (g2 := F0 m 190 ls []) rfl ?_
    refine lv_aload_n hx hb d_La_law_190 rfl (lv_at hl 3 rfl) ?_
    refine px_callN (ix_V (As := []) (rest := []) hx hb hown (k_La_107 hC) (ki_Mo_thrown hC) (kv_Mo_thrown hC) (mx_Is.code (args := #[]) (kc_Mo_thrown hC)) kh_Mo_thrown (va_recv hC.K hP (ci := 10) (q0 := 0) rfl rfl) rfl kp_Mo_thrown rfl d_La_law_191) (M_thrown l hl0 G B XS (uF XF 1 (upd (XF 1) (((xs ((nI i) + 1).toNatClampNeg) * 10) + (xs ((nI i) + 2).toNatClampNeg)).toNatClampNeg (xs ((nI i) + 3).toNatClampNeg))) XL (uS ZS 1 0) ZF) (kc_Mo_thrown hC) rfl (mx_Is.code (args := #[]) (kc_Mo_thrown hC)) (kn_Mo hC) hb hC (gl_leftP hP).1 (gl_leftD hD) hS (by decide) ⟨by show cs + 1 + 0 ≤ 1087; omega, by show sl + 6 + 0 ≤ 10306; omega⟩ hsize (Nat.le_of_ble_eq_true rfl) d_La_law_191 ?_
    refine W.eq (g2 := F0 m 194 ls [.int 0]) rfl ?_
    refine lv_iload hx hb d_La_law_194 (lv_at hl 0 rfl) ?_
    refine lv_icmp_eq (tgt := 201) hx hb d_La_law_196 (by decide) (fun _ => ?_) (fun c_196 => absurd c_196 (by decide))
    refine lv_goto (tgt := 1559) hx hb d_La_law_201 (by decide) ?_
    obtain ⟨hP, hD⟩ := gl_swap hP hD
    exact kk FO XS (uF XF 1 (upd (XF 1) (((xs ((nI i) + 1).toNatClampNeg) * 10) + (xs ((nI i) + 2).toNatClampNeg)).toNatClampNeg (xs ((nI i) + 3).toNatClampNeg))) XL (uS ZS 1 0) ZF _ _ ls hI1 hP hD hS (lv_sub hl [1, 2, 3, 4, 5] rfl)
  · have ht : ¬ th_budget (xs ((nI i) + 1).toNatClampNeg) (xs ((nI i) + 2).toNatClampNeg) (xs ((nI i) + 3).toNatClampNeg) (XS 13) (((XF 2) (((xs ((nI i) + 1).toNatClampNeg) * 10) + (xs ((nI i) + 2).toNatClampNeg)).toNatClampNeg) + ((XF 3) (((xs ((nI i) + 1).toNatClampNeg) * 10) + (xs ((nI i) + 2).toNatClampNeg)).toNatClampNeg)) = none := fun q => hT0 (by rw [← hT, ← hk, q]; rfl)
    obtain rfl := hn2 ht
    obtain ⟨hw, hI1⟩ := hbad ht
    rw [hw] at hP hD
    have hk0 : ¬ k = 0 := fun q => hT0 (hT.symm.trans q)
    refine W.eq (g2 := F0 m 190 ls []) rfl ?_
    refine lv_aload_n hx hb d_La_law_190 rfl (lv_at hl 3 rfl) ?_
    refine px_callN (ix_V (As := []) (rest := []) hx hb hown (k_La_107 hC) (ki_Mo_thrown hC) (kv_Mo_thrown hC) (mx_Is.code (args := #[]) (kc_Mo_thrown hC)) kh_Mo_thrown (va_recv hC.K hP (ci := 10) (q0 := 0) rfl rfl) rfl kp_Mo_thrown rfl d_La_law_191) (M_thrown l hl0 G B XS XF XL (uS ZS 1 ((if ¬ ((0 ≤ (xs ((nI i) + 1).toNatClampNeg) ∧ (xs ((nI i) + 1).toNatClampNeg) ≤ 4) ∧ (0 ≤ (xs ((nI i) + 2).toNatClampNeg) ∧ (xs ((nI i) + 2).toNatClampNeg) ≤ 9)) then 1 else (if ¬ (0 ≤ (xs ((nI i) + 3).toNatClampNeg) ∧ (xs ((nI i) + 3).toNatClampNeg) ≤ 100000000) then 2 else (if (¬ ((ZF 5) (xs ((nI i) + 1).toNatClampNeg).toNatClampNeg) = 0 ∨ ¬ (((XF 2) ((10 * (xs ((nI i) + 1).toNatClampNeg)) + (xs ((nI i) + 2).toNatClampNeg)).toNatClampNeg) + ((XF 3) ((10 * (xs ((nI i) + 1).toNatClampNeg)) + (xs ((nI i) + 2).toNatClampNeg)).toNatClampNeg)) ≤ (xs ((nI i) + 3).toNatClampNeg)) then 3 else 0))) : Int32)) ZF) (kc_Mo_thrown hC) rfl (mx_Is.code (args := #[]) (kc_Mo_thrown hC)) (kn_Mo hC) hb hC (gl_leftP hP).1 (gl_leftD hD) hS (by decide) ⟨by show cs + 1 + 0 ≤ 1087; omega, by show sl + 6 + 0 ≤ 10306; omega⟩ hsize (Nat.le_of_ble_eq_true rfl) d_La_law_191 ?_
    refine W.eq (g2 := F0 m 194 ls [.int ((if ¬ ((0 ≤ (xs ((nI i) + 1).toNatClampNeg) ∧ (xs ((nI i) + 1).toNatClampNeg) ≤ 4) ∧ (0 ≤ (xs ((nI i) + 2).toNatClampNeg) ∧ (xs ((nI i) + 2).toNatClampNeg) ≤ 9)) then 1 else (if ¬ (0 ≤ (xs ((nI i) + 3).toNatClampNeg) ∧ (xs ((nI i) + 3).toNatClampNeg) ≤ 100000000) then 2 else (if (¬ ((ZF 5) (xs ((nI i) + 1).toNatClampNeg).toNatClampNeg) = 0 ∨ ¬ (((XF 2) ((10 * (xs ((nI i) + 1).toNatClampNeg)) + (xs ((nI i) + 2).toNatClampNeg)).toNatClampNeg) + ((XF 3) ((10 * (xs ((nI i) + 1).toNatClampNeg)) + (xs ((nI i) + 2).toNatClampNeg)).toNatClampNeg)) ≤ (xs ((nI i) + 3).toNatClampNeg)) then 3 else 0))) : Int32)]) rfl ?_
    refine lv_iload hx hb d_La_law_194 (lv_at hl 0 rfl) ?_
    refine lv_icmp_eq (tgt := 201) hx hb d_La_law_196 (by decide) (fun c_196 => ?_) (fun c_196 => ?_)
    · refine lv_goto (tgt := 1559) hx hb d_La_law_201 (by decide) ?_
      obtain ⟨hP, hD⟩ := gl_swap hP hD
      exact kk FO XS XF XL (uS ZS 1 ((if ¬ ((0 ≤ (xs ((nI i) + 1).toNatClampNeg) ∧ (xs ((nI i) + 1).toNatClampNeg) ≤ 4) ∧ (0 ≤ (xs ((nI i) + 2).toNatClampNeg) ∧ (xs ((nI i) + 2).toNatClampNeg) ≤ 9)) then 1 else (if ¬ (0 ≤ (xs ((nI i) + 3).toNatClampNeg) ∧ (xs ((nI i) + 3).toNatClampNeg) ≤ 100000000) then 2 else (if (¬ ((ZF 5) (xs ((nI i) + 1).toNatClampNeg).toNatClampNeg) = 0 ∨ ¬ (((XF 2) ((10 * (xs ((nI i) + 1).toNatClampNeg)) + (xs ((nI i) + 2).toNatClampNeg)).toNatClampNeg) + ((XF 3) ((10 * (xs ((nI i) + 1).toNatClampNeg)) + (xs ((nI i) + 2).toNatClampNeg)).toNatClampNeg)) ≤ (xs ((nI i) + 3).toNatClampNeg)) then 3 else 0))) : Int32)) ZF _ _ ls hI1 hP hD hS (lv_sub hl [1, 2, 3, 4, 5] rfl)
    · exact absurd hT.symm c_196
set_option maxHeartbeats 4000000 in
set_option maxRecDepth 100000 in
theorem case_1 {p : Program} {l : Launch} {e : Env} {s : State} {m : MethodId} {below : List Frame} {meth : Method} {c : Code} (hl0 : l.stackTraces = false) {G : GG} (hC : g_C G s) (hx : p.tables.exec = Jvm.exec) (hb : c.code = code) (hml : c.maxLocals = 8) (hown : s.vm.findClass R_La = some m.cls) {b L : Nat} {xs : Nat → Int32} (hX : va_X b L xs s s.heap) (hbl : b < s.heap.size) (hbA : ¬ g_A G b) {Q : State → Prop} {A B : Nat → Nat} {oo : Nat} {XS : Nat → Int32} {XF : Nat → Nat → Int32} {XL : Nat → Int64} {ZS : Nat → Int32} {ZF : Nat → Nat → Int32} {FO : Nat → Int64} (hI : INV XS XF ZF) {i : Nat} (hi : i + 5 ≤ L) (hL : L ≤ 2560) {cs sl : Nat} (hcs : cs + 1 ≤ 1087) (hsl : sl + 6 ≤ 10306) {H : Heap} {locs : List Loc} (hP : va_P G.1 g_cl (((oo, .inl (G.2.1 2, 1, .inr (.inl FO))) :: wcb G A XS XF XL) ++ (wmo G B XS XF XL ZS ZF ++ [])) H) (hD : va_D (g_A G) (((oo, .inl (G.2.1 2, 1, .inr (.inl FO))) :: wcb G A XS XF XL) ++ (wmo G B XS XF XL ZS ZF ++ []))) (hS : va_S (g_A G) s.heap H locs) {ls : Array Slot} (hl : lv_has ls 8 [(4, .int (nI i)), (3, .ref oo), (2, .ref (B 0)), (1, .ref (A 0)), (0, .ref b)]) (kk : ∀ (FO' : Nat → Int64) (XS' : Nat → Int32) (XF' : Nat → Nat → Int32) (XL' : Nat → Int64) (ZS' : Nat → Int32) (ZF' : Nat → Nat → Int32) (H' : Heap) (locs' : List Loc) (ls' : Array Slot), INV XS' XF' ZF' → va_P G.1 g_cl (((oo, .inl (G.2.1 2, 1, .inr (.inl FO'))) :: wcb G A XS' XF' XL') ++ (wmo G B XS' XF' XL' ZS' ZF' ++ [])) H' → va_D (g_A G) (((oo, .inl (G.2.1 2, 1, .inr (.inl FO'))) :: wcb G A XS' XF' XL') ++ (wmo G B XS' XF' XL' ZS' ZF' ++ [])) → va_S (g_A G) s.heap H' locs' → lv_has ls' 8 [(4, .int (nI i)), (3, .ref oo), (2, .ref (B 0)), (1, .ref (A 0)), (0, .ref b)] → W p l e room_1 s m #[Value.ref b] below meth c H' locs' (cs + 1) (sl + 6) Q (F0 m 1559 ls' [])) : W p l e room_1 s m #[Value.ref b] below meth c H locs cs sl Q (F0 m 204 ls []) := by
  obtain ⟨hor, hta, hre, htf, hbi, hho, hgr, hle, hcl, hbd⟩ := id hI
  have hsize : ls.size = c.maxLocals := by rw [hml]; exact hl.1
  refine lv_aload_n hx hb d_La_law_204 rfl (lv_at hl 3 rfl) ?_
  refine lv_aload_n hx hb d_La_law_205 rfl (lv_at hl 4 rfl) ?_
  refine lv_iload hx hb d_La_law_206 (lv_at hl 0 rfl) ?_
  refine lv_iconst (v := 1) hx hb d_La_law_208 (by decide) ?_
  refine lv_iadd hx hb d_La_law_209 ?_
  have ha1 : vp_in ((nI i) + 1) L := by rw [show (1 : Int32) = nI 1 by decide +kernel, nI_add]; exact vp_in_nI (by omega) (by omega)
  refine va_sld hx hb hX hbl hbA hS ha1 d_La_law_210 ?_
  refine lv_aload_n hx hb d_La_law_211 rfl (lv_at hl 4 rfl) ?_
  refine lv_iload hx hb d_La_law_212 (lv_at hl 0 rfl) ?_
  refine lv_iconst (v := 2) hx hb d_La_law_214 (by decide) ?_
  refine lv_iadd hx hb d_La_law_215 ?_
  have ha2 : vp_in ((nI i) + 2) L := by rw [show (2 : Int32) = nI 2 by decide +kernel, nI_add]; exact vp_in_nI (by omega) (by omega)
  refine va_sld hx hb hX hbl hbA hS ha2 d_La_law_216 ?_
  refine lv_aload_n hx hb d_La_law_217 rfl (lv_at hl 4 rfl) ?_
  refine lv_iload hx hb d_La_law_218 (lv_at hl 0 rfl) ?_
  refine lv_iconst (v := 3) hx hb d_La_law_220 (by decide) ?_
  refine lv_iadd hx hb d_La_law_221 ?_
  have ha3 : vp_in ((nI i) + 3) L := by rw [show (3 : Int32) = nI 3 by decide +kernel, nI_add]; exact vp_in_nI (by omega) (by omega)
  refine va_sld hx hb hX hbl hbA hS ha3 d_La_law_222 ?_
  refine lv_aload_n hx hb d_La_law_223 rfl (lv_at hl 1 rfl) ?_
  refine gx_call (ix_S (As := [.ref (A 0), .int (xs ((nI i) + 1).toNatClampNeg), .int (xs ((nI i) + 2).toNatClampNeg), .int (xs ((nI i) + 3).toNatClampNeg), .ref oo]) (rest := []) hx hb hown (k_La_110 hC) (ks_La_budgetAt hC) (kn_La hC) (mx_Is.with (args := #[]) (kc_La_budgetAt hC)) kh_La_budgetAt rfl kp_La_budgetAt rfl d_La_law_224) (L_budgetAt l hl0 G A XS XF XL oo FO (xs ((nI i) + 1).toNatClampNeg) (xs ((nI i) + 2).toNatClampNeg) (xs ((nI i) + 3).toNatClampNeg)) (kc_La_budgetAt hC) rfl (mx_Is.with (args := #[]) (kc_La_budgetAt hC)) (kn_La hC) hb hC hP hD hS (by decide) ⟨by show cs + 1 ≤ 1087; omega, by show sl + 6 ≤ 10306; omega⟩ hsize (Nat.le_of_ble_eq_true rfl) d_La_law_224 (fun v w' H locs hPo hP hD hS => ?_) (fun _ _ _ _ _ _ hPx => hPx.elim)
  obtain ⟨rfl, hn1, hn2⟩ := hPo
  obtain ⟨hT, hok, hbad⟩ := P_budgetAt G B XS XF XL ZS ZF (xs ((nI i) + 1).toNatClampNeg) (xs ((nI i) + 2).toNatClampNeg) (xs ((nI i) + 3).toNatClampNeg) hI
  generalize hk : cod [eIA] (th_k3 (xs ((nI i) + 1).toNatClampNeg) 5 (xs ((nI i) + 2).toNatClampNeg) 10 (xs ((nI i) + 3).toNatClampNeg) 4) = k at hT ⊢
  refine W.eq (g2 := F0 m 227 ls [.int k]) rfl ?_
  refine lv_istore (lv' := [(5, .int k), (4, .int (nI i)), (3, .ref oo), (2, .ref (B 0)), (1, .ref (A 0)), (0, .ref b)]) hx hb d_La_law_227 hl (by decide) rfl (fun ls hl => ?_)
  have hsize : ls.size = c.maxLocals := by rw [hml]; exact hl.1
  refine lv_aload_n hx hb d_La_law_229 rfl (lv_at hl 3 rfl) ?_
  refine lv_aload_n hx hb d_La_law_230 rfl (lv_at hl 5 rfl) ?_
  refine lv_iload hx hb d_La_law_231 (lv_at hl 1 rfl) ?_
  refine lv_iconst (v := 1) hx hb d_La_law_233 (by decide) ?_
  refine lv_iadd hx hb d_La_law_234 ?_
  refine va_sld hx hb hX hbl hbA hS ha1 d_La_law_235 ?_
  refine lv_aload_n hx hb d_La_law_236 rfl (lv_at hl 5 rfl) ?_
  refine lv_iload hx hb d_La_law_237 (lv_at hl 1 rfl) ?_
  refine lv_iconst (v := 2) hx hb d_La_law_239 (by decide) ?_
  refine lv_iadd hx hb d_La_law_240 ?_
  refine va_sld hx hb hX hbl hbA hS ha2 d_La_law_241 ?_
  refine lv_aload_n hx hb d_La_law_242 rfl (lv_at hl 5 rfl) ?_
  refine lv_iload hx hb d_La_law_243 (lv_at hl 1 rfl) ?_
  refine lv_iconst (v := 3) hx hb d_La_law_245 (by decide) ?_
  refine lv_iadd hx hb d_La_law_246 ?_
  refine va_sld hx hb hX hbl hbA hS ha3 d_La_law_247 ?_
  obtain ⟨hP, hD⟩ := gl_swap hP hD
  refine gx_call (ix_V (As := [.int (xs ((nI i) + 1).toNatClampNeg), .int (xs ((nI i) + 2).toNatClampNeg), .int (xs ((nI i) + 3).toNatClampNeg)]) (rest := []) hx hb hown (k_La_113 hC) (ki_Mo_budgetAt hC) (kv_Mo_budgetAt hC) (mx_Is.code (args := #[]) (kc_Mo_budgetAt hC)) kh_Mo_budgetAt (va_recv hC.K hP (ci := 10) (q0 := 0) rfl rfl) rfl kp_Mo_budgetAt rfl d_La_law_248) (M_budgetAt l hl0 G B XS XF XL ZS ZF (xs ((nI i) + 1).toNatClampNeg) (xs ((nI i) + 2).toNatClampNeg) (xs ((nI i) + 3).toNatClampNeg)) (kc_Mo_budgetAt hC) rfl (mx_Is.code (args := #[]) (kc_Mo_budgetAt hC)) (kn_Mo hC) hb hC hP hD hS (by decide) ⟨by show cs + 1 + 0 ≤ 1087; omega, by show sl + 6 + 0 ≤ 10306; omega⟩ hsize (Nat.le_of_ble_eq_true rfl) d_La_law_248 (fun v w2 H locs hMo hP hD hS => ?_) (fun _ _ _ _ _ _ hPx => hPx.elim)
  rcases hMo with ⟨hT0, rfl, rfl⟩ | ⟨hT0, rfl, rfl⟩
  · have ht : th_k3 (xs ((nI i) + 1).toNatClampNeg) 5 (xs ((nI i) + 2).toNatClampNeg) 10 (xs ((nI i) + 3).toNatClampNeg) 4 = none := cod_none (hk.trans (hT.trans hT0)) (by decide)
    obtain rfl := hn1 ht
    obtain ⟨⟨hw, hI1⟩, hrv⟩ := hok ht
    rw [hw] at hP hD
    have hk0 : k = 0 := hT.trans hT0
    subst hk0
    refine W.eq (g2 := F0 m 251 ls [.int (if (xs ((nI i) + 3).toNatClampNeg) = 0 then ((XF 1) ((10 * (xs ((nI i) + 1).toNatClampNeg)) + (xs ((nI i) + 2).toNatClampNeg)).toNatClampNeg) else if (xs ((nI i) + 3).toNatClampNeg) = 1 then ((XF 2) ((10 * (xs ((nI i) + 1).toNatClampNeg)) + (xs ((nI i) + 2).toNatClampNeg)).toNatClampNeg) else if (xs ((nI i) + 3).toNatClampNeg) = 2 then ((XF 3) ((10 * (xs ((nI i) + 1).toNatClampNeg)) + (xs ((nI i) + 2).toNatClampNeg)).toNatClampNeg) else ((((XF 1) ((10 * (xs ((nI i) + 1).toNatClampNeg)) + (xs ((nI i) + 2).toNatClampNeg)).toNatClampNeg) - ((XF 2) ((10 * (xs ((nI i) + 1).toNatClampNeg)) + (xs ((nI i) + 2).toNatClampNeg)).toNatClampNeg)) - ((XF 3) ((10 * (xs ((nI i) + 1).toNatClampNeg)) + (xs ((nI i) + 2).toNatClampNeg)).toNatClampNeg)))]) rfl ?_
    refine lv_istore (lv' := [(6, .int (if (xs ((nI i) + 3).toNatClampNeg) = 0 then ((XF 1) ((10 * (xs ((nI i) + 1).toNatClampNeg)) + (xs ((nI i) + 2).toNatClampNeg)).toNatClampNeg) else if (xs ((nI i) + 3).toNatClampNeg) = 1 then ((XF 2) ((10 * (xs ((nI i) + 1).toNatClampNeg)) + (xs ((nI i) + 2).toNatClampNeg)).toNatClampNeg) else if (xs ((nI i) + 3).toNatClampNeg) = 2 then ((XF 3) ((10 * (xs ((nI i) + 1).toNatClampNeg)) + (xs ((nI i) + 2).toNatClampNeg)).toNatClampNeg) else ((((XF 1) ((10 * (xs ((nI i) + 1).toNatClampNeg)) + (xs ((nI i) + 2).toNatClampNeg)).toNatClampNeg) - ((XF 2) ((10 * (xs ((nI i) + 1).toNatClampNeg)) + (xs ((nI i) + 2).toNatClampNeg)).toNatClampNeg)) - ((XF 3) ((10 * (xs ((nI i) + 1).toNatClampNeg)) + (xs ((nI i) + 2).toNatClampNeg)).toNatClampNeg)))), (5, .int 0), (4, .int (nI i)), (3, .ref oo), (2, .ref (B 0)), (1, .ref (A 0)), (0, .ref b)]) hx hb d_La_law_251 hl (by decide) rfl (fun ls hl => ?_)
    have hsize : ls.size = c.maxLocals := by rw [hml]; exact hl.1
    refine lv_aload_n hx hb d_La_law_253 rfl (lv_at hl 4 rfl) ?_
    refine px_callN (ix_V (As := []) (rest := []) hx hb hown (k_La_107 hC) (ki_Mo_thrown hC) (kv_Mo_thrown hC) (mx_Is.code (args := #[]) (kc_Mo_thrown hC)) kh_Mo_thrown (va_recv hC.K hP (ci := 10) (q0 := 0) rfl rfl) rfl kp_Mo_thrown rfl d_La_law_254) (M_thrown l hl0 G B XS XF XL (uS ZS 1 0) ZF) (kc_Mo_thrown hC) rfl (mx_Is.code (args := #[]) (kc_Mo_thrown hC)) (kn_Mo hC) hb hC (gl_leftP hP).1 (gl_leftD hD) hS (by decide) ⟨by show cs + 1 + 0 ≤ 1087; omega, by show sl + 6 + 0 ≤ 10306; omega⟩ hsize (Nat.le_of_ble_eq_true rfl) d_La_law_254 ?_
    refine W.eq (g2 := F0 m 257 ls [.int 0]) rfl ?_
    refine lv_iload hx hb d_La_law_257 (lv_at hl 1 rfl) ?_
    refine lv_icmp_eq (tgt := 264) hx hb d_La_law_259 (by decide) (fun _ => ?_) (fun c_259 => absurd c_259 (by decide))
    refine lv_iload hx hb d_La_law_264 (lv_at hl 1 rfl) ?_
    refine lv_if_ne (tgt := 281) hx hb d_La_law_266 (by decide) (fun c_266 => absurd c_266 (by decide)) (fun _ => ?_)
    refine lv_aload_n hx hb d_La_law_269 rfl (lv_at hl 3 rfl) ?_
    refine lv_iconst (v := 0) hx hb d_La_law_270 (by decide) ?_
    refine va_lald hx hb hC.K hP 23 2 rfl rfl (vp_in_nI (n := 0) (by decide) (by decide)) d_La_law_271 ?_
    refine lv_iload hx hb d_La_law_272 (lv_at hl 0 rfl) ?_
    refine lv_i2l hx hb d_La_law_274 rfl ?_
    refine W.lcmp hx hb d_La_law_275 ?_
    refine lv_if_eq (tgt := 281) hx hb d_La_law_276 (by decide) (fun c_276 => ?_) (fun c_276 => ?_)
    · rw [lg_cmp_eq] at c_276
      refine lv_goto (tgt := 1559) hx hb d_La_law_281 (by decide) ?_
      obtain ⟨hP, hD⟩ := gl_swap hP hD
      exact kk (vp_updL FO (0 : Int32).toNatClampNeg ((at_budget ((XF 1) (((xs ((nI i) + 1).toNatClampNeg) * 10) + (xs ((nI i) + 2).toNatClampNeg)).toNatClampNeg) ((XF 2) (((xs ((nI i) + 1).toNatClampNeg) * 10) + (xs ((nI i) + 2).toNatClampNeg)).toNatClampNeg) ((XF 3) (((xs ((nI i) + 1).toNatClampNeg) * 10) + (xs ((nI i) + 2).toNatClampNeg)).toNatClampNeg) (xs ((nI i) + 3).toNatClampNeg)).toInt64)) XS XF XL (uS ZS 1 0) ZF _ _ ls hI1 hP hD hS (lv_sub hl [2, 3, 4, 5, 6] rfl)
    · rw [lg_cmp_eq] at c_276; exact absurd (by rw [pk_uLs, hrv]) c_276
  · have ht : ¬ th_k3 (xs ((nI i) + 1).toNatClampNeg) 5 (xs ((nI i) + 2).toNatClampNeg) 10 (xs ((nI i) + 3).toNatClampNeg) 4 = none := fun q => hT0 (by rw [← hT, ← hk, q]; rfl)
    obtain rfl := hn2 ht
    obtain ⟨hw, hI1⟩ := hbad ht
    rw [hw] at hP hD
    have hk0 : ¬ k = 0 := fun q => hT0 (hT.symm.trans q)
    refine W.eq (g2 := F0 m 251 ls [.int 0]) rfl ?_
    refine lv_istore (lv' := [(6, .int 0), (5, .int k), (4, .int (nI i)), (3, .ref oo), (2, .ref (B 0)), (1, .ref (A 0)), (0, .ref b)]) hx hb d_La_law_251 hl (by decide) rfl (fun ls hl => ?_)
    have hsize : ls.size = c.maxLocals := by rw [hml]; exact hl.1
    refine lv_aload_n hx hb d_La_law_253 rfl (lv_at hl 4 rfl) ?_
    refine px_callN (ix_V (As := []) (rest := []) hx hb hown (k_La_107 hC) (ki_Mo_thrown hC) (kv_Mo_thrown hC) (mx_Is.code (args := #[]) (kc_Mo_thrown hC)) kh_Mo_thrown (va_recv hC.K hP (ci := 10) (q0 := 0) rfl rfl) rfl kp_Mo_thrown rfl d_La_law_254) (M_thrown l hl0 G B XS XF XL (uS ZS 1 ((if (¬ ((0 ≤ (xs ((nI i) + 1).toNatClampNeg) ∧ (xs ((nI i) + 1).toNatClampNeg) ≤ 4) ∧ (0 ≤ (xs ((nI i) + 2).toNatClampNeg) ∧ (xs ((nI i) + 2).toNatClampNeg) ≤ 9)) ∨ ¬ (0 ≤ (xs ((nI i) + 3).toNatClampNeg) ∧ (xs ((nI i) + 3).toNatClampNeg) ≤ 3)) then 1 else 0) : Int32)) ZF) (kc_Mo_thrown hC) rfl (mx_Is.code (args := #[]) (kc_Mo_thrown hC)) (kn_Mo hC) hb hC (gl_leftP hP).1 (gl_leftD hD) hS (by decide) ⟨by show cs + 1 + 0 ≤ 1087; omega, by show sl + 6 + 0 ≤ 10306; omega⟩ hsize (Nat.le_of_ble_eq_true rfl) d_La_law_254 ?_
    refine W.eq (g2 := F0 m 257 ls [.int ((if (¬ ((0 ≤ (xs ((nI i) + 1).toNatClampNeg) ∧ (xs ((nI i) + 1).toNatClampNeg) ≤ 4) ∧ (0 ≤ (xs ((nI i) + 2).toNatClampNeg) ∧ (xs ((nI i) + 2).toNatClampNeg) ≤ 9)) ∨ ¬ (0 ≤ (xs ((nI i) + 3).toNatClampNeg) ∧ (xs ((nI i) + 3).toNatClampNeg) ≤ 3)) then 1 else 0) : Int32)]) rfl ?_
    refine lv_iload hx hb d_La_law_257 (lv_at hl 1 rfl) ?_
    refine lv_icmp_eq (tgt := 264) hx hb d_La_law_259 (by decide) (fun c_259 => ?_) (fun c_259 => ?_)
    · refine lv_iload hx hb d_La_law_264 (lv_at hl 1 rfl) ?_
      refine lv_if_ne (tgt := 281) hx hb d_La_law_266 (by decide) (fun c_266 => ?_) (fun c_266 => ?_)
      · refine lv_goto (tgt := 1559) hx hb d_La_law_281 (by decide) ?_
        obtain ⟨hP, hD⟩ := gl_swap hP hD
        exact kk FO XS XF XL (uS ZS 1 ((if (¬ ((0 ≤ (xs ((nI i) + 1).toNatClampNeg) ∧ (xs ((nI i) + 1).toNatClampNeg) ≤ 4) ∧ (0 ≤ (xs ((nI i) + 2).toNatClampNeg) ∧ (xs ((nI i) + 2).toNatClampNeg) ≤ 9)) ∨ ¬ (0 ≤ (xs ((nI i) + 3).toNatClampNeg) ∧ (xs ((nI i) + 3).toNatClampNeg) ≤ 3)) then 1 else 0) : Int32)) ZF _ _ ls hI1 hP hD hS (lv_sub hl [2, 3, 4, 5, 6] rfl)
      · exact absurd c_266 hk0
    · exact absurd hT.symm c_259
set_option maxHeartbeats 4000000 in
set_option maxRecDepth 100000 in
theorem case_2 {p : Program} {l : Launch} {e : Env} {s : State} {m : MethodId} {below : List Frame} {meth : Method} {c : Code} (hl0 : l.stackTraces = false) {G : GG} (hC : g_C G s) (hx : p.tables.exec = Jvm.exec) (hb : c.code = code) (hml : c.maxLocals = 8) (hown : s.vm.findClass R_La = some m.cls) {b L : Nat} {xs : Nat → Int32} (hX : va_X b L xs s s.heap) (hbl : b < s.heap.size) (hbA : ¬ g_A G b) {Q : State → Prop} {A B : Nat → Nat} {oo : Nat} {XS : Nat → Int32} {XF : Nat → Nat → Int32} {XL : Nat → Int64} {ZS : Nat → Int32} {ZF : Nat → Nat → Int32} {FO : Nat → Int64} (hI : INV XS XF ZF) {i : Nat} (hi : i + 5 ≤ L) (hL : L ≤ 2560) {cs sl : Nat} (hcs : cs + 1 ≤ 1087) (hsl : sl + 6 ≤ 10306) {H : Heap} {locs : List Loc} (hP : va_P G.1 g_cl (((oo, .inl (G.2.1 2, 1, .inr (.inl FO))) :: wcb G A XS XF XL) ++ (wmo G B XS XF XL ZS ZF ++ [])) H) (hD : va_D (g_A G) (((oo, .inl (G.2.1 2, 1, .inr (.inl FO))) :: wcb G A XS XF XL) ++ (wmo G B XS XF XL ZS ZF ++ []))) (hS : va_S (g_A G) s.heap H locs) {ls : Array Slot} (hl : lv_has ls 8 [(4, .int (nI i)), (3, .ref oo), (2, .ref (B 0)), (1, .ref (A 0)), (0, .ref b)]) (kk : ∀ (FO' : Nat → Int64) (XS' : Nat → Int32) (XF' : Nat → Nat → Int32) (XL' : Nat → Int64) (ZS' : Nat → Int32) (ZF' : Nat → Nat → Int32) (H' : Heap) (locs' : List Loc) (ls' : Array Slot), INV XS' XF' ZF' → va_P G.1 g_cl (((oo, .inl (G.2.1 2, 1, .inr (.inl FO'))) :: wcb G A XS' XF' XL') ++ (wmo G B XS' XF' XL' ZS' ZF' ++ [])) H' → va_D (g_A G) (((oo, .inl (G.2.1 2, 1, .inr (.inl FO'))) :: wcb G A XS' XF' XL') ++ (wmo G B XS' XF' XL' ZS' ZF' ++ [])) → va_S (g_A G) s.heap H' locs' → lv_has ls' 8 [(4, .int (nI i)), (3, .ref oo), (2, .ref (B 0)), (1, .ref (A 0)), (0, .ref b)] → W p l e room_1 s m #[Value.ref b] below meth c H' locs' (cs + 1) (sl + 6) Q (F0 m 1559 ls' [])) : W p l e room_1 s m #[Value.ref b] below meth c H locs cs sl Q (F0 m 284 ls []) := by
  obtain ⟨hor, hta, hre, htf, hbi, hho, hgr, hle, hcl, hbd⟩ := id hI
  have hsize : ls.size = c.maxLocals := by rw [hml]; exact hl.1
  refine lv_aload_n hx hb d_La_law_284 rfl (lv_at hl 3 rfl) ?_
  refine lv_aload_n hx hb d_La_law_285 rfl (lv_at hl 4 rfl) ?_
  refine lv_iload hx hb d_La_law_286 (lv_at hl 0 rfl) ?_
  refine lv_iconst (v := 1) hx hb d_La_law_288 (by decide) ?_
  refine lv_iadd hx hb d_La_law_289 ?_
  have ha1 : vp_in ((nI i) + 1) L := by rw [show (1 : Int32) = nI 1 by decide +kernel, nI_add]; exact vp_in_nI (by omega) (by omega)
  refine va_sld hx hb hX hbl hbA hS ha1 d_La_law_290 ?_
  refine gx_call (ix_S (As := [.ref (A 0), .int (xs ((nI i) + 1).toNatClampNeg)]) (rest := []) hx hb hown (k_La_114 hC) (ks_La_band hC) (kn_La hC) (mx_Is.with (args := #[]) (kc_La_band hC)) kh_La_band rfl kp_La_band rfl d_La_law_291) (L_band l hl0 G A XS XF XL oo FO (xs ((nI i) + 1).toNatClampNeg)) (kc_La_band hC) rfl (mx_Is.with (args := #[]) (kc_La_band hC)) (kn_La hC) hb hC hP hD hS (by decide) ⟨by show cs + 1 ≤ 1087; omega, by show sl + 6 ≤ 10306; omega⟩ hsize (Nat.le_of_ble_eq_true rfl) d_La_law_291 (fun v w' H locs hPo hP hD hS => ?_) (fun _ _ _ _ _ _ hPx => hPx.elim)
  obtain ⟨rfl, hn1, hn2⟩ := hPo
  obtain ⟨hT, hok, hbad⟩ := P_band G B XS XF XL ZS ZF (xs ((nI i) + 1).toNatClampNeg) hI
  generalize hk : cod [eIO] (ck_range (xs ((nI i) + 1).toNatClampNeg) 0 1000) = k at hT ⊢
  refine W.eq (g2 := F0 m 294 ls [.int k]) rfl ?_
  refine lv_istore (lv' := [(5, .int k), (4, .int (nI i)), (3, .ref oo), (2, .ref (B 0)), (1, .ref (A 0)), (0, .ref b)]) hx hb d_La_law_294 hl (by decide) rfl (fun ls hl => ?_)
  have hsize : ls.size = c.maxLocals := by rw [hml]; exact hl.1
  refine lv_aload_n hx hb d_La_law_296 rfl (lv_at hl 3 rfl) ?_
  refine lv_aload_n hx hb d_La_law_297 rfl (lv_at hl 5 rfl) ?_
  refine lv_iload hx hb d_La_law_298 (lv_at hl 1 rfl) ?_
  refine lv_iconst (v := 1) hx hb d_La_law_300 (by decide) ?_
  refine lv_iadd hx hb d_La_law_301 ?_
  refine va_sld hx hb hX hbl hbA hS ha1 d_La_law_302 ?_
  obtain ⟨hP, hD⟩ := gl_swap hP hD
  refine gx_call (ix_V (As := [.int (xs ((nI i) + 1).toNatClampNeg)]) (rest := []) hx hb hown (k_La_117 hC) (ki_Mo_band hC) (kv_Mo_band hC) (mx_Is.code (args := #[]) (kc_Mo_band hC)) kh_Mo_band (va_recv hC.K hP (ci := 10) (q0 := 0) rfl rfl) rfl kp_Mo_band rfl d_La_law_303) (M_band l hl0 G B XS XF XL ZS ZF (xs ((nI i) + 1).toNatClampNeg)) (kc_Mo_band hC) rfl (mx_Is.code (args := #[]) (kc_Mo_band hC)) (kn_Mo hC) hb hC hP hD hS (by decide) ⟨by show cs + 1 + 0 ≤ 1087; omega, by show sl + 6 + 0 ≤ 10306; omega⟩ hsize (Nat.le_of_ble_eq_true rfl) d_La_law_303 (fun v w2 H locs hMo hP hD hS => ?_) (fun _ _ _ _ _ _ hPx => hPx.elim)
  rcases hMo with ⟨hT0, rfl, rfl⟩ | ⟨hT0, rfl, rfl⟩
  · have ht : ck_range (xs ((nI i) + 1).toNatClampNeg) 0 1000 = none := cod_none (hk.trans (hT.trans hT0)) (by decide)
    obtain rfl := hn1 ht
    obtain ⟨⟨hw, hI1⟩, hrv⟩ := hok ht
    rw [hw] at hP hD
    have hk0 : k = 0 := hT.trans hT0
    subst hk0
    refine W.eq (g2 := F0 m 306 ls []) rfl ?_
    refine lv_aload_n hx hb d_La_law_306 rfl (lv_at hl 3 rfl) ?_
    refine px_callN (ix_V (As := []) (rest := []) hx hb hown (k_La_107 hC) (ki_Mo_thrown hC) (kv_Mo_thrown hC) (mx_Is.code (args := #[]) (kc_Mo_thrown hC)) kh_Mo_thrown (va_recv hC.K hP (ci := 10) (q0 := 0) rfl rfl) rfl kp_Mo_thrown rfl d_La_law_307) (M_thrown l hl0 G B (uS XS 11 (xs ((nI i) + 1).toNatClampNeg)) XF XL (uS ZS 1 0) ZF) (kc_Mo_thrown hC) rfl (mx_Is.code (args := #[]) (kc_Mo_thrown hC)) (kn_Mo hC) hb hC (gl_leftP hP).1 (gl_leftD hD) hS (by decide) ⟨by show cs + 1 + 0 ≤ 1087; omega, by show sl + 6 + 0 ≤ 10306; omega⟩ hsize (Nat.le_of_ble_eq_true rfl) d_La_law_307 ?_
    refine W.eq (g2 := F0 m 310 ls [.int 0]) rfl ?_
    refine lv_iload hx hb d_La_law_310 (lv_at hl 0 rfl) ?_
    refine lv_icmp_eq (tgt := 317) hx hb d_La_law_312 (by decide) (fun _ => ?_) (fun c_312 => absurd c_312 (by decide))
    refine lv_goto (tgt := 1559) hx hb d_La_law_317 (by decide) ?_
    obtain ⟨hP, hD⟩ := gl_swap hP hD
    exact kk FO (uS XS 11 (xs ((nI i) + 1).toNatClampNeg)) XF XL (uS ZS 1 0) ZF _ _ ls hI1 hP hD hS (lv_sub hl [1, 2, 3, 4, 5] rfl)
  · have ht : ¬ ck_range (xs ((nI i) + 1).toNatClampNeg) 0 1000 = none := fun q => hT0 (by rw [← hT, ← hk, q]; rfl)
    obtain rfl := hn2 ht
    obtain ⟨hw, hI1⟩ := hbad ht
    rw [hw] at hP hD
    have hk0 : ¬ k = 0 := fun q => hT0 (hT.symm.trans q)
    refine W.eq (g2 := F0 m 306 ls []) rfl ?_
    refine lv_aload_n hx hb d_La_law_306 rfl (lv_at hl 3 rfl) ?_
    refine px_callN (ix_V (As := []) (rest := []) hx hb hown (k_La_107 hC) (ki_Mo_thrown hC) (kv_Mo_thrown hC) (mx_Is.code (args := #[]) (kc_Mo_thrown hC)) kh_Mo_thrown (va_recv hC.K hP (ci := 10) (q0 := 0) rfl rfl) rfl kp_Mo_thrown rfl d_La_law_307) (M_thrown l hl0 G B XS XF XL (uS ZS 1 ((if ¬ (0 ≤ (xs ((nI i) + 1).toNatClampNeg) ∧ (xs ((nI i) + 1).toNatClampNeg) ≤ 1000) then 1 else 0) : Int32)) ZF) (kc_Mo_thrown hC) rfl (mx_Is.code (args := #[]) (kc_Mo_thrown hC)) (kn_Mo hC) hb hC (gl_leftP hP).1 (gl_leftD hD) hS (by decide) ⟨by show cs + 1 + 0 ≤ 1087; omega, by show sl + 6 + 0 ≤ 10306; omega⟩ hsize (Nat.le_of_ble_eq_true rfl) d_La_law_307 ?_
    refine W.eq (g2 := F0 m 310 ls [.int ((if ¬ (0 ≤ (xs ((nI i) + 1).toNatClampNeg) ∧ (xs ((nI i) + 1).toNatClampNeg) ≤ 1000) then 1 else 0) : Int32)]) rfl ?_
    refine lv_iload hx hb d_La_law_310 (lv_at hl 0 rfl) ?_
    refine lv_icmp_eq (tgt := 317) hx hb d_La_law_312 (by decide) (fun c_312 => ?_) (fun c_312 => ?_)
    · refine lv_goto (tgt := 1559) hx hb d_La_law_317 (by decide) ?_
      obtain ⟨hP, hD⟩ := gl_swap hP hD
      exact kk FO XS XF XL (uS ZS 1 ((if ¬ (0 ≤ (xs ((nI i) + 1).toNatClampNeg) ∧ (xs ((nI i) + 1).toNatClampNeg) ≤ 1000) then 1 else 0) : Int32)) ZF _ _ ls hI1 hP hD hS (lv_sub hl [1, 2, 3, 4, 5] rfl)
    · exact absurd hT.symm c_312
set_option maxHeartbeats 4000000 in
set_option maxRecDepth 100000 in
theorem case_3 {p : Program} {l : Launch} {e : Env} {s : State} {m : MethodId} {below : List Frame} {meth : Method} {c : Code} (hl0 : l.stackTraces = false) {G : GG} (hC : g_C G s) (hx : p.tables.exec = Jvm.exec) (hb : c.code = code) (hml : c.maxLocals = 8) (hown : s.vm.findClass R_La = some m.cls) {b L : Nat} {xs : Nat → Int32} (hX : va_X b L xs s s.heap) (hbl : b < s.heap.size) (hbA : ¬ g_A G b) {Q : State → Prop} {A B : Nat → Nat} {oo : Nat} {XS : Nat → Int32} {XF : Nat → Nat → Int32} {XL : Nat → Int64} {ZS : Nat → Int32} {ZF : Nat → Nat → Int32} {FO : Nat → Int64} (hI : INV XS XF ZF) {i : Nat} (hi : i + 5 ≤ L) (hL : L ≤ 2560) {cs sl : Nat} (hcs : cs + 1 ≤ 1087) (hsl : sl + 6 ≤ 10306) {H : Heap} {locs : List Loc} (hP : va_P G.1 g_cl (((oo, .inl (G.2.1 2, 1, .inr (.inl FO))) :: wcb G A XS XF XL) ++ (wmo G B XS XF XL ZS ZF ++ [])) H) (hD : va_D (g_A G) (((oo, .inl (G.2.1 2, 1, .inr (.inl FO))) :: wcb G A XS XF XL) ++ (wmo G B XS XF XL ZS ZF ++ []))) (hS : va_S (g_A G) s.heap H locs) {ls : Array Slot} (hl : lv_has ls 8 [(4, .int (nI i)), (3, .ref oo), (2, .ref (B 0)), (1, .ref (A 0)), (0, .ref b)]) (kk : ∀ (FO' : Nat → Int64) (XS' : Nat → Int32) (XF' : Nat → Nat → Int32) (XL' : Nat → Int64) (ZS' : Nat → Int32) (ZF' : Nat → Nat → Int32) (H' : Heap) (locs' : List Loc) (ls' : Array Slot), INV XS' XF' ZF' → va_P G.1 g_cl (((oo, .inl (G.2.1 2, 1, .inr (.inl FO'))) :: wcb G A XS' XF' XL') ++ (wmo G B XS' XF' XL' ZS' ZF' ++ [])) H' → va_D (g_A G) (((oo, .inl (G.2.1 2, 1, .inr (.inl FO'))) :: wcb G A XS' XF' XL') ++ (wmo G B XS' XF' XL' ZS' ZF' ++ [])) → va_S (g_A G) s.heap H' locs' → lv_has ls' 8 [(4, .int (nI i)), (3, .ref oo), (2, .ref (B 0)), (1, .ref (A 0)), (0, .ref b)] → W p l e room_1 s m #[Value.ref b] below meth c H' locs' (cs + 1) (sl + 6) Q (F0 m 1559 ls' [])) : W p l e room_1 s m #[Value.ref b] below meth c H locs cs sl Q (F0 m 320 ls []) := by
  obtain ⟨hor, hta, hre, htf, hbi, hho, hgr, hle, hcl, hbd⟩ := id hI
  have hsize : ls.size = c.maxLocals := by rw [hml]; exact hl.1
  refine lv_aload_n hx hb d_La_law_320 rfl (lv_at hl 3 rfl) ?_
  refine lv_aload_n hx hb d_La_law_321 rfl (lv_at hl 4 rfl) ?_
  refine lv_iload hx hb d_La_law_322 (lv_at hl 0 rfl) ?_
  refine lv_iconst (v := 1) hx hb d_La_law_324 (by decide) ?_
  refine lv_iadd hx hb d_La_law_325 ?_
  have ha1 : vp_in ((nI i) + 1) L := by rw [show (1 : Int32) = nI 1 by decide +kernel, nI_add]; exact vp_in_nI (by omega) (by omega)
  refine va_sld hx hb hX hbl hbA hS ha1 d_La_law_326 ?_
  refine lv_aload_n hx hb d_La_law_327 rfl (lv_at hl 4 rfl) ?_
  refine lv_iload hx hb d_La_law_328 (lv_at hl 0 rfl) ?_
  refine lv_iconst (v := 2) hx hb d_La_law_330 (by decide) ?_
  refine lv_iadd hx hb d_La_law_331 ?_
  have ha2 : vp_in ((nI i) + 2) L := by rw [show (2 : Int32) = nI 2 by decide +kernel, nI_add]; exact vp_in_nI (by omega) (by omega)
  refine va_sld hx hb hX hbl hbA hS ha2 d_La_law_332 ?_
  refine lv_aload_n hx hb d_La_law_333 rfl (lv_at hl 4 rfl) ?_
  refine lv_iload hx hb d_La_law_334 (lv_at hl 0 rfl) ?_
  refine lv_iconst (v := 3) hx hb d_La_law_336 (by decide) ?_
  refine lv_iadd hx hb d_La_law_337 ?_
  have ha3 : vp_in ((nI i) + 3) L := by rw [show (3 : Int32) = nI 3 by decide +kernel, nI_add]; exact vp_in_nI (by omega) (by omega)
  refine va_sld hx hb hX hbl hbA hS ha3 d_La_law_338 ?_
  refine lv_aload_n hx hb d_La_law_339 rfl (lv_at hl 1 rfl) ?_
  refine gx_call (ix_S (As := [.ref (A 0), .int (xs ((nI i) + 1).toNatClampNeg), .int (xs ((nI i) + 2).toNatClampNeg), .int (xs ((nI i) + 3).toNatClampNeg), .ref oo]) (rest := []) hx hb hown (k_La_118 hC) (ks_La_order hC) (kn_La hC) (mx_Is.with (args := #[]) (kc_La_order hC)) kh_La_order rfl kp_La_order rfl d_La_law_340) (L_order l hl0 G A XS XF XL oo FO (xs ((nI i) + 1).toNatClampNeg) (xs ((nI i) + 2).toNatClampNeg) (xs ((nI i) + 3).toNatClampNeg) (in_nn hor.1)) (kc_La_order hC) rfl (mx_Is.with (args := #[]) (kc_La_order hC)) (kn_La hC) hb hC hP hD hS (by decide) ⟨by show cs + 1 ≤ 1087; omega, by show sl + 6 ≤ 10306; omega⟩ hsize (Nat.le_of_ble_eq_true rfl) d_La_law_340 (fun v w' H locs hPo hP hD hS => ?_) (fun _ _ _ _ _ _ hPx => hPx.elim)
  obtain ⟨rfl, hn1, hn2⟩ := hPo
  obtain ⟨hT, hok, hbad⟩ := P_order G B XS XF XL ZS ZF (xs ((nI i) + 1).toNatClampNeg) (xs ((nI i) + 2).toNatClampNeg) (xs ((nI i) + 3).toNatClampNeg) hI
  generalize hk : cod [eIA, eIO, eIS, eUO] (th_order (xs ((nI i) + 1).toNatClampNeg) (xs ((nI i) + 2).toNatClampNeg) (xs ((nI i) + 3).toNatClampNeg) (XS 13) (((XF 1) (((xs ((nI i) + 1).toNatClampNeg) * 10) + (xs ((nI i) + 2).toNatClampNeg)).toNatClampNeg) - (((XF 2) (((xs ((nI i) + 1).toNatClampNeg) * 10) + (xs ((nI i) + 2).toNatClampNeg)).toNatClampNeg) + ((XF 3) (((xs ((nI i) + 1).toNatClampNeg) * 10) + (xs ((nI i) + 2).toNatClampNeg)).toNatClampNeg))) (XS 1)) = k at hT ⊢
  refine W.eq (g2 := F0 m 343 ls [.int k]) rfl ?_
  refine lv_istore (lv' := [(5, .int k), (4, .int (nI i)), (3, .ref oo), (2, .ref (B 0)), (1, .ref (A 0)), (0, .ref b)]) hx hb d_La_law_343 hl (by decide) rfl (fun ls hl => ?_)
  have hsize : ls.size = c.maxLocals := by rw [hml]; exact hl.1
  refine lv_aload_n hx hb d_La_law_345 rfl (lv_at hl 3 rfl) ?_
  refine lv_aload_n hx hb d_La_law_346 rfl (lv_at hl 5 rfl) ?_
  refine lv_iload hx hb d_La_law_347 (lv_at hl 1 rfl) ?_
  refine lv_iconst (v := 1) hx hb d_La_law_349 (by decide) ?_
  refine lv_iadd hx hb d_La_law_350 ?_
  refine va_sld hx hb hX hbl hbA hS ha1 d_La_law_351 ?_
  refine lv_aload_n hx hb d_La_law_352 rfl (lv_at hl 5 rfl) ?_
  refine lv_iload hx hb d_La_law_353 (lv_at hl 1 rfl) ?_
  refine lv_iconst (v := 2) hx hb d_La_law_355 (by decide) ?_
  refine lv_iadd hx hb d_La_law_356 ?_
  refine va_sld hx hb hX hbl hbA hS ha2 d_La_law_357 ?_
  refine lv_aload_n hx hb d_La_law_358 rfl (lv_at hl 5 rfl) ?_
  refine lv_iload hx hb d_La_law_359 (lv_at hl 1 rfl) ?_
  refine lv_iconst (v := 3) hx hb d_La_law_361 (by decide) ?_
  refine lv_iadd hx hb d_La_law_362 ?_
  refine va_sld hx hb hX hbl hbA hS ha3 d_La_law_363 ?_
  obtain ⟨hP, hD⟩ := gl_swap hP hD
  refine gx_call (ix_V (As := [.int (xs ((nI i) + 1).toNatClampNeg), .int (xs ((nI i) + 2).toNatClampNeg), .int (xs ((nI i) + 3).toNatClampNeg)]) (rest := []) hx hb hown (k_La_120 hC) (ki_Mo_order hC) (kv_Mo_order hC) (mx_Is.code (args := #[]) (kc_Mo_order hC)) kh_Mo_order (va_recv hC.K hP (ci := 10) (q0 := 0) rfl rfl) rfl kp_Mo_order rfl d_La_law_364) (M_order l hl0 G B XS XF XL ZS ZF (xs ((nI i) + 1).toNatClampNeg) (xs ((nI i) + 2).toNatClampNeg) (xs ((nI i) + 3).toNatClampNeg) hor.1) (kc_Mo_order hC) rfl (mx_Is.code (args := #[]) (kc_Mo_order hC)) (kn_Mo hC) hb hC hP hD hS (by decide) ⟨by show cs + 1 + 0 ≤ 1087; omega, by show sl + 6 + 0 ≤ 10306; omega⟩ hsize (Nat.le_of_ble_eq_true rfl) d_La_law_364 (fun v w2 H locs hMo hP hD hS => ?_) (fun _ _ _ _ _ _ hPx => hPx.elim)
  rcases hMo with ⟨hT0, rfl, rfl⟩ | ⟨hT0, rfl, rfl⟩
  · have ht : th_order (xs ((nI i) + 1).toNatClampNeg) (xs ((nI i) + 2).toNatClampNeg) (xs ((nI i) + 3).toNatClampNeg) (XS 13) (((XF 1) (((xs ((nI i) + 1).toNatClampNeg) * 10) + (xs ((nI i) + 2).toNatClampNeg)).toNatClampNeg) - (((XF 2) (((xs ((nI i) + 1).toNatClampNeg) * 10) + (xs ((nI i) + 2).toNatClampNeg)).toNatClampNeg) + ((XF 3) (((xs ((nI i) + 1).toNatClampNeg) * 10) + (xs ((nI i) + 2).toNatClampNeg)).toNatClampNeg))) (XS 1) = none := cod_none (hk.trans (hT.trans hT0)) (by decide)
    obtain rfl := hn1 ht
    obtain ⟨⟨hw, hI1⟩, hrv⟩ := hok ht
    rw [hw] at hP hD
    have hk0 : k = 0 := hT.trans hT0
    subst hk0
    refine W.eq (g2 := F0 m 367 ls [.int (((XS 1) + 1) - 1)]) rfl ?_
    refine lv_istore (lv' := [(6, .int (((XS 1) + 1) - 1)), (5, .int 0), (4, .int (nI i)), (3, .ref oo), (2, .ref (B 0)), (1, .ref (A 0)), (0, .ref b)]) hx hb d_La_law_367 hl (by decide) rfl (fun ls hl => ?_)
    have hsize : ls.size = c.maxLocals := by rw [hml]; exact hl.1
    refine lv_aload_n hx hb d_La_law_369 rfl (lv_at hl 4 rfl) ?_
    refine px_callN (ix_V (As := []) (rest := []) hx hb hown (k_La_107 hC) (ki_Mo_thrown hC) (kv_Mo_thrown hC) (mx_Is.code (args := #[]) (kc_Mo_thrown hC)) kh_Mo_thrown (va_recv hC.K hP (ci := 10) (q0 := 0) rfl rfl) rfl kp_Mo_thrown rfl d_La_law_370) (M_thrown l hl0 G B (uS XS 1 ((XS 1) + 1)) (uF (uF (uF (uF XF 2 (upd (XF 2) (((xs ((nI i) + 1).toNatClampNeg) * 10) + (xs ((nI i) + 2).toNatClampNeg)).toNatClampNeg (((XF 2) (((xs ((nI i) + 1).toNatClampNeg) * 10) + (xs ((nI i) + 2).toNatClampNeg)).toNatClampNeg) + (xs ((nI i) + 3).toNatClampNeg)))) 4 (upd (XF 4) (XS 1).toNatClampNeg (((xs ((nI i) + 1).toNatClampNeg) * 10) + (xs ((nI i) + 2).toNatClampNeg)))) 5 (upd (XF 5) (XS 1).toNatClampNeg (xs ((nI i) + 3).toNatClampNeg))) 6 (upd (XF 6) (XS 1).toNatClampNeg 1)) XL (uS ZS 1 0) (uF ZF 10 (upd (ZF 10) (XS 1).toNatClampNeg 0))) (kc_Mo_thrown hC) rfl (mx_Is.code (args := #[]) (kc_Mo_thrown hC)) (kn_Mo hC) hb hC (gl_leftP hP).1 (gl_leftD hD) hS (by decide) ⟨by show cs + 1 + 0 ≤ 1087; omega, by show sl + 6 + 0 ≤ 10306; omega⟩ hsize (Nat.le_of_ble_eq_true rfl) d_La_law_370 ?_
    refine W.eq (g2 := F0 m 373 ls [.int 0]) rfl ?_
    refine lv_iload hx hb d_La_law_373 (lv_at hl 1 rfl) ?_
    refine lv_icmp_eq (tgt := 380) hx hb d_La_law_375 (by decide) (fun _ => ?_) (fun c_375 => absurd c_375 (by decide))
    refine lv_iload hx hb d_La_law_380 (lv_at hl 1 rfl) ?_
    refine lv_if_ne (tgt := 397) hx hb d_La_law_382 (by decide) (fun c_382 => absurd c_382 (by decide)) (fun _ => ?_)
    refine lv_aload_n hx hb d_La_law_385 rfl (lv_at hl 3 rfl) ?_
    refine lv_iconst (v := 0) hx hb d_La_law_386 (by decide) ?_
    refine va_lald hx hb hC.K hP 23 2 rfl rfl (vp_in_nI (n := 0) (by decide) (by decide)) d_La_law_387 ?_
    refine lv_iload hx hb d_La_law_388 (lv_at hl 0 rfl) ?_
    refine lv_i2l hx hb d_La_law_390 rfl ?_
    refine W.lcmp hx hb d_La_law_391 ?_
    refine lv_if_eq (tgt := 397) hx hb d_La_law_392 (by decide) (fun c_392 => ?_) (fun c_392 => ?_)
    · rw [lg_cmp_eq] at c_392
      refine lv_goto (tgt := 1559) hx hb d_La_law_397 (by decide) ?_
      obtain ⟨hP, hD⟩ := gl_swap hP hD
      exact kk (vp_updL FO (0 : Int32).toNatClampNeg ((((XS 1) + 1) - 1).toInt64)) (uS XS 1 ((XS 1) + 1)) (uF (uF (uF (uF XF 2 (upd (XF 2) (((xs ((nI i) + 1).toNatClampNeg) * 10) + (xs ((nI i) + 2).toNatClampNeg)).toNatClampNeg (((XF 2) (((xs ((nI i) + 1).toNatClampNeg) * 10) + (xs ((nI i) + 2).toNatClampNeg)).toNatClampNeg) + (xs ((nI i) + 3).toNatClampNeg)))) 4 (upd (XF 4) (XS 1).toNatClampNeg (((xs ((nI i) + 1).toNatClampNeg) * 10) + (xs ((nI i) + 2).toNatClampNeg)))) 5 (upd (XF 5) (XS 1).toNatClampNeg (xs ((nI i) + 3).toNatClampNeg))) 6 (upd (XF 6) (XS 1).toNatClampNeg 1)) XL (uS ZS 1 0) (uF ZF 10 (upd (ZF 10) (XS 1).toNatClampNeg 0)) _ _ ls hI1 hP hD hS (lv_sub hl [2, 3, 4, 5, 6] rfl)
    · rw [lg_cmp_eq] at c_392; exact absurd (by rw [pk_uLs, hrv]) c_392
  · have ht : ¬ th_order (xs ((nI i) + 1).toNatClampNeg) (xs ((nI i) + 2).toNatClampNeg) (xs ((nI i) + 3).toNatClampNeg) (XS 13) (((XF 1) (((xs ((nI i) + 1).toNatClampNeg) * 10) + (xs ((nI i) + 2).toNatClampNeg)).toNatClampNeg) - (((XF 2) (((xs ((nI i) + 1).toNatClampNeg) * 10) + (xs ((nI i) + 2).toNatClampNeg)).toNatClampNeg) + ((XF 3) (((xs ((nI i) + 1).toNatClampNeg) * 10) + (xs ((nI i) + 2).toNatClampNeg)).toNatClampNeg))) (XS 1) = none := fun q => hT0 (by rw [← hT, ← hk, q]; rfl)
    obtain rfl := hn2 ht
    obtain ⟨hw, hI1⟩ := hbad ht
    rw [hw] at hP hD
    have hk0 : ¬ k = 0 := fun q => hT0 (hT.symm.trans q)
    refine W.eq (g2 := F0 m 367 ls [.int 0]) rfl ?_
    refine lv_istore (lv' := [(6, .int 0), (5, .int k), (4, .int (nI i)), (3, .ref oo), (2, .ref (B 0)), (1, .ref (A 0)), (0, .ref b)]) hx hb d_La_law_367 hl (by decide) rfl (fun ls hl => ?_)
    have hsize : ls.size = c.maxLocals := by rw [hml]; exact hl.1
    refine lv_aload_n hx hb d_La_law_369 rfl (lv_at hl 4 rfl) ?_
    refine px_callN (ix_V (As := []) (rest := []) hx hb hown (k_La_107 hC) (ki_Mo_thrown hC) (kv_Mo_thrown hC) (mx_Is.code (args := #[]) (kc_Mo_thrown hC)) kh_Mo_thrown (va_recv hC.K hP (ci := 10) (q0 := 0) rfl rfl) rfl kp_Mo_thrown rfl d_La_law_370) (M_thrown l hl0 G B XS XF XL (uS ZS 1 ((if ¬ ((0 ≤ (xs ((nI i) + 1).toNatClampNeg) ∧ (xs ((nI i) + 1).toNatClampNeg) ≤ 4) ∧ (0 ≤ (xs ((nI i) + 2).toNatClampNeg) ∧ (xs ((nI i) + 2).toNatClampNeg) ≤ 9)) then 1 else (if ¬ (0 ≤ (xs ((nI i) + 3).toNatClampNeg) ∧ (xs ((nI i) + 3).toNatClampNeg) ≤ 100000000) then 2 else (if (¬ ((ZF 5) (xs ((nI i) + 1).toNatClampNeg).toNatClampNeg) = 0 ∨ ¬ (xs ((nI i) + 3).toNatClampNeg) ≤ ((((XF 1) ((10 * (xs ((nI i) + 1).toNatClampNeg)) + (xs ((nI i) + 2).toNatClampNeg)).toNatClampNeg) - ((XF 2) ((10 * (xs ((nI i) + 1).toNatClampNeg)) + (xs ((nI i) + 2).toNatClampNeg)).toNatClampNeg)) - ((XF 3) ((10 * (xs ((nI i) + 1).toNatClampNeg)) + (xs ((nI i) + 2).toNatClampNeg)).toNatClampNeg))) then 3 else (if (XS 1) = 60 then 4 else 0)))) : Int32)) ZF) (kc_Mo_thrown hC) rfl (mx_Is.code (args := #[]) (kc_Mo_thrown hC)) (kn_Mo hC) hb hC (gl_leftP hP).1 (gl_leftD hD) hS (by decide) ⟨by show cs + 1 + 0 ≤ 1087; omega, by show sl + 6 + 0 ≤ 10306; omega⟩ hsize (Nat.le_of_ble_eq_true rfl) d_La_law_370 ?_
    refine W.eq (g2 := F0 m 373 ls [.int ((if ¬ ((0 ≤ (xs ((nI i) + 1).toNatClampNeg) ∧ (xs ((nI i) + 1).toNatClampNeg) ≤ 4) ∧ (0 ≤ (xs ((nI i) + 2).toNatClampNeg) ∧ (xs ((nI i) + 2).toNatClampNeg) ≤ 9)) then 1 else (if ¬ (0 ≤ (xs ((nI i) + 3).toNatClampNeg) ∧ (xs ((nI i) + 3).toNatClampNeg) ≤ 100000000) then 2 else (if (¬ ((ZF 5) (xs ((nI i) + 1).toNatClampNeg).toNatClampNeg) = 0 ∨ ¬ (xs ((nI i) + 3).toNatClampNeg) ≤ ((((XF 1) ((10 * (xs ((nI i) + 1).toNatClampNeg)) + (xs ((nI i) + 2).toNatClampNeg)).toNatClampNeg) - ((XF 2) ((10 * (xs ((nI i) + 1).toNatClampNeg)) + (xs ((nI i) + 2).toNatClampNeg)).toNatClampNeg)) - ((XF 3) ((10 * (xs ((nI i) + 1).toNatClampNeg)) + (xs ((nI i) + 2).toNatClampNeg)).toNatClampNeg))) then 3 else (if (XS 1) = 60 then 4 else 0)))) : Int32)]) rfl ?_
    refine lv_iload hx hb d_La_law_373 (lv_at hl 1 rfl) ?_
    refine lv_icmp_eq (tgt := 380) hx hb d_La_law_375 (by decide) (fun c_375 => ?_) (fun c_375 => ?_)
    · refine lv_iload hx hb d_La_law_380 (lv_at hl 1 rfl) ?_
      refine lv_if_ne (tgt := 397) hx hb d_La_law_382 (by decide) (fun c_382 => ?_) (fun c_382 => ?_)
      · refine lv_goto (tgt := 1559) hx hb d_La_law_397 (by decide) ?_
        obtain ⟨hP, hD⟩ := gl_swap hP hD
        exact kk FO XS XF XL (uS ZS 1 ((if ¬ ((0 ≤ (xs ((nI i) + 1).toNatClampNeg) ∧ (xs ((nI i) + 1).toNatClampNeg) ≤ 4) ∧ (0 ≤ (xs ((nI i) + 2).toNatClampNeg) ∧ (xs ((nI i) + 2).toNatClampNeg) ≤ 9)) then 1 else (if ¬ (0 ≤ (xs ((nI i) + 3).toNatClampNeg) ∧ (xs ((nI i) + 3).toNatClampNeg) ≤ 100000000) then 2 else (if (¬ ((ZF 5) (xs ((nI i) + 1).toNatClampNeg).toNatClampNeg) = 0 ∨ ¬ (xs ((nI i) + 3).toNatClampNeg) ≤ ((((XF 1) ((10 * (xs ((nI i) + 1).toNatClampNeg)) + (xs ((nI i) + 2).toNatClampNeg)).toNatClampNeg) - ((XF 2) ((10 * (xs ((nI i) + 1).toNatClampNeg)) + (xs ((nI i) + 2).toNatClampNeg)).toNatClampNeg)) - ((XF 3) ((10 * (xs ((nI i) + 1).toNatClampNeg)) + (xs ((nI i) + 2).toNatClampNeg)).toNatClampNeg))) then 3 else (if (XS 1) = 60 then 4 else 0)))) : Int32)) ZF _ _ ls hI1 hP hD hS (lv_sub hl [2, 3, 4, 5, 6] rfl)
      · exact absurd c_382 hk0
    · exact absurd hT.symm c_375
set_option maxHeartbeats 4000000 in
set_option maxRecDepth 100000 in
theorem case_4 {p : Program} {l : Launch} {e : Env} {s : State} {m : MethodId} {below : List Frame} {meth : Method} {c : Code} (hl0 : l.stackTraces = false) {G : GG} (hC : g_C G s) (hx : p.tables.exec = Jvm.exec) (hb : c.code = code) (hml : c.maxLocals = 8) (hown : s.vm.findClass R_La = some m.cls) {b L : Nat} {xs : Nat → Int32} (hX : va_X b L xs s s.heap) (hbl : b < s.heap.size) (hbA : ¬ g_A G b) {Q : State → Prop} {A B : Nat → Nat} {oo : Nat} {XS : Nat → Int32} {XF : Nat → Nat → Int32} {XL : Nat → Int64} {ZS : Nat → Int32} {ZF : Nat → Nat → Int32} {FO : Nat → Int64} (hI : INV XS XF ZF) {i : Nat} (hi : i + 5 ≤ L) (hL : L ≤ 2560) {cs sl : Nat} (hcs : cs + 1 ≤ 1087) (hsl : sl + 6 ≤ 10306) {H : Heap} {locs : List Loc} (hP : va_P G.1 g_cl (((oo, .inl (G.2.1 2, 1, .inr (.inl FO))) :: wcb G A XS XF XL) ++ (wmo G B XS XF XL ZS ZF ++ [])) H) (hD : va_D (g_A G) (((oo, .inl (G.2.1 2, 1, .inr (.inl FO))) :: wcb G A XS XF XL) ++ (wmo G B XS XF XL ZS ZF ++ []))) (hS : va_S (g_A G) s.heap H locs) {ls : Array Slot} (hl : lv_has ls 8 [(4, .int (nI i)), (3, .ref oo), (2, .ref (B 0)), (1, .ref (A 0)), (0, .ref b)]) (kk : ∀ (FO' : Nat → Int64) (XS' : Nat → Int32) (XF' : Nat → Nat → Int32) (XL' : Nat → Int64) (ZS' : Nat → Int32) (ZF' : Nat → Nat → Int32) (H' : Heap) (locs' : List Loc) (ls' : Array Slot), INV XS' XF' ZF' → va_P G.1 g_cl (((oo, .inl (G.2.1 2, 1, .inr (.inl FO'))) :: wcb G A XS' XF' XL') ++ (wmo G B XS' XF' XL' ZS' ZF' ++ [])) H' → va_D (g_A G) (((oo, .inl (G.2.1 2, 1, .inr (.inl FO'))) :: wcb G A XS' XF' XL') ++ (wmo G B XS' XF' XL' ZS' ZF' ++ [])) → va_S (g_A G) s.heap H' locs' → lv_has ls' 8 [(4, .int (nI i)), (3, .ref oo), (2, .ref (B 0)), (1, .ref (A 0)), (0, .ref b)] → W p l e room_1 s m #[Value.ref b] below meth c H' locs' (cs + 1) (sl + 6) Q (F0 m 1559 ls' [])) : W p l e room_1 s m #[Value.ref b] below meth c H locs cs sl Q (F0 m 400 ls []) := by
  obtain ⟨hor, hta, hre, htf, hbi, hho, hgr, hle, hcl, hbd⟩ := id hI
  have hsize : ls.size = c.maxLocals := by rw [hml]; exact hl.1
  refine lv_aload_n hx hb d_La_law_400 rfl (lv_at hl 3 rfl) ?_
  refine lv_aload_n hx hb d_La_law_401 rfl (lv_at hl 4 rfl) ?_
  refine lv_iload hx hb d_La_law_402 (lv_at hl 0 rfl) ?_
  refine lv_iconst (v := 1) hx hb d_La_law_404 (by decide) ?_
  refine lv_iadd hx hb d_La_law_405 ?_
  have ha1 : vp_in ((nI i) + 1) L := by rw [show (1 : Int32) = nI 1 by decide +kernel, nI_add]; exact vp_in_nI (by omega) (by omega)
  refine va_sld hx hb hX hbl hbA hS ha1 d_La_law_406 ?_
  refine lv_aload_n hx hb d_La_law_407 rfl (lv_at hl 4 rfl) ?_
  refine lv_iload hx hb d_La_law_408 (lv_at hl 0 rfl) ?_
  refine lv_iconst (v := 2) hx hb d_La_law_410 (by decide) ?_
  refine lv_iadd hx hb d_La_law_411 ?_
  have ha2 : vp_in ((nI i) + 2) L := by rw [show (2 : Int32) = nI 2 by decide +kernel, nI_add]; exact vp_in_nI (by omega) (by omega)
  refine va_sld hx hb hX hbl hbA hS ha2 d_La_law_412 ?_
  refine gx_call (ix_S (As := [.ref (A 0), .int (xs ((nI i) + 1).toNatClampNeg), .int (xs ((nI i) + 2).toNatClampNeg)]) (rest := []) hx hb hown (k_La_121 hC) (ks_La_invoice hC) (kn_La hC) (mx_Is.with (args := #[]) (kc_La_invoice hC)) kh_La_invoice rfl kp_La_invoice rfl d_La_law_413) (L_invoice l hl0 G A XS XF XL oo FO (xs ((nI i) + 1).toNatClampNeg) (xs ((nI i) + 2).toNatClampNeg) (in_leT hor.1) hor.2.1) (kc_La_invoice hC) rfl (mx_Is.with (args := #[]) (kc_La_invoice hC)) (kn_La hC) hb hC hP hD hS (by decide) ⟨by show cs + 1 ≤ 1087; omega, by show sl + 6 ≤ 10306; omega⟩ hsize (Nat.le_of_ble_eq_true rfl) d_La_law_413 (fun v w' H locs hPo hP hD hS => ?_) (fun _ _ _ _ _ _ hPx => hPx.elim)
  obtain ⟨rfl, hn1, hn2⟩ := hPo
  obtain ⟨hT, hok, hbad⟩ := P_invoice G B XS XF XL ZS ZF (xs ((nI i) + 1).toNatClampNeg) (xs ((nI i) + 2).toNatClampNeg) hI
  generalize hk : cod [eIA, eIO, eIS] (th_invoice (xs ((nI i) + 1).toNatClampNeg) (xs ((nI i) + 2).toNatClampNeg) (XS 1) ((XF 6) (xs ((nI i) + 1).toNatClampNeg).toNatClampNeg) ((xs ((nI i) + 2).toNatClampNeg) - ((XF 5) (xs ((nI i) + 1).toNatClampNeg).toNatClampNeg)) ((((XF 5) (xs ((nI i) + 1).toNatClampNeg).toNatClampNeg).toInt64 * (XS 11).toInt64) / 1000) (((XF 1) ((XF 4) (xs ((nI i) + 1).toNatClampNeg).toNatClampNeg).toNatClampNeg) - (((XF 2) ((XF 4) (xs ((nI i) + 1).toNatClampNeg).toNatClampNeg).toNatClampNeg) + ((XF 3) ((XF 4) (xs ((nI i) + 1).toNatClampNeg).toNatClampNeg).toNatClampNeg)))) = k at hT ⊢
  refine W.eq (g2 := F0 m 416 ls [.int k]) rfl ?_
  refine lv_istore (lv' := [(5, .int k), (4, .int (nI i)), (3, .ref oo), (2, .ref (B 0)), (1, .ref (A 0)), (0, .ref b)]) hx hb d_La_law_416 hl (by decide) rfl (fun ls hl => ?_)
  have hsize : ls.size = c.maxLocals := by rw [hml]; exact hl.1
  refine lv_aload_n hx hb d_La_law_418 rfl (lv_at hl 3 rfl) ?_
  refine lv_aload_n hx hb d_La_law_419 rfl (lv_at hl 5 rfl) ?_
  refine lv_iload hx hb d_La_law_420 (lv_at hl 1 rfl) ?_
  refine lv_iconst (v := 1) hx hb d_La_law_422 (by decide) ?_
  refine lv_iadd hx hb d_La_law_423 ?_
  refine va_sld hx hb hX hbl hbA hS ha1 d_La_law_424 ?_
  refine lv_aload_n hx hb d_La_law_425 rfl (lv_at hl 5 rfl) ?_
  refine lv_iload hx hb d_La_law_426 (lv_at hl 1 rfl) ?_
  refine lv_iconst (v := 2) hx hb d_La_law_428 (by decide) ?_
  refine lv_iadd hx hb d_La_law_429 ?_
  refine va_sld hx hb hX hbl hbA hS ha2 d_La_law_430 ?_
  obtain ⟨hP, hD⟩ := gl_swap hP hD
  refine gx_call (ix_V (As := [.int (xs ((nI i) + 1).toNatClampNeg), .int (xs ((nI i) + 2).toNatClampNeg)]) (rest := []) hx hb hown (k_La_124 hC) (ki_Mo_invoice hC) (kv_Mo_invoice hC) (mx_Is.code (args := #[]) (kc_Mo_invoice hC)) kh_Mo_invoice (va_recv hC.K hP (ci := 10) (q0 := 0) rfl rfl) rfl kp_Mo_invoice rfl d_La_law_431) (M_invoice l hl0 G B XS XF XL ZS ZF (xs ((nI i) + 1).toNatClampNeg) (xs ((nI i) + 2).toNatClampNeg) hor.1 hor.2.1) (kc_Mo_invoice hC) rfl (mx_Is.code (args := #[]) (kc_Mo_invoice hC)) (kn_Mo hC) hb hC hP hD hS (by decide) ⟨by show cs + 1 + 0 ≤ 1087; omega, by show sl + 6 + 0 ≤ 10306; omega⟩ hsize (Nat.le_of_ble_eq_true rfl) d_La_law_431 (fun v w2 H locs hMo hP hD hS => ?_) (fun _ _ _ _ _ _ hPx => hPx.elim)
  rcases hMo with ⟨hT0, rfl, rfl⟩ | ⟨hT0, rfl, rfl⟩
  · have ht : th_invoice (xs ((nI i) + 1).toNatClampNeg) (xs ((nI i) + 2).toNatClampNeg) (XS 1) ((XF 6) (xs ((nI i) + 1).toNatClampNeg).toNatClampNeg) ((xs ((nI i) + 2).toNatClampNeg) - ((XF 5) (xs ((nI i) + 1).toNatClampNeg).toNatClampNeg)) ((((XF 5) (xs ((nI i) + 1).toNatClampNeg).toNatClampNeg).toInt64 * (XS 11).toInt64) / 1000) (((XF 1) ((XF 4) (xs ((nI i) + 1).toNatClampNeg).toNatClampNeg).toNatClampNeg) - (((XF 2) ((XF 4) (xs ((nI i) + 1).toNatClampNeg).toNatClampNeg).toNatClampNeg) + ((XF 3) ((XF 4) (xs ((nI i) + 1).toNatClampNeg).toNatClampNeg).toNatClampNeg))) = none := cod_none (hk.trans (hT.trans hT0)) (by decide)
    obtain rfl := hn1 ht
    obtain ⟨⟨hw, hI1⟩, hrv⟩ := hok ht
    rw [hw] at hP hD
    have hk0 : k = 0 := hT.trans hT0
    subst hk0
    refine W.eq (g2 := F0 m 434 ls []) rfl ?_
    refine lv_aload_n hx hb d_La_law_434 rfl (lv_at hl 3 rfl) ?_
    refine px_callN (ix_V (As := []) (rest := []) hx hb hown (k_La_107 hC) (ki_Mo_thrown hC) (kv_Mo_thrown hC) (mx_Is.code (args := #[]) (kc_Mo_thrown hC)) kh_Mo_thrown (va_recv hC.K hP (ci := 10) (q0 := 0) rfl rfl) rfl kp_Mo_thrown rfl d_La_law_435) (M_thrown l hl0 G B XS (uF (uF (uF XF 2 (upd (XF 2) ((XF 4) (xs ((nI i) + 1).toNatClampNeg).toNatClampNeg).toNatClampNeg (((XF 2) ((XF 4) (xs ((nI i) + 1).toNatClampNeg).toNatClampNeg).toNatClampNeg) - ((XF 5) (xs ((nI i) + 1).toNatClampNeg).toNatClampNeg)))) 3 (upd (XF 3) ((XF 4) (xs ((nI i) + 1).toNatClampNeg).toNatClampNeg).toNatClampNeg (((XF 3) ((XF 4) (xs ((nI i) + 1).toNatClampNeg).toNatClampNeg).toNatClampNeg) + (xs ((nI i) + 2).toNatClampNeg)))) 6 (upd (XF 6) (xs ((nI i) + 1).toNatClampNeg).toNatClampNeg 0)) XL (uS ZS 1 0) (uF ZF 10 (upd (ZF 10) (xs ((nI i) + 1).toNatClampNeg).toNatClampNeg 1))) (kc_Mo_thrown hC) rfl (mx_Is.code (args := #[]) (kc_Mo_thrown hC)) (kn_Mo hC) hb hC (gl_leftP hP).1 (gl_leftD hD) hS (by decide) ⟨by show cs + 1 + 0 ≤ 1087; omega, by show sl + 6 + 0 ≤ 10306; omega⟩ hsize (Nat.le_of_ble_eq_true rfl) d_La_law_435 ?_
    refine W.eq (g2 := F0 m 438 ls [.int 0]) rfl ?_
    refine lv_iload hx hb d_La_law_438 (lv_at hl 0 rfl) ?_
    refine lv_icmp_eq (tgt := 445) hx hb d_La_law_440 (by decide) (fun _ => ?_) (fun c_440 => absurd c_440 (by decide))
    refine lv_goto (tgt := 1559) hx hb d_La_law_445 (by decide) ?_
    obtain ⟨hP, hD⟩ := gl_swap hP hD
    exact kk FO XS (uF (uF (uF XF 2 (upd (XF 2) ((XF 4) (xs ((nI i) + 1).toNatClampNeg).toNatClampNeg).toNatClampNeg (((XF 2) ((XF 4) (xs ((nI i) + 1).toNatClampNeg).toNatClampNeg).toNatClampNeg) - ((XF 5) (xs ((nI i) + 1).toNatClampNeg).toNatClampNeg)))) 3 (upd (XF 3) ((XF 4) (xs ((nI i) + 1).toNatClampNeg).toNatClampNeg).toNatClampNeg (((XF 3) ((XF 4) (xs ((nI i) + 1).toNatClampNeg).toNatClampNeg).toNatClampNeg) + (xs ((nI i) + 2).toNatClampNeg)))) 6 (upd (XF 6) (xs ((nI i) + 1).toNatClampNeg).toNatClampNeg 0)) XL (uS ZS 1 0) (uF ZF 10 (upd (ZF 10) (xs ((nI i) + 1).toNatClampNeg).toNatClampNeg 1)) _ _ ls hI1 hP hD hS (lv_sub hl [1, 2, 3, 4, 5] rfl)
  · have ht : ¬ th_invoice (xs ((nI i) + 1).toNatClampNeg) (xs ((nI i) + 2).toNatClampNeg) (XS 1) ((XF 6) (xs ((nI i) + 1).toNatClampNeg).toNatClampNeg) ((xs ((nI i) + 2).toNatClampNeg) - ((XF 5) (xs ((nI i) + 1).toNatClampNeg).toNatClampNeg)) ((((XF 5) (xs ((nI i) + 1).toNatClampNeg).toNatClampNeg).toInt64 * (XS 11).toInt64) / 1000) (((XF 1) ((XF 4) (xs ((nI i) + 1).toNatClampNeg).toNatClampNeg).toNatClampNeg) - (((XF 2) ((XF 4) (xs ((nI i) + 1).toNatClampNeg).toNatClampNeg).toNatClampNeg) + ((XF 3) ((XF 4) (xs ((nI i) + 1).toNatClampNeg).toNatClampNeg).toNatClampNeg))) = none := fun q => hT0 (by rw [← hT, ← hk, q]; rfl)
    obtain rfl := hn2 ht
    obtain ⟨hw, hI1⟩ := hbad ht
    rw [hw] at hP hD
    have hk0 : ¬ k = 0 := fun q => hT0 (hT.symm.trans q)
    refine W.eq (g2 := F0 m 434 ls []) rfl ?_
    refine lv_aload_n hx hb d_La_law_434 rfl (lv_at hl 3 rfl) ?_
    refine px_callN (ix_V (As := []) (rest := []) hx hb hown (k_La_107 hC) (ki_Mo_thrown hC) (kv_Mo_thrown hC) (mx_Is.code (args := #[]) (kc_Mo_thrown hC)) kh_Mo_thrown (va_recv hC.K hP (ci := 10) (q0 := 0) rfl rfl) rfl kp_Mo_thrown rfl d_La_law_435) (M_thrown l hl0 G B XS XF XL (uS ZS 1 ((if ¬ (0 ≤ (xs ((nI i) + 1).toNatClampNeg) ∧ (xs ((nI i) + 1).toNatClampNeg) ≤ ((XS 1) - 1)) then 1 else (if ¬ (0 ≤ (xs ((nI i) + 2).toNatClampNeg) ∧ (xs ((nI i) + 2).toNatClampNeg) ≤ 100000000) then 2 else (if (¬ ((ZF 10) (xs ((nI i) + 1).toNatClampNeg).toNatClampNeg) = 0 ∨ ((((XF 5) (xs ((nI i) + 1).toNatClampNeg).toNatClampNeg).toInt64 * (XS 11).toInt64) / 1000) < ((xs ((nI i) + 2).toNatClampNeg) - ((XF 5) (xs ((nI i) + 1).toNatClampNeg).toNatClampNeg)).toInt64 ∨ ((((XF 5) (xs ((nI i) + 1).toNatClampNeg).toNatClampNeg).toInt64 * (XS 11).toInt64) / 1000) < (-((xs ((nI i) + 2).toNatClampNeg) - ((XF 5) (xs ((nI i) + 1).toNatClampNeg).toNatClampNeg))).toInt64 ∨ ¬ ((xs ((nI i) + 2).toNatClampNeg) - ((XF 5) (xs ((nI i) + 1).toNatClampNeg).toNatClampNeg)) ≤ ((((XF 1) ((XF 4) (xs ((nI i) + 1).toNatClampNeg).toNatClampNeg).toNatClampNeg) - ((XF 2) ((XF 4) (xs ((nI i) + 1).toNatClampNeg).toNatClampNeg).toNatClampNeg)) - ((XF 3) ((XF 4) (xs ((nI i) + 1).toNatClampNeg).toNatClampNeg).toNatClampNeg))) then 3 else 0))) : Int32)) ZF) (kc_Mo_thrown hC) rfl (mx_Is.code (args := #[]) (kc_Mo_thrown hC)) (kn_Mo hC) hb hC (gl_leftP hP).1 (gl_leftD hD) hS (by decide) ⟨by show cs + 1 + 0 ≤ 1087; omega, by show sl + 6 + 0 ≤ 10306; omega⟩ hsize (Nat.le_of_ble_eq_true rfl) d_La_law_435 ?_
    refine W.eq (g2 := F0 m 438 ls [.int ((if ¬ (0 ≤ (xs ((nI i) + 1).toNatClampNeg) ∧ (xs ((nI i) + 1).toNatClampNeg) ≤ ((XS 1) - 1)) then 1 else (if ¬ (0 ≤ (xs ((nI i) + 2).toNatClampNeg) ∧ (xs ((nI i) + 2).toNatClampNeg) ≤ 100000000) then 2 else (if (¬ ((ZF 10) (xs ((nI i) + 1).toNatClampNeg).toNatClampNeg) = 0 ∨ ((((XF 5) (xs ((nI i) + 1).toNatClampNeg).toNatClampNeg).toInt64 * (XS 11).toInt64) / 1000) < ((xs ((nI i) + 2).toNatClampNeg) - ((XF 5) (xs ((nI i) + 1).toNatClampNeg).toNatClampNeg)).toInt64 ∨ ((((XF 5) (xs ((nI i) + 1).toNatClampNeg).toNatClampNeg).toInt64 * (XS 11).toInt64) / 1000) < (-((xs ((nI i) + 2).toNatClampNeg) - ((XF 5) (xs ((nI i) + 1).toNatClampNeg).toNatClampNeg))).toInt64 ∨ ¬ ((xs ((nI i) + 2).toNatClampNeg) - ((XF 5) (xs ((nI i) + 1).toNatClampNeg).toNatClampNeg)) ≤ ((((XF 1) ((XF 4) (xs ((nI i) + 1).toNatClampNeg).toNatClampNeg).toNatClampNeg) - ((XF 2) ((XF 4) (xs ((nI i) + 1).toNatClampNeg).toNatClampNeg).toNatClampNeg)) - ((XF 3) ((XF 4) (xs ((nI i) + 1).toNatClampNeg).toNatClampNeg).toNatClampNeg))) then 3 else 0))) : Int32)]) rfl ?_
    refine lv_iload hx hb d_La_law_438 (lv_at hl 0 rfl) ?_
    refine lv_icmp_eq (tgt := 445) hx hb d_La_law_440 (by decide) (fun c_440 => ?_) (fun c_440 => ?_)
    · refine lv_goto (tgt := 1559) hx hb d_La_law_445 (by decide) ?_
      obtain ⟨hP, hD⟩ := gl_swap hP hD
      exact kk FO XS XF XL (uS ZS 1 ((if ¬ (0 ≤ (xs ((nI i) + 1).toNatClampNeg) ∧ (xs ((nI i) + 1).toNatClampNeg) ≤ ((XS 1) - 1)) then 1 else (if ¬ (0 ≤ (xs ((nI i) + 2).toNatClampNeg) ∧ (xs ((nI i) + 2).toNatClampNeg) ≤ 100000000) then 2 else (if (¬ ((ZF 10) (xs ((nI i) + 1).toNatClampNeg).toNatClampNeg) = 0 ∨ ((((XF 5) (xs ((nI i) + 1).toNatClampNeg).toNatClampNeg).toInt64 * (XS 11).toInt64) / 1000) < ((xs ((nI i) + 2).toNatClampNeg) - ((XF 5) (xs ((nI i) + 1).toNatClampNeg).toNatClampNeg)).toInt64 ∨ ((((XF 5) (xs ((nI i) + 1).toNatClampNeg).toNatClampNeg).toInt64 * (XS 11).toInt64) / 1000) < (-((xs ((nI i) + 2).toNatClampNeg) - ((XF 5) (xs ((nI i) + 1).toNatClampNeg).toNatClampNeg))).toInt64 ∨ ¬ ((xs ((nI i) + 2).toNatClampNeg) - ((XF 5) (xs ((nI i) + 1).toNatClampNeg).toNatClampNeg)) ≤ ((((XF 1) ((XF 4) (xs ((nI i) + 1).toNatClampNeg).toNatClampNeg).toNatClampNeg) - ((XF 2) ((XF 4) (xs ((nI i) + 1).toNatClampNeg).toNatClampNeg).toNatClampNeg)) - ((XF 3) ((XF 4) (xs ((nI i) + 1).toNatClampNeg).toNatClampNeg).toNatClampNeg))) then 3 else 0))) : Int32)) ZF _ _ ls hI1 hP hD hS (lv_sub hl [1, 2, 3, 4, 5] rfl)
    · exact absurd hT.symm c_440
set_option maxHeartbeats 4000000 in
set_option maxRecDepth 100000 in
theorem case_5 {p : Program} {l : Launch} {e : Env} {s : State} {m : MethodId} {below : List Frame} {meth : Method} {c : Code} (hl0 : l.stackTraces = false) {G : GG} (hC : g_C G s) (hx : p.tables.exec = Jvm.exec) (hb : c.code = code) (hml : c.maxLocals = 8) (hown : s.vm.findClass R_La = some m.cls) {b L : Nat} {xs : Nat → Int32} (hX : va_X b L xs s s.heap) (hbl : b < s.heap.size) (hbA : ¬ g_A G b) {Q : State → Prop} {A B : Nat → Nat} {oo : Nat} {XS : Nat → Int32} {XF : Nat → Nat → Int32} {XL : Nat → Int64} {ZS : Nat → Int32} {ZF : Nat → Nat → Int32} {FO : Nat → Int64} (hI : INV XS XF ZF) {i : Nat} (hi : i + 5 ≤ L) (hL : L ≤ 2560) {cs sl : Nat} (hcs : cs + 1 ≤ 1087) (hsl : sl + 6 ≤ 10306) {H : Heap} {locs : List Loc} (hP : va_P G.1 g_cl (((oo, .inl (G.2.1 2, 1, .inr (.inl FO))) :: wcb G A XS XF XL) ++ (wmo G B XS XF XL ZS ZF ++ [])) H) (hD : va_D (g_A G) (((oo, .inl (G.2.1 2, 1, .inr (.inl FO))) :: wcb G A XS XF XL) ++ (wmo G B XS XF XL ZS ZF ++ []))) (hS : va_S (g_A G) s.heap H locs) {ls : Array Slot} (hl : lv_has ls 8 [(4, .int (nI i)), (3, .ref oo), (2, .ref (B 0)), (1, .ref (A 0)), (0, .ref b)]) (kk : ∀ (FO' : Nat → Int64) (XS' : Nat → Int32) (XF' : Nat → Nat → Int32) (XL' : Nat → Int64) (ZS' : Nat → Int32) (ZF' : Nat → Nat → Int32) (H' : Heap) (locs' : List Loc) (ls' : Array Slot), INV XS' XF' ZF' → va_P G.1 g_cl (((oo, .inl (G.2.1 2, 1, .inr (.inl FO'))) :: wcb G A XS' XF' XL') ++ (wmo G B XS' XF' XL' ZS' ZF' ++ [])) H' → va_D (g_A G) (((oo, .inl (G.2.1 2, 1, .inr (.inl FO'))) :: wcb G A XS' XF' XL') ++ (wmo G B XS' XF' XL' ZS' ZF' ++ [])) → va_S (g_A G) s.heap H' locs' → lv_has ls' 8 [(4, .int (nI i)), (3, .ref oo), (2, .ref (B 0)), (1, .ref (A 0)), (0, .ref b)] → W p l e room_1 s m #[Value.ref b] below meth c H' locs' (cs + 1) (sl + 6) Q (F0 m 1559 ls' [])) : W p l e room_1 s m #[Value.ref b] below meth c H locs cs sl Q (F0 m 448 ls []) := by
  obtain ⟨hor, hta, hre, htf, hbi, hho, hgr, hle, hcl, hbd⟩ := id hI
  have hsize : ls.size = c.maxLocals := by rw [hml]; exact hl.1
  refine lv_aload_n hx hb d_La_law_448 rfl (lv_at hl 3 rfl) ?_
  refine lv_aload_n hx hb d_La_law_449 rfl (lv_at hl 4 rfl) ?_
  refine lv_iload hx hb d_La_law_450 (lv_at hl 0 rfl) ?_
  refine lv_iconst (v := 1) hx hb d_La_law_452 (by decide) ?_
  refine lv_iadd hx hb d_La_law_453 ?_
  have ha1 : vp_in ((nI i) + 1) L := by rw [show (1 : Int32) = nI 1 by decide +kernel, nI_add]; exact vp_in_nI (by omega) (by omega)
  refine va_sld hx hb hX hbl hbA hS ha1 d_La_law_454 ?_
  refine gx_call (ix_S (As := [.ref (A 0), .int (xs ((nI i) + 1).toNatClampNeg)]) (rest := []) hx hb hown (k_La_125 hC) (ks_La_cancel hC) (kn_La hC) (mx_Is.with (args := #[]) (kc_La_cancel hC)) kh_La_cancel rfl kp_La_cancel rfl d_La_law_455) (L_cancel l hl0 G A XS XF XL oo FO (xs ((nI i) + 1).toNatClampNeg) (in_leT hor.1) hor.2.1) (kc_La_cancel hC) rfl (mx_Is.with (args := #[]) (kc_La_cancel hC)) (kn_La hC) hb hC hP hD hS (by decide) ⟨by show cs + 1 ≤ 1087; omega, by show sl + 6 ≤ 10306; omega⟩ hsize (Nat.le_of_ble_eq_true rfl) d_La_law_455 (fun v w' H locs hPo hP hD hS => ?_) (fun _ _ _ _ _ _ hPx => hPx.elim)
  obtain ⟨rfl, hn1, hn2⟩ := hPo
  obtain ⟨hT, hok, hbad⟩ := P_cancel G B XS XF XL ZS ZF (xs ((nI i) + 1).toNatClampNeg) hI
  generalize hk : cod [eIA, eIS] ((ck_known (xs ((nI i) + 1).toNatClampNeg) (XS 1)).or (ck_state ((XF 6) (xs ((nI i) + 1).toNatClampNeg).toNatClampNeg))) = k at hT ⊢
  refine W.eq (g2 := F0 m 458 ls [.int k]) rfl ?_
  refine lv_istore (lv' := [(5, .int k), (4, .int (nI i)), (3, .ref oo), (2, .ref (B 0)), (1, .ref (A 0)), (0, .ref b)]) hx hb d_La_law_458 hl (by decide) rfl (fun ls hl => ?_)
  have hsize : ls.size = c.maxLocals := by rw [hml]; exact hl.1
  refine lv_aload_n hx hb d_La_law_460 rfl (lv_at hl 3 rfl) ?_
  refine lv_aload_n hx hb d_La_law_461 rfl (lv_at hl 5 rfl) ?_
  refine lv_iload hx hb d_La_law_462 (lv_at hl 1 rfl) ?_
  refine lv_iconst (v := 1) hx hb d_La_law_464 (by decide) ?_
  refine lv_iadd hx hb d_La_law_465 ?_
  refine va_sld hx hb hX hbl hbA hS ha1 d_La_law_466 ?_
  obtain ⟨hP, hD⟩ := gl_swap hP hD
  refine gx_call (ix_V (As := [.int (xs ((nI i) + 1).toNatClampNeg)]) (rest := []) hx hb hown (k_La_127 hC) (ki_Mo_cancel hC) (kv_Mo_cancel hC) (mx_Is.code (args := #[]) (kc_Mo_cancel hC)) kh_Mo_cancel (va_recv hC.K hP (ci := 10) (q0 := 0) rfl rfl) rfl kp_Mo_cancel rfl d_La_law_467) (M_cancel l hl0 G B XS XF XL ZS ZF (xs ((nI i) + 1).toNatClampNeg) hor.1 hor.2.1) (kc_Mo_cancel hC) rfl (mx_Is.code (args := #[]) (kc_Mo_cancel hC)) (kn_Mo hC) hb hC hP hD hS (by decide) ⟨by show cs + 1 + 0 ≤ 1087; omega, by show sl + 6 + 0 ≤ 10306; omega⟩ hsize (Nat.le_of_ble_eq_true rfl) d_La_law_467 (fun v w2 H locs hMo hP hD hS => ?_) (fun _ _ _ _ _ _ hPx => hPx.elim)
  rcases hMo with ⟨hT0, rfl, rfl⟩ | ⟨hT0, rfl, rfl⟩
  · have ht : (ck_known (xs ((nI i) + 1).toNatClampNeg) (XS 1)).or (ck_state ((XF 6) (xs ((nI i) + 1).toNatClampNeg).toNatClampNeg)) = none := cod_none (hk.trans (hT.trans hT0)) (by decide)
    obtain rfl := hn1 ht
    obtain ⟨⟨hw, hI1⟩, hrv⟩ := hok ht
    rw [hw] at hP hD
    have hk0 : k = 0 := hT.trans hT0
    subst hk0
    refine W.eq (g2 := F0 m 470 ls []) rfl ?_
    refine lv_aload_n hx hb d_La_law_470 rfl (lv_at hl 3 rfl) ?_
    refine px_callN (ix_V (As := []) (rest := []) hx hb hown (k_La_107 hC) (ki_Mo_thrown hC) (kv_Mo_thrown hC) (mx_Is.code (args := #[]) (kc_Mo_thrown hC)) kh_Mo_thrown (va_recv hC.K hP (ci := 10) (q0 := 0) rfl rfl) rfl kp_Mo_thrown rfl d_La_law_471) (M_thrown l hl0 G B XS (uF (uF XF 2 (upd (XF 2) ((XF 4) (xs ((nI i) + 1).toNatClampNeg).toNatClampNeg).toNatClampNeg (((XF 2) ((XF 4) (xs ((nI i) + 1).toNatClampNeg).toNatClampNeg).toNatClampNeg) - ((XF 5) (xs ((nI i) + 1).toNatClampNeg).toNatClampNeg)))) 6 (upd (XF 6) (xs ((nI i) + 1).toNatClampNeg).toNatClampNeg 0)) XL (uS ZS 1 0) (uF ZF 10 (upd (ZF 10) (xs ((nI i) + 1).toNatClampNeg).toNatClampNeg 2))) (kc_Mo_thrown hC) rfl (mx_Is.code (args := #[]) (kc_Mo_thrown hC)) (kn_Mo hC) hb hC (gl_leftP hP).1 (gl_leftD hD) hS (by decide) ⟨by show cs + 1 + 0 ≤ 1087; omega, by show sl + 6 + 0 ≤ 10306; omega⟩ hsize (Nat.le_of_ble_eq_true rfl) d_La_law_471 ?_
    refine W.eq (g2 := F0 m 474 ls [.int 0]) rfl ?_
    refine lv_iload hx hb d_La_law_474 (lv_at hl 0 rfl) ?_
    refine lv_icmp_eq (tgt := 481) hx hb d_La_law_476 (by decide) (fun _ => ?_) (fun c_476 => absurd c_476 (by decide))
    refine lv_goto (tgt := 1559) hx hb d_La_law_481 (by decide) ?_
    obtain ⟨hP, hD⟩ := gl_swap hP hD
    exact kk FO XS (uF (uF XF 2 (upd (XF 2) ((XF 4) (xs ((nI i) + 1).toNatClampNeg).toNatClampNeg).toNatClampNeg (((XF 2) ((XF 4) (xs ((nI i) + 1).toNatClampNeg).toNatClampNeg).toNatClampNeg) - ((XF 5) (xs ((nI i) + 1).toNatClampNeg).toNatClampNeg)))) 6 (upd (XF 6) (xs ((nI i) + 1).toNatClampNeg).toNatClampNeg 0)) XL (uS ZS 1 0) (uF ZF 10 (upd (ZF 10) (xs ((nI i) + 1).toNatClampNeg).toNatClampNeg 2)) _ _ ls hI1 hP hD hS (lv_sub hl [1, 2, 3, 4, 5] rfl)
  · have ht : ¬ (ck_known (xs ((nI i) + 1).toNatClampNeg) (XS 1)).or (ck_state ((XF 6) (xs ((nI i) + 1).toNatClampNeg).toNatClampNeg)) = none := fun q => hT0 (by rw [← hT, ← hk, q]; rfl)
    obtain rfl := hn2 ht
    obtain ⟨hw, hI1⟩ := hbad ht
    rw [hw] at hP hD
    have hk0 : ¬ k = 0 := fun q => hT0 (hT.symm.trans q)
    refine W.eq (g2 := F0 m 470 ls []) rfl ?_
    refine lv_aload_n hx hb d_La_law_470 rfl (lv_at hl 3 rfl) ?_
    refine px_callN (ix_V (As := []) (rest := []) hx hb hown (k_La_107 hC) (ki_Mo_thrown hC) (kv_Mo_thrown hC) (mx_Is.code (args := #[]) (kc_Mo_thrown hC)) kh_Mo_thrown (va_recv hC.K hP (ci := 10) (q0 := 0) rfl rfl) rfl kp_Mo_thrown rfl d_La_law_471) (M_thrown l hl0 G B XS XF XL (uS ZS 1 ((if ¬ (0 ≤ (xs ((nI i) + 1).toNatClampNeg) ∧ (xs ((nI i) + 1).toNatClampNeg) ≤ ((XS 1) - 1)) then 1 else (if ¬ ((ZF 10) (xs ((nI i) + 1).toNatClampNeg).toNatClampNeg) = 0 then 2 else 0)) : Int32)) ZF) (kc_Mo_thrown hC) rfl (mx_Is.code (args := #[]) (kc_Mo_thrown hC)) (kn_Mo hC) hb hC (gl_leftP hP).1 (gl_leftD hD) hS (by decide) ⟨by show cs + 1 + 0 ≤ 1087; omega, by show sl + 6 + 0 ≤ 10306; omega⟩ hsize (Nat.le_of_ble_eq_true rfl) d_La_law_471 ?_
    refine W.eq (g2 := F0 m 474 ls [.int ((if ¬ (0 ≤ (xs ((nI i) + 1).toNatClampNeg) ∧ (xs ((nI i) + 1).toNatClampNeg) ≤ ((XS 1) - 1)) then 1 else (if ¬ ((ZF 10) (xs ((nI i) + 1).toNatClampNeg).toNatClampNeg) = 0 then 2 else 0)) : Int32)]) rfl ?_
    refine lv_iload hx hb d_La_law_474 (lv_at hl 0 rfl) ?_
    refine lv_icmp_eq (tgt := 481) hx hb d_La_law_476 (by decide) (fun c_476 => ?_) (fun c_476 => ?_)
    · refine lv_goto (tgt := 1559) hx hb d_La_law_481 (by decide) ?_
      obtain ⟨hP, hD⟩ := gl_swap hP hD
      exact kk FO XS XF XL (uS ZS 1 ((if ¬ (0 ≤ (xs ((nI i) + 1).toNatClampNeg) ∧ (xs ((nI i) + 1).toNatClampNeg) ≤ ((XS 1) - 1)) then 1 else (if ¬ ((ZF 10) (xs ((nI i) + 1).toNatClampNeg).toNatClampNeg) = 0 then 2 else 0)) : Int32)) ZF _ _ ls hI1 hP hD hS (lv_sub hl [1, 2, 3, 4, 5] rfl)
    · exact absurd hT.symm c_476
set_option maxHeartbeats 4000000 in
set_option maxRecDepth 100000 in
theorem case_6 {p : Program} {l : Launch} {e : Env} {s : State} {m : MethodId} {below : List Frame} {meth : Method} {c : Code} (hl0 : l.stackTraces = false) {G : GG} (hC : g_C G s) (hx : p.tables.exec = Jvm.exec) (hb : c.code = code) (hml : c.maxLocals = 8) (hown : s.vm.findClass R_La = some m.cls) {b L : Nat} {xs : Nat → Int32} (hX : va_X b L xs s s.heap) (hbl : b < s.heap.size) (hbA : ¬ g_A G b) {Q : State → Prop} {A B : Nat → Nat} {oo : Nat} {XS : Nat → Int32} {XF : Nat → Nat → Int32} {XL : Nat → Int64} {ZS : Nat → Int32} {ZF : Nat → Nat → Int32} {FO : Nat → Int64} (hI : INV XS XF ZF) {i : Nat} (hi : i + 5 ≤ L) (hL : L ≤ 2560) {cs sl : Nat} (hcs : cs + 1 ≤ 1087) (hsl : sl + 6 ≤ 10306) {H : Heap} {locs : List Loc} (hP : va_P G.1 g_cl (((oo, .inl (G.2.1 2, 1, .inr (.inl FO))) :: wcb G A XS XF XL) ++ (wmo G B XS XF XL ZS ZF ++ [])) H) (hD : va_D (g_A G) (((oo, .inl (G.2.1 2, 1, .inr (.inl FO))) :: wcb G A XS XF XL) ++ (wmo G B XS XF XL ZS ZF ++ []))) (hS : va_S (g_A G) s.heap H locs) {ls : Array Slot} (hl : lv_has ls 8 [(4, .int (nI i)), (3, .ref oo), (2, .ref (B 0)), (1, .ref (A 0)), (0, .ref b)]) (kk : ∀ (FO' : Nat → Int64) (XS' : Nat → Int32) (XF' : Nat → Nat → Int32) (XL' : Nat → Int64) (ZS' : Nat → Int32) (ZF' : Nat → Nat → Int32) (H' : Heap) (locs' : List Loc) (ls' : Array Slot), INV XS' XF' ZF' → va_P G.1 g_cl (((oo, .inl (G.2.1 2, 1, .inr (.inl FO'))) :: wcb G A XS' XF' XL') ++ (wmo G B XS' XF' XL' ZS' ZF' ++ [])) H' → va_D (g_A G) (((oo, .inl (G.2.1 2, 1, .inr (.inl FO'))) :: wcb G A XS' XF' XL') ++ (wmo G B XS' XF' XL' ZS' ZF' ++ [])) → va_S (g_A G) s.heap H' locs' → lv_has ls' 8 [(4, .int (nI i)), (3, .ref oo), (2, .ref (B 0)), (1, .ref (A 0)), (0, .ref b)] → W p l e room_1 s m #[Value.ref b] below meth c H' locs' (cs + 1) (sl + 6) Q (F0 m 1559 ls' [])) : W p l e room_1 s m #[Value.ref b] below meth c H locs cs sl Q (F0 m 484 ls []) := by
  obtain ⟨hor, hta, hre, htf, hbi, hho, hgr, hle, hcl, hbd⟩ := id hI
  have hsize : ls.size = c.maxLocals := by rw [hml]; exact hl.1
  refine lv_aload_n hx hb d_La_law_484 rfl (lv_at hl 3 rfl) ?_
  refine lv_aload_n hx hb d_La_law_485 rfl (lv_at hl 4 rfl) ?_
  refine lv_iload hx hb d_La_law_486 (lv_at hl 0 rfl) ?_
  refine lv_iconst (v := 1) hx hb d_La_law_488 (by decide) ?_
  refine lv_iadd hx hb d_La_law_489 ?_
  have ha1 : vp_in ((nI i) + 1) L := by rw [show (1 : Int32) = nI 1 by decide +kernel, nI_add]; exact vp_in_nI (by omega) (by omega)
  refine va_sld hx hb hX hbl hbA hS ha1 d_La_law_490 ?_
  refine lv_i2l hx hb d_La_law_491 rfl ?_
  refine lv_bipush (v := 32) hx hb d_La_law_492 (by decide) ?_
  refine lv_lshl hx hb d_La_law_494 rfl ?_
  refine lv_aload_n hx hb d_La_law_495 rfl (lv_at hl 4 rfl) ?_
  refine lv_iload hx hb d_La_law_496 (lv_at hl 0 rfl) ?_
  refine lv_iconst (v := 2) hx hb d_La_law_498 (by decide) ?_
  refine lv_iadd hx hb d_La_law_499 ?_
  have ha2 : vp_in ((nI i) + 2) L := by rw [show (2 : Int32) = nI 2 by decide +kernel, nI_add]; exact vp_in_nI (by omega) (by omega)
  refine va_sld hx hb hX hbl hbA hS ha2 d_La_law_500 ?_
  refine lv_i2l hx hb d_La_law_501 rfl ?_
  refine lv_ldc2 (v := 4294967295) hx hb hown (k_La_128 hC) d_La_law_502 ?_
  refine lv_land hx hb d_La_law_505 ?_
  refine lv_lor hx hb d_La_law_506 ?_
  refine lv_aload_n hx hb d_La_law_507 rfl (lv_at hl 4 rfl) ?_
  refine lv_iload hx hb d_La_law_508 (lv_at hl 0 rfl) ?_
  refine lv_iconst (v := 3) hx hb d_La_law_510 (by decide) ?_
  refine lv_iadd hx hb d_La_law_511 ?_
  have ha3 : vp_in ((nI i) + 3) L := by rw [show (3 : Int32) = nI 3 by decide +kernel, nI_add]; exact vp_in_nI (by omega) (by omega)
  refine va_sld hx hb hX hbl hbA hS ha3 d_La_law_512 ?_
  refine lv_aload_n hx hb d_La_law_513 rfl (lv_at hl 1 rfl) ?_
  refine gx_call (ix_S (As := [.ref (A 0), .long (((xs ((nI i) + 1).toNatClampNeg).toInt64 <<< ((32 : Int32).toInt64 &&& 63)) ||| ((xs ((nI i) + 2).toNatClampNeg).toInt64 &&& 4294967295)), .int (xs ((nI i) + 3).toNatClampNeg), .ref oo]) (rest := []) hx hb hown (k_La_130 hC) (ks_La_sign hC) (kn_La hC) (mx_Is.with (args := #[]) (kc_La_sign hC)) kh_La_sign rfl kp_La_sign rfl d_La_law_514) (L_sign l hl0 G A XS XF XL oo FO (((xs ((nI i) + 1).toNatClampNeg).toInt64 <<< ((32 : Int32).toInt64 &&& 63)) ||| ((xs ((nI i) + 2).toNatClampNeg).toInt64 &&& 4294967295)) (xs ((nI i) + 3).toNatClampNeg) hta) (kc_La_sign hC) rfl (mx_Is.with (args := #[]) (kc_La_sign hC)) (kn_La hC) hb hC hP hD hS (by decide) ⟨by show cs + 1 ≤ 1087; omega, by show sl + 6 ≤ 10306; omega⟩ hsize (Nat.le_of_ble_eq_true rfl) d_La_law_514 (fun v w' H locs hPo hP hD hS => ?_) (fun _ _ _ _ _ _ hPx => hPx.elim)
  obtain ⟨rfl, hn1, hn2⟩ := hPo
  obtain ⟨hT, hok, hbad⟩ := P_sign G B XS XF XL ZS ZF (((xs ((nI i) + 1).toNatClampNeg).toInt64 <<< ((32 : Int32).toInt64 &&& 63)) ||| ((xs ((nI i) + 2).toNatClampNeg).toInt64 &&& 4294967295)) (xs ((nI i) + 3).toNatClampNeg) hI
  generalize hk : cod [eIO, eUO] (th_sign (xs ((nI i) + 3).toNatClampNeg) (XS 2)) = k at hT ⊢
  refine W.eq (g2 := F0 m 517 ls [.int k]) rfl ?_
  refine lv_istore (lv' := [(5, .int k), (4, .int (nI i)), (3, .ref oo), (2, .ref (B 0)), (1, .ref (A 0)), (0, .ref b)]) hx hb d_La_law_517 hl (by decide) rfl (fun ls hl => ?_)
  have hsize : ls.size = c.maxLocals := by rw [hml]; exact hl.1
  refine lv_aload_n hx hb d_La_law_519 rfl (lv_at hl 3 rfl) ?_
  refine lv_aload_n hx hb d_La_law_520 rfl (lv_at hl 5 rfl) ?_
  refine lv_iload hx hb d_La_law_521 (lv_at hl 1 rfl) ?_
  refine lv_iconst (v := 1) hx hb d_La_law_523 (by decide) ?_
  refine lv_iadd hx hb d_La_law_524 ?_
  refine va_sld hx hb hX hbl hbA hS ha1 d_La_law_525 ?_
  refine lv_i2l hx hb d_La_law_526 rfl ?_
  refine lv_bipush (v := 32) hx hb d_La_law_527 (by decide) ?_
  refine lv_lshl hx hb d_La_law_529 rfl ?_
  refine lv_aload_n hx hb d_La_law_530 rfl (lv_at hl 5 rfl) ?_
  refine lv_iload hx hb d_La_law_531 (lv_at hl 1 rfl) ?_
  refine lv_iconst (v := 2) hx hb d_La_law_533 (by decide) ?_
  refine lv_iadd hx hb d_La_law_534 ?_
  refine va_sld hx hb hX hbl hbA hS ha2 d_La_law_535 ?_
  refine lv_i2l hx hb d_La_law_536 rfl ?_
  refine lv_ldc2 (v := 4294967295) hx hb hown (k_La_128 hC) d_La_law_537 ?_
  refine lv_land hx hb d_La_law_540 ?_
  refine lv_lor hx hb d_La_law_541 ?_
  refine lv_aload_n hx hb d_La_law_542 rfl (lv_at hl 5 rfl) ?_
  refine lv_iload hx hb d_La_law_543 (lv_at hl 1 rfl) ?_
  refine lv_iconst (v := 3) hx hb d_La_law_545 (by decide) ?_
  refine lv_iadd hx hb d_La_law_546 ?_
  refine va_sld hx hb hX hbl hbA hS ha3 d_La_law_547 ?_
  obtain ⟨hP, hD⟩ := gl_swap hP hD
  refine gx_call (ix_V (As := [.long (((xs ((nI i) + 1).toNatClampNeg).toInt64 <<< ((32 : Int32).toInt64 &&& 63)) ||| ((xs ((nI i) + 2).toNatClampNeg).toInt64 &&& 4294967295)), .int (xs ((nI i) + 3).toNatClampNeg)]) (rest := []) hx hb hown (k_La_133 hC) (ki_Mo_sign hC) (kv_Mo_sign hC) (mx_Is.code (args := #[]) (kc_Mo_sign hC)) kh_Mo_sign (va_recv hC.K hP (ci := 10) (q0 := 0) rfl rfl) rfl kp_Mo_sign rfl d_La_law_548) (M_sign l hl0 G B XS XF XL ZS ZF (((xs ((nI i) + 1).toNatClampNeg).toInt64 <<< ((32 : Int32).toInt64 &&& 63)) ||| ((xs ((nI i) + 2).toNatClampNeg).toInt64 &&& 4294967295)) (xs ((nI i) + 3).toNatClampNeg) hta) (kc_Mo_sign hC) rfl (mx_Is.code (args := #[]) (kc_Mo_sign hC)) (kn_Mo hC) hb hC hP hD hS (by decide) ⟨by show cs + 1 + 0 ≤ 1087; omega, by show sl + 6 + 0 ≤ 10306; omega⟩ hsize (Nat.le_of_ble_eq_true rfl) d_La_law_548 (fun v w2 H locs hMo hP hD hS => ?_) (fun _ _ _ _ _ _ hPx => hPx.elim)
  rcases hMo with ⟨hT0, rfl, rfl⟩ | ⟨hT0, rfl, rfl⟩
  · have ht : th_sign (xs ((nI i) + 3).toNatClampNeg) (XS 2) = none := cod_none (hk.trans (hT.trans hT0)) (by decide)
    obtain rfl := hn1 ht
    obtain ⟨⟨hw, hI1⟩, hrv⟩ := hok ht
    rw [hw] at hP hD
    have hk0 : k = 0 := hT.trans hT0
    subst hk0
    refine W.eq (g2 := F0 m 551 ls [.int ((XS 2) + (xs ((nI i) + 3).toNatClampNeg))]) rfl ?_
    refine lv_istore (lv' := [(6, .int ((XS 2) + (xs ((nI i) + 3).toNatClampNeg))), (5, .int 0), (4, .int (nI i)), (3, .ref oo), (2, .ref (B 0)), (1, .ref (A 0)), (0, .ref b)]) hx hb d_La_law_551 hl (by decide) rfl (fun ls hl => ?_)
    have hsize : ls.size = c.maxLocals := by rw [hml]; exact hl.1
    refine lv_aload_n hx hb d_La_law_553 rfl (lv_at hl 4 rfl) ?_
    refine px_callN (ix_V (As := []) (rest := []) hx hb hown (k_La_107 hC) (ki_Mo_thrown hC) (kv_Mo_thrown hC) (mx_Is.code (args := #[]) (kc_Mo_thrown hC)) kh_Mo_thrown (va_recv hC.K hP (ci := 10) (q0 := 0) rfl rfl) rfl kp_Mo_thrown rfl d_La_law_554) (M_thrown l hl0 G B (uS XS 2 ((XS 2) + (xs ((nI i) + 3).toNatClampNeg))) (uF XF 7 (wr_all (((xs ((nI i) + 1).toNatClampNeg).toInt64 <<< ((32 : Int32).toInt64 &&& 63)) ||| ((xs ((nI i) + 2).toNatClampNeg).toInt64 &&& 4294967295)) (xs ((nI i) + 3).toNatClampNeg).toNatClampNeg (XS 2).toNatClampNeg (XF 7))) XL (uS ZS 1 0) ZF) (kc_Mo_thrown hC) rfl (mx_Is.code (args := #[]) (kc_Mo_thrown hC)) (kn_Mo hC) hb hC (gl_leftP hP).1 (gl_leftD hD) hS (by decide) ⟨by show cs + 1 + 0 ≤ 1087; omega, by show sl + 6 + 0 ≤ 10306; omega⟩ hsize (Nat.le_of_ble_eq_true rfl) d_La_law_554 ?_
    refine W.eq (g2 := F0 m 557 ls [.int 0]) rfl ?_
    refine lv_iload hx hb d_La_law_557 (lv_at hl 1 rfl) ?_
    refine lv_icmp_eq (tgt := 564) hx hb d_La_law_559 (by decide) (fun _ => ?_) (fun c_559 => absurd c_559 (by decide))
    refine lv_iload hx hb d_La_law_564 (lv_at hl 1 rfl) ?_
    refine lv_if_ne (tgt := 581) hx hb d_La_law_566 (by decide) (fun c_566 => absurd c_566 (by decide)) (fun _ => ?_)
    refine lv_aload_n hx hb d_La_law_569 rfl (lv_at hl 3 rfl) ?_
    refine lv_iconst (v := 0) hx hb d_La_law_570 (by decide) ?_
    refine va_lald hx hb hC.K hP 23 2 rfl rfl (vp_in_nI (n := 0) (by decide) (by decide)) d_La_law_571 ?_
    refine lv_iload hx hb d_La_law_572 (lv_at hl 0 rfl) ?_
    refine lv_i2l hx hb d_La_law_574 rfl ?_
    refine W.lcmp hx hb d_La_law_575 ?_
    refine lv_if_eq (tgt := 581) hx hb d_La_law_576 (by decide) (fun c_576 => ?_) (fun c_576 => ?_)
    · rw [lg_cmp_eq] at c_576
      refine lv_goto (tgt := 1559) hx hb d_La_law_581 (by decide) ?_
      obtain ⟨hP, hD⟩ := gl_swap hP hD
      exact kk (vp_updL FO (0 : Int32).toNatClampNeg (((XS 2) + (xs ((nI i) + 3).toNatClampNeg)).toInt64)) (uS XS 2 ((XS 2) + (xs ((nI i) + 3).toNatClampNeg))) (uF XF 7 (wr_all (((xs ((nI i) + 1).toNatClampNeg).toInt64 <<< ((32 : Int32).toInt64 &&& 63)) ||| ((xs ((nI i) + 2).toNatClampNeg).toInt64 &&& 4294967295)) (xs ((nI i) + 3).toNatClampNeg).toNatClampNeg (XS 2).toNatClampNeg (XF 7))) XL (uS ZS 1 0) ZF _ _ ls hI1 hP hD hS (lv_sub hl [2, 3, 4, 5, 6] rfl)
    · rw [lg_cmp_eq] at c_576; exact absurd (by rw [pk_uLs, hrv]) c_576
  · have ht : ¬ th_sign (xs ((nI i) + 3).toNatClampNeg) (XS 2) = none := fun q => hT0 (by rw [← hT, ← hk, q]; rfl)
    obtain rfl := hn2 ht
    obtain ⟨hw, hI1⟩ := hbad ht
    rw [hw] at hP hD
    have hk0 : ¬ k = 0 := fun q => hT0 (hT.symm.trans q)
    refine W.eq (g2 := F0 m 551 ls [.int 0]) rfl ?_
    refine lv_istore (lv' := [(6, .int 0), (5, .int k), (4, .int (nI i)), (3, .ref oo), (2, .ref (B 0)), (1, .ref (A 0)), (0, .ref b)]) hx hb d_La_law_551 hl (by decide) rfl (fun ls hl => ?_)
    have hsize : ls.size = c.maxLocals := by rw [hml]; exact hl.1
    refine lv_aload_n hx hb d_La_law_553 rfl (lv_at hl 4 rfl) ?_
    refine px_callN (ix_V (As := []) (rest := []) hx hb hown (k_La_107 hC) (ki_Mo_thrown hC) (kv_Mo_thrown hC) (mx_Is.code (args := #[]) (kc_Mo_thrown hC)) kh_Mo_thrown (va_recv hC.K hP (ci := 10) (q0 := 0) rfl rfl) rfl kp_Mo_thrown rfl d_La_law_554) (M_thrown l hl0 G B XS XF XL (uS ZS 1 ((if ¬ (1 ≤ (xs ((nI i) + 3).toNatClampNeg) ∧ (xs ((nI i) + 3).toNatClampNeg) ≤ 8) then 1 else (if ¬ ((XS 2) + (xs ((nI i) + 3).toNatClampNeg)) ≤ 200 then 2 else 0)) : Int32)) ZF) (kc_Mo_thrown hC) rfl (mx_Is.code (args := #[]) (kc_Mo_thrown hC)) (kn_Mo hC) hb hC (gl_leftP hP).1 (gl_leftD hD) hS (by decide) ⟨by show cs + 1 + 0 ≤ 1087; omega, by show sl + 6 + 0 ≤ 10306; omega⟩ hsize (Nat.le_of_ble_eq_true rfl) d_La_law_554 ?_
    refine W.eq (g2 := F0 m 557 ls [.int ((if ¬ (1 ≤ (xs ((nI i) + 3).toNatClampNeg) ∧ (xs ((nI i) + 3).toNatClampNeg) ≤ 8) then 1 else (if ¬ ((XS 2) + (xs ((nI i) + 3).toNatClampNeg)) ≤ 200 then 2 else 0)) : Int32)]) rfl ?_
    refine lv_iload hx hb d_La_law_557 (lv_at hl 1 rfl) ?_
    refine lv_icmp_eq (tgt := 564) hx hb d_La_law_559 (by decide) (fun c_559 => ?_) (fun c_559 => ?_)
    · refine lv_iload hx hb d_La_law_564 (lv_at hl 1 rfl) ?_
      refine lv_if_ne (tgt := 581) hx hb d_La_law_566 (by decide) (fun c_566 => ?_) (fun c_566 => ?_)
      · refine lv_goto (tgt := 1559) hx hb d_La_law_581 (by decide) ?_
        obtain ⟨hP, hD⟩ := gl_swap hP hD
        exact kk FO XS XF XL (uS ZS 1 ((if ¬ (1 ≤ (xs ((nI i) + 3).toNatClampNeg) ∧ (xs ((nI i) + 3).toNatClampNeg) ≤ 8) then 1 else (if ¬ ((XS 2) + (xs ((nI i) + 3).toNatClampNeg)) ≤ 200 then 2 else 0)) : Int32)) ZF _ _ ls hI1 hP hD hS (lv_sub hl [2, 3, 4, 5, 6] rfl)
      · exact absurd c_566 hk0
    · exact absurd hT.symm c_559
set_option maxHeartbeats 4000000 in
set_option maxRecDepth 100000 in
theorem case_7 {p : Program} {l : Launch} {e : Env} {s : State} {m : MethodId} {below : List Frame} {meth : Method} {c : Code} (hl0 : l.stackTraces = false) {G : GG} (hC : g_C G s) (hx : p.tables.exec = Jvm.exec) (hb : c.code = code) (hml : c.maxLocals = 8) (hown : s.vm.findClass R_La = some m.cls) {b L : Nat} {xs : Nat → Int32} (hX : va_X b L xs s s.heap) (hbl : b < s.heap.size) (hbA : ¬ g_A G b) {Q : State → Prop} {A B : Nat → Nat} {oo : Nat} {XS : Nat → Int32} {XF : Nat → Nat → Int32} {XL : Nat → Int64} {ZS : Nat → Int32} {ZF : Nat → Nat → Int32} {FO : Nat → Int64} (hI : INV XS XF ZF) {i : Nat} (hi : i + 5 ≤ L) (hL : L ≤ 2560) {cs sl : Nat} (hcs : cs + 1 ≤ 1087) (hsl : sl + 6 ≤ 10306) {H : Heap} {locs : List Loc} (hP : va_P G.1 g_cl (((oo, .inl (G.2.1 2, 1, .inr (.inl FO))) :: wcb G A XS XF XL) ++ (wmo G B XS XF XL ZS ZF ++ [])) H) (hD : va_D (g_A G) (((oo, .inl (G.2.1 2, 1, .inr (.inl FO))) :: wcb G A XS XF XL) ++ (wmo G B XS XF XL ZS ZF ++ []))) (hS : va_S (g_A G) s.heap H locs) {ls : Array Slot} (hl : lv_has ls 8 [(4, .int (nI i)), (3, .ref oo), (2, .ref (B 0)), (1, .ref (A 0)), (0, .ref b)]) (kk : ∀ (FO' : Nat → Int64) (XS' : Nat → Int32) (XF' : Nat → Nat → Int32) (XL' : Nat → Int64) (ZS' : Nat → Int32) (ZF' : Nat → Nat → Int32) (H' : Heap) (locs' : List Loc) (ls' : Array Slot), INV XS' XF' ZF' → va_P G.1 g_cl (((oo, .inl (G.2.1 2, 1, .inr (.inl FO'))) :: wcb G A XS' XF' XL') ++ (wmo G B XS' XF' XL' ZS' ZF' ++ [])) H' → va_D (g_A G) (((oo, .inl (G.2.1 2, 1, .inr (.inl FO'))) :: wcb G A XS' XF' XL') ++ (wmo G B XS' XF' XL' ZS' ZF' ++ [])) → va_S (g_A G) s.heap H' locs' → lv_has ls' 8 [(4, .int (nI i)), (3, .ref oo), (2, .ref (B 0)), (1, .ref (A 0)), (0, .ref b)] → W p l e room_1 s m #[Value.ref b] below meth c H' locs' (cs + 1) (sl + 6) Q (F0 m 1559 ls' [])) : W p l e room_1 s m #[Value.ref b] below meth c H locs cs sl Q (F0 m 584 ls []) := by
  obtain ⟨hor, hta, hre, htf, hbi, hho, hgr, hle, hcl, hbd⟩ := id hI
  have hsize : ls.size = c.maxLocals := by rw [hml]; exact hl.1
  refine lv_aload_n hx hb d_La_law_584 rfl (lv_at hl 3 rfl) ?_
  refine lv_aload_n hx hb d_La_law_585 rfl (lv_at hl 1 rfl) ?_
  refine gx_call (ix_S (As := [.ref (A 0), .ref oo]) (rest := []) hx hb hown (k_La_134 hC) (ks_La_tariff hC) (kn_La hC) (mx_Is.with (args := #[]) (kc_La_tariff hC)) kh_La_tariff rfl kp_La_tariff rfl d_La_law_586) (L_tariff l hl0 G A XS XF XL oo FO hta hre) (kc_La_tariff hC) rfl (mx_Is.with (args := #[]) (kc_La_tariff hC)) (kn_La hC) hb hC hP hD hS (by decide) ⟨by show cs + 1 ≤ 1087; omega, by show sl + 6 ≤ 10306; omega⟩ hsize (Nat.le_of_ble_eq_true rfl) d_La_law_586 (fun v w' H locs hPo hP hD hS => ?_) (fun _ _ _ _ _ _ hPx => hPx.elim)
  obtain ⟨rfl, hn1, hn2⟩ := hPo
  generalize hk : cod [eIS] (if (rd_r (rdl (XF 7) (XS 2).toNatClampNeg 0 (rs0 (XF 8) (XF 9) (XF 10) (XS 5))) (XS 2)) = -1 then none else some eIS) = k at ⊢
  refine W.eq (g2 := F0 m 589 ls [.int k]) rfl ?_
  refine lv_istore (lv' := [(5, .int k), (4, .int (nI i)), (3, .ref oo), (2, .ref (B 0)), (1, .ref (A 0)), (0, .ref b)]) hx hb d_La_law_589 hl (by decide) rfl (fun ls hl => ?_)
  have hsize : ls.size = c.maxLocals := by rw [hml]; exact hl.1
  refine lv_aload_n hx hb d_La_law_591 rfl (lv_at hl 3 rfl) ?_
  obtain ⟨hP, hD⟩ := gl_swap hP hD
  refine gx_call (ix_V (As := []) (rest := []) hx hb hown (k_La_137 hC) (ki_Mo_tariff hC) (kv_Mo_tariff hC) (mx_Is.code (args := #[]) (kc_Mo_tariff hC)) kh_Mo_tariff (va_recv hC.K hP (ci := 10) (q0 := 0) rfl rfl) rfl kp_Mo_tariff rfl d_La_law_592) (M_tariff l hl0 G B XS XF XL ZS ZF hta) (kc_Mo_tariff hC) rfl (mx_Is.code (args := #[]) (kc_Mo_tariff hC)) (kn_Mo hC) hb hC hP hD hS (by decide) ⟨by show cs + 1 + 0 ≤ 1087; omega, by show sl + 6 + 0 ≤ 10306; omega⟩ hsize (Nat.le_of_ble_eq_true rfl) d_La_law_592 (fun v w2 H locs hMo hP hD hS => ?_) (fun _ _ _ _ _ _ hPx => hPx.elim)
  rcases hMo with ⟨hT0, rfl, aa, F17, F18, F19, hF, rfl⟩ | ⟨hT0, rfl, aa, F17, F18, F19, hF8, hF9, rfl⟩
  · have ht : (if (rd_r (rdl (XF 7) (XS 2).toNatClampNeg 0 (rs0 (XF 8) (XF 9) (XF 10) (XS 5))) (XS 2)) = -1 then none else some eIS) = none := if_pos hT0
    obtain rfl := hn1 ht
    have hk0 : k = 0 := by rw [← hk, ht]; rfl
    subst hk0
    obtain ⟨hw, hI1⟩ := PA_tariff G B XS XF XL ZS ZF hI hT0 aa F17 F18 F19 hF
    rw [hw] at hP hD
    have hrv : True := trivial
    refine W.eq (g2 := F0 m 595 ls [.int ((rdl (XF 7) (XS 2).toNatClampNeg 0 (rs0 (XF 8) (XF 9) (XF 10) (XS 5))).1.2.2.2.1)]) rfl ?_
    refine lv_istore (lv' := [(6, .int ((rdl (XF 7) (XS 2).toNatClampNeg 0 (rs0 (XF 8) (XF 9) (XF 10) (XS 5))).1.2.2.2.1)), (5, .int 0), (4, .int (nI i)), (3, .ref oo), (2, .ref (B 0)), (1, .ref (A 0)), (0, .ref b)]) hx hb d_La_law_595 hl (by decide) rfl (fun ls hl => ?_)
    have hsize : ls.size = c.maxLocals := by rw [hml]; exact hl.1
    refine lv_aload_n hx hb d_La_law_597 rfl (lv_at hl 4 rfl) ?_
    refine px_callN (ix_V (As := []) (rest := []) hx hb hown (k_La_107 hC) (ki_Mo_thrown hC) (kv_Mo_thrown hC) (mx_Is.code (args := #[]) (kc_Mo_thrown hC)) kh_Mo_thrown (va_recv hC.K hP (ci := 10) (q0 := 0) rfl rfl) rfl kp_Mo_thrown rfl d_La_law_598) (M_thrown l hl0 G B (uS (uS (uS (uS (uS (uS (uS XS 12 (rd_r (rdl (XF 7) (XS 2).toNatClampNeg 0 (rs0 (XF 8) (XF 9) (XF 10) (XS 5))) (XS 2))) 2 0) 3 ((rdl (XF 7) (XS 2).toNatClampNeg 0 (rs0 (XF 8) (XF 9) (XF 10) (XS 5))).1.2.2.2.1)) 4 ((rdl (XF 7) (XS 2).toNatClampNeg 0 (rs0 (XF 8) (XF 9) (XF 10) (XS 5))).1.2.2.2.2.1)) 5 ((rdl (XF 7) (XS 2).toNatClampNeg 0 (rs0 (XF 8) (XF 9) (XF 10) (XS 5))).1.2.2.2.2.2.1)) 6 ((rdl (XF 7) (XS 2).toNatClampNeg 0 (rs0 (XF 8) (XF 9) (XF 10) (XS 5))).1.2.2.2.2.2.2.1)) 7 ((rdl (XF 7) (XS 2).toNatClampNeg 0 (rs0 (XF 8) (XF 9) (XF 10) (XS 5))).1.2.2.2.2.2.2.2)) (uF (uF (uF (uF (uF XF 8 ((rdl (XF 7) (XS 2).toNatClampNeg 0 (rs0 (XF 8) (XF 9) (XF 10) (XS 5))).1.1)) 9 ((rdl (XF 7) (XS 2).toNatClampNeg 0 (rs0 (XF 8) (XF 9) (XF 10) (XS 5))).1.2.1)) 10 ((rdl (XF 7) (XS 2).toNatClampNeg 0 (rs0 (XF 8) (XF 9) (XF 10) (XS 5))).1.2.2.1)) 11 (cpf (XF 11) (rdl (XF 7) (XS 2).toNatClampNeg 0 (rs0 (XF 8) (XF 9) (XF 10) (XS 5))).1.1 10)) 12 (cpf (XF 12) (rdl (XF 7) (XS 2).toNatClampNeg 0 (rs0 (XF 8) (XF 9) (XF 10) (XS 5))).1.2.1 10)) XL (uS (uS (uS (uS ZS 1 0) 13 (XS 2)) 14 aa) 15 0) (uF (uF (uF ZF 17 F17) 18 F18) 19 F19)) (kc_Mo_thrown hC) rfl (mx_Is.code (args := #[]) (kc_Mo_thrown hC)) (kn_Mo hC) hb hC (gl_leftP hP).1 (gl_leftD hD) hS (by decide) ⟨by show cs + 1 + 0 ≤ 1087; omega, by show sl + 6 + 0 ≤ 10306; omega⟩ hsize (Nat.le_of_ble_eq_true rfl) d_La_law_598 ?_
    refine W.eq (g2 := F0 m 601 ls [.int 0]) rfl ?_
    refine lv_iload hx hb d_La_law_601 (lv_at hl 1 rfl) ?_
    refine lv_icmp_eq (tgt := 608) hx hb d_La_law_603 (by decide) (fun _ => ?_) (fun c_603 => absurd c_603 (by decide))
    refine lv_iload hx hb d_La_law_608 (lv_at hl 1 rfl) ?_
    refine lv_if_ne (tgt := 625) hx hb d_La_law_610 (by decide) (fun c_610 => absurd c_610 (by decide)) (fun _ => ?_)
    refine lv_aload_n hx hb d_La_law_613 rfl (lv_at hl 3 rfl) ?_
    refine lv_iconst (v := 0) hx hb d_La_law_614 (by decide) ?_
    refine va_lald hx hb hC.K hP 23 2 rfl rfl (vp_in_nI (n := 0) (by decide) (by decide)) d_La_law_615 ?_
    refine lv_iload hx hb d_La_law_616 (lv_at hl 0 rfl) ?_
    refine lv_i2l hx hb d_La_law_618 rfl ?_
    refine W.lcmp hx hb d_La_law_619 ?_
    refine lv_if_eq (tgt := 625) hx hb d_La_law_620 (by decide) (fun c_620 => ?_) (fun c_620 => ?_)
    · rw [lg_cmp_eq] at c_620
      refine lv_goto (tgt := 1559) hx hb d_La_law_625 (by decide) ?_
      obtain ⟨hP, hD⟩ := gl_swap hP hD
      exact kk (vp_updL FO (0 : Int32).toNatClampNeg (((rdl (XF 7) (XS 2).toNatClampNeg 0 (rs0 (XF 8) (XF 9) (XF 10) (XS 5))).1.2.2.2.1).toInt64)) (uS (uS (uS (uS (uS (uS (uS XS 12 (rd_r (rdl (XF 7) (XS 2).toNatClampNeg 0 (rs0 (XF 8) (XF 9) (XF 10) (XS 5))) (XS 2))) 2 0) 3 ((rdl (XF 7) (XS 2).toNatClampNeg 0 (rs0 (XF 8) (XF 9) (XF 10) (XS 5))).1.2.2.2.1)) 4 ((rdl (XF 7) (XS 2).toNatClampNeg 0 (rs0 (XF 8) (XF 9) (XF 10) (XS 5))).1.2.2.2.2.1)) 5 ((rdl (XF 7) (XS 2).toNatClampNeg 0 (rs0 (XF 8) (XF 9) (XF 10) (XS 5))).1.2.2.2.2.2.1)) 6 ((rdl (XF 7) (XS 2).toNatClampNeg 0 (rs0 (XF 8) (XF 9) (XF 10) (XS 5))).1.2.2.2.2.2.2.1)) 7 ((rdl (XF 7) (XS 2).toNatClampNeg 0 (rs0 (XF 8) (XF 9) (XF 10) (XS 5))).1.2.2.2.2.2.2.2)) (uF (uF (uF (uF (uF XF 8 ((rdl (XF 7) (XS 2).toNatClampNeg 0 (rs0 (XF 8) (XF 9) (XF 10) (XS 5))).1.1)) 9 ((rdl (XF 7) (XS 2).toNatClampNeg 0 (rs0 (XF 8) (XF 9) (XF 10) (XS 5))).1.2.1)) 10 ((rdl (XF 7) (XS 2).toNatClampNeg 0 (rs0 (XF 8) (XF 9) (XF 10) (XS 5))).1.2.2.1)) 11 (cpf (XF 11) (rdl (XF 7) (XS 2).toNatClampNeg 0 (rs0 (XF 8) (XF 9) (XF 10) (XS 5))).1.1 10)) 12 (cpf (XF 12) (rdl (XF 7) (XS 2).toNatClampNeg 0 (rs0 (XF 8) (XF 9) (XF 10) (XS 5))).1.2.1 10)) XL (uS (uS (uS (uS ZS 1 0) 13 (XS 2)) 14 aa) 15 0) (uF (uF (uF ZF 17 F17) 18 F18) 19 F19) _ _ ls hI1 hP hD hS (lv_sub hl [2, 3, 4, 5, 6] rfl)
    · rw [lg_cmp_eq] at c_620; exact absurd (by rw [pk_uLs]) c_620
  · have ht : ¬ (if (rd_r (rdl (XF 7) (XS 2).toNatClampNeg 0 (rs0 (XF 8) (XF 9) (XF 10) (XS 5))) (XS 2)) = -1 then none else some eIS) = none := fun q => hT0 (ifnn q)
    obtain rfl := hn2 ht
    have hT : k = 1 := by rw [← hk, if_neg hT0]; decide +kernel
    have hk0 : ¬ k = 0 := by rw [hT]; decide
    obtain ⟨hw, hI1⟩ := PB_tariff G B XS XF XL ZS ZF hI aa F17 F18 F19 hF8 hF9
    rw [hw] at hP hD
    refine W.eq (g2 := F0 m 595 ls [.int 0]) rfl ?_
    refine lv_istore (lv' := [(6, .int 0), (5, .int k), (4, .int (nI i)), (3, .ref oo), (2, .ref (B 0)), (1, .ref (A 0)), (0, .ref b)]) hx hb d_La_law_595 hl (by decide) rfl (fun ls hl => ?_)
    have hsize : ls.size = c.maxLocals := by rw [hml]; exact hl.1
    refine lv_aload_n hx hb d_La_law_597 rfl (lv_at hl 4 rfl) ?_
    refine px_callN (ix_V (As := []) (rest := []) hx hb hown (k_La_107 hC) (ki_Mo_thrown hC) (kv_Mo_thrown hC) (mx_Is.code (args := #[]) (kc_Mo_thrown hC)) kh_Mo_thrown (va_recv hC.K hP (ci := 10) (q0 := 0) rfl rfl) rfl kp_Mo_thrown rfl d_La_law_598) (M_thrown l hl0 G B (uS (uS (uS (uS (uS (uS (uS XS 12 (rd_r (rdl (XF 7) (XS 2).toNatClampNeg 0 (rs0 (XF 8) (XF 9) (XF 10) (XS 5))) (XS 2))) 2 0) 3 ((rdl (XF 7) (XS 2).toNatClampNeg 0 (rs0 (XF 8) (XF 9) (XF 10) (XS 5))).1.2.2.2.1)) 4 ((rdl (XF 7) (XS 2).toNatClampNeg 0 (rs0 (XF 8) (XF 9) (XF 10) (XS 5))).1.2.2.2.2.1)) 5 ((rdl (XF 7) (XS 2).toNatClampNeg 0 (rs0 (XF 8) (XF 9) (XF 10) (XS 5))).1.2.2.2.2.2.1)) 6 ((rdl (XF 7) (XS 2).toNatClampNeg 0 (rs0 (XF 8) (XF 9) (XF 10) (XS 5))).1.2.2.2.2.2.2.1)) 7 ((rdl (XF 7) (XS 2).toNatClampNeg 0 (rs0 (XF 8) (XF 9) (XF 10) (XS 5))).1.2.2.2.2.2.2.2)) (uF (uF (uF XF 8 ((rdl (XF 7) (XS 2).toNatClampNeg 0 (rs0 (XF 8) (XF 9) (XF 10) (XS 5))).1.1)) 9 ((rdl (XF 7) (XS 2).toNatClampNeg 0 (rs0 (XF 8) (XF 9) (XF 10) (XS 5))).1.2.1)) 10 ((rdl (XF 7) (XS 2).toNatClampNeg 0 (rs0 (XF 8) (XF 9) (XF 10) (XS 5))).1.2.2.1)) XL (uS (uS (uS (uS ZS 1 1) 13 (XS 2)) 14 aa) 15 1) (uF (uF (uF ZF 17 F17) 18 F18) 19 F19)) (kc_Mo_thrown hC) rfl (mx_Is.code (args := #[]) (kc_Mo_thrown hC)) (kn_Mo hC) hb hC (gl_leftP hP).1 (gl_leftD hD) hS (by decide) ⟨by show cs + 1 + 0 ≤ 1087; omega, by show sl + 6 + 0 ≤ 10306; omega⟩ hsize (Nat.le_of_ble_eq_true rfl) d_La_law_598 ?_
    refine W.eq (g2 := F0 m 601 ls [.int 1]) rfl ?_
    refine lv_iload hx hb d_La_law_601 (lv_at hl 1 rfl) ?_
    refine lv_icmp_eq (tgt := 608) hx hb d_La_law_603 (by decide) (fun c_603 => ?_) (fun c_603 => ?_)
    · refine lv_iload hx hb d_La_law_608 (lv_at hl 1 rfl) ?_
      refine lv_if_ne (tgt := 625) hx hb d_La_law_610 (by decide) (fun c_610 => ?_) (fun c_610 => ?_)
      · refine lv_goto (tgt := 1559) hx hb d_La_law_625 (by decide) ?_
        obtain ⟨hP, hD⟩ := gl_swap hP hD
        exact kk FO (uS (uS (uS (uS (uS (uS (uS XS 12 (rd_r (rdl (XF 7) (XS 2).toNatClampNeg 0 (rs0 (XF 8) (XF 9) (XF 10) (XS 5))) (XS 2))) 2 0) 3 ((rdl (XF 7) (XS 2).toNatClampNeg 0 (rs0 (XF 8) (XF 9) (XF 10) (XS 5))).1.2.2.2.1)) 4 ((rdl (XF 7) (XS 2).toNatClampNeg 0 (rs0 (XF 8) (XF 9) (XF 10) (XS 5))).1.2.2.2.2.1)) 5 ((rdl (XF 7) (XS 2).toNatClampNeg 0 (rs0 (XF 8) (XF 9) (XF 10) (XS 5))).1.2.2.2.2.2.1)) 6 ((rdl (XF 7) (XS 2).toNatClampNeg 0 (rs0 (XF 8) (XF 9) (XF 10) (XS 5))).1.2.2.2.2.2.2.1)) 7 ((rdl (XF 7) (XS 2).toNatClampNeg 0 (rs0 (XF 8) (XF 9) (XF 10) (XS 5))).1.2.2.2.2.2.2.2)) (uF (uF (uF XF 8 ((rdl (XF 7) (XS 2).toNatClampNeg 0 (rs0 (XF 8) (XF 9) (XF 10) (XS 5))).1.1)) 9 ((rdl (XF 7) (XS 2).toNatClampNeg 0 (rs0 (XF 8) (XF 9) (XF 10) (XS 5))).1.2.1)) 10 ((rdl (XF 7) (XS 2).toNatClampNeg 0 (rs0 (XF 8) (XF 9) (XF 10) (XS 5))).1.2.2.1)) XL (uS (uS (uS (uS ZS 1 1) 13 (XS 2)) 14 aa) 15 1) (uF (uF (uF ZF 17 F17) 18 F18) 19 F19) _ _ ls hI1 hP hD hS (lv_sub hl [2, 3, 4, 5, 6] rfl)
      · exact absurd c_610 hk0
    · exact absurd hT.symm c_603
set_option maxHeartbeats 4000000 in
set_option maxRecDepth 100000 in
theorem case_8 {p : Program} {l : Launch} {e : Env} {s : State} {m : MethodId} {below : List Frame} {meth : Method} {c : Code} (hl0 : l.stackTraces = false) {G : GG} (hC : g_C G s) (hx : p.tables.exec = Jvm.exec) (hb : c.code = code) (hml : c.maxLocals = 8) (hown : s.vm.findClass R_La = some m.cls) {b L : Nat} {xs : Nat → Int32} (hX : va_X b L xs s s.heap) (hbl : b < s.heap.size) (hbA : ¬ g_A G b) {Q : State → Prop} {A B : Nat → Nat} {oo : Nat} {XS : Nat → Int32} {XF : Nat → Nat → Int32} {XL : Nat → Int64} {ZS : Nat → Int32} {ZF : Nat → Nat → Int32} {FO : Nat → Int64} (hI : INV XS XF ZF) {i : Nat} (hi : i + 5 ≤ L) (hL : L ≤ 2560) {cs sl : Nat} (hcs : cs + 1 ≤ 1087) (hsl : sl + 6 ≤ 10306) {H : Heap} {locs : List Loc} (hP : va_P G.1 g_cl (((oo, .inl (G.2.1 2, 1, .inr (.inl FO))) :: wcb G A XS XF XL) ++ (wmo G B XS XF XL ZS ZF ++ [])) H) (hD : va_D (g_A G) (((oo, .inl (G.2.1 2, 1, .inr (.inl FO))) :: wcb G A XS XF XL) ++ (wmo G B XS XF XL ZS ZF ++ []))) (hS : va_S (g_A G) s.heap H locs) {ls : Array Slot} (hl : lv_has ls 8 [(4, .int (nI i)), (3, .ref oo), (2, .ref (B 0)), (1, .ref (A 0)), (0, .ref b)]) (kk : ∀ (FO' : Nat → Int64) (XS' : Nat → Int32) (XF' : Nat → Nat → Int32) (XL' : Nat → Int64) (ZS' : Nat → Int32) (ZF' : Nat → Nat → Int32) (H' : Heap) (locs' : List Loc) (ls' : Array Slot), INV XS' XF' ZF' → va_P G.1 g_cl (((oo, .inl (G.2.1 2, 1, .inr (.inl FO'))) :: wcb G A XS' XF' XL') ++ (wmo G B XS' XF' XL' ZS' ZF' ++ [])) H' → va_D (g_A G) (((oo, .inl (G.2.1 2, 1, .inr (.inl FO'))) :: wcb G A XS' XF' XL') ++ (wmo G B XS' XF' XL' ZS' ZF' ++ [])) → va_S (g_A G) s.heap H' locs' → lv_has ls' 8 [(4, .int (nI i)), (3, .ref oo), (2, .ref (B 0)), (1, .ref (A 0)), (0, .ref b)] → W p l e room_1 s m #[Value.ref b] below meth c H' locs' (cs + 1) (sl + 6) Q (F0 m 1559 ls' [])) : W p l e room_1 s m #[Value.ref b] below meth c H locs cs sl Q (F0 m 628 ls []) := by
  obtain ⟨hor, hta, hre, htf, hbi, hho, hgr, hle, hcl, hbd⟩ := id hI
  have hsize : ls.size = c.maxLocals := by rw [hml]; exact hl.1
  refine lv_aload_n hx hb d_La_law_628 rfl (lv_at hl 3 rfl) ?_
  refine px_callN (ix_V (As := []) (rest := []) hx hb hown (k_La_138 hC) (ki_CB_place hC) (kv_CB_place hC) (mx_Is.code (args := #[]) (kc_CB_place hC)) kh_CB_place (va_recv hC.K hP (ci := 0) (q0 := 1) rfl rfl) rfl kp_CB_place rfl d_La_law_629) (C_place l hl0 G A XS XF XL oo FO) (kc_CB_place hC) rfl (mx_Is.code (args := #[]) (kc_CB_place hC)) (kn_CB hC) hb hC (gl_leftP hP).1 (gl_leftD hD) hS (by decide) ⟨by show cs + 0 ≤ 1087; omega, by show sl + 0 ≤ 10306; omega⟩ hsize (Nat.le_of_ble_eq_true rfl) d_La_law_629 ?_
  refine W.eq (g2 := F0 m 632 ls [.int (XS 12)]) rfl ?_
  refine lv_aload_n hx hb d_La_law_632 rfl (lv_at hl 2 rfl) ?_
  obtain ⟨hP, hD⟩ := gl_swap hP hD
  refine gx_call (ix_V (As := []) (rest := [.int (XS 12)]) hx hb hown (k_La_141 hC) (ki_Mo_place hC) (kv_Mo_place hC) (mx_Is.code (args := #[]) (kc_Mo_place hC)) kh_Mo_place (va_recv hC.K hP (ci := 10) (q0 := 0) rfl rfl) rfl kp_Mo_place rfl d_La_law_633) (M_place l hl0 G B XS XF XL ZS ZF) (kc_Mo_place hC) rfl (mx_Is.code (args := #[]) (kc_Mo_place hC)) (kn_Mo hC) hb hC hP hD hS (by decide) ⟨by show cs + 0 ≤ 1087; omega, by show sl + 0 ≤ 10306; omega⟩ hsize (Nat.le_of_ble_eq_true rfl) d_La_law_633 (fun v w2 H locs hMo hP hD hS => ?_) (fun _ _ _ _ _ _ hPx => hPx.elim)
  obtain ⟨rfl, rfl⟩ := hMo
  refine W.eq (g2 := F0 m 636 ls [.int (XS 12), .int (XS 12)]) rfl ?_
  refine lv_icmp_eq (tgt := 1559) hx hb d_La_law_636 (by decide) (fun c_636 => ?_) (fun c_636 => ?_)
  · obtain ⟨hP, hD⟩ := gl_swap hP hD
    refine W.widen (k := cs + 1) (n := sl + 6) (Nat.le_succ _) (Nat.le_add_right _ _) ?_
    exact kk FO XS XF XL (uS ZS 1 0) ZF _ _ ls hI hP hD hS (lv_sub hl [0, 1, 2, 3, 4] rfl)
  · exact absurd rfl c_636
set_option maxHeartbeats 4000000 in
set_option maxRecDepth 100000 in
theorem case_9 {p : Program} {l : Launch} {e : Env} {s : State} {m : MethodId} {below : List Frame} {meth : Method} {c : Code} (hl0 : l.stackTraces = false) {G : GG} (hC : g_C G s) (hx : p.tables.exec = Jvm.exec) (hb : c.code = code) (hml : c.maxLocals = 8) (hown : s.vm.findClass R_La = some m.cls) {b L : Nat} {xs : Nat → Int32} (hX : va_X b L xs s s.heap) (hbl : b < s.heap.size) (hbA : ¬ g_A G b) {Q : State → Prop} {A B : Nat → Nat} {oo : Nat} {XS : Nat → Int32} {XF : Nat → Nat → Int32} {XL : Nat → Int64} {ZS : Nat → Int32} {ZF : Nat → Nat → Int32} {FO : Nat → Int64} (hI : INV XS XF ZF) {i : Nat} (hi : i + 5 ≤ L) (hL : L ≤ 2560) {cs sl : Nat} (hcs : cs + 1 ≤ 1087) (hsl : sl + 6 ≤ 10306) {H : Heap} {locs : List Loc} (hP : va_P G.1 g_cl (((oo, .inl (G.2.1 2, 1, .inr (.inl FO))) :: wcb G A XS XF XL) ++ (wmo G B XS XF XL ZS ZF ++ [])) H) (hD : va_D (g_A G) (((oo, .inl (G.2.1 2, 1, .inr (.inl FO))) :: wcb G A XS XF XL) ++ (wmo G B XS XF XL ZS ZF ++ []))) (hS : va_S (g_A G) s.heap H locs) {ls : Array Slot} (hl : lv_has ls 8 [(4, .int (nI i)), (3, .ref oo), (2, .ref (B 0)), (1, .ref (A 0)), (0, .ref b)]) (kk : ∀ (FO' : Nat → Int64) (XS' : Nat → Int32) (XF' : Nat → Nat → Int32) (XL' : Nat → Int64) (ZS' : Nat → Int32) (ZF' : Nat → Nat → Int32) (H' : Heap) (locs' : List Loc) (ls' : Array Slot), INV XS' XF' ZF' → va_P G.1 g_cl (((oo, .inl (G.2.1 2, 1, .inr (.inl FO'))) :: wcb G A XS' XF' XL') ++ (wmo G B XS' XF' XL' ZS' ZF' ++ [])) H' → va_D (g_A G) (((oo, .inl (G.2.1 2, 1, .inr (.inl FO'))) :: wcb G A XS' XF' XL') ++ (wmo G B XS' XF' XL' ZS' ZF' ++ [])) → va_S (g_A G) s.heap H' locs' → lv_has ls' 8 [(4, .int (nI i)), (3, .ref oo), (2, .ref (B 0)), (1, .ref (A 0)), (0, .ref b)] → W p l e room_1 s m #[Value.ref b] below meth c H' locs' (cs + 1) (sl + 6) Q (F0 m 1559 ls' [])) : W p l e room_1 s m #[Value.ref b] below meth c H locs cs sl Q (F0 m 641 ls []) := by
  obtain ⟨hor, hta, hre, htf, hbi, hho, hgr, hle, hcl, hbd⟩ := id hI
  have hsize : ls.size = c.maxLocals := by rw [hml]; exact hl.1
  refine lv_aload_n hx hb d_La_law_641 rfl (lv_at hl 3 rfl) ?_
  refine lv_aload_n hx hb d_La_law_642 rfl (lv_at hl 4 rfl) ?_
  refine lv_iload hx hb d_La_law_643 (lv_at hl 0 rfl) ?_
  refine lv_iconst (v := 1) hx hb d_La_law_645 (by decide) ?_
  refine lv_iadd hx hb d_La_law_646 ?_
  have ha1 : vp_in ((nI i) + 1) L := by rw [show (1 : Int32) = nI 1 by decide +kernel, nI_add]; exact vp_in_nI (by omega) (by omega)
  refine va_sld hx hb hX hbl hbA hS ha1 d_La_law_647 ?_
  refine lv_aload_n hx hb d_La_law_648 rfl (lv_at hl 4 rfl) ?_
  refine lv_iload hx hb d_La_law_649 (lv_at hl 0 rfl) ?_
  refine lv_iconst (v := 2) hx hb d_La_law_651 (by decide) ?_
  refine lv_iadd hx hb d_La_law_652 ?_
  have ha2 : vp_in ((nI i) + 2) L := by rw [show (2 : Int32) = nI 2 by decide +kernel, nI_add]; exact vp_in_nI (by omega) (by omega)
  refine va_sld hx hb hX hbl hbA hS ha2 d_La_law_653 ?_
  refine lv_aload_n hx hb d_La_law_654 rfl (lv_at hl 4 rfl) ?_
  refine lv_iload hx hb d_La_law_655 (lv_at hl 0 rfl) ?_
  refine lv_iconst (v := 3) hx hb d_La_law_657 (by decide) ?_
  refine lv_iadd hx hb d_La_law_658 ?_
  have ha3 : vp_in ((nI i) + 3) L := by rw [show (3 : Int32) = nI 3 by decide +kernel, nI_add]; exact vp_in_nI (by omega) (by omega)
  refine va_sld hx hb hX hbl hbA hS ha3 d_La_law_659 ?_
  refine lv_aload_n hx hb d_La_law_660 rfl (lv_at hl 4 rfl) ?_
  refine lv_iload hx hb d_La_law_661 (lv_at hl 0 rfl) ?_
  refine lv_iconst (v := 4) hx hb d_La_law_663 (by decide) ?_
  refine lv_iadd hx hb d_La_law_664 ?_
  have ha4 : vp_in ((nI i) + 4) L := by rw [show (4 : Int32) = nI 4 by decide +kernel, nI_add]; exact vp_in_nI (by omega) (by omega)
  refine va_sld hx hb hX hbl hbA hS ha4 d_La_law_665 ?_
  refine lv_aload_n hx hb d_La_law_666 rfl (lv_at hl 1 rfl) ?_
  refine gx_call (ix_S (As := [.ref (A 0), .int (xs ((nI i) + 1).toNatClampNeg), .int (xs ((nI i) + 2).toNatClampNeg), .int (xs ((nI i) + 3).toNatClampNeg), .int (xs ((nI i) + 4).toNatClampNeg), .ref oo]) (rest := []) hx hb hown (k_La_142 hC) (ks_La_bill hC) (kn_La hC) (mx_Is.with (args := #[]) (kc_La_bill hC)) kh_La_bill rfl kp_La_bill rfl d_La_law_667) (L_bill l hl0 G A XS XF XL oo FO (xs ((nI i) + 1).toNatClampNeg) (xs ((nI i) + 2).toNatClampNeg) (xs ((nI i) + 3).toNatClampNeg) (xs ((nI i) + 4).toNatClampNeg) (in_nn hbi.1)) (kc_La_bill hC) rfl (mx_Is.with (args := #[]) (kc_La_bill hC)) (kn_La hC) hb hC hP hD hS (by decide) ⟨by show cs + 1 ≤ 1087; omega, by show sl + 6 ≤ 10306; omega⟩ hsize (Nat.le_of_ble_eq_true rfl) d_La_law_667 (fun v w' H locs hPo hP hD hS => ?_) (fun _ _ _ _ _ _ hPx => hPx.elim)
  obtain ⟨rfl, hn1, hn2⟩ := hPo
  obtain ⟨hT, hok, hbad⟩ := P_bill G B XS XF XL ZS ZF (xs ((nI i) + 1).toNatClampNeg) (xs ((nI i) + 2).toNatClampNeg) (xs ((nI i) + 3).toNatClampNeg) (xs ((nI i) + 4).toNatClampNeg) hI
  generalize hk : cod [eIA, eIO, eIS, eUO] (th_bill (xs ((nI i) + 1).toNatClampNeg) (xs ((nI i) + 2).toNatClampNeg) (xs ((nI i) + 3).toNatClampNeg) (xs ((nI i) + 4).toNatClampNeg) ((XF 11) (xs ((nI i) + 1).toNatClampNeg).toNatClampNeg) ((XF 12) (xs ((nI i) + 1).toNatClampNeg).toNatClampNeg) (XS 8) ((((XF 11) (xs ((nI i) + 1).toNatClampNeg).toNatClampNeg).toInt64 + (((XF 12) (xs ((nI i) + 1).toNatClampNeg).toNatClampNeg).toInt64 * ((((xs ((nI i) + 2).toNatClampNeg) + 60) - 1) / 60).toInt64)) + (xs ((nI i) + 3).toNatClampNeg).toInt64)) = k at hT ⊢
  refine W.eq (g2 := F0 m 670 ls [.int k]) rfl ?_
  refine lv_istore (lv' := [(5, .int k), (4, .int (nI i)), (3, .ref oo), (2, .ref (B 0)), (1, .ref (A 0)), (0, .ref b)]) hx hb d_La_law_670 hl (by decide) rfl (fun ls hl => ?_)
  have hsize : ls.size = c.maxLocals := by rw [hml]; exact hl.1
  refine lv_aload_n hx hb d_La_law_672 rfl (lv_at hl 3 rfl) ?_
  refine lv_aload_n hx hb d_La_law_673 rfl (lv_at hl 5 rfl) ?_
  refine lv_iload hx hb d_La_law_674 (lv_at hl 1 rfl) ?_
  refine lv_iconst (v := 1) hx hb d_La_law_676 (by decide) ?_
  refine lv_iadd hx hb d_La_law_677 ?_
  refine va_sld hx hb hX hbl hbA hS ha1 d_La_law_678 ?_
  refine lv_aload_n hx hb d_La_law_679 rfl (lv_at hl 5 rfl) ?_
  refine lv_iload hx hb d_La_law_680 (lv_at hl 1 rfl) ?_
  refine lv_iconst (v := 2) hx hb d_La_law_682 (by decide) ?_
  refine lv_iadd hx hb d_La_law_683 ?_
  refine va_sld hx hb hX hbl hbA hS ha2 d_La_law_684 ?_
  refine lv_aload_n hx hb d_La_law_685 rfl (lv_at hl 5 rfl) ?_
  refine lv_iload hx hb d_La_law_686 (lv_at hl 1 rfl) ?_
  refine lv_iconst (v := 3) hx hb d_La_law_688 (by decide) ?_
  refine lv_iadd hx hb d_La_law_689 ?_
  refine va_sld hx hb hX hbl hbA hS ha3 d_La_law_690 ?_
  refine lv_aload_n hx hb d_La_law_691 rfl (lv_at hl 5 rfl) ?_
  refine lv_iload hx hb d_La_law_692 (lv_at hl 1 rfl) ?_
  refine lv_iconst (v := 4) hx hb d_La_law_694 (by decide) ?_
  refine lv_iadd hx hb d_La_law_695 ?_
  refine va_sld hx hb hX hbl hbA hS ha4 d_La_law_696 ?_
  obtain ⟨hP, hD⟩ := gl_swap hP hD
  refine gx_call (ix_V (As := [.int (xs ((nI i) + 1).toNatClampNeg), .int (xs ((nI i) + 2).toNatClampNeg), .int (xs ((nI i) + 3).toNatClampNeg), .int (xs ((nI i) + 4).toNatClampNeg)]) (rest := []) hx hb hown (k_La_145 hC) (ki_Mo_bill hC) (kv_Mo_bill hC) (mx_Is.code (args := #[]) (kc_Mo_bill hC)) kh_Mo_bill (va_recv hC.K hP (ci := 10) (q0 := 0) rfl rfl) rfl kp_Mo_bill rfl d_La_law_697) (M_bill l hl0 G B XS XF XL ZS ZF (xs ((nI i) + 1).toNatClampNeg) (xs ((nI i) + 2).toNatClampNeg) (xs ((nI i) + 3).toNatClampNeg) (xs ((nI i) + 4).toNatClampNeg) hbi.1) (kc_Mo_bill hC) rfl (mx_Is.code (args := #[]) (kc_Mo_bill hC)) (kn_Mo hC) hb hC hP hD hS (by decide) ⟨by show cs + 1 + 0 ≤ 1087; omega, by show sl + 6 + 0 ≤ 10306; omega⟩ hsize (Nat.le_of_ble_eq_true rfl) d_La_law_697 (fun v w2 H locs hMo hP hD hS => ?_) (fun _ _ _ _ _ _ hPx => hPx.elim)
  rcases hMo with ⟨hT0, rfl, rfl⟩ | ⟨hT0, rfl, rfl⟩
  · have ht : th_bill (xs ((nI i) + 1).toNatClampNeg) (xs ((nI i) + 2).toNatClampNeg) (xs ((nI i) + 3).toNatClampNeg) (xs ((nI i) + 4).toNatClampNeg) ((XF 11) (xs ((nI i) + 1).toNatClampNeg).toNatClampNeg) ((XF 12) (xs ((nI i) + 1).toNatClampNeg).toNatClampNeg) (XS 8) ((((XF 11) (xs ((nI i) + 1).toNatClampNeg).toNatClampNeg).toInt64 + (((XF 12) (xs ((nI i) + 1).toNatClampNeg).toNatClampNeg).toInt64 * ((((xs ((nI i) + 2).toNatClampNeg) + 60) - 1) / 60).toInt64)) + (xs ((nI i) + 3).toNatClampNeg).toInt64) = none := cod_none (hk.trans (hT.trans hT0)) (by decide)
    obtain rfl := hn1 ht
    obtain ⟨⟨hw, hI1⟩, hrv⟩ := hok ht
    rw [hw] at hP hD
    have hk0 : k = 0 := hT.trans hT0
    subst hk0
    refine W.eq (g2 := F0 m 700 ls [.int (((XS 8) + 1) - 1)]) rfl ?_
    refine lv_istore (lv' := [(6, .int (((XS 8) + 1) - 1)), (5, .int 0), (4, .int (nI i)), (3, .ref oo), (2, .ref (B 0)), (1, .ref (A 0)), (0, .ref b)]) hx hb d_La_law_700 hl (by decide) rfl (fun ls hl => ?_)
    have hsize : ls.size = c.maxLocals := by rw [hml]; exact hl.1
    refine lv_aload_n hx hb d_La_law_702 rfl (lv_at hl 4 rfl) ?_
    refine px_callN (ix_V (As := []) (rest := []) hx hb hown (k_La_107 hC) (ki_Mo_thrown hC) (kv_Mo_thrown hC) (mx_Is.code (args := #[]) (kc_Mo_thrown hC)) kh_Mo_thrown (va_recv hC.K hP (ci := 10) (q0 := 0) rfl rfl) rfl kp_Mo_thrown rfl d_La_law_703) (M_thrown l hl0 G B (uS XS 8 ((XS 8) + 1)) (uF (uF XF 13 (upd (XF 13) (XS 8).toNatClampNeg ((((XF 11) (xs ((nI i) + 1).toNatClampNeg).toNatClampNeg).toInt64 + (((XF 12) (xs ((nI i) + 1).toNatClampNeg).toNatClampNeg).toInt64 * ((((xs ((nI i) + 2).toNatClampNeg) + 60) - 1) / 60).toInt64)) + (xs ((nI i) + 3).toNatClampNeg).toInt64).toInt32)) 15 (upd (XF 15) (XS 8).toNatClampNeg (xs ((nI i) + 4).toNatClampNeg))) XL (uS ZS 1 0) ZF) (kc_Mo_thrown hC) rfl (mx_Is.code (args := #[]) (kc_Mo_thrown hC)) (kn_Mo hC) hb hC (gl_leftP hP).1 (gl_leftD hD) hS (by decide) ⟨by show cs + 1 + 0 ≤ 1087; omega, by show sl + 6 + 0 ≤ 10306; omega⟩ hsize (Nat.le_of_ble_eq_true rfl) d_La_law_703 ?_
    refine W.eq (g2 := F0 m 706 ls [.int 0]) rfl ?_
    refine lv_iload hx hb d_La_law_706 (lv_at hl 1 rfl) ?_
    refine lv_icmp_eq (tgt := 713) hx hb d_La_law_708 (by decide) (fun _ => ?_) (fun c_708 => absurd c_708 (by decide))
    refine lv_iload hx hb d_La_law_713 (lv_at hl 1 rfl) ?_
    refine lv_if_ne (tgt := 730) hx hb d_La_law_715 (by decide) (fun c_715 => absurd c_715 (by decide)) (fun _ => ?_)
    refine lv_aload_n hx hb d_La_law_718 rfl (lv_at hl 3 rfl) ?_
    refine lv_iconst (v := 0) hx hb d_La_law_719 (by decide) ?_
    refine va_lald hx hb hC.K hP 23 2 rfl rfl (vp_in_nI (n := 0) (by decide) (by decide)) d_La_law_720 ?_
    refine lv_iload hx hb d_La_law_721 (lv_at hl 0 rfl) ?_
    refine lv_i2l hx hb d_La_law_723 rfl ?_
    refine W.lcmp hx hb d_La_law_724 ?_
    refine lv_if_eq (tgt := 730) hx hb d_La_law_725 (by decide) (fun c_725 => ?_) (fun c_725 => ?_)
    · rw [lg_cmp_eq] at c_725
      refine lv_goto (tgt := 1559) hx hb d_La_law_730 (by decide) ?_
      obtain ⟨hP, hD⟩ := gl_swap hP hD
      exact kk (vp_updL FO (0 : Int32).toNatClampNeg ((((XS 8) + 1) - 1).toInt64)) (uS XS 8 ((XS 8) + 1)) (uF (uF XF 13 (upd (XF 13) (XS 8).toNatClampNeg ((((XF 11) (xs ((nI i) + 1).toNatClampNeg).toNatClampNeg).toInt64 + (((XF 12) (xs ((nI i) + 1).toNatClampNeg).toNatClampNeg).toInt64 * ((((xs ((nI i) + 2).toNatClampNeg) + 60) - 1) / 60).toInt64)) + (xs ((nI i) + 3).toNatClampNeg).toInt64).toInt32)) 15 (upd (XF 15) (XS 8).toNatClampNeg (xs ((nI i) + 4).toNatClampNeg))) XL (uS ZS 1 0) ZF _ _ ls hI1 hP hD hS (lv_sub hl [2, 3, 4, 5, 6] rfl)
    · rw [lg_cmp_eq] at c_725; exact absurd (by rw [pk_uLs, hrv]) c_725
  · have ht : ¬ th_bill (xs ((nI i) + 1).toNatClampNeg) (xs ((nI i) + 2).toNatClampNeg) (xs ((nI i) + 3).toNatClampNeg) (xs ((nI i) + 4).toNatClampNeg) ((XF 11) (xs ((nI i) + 1).toNatClampNeg).toNatClampNeg) ((XF 12) (xs ((nI i) + 1).toNatClampNeg).toNatClampNeg) (XS 8) ((((XF 11) (xs ((nI i) + 1).toNatClampNeg).toNatClampNeg).toInt64 + (((XF 12) (xs ((nI i) + 1).toNatClampNeg).toNatClampNeg).toInt64 * ((((xs ((nI i) + 2).toNatClampNeg) + 60) - 1) / 60).toInt64)) + (xs ((nI i) + 3).toNatClampNeg).toInt64) = none := fun q => hT0 (by rw [← hT, ← hk, q]; rfl)
    obtain rfl := hn2 ht
    obtain ⟨hw, hI1⟩ := hbad ht
    rw [hw] at hP hD
    have hk0 : ¬ k = 0 := fun q => hT0 (hT.symm.trans q)
    refine W.eq (g2 := F0 m 700 ls [.int 0]) rfl ?_
    refine lv_istore (lv' := [(6, .int 0), (5, .int k), (4, .int (nI i)), (3, .ref oo), (2, .ref (B 0)), (1, .ref (A 0)), (0, .ref b)]) hx hb d_La_law_700 hl (by decide) rfl (fun ls hl => ?_)
    have hsize : ls.size = c.maxLocals := by rw [hml]; exact hl.1
    refine lv_aload_n hx hb d_La_law_702 rfl (lv_at hl 4 rfl) ?_
    refine px_callN (ix_V (As := []) (rest := []) hx hb hown (k_La_107 hC) (ki_Mo_thrown hC) (kv_Mo_thrown hC) (mx_Is.code (args := #[]) (kc_Mo_thrown hC)) kh_Mo_thrown (va_recv hC.K hP (ci := 10) (q0 := 0) rfl rfl) rfl kp_Mo_thrown rfl d_La_law_703) (M_thrown l hl0 G B XS XF XL (uS ZS 1 ((if ¬ (0 ≤ (xs ((nI i) + 1).toNatClampNeg) ∧ (xs ((nI i) + 1).toNatClampNeg) ≤ 9) then 1 else (if ¬ (((0 ≤ (xs ((nI i) + 2).toNatClampNeg) ∧ (xs ((nI i) + 2).toNatClampNeg) ≤ 100000) ∧ (0 ≤ (xs ((nI i) + 3).toNatClampNeg) ∧ (xs ((nI i) + 3).toNatClampNeg) ≤ 100000000)) ∧ (0 ≤ (xs ((nI i) + 4).toNatClampNeg) ∧ (xs ((nI i) + 4).toNatClampNeg) ≤ 9999)) then 2 else (if (((ZF 18) (xs ((nI i) + 1).toNatClampNeg).toNatClampNeg) = 0 ∧ ((ZF 19) (xs ((nI i) + 1).toNatClampNeg).toNatClampNeg) = 0) then 3 else (if ((XS 8) = 60 ∨ 1000000000 < ((((ZF 18) (xs ((nI i) + 1).toNatClampNeg).toNatClampNeg).toInt64 + (((ZF 19) (xs ((nI i) + 1).toNatClampNeg).toNatClampNeg).toInt64 * (((xs ((nI i) + 2).toNatClampNeg) + 59) / 60).toInt64)) + (xs ((nI i) + 3).toNatClampNeg).toInt64)) then 4 else 0)))) : Int32)) ZF) (kc_Mo_thrown hC) rfl (mx_Is.code (args := #[]) (kc_Mo_thrown hC)) (kn_Mo hC) hb hC (gl_leftP hP).1 (gl_leftD hD) hS (by decide) ⟨by show cs + 1 + 0 ≤ 1087; omega, by show sl + 6 + 0 ≤ 10306; omega⟩ hsize (Nat.le_of_ble_eq_true rfl) d_La_law_703 ?_
    refine W.eq (g2 := F0 m 706 ls [.int ((if ¬ (0 ≤ (xs ((nI i) + 1).toNatClampNeg) ∧ (xs ((nI i) + 1).toNatClampNeg) ≤ 9) then 1 else (if ¬ (((0 ≤ (xs ((nI i) + 2).toNatClampNeg) ∧ (xs ((nI i) + 2).toNatClampNeg) ≤ 100000) ∧ (0 ≤ (xs ((nI i) + 3).toNatClampNeg) ∧ (xs ((nI i) + 3).toNatClampNeg) ≤ 100000000)) ∧ (0 ≤ (xs ((nI i) + 4).toNatClampNeg) ∧ (xs ((nI i) + 4).toNatClampNeg) ≤ 9999)) then 2 else (if (((ZF 18) (xs ((nI i) + 1).toNatClampNeg).toNatClampNeg) = 0 ∧ ((ZF 19) (xs ((nI i) + 1).toNatClampNeg).toNatClampNeg) = 0) then 3 else (if ((XS 8) = 60 ∨ 1000000000 < ((((ZF 18) (xs ((nI i) + 1).toNatClampNeg).toNatClampNeg).toInt64 + (((ZF 19) (xs ((nI i) + 1).toNatClampNeg).toNatClampNeg).toInt64 * (((xs ((nI i) + 2).toNatClampNeg) + 59) / 60).toInt64)) + (xs ((nI i) + 3).toNatClampNeg).toInt64)) then 4 else 0)))) : Int32)]) rfl ?_
    refine lv_iload hx hb d_La_law_706 (lv_at hl 1 rfl) ?_
    refine lv_icmp_eq (tgt := 713) hx hb d_La_law_708 (by decide) (fun c_708 => ?_) (fun c_708 => ?_)
    · refine lv_iload hx hb d_La_law_713 (lv_at hl 1 rfl) ?_
      refine lv_if_ne (tgt := 730) hx hb d_La_law_715 (by decide) (fun c_715 => ?_) (fun c_715 => ?_)
      · refine lv_goto (tgt := 1559) hx hb d_La_law_730 (by decide) ?_
        obtain ⟨hP, hD⟩ := gl_swap hP hD
        exact kk FO XS XF XL (uS ZS 1 ((if ¬ (0 ≤ (xs ((nI i) + 1).toNatClampNeg) ∧ (xs ((nI i) + 1).toNatClampNeg) ≤ 9) then 1 else (if ¬ (((0 ≤ (xs ((nI i) + 2).toNatClampNeg) ∧ (xs ((nI i) + 2).toNatClampNeg) ≤ 100000) ∧ (0 ≤ (xs ((nI i) + 3).toNatClampNeg) ∧ (xs ((nI i) + 3).toNatClampNeg) ≤ 100000000)) ∧ (0 ≤ (xs ((nI i) + 4).toNatClampNeg) ∧ (xs ((nI i) + 4).toNatClampNeg) ≤ 9999)) then 2 else (if (((ZF 18) (xs ((nI i) + 1).toNatClampNeg).toNatClampNeg) = 0 ∧ ((ZF 19) (xs ((nI i) + 1).toNatClampNeg).toNatClampNeg) = 0) then 3 else (if ((XS 8) = 60 ∨ 1000000000 < ((((ZF 18) (xs ((nI i) + 1).toNatClampNeg).toNatClampNeg).toInt64 + (((ZF 19) (xs ((nI i) + 1).toNatClampNeg).toNatClampNeg).toInt64 * (((xs ((nI i) + 2).toNatClampNeg) + 59) / 60).toInt64)) + (xs ((nI i) + 3).toNatClampNeg).toInt64)) then 4 else 0)))) : Int32)) ZF _ _ ls hI1 hP hD hS (lv_sub hl [2, 3, 4, 5, 6] rfl)
      · exact absurd c_715 hk0
    · exact absurd hT.symm c_708
set_option maxHeartbeats 4000000 in
set_option maxRecDepth 100000 in
theorem case_10 {p : Program} {l : Launch} {e : Env} {s : State} {m : MethodId} {below : List Frame} {meth : Method} {c : Code} (hl0 : l.stackTraces = false) {G : GG} (hC : g_C G s) (hx : p.tables.exec = Jvm.exec) (hb : c.code = code) (hml : c.maxLocals = 8) (hown : s.vm.findClass R_La = some m.cls) {b L : Nat} {xs : Nat → Int32} (hX : va_X b L xs s s.heap) (hbl : b < s.heap.size) (hbA : ¬ g_A G b) {Q : State → Prop} {A B : Nat → Nat} {oo : Nat} {XS : Nat → Int32} {XF : Nat → Nat → Int32} {XL : Nat → Int64} {ZS : Nat → Int32} {ZF : Nat → Nat → Int32} {FO : Nat → Int64} (hI : INV XS XF ZF) {i : Nat} (hi : i + 5 ≤ L) (hL : L ≤ 2560) {cs sl : Nat} (hcs : cs + 1 ≤ 1087) (hsl : sl + 6 ≤ 10306) {H : Heap} {locs : List Loc} (hP : va_P G.1 g_cl (((oo, .inl (G.2.1 2, 1, .inr (.inl FO))) :: wcb G A XS XF XL) ++ (wmo G B XS XF XL ZS ZF ++ [])) H) (hD : va_D (g_A G) (((oo, .inl (G.2.1 2, 1, .inr (.inl FO))) :: wcb G A XS XF XL) ++ (wmo G B XS XF XL ZS ZF ++ []))) (hS : va_S (g_A G) s.heap H locs) {ls : Array Slot} (hl : lv_has ls 8 [(4, .int (nI i)), (3, .ref oo), (2, .ref (B 0)), (1, .ref (A 0)), (0, .ref b)]) (kk : ∀ (FO' : Nat → Int64) (XS' : Nat → Int32) (XF' : Nat → Nat → Int32) (XL' : Nat → Int64) (ZS' : Nat → Int32) (ZF' : Nat → Nat → Int32) (H' : Heap) (locs' : List Loc) (ls' : Array Slot), INV XS' XF' ZF' → va_P G.1 g_cl (((oo, .inl (G.2.1 2, 1, .inr (.inl FO'))) :: wcb G A XS' XF' XL') ++ (wmo G B XS' XF' XL' ZS' ZF' ++ [])) H' → va_D (g_A G) (((oo, .inl (G.2.1 2, 1, .inr (.inl FO'))) :: wcb G A XS' XF' XL') ++ (wmo G B XS' XF' XL' ZS' ZF' ++ [])) → va_S (g_A G) s.heap H' locs' → lv_has ls' 8 [(4, .int (nI i)), (3, .ref oo), (2, .ref (B 0)), (1, .ref (A 0)), (0, .ref b)] → W p l e room_1 s m #[Value.ref b] below meth c H' locs' (cs + 1) (sl + 6) Q (F0 m 1559 ls' [])) : W p l e room_1 s m #[Value.ref b] below meth c H locs cs sl Q (F0 m 733 ls []) := by
  obtain ⟨hor, hta, hre, htf, hbi, hho, hgr, hle, hcl, hbd⟩ := id hI
  have hsize : ls.size = c.maxLocals := by rw [hml]; exact hl.1
  refine lv_aload_n hx hb d_La_law_733 rfl (lv_at hl 3 rfl) ?_
  refine lv_aload_n hx hb d_La_law_734 rfl (lv_at hl 4 rfl) ?_
  refine lv_iload hx hb d_La_law_735 (lv_at hl 0 rfl) ?_
  refine lv_iconst (v := 1) hx hb d_La_law_737 (by decide) ?_
  refine lv_iadd hx hb d_La_law_738 ?_
  have ha1 : vp_in ((nI i) + 1) L := by rw [show (1 : Int32) = nI 1 by decide +kernel, nI_add]; exact vp_in_nI (by omega) (by omega)
  refine va_sld hx hb hX hbl hbA hS ha1 d_La_law_739 ?_
  refine lv_aload_n hx hb d_La_law_740 rfl (lv_at hl 4 rfl) ?_
  refine lv_iload hx hb d_La_law_741 (lv_at hl 0 rfl) ?_
  refine lv_iconst (v := 2) hx hb d_La_law_743 (by decide) ?_
  refine lv_iadd hx hb d_La_law_744 ?_
  have ha2 : vp_in ((nI i) + 2) L := by rw [show (2 : Int32) = nI 2 by decide +kernel, nI_add]; exact vp_in_nI (by omega) (by omega)
  refine va_sld hx hb hX hbl hbA hS ha2 d_La_law_745 ?_
  refine lv_aload_n hx hb d_La_law_746 rfl (lv_at hl 1 rfl) ?_
  refine gx_call (ix_S (As := [.ref (A 0), .int (xs ((nI i) + 1).toNatClampNeg), .int (xs ((nI i) + 2).toNatClampNeg), .ref oo]) (rest := []) hx hb hown (k_La_146 hC) (ks_La_pay hC) (kn_La hC) (mx_Is.with (args := #[]) (kc_La_pay hC)) kh_La_pay rfl kp_La_pay rfl d_La_law_747) (L_pay l hl0 G A XS XF XL oo FO (xs ((nI i) + 1).toNatClampNeg) (xs ((nI i) + 2).toNatClampNeg) (in_leT hbi.1)) (kc_La_pay hC) rfl (mx_Is.with (args := #[]) (kc_La_pay hC)) (kn_La hC) hb hC hP hD hS (by decide) ⟨by show cs + 1 ≤ 1087; omega, by show sl + 6 ≤ 10306; omega⟩ hsize (Nat.le_of_ble_eq_true rfl) d_La_law_747 (fun v w' H locs hPo hP hD hS => ?_) (fun _ _ _ _ _ _ hPx => hPx.elim)
  obtain ⟨rfl, hn1, hn2⟩ := hPo
  obtain ⟨hT, hok, hbad⟩ := P_pay G B XS XF XL ZS ZF (xs ((nI i) + 1).toNatClampNeg) (xs ((nI i) + 2).toNatClampNeg) hI
  generalize hk : cod [eIA, eIO, eIS] (th_pay (xs ((nI i) + 1).toNatClampNeg) (xs ((nI i) + 2).toNatClampNeg) (XS 8) (((XF 13) (xs ((nI i) + 1).toNatClampNeg).toNatClampNeg) - ((XF 14) (xs ((nI i) + 1).toNatClampNeg).toNatClampNeg))) = k at hT ⊢
  refine W.eq (g2 := F0 m 750 ls [.int k]) rfl ?_
  refine lv_istore (lv' := [(5, .int k), (4, .int (nI i)), (3, .ref oo), (2, .ref (B 0)), (1, .ref (A 0)), (0, .ref b)]) hx hb d_La_law_750 hl (by decide) rfl (fun ls hl => ?_)
  have hsize : ls.size = c.maxLocals := by rw [hml]; exact hl.1
  refine lv_aload_n hx hb d_La_law_752 rfl (lv_at hl 3 rfl) ?_
  refine lv_aload_n hx hb d_La_law_753 rfl (lv_at hl 5 rfl) ?_
  refine lv_iload hx hb d_La_law_754 (lv_at hl 1 rfl) ?_
  refine lv_iconst (v := 1) hx hb d_La_law_756 (by decide) ?_
  refine lv_iadd hx hb d_La_law_757 ?_
  refine va_sld hx hb hX hbl hbA hS ha1 d_La_law_758 ?_
  refine lv_aload_n hx hb d_La_law_759 rfl (lv_at hl 5 rfl) ?_
  refine lv_iload hx hb d_La_law_760 (lv_at hl 1 rfl) ?_
  refine lv_iconst (v := 2) hx hb d_La_law_762 (by decide) ?_
  refine lv_iadd hx hb d_La_law_763 ?_
  refine va_sld hx hb hX hbl hbA hS ha2 d_La_law_764 ?_
  obtain ⟨hP, hD⟩ := gl_swap hP hD
  refine gx_call (ix_V (As := [.int (xs ((nI i) + 1).toNatClampNeg), .int (xs ((nI i) + 2).toNatClampNeg)]) (rest := []) hx hb hown (k_La_149 hC) (ki_Mo_pay hC) (kv_Mo_pay hC) (mx_Is.code (args := #[]) (kc_Mo_pay hC)) kh_Mo_pay (va_recv hC.K hP (ci := 10) (q0 := 0) rfl rfl) rfl kp_Mo_pay rfl d_La_law_765) (M_pay l hl0 G B XS XF XL ZS ZF (xs ((nI i) + 1).toNatClampNeg) (xs ((nI i) + 2).toNatClampNeg) hbi.1) (kc_Mo_pay hC) rfl (mx_Is.code (args := #[]) (kc_Mo_pay hC)) (kn_Mo hC) hb hC hP hD hS (by decide) ⟨by show cs + 1 + 0 ≤ 1087; omega, by show sl + 6 + 0 ≤ 10306; omega⟩ hsize (Nat.le_of_ble_eq_true rfl) d_La_law_765 (fun v w2 H locs hMo hP hD hS => ?_) (fun _ _ _ _ _ _ hPx => hPx.elim)
  rcases hMo with ⟨hT0, rfl, rfl⟩ | ⟨hT0, rfl, rfl⟩
  · have ht : th_pay (xs ((nI i) + 1).toNatClampNeg) (xs ((nI i) + 2).toNatClampNeg) (XS 8) (((XF 13) (xs ((nI i) + 1).toNatClampNeg).toNatClampNeg) - ((XF 14) (xs ((nI i) + 1).toNatClampNeg).toNatClampNeg)) = none := cod_none (hk.trans (hT.trans hT0)) (by decide)
    obtain rfl := hn1 ht
    obtain ⟨⟨hw, hI1⟩, hrv⟩ := hok ht
    rw [hw] at hP hD
    have hk0 : k = 0 := hT.trans hT0
    subst hk0
    refine W.eq (g2 := F0 m 768 ls [.int (((XF 13) (xs ((nI i) + 1).toNatClampNeg).toNatClampNeg) - ((upd (XF 14) (xs ((nI i) + 1).toNatClampNeg).toNatClampNeg (((XF 14) (xs ((nI i) + 1).toNatClampNeg).toNatClampNeg) + (xs ((nI i) + 2).toNatClampNeg))) (xs ((nI i) + 1).toNatClampNeg).toNatClampNeg))]) rfl ?_
    refine lv_istore (lv' := [(6, .int (((XF 13) (xs ((nI i) + 1).toNatClampNeg).toNatClampNeg) - ((upd (XF 14) (xs ((nI i) + 1).toNatClampNeg).toNatClampNeg (((XF 14) (xs ((nI i) + 1).toNatClampNeg).toNatClampNeg) + (xs ((nI i) + 2).toNatClampNeg))) (xs ((nI i) + 1).toNatClampNeg).toNatClampNeg))), (5, .int 0), (4, .int (nI i)), (3, .ref oo), (2, .ref (B 0)), (1, .ref (A 0)), (0, .ref b)]) hx hb d_La_law_768 hl (by decide) rfl (fun ls hl => ?_)
    have hsize : ls.size = c.maxLocals := by rw [hml]; exact hl.1
    refine lv_aload_n hx hb d_La_law_770 rfl (lv_at hl 4 rfl) ?_
    refine px_callN (ix_V (As := []) (rest := []) hx hb hown (k_La_107 hC) (ki_Mo_thrown hC) (kv_Mo_thrown hC) (mx_Is.code (args := #[]) (kc_Mo_thrown hC)) kh_Mo_thrown (va_recv hC.K hP (ci := 10) (q0 := 0) rfl rfl) rfl kp_Mo_thrown rfl d_La_law_771) (M_thrown l hl0 G B XS (uF XF 14 (upd (XF 14) (xs ((nI i) + 1).toNatClampNeg).toNatClampNeg (((XF 14) (xs ((nI i) + 1).toNatClampNeg).toNatClampNeg) + (xs ((nI i) + 2).toNatClampNeg)))) XL (uS ZS 1 0) ZF) (kc_Mo_thrown hC) rfl (mx_Is.code (args := #[]) (kc_Mo_thrown hC)) (kn_Mo hC) hb hC (gl_leftP hP).1 (gl_leftD hD) hS (by decide) ⟨by show cs + 1 + 0 ≤ 1087; omega, by show sl + 6 + 0 ≤ 10306; omega⟩ hsize (Nat.le_of_ble_eq_true rfl) d_La_law_771 ?_
    refine W.eq (g2 := F0 m 774 ls [.int 0]) rfl ?_
    refine lv_iload hx hb d_La_law_774 (lv_at hl 1 rfl) ?_
    refine lv_icmp_eq (tgt := 781) hx hb d_La_law_776 (by decide) (fun _ => ?_) (fun c_776 => absurd c_776 (by decide))
    refine lv_iload hx hb d_La_law_781 (lv_at hl 1 rfl) ?_
    refine lv_if_ne (tgt := 798) hx hb d_La_law_783 (by decide) (fun c_783 => absurd c_783 (by decide)) (fun _ => ?_)
    refine lv_aload_n hx hb d_La_law_786 rfl (lv_at hl 3 rfl) ?_
    refine lv_iconst (v := 0) hx hb d_La_law_787 (by decide) ?_
    refine va_lald hx hb hC.K hP 23 2 rfl rfl (vp_in_nI (n := 0) (by decide) (by decide)) d_La_law_788 ?_
    refine lv_iload hx hb d_La_law_789 (lv_at hl 0 rfl) ?_
    refine lv_i2l hx hb d_La_law_791 rfl ?_
    refine W.lcmp hx hb d_La_law_792 ?_
    refine lv_if_eq (tgt := 798) hx hb d_La_law_793 (by decide) (fun c_793 => ?_) (fun c_793 => ?_)
    · rw [lg_cmp_eq] at c_793
      refine lv_goto (tgt := 1559) hx hb d_La_law_798 (by decide) ?_
      obtain ⟨hP, hD⟩ := gl_swap hP hD
      exact kk (vp_updL FO (0 : Int32).toNatClampNeg ((((XF 13) (xs ((nI i) + 1).toNatClampNeg).toNatClampNeg) - ((upd (XF 14) (xs ((nI i) + 1).toNatClampNeg).toNatClampNeg (((XF 14) (xs ((nI i) + 1).toNatClampNeg).toNatClampNeg) + (xs ((nI i) + 2).toNatClampNeg))) (xs ((nI i) + 1).toNatClampNeg).toNatClampNeg)).toInt64)) XS (uF XF 14 (upd (XF 14) (xs ((nI i) + 1).toNatClampNeg).toNatClampNeg (((XF 14) (xs ((nI i) + 1).toNatClampNeg).toNatClampNeg) + (xs ((nI i) + 2).toNatClampNeg)))) XL (uS ZS 1 0) ZF _ _ ls hI1 hP hD hS (lv_sub hl [2, 3, 4, 5, 6] rfl)
    · rw [lg_cmp_eq] at c_793; exact absurd (by rw [pk_uLs, hrv]) c_793
  · have ht : ¬ th_pay (xs ((nI i) + 1).toNatClampNeg) (xs ((nI i) + 2).toNatClampNeg) (XS 8) (((XF 13) (xs ((nI i) + 1).toNatClampNeg).toNatClampNeg) - ((XF 14) (xs ((nI i) + 1).toNatClampNeg).toNatClampNeg)) = none := fun q => hT0 (by rw [← hT, ← hk, q]; rfl)
    obtain rfl := hn2 ht
    obtain ⟨hw, hI1⟩ := hbad ht
    rw [hw] at hP hD
    have hk0 : ¬ k = 0 := fun q => hT0 (hT.symm.trans q)
    refine W.eq (g2 := F0 m 768 ls [.int 0]) rfl ?_
    refine lv_istore (lv' := [(6, .int 0), (5, .int k), (4, .int (nI i)), (3, .ref oo), (2, .ref (B 0)), (1, .ref (A 0)), (0, .ref b)]) hx hb d_La_law_768 hl (by decide) rfl (fun ls hl => ?_)
    have hsize : ls.size = c.maxLocals := by rw [hml]; exact hl.1
    refine lv_aload_n hx hb d_La_law_770 rfl (lv_at hl 4 rfl) ?_
    refine px_callN (ix_V (As := []) (rest := []) hx hb hown (k_La_107 hC) (ki_Mo_thrown hC) (kv_Mo_thrown hC) (mx_Is.code (args := #[]) (kc_Mo_thrown hC)) kh_Mo_thrown (va_recv hC.K hP (ci := 10) (q0 := 0) rfl rfl) rfl kp_Mo_thrown rfl d_La_law_771) (M_thrown l hl0 G B XS XF XL (uS ZS 1 ((if ¬ (0 ≤ (xs ((nI i) + 1).toNatClampNeg) ∧ (xs ((nI i) + 1).toNatClampNeg) ≤ ((XS 8) - 1)) then 1 else (if ¬ (1 ≤ (xs ((nI i) + 2).toNatClampNeg) ∧ (xs ((nI i) + 2).toNatClampNeg) ≤ 100000000) then 2 else (if ¬ (xs ((nI i) + 2).toNatClampNeg) ≤ (((XF 13) (xs ((nI i) + 1).toNatClampNeg).toNatClampNeg) - ((XF 14) (xs ((nI i) + 1).toNatClampNeg).toNatClampNeg)) then 3 else 0))) : Int32)) ZF) (kc_Mo_thrown hC) rfl (mx_Is.code (args := #[]) (kc_Mo_thrown hC)) (kn_Mo hC) hb hC (gl_leftP hP).1 (gl_leftD hD) hS (by decide) ⟨by show cs + 1 + 0 ≤ 1087; omega, by show sl + 6 + 0 ≤ 10306; omega⟩ hsize (Nat.le_of_ble_eq_true rfl) d_La_law_771 ?_
    refine W.eq (g2 := F0 m 774 ls [.int ((if ¬ (0 ≤ (xs ((nI i) + 1).toNatClampNeg) ∧ (xs ((nI i) + 1).toNatClampNeg) ≤ ((XS 8) - 1)) then 1 else (if ¬ (1 ≤ (xs ((nI i) + 2).toNatClampNeg) ∧ (xs ((nI i) + 2).toNatClampNeg) ≤ 100000000) then 2 else (if ¬ (xs ((nI i) + 2).toNatClampNeg) ≤ (((XF 13) (xs ((nI i) + 1).toNatClampNeg).toNatClampNeg) - ((XF 14) (xs ((nI i) + 1).toNatClampNeg).toNatClampNeg)) then 3 else 0))) : Int32)]) rfl ?_
    refine lv_iload hx hb d_La_law_774 (lv_at hl 1 rfl) ?_
    refine lv_icmp_eq (tgt := 781) hx hb d_La_law_776 (by decide) (fun c_776 => ?_) (fun c_776 => ?_)
    · refine lv_iload hx hb d_La_law_781 (lv_at hl 1 rfl) ?_
      refine lv_if_ne (tgt := 798) hx hb d_La_law_783 (by decide) (fun c_783 => ?_) (fun c_783 => ?_)
      · refine lv_goto (tgt := 1559) hx hb d_La_law_798 (by decide) ?_
        obtain ⟨hP, hD⟩ := gl_swap hP hD
        exact kk FO XS XF XL (uS ZS 1 ((if ¬ (0 ≤ (xs ((nI i) + 1).toNatClampNeg) ∧ (xs ((nI i) + 1).toNatClampNeg) ≤ ((XS 8) - 1)) then 1 else (if ¬ (1 ≤ (xs ((nI i) + 2).toNatClampNeg) ∧ (xs ((nI i) + 2).toNatClampNeg) ≤ 100000000) then 2 else (if ¬ (xs ((nI i) + 2).toNatClampNeg) ≤ (((XF 13) (xs ((nI i) + 1).toNatClampNeg).toNatClampNeg) - ((XF 14) (xs ((nI i) + 1).toNatClampNeg).toNatClampNeg)) then 3 else 0))) : Int32)) ZF _ _ ls hI1 hP hD hS (lv_sub hl [2, 3, 4, 5, 6] rfl)
      · exact absurd c_783 hk0
    · exact absurd hT.symm c_776
set_option maxHeartbeats 4000000 in
set_option maxRecDepth 100000 in
theorem case_11 {p : Program} {l : Launch} {e : Env} {s : State} {m : MethodId} {below : List Frame} {meth : Method} {c : Code} (hl0 : l.stackTraces = false) {G : GG} (hC : g_C G s) (hx : p.tables.exec = Jvm.exec) (hb : c.code = code) (hml : c.maxLocals = 8) (hown : s.vm.findClass R_La = some m.cls) {b L : Nat} {xs : Nat → Int32} (hX : va_X b L xs s s.heap) (hbl : b < s.heap.size) (hbA : ¬ g_A G b) {Q : State → Prop} {A B : Nat → Nat} {oo : Nat} {XS : Nat → Int32} {XF : Nat → Nat → Int32} {XL : Nat → Int64} {ZS : Nat → Int32} {ZF : Nat → Nat → Int32} {FO : Nat → Int64} (hI : INV XS XF ZF) {i : Nat} (hi : i + 5 ≤ L) (hL : L ≤ 2560) {cs sl : Nat} (hcs : cs + 1 ≤ 1087) (hsl : sl + 6 ≤ 10306) {H : Heap} {locs : List Loc} (hP : va_P G.1 g_cl (((oo, .inl (G.2.1 2, 1, .inr (.inl FO))) :: wcb G A XS XF XL) ++ (wmo G B XS XF XL ZS ZF ++ [])) H) (hD : va_D (g_A G) (((oo, .inl (G.2.1 2, 1, .inr (.inl FO))) :: wcb G A XS XF XL) ++ (wmo G B XS XF XL ZS ZF ++ []))) (hS : va_S (g_A G) s.heap H locs) {ls : Array Slot} (hl : lv_has ls 8 [(4, .int (nI i)), (3, .ref oo), (2, .ref (B 0)), (1, .ref (A 0)), (0, .ref b)]) (kk : ∀ (FO' : Nat → Int64) (XS' : Nat → Int32) (XF' : Nat → Nat → Int32) (XL' : Nat → Int64) (ZS' : Nat → Int32) (ZF' : Nat → Nat → Int32) (H' : Heap) (locs' : List Loc) (ls' : Array Slot), INV XS' XF' ZF' → va_P G.1 g_cl (((oo, .inl (G.2.1 2, 1, .inr (.inl FO'))) :: wcb G A XS' XF' XL') ++ (wmo G B XS' XF' XL' ZS' ZF' ++ [])) H' → va_D (g_A G) (((oo, .inl (G.2.1 2, 1, .inr (.inl FO'))) :: wcb G A XS' XF' XL') ++ (wmo G B XS' XF' XL' ZS' ZF' ++ [])) → va_S (g_A G) s.heap H' locs' → lv_has ls' 8 [(4, .int (nI i)), (3, .ref oo), (2, .ref (B 0)), (1, .ref (A 0)), (0, .ref b)] → W p l e room_1 s m #[Value.ref b] below meth c H' locs' (cs + 1) (sl + 6) Q (F0 m 1559 ls' [])) : W p l e room_1 s m #[Value.ref b] below meth c H locs cs sl Q (F0 m 801 ls []) := by
  obtain ⟨hor, hta, hre, htf, hbi, hho, hgr, hle, hcl, hbd⟩ := id hI
  have hsize : ls.size = c.maxLocals := by rw [hml]; exact hl.1
  refine lv_aload_n hx hb d_La_law_801 rfl (lv_at hl 3 rfl) ?_
  refine lv_aload_n hx hb d_La_law_802 rfl (lv_at hl 4 rfl) ?_
  refine lv_iload hx hb d_La_law_803 (lv_at hl 0 rfl) ?_
  refine lv_iconst (v := 1) hx hb d_La_law_805 (by decide) ?_
  refine lv_iadd hx hb d_La_law_806 ?_
  have ha1 : vp_in ((nI i) + 1) L := by rw [show (1 : Int32) = nI 1 by decide +kernel, nI_add]; exact vp_in_nI (by omega) (by omega)
  refine va_sld hx hb hX hbl hbA hS ha1 d_La_law_807 ?_
  refine lv_aload_n hx hb d_La_law_808 rfl (lv_at hl 4 rfl) ?_
  refine lv_iload hx hb d_La_law_809 (lv_at hl 0 rfl) ?_
  refine lv_iconst (v := 2) hx hb d_La_law_811 (by decide) ?_
  refine lv_iadd hx hb d_La_law_812 ?_
  have ha2 : vp_in ((nI i) + 2) L := by rw [show (2 : Int32) = nI 2 by decide +kernel, nI_add]; exact vp_in_nI (by omega) (by omega)
  refine va_sld hx hb hX hbl hbA hS ha2 d_La_law_813 ?_
  refine lv_if_eq (tgt := 821) hx hb d_La_law_814 (by decide) (fun c_814 => ?_) (fun c_814 => ?_)
  · refine lv_iconst (v := 0) hx hb d_La_law_821 (by decide) ?_
    refine gx_call (ix_S (As := [.ref (A 0), .int (xs ((nI i) + 1).toNatClampNeg), .int 0]) (rest := []) hx hb hown (k_La_150 hC) (ks_La_dispute hC) (kn_La hC) (mx_Is.with (args := #[]) (kc_La_dispute hC)) kh_La_dispute rfl kp_La_dispute rfl d_La_law_822) (L_dispute l hl0 G A XS XF XL oo FO (xs ((nI i) + 1).toNatClampNeg) 0 (in_leT hbi.1) (Or.inl rfl)) (kc_La_dispute hC) rfl (mx_Is.with (args := #[]) (kc_La_dispute hC)) (kn_La hC) hb hC hP hD hS (by decide) ⟨by show cs + 1 ≤ 1087; omega, by show sl + 6 ≤ 10306; omega⟩ hsize (Nat.le_of_ble_eq_true rfl) d_La_law_822 (fun v w' H locs hPo hP hD hS => ?_) (fun _ _ _ _ _ _ hPx => hPx.elim)
    obtain ⟨rfl, hn1, hn2⟩ := hPo
    obtain ⟨hT, hok, hbad⟩ := P_dispute G B XS XF XL ZS ZF (xs ((nI i) + 1).toNatClampNeg) 0 hI
    generalize hk : cod [eIA, eIS] (th_dispute (xs ((nI i) + 1).toNatClampNeg) 0 (XS 8) ((XF 17) (xs ((nI i) + 1).toNatClampNeg).toNatClampNeg) (((XF 13) (xs ((nI i) + 1).toNatClampNeg).toNatClampNeg) - ((XF 14) (xs ((nI i) + 1).toNatClampNeg).toNatClampNeg))) = k at hT ⊢
    refine W.eq (g2 := F0 m 825 ls [.int k]) rfl ?_
    refine lv_istore (lv' := [(5, .int k), (4, .int (nI i)), (3, .ref oo), (2, .ref (B 0)), (1, .ref (A 0)), (0, .ref b)]) hx hb d_La_law_825 hl (by decide) rfl (fun ls hl => ?_)
    have hsize : ls.size = c.maxLocals := by rw [hml]; exact hl.1
    refine lv_aload_n hx hb d_La_law_827 rfl (lv_at hl 3 rfl) ?_
    refine lv_aload_n hx hb d_La_law_828 rfl (lv_at hl 5 rfl) ?_
    refine lv_iload hx hb d_La_law_829 (lv_at hl 1 rfl) ?_
    refine lv_iconst (v := 1) hx hb d_La_law_831 (by decide) ?_
    refine lv_iadd hx hb d_La_law_832 ?_
    refine va_sld hx hb hX hbl hbA hS ha1 d_La_law_833 ?_
    refine lv_aload_n hx hb d_La_law_834 rfl (lv_at hl 5 rfl) ?_
    refine lv_iload hx hb d_La_law_835 (lv_at hl 1 rfl) ?_
    refine lv_iconst (v := 2) hx hb d_La_law_837 (by decide) ?_
    refine lv_iadd hx hb d_La_law_838 ?_
    refine va_sld hx hb hX hbl hbA hS ha2 d_La_law_839 ?_
    refine lv_if_eq (tgt := 847) hx hb d_La_law_840 (by decide) (fun _ => ?_) (fun q9 => absurd c_814 q9)
    refine lv_iconst (v := 0) hx hb d_La_law_847 (by decide) ?_
    obtain ⟨hP, hD⟩ := gl_swap hP hD
    refine gx_call (ix_V (As := [.int (xs ((nI i) + 1).toNatClampNeg), .int 0]) (rest := []) hx hb hown (k_La_153 hC) (ki_Mo_dispute hC) (kv_Mo_dispute hC) (mx_Is.code (args := #[]) (kc_Mo_dispute hC)) kh_Mo_dispute (va_recv hC.K hP (ci := 10) (q0 := 0) rfl rfl) rfl kp_Mo_dispute rfl d_La_law_848) (M_dispute l hl0 G B XS XF XL ZS ZF (xs ((nI i) + 1).toNatClampNeg) 0 hbi.1 (Or.inl rfl)) (kc_Mo_dispute hC) rfl (mx_Is.code (args := #[]) (kc_Mo_dispute hC)) (kn_Mo hC) hb hC hP hD hS (by decide) ⟨by show cs + 1 + 0 ≤ 1087; omega, by show sl + 6 + 0 ≤ 10306; omega⟩ hsize (Nat.le_of_ble_eq_true rfl) d_La_law_848 (fun v w2 H locs hMo hP hD hS => ?_) (fun _ _ _ _ _ _ hPx => hPx.elim)
    rcases hMo with ⟨hT0, rfl, rfl⟩ | ⟨hT0, rfl, rfl⟩
    · have ht : th_dispute (xs ((nI i) + 1).toNatClampNeg) 0 (XS 8) ((XF 17) (xs ((nI i) + 1).toNatClampNeg).toNatClampNeg) (((XF 13) (xs ((nI i) + 1).toNatClampNeg).toNatClampNeg) - ((XF 14) (xs ((nI i) + 1).toNatClampNeg).toNatClampNeg)) = none := cod_none (hk.trans (hT.trans hT0)) (by decide)
      obtain rfl := hn1 ht
      obtain ⟨⟨hw, hI1⟩, hrv⟩ := hok ht
      rw [hw] at hP hD
      have hk0 : k = 0 := hT.trans hT0
      subst hk0
      refine W.eq (g2 := F0 m 851 ls []) rfl ?_
      refine lv_aload_n hx hb d_La_law_851 rfl (lv_at hl 3 rfl) ?_
      refine px_callN (ix_V (As := []) (rest := []) hx hb hown (k_La_107 hC) (ki_Mo_thrown hC) (kv_Mo_thrown hC) (mx_Is.code (args := #[]) (kc_Mo_thrown hC)) kh_Mo_thrown (va_recv hC.K hP (ci := 10) (q0 := 0) rfl rfl) rfl kp_Mo_thrown rfl d_La_law_852) (M_thrown l hl0 G B XS (uF XF 17 (upd (XF 17) (xs ((nI i) + 1).toNatClampNeg).toNatClampNeg 0)) XL (uS ZS 1 0) ZF) (kc_Mo_thrown hC) rfl (mx_Is.code (args := #[]) (kc_Mo_thrown hC)) (kn_Mo hC) hb hC (gl_leftP hP).1 (gl_leftD hD) hS (by decide) ⟨by show cs + 1 + 0 ≤ 1087; omega, by show sl + 6 + 0 ≤ 10306; omega⟩ hsize (Nat.le_of_ble_eq_true rfl) d_La_law_852 ?_
      refine W.eq (g2 := F0 m 855 ls [.int 0]) rfl ?_
      refine lv_iload hx hb d_La_law_855 (lv_at hl 0 rfl) ?_
      refine lv_icmp_eq (tgt := 862) hx hb d_La_law_857 (by decide) (fun _ => ?_) (fun c_857 => absurd c_857 (by decide))
      refine lv_goto (tgt := 1559) hx hb d_La_law_862 (by decide) ?_
      obtain ⟨hP, hD⟩ := gl_swap hP hD
      exact kk FO XS (uF XF 17 (upd (XF 17) (xs ((nI i) + 1).toNatClampNeg).toNatClampNeg 0)) XL (uS ZS 1 0) ZF _ _ ls hI1 hP hD hS (lv_sub hl [1, 2, 3, 4, 5] rfl)
    · have ht : ¬ th_dispute (xs ((nI i) + 1).toNatClampNeg) 0 (XS 8) ((XF 17) (xs ((nI i) + 1).toNatClampNeg).toNatClampNeg) (((XF 13) (xs ((nI i) + 1).toNatClampNeg).toNatClampNeg) - ((XF 14) (xs ((nI i) + 1).toNatClampNeg).toNatClampNeg)) = none := fun q => hT0 (by rw [← hT, ← hk, q]; rfl)
      obtain rfl := hn2 ht
      obtain ⟨hw, hI1⟩ := hbad ht
      rw [hw] at hP hD
      have hk0 : ¬ k = 0 := fun q => hT0 (hT.symm.trans q)
      refine W.eq (g2 := F0 m 851 ls []) rfl ?_
      refine lv_aload_n hx hb d_La_law_851 rfl (lv_at hl 3 rfl) ?_
      refine px_callN (ix_V (As := []) (rest := []) hx hb hown (k_La_107 hC) (ki_Mo_thrown hC) (kv_Mo_thrown hC) (mx_Is.code (args := #[]) (kc_Mo_thrown hC)) kh_Mo_thrown (va_recv hC.K hP (ci := 10) (q0 := 0) rfl rfl) rfl kp_Mo_thrown rfl d_La_law_852) (M_thrown l hl0 G B XS XF XL (uS ZS 1 ((if ¬ (0 ≤ (xs ((nI i) + 1).toNatClampNeg) ∧ (xs ((nI i) + 1).toNatClampNeg) ≤ ((XS 8) - 1)) then 1 else (if (((XF 17) (xs ((nI i) + 1).toNatClampNeg).toNatClampNeg) = 0 ∨ (¬ 0 = 0 ∧ ¬ ((XF 14) (xs ((nI i) + 1).toNatClampNeg).toNatClampNeg) < ((XF 13) (xs ((nI i) + 1).toNatClampNeg).toNatClampNeg))) then 2 else 0)) : Int32)) ZF) (kc_Mo_thrown hC) rfl (mx_Is.code (args := #[]) (kc_Mo_thrown hC)) (kn_Mo hC) hb hC (gl_leftP hP).1 (gl_leftD hD) hS (by decide) ⟨by show cs + 1 + 0 ≤ 1087; omega, by show sl + 6 + 0 ≤ 10306; omega⟩ hsize (Nat.le_of_ble_eq_true rfl) d_La_law_852 ?_
      refine W.eq (g2 := F0 m 855 ls [.int ((if ¬ (0 ≤ (xs ((nI i) + 1).toNatClampNeg) ∧ (xs ((nI i) + 1).toNatClampNeg) ≤ ((XS 8) - 1)) then 1 else (if (((XF 17) (xs ((nI i) + 1).toNatClampNeg).toNatClampNeg) = 0 ∨ (¬ 0 = 0 ∧ ¬ ((XF 14) (xs ((nI i) + 1).toNatClampNeg).toNatClampNeg) < ((XF 13) (xs ((nI i) + 1).toNatClampNeg).toNatClampNeg))) then 2 else 0)) : Int32)]) rfl ?_
      refine lv_iload hx hb d_La_law_855 (lv_at hl 0 rfl) ?_
      refine lv_icmp_eq (tgt := 862) hx hb d_La_law_857 (by decide) (fun c_857 => ?_) (fun c_857 => ?_)
      · refine lv_goto (tgt := 1559) hx hb d_La_law_862 (by decide) ?_
        obtain ⟨hP, hD⟩ := gl_swap hP hD
        exact kk FO XS XF XL (uS ZS 1 ((if ¬ (0 ≤ (xs ((nI i) + 1).toNatClampNeg) ∧ (xs ((nI i) + 1).toNatClampNeg) ≤ ((XS 8) - 1)) then 1 else (if (((XF 17) (xs ((nI i) + 1).toNatClampNeg).toNatClampNeg) = 0 ∨ (¬ 0 = 0 ∧ ¬ ((XF 14) (xs ((nI i) + 1).toNatClampNeg).toNatClampNeg) < ((XF 13) (xs ((nI i) + 1).toNatClampNeg).toNatClampNeg))) then 2 else 0)) : Int32)) ZF _ _ ls hI1 hP hD hS (lv_sub hl [1, 2, 3, 4, 5] rfl)
      · exact absurd hT.symm c_857
  · refine lv_iconst (v := 1) hx hb d_La_law_817 (by decide) ?_
    refine lv_goto (tgt := 822) hx hb d_La_law_818 (by decide) ?_
    refine gx_call (ix_S (As := [.ref (A 0), .int (xs ((nI i) + 1).toNatClampNeg), .int 1]) (rest := []) hx hb hown (k_La_150 hC) (ks_La_dispute hC) (kn_La hC) (mx_Is.with (args := #[]) (kc_La_dispute hC)) kh_La_dispute rfl kp_La_dispute rfl d_La_law_822) (L_dispute l hl0 G A XS XF XL oo FO (xs ((nI i) + 1).toNatClampNeg) 1 (in_leT hbi.1) (Or.inr rfl)) (kc_La_dispute hC) rfl (mx_Is.with (args := #[]) (kc_La_dispute hC)) (kn_La hC) hb hC hP hD hS (by decide) ⟨by show cs + 1 ≤ 1087; omega, by show sl + 6 ≤ 10306; omega⟩ hsize (Nat.le_of_ble_eq_true rfl) d_La_law_822 (fun v w' H locs hPo hP hD hS => ?_) (fun _ _ _ _ _ _ hPx => hPx.elim)
    obtain ⟨rfl, hn1, hn2⟩ := hPo
    obtain ⟨hT, hok, hbad⟩ := P_dispute G B XS XF XL ZS ZF (xs ((nI i) + 1).toNatClampNeg) 1 hI
    generalize hk : cod [eIA, eIS] (th_dispute (xs ((nI i) + 1).toNatClampNeg) 1 (XS 8) ((XF 17) (xs ((nI i) + 1).toNatClampNeg).toNatClampNeg) (((XF 13) (xs ((nI i) + 1).toNatClampNeg).toNatClampNeg) - ((XF 14) (xs ((nI i) + 1).toNatClampNeg).toNatClampNeg))) = k at hT ⊢
    refine W.eq (g2 := F0 m 825 ls [.int k]) rfl ?_
    refine lv_istore (lv' := [(5, .int k), (4, .int (nI i)), (3, .ref oo), (2, .ref (B 0)), (1, .ref (A 0)), (0, .ref b)]) hx hb d_La_law_825 hl (by decide) rfl (fun ls hl => ?_)
    have hsize : ls.size = c.maxLocals := by rw [hml]; exact hl.1
    refine lv_aload_n hx hb d_La_law_827 rfl (lv_at hl 3 rfl) ?_
    refine lv_aload_n hx hb d_La_law_828 rfl (lv_at hl 5 rfl) ?_
    refine lv_iload hx hb d_La_law_829 (lv_at hl 1 rfl) ?_
    refine lv_iconst (v := 1) hx hb d_La_law_831 (by decide) ?_
    refine lv_iadd hx hb d_La_law_832 ?_
    refine va_sld hx hb hX hbl hbA hS ha1 d_La_law_833 ?_
    refine lv_aload_n hx hb d_La_law_834 rfl (lv_at hl 5 rfl) ?_
    refine lv_iload hx hb d_La_law_835 (lv_at hl 1 rfl) ?_
    refine lv_iconst (v := 2) hx hb d_La_law_837 (by decide) ?_
    refine lv_iadd hx hb d_La_law_838 ?_
    refine va_sld hx hb hX hbl hbA hS ha2 d_La_law_839 ?_
    refine lv_if_eq (tgt := 847) hx hb d_La_law_840 (by decide) (fun q9 => absurd q9 c_814) (fun _ => ?_)
    refine lv_iconst (v := 1) hx hb d_La_law_843 (by decide) ?_
    refine lv_goto (tgt := 848) hx hb d_La_law_844 (by decide) ?_
    obtain ⟨hP, hD⟩ := gl_swap hP hD
    refine gx_call (ix_V (As := [.int (xs ((nI i) + 1).toNatClampNeg), .int 1]) (rest := []) hx hb hown (k_La_153 hC) (ki_Mo_dispute hC) (kv_Mo_dispute hC) (mx_Is.code (args := #[]) (kc_Mo_dispute hC)) kh_Mo_dispute (va_recv hC.K hP (ci := 10) (q0 := 0) rfl rfl) rfl kp_Mo_dispute rfl d_La_law_848) (M_dispute l hl0 G B XS XF XL ZS ZF (xs ((nI i) + 1).toNatClampNeg) 1 hbi.1 (Or.inr rfl)) (kc_Mo_dispute hC) rfl (mx_Is.code (args := #[]) (kc_Mo_dispute hC)) (kn_Mo hC) hb hC hP hD hS (by decide) ⟨by show cs + 1 + 0 ≤ 1087; omega, by show sl + 6 + 0 ≤ 10306; omega⟩ hsize (Nat.le_of_ble_eq_true rfl) d_La_law_848 (fun v w2 H locs hMo hP hD hS => ?_) (fun _ _ _ _ _ _ hPx => hPx.elim)
    rcases hMo with ⟨hT0, rfl, rfl⟩ | ⟨hT0, rfl, rfl⟩
    · have ht : th_dispute (xs ((nI i) + 1).toNatClampNeg) 1 (XS 8) ((XF 17) (xs ((nI i) + 1).toNatClampNeg).toNatClampNeg) (((XF 13) (xs ((nI i) + 1).toNatClampNeg).toNatClampNeg) - ((XF 14) (xs ((nI i) + 1).toNatClampNeg).toNatClampNeg)) = none := cod_none (hk.trans (hT.trans hT0)) (by decide)
      obtain rfl := hn1 ht
      obtain ⟨⟨hw, hI1⟩, hrv⟩ := hok ht
      rw [hw] at hP hD
      have hk0 : k = 0 := hT.trans hT0
      subst hk0
      refine W.eq (g2 := F0 m 851 ls []) rfl ?_
      refine lv_aload_n hx hb d_La_law_851 rfl (lv_at hl 3 rfl) ?_
      refine px_callN (ix_V (As := []) (rest := []) hx hb hown (k_La_107 hC) (ki_Mo_thrown hC) (kv_Mo_thrown hC) (mx_Is.code (args := #[]) (kc_Mo_thrown hC)) kh_Mo_thrown (va_recv hC.K hP (ci := 10) (q0 := 0) rfl rfl) rfl kp_Mo_thrown rfl d_La_law_852) (M_thrown l hl0 G B XS (uF XF 17 (upd (XF 17) (xs ((nI i) + 1).toNatClampNeg).toNatClampNeg 1)) XL (uS ZS 1 0) ZF) (kc_Mo_thrown hC) rfl (mx_Is.code (args := #[]) (kc_Mo_thrown hC)) (kn_Mo hC) hb hC (gl_leftP hP).1 (gl_leftD hD) hS (by decide) ⟨by show cs + 1 + 0 ≤ 1087; omega, by show sl + 6 + 0 ≤ 10306; omega⟩ hsize (Nat.le_of_ble_eq_true rfl) d_La_law_852 ?_
      refine W.eq (g2 := F0 m 855 ls [.int 0]) rfl ?_
      refine lv_iload hx hb d_La_law_855 (lv_at hl 0 rfl) ?_
      refine lv_icmp_eq (tgt := 862) hx hb d_La_law_857 (by decide) (fun _ => ?_) (fun c_857 => absurd c_857 (by decide))
      refine lv_goto (tgt := 1559) hx hb d_La_law_862 (by decide) ?_
      obtain ⟨hP, hD⟩ := gl_swap hP hD
      exact kk FO XS (uF XF 17 (upd (XF 17) (xs ((nI i) + 1).toNatClampNeg).toNatClampNeg 1)) XL (uS ZS 1 0) ZF _ _ ls hI1 hP hD hS (lv_sub hl [1, 2, 3, 4, 5] rfl)
    · have ht : ¬ th_dispute (xs ((nI i) + 1).toNatClampNeg) 1 (XS 8) ((XF 17) (xs ((nI i) + 1).toNatClampNeg).toNatClampNeg) (((XF 13) (xs ((nI i) + 1).toNatClampNeg).toNatClampNeg) - ((XF 14) (xs ((nI i) + 1).toNatClampNeg).toNatClampNeg)) = none := fun q => hT0 (by rw [← hT, ← hk, q]; rfl)
      obtain rfl := hn2 ht
      obtain ⟨hw, hI1⟩ := hbad ht
      rw [hw] at hP hD
      have hk0 : ¬ k = 0 := fun q => hT0 (hT.symm.trans q)
      refine W.eq (g2 := F0 m 851 ls []) rfl ?_
      refine lv_aload_n hx hb d_La_law_851 rfl (lv_at hl 3 rfl) ?_
      refine px_callN (ix_V (As := []) (rest := []) hx hb hown (k_La_107 hC) (ki_Mo_thrown hC) (kv_Mo_thrown hC) (mx_Is.code (args := #[]) (kc_Mo_thrown hC)) kh_Mo_thrown (va_recv hC.K hP (ci := 10) (q0 := 0) rfl rfl) rfl kp_Mo_thrown rfl d_La_law_852) (M_thrown l hl0 G B XS XF XL (uS ZS 1 ((if ¬ (0 ≤ (xs ((nI i) + 1).toNatClampNeg) ∧ (xs ((nI i) + 1).toNatClampNeg) ≤ ((XS 8) - 1)) then 1 else (if (((XF 17) (xs ((nI i) + 1).toNatClampNeg).toNatClampNeg) = 1 ∨ (¬ 1 = 0 ∧ ¬ ((XF 14) (xs ((nI i) + 1).toNatClampNeg).toNatClampNeg) < ((XF 13) (xs ((nI i) + 1).toNatClampNeg).toNatClampNeg))) then 2 else 0)) : Int32)) ZF) (kc_Mo_thrown hC) rfl (mx_Is.code (args := #[]) (kc_Mo_thrown hC)) (kn_Mo hC) hb hC (gl_leftP hP).1 (gl_leftD hD) hS (by decide) ⟨by show cs + 1 + 0 ≤ 1087; omega, by show sl + 6 + 0 ≤ 10306; omega⟩ hsize (Nat.le_of_ble_eq_true rfl) d_La_law_852 ?_
      refine W.eq (g2 := F0 m 855 ls [.int ((if ¬ (0 ≤ (xs ((nI i) + 1).toNatClampNeg) ∧ (xs ((nI i) + 1).toNatClampNeg) ≤ ((XS 8) - 1)) then 1 else (if (((XF 17) (xs ((nI i) + 1).toNatClampNeg).toNatClampNeg) = 1 ∨ (¬ 1 = 0 ∧ ¬ ((XF 14) (xs ((nI i) + 1).toNatClampNeg).toNatClampNeg) < ((XF 13) (xs ((nI i) + 1).toNatClampNeg).toNatClampNeg))) then 2 else 0)) : Int32)]) rfl ?_
      refine lv_iload hx hb d_La_law_855 (lv_at hl 0 rfl) ?_
      refine lv_icmp_eq (tgt := 862) hx hb d_La_law_857 (by decide) (fun c_857 => ?_) (fun c_857 => ?_)
      · refine lv_goto (tgt := 1559) hx hb d_La_law_862 (by decide) ?_
        obtain ⟨hP, hD⟩ := gl_swap hP hD
        exact kk FO XS XF XL (uS ZS 1 ((if ¬ (0 ≤ (xs ((nI i) + 1).toNatClampNeg) ∧ (xs ((nI i) + 1).toNatClampNeg) ≤ ((XS 8) - 1)) then 1 else (if (((XF 17) (xs ((nI i) + 1).toNatClampNeg).toNatClampNeg) = 1 ∨ (¬ 1 = 0 ∧ ¬ ((XF 14) (xs ((nI i) + 1).toNatClampNeg).toNatClampNeg) < ((XF 13) (xs ((nI i) + 1).toNatClampNeg).toNatClampNeg))) then 2 else 0)) : Int32)) ZF _ _ ls hI1 hP hD hS (lv_sub hl [1, 2, 3, 4, 5] rfl)
      · exact absurd hT.symm c_857
set_option maxHeartbeats 4000000 in
set_option maxRecDepth 100000 in
theorem case_12 {p : Program} {l : Launch} {e : Env} {s : State} {m : MethodId} {below : List Frame} {meth : Method} {c : Code} (hl0 : l.stackTraces = false) {G : GG} (hC : g_C G s) (hx : p.tables.exec = Jvm.exec) (hb : c.code = code) (hml : c.maxLocals = 8) (hown : s.vm.findClass R_La = some m.cls) {b L : Nat} {xs : Nat → Int32} (hX : va_X b L xs s s.heap) (hbl : b < s.heap.size) (hbA : ¬ g_A G b) {Q : State → Prop} {A B : Nat → Nat} {oo : Nat} {XS : Nat → Int32} {XF : Nat → Nat → Int32} {XL : Nat → Int64} {ZS : Nat → Int32} {ZF : Nat → Nat → Int32} {FO : Nat → Int64} (hI : INV XS XF ZF) {i : Nat} (hi : i + 5 ≤ L) (hL : L ≤ 2560) {cs sl : Nat} (hcs : cs + 1 ≤ 1087) (hsl : sl + 6 ≤ 10306) {H : Heap} {locs : List Loc} (hP : va_P G.1 g_cl (((oo, .inl (G.2.1 2, 1, .inr (.inl FO))) :: wcb G A XS XF XL) ++ (wmo G B XS XF XL ZS ZF ++ [])) H) (hD : va_D (g_A G) (((oo, .inl (G.2.1 2, 1, .inr (.inl FO))) :: wcb G A XS XF XL) ++ (wmo G B XS XF XL ZS ZF ++ []))) (hS : va_S (g_A G) s.heap H locs) {ls : Array Slot} (hl : lv_has ls 8 [(4, .int (nI i)), (3, .ref oo), (2, .ref (B 0)), (1, .ref (A 0)), (0, .ref b)]) (kk : ∀ (FO' : Nat → Int64) (XS' : Nat → Int32) (XF' : Nat → Nat → Int32) (XL' : Nat → Int64) (ZS' : Nat → Int32) (ZF' : Nat → Nat → Int32) (H' : Heap) (locs' : List Loc) (ls' : Array Slot), INV XS' XF' ZF' → va_P G.1 g_cl (((oo, .inl (G.2.1 2, 1, .inr (.inl FO'))) :: wcb G A XS' XF' XL') ++ (wmo G B XS' XF' XL' ZS' ZF' ++ [])) H' → va_D (g_A G) (((oo, .inl (G.2.1 2, 1, .inr (.inl FO'))) :: wcb G A XS' XF' XL') ++ (wmo G B XS' XF' XL' ZS' ZF' ++ [])) → va_S (g_A G) s.heap H' locs' → lv_has ls' 8 [(4, .int (nI i)), (3, .ref oo), (2, .ref (B 0)), (1, .ref (A 0)), (0, .ref b)] → W p l e room_1 s m #[Value.ref b] below meth c H' locs' (cs + 1) (sl + 6) Q (F0 m 1559 ls' [])) : W p l e room_1 s m #[Value.ref b] below meth c H locs cs sl Q (F0 m 865 ls []) := by
  obtain ⟨hor, hta, hre, htf, hbi, hho, hgr, hle, hcl, hbd⟩ := id hI
  have hsize : ls.size = c.maxLocals := by rw [hml]; exact hl.1
  refine lv_aload_n hx hb d_La_law_865 rfl (lv_at hl 3 rfl) ?_
  refine lv_aload_n hx hb d_La_law_866 rfl (lv_at hl 4 rfl) ?_
  refine lv_iload hx hb d_La_law_867 (lv_at hl 0 rfl) ?_
  refine lv_iconst (v := 1) hx hb d_La_law_869 (by decide) ?_
  refine lv_iadd hx hb d_La_law_870 ?_
  have ha1 : vp_in ((nI i) + 1) L := by rw [show (1 : Int32) = nI 1 by decide +kernel, nI_add]; exact vp_in_nI (by omega) (by omega)
  refine va_sld hx hb hX hbl hbA hS ha1 d_La_law_871 ?_
  refine lv_aload_n hx hb d_La_law_872 rfl (lv_at hl 1 rfl) ?_
  refine gx_call (ix_S (As := [.ref (A 0), .int (xs ((nI i) + 1).toNatClampNeg), .ref oo]) (rest := []) hx hb hown (k_La_154 hC) (ks_La_remind hC) (kn_La hC) (mx_Is.with (args := #[]) (kc_La_remind hC)) kh_La_remind rfl kp_La_remind rfl d_La_law_873) (L_remind l hl0 G A XS XF XL oo FO (xs ((nI i) + 1).toNatClampNeg) hbi.1) (kc_La_remind hC) rfl (mx_Is.with (args := #[]) (kc_La_remind hC)) (kn_La hC) hb hC hP hD hS (by decide) ⟨by show cs + 1 ≤ 1087; omega, by show sl + 6 ≤ 10306; omega⟩ hsize (Nat.le_of_ble_eq_true rfl) d_La_law_873 (fun v w' H locs hPo hP hD hS => ?_) (fun _ _ _ _ _ _ hPx => hPx.elim)
  obtain ⟨rfl, hn1, hn2⟩ := hPo
  obtain ⟨hT, hok, hbad⟩ := P_remind G B XS XF XL ZS ZF (xs ((nI i) + 1).toNatClampNeg) hI
  generalize hk : cod [eIO] (ck_range (xs ((nI i) + 1).toNatClampNeg) 0 9999) = k at hT ⊢
  refine W.eq (g2 := F0 m 876 ls [.int k]) rfl ?_
  refine lv_istore (lv' := [(5, .int k), (4, .int (nI i)), (3, .ref oo), (2, .ref (B 0)), (1, .ref (A 0)), (0, .ref b)]) hx hb d_La_law_876 hl (by decide) rfl (fun ls hl => ?_)
  have hsize : ls.size = c.maxLocals := by rw [hml]; exact hl.1
  refine lv_aload_n hx hb d_La_law_878 rfl (lv_at hl 3 rfl) ?_
  refine lv_aload_n hx hb d_La_law_879 rfl (lv_at hl 5 rfl) ?_
  refine lv_iload hx hb d_La_law_880 (lv_at hl 1 rfl) ?_
  refine lv_iconst (v := 1) hx hb d_La_law_882 (by decide) ?_
  refine lv_iadd hx hb d_La_law_883 ?_
  refine va_sld hx hb hX hbl hbA hS ha1 d_La_law_884 ?_
  obtain ⟨hP, hD⟩ := gl_swap hP hD
  refine gx_call (ix_V (As := [.int (xs ((nI i) + 1).toNatClampNeg)]) (rest := []) hx hb hown (k_La_157 hC) (ki_Mo_remind hC) (kv_Mo_remind hC) (mx_Is.code (args := #[]) (kc_Mo_remind hC)) kh_Mo_remind (va_recv hC.K hP (ci := 10) (q0 := 0) rfl rfl) rfl kp_Mo_remind rfl d_La_law_885) (M_remind l hl0 G B XS XF XL ZS ZF (xs ((nI i) + 1).toNatClampNeg) hbi.1) (kc_Mo_remind hC) rfl (mx_Is.code (args := #[]) (kc_Mo_remind hC)) (kn_Mo hC) hb hC hP hD hS (by decide) ⟨by show cs + 1 + 0 ≤ 1087; omega, by show sl + 6 + 0 ≤ 10306; omega⟩ hsize (Nat.le_of_ble_eq_true rfl) d_La_law_885 (fun v w2 H locs hMo hP hD hS => ?_) (fun _ _ _ _ _ _ hPx => hPx.elim)
  rcases hMo with ⟨hT0, rfl, rfl⟩ | ⟨hT0, rfl, rfl⟩
  · have ht : ck_range (xs ((nI i) + 1).toNatClampNeg) 0 9999 = none := cod_none (hk.trans (hT.trans hT0)) (by decide)
    obtain rfl := hn1 ht
    obtain ⟨⟨hw, hI1⟩, hrv⟩ := hok ht
    rw [hw] at hP hD
    have hk0 : k = 0 := hT.trans hT0
    subst hk0
    refine W.eq (g2 := F0 m 888 ls [.int (rmM_cnt (XF 13) (XF 14) (XF 15) (XF 17) (xs ((nI i) + 1).toNatClampNeg) (XS 8).toNatClampNeg)]) rfl ?_
    refine lv_istore (lv' := [(6, .int (rmM_cnt (XF 13) (XF 14) (XF 15) (XF 17) (xs ((nI i) + 1).toNatClampNeg) (XS 8).toNatClampNeg)), (5, .int 0), (4, .int (nI i)), (3, .ref oo), (2, .ref (B 0)), (1, .ref (A 0)), (0, .ref b)]) hx hb d_La_law_888 hl (by decide) rfl (fun ls hl => ?_)
    have hsize : ls.size = c.maxLocals := by rw [hml]; exact hl.1
    refine lv_aload_n hx hb d_La_law_890 rfl (lv_at hl 4 rfl) ?_
    refine px_callN (ix_V (As := []) (rest := []) hx hb hown (k_La_107 hC) (ki_Mo_thrown hC) (kv_Mo_thrown hC) (mx_Is.code (args := #[]) (kc_Mo_thrown hC)) kh_Mo_thrown (va_recv hC.K hP (ci := 10) (q0 := 0) rfl rfl) rfl kp_Mo_thrown rfl d_La_law_891) (M_thrown l hl0 G B XS (uF XF 16 (rm_all (XF 13) (XF 14) (XF 15) (XF 17) (xs ((nI i) + 1).toNatClampNeg) (XF 16) (XS 8).toNatClampNeg)) XL (uS ZS 1 0) ZF) (kc_Mo_thrown hC) rfl (mx_Is.code (args := #[]) (kc_Mo_thrown hC)) (kn_Mo hC) hb hC (gl_leftP hP).1 (gl_leftD hD) hS (by decide) ⟨by show cs + 1 + 0 ≤ 1087; omega, by show sl + 6 + 0 ≤ 10306; omega⟩ hsize (Nat.le_of_ble_eq_true rfl) d_La_law_891 ?_
    refine W.eq (g2 := F0 m 894 ls [.int 0]) rfl ?_
    refine lv_iload hx hb d_La_law_894 (lv_at hl 1 rfl) ?_
    refine lv_icmp_eq (tgt := 901) hx hb d_La_law_896 (by decide) (fun _ => ?_) (fun c_896 => absurd c_896 (by decide))
    refine lv_iload hx hb d_La_law_901 (lv_at hl 1 rfl) ?_
    refine lv_if_ne (tgt := 918) hx hb d_La_law_903 (by decide) (fun c_903 => absurd c_903 (by decide)) (fun _ => ?_)
    refine lv_aload_n hx hb d_La_law_906 rfl (lv_at hl 3 rfl) ?_
    refine lv_iconst (v := 0) hx hb d_La_law_907 (by decide) ?_
    refine va_lald hx hb hC.K hP 23 2 rfl rfl (vp_in_nI (n := 0) (by decide) (by decide)) d_La_law_908 ?_
    refine lv_iload hx hb d_La_law_909 (lv_at hl 0 rfl) ?_
    refine lv_i2l hx hb d_La_law_911 rfl ?_
    refine W.lcmp hx hb d_La_law_912 ?_
    refine lv_if_eq (tgt := 918) hx hb d_La_law_913 (by decide) (fun c_913 => ?_) (fun c_913 => ?_)
    · rw [lg_cmp_eq] at c_913
      refine lv_goto (tgt := 1559) hx hb d_La_law_918 (by decide) ?_
      obtain ⟨hP, hD⟩ := gl_swap hP hD
      exact kk (vp_updL FO (0 : Int32).toNatClampNeg ((rm_cnt (XF 13) (XF 14) (XF 15) (XF 17) (xs ((nI i) + 1).toNatClampNeg) (XS 8).toNatClampNeg).toInt64)) XS (uF XF 16 (rm_all (XF 13) (XF 14) (XF 15) (XF 17) (xs ((nI i) + 1).toNatClampNeg) (XF 16) (XS 8).toNatClampNeg)) XL (uS ZS 1 0) ZF _ _ ls hI1 hP hD hS (lv_sub hl [2, 3, 4, 5, 6] rfl)
    · rw [lg_cmp_eq] at c_913; exact absurd (by rw [pk_uLs, hrv]) c_913
  · have ht : ¬ ck_range (xs ((nI i) + 1).toNatClampNeg) 0 9999 = none := fun q => hT0 (by rw [← hT, ← hk, q]; rfl)
    obtain rfl := hn2 ht
    obtain ⟨hw, hI1⟩ := hbad ht
    rw [hw] at hP hD
    have hk0 : ¬ k = 0 := fun q => hT0 (hT.symm.trans q)
    refine W.eq (g2 := F0 m 888 ls [.int 0]) rfl ?_
    refine lv_istore (lv' := [(6, .int 0), (5, .int k), (4, .int (nI i)), (3, .ref oo), (2, .ref (B 0)), (1, .ref (A 0)), (0, .ref b)]) hx hb d_La_law_888 hl (by decide) rfl (fun ls hl => ?_)
    have hsize : ls.size = c.maxLocals := by rw [hml]; exact hl.1
    refine lv_aload_n hx hb d_La_law_890 rfl (lv_at hl 4 rfl) ?_
    refine px_callN (ix_V (As := []) (rest := []) hx hb hown (k_La_107 hC) (ki_Mo_thrown hC) (kv_Mo_thrown hC) (mx_Is.code (args := #[]) (kc_Mo_thrown hC)) kh_Mo_thrown (va_recv hC.K hP (ci := 10) (q0 := 0) rfl rfl) rfl kp_Mo_thrown rfl d_La_law_891) (M_thrown l hl0 G B XS XF XL (uS ZS 1 ((if ¬ (0 ≤ (xs ((nI i) + 1).toNatClampNeg) ∧ (xs ((nI i) + 1).toNatClampNeg) ≤ 9999) then 1 else 0) : Int32)) ZF) (kc_Mo_thrown hC) rfl (mx_Is.code (args := #[]) (kc_Mo_thrown hC)) (kn_Mo hC) hb hC (gl_leftP hP).1 (gl_leftD hD) hS (by decide) ⟨by show cs + 1 + 0 ≤ 1087; omega, by show sl + 6 + 0 ≤ 10306; omega⟩ hsize (Nat.le_of_ble_eq_true rfl) d_La_law_891 ?_
    refine W.eq (g2 := F0 m 894 ls [.int ((if ¬ (0 ≤ (xs ((nI i) + 1).toNatClampNeg) ∧ (xs ((nI i) + 1).toNatClampNeg) ≤ 9999) then 1 else 0) : Int32)]) rfl ?_
    refine lv_iload hx hb d_La_law_894 (lv_at hl 1 rfl) ?_
    refine lv_icmp_eq (tgt := 901) hx hb d_La_law_896 (by decide) (fun c_896 => ?_) (fun c_896 => ?_)
    · refine lv_iload hx hb d_La_law_901 (lv_at hl 1 rfl) ?_
      refine lv_if_ne (tgt := 918) hx hb d_La_law_903 (by decide) (fun c_903 => ?_) (fun c_903 => ?_)
      · refine lv_goto (tgt := 1559) hx hb d_La_law_918 (by decide) ?_
        obtain ⟨hP, hD⟩ := gl_swap hP hD
        exact kk FO XS XF XL (uS ZS 1 ((if ¬ (0 ≤ (xs ((nI i) + 1).toNatClampNeg) ∧ (xs ((nI i) + 1).toNatClampNeg) ≤ 9999) then 1 else 0) : Int32)) ZF _ _ ls hI1 hP hD hS (lv_sub hl [2, 3, 4, 5, 6] rfl)
      · exact absurd c_903 hk0
    · exact absurd hT.symm c_896
set_option maxHeartbeats 4000000 in
set_option maxRecDepth 100000 in
theorem case_13 {p : Program} {l : Launch} {e : Env} {s : State} {m : MethodId} {below : List Frame} {meth : Method} {c : Code} (hl0 : l.stackTraces = false) {G : GG} (hC : g_C G s) (hx : p.tables.exec = Jvm.exec) (hb : c.code = code) (hml : c.maxLocals = 8) (hown : s.vm.findClass R_La = some m.cls) {b L : Nat} {xs : Nat → Int32} (hX : va_X b L xs s s.heap) (hbl : b < s.heap.size) (hbA : ¬ g_A G b) {Q : State → Prop} {A B : Nat → Nat} {oo : Nat} {XS : Nat → Int32} {XF : Nat → Nat → Int32} {XL : Nat → Int64} {ZS : Nat → Int32} {ZF : Nat → Nat → Int32} {FO : Nat → Int64} (hI : INV XS XF ZF) {i : Nat} (hi : i + 5 ≤ L) (hL : L ≤ 2560) {cs sl : Nat} (hcs : cs + 1 ≤ 1087) (hsl : sl + 6 ≤ 10306) {H : Heap} {locs : List Loc} (hP : va_P G.1 g_cl (((oo, .inl (G.2.1 2, 1, .inr (.inl FO))) :: wcb G A XS XF XL) ++ (wmo G B XS XF XL ZS ZF ++ [])) H) (hD : va_D (g_A G) (((oo, .inl (G.2.1 2, 1, .inr (.inl FO))) :: wcb G A XS XF XL) ++ (wmo G B XS XF XL ZS ZF ++ []))) (hS : va_S (g_A G) s.heap H locs) {ls : Array Slot} (hl : lv_has ls 8 [(4, .int (nI i)), (3, .ref oo), (2, .ref (B 0)), (1, .ref (A 0)), (0, .ref b)]) (kk : ∀ (FO' : Nat → Int64) (XS' : Nat → Int32) (XF' : Nat → Nat → Int32) (XL' : Nat → Int64) (ZS' : Nat → Int32) (ZF' : Nat → Nat → Int32) (H' : Heap) (locs' : List Loc) (ls' : Array Slot), INV XS' XF' ZF' → va_P G.1 g_cl (((oo, .inl (G.2.1 2, 1, .inr (.inl FO'))) :: wcb G A XS' XF' XL') ++ (wmo G B XS' XF' XL' ZS' ZF' ++ [])) H' → va_D (g_A G) (((oo, .inl (G.2.1 2, 1, .inr (.inl FO'))) :: wcb G A XS' XF' XL') ++ (wmo G B XS' XF' XL' ZS' ZF' ++ [])) → va_S (g_A G) s.heap H' locs' → lv_has ls' 8 [(4, .int (nI i)), (3, .ref oo), (2, .ref (B 0)), (1, .ref (A 0)), (0, .ref b)] → W p l e room_1 s m #[Value.ref b] below meth c H' locs' (cs + 1) (sl + 6) Q (F0 m 1559 ls' [])) : W p l e room_1 s m #[Value.ref b] below meth c H locs cs sl Q (F0 m 921 ls []) := by
  obtain ⟨hor, hta, hre, htf, hbi, hho, hgr, hle, hcl, hbd⟩ := id hI
  have hsize : ls.size = c.maxLocals := by rw [hml]; exact hl.1
  refine lv_aload_n hx hb d_La_law_921 rfl (lv_at hl 3 rfl) ?_
  refine lv_aload_n hx hb d_La_law_922 rfl (lv_at hl 4 rfl) ?_
  refine lv_iload hx hb d_La_law_923 (lv_at hl 0 rfl) ?_
  refine lv_iconst (v := 1) hx hb d_La_law_925 (by decide) ?_
  refine lv_iadd hx hb d_La_law_926 ?_
  have ha1 : vp_in ((nI i) + 1) L := by rw [show (1 : Int32) = nI 1 by decide +kernel, nI_add]; exact vp_in_nI (by omega) (by omega)
  refine va_sld hx hb hX hbl hbA hS ha1 d_La_law_927 ?_
  refine lv_aload_n hx hb d_La_law_928 rfl (lv_at hl 4 rfl) ?_
  refine lv_iload hx hb d_La_law_929 (lv_at hl 0 rfl) ?_
  refine lv_iconst (v := 2) hx hb d_La_law_931 (by decide) ?_
  refine lv_iadd hx hb d_La_law_932 ?_
  have ha2 : vp_in ((nI i) + 2) L := by rw [show (2 : Int32) = nI 2 by decide +kernel, nI_add]; exact vp_in_nI (by omega) (by omega)
  refine va_sld hx hb hX hbl hbA hS ha2 d_La_law_933 ?_
  refine lv_aload_n hx hb d_La_law_934 rfl (lv_at hl 1 rfl) ?_
  refine gx_call (ix_S (As := [.ref (A 0), .int (xs ((nI i) + 1).toNatClampNeg), .int (xs ((nI i) + 2).toNatClampNeg), .ref oo]) (rest := []) hx hb hown (k_La_158 hC) (ks_La_billAt hC) (kn_La hC) (mx_Is.with (args := #[]) (kc_La_billAt hC)) kh_La_billAt rfl kp_La_billAt rfl d_La_law_935) (L_billAt l hl0 G A XS XF XL oo FO (xs ((nI i) + 1).toNatClampNeg) (xs ((nI i) + 2).toNatClampNeg) (in_leT hbi.1)) (kc_La_billAt hC) rfl (mx_Is.with (args := #[]) (kc_La_billAt hC)) (kn_La hC) hb hC hP hD hS (by decide) ⟨by show cs + 1 ≤ 1087; omega, by show sl + 6 ≤ 10306; omega⟩ hsize (Nat.le_of_ble_eq_true rfl) d_La_law_935 (fun v w' H locs hPo hP hD hS => ?_) (fun _ _ _ _ _ _ hPx => hPx.elim)
  obtain ⟨rfl, hn1, hn2⟩ := hPo
  obtain ⟨hT, hok, hbad⟩ := P_billAt G B XS XF XL ZS ZF (xs ((nI i) + 1).toNatClampNeg) (xs ((nI i) + 2).toNatClampNeg) hI
  generalize hk : cod [eIA] (th_k2 (xs ((nI i) + 1).toNatClampNeg) (XS 8) (xs ((nI i) + 2).toNatClampNeg) 4) = k at hT ⊢
  refine W.eq (g2 := F0 m 938 ls [.int k]) rfl ?_
  refine lv_istore (lv' := [(5, .int k), (4, .int (nI i)), (3, .ref oo), (2, .ref (B 0)), (1, .ref (A 0)), (0, .ref b)]) hx hb d_La_law_938 hl (by decide) rfl (fun ls hl => ?_)
  have hsize : ls.size = c.maxLocals := by rw [hml]; exact hl.1
  refine lv_aload_n hx hb d_La_law_940 rfl (lv_at hl 3 rfl) ?_
  refine lv_aload_n hx hb d_La_law_941 rfl (lv_at hl 5 rfl) ?_
  refine lv_iload hx hb d_La_law_942 (lv_at hl 1 rfl) ?_
  refine lv_iconst (v := 1) hx hb d_La_law_944 (by decide) ?_
  refine lv_iadd hx hb d_La_law_945 ?_
  refine va_sld hx hb hX hbl hbA hS ha1 d_La_law_946 ?_
  refine lv_aload_n hx hb d_La_law_947 rfl (lv_at hl 5 rfl) ?_
  refine lv_iload hx hb d_La_law_948 (lv_at hl 1 rfl) ?_
  refine lv_iconst (v := 2) hx hb d_La_law_950 (by decide) ?_
  refine lv_iadd hx hb d_La_law_951 ?_
  refine va_sld hx hb hX hbl hbA hS ha2 d_La_law_952 ?_
  obtain ⟨hP, hD⟩ := gl_swap hP hD
  refine gx_call (ix_V (As := [.int (xs ((nI i) + 1).toNatClampNeg), .int (xs ((nI i) + 2).toNatClampNeg)]) (rest := []) hx hb hown (k_La_160 hC) (ki_Mo_billAt hC) (kv_Mo_billAt hC) (mx_Is.code (args := #[]) (kc_Mo_billAt hC)) kh_Mo_billAt (va_recv hC.K hP (ci := 10) (q0 := 0) rfl rfl) rfl kp_Mo_billAt rfl d_La_law_953) (M_billAt l hl0 G B XS XF XL ZS ZF (xs ((nI i) + 1).toNatClampNeg) (xs ((nI i) + 2).toNatClampNeg) hbi.1) (kc_Mo_billAt hC) rfl (mx_Is.code (args := #[]) (kc_Mo_billAt hC)) (kn_Mo hC) hb hC hP hD hS (by decide) ⟨by show cs + 1 + 0 ≤ 1087; omega, by show sl + 6 + 0 ≤ 10306; omega⟩ hsize (Nat.le_of_ble_eq_true rfl) d_La_law_953 (fun v w2 H locs hMo hP hD hS => ?_) (fun _ _ _ _ _ _ hPx => hPx.elim)
  rcases hMo with ⟨hT0, rfl, rfl⟩ | ⟨hT0, rfl, rfl⟩
  · have ht : th_k2 (xs ((nI i) + 1).toNatClampNeg) (XS 8) (xs ((nI i) + 2).toNatClampNeg) 4 = none := cod_none (hk.trans (hT.trans hT0)) (by decide)
    obtain rfl := hn1 ht
    obtain ⟨⟨hw, hI1⟩, hrv⟩ := hok ht
    rw [hw] at hP hD
    have hk0 : k = 0 := hT.trans hT0
    subst hk0
    refine W.eq (g2 := F0 m 956 ls [.int (if (xs ((nI i) + 2).toNatClampNeg) = 0 then ((XF 13) (xs ((nI i) + 1).toNatClampNeg).toNatClampNeg) else if (xs ((nI i) + 2).toNatClampNeg) = 1 then ((XF 14) (xs ((nI i) + 1).toNatClampNeg).toNatClampNeg) else if (xs ((nI i) + 2).toNatClampNeg) = 2 then (if ((XF 17) (xs ((nI i) + 1).toNatClampNeg).toNatClampNeg) = 0 then 0 else 1) else ((XF 16) (xs ((nI i) + 1).toNatClampNeg).toNatClampNeg))]) rfl ?_
    refine lv_istore (lv' := [(6, .int (if (xs ((nI i) + 2).toNatClampNeg) = 0 then ((XF 13) (xs ((nI i) + 1).toNatClampNeg).toNatClampNeg) else if (xs ((nI i) + 2).toNatClampNeg) = 1 then ((XF 14) (xs ((nI i) + 1).toNatClampNeg).toNatClampNeg) else if (xs ((nI i) + 2).toNatClampNeg) = 2 then (if ((XF 17) (xs ((nI i) + 1).toNatClampNeg).toNatClampNeg) = 0 then 0 else 1) else ((XF 16) (xs ((nI i) + 1).toNatClampNeg).toNatClampNeg))), (5, .int 0), (4, .int (nI i)), (3, .ref oo), (2, .ref (B 0)), (1, .ref (A 0)), (0, .ref b)]) hx hb d_La_law_956 hl (by decide) rfl (fun ls hl => ?_)
    have hsize : ls.size = c.maxLocals := by rw [hml]; exact hl.1
    refine lv_aload_n hx hb d_La_law_958 rfl (lv_at hl 4 rfl) ?_
    refine px_callN (ix_V (As := []) (rest := []) hx hb hown (k_La_107 hC) (ki_Mo_thrown hC) (kv_Mo_thrown hC) (mx_Is.code (args := #[]) (kc_Mo_thrown hC)) kh_Mo_thrown (va_recv hC.K hP (ci := 10) (q0 := 0) rfl rfl) rfl kp_Mo_thrown rfl d_La_law_959) (M_thrown l hl0 G B XS XF XL (uS ZS 1 0) ZF) (kc_Mo_thrown hC) rfl (mx_Is.code (args := #[]) (kc_Mo_thrown hC)) (kn_Mo hC) hb hC (gl_leftP hP).1 (gl_leftD hD) hS (by decide) ⟨by show cs + 1 + 0 ≤ 1087; omega, by show sl + 6 + 0 ≤ 10306; omega⟩ hsize (Nat.le_of_ble_eq_true rfl) d_La_law_959 ?_
    refine W.eq (g2 := F0 m 962 ls [.int 0]) rfl ?_
    refine lv_iload hx hb d_La_law_962 (lv_at hl 1 rfl) ?_
    refine lv_icmp_eq (tgt := 969) hx hb d_La_law_964 (by decide) (fun _ => ?_) (fun c_964 => absurd c_964 (by decide))
    refine lv_iload hx hb d_La_law_969 (lv_at hl 1 rfl) ?_
    refine lv_if_ne (tgt := 986) hx hb d_La_law_971 (by decide) (fun c_971 => absurd c_971 (by decide)) (fun _ => ?_)
    refine lv_aload_n hx hb d_La_law_974 rfl (lv_at hl 3 rfl) ?_
    refine lv_iconst (v := 0) hx hb d_La_law_975 (by decide) ?_
    refine va_lald hx hb hC.K hP 23 2 rfl rfl (vp_in_nI (n := 0) (by decide) (by decide)) d_La_law_976 ?_
    refine lv_iload hx hb d_La_law_977 (lv_at hl 0 rfl) ?_
    refine lv_i2l hx hb d_La_law_979 rfl ?_
    refine W.lcmp hx hb d_La_law_980 ?_
    refine lv_if_eq (tgt := 986) hx hb d_La_law_981 (by decide) (fun c_981 => ?_) (fun c_981 => ?_)
    · rw [lg_cmp_eq] at c_981
      refine lv_goto (tgt := 1559) hx hb d_La_law_986 (by decide) ?_
      obtain ⟨hP, hD⟩ := gl_swap hP hD
      exact kk (vp_updL FO (0 : Int32).toNatClampNeg ((at_bill ((XF 13) (xs ((nI i) + 1).toNatClampNeg).toNatClampNeg) ((XF 14) (xs ((nI i) + 1).toNatClampNeg).toNatClampNeg) ((XF 17) (xs ((nI i) + 1).toNatClampNeg).toNatClampNeg) ((XF 16) (xs ((nI i) + 1).toNatClampNeg).toNatClampNeg) (xs ((nI i) + 2).toNatClampNeg)).toInt64)) XS XF XL (uS ZS 1 0) ZF _ _ ls hI1 hP hD hS (lv_sub hl [2, 3, 4, 5, 6] rfl)
    · rw [lg_cmp_eq] at c_981; exact absurd (by rw [pk_uLs, hrv]) c_981
  · have ht : ¬ th_k2 (xs ((nI i) + 1).toNatClampNeg) (XS 8) (xs ((nI i) + 2).toNatClampNeg) 4 = none := fun q => hT0 (by rw [← hT, ← hk, q]; rfl)
    obtain rfl := hn2 ht
    obtain ⟨hw, hI1⟩ := hbad ht
    rw [hw] at hP hD
    have hk0 : ¬ k = 0 := fun q => hT0 (hT.symm.trans q)
    refine W.eq (g2 := F0 m 956 ls [.int 0]) rfl ?_
    refine lv_istore (lv' := [(6, .int 0), (5, .int k), (4, .int (nI i)), (3, .ref oo), (2, .ref (B 0)), (1, .ref (A 0)), (0, .ref b)]) hx hb d_La_law_956 hl (by decide) rfl (fun ls hl => ?_)
    have hsize : ls.size = c.maxLocals := by rw [hml]; exact hl.1
    refine lv_aload_n hx hb d_La_law_958 rfl (lv_at hl 4 rfl) ?_
    refine px_callN (ix_V (As := []) (rest := []) hx hb hown (k_La_107 hC) (ki_Mo_thrown hC) (kv_Mo_thrown hC) (mx_Is.code (args := #[]) (kc_Mo_thrown hC)) kh_Mo_thrown (va_recv hC.K hP (ci := 10) (q0 := 0) rfl rfl) rfl kp_Mo_thrown rfl d_La_law_959) (M_thrown l hl0 G B XS XF XL (uS ZS 1 ((if (¬ (0 ≤ (xs ((nI i) + 1).toNatClampNeg) ∧ (xs ((nI i) + 1).toNatClampNeg) ≤ ((XS 8) - 1)) ∨ ¬ (0 ≤ (xs ((nI i) + 2).toNatClampNeg) ∧ (xs ((nI i) + 2).toNatClampNeg) ≤ 3)) then 1 else 0) : Int32)) ZF) (kc_Mo_thrown hC) rfl (mx_Is.code (args := #[]) (kc_Mo_thrown hC)) (kn_Mo hC) hb hC (gl_leftP hP).1 (gl_leftD hD) hS (by decide) ⟨by show cs + 1 + 0 ≤ 1087; omega, by show sl + 6 + 0 ≤ 10306; omega⟩ hsize (Nat.le_of_ble_eq_true rfl) d_La_law_959 ?_
    refine W.eq (g2 := F0 m 962 ls [.int ((if (¬ (0 ≤ (xs ((nI i) + 1).toNatClampNeg) ∧ (xs ((nI i) + 1).toNatClampNeg) ≤ ((XS 8) - 1)) ∨ ¬ (0 ≤ (xs ((nI i) + 2).toNatClampNeg) ∧ (xs ((nI i) + 2).toNatClampNeg) ≤ 3)) then 1 else 0) : Int32)]) rfl ?_
    refine lv_iload hx hb d_La_law_962 (lv_at hl 1 rfl) ?_
    refine lv_icmp_eq (tgt := 969) hx hb d_La_law_964 (by decide) (fun c_964 => ?_) (fun c_964 => ?_)
    · refine lv_iload hx hb d_La_law_969 (lv_at hl 1 rfl) ?_
      refine lv_if_ne (tgt := 986) hx hb d_La_law_971 (by decide) (fun c_971 => ?_) (fun c_971 => ?_)
      · refine lv_goto (tgt := 1559) hx hb d_La_law_986 (by decide) ?_
        obtain ⟨hP, hD⟩ := gl_swap hP hD
        exact kk FO XS XF XL (uS ZS 1 ((if (¬ (0 ≤ (xs ((nI i) + 1).toNatClampNeg) ∧ (xs ((nI i) + 1).toNatClampNeg) ≤ ((XS 8) - 1)) ∨ ¬ (0 ≤ (xs ((nI i) + 2).toNatClampNeg) ∧ (xs ((nI i) + 2).toNatClampNeg) ≤ 3)) then 1 else 0) : Int32)) ZF _ _ ls hI1 hP hD hS (lv_sub hl [2, 3, 4, 5, 6] rfl)
      · exact absurd c_971 hk0
    · exact absurd hT.symm c_964
set_option maxHeartbeats 4000000 in
set_option maxRecDepth 100000 in
theorem case_14 {p : Program} {l : Launch} {e : Env} {s : State} {m : MethodId} {below : List Frame} {meth : Method} {c : Code} (hl0 : l.stackTraces = false) {G : GG} (hC : g_C G s) (hx : p.tables.exec = Jvm.exec) (hb : c.code = code) (hml : c.maxLocals = 8) (hown : s.vm.findClass R_La = some m.cls) {b L : Nat} {xs : Nat → Int32} (hX : va_X b L xs s s.heap) (hbl : b < s.heap.size) (hbA : ¬ g_A G b) {Q : State → Prop} {A B : Nat → Nat} {oo : Nat} {XS : Nat → Int32} {XF : Nat → Nat → Int32} {XL : Nat → Int64} {ZS : Nat → Int32} {ZF : Nat → Nat → Int32} {FO : Nat → Int64} (hI : INV XS XF ZF) {i : Nat} (hi : i + 5 ≤ L) (hL : L ≤ 2560) {cs sl : Nat} (hcs : cs + 1 ≤ 1087) (hsl : sl + 6 ≤ 10306) {H : Heap} {locs : List Loc} (hP : va_P G.1 g_cl (((oo, .inl (G.2.1 2, 1, .inr (.inl FO))) :: wcb G A XS XF XL) ++ (wmo G B XS XF XL ZS ZF ++ [])) H) (hD : va_D (g_A G) (((oo, .inl (G.2.1 2, 1, .inr (.inl FO))) :: wcb G A XS XF XL) ++ (wmo G B XS XF XL ZS ZF ++ []))) (hS : va_S (g_A G) s.heap H locs) {ls : Array Slot} (hl : lv_has ls 8 [(4, .int (nI i)), (3, .ref oo), (2, .ref (B 0)), (1, .ref (A 0)), (0, .ref b)]) (kk : ∀ (FO' : Nat → Int64) (XS' : Nat → Int32) (XF' : Nat → Nat → Int32) (XL' : Nat → Int64) (ZS' : Nat → Int32) (ZF' : Nat → Nat → Int32) (H' : Heap) (locs' : List Loc) (ls' : Array Slot), INV XS' XF' ZF' → va_P G.1 g_cl (((oo, .inl (G.2.1 2, 1, .inr (.inl FO'))) :: wcb G A XS' XF' XL') ++ (wmo G B XS' XF' XL' ZS' ZF' ++ [])) H' → va_D (g_A G) (((oo, .inl (G.2.1 2, 1, .inr (.inl FO'))) :: wcb G A XS' XF' XL') ++ (wmo G B XS' XF' XL' ZS' ZF' ++ [])) → va_S (g_A G) s.heap H' locs' → lv_has ls' 8 [(4, .int (nI i)), (3, .ref oo), (2, .ref (B 0)), (1, .ref (A 0)), (0, .ref b)] → W p l e room_1 s m #[Value.ref b] below meth c H' locs' (cs + 1) (sl + 6) Q (F0 m 1559 ls' [])) : W p l e room_1 s m #[Value.ref b] below meth c H locs cs sl Q (F0 m 989 ls []) := by
  obtain ⟨hor, hta, hre, htf, hbi, hho, hgr, hle, hcl, hbd⟩ := id hI
  have hsize : ls.size = c.maxLocals := by rw [hml]; exact hl.1
  refine lv_aload_n hx hb d_La_law_989 rfl (lv_at hl 3 rfl) ?_
  refine lv_aload_n hx hb d_La_law_990 rfl (lv_at hl 4 rfl) ?_
  refine lv_iload hx hb d_La_law_991 (lv_at hl 0 rfl) ?_
  refine lv_iconst (v := 1) hx hb d_La_law_993 (by decide) ?_
  refine lv_iadd hx hb d_La_law_994 ?_
  have ha1 : vp_in ((nI i) + 1) L := by rw [show (1 : Int32) = nI 1 by decide +kernel, nI_add]; exact vp_in_nI (by omega) (by omega)
  refine va_sld hx hb hX hbl hbA hS ha1 d_La_law_995 ?_
  refine lv_aload_n hx hb d_La_law_996 rfl (lv_at hl 4 rfl) ?_
  refine lv_iload hx hb d_La_law_997 (lv_at hl 0 rfl) ?_
  refine lv_iconst (v := 2) hx hb d_La_law_999 (by decide) ?_
  refine lv_iadd hx hb d_La_law_1000 ?_
  have ha2 : vp_in ((nI i) + 2) L := by rw [show (2 : Int32) = nI 2 by decide +kernel, nI_add]; exact vp_in_nI (by omega) (by omega)
  refine va_sld hx hb hX hbl hbA hS ha2 d_La_law_1001 ?_
  refine gx_call (ix_S (As := [.ref (A 0), .int (xs ((nI i) + 1).toNatClampNeg), .int (xs ((nI i) + 2).toNatClampNeg)]) (rest := []) hx hb hown (k_La_161 hC) (ks_La_weight hC) (kn_La hC) (mx_Is.with (args := #[]) (kc_La_weight hC)) kh_La_weight rfl kp_La_weight rfl d_La_law_1002) (L_weight l hl0 G A XS XF XL oo FO (xs ((nI i) + 1).toNatClampNeg) (xs ((nI i) + 2).toNatClampNeg)) (kc_La_weight hC) rfl (mx_Is.with (args := #[]) (kc_La_weight hC)) (kn_La hC) hb hC hP hD hS (by decide) ⟨by show cs + 1 ≤ 1087; omega, by show sl + 6 ≤ 10306; omega⟩ hsize (Nat.le_of_ble_eq_true rfl) d_La_law_1002 (fun v w' H locs hPo hP hD hS => ?_) (fun _ _ _ _ _ _ hPx => hPx.elim)
  obtain ⟨rfl, hn1, hn2⟩ := hPo
  obtain ⟨hT, hok, hbad⟩ := P_weight G B XS XF XL ZS ZF (xs ((nI i) + 1).toNatClampNeg) (xs ((nI i) + 2).toNatClampNeg) hI
  generalize hk : cod [eIA, eIO] ((ck_known (xs ((nI i) + 1).toNatClampNeg) 6).or (ck_range (xs ((nI i) + 2).toNatClampNeg) 0 1000)) = k at hT ⊢
  refine W.eq (g2 := F0 m 1005 ls [.int k]) rfl ?_
  refine lv_istore (lv' := [(5, .int k), (4, .int (nI i)), (3, .ref oo), (2, .ref (B 0)), (1, .ref (A 0)), (0, .ref b)]) hx hb d_La_law_1005 hl (by decide) rfl (fun ls hl => ?_)
  have hsize : ls.size = c.maxLocals := by rw [hml]; exact hl.1
  refine lv_aload_n hx hb d_La_law_1007 rfl (lv_at hl 3 rfl) ?_
  refine lv_aload_n hx hb d_La_law_1008 rfl (lv_at hl 5 rfl) ?_
  refine lv_iload hx hb d_La_law_1009 (lv_at hl 1 rfl) ?_
  refine lv_iconst (v := 1) hx hb d_La_law_1011 (by decide) ?_
  refine lv_iadd hx hb d_La_law_1012 ?_
  refine va_sld hx hb hX hbl hbA hS ha1 d_La_law_1013 ?_
  refine lv_aload_n hx hb d_La_law_1014 rfl (lv_at hl 5 rfl) ?_
  refine lv_iload hx hb d_La_law_1015 (lv_at hl 1 rfl) ?_
  refine lv_iconst (v := 2) hx hb d_La_law_1017 (by decide) ?_
  refine lv_iadd hx hb d_La_law_1018 ?_
  refine va_sld hx hb hX hbl hbA hS ha2 d_La_law_1019 ?_
  obtain ⟨hP, hD⟩ := gl_swap hP hD
  refine gx_call (ix_V (As := [.int (xs ((nI i) + 1).toNatClampNeg), .int (xs ((nI i) + 2).toNatClampNeg)]) (rest := []) hx hb hown (k_La_163 hC) (ki_Mo_weight hC) (kv_Mo_weight hC) (mx_Is.code (args := #[]) (kc_Mo_weight hC)) kh_Mo_weight (va_recv hC.K hP (ci := 10) (q0 := 0) rfl rfl) rfl kp_Mo_weight rfl d_La_law_1020) (M_weight l hl0 G B XS XF XL ZS ZF (xs ((nI i) + 1).toNatClampNeg) (xs ((nI i) + 2).toNatClampNeg)) (kc_Mo_weight hC) rfl (mx_Is.code (args := #[]) (kc_Mo_weight hC)) (kn_Mo hC) hb hC hP hD hS (by decide) ⟨by show cs + 1 + 0 ≤ 1087; omega, by show sl + 6 + 0 ≤ 10306; omega⟩ hsize (Nat.le_of_ble_eq_true rfl) d_La_law_1020 (fun v w2 H locs hMo hP hD hS => ?_) (fun _ _ _ _ _ _ hPx => hPx.elim)
  rcases hMo with ⟨hT0, rfl, rfl⟩ | ⟨hT0, rfl, rfl⟩
  · have ht : (ck_known (xs ((nI i) + 1).toNatClampNeg) 6).or (ck_range (xs ((nI i) + 2).toNatClampNeg) 0 1000) = none := cod_none (hk.trans (hT.trans hT0)) (by decide)
    obtain rfl := hn1 ht
    obtain ⟨⟨hw, hI1⟩, hrv⟩ := hok ht
    rw [hw] at hP hD
    have hk0 : k = 0 := hT.trans hT0
    subst hk0
    refine W.eq (g2 := F0 m 1023 ls []) rfl ?_
    refine lv_aload_n hx hb d_La_law_1023 rfl (lv_at hl 3 rfl) ?_
    refine px_callN (ix_V (As := []) (rest := []) hx hb hown (k_La_107 hC) (ki_Mo_thrown hC) (kv_Mo_thrown hC) (mx_Is.code (args := #[]) (kc_Mo_thrown hC)) kh_Mo_thrown (va_recv hC.K hP (ci := 10) (q0 := 0) rfl rfl) rfl kp_Mo_thrown rfl d_La_law_1024) (M_thrown l hl0 G B XS (uF XF 18 (upd (XF 18) (xs ((nI i) + 1).toNatClampNeg).toNatClampNeg (xs ((nI i) + 2).toNatClampNeg))) XL (uS ZS 1 0) ZF) (kc_Mo_thrown hC) rfl (mx_Is.code (args := #[]) (kc_Mo_thrown hC)) (kn_Mo hC) hb hC (gl_leftP hP).1 (gl_leftD hD) hS (by decide) ⟨by show cs + 1 + 0 ≤ 1087; omega, by show sl + 6 + 0 ≤ 10306; omega⟩ hsize (Nat.le_of_ble_eq_true rfl) d_La_law_1024 ?_
    refine W.eq (g2 := F0 m 1027 ls [.int 0]) rfl ?_
    refine lv_iload hx hb d_La_law_1027 (lv_at hl 0 rfl) ?_
    refine lv_icmp_eq (tgt := 1034) hx hb d_La_law_1029 (by decide) (fun _ => ?_) (fun c_1029 => absurd c_1029 (by decide))
    refine lv_goto (tgt := 1559) hx hb d_La_law_1034 (by decide) ?_
    obtain ⟨hP, hD⟩ := gl_swap hP hD
    exact kk FO XS (uF XF 18 (upd (XF 18) (xs ((nI i) + 1).toNatClampNeg).toNatClampNeg (xs ((nI i) + 2).toNatClampNeg))) XL (uS ZS 1 0) ZF _ _ ls hI1 hP hD hS (lv_sub hl [1, 2, 3, 4, 5] rfl)
  · have ht : ¬ (ck_known (xs ((nI i) + 1).toNatClampNeg) 6).or (ck_range (xs ((nI i) + 2).toNatClampNeg) 0 1000) = none := fun q => hT0 (by rw [← hT, ← hk, q]; rfl)
    obtain rfl := hn2 ht
    obtain ⟨hw, hI1⟩ := hbad ht
    rw [hw] at hP hD
    have hk0 : ¬ k = 0 := fun q => hT0 (hT.symm.trans q)
    refine W.eq (g2 := F0 m 1023 ls []) rfl ?_
    refine lv_aload_n hx hb d_La_law_1023 rfl (lv_at hl 3 rfl) ?_
    refine px_callN (ix_V (As := []) (rest := []) hx hb hown (k_La_107 hC) (ki_Mo_thrown hC) (kv_Mo_thrown hC) (mx_Is.code (args := #[]) (kc_Mo_thrown hC)) kh_Mo_thrown (va_recv hC.K hP (ci := 10) (q0 := 0) rfl rfl) rfl kp_Mo_thrown rfl d_La_law_1024) (M_thrown l hl0 G B XS XF XL (uS ZS 1 ((if ¬ (0 ≤ (xs ((nI i) + 1).toNatClampNeg) ∧ (xs ((nI i) + 1).toNatClampNeg) ≤ 5) then 1 else (if ¬ (0 ≤ (xs ((nI i) + 2).toNatClampNeg) ∧ (xs ((nI i) + 2).toNatClampNeg) ≤ 1000) then 2 else 0)) : Int32)) ZF) (kc_Mo_thrown hC) rfl (mx_Is.code (args := #[]) (kc_Mo_thrown hC)) (kn_Mo hC) hb hC (gl_leftP hP).1 (gl_leftD hD) hS (by decide) ⟨by show cs + 1 + 0 ≤ 1087; omega, by show sl + 6 + 0 ≤ 10306; omega⟩ hsize (Nat.le_of_ble_eq_true rfl) d_La_law_1024 ?_
    refine W.eq (g2 := F0 m 1027 ls [.int ((if ¬ (0 ≤ (xs ((nI i) + 1).toNatClampNeg) ∧ (xs ((nI i) + 1).toNatClampNeg) ≤ 5) then 1 else (if ¬ (0 ≤ (xs ((nI i) + 2).toNatClampNeg) ∧ (xs ((nI i) + 2).toNatClampNeg) ≤ 1000) then 2 else 0)) : Int32)]) rfl ?_
    refine lv_iload hx hb d_La_law_1027 (lv_at hl 0 rfl) ?_
    refine lv_icmp_eq (tgt := 1034) hx hb d_La_law_1029 (by decide) (fun c_1029 => ?_) (fun c_1029 => ?_)
    · refine lv_goto (tgt := 1559) hx hb d_La_law_1034 (by decide) ?_
      obtain ⟨hP, hD⟩ := gl_swap hP hD
      exact kk FO XS XF XL (uS ZS 1 ((if ¬ (0 ≤ (xs ((nI i) + 1).toNatClampNeg) ∧ (xs ((nI i) + 1).toNatClampNeg) ≤ 5) then 1 else (if ¬ (0 ≤ (xs ((nI i) + 2).toNatClampNeg) ∧ (xs ((nI i) + 2).toNatClampNeg) ≤ 1000) then 2 else 0)) : Int32)) ZF _ _ ls hI1 hP hD hS (lv_sub hl [1, 2, 3, 4, 5] rfl)
    · exact absurd hT.symm c_1029
set_option maxHeartbeats 4000000 in
set_option maxRecDepth 100000 in
theorem case_15 {p : Program} {l : Launch} {e : Env} {s : State} {m : MethodId} {below : List Frame} {meth : Method} {c : Code} (hl0 : l.stackTraces = false) {G : GG} (hC : g_C G s) (hx : p.tables.exec = Jvm.exec) (hb : c.code = code) (hml : c.maxLocals = 8) (hown : s.vm.findClass R_La = some m.cls) {b L : Nat} {xs : Nat → Int32} (hX : va_X b L xs s s.heap) (hbl : b < s.heap.size) (hbA : ¬ g_A G b) {Q : State → Prop} {A B : Nat → Nat} {oo : Nat} {XS : Nat → Int32} {XF : Nat → Nat → Int32} {XL : Nat → Int64} {ZS : Nat → Int32} {ZF : Nat → Nat → Int32} {FO : Nat → Int64} (hI : INV XS XF ZF) {i : Nat} (hi : i + 5 ≤ L) (hL : L ≤ 2560) {cs sl : Nat} (hcs : cs + 1 ≤ 1087) (hsl : sl + 6 ≤ 10306) {H : Heap} {locs : List Loc} (hP : va_P G.1 g_cl (((oo, .inl (G.2.1 2, 1, .inr (.inl FO))) :: wcb G A XS XF XL) ++ (wmo G B XS XF XL ZS ZF ++ [])) H) (hD : va_D (g_A G) (((oo, .inl (G.2.1 2, 1, .inr (.inl FO))) :: wcb G A XS XF XL) ++ (wmo G B XS XF XL ZS ZF ++ []))) (hS : va_S (g_A G) s.heap H locs) {ls : Array Slot} (hl : lv_has ls 8 [(4, .int (nI i)), (3, .ref oo), (2, .ref (B 0)), (1, .ref (A 0)), (0, .ref b)]) (kk : ∀ (FO' : Nat → Int64) (XS' : Nat → Int32) (XF' : Nat → Nat → Int32) (XL' : Nat → Int64) (ZS' : Nat → Int32) (ZF' : Nat → Nat → Int32) (H' : Heap) (locs' : List Loc) (ls' : Array Slot), INV XS' XF' ZF' → va_P G.1 g_cl (((oo, .inl (G.2.1 2, 1, .inr (.inl FO'))) :: wcb G A XS' XF' XL') ++ (wmo G B XS' XF' XL' ZS' ZF' ++ [])) H' → va_D (g_A G) (((oo, .inl (G.2.1 2, 1, .inr (.inl FO'))) :: wcb G A XS' XF' XL') ++ (wmo G B XS' XF' XL' ZS' ZF' ++ [])) → va_S (g_A G) s.heap H' locs' → lv_has ls' 8 [(4, .int (nI i)), (3, .ref oo), (2, .ref (B 0)), (1, .ref (A 0)), (0, .ref b)] → W p l e room_1 s m #[Value.ref b] below meth c H' locs' (cs + 1) (sl + 6) Q (F0 m 1559 ls' [])) : W p l e room_1 s m #[Value.ref b] below meth c H locs cs sl Q (F0 m 1037 ls []) := by
  obtain ⟨hor, hta, hre, htf, hbi, hho, hgr, hle, hcl, hbd⟩ := id hI
  have hsize : ls.size = c.maxLocals := by rw [hml]; exact hl.1
  refine lv_aload_n hx hb d_La_law_1037 rfl (lv_at hl 3 rfl) ?_
  refine lv_aload_n hx hb d_La_law_1038 rfl (lv_at hl 4 rfl) ?_
  refine lv_iload hx hb d_La_law_1039 (lv_at hl 0 rfl) ?_
  refine lv_iconst (v := 1) hx hb d_La_law_1041 (by decide) ?_
  refine lv_iadd hx hb d_La_law_1042 ?_
  have ha1 : vp_in ((nI i) + 1) L := by rw [show (1 : Int32) = nI 1 by decide +kernel, nI_add]; exact vp_in_nI (by omega) (by omega)
  refine va_sld hx hb hX hbl hbA hS ha1 d_La_law_1043 ?_
  refine lv_aload_n hx hb d_La_law_1044 rfl (lv_at hl 4 rfl) ?_
  refine lv_iload hx hb d_La_law_1045 (lv_at hl 0 rfl) ?_
  refine lv_iconst (v := 2) hx hb d_La_law_1047 (by decide) ?_
  refine lv_iadd hx hb d_La_law_1048 ?_
  have ha2 : vp_in ((nI i) + 2) L := by rw [show (2 : Int32) = nI 2 by decide +kernel, nI_add]; exact vp_in_nI (by omega) (by omega)
  refine va_sld hx hb hX hbl hbA hS ha2 d_La_law_1049 ?_
  refine lv_aload_n hx hb d_La_law_1050 rfl (lv_at hl 1 rfl) ?_
  refine gx_call (ix_S (As := [.ref (A 0), .int (xs ((nI i) + 1).toNatClampNeg), .int (xs ((nI i) + 2).toNatClampNeg), .ref oo]) (rest := []) hx hb hown (k_La_164 hC) (ks_La_share hC) (kn_La hC) (mx_Is.with (args := #[]) (kc_La_share hC)) kh_La_share rfl kp_La_share rfl d_La_law_1051) (L_share l hl0 G A XS XF XL oo FO (xs ((nI i) + 1).toNatClampNeg) (xs ((nI i) + 2).toNatClampNeg)) (kc_La_share hC) rfl (mx_Is.with (args := #[]) (kc_La_share hC)) (kn_La hC) hb hC hP hD hS (by decide) ⟨by show cs + 1 ≤ 1087; omega, by show sl + 6 ≤ 10306; omega⟩ hsize (Nat.le_of_ble_eq_true rfl) d_La_law_1051 (fun v w' H locs hPo hP hD hS => ?_) (fun _ _ _ _ _ _ hPx => hPx.elim)
  obtain ⟨rfl, hn1, hn2⟩ := hPo
  obtain ⟨hT, hok, hbad⟩ := P_share G B XS XF XL ZS ZF (xs ((nI i) + 1).toNatClampNeg) (xs ((nI i) + 2).toNatClampNeg) hI
  generalize hk : cod [eIA, eIO, eAR] (th_share (xs ((nI i) + 1).toNatClampNeg) (xs ((nI i) + 2).toNatClampNeg) (bx_sum (XF 18) 6)) = k at hT ⊢
  refine W.eq (g2 := F0 m 1054 ls [.int k]) rfl ?_
  refine lv_istore (lv' := [(5, .int k), (4, .int (nI i)), (3, .ref oo), (2, .ref (B 0)), (1, .ref (A 0)), (0, .ref b)]) hx hb d_La_law_1054 hl (by decide) rfl (fun ls hl => ?_)
  have hsize : ls.size = c.maxLocals := by rw [hml]; exact hl.1
  refine lv_aload_n hx hb d_La_law_1056 rfl (lv_at hl 3 rfl) ?_
  refine lv_aload_n hx hb d_La_law_1057 rfl (lv_at hl 5 rfl) ?_
  refine lv_iload hx hb d_La_law_1058 (lv_at hl 1 rfl) ?_
  refine lv_iconst (v := 1) hx hb d_La_law_1060 (by decide) ?_
  refine lv_iadd hx hb d_La_law_1061 ?_
  refine va_sld hx hb hX hbl hbA hS ha1 d_La_law_1062 ?_
  refine lv_aload_n hx hb d_La_law_1063 rfl (lv_at hl 5 rfl) ?_
  refine lv_iload hx hb d_La_law_1064 (lv_at hl 1 rfl) ?_
  refine lv_iconst (v := 2) hx hb d_La_law_1066 (by decide) ?_
  refine lv_iadd hx hb d_La_law_1067 ?_
  refine va_sld hx hb hX hbl hbA hS ha2 d_La_law_1068 ?_
  obtain ⟨hP, hD⟩ := gl_swap hP hD
  refine gx_call (ix_V (As := [.int (xs ((nI i) + 1).toNatClampNeg), .int (xs ((nI i) + 2).toNatClampNeg)]) (rest := []) hx hb hown (k_La_166 hC) (ki_Mo_share hC) (kv_Mo_share hC) (mx_Is.code (args := #[]) (kc_Mo_share hC)) kh_Mo_share (va_recv hC.K hP (ci := 10) (q0 := 0) rfl rfl) rfl kp_Mo_share rfl d_La_law_1069) (M_share l hl0 G B XS XF XL ZS ZF (xs ((nI i) + 1).toNatClampNeg) (xs ((nI i) + 2).toNatClampNeg)) (kc_Mo_share hC) rfl (mx_Is.code (args := #[]) (kc_Mo_share hC)) (kn_Mo hC) hb hC hP hD hS (by decide) ⟨by show cs + 1 + 0 ≤ 1087; omega, by show sl + 6 + 0 ≤ 10306; omega⟩ hsize (Nat.le_of_ble_eq_true rfl) d_La_law_1069 (fun v w2 H locs hMo hP hD hS => ?_) (fun _ _ _ _ _ _ hPx => hPx.elim)
  rcases hMo with ⟨hT0, rfl, rfl⟩ | ⟨hT0, rfl, rfl⟩
  · have ht : th_share (xs ((nI i) + 1).toNatClampNeg) (xs ((nI i) + 2).toNatClampNeg) (bx_sum (XF 18) 6) = none := cod_none (hk.trans (hT.trans hT0)) (by decide)
    obtain rfl := hn1 ht
    obtain ⟨⟨hw, hI1⟩, hrv⟩ := hok ht
    rw [hw] at hP hD
    have hk0 : k = 0 := hT.trans hT0
    subst hk0
    refine W.eq (g2 := F0 m 1072 ls [.int (hp_part (XF 18) (xs ((nI i) + 2).toNatClampNeg) (bx_sum (XF 18) 6) (xs ((nI i) + 1).toNatClampNeg))]) rfl ?_
    refine lv_istore (lv' := [(6, .int (hp_part (XF 18) (xs ((nI i) + 2).toNatClampNeg) (bx_sum (XF 18) 6) (xs ((nI i) + 1).toNatClampNeg))), (5, .int 0), (4, .int (nI i)), (3, .ref oo), (2, .ref (B 0)), (1, .ref (A 0)), (0, .ref b)]) hx hb d_La_law_1072 hl (by decide) rfl (fun ls hl => ?_)
    have hsize : ls.size = c.maxLocals := by rw [hml]; exact hl.1
    refine lv_aload_n hx hb d_La_law_1074 rfl (lv_at hl 4 rfl) ?_
    refine px_callN (ix_V (As := []) (rest := []) hx hb hown (k_La_107 hC) (ki_Mo_thrown hC) (kv_Mo_thrown hC) (mx_Is.code (args := #[]) (kc_Mo_thrown hC)) kh_Mo_thrown (va_recv hC.K hP (ci := 10) (q0 := 0) rfl rfl) rfl kp_Mo_thrown rfl d_La_law_1075) (M_thrown l hl0 G B XS XF XL (uS ZS 1 0) ZF) (kc_Mo_thrown hC) rfl (mx_Is.code (args := #[]) (kc_Mo_thrown hC)) (kn_Mo hC) hb hC (gl_leftP hP).1 (gl_leftD hD) hS (by decide) ⟨by show cs + 1 + 0 ≤ 1087; omega, by show sl + 6 + 0 ≤ 10306; omega⟩ hsize (Nat.le_of_ble_eq_true rfl) d_La_law_1075 ?_
    refine W.eq (g2 := F0 m 1078 ls [.int 0]) rfl ?_
    refine lv_iload hx hb d_La_law_1078 (lv_at hl 1 rfl) ?_
    refine lv_icmp_eq (tgt := 1085) hx hb d_La_law_1080 (by decide) (fun _ => ?_) (fun c_1080 => absurd c_1080 (by decide))
    refine lv_iload hx hb d_La_law_1085 (lv_at hl 1 rfl) ?_
    refine lv_if_ne (tgt := 1102) hx hb d_La_law_1087 (by decide) (fun c_1087 => absurd c_1087 (by decide)) (fun _ => ?_)
    refine lv_aload_n hx hb d_La_law_1090 rfl (lv_at hl 3 rfl) ?_
    refine lv_iconst (v := 0) hx hb d_La_law_1091 (by decide) ?_
    refine va_lald hx hb hC.K hP 23 2 rfl rfl (vp_in_nI (n := 0) (by decide) (by decide)) d_La_law_1092 ?_
    refine lv_iload hx hb d_La_law_1093 (lv_at hl 0 rfl) ?_
    refine lv_i2l hx hb d_La_law_1095 rfl ?_
    refine W.lcmp hx hb d_La_law_1096 ?_
    refine lv_if_eq (tgt := 1102) hx hb d_La_law_1097 (by decide) (fun c_1097 => ?_) (fun c_1097 => ?_)
    · rw [lg_cmp_eq] at c_1097
      refine lv_goto (tgt := 1559) hx hb d_La_law_1102 (by decide) ?_
      obtain ⟨hP, hD⟩ := gl_swap hP hD
      exact kk (vp_updL FO (0 : Int32).toNatClampNeg ((hp_part (XF 18) (xs ((nI i) + 2).toNatClampNeg) (bx_sum (XF 18) 6) (xs ((nI i) + 1).toNatClampNeg)).toInt64)) XS XF XL (uS ZS 1 0) ZF _ _ ls hI1 hP hD hS (lv_sub hl [2, 3, 4, 5, 6] rfl)
    · rw [lg_cmp_eq] at c_1097; exact absurd (by rw [pk_uLs, hrv]) c_1097
  · have ht : ¬ th_share (xs ((nI i) + 1).toNatClampNeg) (xs ((nI i) + 2).toNatClampNeg) (bx_sum (XF 18) 6) = none := fun q => hT0 (by rw [← hT, ← hk, q]; rfl)
    obtain rfl := hn2 ht
    obtain ⟨hw, hI1⟩ := hbad ht
    rw [hw] at hP hD
    have hk0 : ¬ k = 0 := fun q => hT0 (hT.symm.trans q)
    refine W.eq (g2 := F0 m 1072 ls [.int 0]) rfl ?_
    refine lv_istore (lv' := [(6, .int 0), (5, .int k), (4, .int (nI i)), (3, .ref oo), (2, .ref (B 0)), (1, .ref (A 0)), (0, .ref b)]) hx hb d_La_law_1072 hl (by decide) rfl (fun ls hl => ?_)
    have hsize : ls.size = c.maxLocals := by rw [hml]; exact hl.1
    refine lv_aload_n hx hb d_La_law_1074 rfl (lv_at hl 4 rfl) ?_
    refine px_callN (ix_V (As := []) (rest := []) hx hb hown (k_La_107 hC) (ki_Mo_thrown hC) (kv_Mo_thrown hC) (mx_Is.code (args := #[]) (kc_Mo_thrown hC)) kh_Mo_thrown (va_recv hC.K hP (ci := 10) (q0 := 0) rfl rfl) rfl kp_Mo_thrown rfl d_La_law_1075) (M_thrown l hl0 G B XS XF XL (uS ZS 1 ((if ¬ (0 ≤ (xs ((nI i) + 1).toNatClampNeg) ∧ (xs ((nI i) + 1).toNatClampNeg) ≤ 5) then 1 else (if ¬ (0 ≤ (xs ((nI i) + 2).toNatClampNeg) ∧ (xs ((nI i) + 2).toNatClampNeg) ≤ 100000000) then 2 else (if (bx_sum (XF 18) 6) = 0 then 3 else 0))) : Int32)) ZF) (kc_Mo_thrown hC) rfl (mx_Is.code (args := #[]) (kc_Mo_thrown hC)) (kn_Mo hC) hb hC (gl_leftP hP).1 (gl_leftD hD) hS (by decide) ⟨by show cs + 1 + 0 ≤ 1087; omega, by show sl + 6 + 0 ≤ 10306; omega⟩ hsize (Nat.le_of_ble_eq_true rfl) d_La_law_1075 ?_
    refine W.eq (g2 := F0 m 1078 ls [.int ((if ¬ (0 ≤ (xs ((nI i) + 1).toNatClampNeg) ∧ (xs ((nI i) + 1).toNatClampNeg) ≤ 5) then 1 else (if ¬ (0 ≤ (xs ((nI i) + 2).toNatClampNeg) ∧ (xs ((nI i) + 2).toNatClampNeg) ≤ 100000000) then 2 else (if (bx_sum (XF 18) 6) = 0 then 3 else 0))) : Int32)]) rfl ?_
    refine lv_iload hx hb d_La_law_1078 (lv_at hl 1 rfl) ?_
    refine lv_icmp_eq (tgt := 1085) hx hb d_La_law_1080 (by decide) (fun c_1080 => ?_) (fun c_1080 => ?_)
    · refine lv_iload hx hb d_La_law_1085 (lv_at hl 1 rfl) ?_
      refine lv_if_ne (tgt := 1102) hx hb d_La_law_1087 (by decide) (fun c_1087 => ?_) (fun c_1087 => ?_)
      · refine lv_goto (tgt := 1559) hx hb d_La_law_1102 (by decide) ?_
        obtain ⟨hP, hD⟩ := gl_swap hP hD
        exact kk FO XS XF XL (uS ZS 1 ((if ¬ (0 ≤ (xs ((nI i) + 1).toNatClampNeg) ∧ (xs ((nI i) + 1).toNatClampNeg) ≤ 5) then 1 else (if ¬ (0 ≤ (xs ((nI i) + 2).toNatClampNeg) ∧ (xs ((nI i) + 2).toNatClampNeg) ≤ 100000000) then 2 else (if (bx_sum (XF 18) 6) = 0 then 3 else 0))) : Int32)) ZF _ _ ls hI1 hP hD hS (lv_sub hl [2, 3, 4, 5, 6] rfl)
      · exact absurd c_1087 hk0
    · exact absurd hT.symm c_1080
set_option maxHeartbeats 4000000 in
set_option maxRecDepth 100000 in
theorem case_16 {p : Program} {l : Launch} {e : Env} {s : State} {m : MethodId} {below : List Frame} {meth : Method} {c : Code} (hl0 : l.stackTraces = false) {G : GG} (hC : g_C G s) (hx : p.tables.exec = Jvm.exec) (hb : c.code = code) (hml : c.maxLocals = 8) (hown : s.vm.findClass R_La = some m.cls) {b L : Nat} {xs : Nat → Int32} (hX : va_X b L xs s s.heap) (hbl : b < s.heap.size) (hbA : ¬ g_A G b) {Q : State → Prop} {A B : Nat → Nat} {oo : Nat} {XS : Nat → Int32} {XF : Nat → Nat → Int32} {XL : Nat → Int64} {ZS : Nat → Int32} {ZF : Nat → Nat → Int32} {FO : Nat → Int64} (hI : INV XS XF ZF) {i : Nat} (hi : i + 5 ≤ L) (hL : L ≤ 2560) {cs sl : Nat} (hcs : cs + 1 ≤ 1087) (hsl : sl + 6 ≤ 10306) {H : Heap} {locs : List Loc} (hP : va_P G.1 g_cl (((oo, .inl (G.2.1 2, 1, .inr (.inl FO))) :: wcb G A XS XF XL) ++ (wmo G B XS XF XL ZS ZF ++ [])) H) (hD : va_D (g_A G) (((oo, .inl (G.2.1 2, 1, .inr (.inl FO))) :: wcb G A XS XF XL) ++ (wmo G B XS XF XL ZS ZF ++ []))) (hS : va_S (g_A G) s.heap H locs) {ls : Array Slot} (hl : lv_has ls 8 [(4, .int (nI i)), (3, .ref oo), (2, .ref (B 0)), (1, .ref (A 0)), (0, .ref b)]) (kk : ∀ (FO' : Nat → Int64) (XS' : Nat → Int32) (XF' : Nat → Nat → Int32) (XL' : Nat → Int64) (ZS' : Nat → Int32) (ZF' : Nat → Nat → Int32) (H' : Heap) (locs' : List Loc) (ls' : Array Slot), INV XS' XF' ZF' → va_P G.1 g_cl (((oo, .inl (G.2.1 2, 1, .inr (.inl FO'))) :: wcb G A XS' XF' XL') ++ (wmo G B XS' XF' XL' ZS' ZF' ++ [])) H' → va_D (g_A G) (((oo, .inl (G.2.1 2, 1, .inr (.inl FO'))) :: wcb G A XS' XF' XL') ++ (wmo G B XS' XF' XL' ZS' ZF' ++ [])) → va_S (g_A G) s.heap H' locs' → lv_has ls' 8 [(4, .int (nI i)), (3, .ref oo), (2, .ref (B 0)), (1, .ref (A 0)), (0, .ref b)] → W p l e room_1 s m #[Value.ref b] below meth c H' locs' (cs + 1) (sl + 6) Q (F0 m 1559 ls' [])) : W p l e room_1 s m #[Value.ref b] below meth c H locs cs sl Q (F0 m 1105 ls []) := by
  obtain ⟨hor, hta, hre, htf, hbi, hho, hgr, hle, hcl, hbd⟩ := id hI
  have hsize : ls.size = c.maxLocals := by rw [hml]; exact hl.1
  refine lv_aload_n hx hb d_La_law_1105 rfl (lv_at hl 3 rfl) ?_
  refine lv_aload_n hx hb d_La_law_1106 rfl (lv_at hl 4 rfl) ?_
  refine lv_iload hx hb d_La_law_1107 (lv_at hl 0 rfl) ?_
  refine lv_iconst (v := 1) hx hb d_La_law_1109 (by decide) ?_
  refine lv_iadd hx hb d_La_law_1110 ?_
  have ha1 : vp_in ((nI i) + 1) L := by rw [show (1 : Int32) = nI 1 by decide +kernel, nI_add]; exact vp_in_nI (by omega) (by omega)
  refine va_sld hx hb hX hbl hbA hS ha1 d_La_law_1111 ?_
  refine lv_aload_n hx hb d_La_law_1112 rfl (lv_at hl 4 rfl) ?_
  refine lv_iload hx hb d_La_law_1113 (lv_at hl 0 rfl) ?_
  refine lv_iconst (v := 2) hx hb d_La_law_1115 (by decide) ?_
  refine lv_iadd hx hb d_La_law_1116 ?_
  have ha2 : vp_in ((nI i) + 2) L := by rw [show (2 : Int32) = nI 2 by decide +kernel, nI_add]; exact vp_in_nI (by omega) (by omega)
  refine va_sld hx hb hX hbl hbA hS ha2 d_La_law_1117 ?_
  refine lv_aload_n hx hb d_La_law_1118 rfl (lv_at hl 1 rfl) ?_
  refine gx_call (ix_S (As := [.ref (A 0), .int (xs ((nI i) + 1).toNatClampNeg), .int (xs ((nI i) + 2).toNatClampNeg), .ref oo]) (rest := []) hx hb hown (k_La_167 hC) (ks_La_grant hC) (kn_La hC) (mx_Is.with (args := #[]) (kc_La_grant hC)) kh_La_grant rfl kp_La_grant rfl d_La_law_1119) (L_grant l hl0 G A XS XF XL oo FO (xs ((nI i) + 1).toNatClampNeg) (xs ((nI i) + 2).toNatClampNeg) (in_nn hgr)) (kc_La_grant hC) rfl (mx_Is.with (args := #[]) (kc_La_grant hC)) (kn_La hC) hb hC hP hD hS (by decide) ⟨by show cs + 1 ≤ 1087; omega, by show sl + 6 ≤ 10306; omega⟩ hsize (Nat.le_of_ble_eq_true rfl) d_La_law_1119 (fun v w' H locs hPo hP hD hS => ?_) (fun _ _ _ _ _ _ hPx => hPx.elim)
  obtain ⟨rfl, hn1, hn2⟩ := hPo
  obtain ⟨hT, hok, hbad⟩ := P_grant G B XS XF XL ZS ZF (xs ((nI i) + 1).toNatClampNeg) (xs ((nI i) + 2).toNatClampNeg) hI
  generalize hk : cod [eIA, eIO, eUO] (th_grant (xs ((nI i) + 1).toNatClampNeg) (xs ((nI i) + 2).toNatClampNeg) (XS 9)) = k at hT ⊢
  refine W.eq (g2 := F0 m 1122 ls [.int k]) rfl ?_
  refine lv_istore (lv' := [(5, .int k), (4, .int (nI i)), (3, .ref oo), (2, .ref (B 0)), (1, .ref (A 0)), (0, .ref b)]) hx hb d_La_law_1122 hl (by decide) rfl (fun ls hl => ?_)
  have hsize : ls.size = c.maxLocals := by rw [hml]; exact hl.1
  refine lv_aload_n hx hb d_La_law_1124 rfl (lv_at hl 3 rfl) ?_
  refine lv_aload_n hx hb d_La_law_1125 rfl (lv_at hl 5 rfl) ?_
  refine lv_iload hx hb d_La_law_1126 (lv_at hl 1 rfl) ?_
  refine lv_iconst (v := 1) hx hb d_La_law_1128 (by decide) ?_
  refine lv_iadd hx hb d_La_law_1129 ?_
  refine va_sld hx hb hX hbl hbA hS ha1 d_La_law_1130 ?_
  refine lv_aload_n hx hb d_La_law_1131 rfl (lv_at hl 5 rfl) ?_
  refine lv_iload hx hb d_La_law_1132 (lv_at hl 1 rfl) ?_
  refine lv_iconst (v := 2) hx hb d_La_law_1134 (by decide) ?_
  refine lv_iadd hx hb d_La_law_1135 ?_
  refine va_sld hx hb hX hbl hbA hS ha2 d_La_law_1136 ?_
  obtain ⟨hP, hD⟩ := gl_swap hP hD
  refine gx_call (ix_V (As := [.int (xs ((nI i) + 1).toNatClampNeg), .int (xs ((nI i) + 2).toNatClampNeg)]) (rest := []) hx hb hown (k_La_169 hC) (ki_Mo_grant hC) (kv_Mo_grant hC) (mx_Is.code (args := #[]) (kc_Mo_grant hC)) kh_Mo_grant (va_recv hC.K hP (ci := 10) (q0 := 0) rfl rfl) rfl kp_Mo_grant rfl d_La_law_1137) (M_grant l hl0 G B XS XF XL ZS ZF (xs ((nI i) + 1).toNatClampNeg) (xs ((nI i) + 2).toNatClampNeg) hgr) (kc_Mo_grant hC) rfl (mx_Is.code (args := #[]) (kc_Mo_grant hC)) (kn_Mo hC) hb hC hP hD hS (by decide) ⟨by show cs + 1 + 0 ≤ 1087; omega, by show sl + 6 + 0 ≤ 10306; omega⟩ hsize (Nat.le_of_ble_eq_true rfl) d_La_law_1137 (fun v w2 H locs hMo hP hD hS => ?_) (fun _ _ _ _ _ _ hPx => hPx.elim)
  rcases hMo with ⟨hT0, rfl, rfl⟩ | ⟨hT0, rfl, rfl⟩
  · have ht : th_grant (xs ((nI i) + 1).toNatClampNeg) (xs ((nI i) + 2).toNatClampNeg) (XS 9) = none := cod_none (hk.trans (hT.trans hT0)) (by decide)
    obtain rfl := hn1 ht
    obtain ⟨⟨hw, hI1⟩, hrv⟩ := hok ht
    rw [hw] at hP hD
    have hk0 : k = 0 := hT.trans hT0
    subst hk0
    refine W.eq (g2 := F0 m 1140 ls [.int (((XS 9) + 1) - 1)]) rfl ?_
    refine lv_istore (lv' := [(6, .int (((XS 9) + 1) - 1)), (5, .int 0), (4, .int (nI i)), (3, .ref oo), (2, .ref (B 0)), (1, .ref (A 0)), (0, .ref b)]) hx hb d_La_law_1140 hl (by decide) rfl (fun ls hl => ?_)
    have hsize : ls.size = c.maxLocals := by rw [hml]; exact hl.1
    refine lv_aload_n hx hb d_La_law_1142 rfl (lv_at hl 4 rfl) ?_
    refine px_callN (ix_V (As := []) (rest := []) hx hb hown (k_La_107 hC) (ki_Mo_thrown hC) (kv_Mo_thrown hC) (mx_Is.code (args := #[]) (kc_Mo_thrown hC)) kh_Mo_thrown (va_recv hC.K hP (ci := 10) (q0 := 0) rfl rfl) rfl kp_Mo_thrown rfl d_La_law_1143) (M_thrown l hl0 G B (uS XS 9 ((XS 9) + 1)) (uF (uF XF 19 (upd (XF 19) (XS 9).toNatClampNeg (xs ((nI i) + 1).toNatClampNeg))) 20 (upd (XF 20) (XS 9).toNatClampNeg (xs ((nI i) + 2).toNatClampNeg))) XL (uS ZS 1 0) ZF) (kc_Mo_thrown hC) rfl (mx_Is.code (args := #[]) (kc_Mo_thrown hC)) (kn_Mo hC) hb hC (gl_leftP hP).1 (gl_leftD hD) hS (by decide) ⟨by show cs + 1 + 0 ≤ 1087; omega, by show sl + 6 + 0 ≤ 10306; omega⟩ hsize (Nat.le_of_ble_eq_true rfl) d_La_law_1143 ?_
    refine W.eq (g2 := F0 m 1146 ls [.int 0]) rfl ?_
    refine lv_iload hx hb d_La_law_1146 (lv_at hl 1 rfl) ?_
    refine lv_icmp_eq (tgt := 1153) hx hb d_La_law_1148 (by decide) (fun _ => ?_) (fun c_1148 => absurd c_1148 (by decide))
    refine lv_iload hx hb d_La_law_1153 (lv_at hl 1 rfl) ?_
    refine lv_if_ne (tgt := 1170) hx hb d_La_law_1155 (by decide) (fun c_1155 => absurd c_1155 (by decide)) (fun _ => ?_)
    refine lv_aload_n hx hb d_La_law_1158 rfl (lv_at hl 3 rfl) ?_
    refine lv_iconst (v := 0) hx hb d_La_law_1159 (by decide) ?_
    refine va_lald hx hb hC.K hP 23 2 rfl rfl (vp_in_nI (n := 0) (by decide) (by decide)) d_La_law_1160 ?_
    refine lv_iload hx hb d_La_law_1161 (lv_at hl 0 rfl) ?_
    refine lv_i2l hx hb d_La_law_1163 rfl ?_
    refine W.lcmp hx hb d_La_law_1164 ?_
    refine lv_if_eq (tgt := 1170) hx hb d_La_law_1165 (by decide) (fun c_1165 => ?_) (fun c_1165 => ?_)
    · rw [lg_cmp_eq] at c_1165
      refine lv_goto (tgt := 1559) hx hb d_La_law_1170 (by decide) ?_
      obtain ⟨hP, hD⟩ := gl_swap hP hD
      exact kk (vp_updL FO (0 : Int32).toNatClampNeg ((((XS 9) + 1) - 1).toInt64)) (uS XS 9 ((XS 9) + 1)) (uF (uF XF 19 (upd (XF 19) (XS 9).toNatClampNeg (xs ((nI i) + 1).toNatClampNeg))) 20 (upd (XF 20) (XS 9).toNatClampNeg (xs ((nI i) + 2).toNatClampNeg))) XL (uS ZS 1 0) ZF _ _ ls hI1 hP hD hS (lv_sub hl [2, 3, 4, 5, 6] rfl)
    · rw [lg_cmp_eq] at c_1165; exact absurd (by rw [pk_uLs, hrv]) c_1165
  · have ht : ¬ th_grant (xs ((nI i) + 1).toNatClampNeg) (xs ((nI i) + 2).toNatClampNeg) (XS 9) = none := fun q => hT0 (by rw [← hT, ← hk, q]; rfl)
    obtain rfl := hn2 ht
    obtain ⟨hw, hI1⟩ := hbad ht
    rw [hw] at hP hD
    have hk0 : ¬ k = 0 := fun q => hT0 (hT.symm.trans q)
    refine W.eq (g2 := F0 m 1140 ls [.int 0]) rfl ?_
    refine lv_istore (lv' := [(6, .int 0), (5, .int k), (4, .int (nI i)), (3, .ref oo), (2, .ref (B 0)), (1, .ref (A 0)), (0, .ref b)]) hx hb d_La_law_1140 hl (by decide) rfl (fun ls hl => ?_)
    have hsize : ls.size = c.maxLocals := by rw [hml]; exact hl.1
    refine lv_aload_n hx hb d_La_law_1142 rfl (lv_at hl 4 rfl) ?_
    refine px_callN (ix_V (As := []) (rest := []) hx hb hown (k_La_107 hC) (ki_Mo_thrown hC) (kv_Mo_thrown hC) (mx_Is.code (args := #[]) (kc_Mo_thrown hC)) kh_Mo_thrown (va_recv hC.K hP (ci := 10) (q0 := 0) rfl rfl) rfl kp_Mo_thrown rfl d_La_law_1143) (M_thrown l hl0 G B XS XF XL (uS ZS 1 ((if ¬ (0 ≤ (xs ((nI i) + 1).toNatClampNeg) ∧ (xs ((nI i) + 1).toNatClampNeg) ≤ 9) then 1 else (if ¬ (0 ≤ (xs ((nI i) + 2).toNatClampNeg) ∧ (xs ((nI i) + 2).toNatClampNeg) ≤ 100000000) then 2 else (if (XS 9) = 20 then 3 else 0))) : Int32)) ZF) (kc_Mo_thrown hC) rfl (mx_Is.code (args := #[]) (kc_Mo_thrown hC)) (kn_Mo hC) hb hC (gl_leftP hP).1 (gl_leftD hD) hS (by decide) ⟨by show cs + 1 + 0 ≤ 1087; omega, by show sl + 6 + 0 ≤ 10306; omega⟩ hsize (Nat.le_of_ble_eq_true rfl) d_La_law_1143 ?_
    refine W.eq (g2 := F0 m 1146 ls [.int ((if ¬ (0 ≤ (xs ((nI i) + 1).toNatClampNeg) ∧ (xs ((nI i) + 1).toNatClampNeg) ≤ 9) then 1 else (if ¬ (0 ≤ (xs ((nI i) + 2).toNatClampNeg) ∧ (xs ((nI i) + 2).toNatClampNeg) ≤ 100000000) then 2 else (if (XS 9) = 20 then 3 else 0))) : Int32)]) rfl ?_
    refine lv_iload hx hb d_La_law_1146 (lv_at hl 1 rfl) ?_
    refine lv_icmp_eq (tgt := 1153) hx hb d_La_law_1148 (by decide) (fun c_1148 => ?_) (fun c_1148 => ?_)
    · refine lv_iload hx hb d_La_law_1153 (lv_at hl 1 rfl) ?_
      refine lv_if_ne (tgt := 1170) hx hb d_La_law_1155 (by decide) (fun c_1155 => ?_) (fun c_1155 => ?_)
      · refine lv_goto (tgt := 1559) hx hb d_La_law_1170 (by decide) ?_
        obtain ⟨hP, hD⟩ := gl_swap hP hD
        exact kk FO XS XF XL (uS ZS 1 ((if ¬ (0 ≤ (xs ((nI i) + 1).toNatClampNeg) ∧ (xs ((nI i) + 1).toNatClampNeg) ≤ 9) then 1 else (if ¬ (0 ≤ (xs ((nI i) + 2).toNatClampNeg) ∧ (xs ((nI i) + 2).toNatClampNeg) ≤ 100000000) then 2 else (if (XS 9) = 20 then 3 else 0))) : Int32)) ZF _ _ ls hI1 hP hD hS (lv_sub hl [2, 3, 4, 5, 6] rfl)
      · exact absurd c_1155 hk0
    · exact absurd hT.symm c_1148
set_option maxHeartbeats 4000000 in
set_option maxRecDepth 100000 in
theorem case_17 {p : Program} {l : Launch} {e : Env} {s : State} {m : MethodId} {below : List Frame} {meth : Method} {c : Code} (hl0 : l.stackTraces = false) {G : GG} (hC : g_C G s) (hx : p.tables.exec = Jvm.exec) (hb : c.code = code) (hml : c.maxLocals = 8) (hown : s.vm.findClass R_La = some m.cls) {b L : Nat} {xs : Nat → Int32} (hX : va_X b L xs s s.heap) (hbl : b < s.heap.size) (hbA : ¬ g_A G b) {Q : State → Prop} {A B : Nat → Nat} {oo : Nat} {XS : Nat → Int32} {XF : Nat → Nat → Int32} {XL : Nat → Int64} {ZS : Nat → Int32} {ZF : Nat → Nat → Int32} {FO : Nat → Int64} (hI : INV XS XF ZF) {i : Nat} (hi : i + 5 ≤ L) (hL : L ≤ 2560) {cs sl : Nat} (hcs : cs + 1 ≤ 1087) (hsl : sl + 6 ≤ 10306) {H : Heap} {locs : List Loc} (hP : va_P G.1 g_cl (((oo, .inl (G.2.1 2, 1, .inr (.inl FO))) :: wcb G A XS XF XL) ++ (wmo G B XS XF XL ZS ZF ++ [])) H) (hD : va_D (g_A G) (((oo, .inl (G.2.1 2, 1, .inr (.inl FO))) :: wcb G A XS XF XL) ++ (wmo G B XS XF XL ZS ZF ++ []))) (hS : va_S (g_A G) s.heap H locs) {ls : Array Slot} (hl : lv_has ls 8 [(4, .int (nI i)), (3, .ref oo), (2, .ref (B 0)), (1, .ref (A 0)), (0, .ref b)]) (kk : ∀ (FO' : Nat → Int64) (XS' : Nat → Int32) (XF' : Nat → Nat → Int32) (XL' : Nat → Int64) (ZS' : Nat → Int32) (ZF' : Nat → Nat → Int32) (H' : Heap) (locs' : List Loc) (ls' : Array Slot), INV XS' XF' ZF' → va_P G.1 g_cl (((oo, .inl (G.2.1 2, 1, .inr (.inl FO'))) :: wcb G A XS' XF' XL') ++ (wmo G B XS' XF' XL' ZS' ZF' ++ [])) H' → va_D (g_A G) (((oo, .inl (G.2.1 2, 1, .inr (.inl FO'))) :: wcb G A XS' XF' XL') ++ (wmo G B XS' XF' XL' ZS' ZF' ++ [])) → va_S (g_A G) s.heap H' locs' → lv_has ls' 8 [(4, .int (nI i)), (3, .ref oo), (2, .ref (B 0)), (1, .ref (A 0)), (0, .ref b)] → W p l e room_1 s m #[Value.ref b] below meth c H' locs' (cs + 1) (sl + 6) Q (F0 m 1559 ls' [])) : W p l e room_1 s m #[Value.ref b] below meth c H locs cs sl Q (F0 m 1173 ls []) := by
  obtain ⟨hor, hta, hre, htf, hbi, hho, hgr, hle, hcl, hbd⟩ := id hI
  have hsize : ls.size = c.maxLocals := by rw [hml]; exact hl.1
  refine lv_aload_n hx hb d_La_law_1173 rfl (lv_at hl 3 rfl) ?_
  refine lv_aload_n hx hb d_La_law_1174 rfl (lv_at hl 4 rfl) ?_
  refine lv_iload hx hb d_La_law_1175 (lv_at hl 0 rfl) ?_
  refine lv_iconst (v := 1) hx hb d_La_law_1177 (by decide) ?_
  refine lv_iadd hx hb d_La_law_1178 ?_
  have ha1 : vp_in ((nI i) + 1) L := by rw [show (1 : Int32) = nI 1 by decide +kernel, nI_add]; exact vp_in_nI (by omega) (by omega)
  refine va_sld hx hb hX hbl hbA hS ha1 d_La_law_1179 ?_
  refine lv_aload_n hx hb d_La_law_1180 rfl (lv_at hl 4 rfl) ?_
  refine lv_iload hx hb d_La_law_1181 (lv_at hl 0 rfl) ?_
  refine lv_iconst (v := 2) hx hb d_La_law_1183 (by decide) ?_
  refine lv_iadd hx hb d_La_law_1184 ?_
  have ha2 : vp_in ((nI i) + 2) L := by rw [show (2 : Int32) = nI 2 by decide +kernel, nI_add]; exact vp_in_nI (by omega) (by omega)
  refine va_sld hx hb hX hbl hbA hS ha2 d_La_law_1185 ?_
  refine lv_aload_n hx hb d_La_law_1186 rfl (lv_at hl 4 rfl) ?_
  refine lv_iload hx hb d_La_law_1187 (lv_at hl 0 rfl) ?_
  refine lv_iconst (v := 3) hx hb d_La_law_1189 (by decide) ?_
  refine lv_iadd hx hb d_La_law_1190 ?_
  have ha3 : vp_in ((nI i) + 3) L := by rw [show (3 : Int32) = nI 3 by decide +kernel, nI_add]; exact vp_in_nI (by omega) (by omega)
  refine va_sld hx hb hX hbl hbA hS ha3 d_La_law_1191 ?_
  refine lv_aload_n hx hb d_La_law_1192 rfl (lv_at hl 1 rfl) ?_
  refine gx_call (ix_S (As := [.ref (A 0), .int (xs ((nI i) + 1).toNatClampNeg), .int (xs ((nI i) + 2).toNatClampNeg), .int (xs ((nI i) + 3).toNatClampNeg), .ref oo]) (rest := []) hx hb hown (k_La_170 hC) (ks_La_use hC) (kn_La hC) (mx_Is.with (args := #[]) (kc_La_use hC)) kh_La_use rfl kp_La_use rfl d_La_law_1193) (L_use l hl0 G A XS XF XL oo FO (xs ((nI i) + 1).toNatClampNeg) (xs ((nI i) + 2).toNatClampNeg) (xs ((nI i) + 3).toNatClampNeg) (in_leT hgr)) (kc_La_use hC) rfl (mx_Is.with (args := #[]) (kc_La_use hC)) (kn_La hC) hb hC hP hD hS (by decide) ⟨by show cs + 1 ≤ 1087; omega, by show sl + 6 ≤ 10306; omega⟩ hsize (Nat.le_of_ble_eq_true rfl) d_La_law_1193 (fun v w' H locs hPo hP hD hS => ?_) (fun _ _ _ _ _ _ hPx => hPx.elim)
  obtain ⟨rfl, hn1, hn2⟩ := hPo
  obtain ⟨hT, hok, hbad⟩ := P_use G B XS XF XL ZS ZF (xs ((nI i) + 1).toNatClampNeg) (xs ((nI i) + 2).toNatClampNeg) (xs ((nI i) + 3).toNatClampNeg) hI
  generalize hk : cod [eIA, eIO, eIS] (th_use (xs ((nI i) + 1).toNatClampNeg) (xs ((nI i) + 2).toNatClampNeg) (xs ((nI i) + 3).toNatClampNeg) (XS 9) ((XF 19) (xs ((nI i) + 1).toNatClampNeg).toNatClampNeg) ((XF 20) (xs ((nI i) + 1).toNatClampNeg).toNatClampNeg)) = k at hT ⊢
  refine W.eq (g2 := F0 m 1196 ls [.int k]) rfl ?_
  refine lv_istore (lv' := [(5, .int k), (4, .int (nI i)), (3, .ref oo), (2, .ref (B 0)), (1, .ref (A 0)), (0, .ref b)]) hx hb d_La_law_1196 hl (by decide) rfl (fun ls hl => ?_)
  have hsize : ls.size = c.maxLocals := by rw [hml]; exact hl.1
  refine lv_aload_n hx hb d_La_law_1198 rfl (lv_at hl 3 rfl) ?_
  refine lv_aload_n hx hb d_La_law_1199 rfl (lv_at hl 5 rfl) ?_
  refine lv_iload hx hb d_La_law_1200 (lv_at hl 1 rfl) ?_
  refine lv_iconst (v := 1) hx hb d_La_law_1202 (by decide) ?_
  refine lv_iadd hx hb d_La_law_1203 ?_
  refine va_sld hx hb hX hbl hbA hS ha1 d_La_law_1204 ?_
  refine lv_aload_n hx hb d_La_law_1205 rfl (lv_at hl 5 rfl) ?_
  refine lv_iload hx hb d_La_law_1206 (lv_at hl 1 rfl) ?_
  refine lv_iconst (v := 2) hx hb d_La_law_1208 (by decide) ?_
  refine lv_iadd hx hb d_La_law_1209 ?_
  refine va_sld hx hb hX hbl hbA hS ha2 d_La_law_1210 ?_
  refine lv_aload_n hx hb d_La_law_1211 rfl (lv_at hl 5 rfl) ?_
  refine lv_iload hx hb d_La_law_1212 (lv_at hl 1 rfl) ?_
  refine lv_iconst (v := 3) hx hb d_La_law_1214 (by decide) ?_
  refine lv_iadd hx hb d_La_law_1215 ?_
  refine va_sld hx hb hX hbl hbA hS ha3 d_La_law_1216 ?_
  obtain ⟨hP, hD⟩ := gl_swap hP hD
  refine gx_call (ix_V (As := [.int (xs ((nI i) + 1).toNatClampNeg), .int (xs ((nI i) + 2).toNatClampNeg), .int (xs ((nI i) + 3).toNatClampNeg)]) (rest := []) hx hb hown (k_La_172 hC) (ki_Mo_use hC) (kv_Mo_use hC) (mx_Is.code (args := #[]) (kc_Mo_use hC)) kh_Mo_use (va_recv hC.K hP (ci := 10) (q0 := 0) rfl rfl) rfl kp_Mo_use rfl d_La_law_1217) (M_use l hl0 G B XS XF XL ZS ZF (xs ((nI i) + 1).toNatClampNeg) (xs ((nI i) + 2).toNatClampNeg) (xs ((nI i) + 3).toNatClampNeg) hgr) (kc_Mo_use hC) rfl (mx_Is.code (args := #[]) (kc_Mo_use hC)) (kn_Mo hC) hb hC hP hD hS (by decide) ⟨by show cs + 1 + 0 ≤ 1087; omega, by show sl + 6 + 0 ≤ 10306; omega⟩ hsize (Nat.le_of_ble_eq_true rfl) d_La_law_1217 (fun v w2 H locs hMo hP hD hS => ?_) (fun _ _ _ _ _ _ hPx => hPx.elim)
  rcases hMo with ⟨hT0, rfl, rfl⟩ | ⟨hT0, rfl, rfl⟩
  · have ht : th_use (xs ((nI i) + 1).toNatClampNeg) (xs ((nI i) + 2).toNatClampNeg) (xs ((nI i) + 3).toNatClampNeg) (XS 9) ((XF 19) (xs ((nI i) + 1).toNatClampNeg).toNatClampNeg) ((XF 20) (xs ((nI i) + 1).toNatClampNeg).toNatClampNeg) = none := cod_none (hk.trans (hT.trans hT0)) (by decide)
    obtain rfl := hn1 ht
    obtain ⟨⟨hw, hI1⟩, hrv⟩ := hok ht
    rw [hw] at hP hD
    have hk0 : k = 0 := hT.trans hT0
    subst hk0
    refine W.eq (g2 := F0 m 1220 ls [.int ((upd (XF 20) (xs ((nI i) + 1).toNatClampNeg).toNatClampNeg (((XF 20) (xs ((nI i) + 1).toNatClampNeg).toNatClampNeg) - (xs ((nI i) + 3).toNatClampNeg))) (xs ((nI i) + 1).toNatClampNeg).toNatClampNeg)]) rfl ?_
    refine lv_istore (lv' := [(6, .int ((upd (XF 20) (xs ((nI i) + 1).toNatClampNeg).toNatClampNeg (((XF 20) (xs ((nI i) + 1).toNatClampNeg).toNatClampNeg) - (xs ((nI i) + 3).toNatClampNeg))) (xs ((nI i) + 1).toNatClampNeg).toNatClampNeg)), (5, .int 0), (4, .int (nI i)), (3, .ref oo), (2, .ref (B 0)), (1, .ref (A 0)), (0, .ref b)]) hx hb d_La_law_1220 hl (by decide) rfl (fun ls hl => ?_)
    have hsize : ls.size = c.maxLocals := by rw [hml]; exact hl.1
    refine lv_aload_n hx hb d_La_law_1222 rfl (lv_at hl 4 rfl) ?_
    refine px_callN (ix_V (As := []) (rest := []) hx hb hown (k_La_107 hC) (ki_Mo_thrown hC) (kv_Mo_thrown hC) (mx_Is.code (args := #[]) (kc_Mo_thrown hC)) kh_Mo_thrown (va_recv hC.K hP (ci := 10) (q0 := 0) rfl rfl) rfl kp_Mo_thrown rfl d_La_law_1223) (M_thrown l hl0 G B XS (uF XF 20 (upd (XF 20) (xs ((nI i) + 1).toNatClampNeg).toNatClampNeg (((XF 20) (xs ((nI i) + 1).toNatClampNeg).toNatClampNeg) - (xs ((nI i) + 3).toNatClampNeg)))) XL (uS ZS 1 0) ZF) (kc_Mo_thrown hC) rfl (mx_Is.code (args := #[]) (kc_Mo_thrown hC)) (kn_Mo hC) hb hC (gl_leftP hP).1 (gl_leftD hD) hS (by decide) ⟨by show cs + 1 + 0 ≤ 1087; omega, by show sl + 6 + 0 ≤ 10306; omega⟩ hsize (Nat.le_of_ble_eq_true rfl) d_La_law_1223 ?_
    refine W.eq (g2 := F0 m 1226 ls [.int 0]) rfl ?_
    refine lv_iload hx hb d_La_law_1226 (lv_at hl 1 rfl) ?_
    refine lv_icmp_eq (tgt := 1233) hx hb d_La_law_1228 (by decide) (fun _ => ?_) (fun c_1228 => absurd c_1228 (by decide))
    refine lv_iload hx hb d_La_law_1233 (lv_at hl 1 rfl) ?_
    refine lv_if_ne (tgt := 1250) hx hb d_La_law_1235 (by decide) (fun c_1235 => absurd c_1235 (by decide)) (fun _ => ?_)
    refine lv_aload_n hx hb d_La_law_1238 rfl (lv_at hl 3 rfl) ?_
    refine lv_iconst (v := 0) hx hb d_La_law_1239 (by decide) ?_
    refine va_lald hx hb hC.K hP 23 2 rfl rfl (vp_in_nI (n := 0) (by decide) (by decide)) d_La_law_1240 ?_
    refine lv_iload hx hb d_La_law_1241 (lv_at hl 0 rfl) ?_
    refine lv_i2l hx hb d_La_law_1243 rfl ?_
    refine W.lcmp hx hb d_La_law_1244 ?_
    refine lv_if_eq (tgt := 1250) hx hb d_La_law_1245 (by decide) (fun c_1245 => ?_) (fun c_1245 => ?_)
    · rw [lg_cmp_eq] at c_1245
      refine lv_goto (tgt := 1559) hx hb d_La_law_1250 (by decide) ?_
      obtain ⟨hP, hD⟩ := gl_swap hP hD
      exact kk (vp_updL FO (0 : Int32).toNatClampNeg (((upd (XF 20) (xs ((nI i) + 1).toNatClampNeg).toNatClampNeg (((XF 20) (xs ((nI i) + 1).toNatClampNeg).toNatClampNeg) - (xs ((nI i) + 3).toNatClampNeg))) (xs ((nI i) + 1).toNatClampNeg).toNatClampNeg).toInt64)) XS (uF XF 20 (upd (XF 20) (xs ((nI i) + 1).toNatClampNeg).toNatClampNeg (((XF 20) (xs ((nI i) + 1).toNatClampNeg).toNatClampNeg) - (xs ((nI i) + 3).toNatClampNeg)))) XL (uS ZS 1 0) ZF _ _ ls hI1 hP hD hS (lv_sub hl [2, 3, 4, 5, 6] rfl)
    · rw [lg_cmp_eq] at c_1245; exact absurd (by rw [pk_uLs, hrv]) c_1245
  · have ht : ¬ th_use (xs ((nI i) + 1).toNatClampNeg) (xs ((nI i) + 2).toNatClampNeg) (xs ((nI i) + 3).toNatClampNeg) (XS 9) ((XF 19) (xs ((nI i) + 1).toNatClampNeg).toNatClampNeg) ((XF 20) (xs ((nI i) + 1).toNatClampNeg).toNatClampNeg) = none := fun q => hT0 (by rw [← hT, ← hk, q]; rfl)
    obtain rfl := hn2 ht
    obtain ⟨hw, hI1⟩ := hbad ht
    rw [hw] at hP hD
    have hk0 : ¬ k = 0 := fun q => hT0 (hT.symm.trans q)
    refine W.eq (g2 := F0 m 1220 ls [.int 0]) rfl ?_
    refine lv_istore (lv' := [(6, .int 0), (5, .int k), (4, .int (nI i)), (3, .ref oo), (2, .ref (B 0)), (1, .ref (A 0)), (0, .ref b)]) hx hb d_La_law_1220 hl (by decide) rfl (fun ls hl => ?_)
    have hsize : ls.size = c.maxLocals := by rw [hml]; exact hl.1
    refine lv_aload_n hx hb d_La_law_1222 rfl (lv_at hl 4 rfl) ?_
    refine px_callN (ix_V (As := []) (rest := []) hx hb hown (k_La_107 hC) (ki_Mo_thrown hC) (kv_Mo_thrown hC) (mx_Is.code (args := #[]) (kc_Mo_thrown hC)) kh_Mo_thrown (va_recv hC.K hP (ci := 10) (q0 := 0) rfl rfl) rfl kp_Mo_thrown rfl d_La_law_1223) (M_thrown l hl0 G B XS XF XL (uS ZS 1 ((if ¬ ((0 ≤ (xs ((nI i) + 1).toNatClampNeg) ∧ (xs ((nI i) + 1).toNatClampNeg) ≤ ((XS 9) - 1)) ∧ (0 ≤ (xs ((nI i) + 2).toNatClampNeg) ∧ (xs ((nI i) + 2).toNatClampNeg) ≤ 9)) then 1 else (if ¬ (0 ≤ (xs ((nI i) + 3).toNatClampNeg) ∧ (xs ((nI i) + 3).toNatClampNeg) ≤ 100000000) then 2 else (if (¬ ((XF 19) (xs ((nI i) + 1).toNatClampNeg).toNatClampNeg) = (xs ((nI i) + 2).toNatClampNeg) ∨ ¬ (xs ((nI i) + 3).toNatClampNeg) ≤ ((XF 20) (xs ((nI i) + 1).toNatClampNeg).toNatClampNeg)) then 3 else 0))) : Int32)) ZF) (kc_Mo_thrown hC) rfl (mx_Is.code (args := #[]) (kc_Mo_thrown hC)) (kn_Mo hC) hb hC (gl_leftP hP).1 (gl_leftD hD) hS (by decide) ⟨by show cs + 1 + 0 ≤ 1087; omega, by show sl + 6 + 0 ≤ 10306; omega⟩ hsize (Nat.le_of_ble_eq_true rfl) d_La_law_1223 ?_
    refine W.eq (g2 := F0 m 1226 ls [.int ((if ¬ ((0 ≤ (xs ((nI i) + 1).toNatClampNeg) ∧ (xs ((nI i) + 1).toNatClampNeg) ≤ ((XS 9) - 1)) ∧ (0 ≤ (xs ((nI i) + 2).toNatClampNeg) ∧ (xs ((nI i) + 2).toNatClampNeg) ≤ 9)) then 1 else (if ¬ (0 ≤ (xs ((nI i) + 3).toNatClampNeg) ∧ (xs ((nI i) + 3).toNatClampNeg) ≤ 100000000) then 2 else (if (¬ ((XF 19) (xs ((nI i) + 1).toNatClampNeg).toNatClampNeg) = (xs ((nI i) + 2).toNatClampNeg) ∨ ¬ (xs ((nI i) + 3).toNatClampNeg) ≤ ((XF 20) (xs ((nI i) + 1).toNatClampNeg).toNatClampNeg)) then 3 else 0))) : Int32)]) rfl ?_
    refine lv_iload hx hb d_La_law_1226 (lv_at hl 1 rfl) ?_
    refine lv_icmp_eq (tgt := 1233) hx hb d_La_law_1228 (by decide) (fun c_1228 => ?_) (fun c_1228 => ?_)
    · refine lv_iload hx hb d_La_law_1233 (lv_at hl 1 rfl) ?_
      refine lv_if_ne (tgt := 1250) hx hb d_La_law_1235 (by decide) (fun c_1235 => ?_) (fun c_1235 => ?_)
      · refine lv_goto (tgt := 1559) hx hb d_La_law_1250 (by decide) ?_
        obtain ⟨hP, hD⟩ := gl_swap hP hD
        exact kk FO XS XF XL (uS ZS 1 ((if ¬ ((0 ≤ (xs ((nI i) + 1).toNatClampNeg) ∧ (xs ((nI i) + 1).toNatClampNeg) ≤ ((XS 9) - 1)) ∧ (0 ≤ (xs ((nI i) + 2).toNatClampNeg) ∧ (xs ((nI i) + 2).toNatClampNeg) ≤ 9)) then 1 else (if ¬ (0 ≤ (xs ((nI i) + 3).toNatClampNeg) ∧ (xs ((nI i) + 3).toNatClampNeg) ≤ 100000000) then 2 else (if (¬ ((XF 19) (xs ((nI i) + 1).toNatClampNeg).toNatClampNeg) = (xs ((nI i) + 2).toNatClampNeg) ∨ ¬ (xs ((nI i) + 3).toNatClampNeg) ≤ ((XF 20) (xs ((nI i) + 1).toNatClampNeg).toNatClampNeg)) then 3 else 0))) : Int32)) ZF _ _ ls hI1 hP hD hS (lv_sub hl [2, 3, 4, 5, 6] rfl)
      · exact absurd c_1235 hk0
    · exact absurd hT.symm c_1228
set_option maxHeartbeats 4000000 in
set_option maxRecDepth 100000 in
theorem case_18 {p : Program} {l : Launch} {e : Env} {s : State} {m : MethodId} {below : List Frame} {meth : Method} {c : Code} (hl0 : l.stackTraces = false) {G : GG} (hC : g_C G s) (hx : p.tables.exec = Jvm.exec) (hb : c.code = code) (hml : c.maxLocals = 8) (hown : s.vm.findClass R_La = some m.cls) {b L : Nat} {xs : Nat → Int32} (hX : va_X b L xs s s.heap) (hbl : b < s.heap.size) (hbA : ¬ g_A G b) {Q : State → Prop} {A B : Nat → Nat} {oo : Nat} {XS : Nat → Int32} {XF : Nat → Nat → Int32} {XL : Nat → Int64} {ZS : Nat → Int32} {ZF : Nat → Nat → Int32} {FO : Nat → Int64} (hI : INV XS XF ZF) {i : Nat} (hi : i + 5 ≤ L) (hL : L ≤ 2560) {cs sl : Nat} (hcs : cs + 1 ≤ 1087) (hsl : sl + 6 ≤ 10306) {H : Heap} {locs : List Loc} (hP : va_P G.1 g_cl (((oo, .inl (G.2.1 2, 1, .inr (.inl FO))) :: wcb G A XS XF XL) ++ (wmo G B XS XF XL ZS ZF ++ [])) H) (hD : va_D (g_A G) (((oo, .inl (G.2.1 2, 1, .inr (.inl FO))) :: wcb G A XS XF XL) ++ (wmo G B XS XF XL ZS ZF ++ []))) (hS : va_S (g_A G) s.heap H locs) {ls : Array Slot} (hl : lv_has ls 8 [(4, .int (nI i)), (3, .ref oo), (2, .ref (B 0)), (1, .ref (A 0)), (0, .ref b)]) (kk : ∀ (FO' : Nat → Int64) (XS' : Nat → Int32) (XF' : Nat → Nat → Int32) (XL' : Nat → Int64) (ZS' : Nat → Int32) (ZF' : Nat → Nat → Int32) (H' : Heap) (locs' : List Loc) (ls' : Array Slot), INV XS' XF' ZF' → va_P G.1 g_cl (((oo, .inl (G.2.1 2, 1, .inr (.inl FO'))) :: wcb G A XS' XF' XL') ++ (wmo G B XS' XF' XL' ZS' ZF' ++ [])) H' → va_D (g_A G) (((oo, .inl (G.2.1 2, 1, .inr (.inl FO'))) :: wcb G A XS' XF' XL') ++ (wmo G B XS' XF' XL' ZS' ZF' ++ [])) → va_S (g_A G) s.heap H' locs' → lv_has ls' 8 [(4, .int (nI i)), (3, .ref oo), (2, .ref (B 0)), (1, .ref (A 0)), (0, .ref b)] → W p l e room_1 s m #[Value.ref b] below meth c H' locs' (cs + 1) (sl + 6) Q (F0 m 1559 ls' [])) : W p l e room_1 s m #[Value.ref b] below meth c H locs cs sl Q (F0 m 1253 ls []) := by
  obtain ⟨hor, hta, hre, htf, hbi, hho, hgr, hle, hcl, hbd⟩ := id hI
  have hsize : ls.size = c.maxLocals := by rw [hml]; exact hl.1
  refine lv_aload_n hx hb d_La_law_1253 rfl (lv_at hl 3 rfl) ?_
  refine lv_aload_n hx hb d_La_law_1254 rfl (lv_at hl 4 rfl) ?_
  refine lv_iload hx hb d_La_law_1255 (lv_at hl 0 rfl) ?_
  refine lv_iconst (v := 1) hx hb d_La_law_1257 (by decide) ?_
  refine lv_iadd hx hb d_La_law_1258 ?_
  have ha1 : vp_in ((nI i) + 1) L := by rw [show (1 : Int32) = nI 1 by decide +kernel, nI_add]; exact vp_in_nI (by omega) (by omega)
  refine va_sld hx hb hX hbl hbA hS ha1 d_La_law_1259 ?_
  refine lv_aload_n hx hb d_La_law_1260 rfl (lv_at hl 4 rfl) ?_
  refine lv_iload hx hb d_La_law_1261 (lv_at hl 0 rfl) ?_
  refine lv_iconst (v := 2) hx hb d_La_law_1263 (by decide) ?_
  refine lv_iadd hx hb d_La_law_1264 ?_
  have ha2 : vp_in ((nI i) + 2) L := by rw [show (2 : Int32) = nI 2 by decide +kernel, nI_add]; exact vp_in_nI (by omega) (by omega)
  refine va_sld hx hb hX hbl hbA hS ha2 d_La_law_1265 ?_
  refine lv_aload_n hx hb d_La_law_1266 rfl (lv_at hl 1 rfl) ?_
  refine gx_call (ix_S (As := [.ref (A 0), .int (xs ((nI i) + 1).toNatClampNeg), .int (xs ((nI i) + 2).toNatClampNeg), .ref oo]) (rest := []) hx hb hown (k_La_173 hC) (ks_La_row hC) (kn_La hC) (mx_Is.with (args := #[]) (kc_La_row hC)) kh_La_row rfl kp_La_row rfl d_La_law_1267) (L_row l hl0 G A XS XF XL oo FO (xs ((nI i) + 1).toNatClampNeg) (xs ((nI i) + 2).toNatClampNeg) (in_nn hle.1)) (kc_La_row hC) rfl (mx_Is.with (args := #[]) (kc_La_row hC)) (kn_La hC) hb hC hP hD hS (by decide) ⟨by show cs + 1 ≤ 1087; omega, by show sl + 6 ≤ 10306; omega⟩ hsize (Nat.le_of_ble_eq_true rfl) d_La_law_1267 (fun v w' H locs hPo hP hD hS => ?_) (fun _ _ _ _ _ _ hPx => hPx.elim)
  obtain ⟨rfl, hn1, hn2⟩ := hPo
  obtain ⟨hT, hok, hbad⟩ := P_row G B XS XF XL ZS ZF (xs ((nI i) + 1).toNatClampNeg) (xs ((nI i) + 2).toNatClampNeg) hI
  generalize hk : cod [eIA, eIO, eUO] (th_row (xs ((nI i) + 1).toNatClampNeg) (xs ((nI i) + 2).toNatClampNeg) (XS 10)) = k at hT ⊢
  refine W.eq (g2 := F0 m 1270 ls [.int k]) rfl ?_
  refine lv_istore (lv' := [(5, .int k), (4, .int (nI i)), (3, .ref oo), (2, .ref (B 0)), (1, .ref (A 0)), (0, .ref b)]) hx hb d_La_law_1270 hl (by decide) rfl (fun ls hl => ?_)
  have hsize : ls.size = c.maxLocals := by rw [hml]; exact hl.1
  refine lv_aload_n hx hb d_La_law_1272 rfl (lv_at hl 3 rfl) ?_
  refine lv_aload_n hx hb d_La_law_1273 rfl (lv_at hl 5 rfl) ?_
  refine lv_iload hx hb d_La_law_1274 (lv_at hl 1 rfl) ?_
  refine lv_iconst (v := 1) hx hb d_La_law_1276 (by decide) ?_
  refine lv_iadd hx hb d_La_law_1277 ?_
  refine va_sld hx hb hX hbl hbA hS ha1 d_La_law_1278 ?_
  refine lv_aload_n hx hb d_La_law_1279 rfl (lv_at hl 5 rfl) ?_
  refine lv_iload hx hb d_La_law_1280 (lv_at hl 1 rfl) ?_
  refine lv_iconst (v := 2) hx hb d_La_law_1282 (by decide) ?_
  refine lv_iadd hx hb d_La_law_1283 ?_
  refine va_sld hx hb hX hbl hbA hS ha2 d_La_law_1284 ?_
  obtain ⟨hP, hD⟩ := gl_swap hP hD
  refine gx_call (ix_V (As := [.int (xs ((nI i) + 1).toNatClampNeg), .int (xs ((nI i) + 2).toNatClampNeg)]) (rest := []) hx hb hown (k_La_175 hC) (ki_Mo_row hC) (kv_Mo_row hC) (mx_Is.code (args := #[]) (kc_Mo_row hC)) kh_Mo_row (va_recv hC.K hP (ci := 10) (q0 := 0) rfl rfl) rfl kp_Mo_row rfl d_La_law_1285) (M_row l hl0 G B XS XF XL ZS ZF (xs ((nI i) + 1).toNatClampNeg) (xs ((nI i) + 2).toNatClampNeg) hle.1) (kc_Mo_row hC) rfl (mx_Is.code (args := #[]) (kc_Mo_row hC)) (kn_Mo hC) hb hC hP hD hS (by decide) ⟨by show cs + 1 + 0 ≤ 1087; omega, by show sl + 6 + 0 ≤ 10306; omega⟩ hsize (Nat.le_of_ble_eq_true rfl) d_La_law_1285 (fun v w2 H locs hMo hP hD hS => ?_) (fun _ _ _ _ _ _ hPx => hPx.elim)
  rcases hMo with ⟨hT0, rfl, rfl⟩ | ⟨hT0, rfl, rfl⟩
  · have ht : th_row (xs ((nI i) + 1).toNatClampNeg) (xs ((nI i) + 2).toNatClampNeg) (XS 10) = none := cod_none (hk.trans (hT.trans hT0)) (by decide)
    obtain rfl := hn1 ht
    obtain ⟨⟨hw, hI1⟩, hrv⟩ := hok ht
    rw [hw] at hP hD
    have hk0 : k = 0 := hT.trans hT0
    subst hk0
    refine W.eq (g2 := F0 m 1288 ls [.int ((XS 10) + 1)]) rfl ?_
    refine lv_istore (lv' := [(6, .int ((XS 10) + 1)), (5, .int 0), (4, .int (nI i)), (3, .ref oo), (2, .ref (B 0)), (1, .ref (A 0)), (0, .ref b)]) hx hb d_La_law_1288 hl (by decide) rfl (fun ls hl => ?_)
    have hsize : ls.size = c.maxLocals := by rw [hml]; exact hl.1
    refine lv_aload_n hx hb d_La_law_1290 rfl (lv_at hl 4 rfl) ?_
    refine px_callN (ix_V (As := []) (rest := []) hx hb hown (k_La_107 hC) (ki_Mo_thrown hC) (kv_Mo_thrown hC) (mx_Is.code (args := #[]) (kc_Mo_thrown hC)) kh_Mo_thrown (va_recv hC.K hP (ci := 10) (q0 := 0) rfl rfl) rfl kp_Mo_thrown rfl d_La_law_1291) (M_thrown l hl0 G B (uS XS 10 ((XS 10) + 1)) (uF (uF XF 21 (upd (XF 21) (XS 10).toNatClampNeg (xs ((nI i) + 1).toNatClampNeg))) 22 (upd (XF 22) (XS 10).toNatClampNeg (xs ((nI i) + 2).toNatClampNeg))) XL (uS ZS 1 0) ZF) (kc_Mo_thrown hC) rfl (mx_Is.code (args := #[]) (kc_Mo_thrown hC)) (kn_Mo hC) hb hC (gl_leftP hP).1 (gl_leftD hD) hS (by decide) ⟨by show cs + 1 + 0 ≤ 1087; omega, by show sl + 6 + 0 ≤ 10306; omega⟩ hsize (Nat.le_of_ble_eq_true rfl) d_La_law_1291 ?_
    refine W.eq (g2 := F0 m 1294 ls [.int 0]) rfl ?_
    refine lv_iload hx hb d_La_law_1294 (lv_at hl 1 rfl) ?_
    refine lv_icmp_eq (tgt := 1301) hx hb d_La_law_1296 (by decide) (fun _ => ?_) (fun c_1296 => absurd c_1296 (by decide))
    refine lv_iload hx hb d_La_law_1301 (lv_at hl 1 rfl) ?_
    refine lv_if_ne (tgt := 1318) hx hb d_La_law_1303 (by decide) (fun c_1303 => absurd c_1303 (by decide)) (fun _ => ?_)
    refine lv_aload_n hx hb d_La_law_1306 rfl (lv_at hl 3 rfl) ?_
    refine lv_iconst (v := 0) hx hb d_La_law_1307 (by decide) ?_
    refine va_lald hx hb hC.K hP 23 2 rfl rfl (vp_in_nI (n := 0) (by decide) (by decide)) d_La_law_1308 ?_
    refine lv_iload hx hb d_La_law_1309 (lv_at hl 0 rfl) ?_
    refine lv_i2l hx hb d_La_law_1311 rfl ?_
    refine W.lcmp hx hb d_La_law_1312 ?_
    refine lv_if_eq (tgt := 1318) hx hb d_La_law_1313 (by decide) (fun c_1313 => ?_) (fun c_1313 => ?_)
    · rw [lg_cmp_eq] at c_1313
      refine lv_goto (tgt := 1559) hx hb d_La_law_1318 (by decide) ?_
      obtain ⟨hP, hD⟩ := gl_swap hP hD
      exact kk (vp_updL FO (0 : Int32).toNatClampNeg (((XS 10) + 1).toInt64)) (uS XS 10 ((XS 10) + 1)) (uF (uF XF 21 (upd (XF 21) (XS 10).toNatClampNeg (xs ((nI i) + 1).toNatClampNeg))) 22 (upd (XF 22) (XS 10).toNatClampNeg (xs ((nI i) + 2).toNatClampNeg))) XL (uS ZS 1 0) ZF _ _ ls hI1 hP hD hS (lv_sub hl [2, 3, 4, 5, 6] rfl)
    · rw [lg_cmp_eq] at c_1313; exact absurd (by rw [pk_uLs, hrv]) c_1313
  · have ht : ¬ th_row (xs ((nI i) + 1).toNatClampNeg) (xs ((nI i) + 2).toNatClampNeg) (XS 10) = none := fun q => hT0 (by rw [← hT, ← hk, q]; rfl)
    obtain rfl := hn2 ht
    obtain ⟨hw, hI1⟩ := hbad ht
    rw [hw] at hP hD
    have hk0 : ¬ k = 0 := fun q => hT0 (hT.symm.trans q)
    refine W.eq (g2 := F0 m 1288 ls [.int 0]) rfl ?_
    refine lv_istore (lv' := [(6, .int 0), (5, .int k), (4, .int (nI i)), (3, .ref oo), (2, .ref (B 0)), (1, .ref (A 0)), (0, .ref b)]) hx hb d_La_law_1288 hl (by decide) rfl (fun ls hl => ?_)
    have hsize : ls.size = c.maxLocals := by rw [hml]; exact hl.1
    refine lv_aload_n hx hb d_La_law_1290 rfl (lv_at hl 4 rfl) ?_
    refine px_callN (ix_V (As := []) (rest := []) hx hb hown (k_La_107 hC) (ki_Mo_thrown hC) (kv_Mo_thrown hC) (mx_Is.code (args := #[]) (kc_Mo_thrown hC)) kh_Mo_thrown (va_recv hC.K hP (ci := 10) (q0 := 0) rfl rfl) rfl kp_Mo_thrown rfl d_La_law_1291) (M_thrown l hl0 G B XS XF XL (uS ZS 1 ((if ¬ (0 ≤ (xs ((nI i) + 1).toNatClampNeg) ∧ (xs ((nI i) + 1).toNatClampNeg) ≤ 9) then 1 else (if ¬ ((-100000000) ≤ (xs ((nI i) + 2).toNatClampNeg) ∧ (xs ((nI i) + 2).toNatClampNeg) ≤ 100000000) then 2 else (if (XS 10) = 8 then 3 else 0))) : Int32)) ZF) (kc_Mo_thrown hC) rfl (mx_Is.code (args := #[]) (kc_Mo_thrown hC)) (kn_Mo hC) hb hC (gl_leftP hP).1 (gl_leftD hD) hS (by decide) ⟨by show cs + 1 + 0 ≤ 1087; omega, by show sl + 6 + 0 ≤ 10306; omega⟩ hsize (Nat.le_of_ble_eq_true rfl) d_La_law_1291 ?_
    refine W.eq (g2 := F0 m 1294 ls [.int ((if ¬ (0 ≤ (xs ((nI i) + 1).toNatClampNeg) ∧ (xs ((nI i) + 1).toNatClampNeg) ≤ 9) then 1 else (if ¬ ((-100000000) ≤ (xs ((nI i) + 2).toNatClampNeg) ∧ (xs ((nI i) + 2).toNatClampNeg) ≤ 100000000) then 2 else (if (XS 10) = 8 then 3 else 0))) : Int32)]) rfl ?_
    refine lv_iload hx hb d_La_law_1294 (lv_at hl 1 rfl) ?_
    refine lv_icmp_eq (tgt := 1301) hx hb d_La_law_1296 (by decide) (fun c_1296 => ?_) (fun c_1296 => ?_)
    · refine lv_iload hx hb d_La_law_1301 (lv_at hl 1 rfl) ?_
      refine lv_if_ne (tgt := 1318) hx hb d_La_law_1303 (by decide) (fun c_1303 => ?_) (fun c_1303 => ?_)
      · refine lv_goto (tgt := 1559) hx hb d_La_law_1318 (by decide) ?_
        obtain ⟨hP, hD⟩ := gl_swap hP hD
        exact kk FO XS XF XL (uS ZS 1 ((if ¬ (0 ≤ (xs ((nI i) + 1).toNatClampNeg) ∧ (xs ((nI i) + 1).toNatClampNeg) ≤ 9) then 1 else (if ¬ ((-100000000) ≤ (xs ((nI i) + 2).toNatClampNeg) ∧ (xs ((nI i) + 2).toNatClampNeg) ≤ 100000000) then 2 else (if (XS 10) = 8 then 3 else 0))) : Int32)) ZF _ _ ls hI1 hP hD hS (lv_sub hl [2, 3, 4, 5, 6] rfl)
      · exact absurd c_1303 hk0
    · exact absurd hT.symm c_1296
set_option maxHeartbeats 4000000 in
set_option maxRecDepth 100000 in
theorem case_19 {p : Program} {l : Launch} {e : Env} {s : State} {m : MethodId} {below : List Frame} {meth : Method} {c : Code} (hl0 : l.stackTraces = false) {G : GG} (hC : g_C G s) (hx : p.tables.exec = Jvm.exec) (hb : c.code = code) (hml : c.maxLocals = 8) (hown : s.vm.findClass R_La = some m.cls) {b L : Nat} {xs : Nat → Int32} (hX : va_X b L xs s s.heap) (hbl : b < s.heap.size) (hbA : ¬ g_A G b) {Q : State → Prop} {A B : Nat → Nat} {oo : Nat} {XS : Nat → Int32} {XF : Nat → Nat → Int32} {XL : Nat → Int64} {ZS : Nat → Int32} {ZF : Nat → Nat → Int32} {FO : Nat → Int64} (hI : INV XS XF ZF) {i : Nat} (hi : i + 5 ≤ L) (hL : L ≤ 2560) {cs sl : Nat} (hcs : cs + 1 ≤ 1087) (hsl : sl + 6 ≤ 10306) {H : Heap} {locs : List Loc} (hP : va_P G.1 g_cl (((oo, .inl (G.2.1 2, 1, .inr (.inl FO))) :: wcb G A XS XF XL) ++ (wmo G B XS XF XL ZS ZF ++ [])) H) (hD : va_D (g_A G) (((oo, .inl (G.2.1 2, 1, .inr (.inl FO))) :: wcb G A XS XF XL) ++ (wmo G B XS XF XL ZS ZF ++ []))) (hS : va_S (g_A G) s.heap H locs) {ls : Array Slot} (hl : lv_has ls 8 [(4, .int (nI i)), (3, .ref oo), (2, .ref (B 0)), (1, .ref (A 0)), (0, .ref b)]) (kk : ∀ (FO' : Nat → Int64) (XS' : Nat → Int32) (XF' : Nat → Nat → Int32) (XL' : Nat → Int64) (ZS' : Nat → Int32) (ZF' : Nat → Nat → Int32) (H' : Heap) (locs' : List Loc) (ls' : Array Slot), INV XS' XF' ZF' → va_P G.1 g_cl (((oo, .inl (G.2.1 2, 1, .inr (.inl FO'))) :: wcb G A XS' XF' XL') ++ (wmo G B XS' XF' XL' ZS' ZF' ++ [])) H' → va_D (g_A G) (((oo, .inl (G.2.1 2, 1, .inr (.inl FO'))) :: wcb G A XS' XF' XL') ++ (wmo G B XS' XF' XL' ZS' ZF' ++ [])) → va_S (g_A G) s.heap H' locs' → lv_has ls' 8 [(4, .int (nI i)), (3, .ref oo), (2, .ref (B 0)), (1, .ref (A 0)), (0, .ref b)] → W p l e room_1 s m #[Value.ref b] below meth c H' locs' (cs + 1) (sl + 6) Q (F0 m 1559 ls' [])) : W p l e room_1 s m #[Value.ref b] below meth c H locs cs sl Q (F0 m 1321 ls []) := by
  obtain ⟨hor, hta, hre, htf, hbi, hho, hgr, hle, hcl, hbd⟩ := id hI
  have hsize : ls.size = c.maxLocals := by rw [hml]; exact hl.1
  refine lv_aload_n hx hb d_La_law_1321 rfl (lv_at hl 3 rfl) ?_
  refine lv_aload_n hx hb d_La_law_1322 rfl (lv_at hl 4 rfl) ?_
  refine lv_iload hx hb d_La_law_1323 (lv_at hl 0 rfl) ?_
  refine lv_iconst (v := 1) hx hb d_La_law_1325 (by decide) ?_
  refine lv_iadd hx hb d_La_law_1326 ?_
  have ha1 : vp_in ((nI i) + 1) L := by rw [show (1 : Int32) = nI 1 by decide +kernel, nI_add]; exact vp_in_nI (by omega) (by omega)
  refine va_sld hx hb hX hbl hbA hS ha1 d_La_law_1327 ?_
  refine lv_aload_n hx hb d_La_law_1328 rfl (lv_at hl 1 rfl) ?_
  refine gx_call (ix_S (As := [.ref (A 0), .int (xs ((nI i) + 1).toNatClampNeg), .ref oo]) (rest := []) hx hb hown (k_La_176 hC) (ks_La_post hC) (kn_La hC) (mx_Is.with (args := #[]) (kc_La_post hC)) kh_La_post rfl kp_La_post rfl d_La_law_1329) (L_post l hl0 G A XS XF XL oo FO (xs ((nI i) + 1).toNatClampNeg) hle.1 hle.2 hcl.1) (kc_La_post hC) rfl (mx_Is.with (args := #[]) (kc_La_post hC)) (kn_La hC) hb hC hP hD hS (by decide) ⟨by show cs + 1 ≤ 1087; omega, by show sl + 6 ≤ 10306; omega⟩ hsize (Nat.le_of_ble_eq_true rfl) d_La_law_1329 (fun v w' H locs hPo hP hD hS => ?_) (fun _ _ _ _ _ _ hPx => hPx.elim)
  obtain ⟨rfl, hn1, hn2⟩ := hPo
  obtain ⟨hT, hok, hbad⟩ := P_post G B XS XF XL ZS ZF (xs ((nI i) + 1).toNatClampNeg) hI
  generalize hk : cod [eIA, eIS] (th_post (xs ((nI i) + 1).toNatClampNeg) (XS 13) (bx_sum (XF 22) (XS 10).toNatClampNeg)) = k at hT ⊢
  refine W.eq (g2 := F0 m 1332 ls [.int k]) rfl ?_
  refine lv_istore (lv' := [(5, .int k), (4, .int (nI i)), (3, .ref oo), (2, .ref (B 0)), (1, .ref (A 0)), (0, .ref b)]) hx hb d_La_law_1332 hl (by decide) rfl (fun ls hl => ?_)
  have hsize : ls.size = c.maxLocals := by rw [hml]; exact hl.1
  refine lv_aload_n hx hb d_La_law_1334 rfl (lv_at hl 3 rfl) ?_
  refine lv_aload_n hx hb d_La_law_1335 rfl (lv_at hl 5 rfl) ?_
  refine lv_iload hx hb d_La_law_1336 (lv_at hl 1 rfl) ?_
  refine lv_iconst (v := 1) hx hb d_La_law_1338 (by decide) ?_
  refine lv_iadd hx hb d_La_law_1339 ?_
  refine va_sld hx hb hX hbl hbA hS ha1 d_La_law_1340 ?_
  obtain ⟨hP, hD⟩ := gl_swap hP hD
  refine gx_call (ix_V (As := [.int (xs ((nI i) + 1).toNatClampNeg)]) (rest := []) hx hb hown (k_La_178 hC) (ki_Mo_post hC) (kv_Mo_post hC) (mx_Is.code (args := #[]) (kc_Mo_post hC)) kh_Mo_post (va_recv hC.K hP (ci := 10) (q0 := 0) rfl rfl) rfl kp_Mo_post rfl d_La_law_1341) (M_post l hl0 G B XS XF XL ZS ZF (xs ((nI i) + 1).toNatClampNeg) (XS 13) hle.1 hcl.1 hle.2 hcl.2) (kc_Mo_post hC) rfl (mx_Is.code (args := #[]) (kc_Mo_post hC)) (kn_Mo hC) hb hC hP hD hS (by decide) ⟨by show cs + 1 + 0 ≤ 1087; omega, by show sl + 6 + 0 ≤ 10306; omega⟩ hsize (Nat.le_of_ble_eq_true rfl) d_La_law_1341 (fun v w2 H locs hMo hP hD hS => ?_) (fun _ _ _ _ _ _ hPx => hPx.elim)
  rcases hMo with ⟨hT0, rfl, rfl⟩ | ⟨hT0, rfl, rfl⟩
  · have ht : th_post (xs ((nI i) + 1).toNatClampNeg) (XS 13) (bx_sum (XF 22) (XS 10).toNatClampNeg) = none := cod_none (hk.trans (hT.trans hT0)) (by decide)
    obtain rfl := hn1 ht
    obtain ⟨⟨hw, hI1⟩, hrv⟩ := hok ht
    rw [hw] at hP hD
    have hk0 : k = 0 := hT.trans hT0
    subst hk0
    refine W.eq (g2 := F0 m 1344 ls [.int (po_to (xs ((nI i) + 1).toNatClampNeg) (XS 13))]) rfl ?_
    refine lv_istore (lv' := [(6, .int (po_to (xs ((nI i) + 1).toNatClampNeg) (XS 13))), (5, .int 0), (4, .int (nI i)), (3, .ref oo), (2, .ref (B 0)), (1, .ref (A 0)), (0, .ref b)]) hx hb d_La_law_1344 hl (by decide) rfl (fun ls hl => ?_)
    have hsize : ls.size = c.maxLocals := by rw [hml]; exact hl.1
    refine lv_aload_n hx hb d_La_law_1346 rfl (lv_at hl 4 rfl) ?_
    refine px_callN (ix_V (As := []) (rest := []) hx hb hown (k_La_107 hC) (ki_Mo_thrown hC) (kv_Mo_thrown hC) (mx_Is.code (args := #[]) (kc_Mo_thrown hC)) kh_Mo_thrown (va_recv hC.K hP (ci := 10) (q0 := 0) rfl rfl) rfl kp_Mo_thrown rfl d_La_law_1347) (M_thrown l hl0 G B (uS XS 10 0) XF (bk_all (XF 21) (XF 22) (po_to (xs ((nI i) + 1).toNatClampNeg) (XS 13)) XL (XS 10).toNatClampNeg) (uS ZS 1 0) ZF) (kc_Mo_thrown hC) rfl (mx_Is.code (args := #[]) (kc_Mo_thrown hC)) (kn_Mo hC) hb hC (gl_leftP hP).1 (gl_leftD hD) hS (by decide) ⟨by show cs + 1 + 0 ≤ 1087; omega, by show sl + 6 + 0 ≤ 10306; omega⟩ hsize (Nat.le_of_ble_eq_true rfl) d_La_law_1347 ?_
    refine W.eq (g2 := F0 m 1350 ls [.int 0]) rfl ?_
    refine lv_iload hx hb d_La_law_1350 (lv_at hl 1 rfl) ?_
    refine lv_icmp_eq (tgt := 1357) hx hb d_La_law_1352 (by decide) (fun _ => ?_) (fun c_1352 => absurd c_1352 (by decide))
    refine lv_iload hx hb d_La_law_1357 (lv_at hl 1 rfl) ?_
    refine lv_if_ne (tgt := 1374) hx hb d_La_law_1359 (by decide) (fun c_1359 => absurd c_1359 (by decide)) (fun _ => ?_)
    refine lv_aload_n hx hb d_La_law_1362 rfl (lv_at hl 3 rfl) ?_
    refine lv_iconst (v := 0) hx hb d_La_law_1363 (by decide) ?_
    refine va_lald hx hb hC.K hP 23 2 rfl rfl (vp_in_nI (n := 0) (by decide) (by decide)) d_La_law_1364 ?_
    refine lv_iload hx hb d_La_law_1365 (lv_at hl 0 rfl) ?_
    refine lv_i2l hx hb d_La_law_1367 rfl ?_
    refine W.lcmp hx hb d_La_law_1368 ?_
    refine lv_if_eq (tgt := 1374) hx hb d_La_law_1369 (by decide) (fun c_1369 => ?_) (fun c_1369 => ?_)
    · rw [lg_cmp_eq] at c_1369
      refine lv_goto (tgt := 1559) hx hb d_La_law_1374 (by decide) ?_
      obtain ⟨hP, hD⟩ := gl_swap hP hD
      exact kk (vp_updL FO (0 : Int32).toNatClampNeg ((po_to (xs ((nI i) + 1).toNatClampNeg) (XS 13)).toInt64)) (uS XS 10 0) XF (bk_all (XF 21) (XF 22) (po_to (xs ((nI i) + 1).toNatClampNeg) (XS 13)) XL (XS 10).toNatClampNeg) (uS ZS 1 0) ZF _ _ ls hI1 hP hD hS (lv_sub hl [2, 3, 4, 5, 6] rfl)
    · rw [lg_cmp_eq] at c_1369; exact absurd (by rw [pk_uLs, hrv]) c_1369
  · have ht : ¬ th_post (xs ((nI i) + 1).toNatClampNeg) (XS 13) (bx_sum (XF 22) (XS 10).toNatClampNeg) = none := fun q => hT0 (by rw [← hT, ← hk, q]; rfl)
    obtain rfl := hn2 ht
    obtain ⟨hw, hI1⟩ := hbad ht
    rw [hw] at hP hD
    have hk0 : ¬ k = 0 := fun q => hT0 (hT.symm.trans q)
    refine W.eq (g2 := F0 m 1344 ls [.int 0]) rfl ?_
    refine lv_istore (lv' := [(6, .int 0), (5, .int k), (4, .int (nI i)), (3, .ref oo), (2, .ref (B 0)), (1, .ref (A 0)), (0, .ref b)]) hx hb d_La_law_1344 hl (by decide) rfl (fun ls hl => ?_)
    have hsize : ls.size = c.maxLocals := by rw [hml]; exact hl.1
    refine lv_aload_n hx hb d_La_law_1346 rfl (lv_at hl 4 rfl) ?_
    refine px_callN (ix_V (As := []) (rest := []) hx hb hown (k_La_107 hC) (ki_Mo_thrown hC) (kv_Mo_thrown hC) (mx_Is.code (args := #[]) (kc_Mo_thrown hC)) kh_Mo_thrown (va_recv hC.K hP (ci := 10) (q0 := 0) rfl rfl) rfl kp_Mo_thrown rfl d_La_law_1347) (M_thrown l hl0 G B (uS XS 10 (if ck_known (xs ((nI i) + 1).toNatClampNeg) 5 = none then 0 else (XS 10))) XF XL (uS ZS 1 ((if ¬ (0 ≤ (xs ((nI i) + 1).toNatClampNeg) ∧ (xs ((nI i) + 1).toNatClampNeg) ≤ 4) then 1 else (if (¬ (bx_sum (XF 22) (XS 10).toNatClampNeg) = 0 ∨ (po_to (xs ((nI i) + 1).toNatClampNeg) (XS 13)) = 5) then 2 else 0)) : Int32)) ZF) (kc_Mo_thrown hC) rfl (mx_Is.code (args := #[]) (kc_Mo_thrown hC)) (kn_Mo hC) hb hC (gl_leftP hP).1 (gl_leftD hD) hS (by decide) ⟨by show cs + 1 + 0 ≤ 1087; omega, by show sl + 6 + 0 ≤ 10306; omega⟩ hsize (Nat.le_of_ble_eq_true rfl) d_La_law_1347 ?_
    refine W.eq (g2 := F0 m 1350 ls [.int ((if ¬ (0 ≤ (xs ((nI i) + 1).toNatClampNeg) ∧ (xs ((nI i) + 1).toNatClampNeg) ≤ 4) then 1 else (if (¬ (bx_sum (XF 22) (XS 10).toNatClampNeg) = 0 ∨ (po_to (xs ((nI i) + 1).toNatClampNeg) (XS 13)) = 5) then 2 else 0)) : Int32)]) rfl ?_
    refine lv_iload hx hb d_La_law_1350 (lv_at hl 1 rfl) ?_
    refine lv_icmp_eq (tgt := 1357) hx hb d_La_law_1352 (by decide) (fun c_1352 => ?_) (fun c_1352 => ?_)
    · refine lv_iload hx hb d_La_law_1357 (lv_at hl 1 rfl) ?_
      refine lv_if_ne (tgt := 1374) hx hb d_La_law_1359 (by decide) (fun c_1359 => ?_) (fun c_1359 => ?_)
      · refine lv_goto (tgt := 1559) hx hb d_La_law_1374 (by decide) ?_
        obtain ⟨hP, hD⟩ := gl_swap hP hD
        exact kk FO (uS XS 10 (if ck_known (xs ((nI i) + 1).toNatClampNeg) 5 = none then 0 else (XS 10))) XF XL (uS ZS 1 ((if ¬ (0 ≤ (xs ((nI i) + 1).toNatClampNeg) ∧ (xs ((nI i) + 1).toNatClampNeg) ≤ 4) then 1 else (if (¬ (bx_sum (XF 22) (XS 10).toNatClampNeg) = 0 ∨ (po_to (xs ((nI i) + 1).toNatClampNeg) (XS 13)) = 5) then 2 else 0)) : Int32)) ZF _ _ ls hI1 hP hD hS (lv_sub hl [2, 3, 4, 5, 6] rfl)
      · exact absurd c_1359 hk0
    · exact absurd hT.symm c_1352
set_option maxHeartbeats 4000000 in
set_option maxRecDepth 100000 in
theorem case_20 {p : Program} {l : Launch} {e : Env} {s : State} {m : MethodId} {below : List Frame} {meth : Method} {c : Code} (hl0 : l.stackTraces = false) {G : GG} (hC : g_C G s) (hx : p.tables.exec = Jvm.exec) (hb : c.code = code) (hml : c.maxLocals = 8) (hown : s.vm.findClass R_La = some m.cls) {b L : Nat} {xs : Nat → Int32} (hX : va_X b L xs s s.heap) (hbl : b < s.heap.size) (hbA : ¬ g_A G b) {Q : State → Prop} {A B : Nat → Nat} {oo : Nat} {XS : Nat → Int32} {XF : Nat → Nat → Int32} {XL : Nat → Int64} {ZS : Nat → Int32} {ZF : Nat → Nat → Int32} {FO : Nat → Int64} (hI : INV XS XF ZF) {i : Nat} (hi : i + 5 ≤ L) (hL : L ≤ 2560) {cs sl : Nat} (hcs : cs + 1 ≤ 1087) (hsl : sl + 6 ≤ 10306) {H : Heap} {locs : List Loc} (hP : va_P G.1 g_cl (((oo, .inl (G.2.1 2, 1, .inr (.inl FO))) :: wcb G A XS XF XL) ++ (wmo G B XS XF XL ZS ZF ++ [])) H) (hD : va_D (g_A G) (((oo, .inl (G.2.1 2, 1, .inr (.inl FO))) :: wcb G A XS XF XL) ++ (wmo G B XS XF XL ZS ZF ++ []))) (hS : va_S (g_A G) s.heap H locs) {ls : Array Slot} (hl : lv_has ls 8 [(4, .int (nI i)), (3, .ref oo), (2, .ref (B 0)), (1, .ref (A 0)), (0, .ref b)]) (kk : ∀ (FO' : Nat → Int64) (XS' : Nat → Int32) (XF' : Nat → Nat → Int32) (XL' : Nat → Int64) (ZS' : Nat → Int32) (ZF' : Nat → Nat → Int32) (H' : Heap) (locs' : List Loc) (ls' : Array Slot), INV XS' XF' ZF' → va_P G.1 g_cl (((oo, .inl (G.2.1 2, 1, .inr (.inl FO'))) :: wcb G A XS' XF' XL') ++ (wmo G B XS' XF' XL' ZS' ZF' ++ [])) H' → va_D (g_A G) (((oo, .inl (G.2.1 2, 1, .inr (.inl FO'))) :: wcb G A XS' XF' XL') ++ (wmo G B XS' XF' XL' ZS' ZF' ++ [])) → va_S (g_A G) s.heap H' locs' → lv_has ls' 8 [(4, .int (nI i)), (3, .ref oo), (2, .ref (B 0)), (1, .ref (A 0)), (0, .ref b)] → W p l e room_1 s m #[Value.ref b] below meth c H' locs' (cs + 1) (sl + 6) Q (F0 m 1559 ls' [])) : W p l e room_1 s m #[Value.ref b] below meth c H locs cs sl Q (F0 m 1377 ls []) := by
  obtain ⟨hor, hta, hre, htf, hbi, hho, hgr, hle, hcl, hbd⟩ := id hI
  have hsize : ls.size = c.maxLocals := by rw [hml]; exact hl.1
  refine lv_aload_n hx hb d_La_law_1377 rfl (lv_at hl 3 rfl) ?_
  refine lv_aload_n hx hb d_La_law_1378 rfl (lv_at hl 4 rfl) ?_
  refine lv_iload hx hb d_La_law_1379 (lv_at hl 0 rfl) ?_
  refine lv_iconst (v := 1) hx hb d_La_law_1381 (by decide) ?_
  refine lv_iadd hx hb d_La_law_1382 ?_
  have ha1 : vp_in ((nI i) + 1) L := by rw [show (1 : Int32) = nI 1 by decide +kernel, nI_add]; exact vp_in_nI (by omega) (by omega)
  refine va_sld hx hb hX hbl hbA hS ha1 d_La_law_1383 ?_
  refine lv_aload_n hx hb d_La_law_1384 rfl (lv_at hl 4 rfl) ?_
  refine lv_iload hx hb d_La_law_1385 (lv_at hl 0 rfl) ?_
  refine lv_iconst (v := 2) hx hb d_La_law_1387 (by decide) ?_
  refine lv_iadd hx hb d_La_law_1388 ?_
  have ha2 : vp_in ((nI i) + 2) L := by rw [show (2 : Int32) = nI 2 by decide +kernel, nI_add]; exact vp_in_nI (by omega) (by omega)
  refine va_sld hx hb hX hbl hbA hS ha2 d_La_law_1389 ?_
  refine lv_aload_n hx hb d_La_law_1390 rfl (lv_at hl 1 rfl) ?_
  refine gx_call (ix_S (As := [.ref (A 0), .int (xs ((nI i) + 1).toNatClampNeg), .int (xs ((nI i) + 2).toNatClampNeg), .ref oo]) (rest := []) hx hb hown (k_La_179 hC) (ks_La_balance hC) (kn_La hC) (mx_Is.with (args := #[]) (kc_La_balance hC)) kh_La_balance rfl kp_La_balance rfl d_La_law_1391) (L_balance l hl0 G A XS XF XL oo FO (xs ((nI i) + 1).toNatClampNeg) (xs ((nI i) + 2).toNatClampNeg)) (kc_La_balance hC) rfl (mx_Is.with (args := #[]) (kc_La_balance hC)) (kn_La hC) hb hC hP hD hS (by decide) ⟨by show cs + 1 ≤ 1087; omega, by show sl + 6 ≤ 10306; omega⟩ hsize (Nat.le_of_ble_eq_true rfl) d_La_law_1391 (fun v w' H locs hPo hP hD hS => ?_) (fun _ _ _ _ _ _ hPx => hPx.elim)
  obtain ⟨rfl, hn1, hn2⟩ := hPo
  obtain ⟨hT, hok, hbad⟩ := P_balance G B XS XF XL ZS ZF (xs ((nI i) + 1).toNatClampNeg) (xs ((nI i) + 2).toNatClampNeg) hI
  generalize hk : cod [eIA] (th_k2 (xs ((nI i) + 1).toNatClampNeg) 10 (xs ((nI i) + 2).toNatClampNeg) 5) = k at hT ⊢
  refine W.eq (g2 := F0 m 1394 ls [.int k]) rfl ?_
  refine lv_istore (lv' := [(5, .int k), (4, .int (nI i)), (3, .ref oo), (2, .ref (B 0)), (1, .ref (A 0)), (0, .ref b)]) hx hb d_La_law_1394 hl (by decide) rfl (fun ls hl => ?_)
  have hsize : ls.size = c.maxLocals := by rw [hml]; exact hl.1
  refine lv_aload_n hx hb d_La_law_1396 rfl (lv_at hl 3 rfl) ?_
  refine lv_aload_n hx hb d_La_law_1397 rfl (lv_at hl 5 rfl) ?_
  refine lv_iload hx hb d_La_law_1398 (lv_at hl 1 rfl) ?_
  refine lv_iconst (v := 1) hx hb d_La_law_1400 (by decide) ?_
  refine lv_iadd hx hb d_La_law_1401 ?_
  refine va_sld hx hb hX hbl hbA hS ha1 d_La_law_1402 ?_
  refine lv_aload_n hx hb d_La_law_1403 rfl (lv_at hl 5 rfl) ?_
  refine lv_iload hx hb d_La_law_1404 (lv_at hl 1 rfl) ?_
  refine lv_iconst (v := 2) hx hb d_La_law_1406 (by decide) ?_
  refine lv_iadd hx hb d_La_law_1407 ?_
  refine va_sld hx hb hX hbl hbA hS ha2 d_La_law_1408 ?_
  obtain ⟨hP, hD⟩ := gl_swap hP hD
  refine gx_call (ix_V (As := [.int (xs ((nI i) + 1).toNatClampNeg), .int (xs ((nI i) + 2).toNatClampNeg)]) (rest := []) hx hb hown (k_La_181 hC) (ki_Mo_balance hC) (kv_Mo_balance hC) (mx_Is.code (args := #[]) (kc_Mo_balance hC)) kh_Mo_balance (va_recv hC.K hP (ci := 10) (q0 := 0) rfl rfl) rfl kp_Mo_balance rfl d_La_law_1409) (M_balance l hl0 G B XS XF XL ZS ZF (xs ((nI i) + 1).toNatClampNeg) (xs ((nI i) + 2).toNatClampNeg)) (kc_Mo_balance hC) rfl (mx_Is.code (args := #[]) (kc_Mo_balance hC)) (kn_Mo hC) hb hC hP hD hS (by decide) ⟨by show cs + 1 + 0 ≤ 1087; omega, by show sl + 6 + 0 ≤ 10306; omega⟩ hsize (Nat.le_of_ble_eq_true rfl) d_La_law_1409 (fun v w2 H locs hMo hP hD hS => ?_) (fun _ _ _ _ _ _ hPx => hPx.elim)
  rcases hMo with ⟨hT0, rfl, rfl⟩ | ⟨hT0, rfl, rfl⟩
  · have ht : th_k2 (xs ((nI i) + 1).toNatClampNeg) 10 (xs ((nI i) + 2).toNatClampNeg) 5 = none := cod_none (hk.trans (hT.trans hT0)) (by decide)
    obtain rfl := hn1 ht
    obtain ⟨⟨hw, hI1⟩, hrv⟩ := hok ht
    rw [hw] at hP hD
    have hk0 : k = 0 := hT.trans hT0
    subst hk0
    refine W.eq (g2 := F0 m 1412 ls [.long (XL ((5 * (xs ((nI i) + 1).toNatClampNeg)) + (xs ((nI i) + 2).toNatClampNeg)).toNatClampNeg)]) rfl ?_
    refine lv_lstore (lv' := [(6, .long (XL ((5 * (xs ((nI i) + 1).toNatClampNeg)) + (xs ((nI i) + 2).toNatClampNeg)).toNatClampNeg)), (5, .int 0), (4, .int (nI i)), (3, .ref oo), (2, .ref (B 0)), (1, .ref (A 0)), (0, .ref b)]) hx hb d_La_law_1412 hl (by decide) rfl (fun ls hl => ?_)
    have hsize : ls.size = c.maxLocals := by rw [hml]; exact hl.1
    refine lv_aload_n hx hb d_La_law_1414 rfl (lv_at hl 4 rfl) ?_
    refine px_callN (ix_V (As := []) (rest := []) hx hb hown (k_La_107 hC) (ki_Mo_thrown hC) (kv_Mo_thrown hC) (mx_Is.code (args := #[]) (kc_Mo_thrown hC)) kh_Mo_thrown (va_recv hC.K hP (ci := 10) (q0 := 0) rfl rfl) rfl kp_Mo_thrown rfl d_La_law_1415) (M_thrown l hl0 G B XS XF XL (uS ZS 1 0) ZF) (kc_Mo_thrown hC) rfl (mx_Is.code (args := #[]) (kc_Mo_thrown hC)) (kn_Mo hC) hb hC (gl_leftP hP).1 (gl_leftD hD) hS (by decide) ⟨by show cs + 1 + 0 ≤ 1087; omega, by show sl + 6 + 0 ≤ 10306; omega⟩ hsize (Nat.le_of_ble_eq_true rfl) d_La_law_1415 ?_
    refine W.eq (g2 := F0 m 1418 ls [.int 0]) rfl ?_
    refine lv_iload hx hb d_La_law_1418 (lv_at hl 1 rfl) ?_
    refine lv_icmp_eq (tgt := 1425) hx hb d_La_law_1420 (by decide) (fun _ => ?_) (fun c_1420 => absurd c_1420 (by decide))
    refine lv_iload hx hb d_La_law_1425 (lv_at hl 1 rfl) ?_
    refine lv_if_ne (tgt := 1441) hx hb d_La_law_1427 (by decide) (fun c_1427 => absurd c_1427 (by decide)) (fun _ => ?_)
    refine lv_aload_n hx hb d_La_law_1430 rfl (lv_at hl 3 rfl) ?_
    refine lv_iconst (v := 0) hx hb d_La_law_1431 (by decide) ?_
    refine va_lald hx hb hC.K hP 23 2 rfl rfl (vp_in_nI (n := 0) (by decide) (by decide)) d_La_law_1432 ?_
    refine lv_lload hx hb d_La_law_1433 (lv_at hl 0 rfl) ?_
    refine W.lcmp hx hb d_La_law_1435 ?_
    refine lv_if_eq (tgt := 1441) hx hb d_La_law_1436 (by decide) (fun c_1436 => ?_) (fun c_1436 => ?_)
    · rw [lg_cmp_eq] at c_1436
      refine lv_goto (tgt := 1559) hx hb d_La_law_1441 (by decide) ?_
      obtain ⟨hP, hD⟩ := gl_swap hP hD
      exact kk (vp_updL FO (0 : Int32).toNatClampNeg (XL (((xs ((nI i) + 1).toNatClampNeg) * 5) + (xs ((nI i) + 2).toNatClampNeg)).toNatClampNeg)) XS XF XL (uS ZS 1 0) ZF _ _ ls hI1 hP hD hS (lv_sub hl [2, 3, 4, 5, 6] rfl)
    · rw [lg_cmp_eq] at c_1436; exact absurd (by rw [pk_uLs, hrv]) c_1436
  · have ht : ¬ th_k2 (xs ((nI i) + 1).toNatClampNeg) 10 (xs ((nI i) + 2).toNatClampNeg) 5 = none := fun q => hT0 (by rw [← hT, ← hk, q]; rfl)
    obtain rfl := hn2 ht
    obtain ⟨hw, hI1⟩ := hbad ht
    rw [hw] at hP hD
    have hk0 : ¬ k = 0 := fun q => hT0 (hT.symm.trans q)
    refine W.eq (g2 := F0 m 1412 ls [.long 0]) rfl ?_
    refine lv_lstore (lv' := [(6, .long 0), (5, .int k), (4, .int (nI i)), (3, .ref oo), (2, .ref (B 0)), (1, .ref (A 0)), (0, .ref b)]) hx hb d_La_law_1412 hl (by decide) rfl (fun ls hl => ?_)
    have hsize : ls.size = c.maxLocals := by rw [hml]; exact hl.1
    refine lv_aload_n hx hb d_La_law_1414 rfl (lv_at hl 4 rfl) ?_
    refine px_callN (ix_V (As := []) (rest := []) hx hb hown (k_La_107 hC) (ki_Mo_thrown hC) (kv_Mo_thrown hC) (mx_Is.code (args := #[]) (kc_Mo_thrown hC)) kh_Mo_thrown (va_recv hC.K hP (ci := 10) (q0 := 0) rfl rfl) rfl kp_Mo_thrown rfl d_La_law_1415) (M_thrown l hl0 G B XS XF XL (uS ZS 1 ((if (¬ (0 ≤ (xs ((nI i) + 1).toNatClampNeg) ∧ (xs ((nI i) + 1).toNatClampNeg) ≤ 9) ∨ ¬ (0 ≤ (xs ((nI i) + 2).toNatClampNeg) ∧ (xs ((nI i) + 2).toNatClampNeg) ≤ 4)) then 1 else 0) : Int32)) ZF) (kc_Mo_thrown hC) rfl (mx_Is.code (args := #[]) (kc_Mo_thrown hC)) (kn_Mo hC) hb hC (gl_leftP hP).1 (gl_leftD hD) hS (by decide) ⟨by show cs + 1 + 0 ≤ 1087; omega, by show sl + 6 + 0 ≤ 10306; omega⟩ hsize (Nat.le_of_ble_eq_true rfl) d_La_law_1415 ?_
    refine W.eq (g2 := F0 m 1418 ls [.int ((if (¬ (0 ≤ (xs ((nI i) + 1).toNatClampNeg) ∧ (xs ((nI i) + 1).toNatClampNeg) ≤ 9) ∨ ¬ (0 ≤ (xs ((nI i) + 2).toNatClampNeg) ∧ (xs ((nI i) + 2).toNatClampNeg) ≤ 4)) then 1 else 0) : Int32)]) rfl ?_
    refine lv_iload hx hb d_La_law_1418 (lv_at hl 1 rfl) ?_
    refine lv_icmp_eq (tgt := 1425) hx hb d_La_law_1420 (by decide) (fun c_1420 => ?_) (fun c_1420 => ?_)
    · refine lv_iload hx hb d_La_law_1425 (lv_at hl 1 rfl) ?_
      refine lv_if_ne (tgt := 1441) hx hb d_La_law_1427 (by decide) (fun c_1427 => ?_) (fun c_1427 => ?_)
      · refine lv_goto (tgt := 1559) hx hb d_La_law_1441 (by decide) ?_
        obtain ⟨hP, hD⟩ := gl_swap hP hD
        exact kk FO XS XF XL (uS ZS 1 ((if (¬ (0 ≤ (xs ((nI i) + 1).toNatClampNeg) ∧ (xs ((nI i) + 1).toNatClampNeg) ≤ 9) ∨ ¬ (0 ≤ (xs ((nI i) + 2).toNatClampNeg) ∧ (xs ((nI i) + 2).toNatClampNeg) ≤ 4)) then 1 else 0) : Int32)) ZF _ _ ls hI1 hP hD hS (lv_sub hl [2, 3, 4, 5, 6] rfl)
      · exact absurd c_1427 hk0
    · exact absurd hT.symm c_1420
set_option maxHeartbeats 4000000 in
set_option maxRecDepth 100000 in
theorem case_21 {p : Program} {l : Launch} {e : Env} {s : State} {m : MethodId} {below : List Frame} {meth : Method} {c : Code} (hl0 : l.stackTraces = false) {G : GG} (hC : g_C G s) (hx : p.tables.exec = Jvm.exec) (hb : c.code = code) (hml : c.maxLocals = 8) (hown : s.vm.findClass R_La = some m.cls) {b L : Nat} {xs : Nat → Int32} (hX : va_X b L xs s s.heap) (hbl : b < s.heap.size) (hbA : ¬ g_A G b) {Q : State → Prop} {A B : Nat → Nat} {oo : Nat} {XS : Nat → Int32} {XF : Nat → Nat → Int32} {XL : Nat → Int64} {ZS : Nat → Int32} {ZF : Nat → Nat → Int32} {FO : Nat → Int64} (hI : INV XS XF ZF) {i : Nat} (hi : i + 5 ≤ L) (hL : L ≤ 2560) {cs sl : Nat} (hcs : cs + 1 ≤ 1087) (hsl : sl + 6 ≤ 10306) {H : Heap} {locs : List Loc} (hP : va_P G.1 g_cl (((oo, .inl (G.2.1 2, 1, .inr (.inl FO))) :: wcb G A XS XF XL) ++ (wmo G B XS XF XL ZS ZF ++ [])) H) (hD : va_D (g_A G) (((oo, .inl (G.2.1 2, 1, .inr (.inl FO))) :: wcb G A XS XF XL) ++ (wmo G B XS XF XL ZS ZF ++ []))) (hS : va_S (g_A G) s.heap H locs) {ls : Array Slot} (hl : lv_has ls 8 [(4, .int (nI i)), (3, .ref oo), (2, .ref (B 0)), (1, .ref (A 0)), (0, .ref b)]) (kk : ∀ (FO' : Nat → Int64) (XS' : Nat → Int32) (XF' : Nat → Nat → Int32) (XL' : Nat → Int64) (ZS' : Nat → Int32) (ZF' : Nat → Nat → Int32) (H' : Heap) (locs' : List Loc) (ls' : Array Slot), INV XS' XF' ZF' → va_P G.1 g_cl (((oo, .inl (G.2.1 2, 1, .inr (.inl FO'))) :: wcb G A XS' XF' XL') ++ (wmo G B XS' XF' XL' ZS' ZF' ++ [])) H' → va_D (g_A G) (((oo, .inl (G.2.1 2, 1, .inr (.inl FO'))) :: wcb G A XS' XF' XL') ++ (wmo G B XS' XF' XL' ZS' ZF' ++ [])) → va_S (g_A G) s.heap H' locs' → lv_has ls' 8 [(4, .int (nI i)), (3, .ref oo), (2, .ref (B 0)), (1, .ref (A 0)), (0, .ref b)] → W p l e room_1 s m #[Value.ref b] below meth c H' locs' (cs + 1) (sl + 6) Q (F0 m 1559 ls' [])) : W p l e room_1 s m #[Value.ref b] below meth c H locs cs sl Q (F0 m 1444 ls []) := by
  obtain ⟨hor, hta, hre, htf, hbi, hho, hgr, hle, hcl, hbd⟩ := id hI
  have hsize : ls.size = c.maxLocals := by rw [hml]; exact hl.1
  refine lv_aload_n hx hb d_La_law_1444 rfl (lv_at hl 3 rfl) ?_
  refine lv_aload_n hx hb d_La_law_1445 rfl (lv_at hl 4 rfl) ?_
  refine lv_iload hx hb d_La_law_1446 (lv_at hl 0 rfl) ?_
  refine lv_iconst (v := 1) hx hb d_La_law_1448 (by decide) ?_
  refine lv_iadd hx hb d_La_law_1449 ?_
  have ha1 : vp_in ((nI i) + 1) L := by rw [show (1 : Int32) = nI 1 by decide +kernel, nI_add]; exact vp_in_nI (by omega) (by omega)
  refine va_sld hx hb hX hbl hbA hS ha1 d_La_law_1450 ?_
  refine gx_call (ix_S (As := [.ref (A 0), .int (xs ((nI i) + 1).toNatClampNeg)]) (rest := []) hx hb hown (k_La_182 hC) (ks_La_close hC) (kn_La hC) (mx_Is.with (args := #[]) (kc_La_close hC)) kh_La_close rfl kp_La_close rfl d_La_law_1451) (L_close l hl0 G A XS XF XL oo FO (xs ((nI i) + 1).toNatClampNeg) hor.1) (kc_La_close hC) rfl (mx_Is.with (args := #[]) (kc_La_close hC)) (kn_La hC) hb hC hP hD hS (by decide) ⟨by show cs + 1 ≤ 1087; omega, by show sl + 6 ≤ 10306; omega⟩ hsize (Nat.le_of_ble_eq_true rfl) d_La_law_1451 (fun v w' H locs hPo hP hD hS => ?_) (fun _ _ _ _ _ _ hPx => hPx.elim)
  obtain ⟨rfl, hn1, hn2⟩ := hPo
  obtain ⟨hT, hok, hbad⟩ := P_close G B XS XF XL ZS ZF (xs ((nI i) + 1).toNatClampNeg) hI
  generalize hk : cod [eIA, eIS] ((ck_known (xs ((nI i) + 1).toNatClampNeg) 5).or (if ¬ (xs ((nI i) + 1).toNatClampNeg) = (XS 13) ∨ (∃ j : Nat, j < (XS 1).toNatClampNeg ∧ ¬ (XF 6) j = 0 ∧ (XF 4) j / 10 = (xs ((nI i) + 1).toNatClampNeg)) then some eIS else none)) = k at hT ⊢
  refine W.eq (g2 := F0 m 1454 ls [.int k]) rfl ?_
  refine lv_istore (lv' := [(5, .int k), (4, .int (nI i)), (3, .ref oo), (2, .ref (B 0)), (1, .ref (A 0)), (0, .ref b)]) hx hb d_La_law_1454 hl (by decide) rfl (fun ls hl => ?_)
  have hsize : ls.size = c.maxLocals := by rw [hml]; exact hl.1
  refine lv_aload_n hx hb d_La_law_1456 rfl (lv_at hl 3 rfl) ?_
  refine lv_aload_n hx hb d_La_law_1457 rfl (lv_at hl 5 rfl) ?_
  refine lv_iload hx hb d_La_law_1458 (lv_at hl 1 rfl) ?_
  refine lv_iconst (v := 1) hx hb d_La_law_1460 (by decide) ?_
  refine lv_iadd hx hb d_La_law_1461 ?_
  refine va_sld hx hb hX hbl hbA hS ha1 d_La_law_1462 ?_
  obtain ⟨hP, hD⟩ := gl_swap hP hD
  refine gx_call (ix_V (As := [.int (xs ((nI i) + 1).toNatClampNeg)]) (rest := []) hx hb hown (k_La_184 hC) (ki_Mo_close hC) (kv_Mo_close hC) (mx_Is.code (args := #[]) (kc_Mo_close hC)) kh_Mo_close (va_recv hC.K hP (ci := 10) (q0 := 0) rfl rfl) rfl kp_Mo_close rfl d_La_law_1463) (M_close l hl0 G B XS XF XL ZS ZF (xs ((nI i) + 1).toNatClampNeg) hor.1) (kc_Mo_close hC) rfl (mx_Is.code (args := #[]) (kc_Mo_close hC)) (kn_Mo hC) hb hC hP hD hS (by decide) ⟨by show cs + 1 + 0 ≤ 1087; omega, by show sl + 6 + 0 ≤ 10306; omega⟩ hsize (Nat.le_of_ble_eq_true rfl) d_La_law_1463 (fun v w2 H locs hMo hP hD hS => ?_) (fun _ _ _ _ _ _ hPx => hPx.elim)
  rcases hMo with ⟨hT0, rfl, rfl⟩ | ⟨hT0, rfl, rfl⟩
  · have ht : (ck_known (xs ((nI i) + 1).toNatClampNeg) 5).or (if ¬ (xs ((nI i) + 1).toNatClampNeg) = (XS 13) ∨ (∃ j : Nat, j < (XS 1).toNatClampNeg ∧ ¬ (XF 6) j = 0 ∧ (XF 4) j / 10 = (xs ((nI i) + 1).toNatClampNeg)) then some eIS else none) = none := cod_none (hk.trans (hT.trans hT0)) (by decide)
    obtain rfl := hn1 ht
    obtain ⟨⟨hw, hI1⟩, hrv⟩ := hok ht
    rw [hw] at hP hD
    have hk0 : k = 0 := hT.trans hT0
    subst hk0
    refine W.eq (g2 := F0 m 1466 ls []) rfl ?_
    refine lv_aload_n hx hb d_La_law_1466 rfl (lv_at hl 3 rfl) ?_
    refine px_callN (ix_V (As := []) (rest := []) hx hb hown (k_La_107 hC) (ki_Mo_thrown hC) (kv_Mo_thrown hC) (mx_Is.code (args := #[]) (kc_Mo_thrown hC)) kh_Mo_thrown (va_recv hC.K hP (ci := 10) (q0 := 0) rfl rfl) rfl kp_Mo_thrown rfl d_La_law_1467) (M_thrown l hl0 G B (uS XS 13 ((XS 13) + 1)) XF XL (uS ZS 1 0) (uF ZF 5 (upd (ZF 5) (xs ((nI i) + 1).toNatClampNeg).toNatClampNeg 1))) (kc_Mo_thrown hC) rfl (mx_Is.code (args := #[]) (kc_Mo_thrown hC)) (kn_Mo hC) hb hC (gl_leftP hP).1 (gl_leftD hD) hS (by decide) ⟨by show cs + 1 + 0 ≤ 1087; omega, by show sl + 6 + 0 ≤ 10306; omega⟩ hsize (Nat.le_of_ble_eq_true rfl) d_La_law_1467 ?_
    refine W.eq (g2 := F0 m 1470 ls [.int 0]) rfl ?_
    refine lv_iload hx hb d_La_law_1470 (lv_at hl 0 rfl) ?_
    refine lv_icmp_eq (tgt := 1477) hx hb d_La_law_1472 (by decide) (fun _ => ?_) (fun c_1472 => absurd c_1472 (by decide))
    refine lv_goto (tgt := 1559) hx hb d_La_law_1477 (by decide) ?_
    obtain ⟨hP, hD⟩ := gl_swap hP hD
    exact kk FO (uS XS 13 ((XS 13) + 1)) XF XL (uS ZS 1 0) (uF ZF 5 (upd (ZF 5) (xs ((nI i) + 1).toNatClampNeg).toNatClampNeg 1)) _ _ ls hI1 hP hD hS (lv_sub hl [1, 2, 3, 4, 5] rfl)
  · have ht : ¬ (ck_known (xs ((nI i) + 1).toNatClampNeg) 5).or (if ¬ (xs ((nI i) + 1).toNatClampNeg) = (XS 13) ∨ (∃ j : Nat, j < (XS 1).toNatClampNeg ∧ ¬ (XF 6) j = 0 ∧ (XF 4) j / 10 = (xs ((nI i) + 1).toNatClampNeg)) then some eIS else none) = none := fun q => hT0 (by rw [← hT, ← hk, q]; rfl)
    obtain rfl := hn2 ht
    obtain ⟨hw, hI1⟩ := hbad ht
    rw [hw] at hP hD
    have hk0 : ¬ k = 0 := fun q => hT0 (hT.symm.trans q)
    refine W.eq (g2 := F0 m 1466 ls []) rfl ?_
    refine lv_aload_n hx hb d_La_law_1466 rfl (lv_at hl 3 rfl) ?_
    refine px_callN (ix_V (As := []) (rest := []) hx hb hown (k_La_107 hC) (ki_Mo_thrown hC) (kv_Mo_thrown hC) (mx_Is.code (args := #[]) (kc_Mo_thrown hC)) kh_Mo_thrown (va_recv hC.K hP (ci := 10) (q0 := 0) rfl rfl) rfl kp_Mo_thrown rfl d_La_law_1467) (M_thrown l hl0 G B XS XF XL (uS ZS 1 ((if ¬ (0 ≤ (xs ((nI i) + 1).toNatClampNeg) ∧ (xs ((nI i) + 1).toNatClampNeg) ≤ 4) then 1 else (if ((¬ (ZF 5) (xs ((nI i) + 1).toNatClampNeg).toNatClampNeg = 0 ∨ (∃ j : Nat, j < (xs ((nI i) + 1).toNatClampNeg).toNatClampNeg ∧ (ZF 5) j = 0)) ∨ (∃ j : Nat, j < (XS 1).toNatClampNeg ∧ (ZF 10) j = 0 ∧ (XF 4) j / 10 = (xs ((nI i) + 1).toNatClampNeg))) then 2 else 0)) : Int32)) ZF) (kc_Mo_thrown hC) rfl (mx_Is.code (args := #[]) (kc_Mo_thrown hC)) (kn_Mo hC) hb hC (gl_leftP hP).1 (gl_leftD hD) hS (by decide) ⟨by show cs + 1 + 0 ≤ 1087; omega, by show sl + 6 + 0 ≤ 10306; omega⟩ hsize (Nat.le_of_ble_eq_true rfl) d_La_law_1467 ?_
    refine W.eq (g2 := F0 m 1470 ls [.int ((if ¬ (0 ≤ (xs ((nI i) + 1).toNatClampNeg) ∧ (xs ((nI i) + 1).toNatClampNeg) ≤ 4) then 1 else (if ((¬ (ZF 5) (xs ((nI i) + 1).toNatClampNeg).toNatClampNeg = 0 ∨ (∃ j : Nat, j < (xs ((nI i) + 1).toNatClampNeg).toNatClampNeg ∧ (ZF 5) j = 0)) ∨ (∃ j : Nat, j < (XS 1).toNatClampNeg ∧ (ZF 10) j = 0 ∧ (XF 4) j / 10 = (xs ((nI i) + 1).toNatClampNeg))) then 2 else 0)) : Int32)]) rfl ?_
    refine lv_iload hx hb d_La_law_1470 (lv_at hl 0 rfl) ?_
    refine lv_icmp_eq (tgt := 1477) hx hb d_La_law_1472 (by decide) (fun c_1472 => ?_) (fun c_1472 => ?_)
    · refine lv_goto (tgt := 1559) hx hb d_La_law_1477 (by decide) ?_
      obtain ⟨hP, hD⟩ := gl_swap hP hD
      exact kk FO XS XF XL (uS ZS 1 ((if ¬ (0 ≤ (xs ((nI i) + 1).toNatClampNeg) ∧ (xs ((nI i) + 1).toNatClampNeg) ≤ 4) then 1 else (if ((¬ (ZF 5) (xs ((nI i) + 1).toNatClampNeg).toNatClampNeg = 0 ∨ (∃ j : Nat, j < (xs ((nI i) + 1).toNatClampNeg).toNatClampNeg ∧ (ZF 5) j = 0)) ∨ (∃ j : Nat, j < (XS 1).toNatClampNeg ∧ (ZF 10) j = 0 ∧ (XF 4) j / 10 = (xs ((nI i) + 1).toNatClampNeg))) then 2 else 0)) : Int32)) ZF _ _ ls hI1 hP hD hS (lv_sub hl [1, 2, 3, 4, 5] rfl)
    · exact absurd hT.symm c_1472
set_option maxHeartbeats 4000000 in
set_option maxRecDepth 100000 in
theorem case_22 {p : Program} {l : Launch} {e : Env} {s : State} {m : MethodId} {below : List Frame} {meth : Method} {c : Code} (hl0 : l.stackTraces = false) {G : GG} (hC : g_C G s) (hx : p.tables.exec = Jvm.exec) (hb : c.code = code) (hml : c.maxLocals = 8) (hown : s.vm.findClass R_La = some m.cls) {b L : Nat} {xs : Nat → Int32} (hX : va_X b L xs s s.heap) (hbl : b < s.heap.size) (hbA : ¬ g_A G b) {Q : State → Prop} {A B : Nat → Nat} {oo : Nat} {XS : Nat → Int32} {XF : Nat → Nat → Int32} {XL : Nat → Int64} {ZS : Nat → Int32} {ZF : Nat → Nat → Int32} {FO : Nat → Int64} (hI : INV XS XF ZF) {i : Nat} (hi : i + 5 ≤ L) (hL : L ≤ 2560) {cs sl : Nat} (hcs : cs + 1 ≤ 1087) (hsl : sl + 6 ≤ 10306) {H : Heap} {locs : List Loc} (hP : va_P G.1 g_cl (((oo, .inl (G.2.1 2, 1, .inr (.inl FO))) :: wcb G A XS XF XL) ++ (wmo G B XS XF XL ZS ZF ++ [])) H) (hD : va_D (g_A G) (((oo, .inl (G.2.1 2, 1, .inr (.inl FO))) :: wcb G A XS XF XL) ++ (wmo G B XS XF XL ZS ZF ++ []))) (hS : va_S (g_A G) s.heap H locs) {ls : Array Slot} (hl : lv_has ls 8 [(4, .int (nI i)), (3, .ref oo), (2, .ref (B 0)), (1, .ref (A 0)), (0, .ref b)]) (kk : ∀ (FO' : Nat → Int64) (XS' : Nat → Int32) (XF' : Nat → Nat → Int32) (XL' : Nat → Int64) (ZS' : Nat → Int32) (ZF' : Nat → Nat → Int32) (H' : Heap) (locs' : List Loc) (ls' : Array Slot), INV XS' XF' ZF' → va_P G.1 g_cl (((oo, .inl (G.2.1 2, 1, .inr (.inl FO'))) :: wcb G A XS' XF' XL') ++ (wmo G B XS' XF' XL' ZS' ZF' ++ [])) H' → va_D (g_A G) (((oo, .inl (G.2.1 2, 1, .inr (.inl FO'))) :: wcb G A XS' XF' XL') ++ (wmo G B XS' XF' XL' ZS' ZF' ++ [])) → va_S (g_A G) s.heap H' locs' → lv_has ls' 8 [(4, .int (nI i)), (3, .ref oo), (2, .ref (B 0)), (1, .ref (A 0)), (0, .ref b)] → W p l e room_1 s m #[Value.ref b] below meth c H' locs' (cs + 1) (sl + 6) Q (F0 m 1559 ls' [])) : W p l e room_1 s m #[Value.ref b] below meth c H locs cs sl Q (F0 m 1480 ls []) := by
  obtain ⟨hor, hta, hre, htf, hbi, hho, hgr, hle, hcl, hbd⟩ := id hI
  have hsize : ls.size = c.maxLocals := by rw [hml]; exact hl.1
  refine lv_aload_n hx hb d_La_law_1480 rfl (lv_at hl 3 rfl) ?_
  refine lv_aload_n hx hb d_La_law_1481 rfl (lv_at hl 4 rfl) ?_
  refine lv_iload hx hb d_La_law_1482 (lv_at hl 0 rfl) ?_
  refine lv_iconst (v := 1) hx hb d_La_law_1484 (by decide) ?_
  refine lv_iadd hx hb d_La_law_1485 ?_
  have ha1 : vp_in ((nI i) + 1) L := by rw [show (1 : Int32) = nI 1 by decide +kernel, nI_add]; exact vp_in_nI (by omega) (by omega)
  refine va_sld hx hb hX hbl hbA hS ha1 d_La_law_1486 ?_
  refine lv_aload_n hx hb d_La_law_1487 rfl (lv_at hl 4 rfl) ?_
  refine lv_iload hx hb d_La_law_1488 (lv_at hl 0 rfl) ?_
  refine lv_iconst (v := 2) hx hb d_La_law_1490 (by decide) ?_
  refine lv_iadd hx hb d_La_law_1491 ?_
  have ha2 : vp_in ((nI i) + 2) L := by rw [show (2 : Int32) = nI 2 by decide +kernel, nI_add]; exact vp_in_nI (by omega) (by omega)
  refine va_sld hx hb hX hbl hbA hS ha2 d_La_law_1492 ?_
  refine lv_aload_n hx hb d_La_law_1493 rfl (lv_at hl 4 rfl) ?_
  refine lv_iload hx hb d_La_law_1494 (lv_at hl 0 rfl) ?_
  refine lv_iconst (v := 3) hx hb d_La_law_1496 (by decide) ?_
  refine lv_iadd hx hb d_La_law_1497 ?_
  have ha3 : vp_in ((nI i) + 3) L := by rw [show (3 : Int32) = nI 3 by decide +kernel, nI_add]; exact vp_in_nI (by omega) (by omega)
  refine va_sld hx hb hX hbl hbA hS ha3 d_La_law_1498 ?_
  refine lv_aload_n hx hb d_La_law_1499 rfl (lv_at hl 1 rfl) ?_
  refine gx_call (ix_S (As := [.ref (A 0), .int (xs ((nI i) + 1).toNatClampNeg), .int (xs ((nI i) + 2).toNatClampNeg), .int (xs ((nI i) + 3).toNatClampNeg), .ref oo]) (rest := []) hx hb hown (k_La_185 hC) (ks_La_forecast hC) (kn_La hC) (mx_Is.with (args := #[]) (kc_La_forecast hC)) kh_La_forecast rfl kp_La_forecast rfl d_La_law_1500) (L_forecast l hl0 G A XS XF XL oo FO (xs ((nI i) + 1).toNatClampNeg) (xs ((nI i) + 2).toNatClampNeg) (xs ((nI i) + 3).toNatClampNeg)) (kc_La_forecast hC) rfl (mx_Is.with (args := #[]) (kc_La_forecast hC)) (kn_La hC) hb hC hP hD hS (by decide) ⟨by show cs + 1 ≤ 1087; omega, by show sl + 6 ≤ 10306; omega⟩ hsize (Nat.le_of_ble_eq_true rfl) d_La_law_1500 (fun v w' H locs hPo hP hD hS => ?_) (fun _ _ _ _ _ _ hPx => hPx.elim)
  obtain ⟨rfl, hn1, hn2⟩ := hPo
  obtain ⟨hT, hok, hbad⟩ := P_forecast G B XS XF XL ZS ZF (xs ((nI i) + 1).toNatClampNeg) (xs ((nI i) + 2).toNatClampNeg) (xs ((nI i) + 3).toNatClampNeg) hI
  generalize hk : cod [eIA, eIO, eAR] (th_forecast (xs ((nI i) + 1).toNatClampNeg) (xs ((nI i) + 2).toNatClampNeg) (xs ((nI i) + 3).toNatClampNeg)) = k at hT ⊢
  refine W.eq (g2 := F0 m 1503 ls [.int k]) rfl ?_
  refine lv_istore (lv' := [(5, .int k), (4, .int (nI i)), (3, .ref oo), (2, .ref (B 0)), (1, .ref (A 0)), (0, .ref b)]) hx hb d_La_law_1503 hl (by decide) rfl (fun ls hl => ?_)
  have hsize : ls.size = c.maxLocals := by rw [hml]; exact hl.1
  refine lv_aload_n hx hb d_La_law_1505 rfl (lv_at hl 3 rfl) ?_
  refine lv_aload_n hx hb d_La_law_1506 rfl (lv_at hl 5 rfl) ?_
  refine lv_iload hx hb d_La_law_1507 (lv_at hl 1 rfl) ?_
  refine lv_iconst (v := 1) hx hb d_La_law_1509 (by decide) ?_
  refine lv_iadd hx hb d_La_law_1510 ?_
  refine va_sld hx hb hX hbl hbA hS ha1 d_La_law_1511 ?_
  refine lv_aload_n hx hb d_La_law_1512 rfl (lv_at hl 5 rfl) ?_
  refine lv_iload hx hb d_La_law_1513 (lv_at hl 1 rfl) ?_
  refine lv_iconst (v := 2) hx hb d_La_law_1515 (by decide) ?_
  refine lv_iadd hx hb d_La_law_1516 ?_
  refine va_sld hx hb hX hbl hbA hS ha2 d_La_law_1517 ?_
  refine lv_aload_n hx hb d_La_law_1518 rfl (lv_at hl 5 rfl) ?_
  refine lv_iload hx hb d_La_law_1519 (lv_at hl 1 rfl) ?_
  refine lv_iconst (v := 3) hx hb d_La_law_1521 (by decide) ?_
  refine lv_iadd hx hb d_La_law_1522 ?_
  refine va_sld hx hb hX hbl hbA hS ha3 d_La_law_1523 ?_
  obtain ⟨hP, hD⟩ := gl_swap hP hD
  refine gx_call (ix_V (As := [.int (xs ((nI i) + 1).toNatClampNeg), .int (xs ((nI i) + 2).toNatClampNeg), .int (xs ((nI i) + 3).toNatClampNeg)]) (rest := []) hx hb hown (k_La_187 hC) (ki_Mo_forecast hC) (kv_Mo_forecast hC) (mx_Is.code (args := #[]) (kc_Mo_forecast hC)) kh_Mo_forecast (va_recv hC.K hP (ci := 10) (q0 := 0) rfl rfl) rfl kp_Mo_forecast rfl d_La_law_1524) (M_forecast l hl0 G B XS XF XL ZS ZF (xs ((nI i) + 1).toNatClampNeg) (xs ((nI i) + 2).toNatClampNeg) (xs ((nI i) + 3).toNatClampNeg)) (kc_Mo_forecast hC) rfl (mx_Is.code (args := #[]) (kc_Mo_forecast hC)) (kn_Mo hC) hb hC hP hD hS (by decide) ⟨by show cs + 1 + 0 ≤ 1087; omega, by show sl + 6 + 0 ≤ 10306; omega⟩ hsize (Nat.le_of_ble_eq_true rfl) d_La_law_1524 (fun v w2 H locs hMo hP hD hS => ?_) (fun _ _ _ _ _ _ hPx => hPx.elim)
  rcases hMo with ⟨hT0, rfl, rfl⟩ | ⟨hT0, rfl, rfl⟩
  · have ht : th_forecast (xs ((nI i) + 1).toNatClampNeg) (xs ((nI i) + 2).toNatClampNeg) (xs ((nI i) + 3).toNatClampNeg) = none := cod_none (hk.trans (hT.trans hT0)) (by decide)
    obtain rfl := hn1 ht
    obtain ⟨⟨hw, hI1⟩, hrv⟩ := hok ht
    rw [hw] at hP hD
    have hk0 : k = 0 := hT.trans hT0
    subst hk0
    refine W.eq (g2 := F0 m 1527 ls [.long ((365 * ((XF 3) ((10 * (xs ((nI i) + 1).toNatClampNeg)) + (xs ((nI i) + 2).toNatClampNeg)).toNatClampNeg).toInt64) / (xs ((nI i) + 3).toNatClampNeg).toInt64)]) rfl ?_
    refine lv_lstore (lv' := [(6, .long ((365 * ((XF 3) ((10 * (xs ((nI i) + 1).toNatClampNeg)) + (xs ((nI i) + 2).toNatClampNeg)).toNatClampNeg).toInt64) / (xs ((nI i) + 3).toNatClampNeg).toInt64)), (5, .int 0), (4, .int (nI i)), (3, .ref oo), (2, .ref (B 0)), (1, .ref (A 0)), (0, .ref b)]) hx hb d_La_law_1527 hl (by decide) rfl (fun ls hl => ?_)
    have hsize : ls.size = c.maxLocals := by rw [hml]; exact hl.1
    refine lv_aload_n hx hb d_La_law_1529 rfl (lv_at hl 4 rfl) ?_
    refine px_callN (ix_V (As := []) (rest := []) hx hb hown (k_La_107 hC) (ki_Mo_thrown hC) (kv_Mo_thrown hC) (mx_Is.code (args := #[]) (kc_Mo_thrown hC)) kh_Mo_thrown (va_recv hC.K hP (ci := 10) (q0 := 0) rfl rfl) rfl kp_Mo_thrown rfl d_La_law_1530) (M_thrown l hl0 G B XS XF XL (uS ZS 1 0) ZF) (kc_Mo_thrown hC) rfl (mx_Is.code (args := #[]) (kc_Mo_thrown hC)) (kn_Mo hC) hb hC (gl_leftP hP).1 (gl_leftD hD) hS (by decide) ⟨by show cs + 1 + 0 ≤ 1087; omega, by show sl + 6 + 0 ≤ 10306; omega⟩ hsize (Nat.le_of_ble_eq_true rfl) d_La_law_1530 ?_
    refine W.eq (g2 := F0 m 1533 ls [.int 0]) rfl ?_
    refine lv_iload hx hb d_La_law_1533 (lv_at hl 1 rfl) ?_
    refine lv_icmp_eq (tgt := 1540) hx hb d_La_law_1535 (by decide) (fun _ => ?_) (fun c_1535 => absurd c_1535 (by decide))
    refine lv_iload hx hb d_La_law_1540 (lv_at hl 1 rfl) ?_
    refine lv_if_ne (tgt := 1556) hx hb d_La_law_1542 (by decide) (fun c_1542 => absurd c_1542 (by decide)) (fun _ => ?_)
    refine lv_aload_n hx hb d_La_law_1545 rfl (lv_at hl 3 rfl) ?_
    refine lv_iconst (v := 0) hx hb d_La_law_1546 (by decide) ?_
    refine va_lald hx hb hC.K hP 23 2 rfl rfl (vp_in_nI (n := 0) (by decide) (by decide)) d_La_law_1547 ?_
    refine lv_lload hx hb d_La_law_1548 (lv_at hl 0 rfl) ?_
    refine W.lcmp hx hb d_La_law_1550 ?_
    refine lv_if_eq (tgt := 1556) hx hb d_La_law_1551 (by decide) (fun c_1551 => ?_) (fun c_1551 => ?_)
    · rw [lg_cmp_eq] at c_1551
      refine lv_goto (tgt := 1559) hx hb d_La_law_1556 (by decide) ?_
      obtain ⟨hP, hD⟩ := gl_swap hP hD
      exact kk (vp_updL FO (0 : Int32).toNatClampNeg ((((XF 3) (((xs ((nI i) + 1).toNatClampNeg) * 10) + (xs ((nI i) + 2).toNatClampNeg)).toNatClampNeg).toInt64 * 365) / (xs ((nI i) + 3).toNatClampNeg).toInt64)) XS XF XL (uS ZS 1 0) ZF _ _ ls hI1 hP hD hS (lv_sub hl [2, 3, 4, 5, 6] rfl)
    · rw [lg_cmp_eq] at c_1551; exact absurd (by rw [pk_uLs, hrv]) c_1551
  · have ht : ¬ th_forecast (xs ((nI i) + 1).toNatClampNeg) (xs ((nI i) + 2).toNatClampNeg) (xs ((nI i) + 3).toNatClampNeg) = none := fun q => hT0 (by rw [← hT, ← hk, q]; rfl)
    obtain rfl := hn2 ht
    obtain ⟨hw, hI1⟩ := hbad ht
    rw [hw] at hP hD
    have hk0 : ¬ k = 0 := fun q => hT0 (hT.symm.trans q)
    refine W.eq (g2 := F0 m 1527 ls [.long 0]) rfl ?_
    refine lv_lstore (lv' := [(6, .long 0), (5, .int k), (4, .int (nI i)), (3, .ref oo), (2, .ref (B 0)), (1, .ref (A 0)), (0, .ref b)]) hx hb d_La_law_1527 hl (by decide) rfl (fun ls hl => ?_)
    have hsize : ls.size = c.maxLocals := by rw [hml]; exact hl.1
    refine lv_aload_n hx hb d_La_law_1529 rfl (lv_at hl 4 rfl) ?_
    refine px_callN (ix_V (As := []) (rest := []) hx hb hown (k_La_107 hC) (ki_Mo_thrown hC) (kv_Mo_thrown hC) (mx_Is.code (args := #[]) (kc_Mo_thrown hC)) kh_Mo_thrown (va_recv hC.K hP (ci := 10) (q0 := 0) rfl rfl) rfl kp_Mo_thrown rfl d_La_law_1530) (M_thrown l hl0 G B XS XF XL (uS ZS 1 ((if ¬ ((0 ≤ (xs ((nI i) + 1).toNatClampNeg) ∧ (xs ((nI i) + 1).toNatClampNeg) ≤ 4) ∧ (0 ≤ (xs ((nI i) + 2).toNatClampNeg) ∧ (xs ((nI i) + 2).toNatClampNeg) ≤ 9)) then 1 else (if ¬ (0 ≤ (xs ((nI i) + 3).toNatClampNeg) ∧ (xs ((nI i) + 3).toNatClampNeg) ≤ 365) then 2 else (if (xs ((nI i) + 3).toNatClampNeg) = 0 then 3 else 0))) : Int32)) ZF) (kc_Mo_thrown hC) rfl (mx_Is.code (args := #[]) (kc_Mo_thrown hC)) (kn_Mo hC) hb hC (gl_leftP hP).1 (gl_leftD hD) hS (by decide) ⟨by show cs + 1 + 0 ≤ 1087; omega, by show sl + 6 + 0 ≤ 10306; omega⟩ hsize (Nat.le_of_ble_eq_true rfl) d_La_law_1530 ?_
    refine W.eq (g2 := F0 m 1533 ls [.int ((if ¬ ((0 ≤ (xs ((nI i) + 1).toNatClampNeg) ∧ (xs ((nI i) + 1).toNatClampNeg) ≤ 4) ∧ (0 ≤ (xs ((nI i) + 2).toNatClampNeg) ∧ (xs ((nI i) + 2).toNatClampNeg) ≤ 9)) then 1 else (if ¬ (0 ≤ (xs ((nI i) + 3).toNatClampNeg) ∧ (xs ((nI i) + 3).toNatClampNeg) ≤ 365) then 2 else (if (xs ((nI i) + 3).toNatClampNeg) = 0 then 3 else 0))) : Int32)]) rfl ?_
    refine lv_iload hx hb d_La_law_1533 (lv_at hl 1 rfl) ?_
    refine lv_icmp_eq (tgt := 1540) hx hb d_La_law_1535 (by decide) (fun c_1535 => ?_) (fun c_1535 => ?_)
    · refine lv_iload hx hb d_La_law_1540 (lv_at hl 1 rfl) ?_
      refine lv_if_ne (tgt := 1556) hx hb d_La_law_1542 (by decide) (fun c_1542 => ?_) (fun c_1542 => ?_)
      · refine lv_goto (tgt := 1559) hx hb d_La_law_1556 (by decide) ?_
        obtain ⟨hP, hD⟩ := gl_swap hP hD
        exact kk FO XS XF XL (uS ZS 1 ((if ¬ ((0 ≤ (xs ((nI i) + 1).toNatClampNeg) ∧ (xs ((nI i) + 1).toNatClampNeg) ≤ 4) ∧ (0 ≤ (xs ((nI i) + 2).toNatClampNeg) ∧ (xs ((nI i) + 2).toNatClampNeg) ≤ 9)) then 1 else (if ¬ (0 ≤ (xs ((nI i) + 3).toNatClampNeg) ∧ (xs ((nI i) + 3).toNatClampNeg) ≤ 365) then 2 else (if (xs ((nI i) + 3).toNatClampNeg) = 0 then 3 else 0))) : Int32)) ZF _ _ ls hI1 hP hD hS (lv_sub hl [2, 3, 4, 5, 6] rfl)
      · exact absurd c_1542 hk0
    · exact absurd hT.symm c_1535
