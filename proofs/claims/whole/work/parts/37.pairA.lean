/-! more pure rows for the pairs -/
theorem kn_in {x n : Int32} {N : Nat} (h : ¬ (x < 0 ∨ n ≤ x)) (hn : n.toInt ≤ N) : vp_in x N := in_below (fun q => h (Or.inl q)) (fun q => h (Or.inr q)) hn
theorem rng {x lo hi : Int32} (h : ck_range x lo hi = none) : lo ≤ x ∧ x ≤ hi := ⟨Int32.not_lt.mp (ck_range_not h).1, Int32.not_lt.mp (ck_range_not h).2⟩
theorem inv_mk {XS : Nat → Int32} {XF ZF : Nat → Nat → Int32} (h1 : I_or (XS 1) (XF 4) (XF 5) (XF 6) (ZF 10)) (h2 : vp_in (XS 2) 201) (h3 : vp_in (XS 5) 10) (h4 : I_tf (XF 11) (XF 12) (ZF 18) (ZF 19)) (h5 : I_bi (XS 8) (XF 13) (XF 14)) (h6 : I_ho (XF 18)) (h7 : vp_in (XS 9) 21) (h8 : vp_in (XS 10) 9 ∧ ∀ j : Nat, vp_in (XF 21 j) 10) (h9 : I_cl (XS 13) (ZF 5)) (h10 : 0 ≤ XS 11 ∧ XS 11 ≤ 1000) : INV XS XF ZF := ⟨h1, h2, h3, h4, h5, h6, h7, h8, h9, h10⟩
theorem abs_iff {mo : Int32} {bd : Int64} (hb : 0 ≤ bd.toInt) (h1 : -1000000000 ≤ mo.toInt) : bd < (if 0 ≤ mo then mo else 0 - mo).toInt64 ↔ (bd < mo.toInt64 ∨ bd < (-mo).toInt64) := by
  have h3 := Int32.toInt_lt mo
  have e1 : (-mo).toInt = -mo.toInt := by rw [Int32.toInt_neg, Int.bmod_eq_of_le (by omega) (by omega)]
  by_cases h : 0 ≤ mo
  · rw [if_pos h, i64_lt, i64_lt, Int32.toInt_toInt64, Int32.toInt_toInt64, e1]
    rw [i32_le, i0] at h
    omega
  · rw [if_neg h, Int32.zero_sub, i64_lt, i64_lt, Int32.toInt_toInt64, Int32.toInt_toInt64, e1]
    rw [i32_le, i0] at h
    omega
theorem bd_nn {c b : Int32} (hc : 0 ≤ c ∧ c ≤ 100000000) (hb : 0 ≤ b ∧ b ≤ 1000) : 0 ≤ ((c.toInt64 * b.toInt64) / 1000).toInt := by
  obtain ⟨c1, c2⟩ := hc
  obtain ⟨b1, b2⟩ := hb
  rw [i32_le] at c1 c2 b1 b2
  have k1 : (100000000 : Int32).toInt = 100000000 := by decide
  have k2 : (1000 : Int32).toInt = 1000 := by decide
  rw [i0] at c1 b1
  have m0 : 0 ≤ c.toInt * b.toInt := Int.mul_nonneg c1 b1
  have m1 : c.toInt * b.toInt ≤ 100000000 * 1000 := Int.mul_le_mul (by omega) (by omega) b1 (by decide)
  rw [Int64.toInt_div_of_ne_right _ _ (by decide), Int64.toInt_mul, Int32.toInt_toInt64, Int32.toInt_toInt64, Int.bmod_eq_of_le (by omega) (by omega)]
  exact Int.tdiv_nonneg m0 (by decide)
theorem mo_lo {y c : Int32} (hy : 0 ≤ y ∧ y ≤ 100000000) (hc : 0 ≤ c ∧ c ≤ 100000000) : -1000000000 ≤ (y - c).toInt := by
  obtain ⟨c1, c2⟩ := hc
  obtain ⟨b1, b2⟩ := hy
  rw [i32_le] at c1 c2 b1 b2
  have k1 : (100000000 : Int32).toInt = 100000000 := by decide
  rw [i0] at c1 b1
  rw [Int32.toInt_sub, Int.bmod_eq_of_le (by omega) (by omega)]
  omega
theorem in_200 {n x : Int32} (h1 : vp_in n 201) (h2 : vp_in x 9) (h : ¬ 200 < n + x) : vp_in (n + x) 201 := by
  have h3 := sum_200 h1 h2 h
  obtain ⟨e1, -⟩ := nat_x h1 (by decide)
  obtain ⟨e2, -⟩ := nat_x h2 (by decide)
  rw [e1, e2, nI_add]
  exact vp_in_nI (by omega) (by decide)
theorem e59 (y : Int32) : (y + 60) - 1 = y + 59 := by
  apply Int32.toBitVec_inj.mp
  show y.toBitVec + 60#32 - 1#32 = y.toBitVec + 59#32
  rw [BitVec.sub_eq_add_neg, BitVec.add_assoc]
  rfl
theorem rg_nI {x hi : Int32} {N : Nat} (h : 0 ≤ x ∧ x ≤ hi) (hn : hi.toInt = N) (hN : N < 2 ^ 30 := by decide) : ∃ k : Nat, k ≤ N ∧ x = nI k := by
  have h1 : vp_in x (N + 1) := in_rng h (by omega)
  obtain ⟨e1, e2⟩ := nat_x h1 (by omega)
  exact ⟨_, by omega, e1⟩
/-- what a bill costs, as a number -/
theorem cost_n {b h y z : Int32} (hb : ∃ q : Nat, q < 1000000 ∧ b = nI q) (hh : ∃ q : Nat, q < 1000000 ∧ h = nI q) (hy : 0 ≤ y ∧ y ≤ 100000) (hz : 0 ≤ z ∧ z ≤ 100000000) : ∃ k : Nat, k < 2 ^ 31 ∧ ((b.toInt64 + (h.toInt64 * ((y + 59) / 60).toInt64)) + z.toInt64) = lN k := by
  obtain ⟨b, hb, rfl⟩ := hb
  obtain ⟨h, hh, rfl⟩ := hh
  obtain ⟨y, hy, rfl⟩ := rg_nI (N := 100000) hy (by decide)
  obtain ⟨z, hz, rfl⟩ := rg_nI (N := 100000000) hz (by decide)
  have e1 : (nI y + 59) / 60 = nI ((y + 59) / 60) := by
    rw [show (59 : Int32) = nI 59 by decide +kernel, show (60 : Int32) = nI 60 by decide +kernel, nI_add, pk_div (by omega) (by decide) (by decide)]
  have h1 : (y + 59) / 60 ≤ 1667 := by omega
  have h2 : h * ((y + 59) / 60) ≤ 1000000 * 1667 := Nat.mul_le_mul (by omega) h1
  refine ⟨b + h * ((y + 59) / 60) + z, by omega, ?_⟩
  rw [e1, nI_l (by omega), nI_l (by omega), nI_l (by omega), nI_l (by omega), lN_mul, lN_add, lN_add]
theorem bi_add {n v : Int32} {ce pa : Nat → Int32} (h : I_bi n ce pa) (hn : vp_in n 60) (hv : 0 ≤ v) : I_bi (n + 1) (upd ce n.toNatClampNeg v) pa := by
  obtain ⟨h1, h2, h3⟩ := h
  obtain ⟨e1, e2⟩ := suc_x hn (by decide)
  refine ⟨e1, fun j => ?_, fun j hj => h3 j (by omega)⟩
  by_cases e : j = n.toNatClampNeg
  · rw [e, pk_us, h3 _ (Nat.le_refl _)]; exact ⟨by decide, hv⟩
  · rw [pk_un e]; exact h2 j
theorem bi_pay {n x y : Int32} {ce pa : Nat → Int32} (h : I_bi n ce pa) (hx : x.toNatClampNeg < n.toNatClampNeg) (hy : 1 ≤ y ∧ y ≤ 100000000) (hl : ¬ ce x.toNatClampNeg - pa x.toNatClampNeg < y) : I_bi n ce (upd pa x.toNatClampNeg (pa x.toNatClampNeg + y)) := by
  obtain ⟨h1, h2, h3⟩ := h
  refine ⟨h1, fun j => ?_, fun j hj => ?_⟩
  · by_cases e : j = x.toNatClampNeg
    · rw [e, pk_us]
      obtain ⟨a1, a2⟩ := h2 x.toNatClampNeg
      obtain ⟨y1, y2⟩ := hy
      rw [i32_le] at a1 a2 y1 y2
      rw [i0] at a1
      have k1 : (100000000 : Int32).toInt = 100000000 := by decide
      have k2 : (1 : Int32).toInt = 1 := by decide
      have k3 := Int32.toInt_lt (ce x.toNatClampNeg)
      rw [i32_lt, Int32.toInt_sub, Int.bmod_eq_of_le (by omega) (by omega)] at hl
      rw [i32_le, i32_le, i0, Int32.toInt_add, Int.bmod_eq_of_le (by omega) (by omega)]
      omega
    · rw [pk_un e]; exact h2 j
  · rw [pk_un (show j ≠ x.toNatClampNeg by omega)]; exact h3 j hj
theorem rm_eqA {c q d s f : Nat → Int32} {x : Int32} (h : ∀ j : Nat, 0 < c j - q j ↔ q j < c j) : ∀ n, rm_all c q d s x f n = rmM_all c q d s x f n
  | 0 => rfl
  | n + 1 => by
    rw [rm_all, rmM_all, rm_eqA h n]
    by_cases e : rm_due c q d s x n
    · rw [if_pos e, if_pos (show rmM_due c q d s x n from ⟨(h n).mp e.1, e.2⟩)]
    · rw [if_neg e, if_neg (show ¬ rmM_due c q d s x n from fun z => e ⟨(h n).mpr z.1, z.2⟩)]
theorem rm_eqC {c q d s : Nat → Int32} {x : Int32} (h : ∀ j : Nat, 0 < c j - q j ↔ q j < c j) : ∀ n, rm_cnt c q d s x n = rmM_cnt c q d s x n
  | 0 => rfl
  | n + 1 => by
    rw [rm_cnt, rmM_cnt, rm_eqC h n]
    by_cases e : rm_due c q d s x n
    · rw [if_pos e, if_pos (show rmM_due c q d s x n from ⟨(h n).mp e.1, e.2⟩)]
    · rw [if_neg e, if_neg (show ¬ rmM_due c q d s x n from fun z => e ⟨(h n).mpr z.1, z.2⟩)]
theorem ho_upd {w : Nat → Int32} {k : Nat} {y : Int32} (h : I_ho w) (hy : 0 ≤ y ∧ y ≤ 1000) : I_ho (upd w k y) := fun j hj => by
  by_cases e : j = k
  · rw [e, pk_us]; exact hy
  · rw [pk_un e]; exact h j hj
theorem ho_sum {w : Nat → Int32} (h : I_ho w) : ∀ n, n ≤ 6 → ∃ k : Nat, k ≤ 1000 * n ∧ bx_sum w n = nI k
  | 0, _ => ⟨0, by omega, rfl⟩
  | n + 1, hn => by
    obtain ⟨k, hk, e⟩ := ho_sum h n (by omega)
    obtain ⟨q, hq, e2⟩ := rg_nI (N := 1000) (h n (by omega)) (by decide)
    exact ⟨k + q, by omega, by rw [bx_sum, e, e2, nI_add]⟩
theorem sum_iff {w : Nat → Int32} (h : I_ho w) : (¬ 0 < bx_sum w 6) ↔ bx_sum w 6 = 0 := by
  obtain ⟨k, hk, e⟩ := ho_sum h 6 (by omega)
  rw [e, show (0 : Int32) = nI 0 by decide +kernel, nI_ltI (by omega) (by omega), nI_eq (by omega) (by omega)]
  omega
theorem po_5 {x c : Int32} (hx : vp_in x 5) (hc : vp_in c 6) (s : Prop) : ¬ (po_to x c < 5 ∧ s) ↔ (¬ s ∨ po_to x c = 5) := by
  obtain ⟨a, ha, rfl⟩ := vp_in_of hx (by decide)
  obtain ⟨b, hb, rfl⟩ := vp_in_of hc (by decide)
  have hm : max a b ≤ 5 := Nat.max_le.mpr ⟨by omega, by omega⟩
  rw [po_nI (by omega) (by omega), show (5 : Int32) = nI 5 by decide +kernel, nI_ltI (by omega) (by omega), nI_eq (by omega) (by omega)]
  constructor
  · intro h
    by_cases hs : s
    · exact Or.inr (by have : ¬ max a b < 5 := fun q => h ⟨q, hs⟩; omega)
    · exact Or.inl hs
  · rintro (h | h) ⟨q1, q2⟩
    · exact h q2
    · omega
theorem rw_eq (x n : Int32) : (if ck_known x 5 = none then 0 else n) = rw0 x n := by
  unfold rw0 ck_known
  by_cases h : x < 0 ∨ 5 ≤ x
  · rw [if_pos h, if_neg (show ¬ (some eIA = none) from nofun), if_neg ((kn_iff (by decide)).mp h)]
  · rw [if_neg h, if_pos rfl, if_pos (Classical.byContradiction fun q => h ((kn_iff (by decide)).mpr q))]
theorem cl_add {c x : Int32} {cf : Nat → Int32} (h : I_cl c cf) (hx : vp_in x 5) (e : x = c) : I_cl (c + 1) (upd cf x.toNatClampNeg 1) := by
  subst e
  obtain ⟨e1, e2⟩ := suc_x hx (by decide)
  obtain ⟨e3, e4⟩ := nat_x hx (by decide)
  refine ⟨e1, fun j hj => ?_⟩
  have hr : (nI j < x + 1) ↔ j < x.toNatClampNeg + 1 := by
    rw [e3, nI_1, nI_ltI (by omega) (by omega), nI_clamp (by omega)]
  by_cases q : j = x.toNatClampNeg
  · rw [q, pk_us, ← q, hr, q]; exact ⟨fun z => absurd z (by decide), fun z => absurd (by omega) z⟩
  · rw [pk_un q, h.2 j hj, hr]
    have hr2 : (nI j < x) ↔ j < x.toNatClampNeg := by
      rw [e3, nI_ltI (by omega) (by omega), nI_clamp (by omega)]
    rw [hr2]; omega
theorem cl_ne {c x : Int32} {cf : Nat → Int32} (h : I_cl c cf) (hx : vp_in x 5) : (¬ x = c) ↔ (¬ cf x.toNatClampNeg = 0 ∨ ∃ j : Nat, j < x.toNatClampNeg ∧ cf j = 0) := by
  obtain ⟨e3, e4⟩ := nat_x hx (by decide)
  obtain ⟨e5, e6⟩ := nat_x h.1 (by decide)
  have hE : (∃ j : Nat, j < x.toNatClampNeg ∧ cf j = 0) ↔ c.toNatClampNeg < x.toNatClampNeg := by
    have hj : ∀ j : Nat, j < 5 → (cf j = 0 ↔ ¬ j < c.toNatClampNeg) := fun j hj => by
      rw [h.2 j hj, e5, nI_ltI (by omega) (by omega), nI_clamp (by omega)]
    constructor
    · rintro ⟨j, h1, h2⟩
      have := (hj j (by omega)).mp h2
      omega
    · intro h1
      exact ⟨c.toNatClampNeg, h1, (hj _ (by omega)).mpr (by omega)⟩
  have h1 : x < c ↔ x.toNatClampNeg < c.toNatClampNeg := by
    rw [e3, e5, nI_ltI (by omega) (by omega), nI_clamp (by omega), nI_clamp (by omega)]
  have h2 : x = c ↔ x.toNatClampNeg = c.toNatClampNeg := ⟨fun q => by rw [q], fun q => by rw [e3, e5, q]⟩
  rw [cl_iff h hx, hE, h1, h2]
  omega
