/-! CLASS AND REFERENCE, PURE: what they throw, what they answer, what stays true -/
theorem ite2 {a b : Prop} [Decidable a] [Decidable b] {v t t' : Int32} (h : a ↔ b) (ht : ¬ a → t = t') : (if a then v else t) = (if b then v else t') := by
  by_cases ha : a
  · rw [if_pos ha, if_pos (h.mp ha)]
  · rw [if_neg ha, if_neg (fun q => ha (h.mpr q)), ht ha]
theorem ite3 {a b c : Prop} [Decidable a] [Decidable b] [Decidable c] {v t t' : Int32} (h : (a ∨ b) ↔ c) (ht : ¬ a → ¬ b → t = t') : (if a then v else if b then v else t) = (if c then v else t') := by
  by_cases ha : a
  · rw [if_pos ha, if_pos (h.mp (Or.inl ha))]
  · rw [if_neg ha]
    exact ite2 ⟨fun q => h.mp (Or.inr q), fun q => (h.mpr q).elim (fun z => absurd z ha) id⟩ (ht ha)
theorem ite4 {a b c d : Prop} [Decidable a] [Decidable b] [Decidable c] [Decidable d] {v t t' : Int32} (h : (a ∨ b ∨ c) ↔ d) (ht : ¬ a → ¬ b → ¬ c → t = t') : (if a then v else if b then v else if c then v else t) = (if d then v else t') := by
  by_cases ha : a
  · rw [if_pos ha, if_pos (h.mp (Or.inl ha))]
  · rw [if_neg ha]
    exact ite3 ⟨fun q => h.mp (Or.inr q), fun q => (h.mpr q).elim (fun z => absurd z ha) id⟩ (ht ha)
section CD
variable {L : List String} {t : Option String} {v x n lo hi : Int32} {E : String}
theorem cd_if {c : Prop} [Decidable c] (hv : nI (L.idxOf E + 1) = v) : cod L ((if c then some E else none).or t) = if c then v else cod L t := by
  by_cases h : c
  · rw [if_pos h, if_pos h]; exact hv
  · rw [if_neg h, if_neg h]; rfl
theorem cd_if0 {c : Prop} [Decidable c] (hv : nI (L.idxOf E + 1) = v) : cod L (if c then some E else none) = if c then v else 0 := by
  by_cases h : c
  · rw [if_pos h, if_pos h]; exact hv
  · rw [if_neg h, if_neg h]; rfl
theorem cd_ifn {c : Prop} [Decidable c] (hv : nI (L.idxOf E + 1) = v) : cod L (if c then none else some E) = if ¬ c then v else 0 := by
  by_cases h : c
  · rw [if_pos h, if_neg (fun q => q h)]; rfl
  · rw [if_neg h, if_pos h]; exact hv
theorem cd_known (hv : nI (L.idxOf eIA + 1) = v) : cod L ((ck_known x n).or t) = if x < 0 ∨ n ≤ x then v else cod L t := cd_if hv
theorem cd_range (hv : nI (L.idxOf eIO + 1) = v) : cod L ((ck_range x lo hi).or t) = if x < lo ∨ hi < x then v else cod L t := cd_if hv
theorem cd_state (hv : nI (L.idxOf eIS + 1) = v) : cod L ((ck_state x).or t) = if x = 0 then v else cod L t := cd_if hv
theorem cd_known0 (hv : nI (L.idxOf eIA + 1) = v) : cod L (ck_known x n) = if x < 0 ∨ n ≤ x then v else 0 := cd_if0 hv
theorem cd_range0 (hv : nI (L.idxOf eIO + 1) = v) : cod L (ck_range x lo hi) = if x < lo ∨ hi < x then v else 0 := cd_if0 hv
theorem cd_state0 (hv : nI (L.idxOf eIS + 1) = v) : cod L (ck_state x) = if x = 0 then v else 0 := cd_if0 hv
theorem cod_none (h : cod L t = 0) (hL : L.length < 1000) : t = none := by
  cases t with
  | none => rfl
  | some E =>
    have h1 : L.idxOf E ≤ L.length := List.idxOf_le_length
    exact absurd h (nI_ne0 (by omega) (by omega))
end CD
theorem orn {a b : Option String} (h : a.or b = none) : a = none ∧ b = none := by
  cases a with
  | none => exact ⟨rfl, h⟩
  | some x => cases h
theorem ifn {c : Prop} [Decidable c] {E : String} (h : (if c then some E else none) = none) : ¬ c := fun q => by rw [if_pos q] at h; cases h
theorem ifnn {c : Prop} [Decidable c] {E : String} (h : (if c then none else some E) = none) : c := by
  by_cases q : c
  · exact q
  · rw [if_neg q] at h; cases h
theorem i0 : (0 : Int32).toInt = 0 := rfl
theorem rg_iff {x lo hi : Int32} : (x < lo ∨ hi < x) ↔ ¬ (lo ≤ x ∧ x ≤ hi) := by
  rw [i32_lt, i32_lt, i32_le, i32_le]; omega
theorem kn_iff {x n m : Int32} (h : m.toInt + 1 = n.toInt) : (x < 0 ∨ n ≤ x) ↔ ¬ (0 ≤ x ∧ x ≤ m) := by
  rw [i32_lt, i32_le, i32_le, i32_le, i0]; omega
theorem cn_iff {x n : Int32} {N : Nat} (hN : N < 1000) (h : vp_in n (N + 1)) : (x < 0 ∨ n ≤ x) ↔ ¬ (0 ≤ x ∧ x ≤ (n - 1)) := by
  rw [cnt_pred hN h, i32_lt, i32_le, i32_le, i32_lt, i0]; omega
theorem or_not {a b p q : Prop} (h1 : a ↔ ¬ p) (h2 : b ↔ ¬ q) : (a ∨ b) ↔ ¬ (p ∧ q) := by
  rw [h1, h2]; exact ⟨fun h => fun ⟨u, w⟩ => h.elim (fun z => z u) (fun z => z w), fun h => Classical.byContradiction fun z => h ⟨Classical.byContradiction fun y => z (Or.inl y), Classical.byContradiction fun y => z (Or.inr y)⟩⟩
theorem or_iff {a b p q : Prop} (h1 : a ↔ p) (h2 : b ↔ q) : (a ∨ b) ↔ (p ∨ q) := by rw [h1, h2]
theorem full_iff {n lim : Int32} {N : Nat} (hc : vp_in n (N + 1)) (hl : lim.toInt = N) : lim ≤ n ↔ n = lim := by
  have h4 := vp_in_iff.mp hc
  rw [i32_le]
  refine ⟨fun h => Int32.toInt_inj.mp (by omega), fun h => by rw [h]; omega⟩
theorem in_nn {n : Int32} {N : Nat} (h : vp_in n N) : ¬ n < 0 := by
  have h4 := vp_in_iff.mp h
  rw [i32_lt, i0]; omega
theorem in_leT {n : Int32} {N : Nat} (h : vp_in n (N + 1)) : n.toInt ≤ N := by
  have h4 := vp_in_iff.mp h
  omega
theorem sub32 (a b c : Int32) : a - (b + c) = a - b - c := by
  apply Int32.toBitVec_inj.mp
  show a.toBitVec - (b.toBitVec + c.toBitVec) = a.toBitVec - b.toBitVec - c.toBitVec
  rw [BitVec.sub_sub]
theorem nat_x {x : Int32} {N : Nat} (h : vp_in x N) (hN : N < 2 ^ 31) : x = nI x.toNatClampNeg ∧ x.toNatClampNeg < N := by
  obtain ⟨j, hj, rfl⟩ := vp_in_of h hN
  rw [nI_clamp (by omega)]; exact ⟨rfl, hj⟩
theorem suc_x {n : Int32} {N : Nat} (h : vp_in n N) (hN : N < 1000) : vp_in (n + 1) (N + 1) ∧ (n + 1).toNatClampNeg = n.toNatClampNeg + 1 := by
  obtain ⟨j, hj, rfl⟩ := vp_in_of h (by omega)
  rw [nI_1, nI_clamp (by omega), nI_clamp (by omega)]; exact ⟨vp_in_nI (by omega) (by omega), rfl⟩
/-! what stays true -/
def I_or (n : Int32) (pl ce op os : Nat → Int32) : Prop := vp_in n 61 ∧ (∀ j : Nat, vp_in (pl j) 50) ∧ (∀ j : Nat, 0 ≤ ce j ∧ ce j ≤ 100000000) ∧ (∀ j : Nat, j < n.toNatClampNeg → (os j = 0 ↔ ¬ op j = 0))
def I_tf (fb fh gb gh : Nat → Int32) : Prop := ∀ j : Nat, j < 10 → gb j = fb j ∧ gh j = fh j ∧ (∃ q : Nat, q < 1000000 ∧ fb j = nI q) ∧ (∃ q : Nat, q < 1000000 ∧ fh j = nI q)
def I_bi (n : Int32) (ce pa : Nat → Int32) : Prop := vp_in n 61 ∧ (∀ j : Nat, 0 ≤ pa j ∧ pa j ≤ ce j) ∧ (∀ j : Nat, n.toNatClampNeg ≤ j → pa j = 0)
def I_ho (w : Nat → Int32) : Prop := ∀ j : Nat, j < 6 → 0 ≤ w j ∧ w j ≤ 1000
def I_cl (c : Int32) (cf : Nat → Int32) : Prop := vp_in c 6 ∧ ∀ j : Nat, j < 5 → (cf j = 0 ↔ ¬ nI j < c)
def INV (XS : Nat → Int32) (XF ZF : Nat → Nat → Int32) : Prop := I_or (XS 1) (XF 4) (XF 5) (XF 6) (ZF 10) ∧ vp_in (XS 2) 201 ∧ vp_in (XS 5) 10 ∧ I_tf (XF 11) (XF 12) (ZF 18) (ZF 19) ∧ I_bi (XS 8) (XF 13) (XF 14) ∧ I_ho (XF 18) ∧ vp_in (XS 9) 21 ∧ (vp_in (XS 10) 9 ∧ ∀ j : Nat, vp_in (XF 21 j) 10) ∧ I_cl (XS 13) (ZF 5) ∧ (0 ≤ XS 11 ∧ XS 11 ≤ 1000)
theorem cl_iff {c x : Int32} {cf : Nat → Int32} (h : I_cl c cf) (hx : vp_in x 5) : ¬ cf x.toNatClampNeg = 0 ↔ x < c := by
  obtain ⟨e, h5⟩ := nat_x hx (by decide)
  rw [h.2 _ h5, ← e]
  exact Classical.not_not
theorem or_add {n z : Int32} {pl ce op os : Nat → Int32} {q : Int32} (h : I_or n pl ce op os) (hn : vp_in n 60) (hq : vp_in q 50) (hz : 0 ≤ z ∧ z ≤ 100000000) : I_or (n + 1) (upd pl n.toNatClampNeg q) (upd ce n.toNatClampNeg z) (upd op n.toNatClampNeg 1) (upd os n.toNatClampNeg 0) := by
  obtain ⟨h1, h2, h3, h4⟩ := h
  obtain ⟨e1, e2⟩ := suc_x hn (by decide)
  refine ⟨e1, fun j => ?_, fun j => ?_, fun j hj => ?_⟩
  · by_cases e : j = n.toNatClampNeg
    · rw [e, pk_us]; exact hq
    · rw [pk_un e]; exact h2 j
  · by_cases e : j = n.toNatClampNeg
    · rw [e, pk_us]; exact hz
    · rw [pk_un e]; exact h3 j
  · by_cases e : j = n.toNatClampNeg
    · rw [e, pk_us, pk_us]; exact ⟨fun _ => by decide, fun _ => rfl⟩
    · rw [pk_un e, pk_un e]; exact h4 j (by omega)
theorem or_shut {n x k : Int32} {pl ce op os : Nat → Int32} (h : I_or n pl ce op os) (hk : ¬ k = 0) : I_or n pl ce (upd op x.toNatClampNeg 0) (upd os x.toNatClampNeg k) := by
  obtain ⟨h1, h2, h3, h4⟩ := h
  refine ⟨h1, h2, h3, fun j hj => ?_⟩
  by_cases e : j = x.toNatClampNeg
  · rw [e, pk_us, pk_us]; exact ⟨fun q => absurd q hk, fun q => absurd rfl q⟩
  · rw [pk_un e, pk_un e]; exact h4 j hj
theorem known_lt {x n : Int32} {N : Nat} (hN : N < 1000) (hc : vp_in n (N + 1)) (h : ¬ (x < 0 ∨ n ≤ x)) : x.toNatClampNeg < n.toNatClampNeg ∧ vp_in x N := by
  have h1 : ¬ x < 0 := fun q => h (Or.inl q)
  have h2 : ¬ n ≤ x := fun q => h (Or.inr q)
  have h3 := in_below (N := N) h1 h2 (in_leT hc)
  obtain ⟨e1, e2⟩ := nat_x h3 (by omega)
  obtain ⟨e3, e4⟩ := nat_x hc (by omega)
  rw [e1, e3, nI_leI (by omega) (by omega)] at h2
  exact ⟨by omega, h3⟩
/-- money: the sum is below what is asked -/
theorem i64_lt {x y : Int64} : x < y ↔ x.toInt < y.toInt := Int64.lt_iff_toInt_lt
theorem i64_le {x y : Int64} : x ≤ y ↔ x.toInt ≤ y.toInt := Int64.le_iff_toInt_le
theorem left_pos {c q : Int32} (h1 : 0 ≤ q) (h2 : q ≤ c) : 0 < c - q ↔ q < c := by
  rw [i32_le] at h1 h2
  rw [i32_lt, i32_lt, i0, Int32.toInt_sub]
  rw [i0] at h1
  have h3 := Int32.toInt_lt c
  rw [Int.bmod_eq_of_le (by omega) (by omega)]
  omega
