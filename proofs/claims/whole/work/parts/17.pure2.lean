/-! the tape's bytes, the reader's rows -/
def by_ (p : Int64) (i : Nat) : Int32 := ((p.toUInt64 >>> ((8 * (nI i)).toInt64.toUInt64 &&& Int64.toUInt64 63)).toInt64).toInt32 &&& 255
def wr_all (p : Int64) : Nat → Nat → (Nat → Int32) → (Nat → Int32)
  | 0, _, f => f
  | i + 1, len, f => wr_all p i (len + 1) (upd f len (by_ p i))
def th_sign (x n : Int32) : Option String := (ck_range x 1 8).or (if 200 < n + x then some eUO else none)
theorem in_r9 {x : Int32} (h : ck_range x 1 8 = none) : vp_in x 9 := by
  obtain ⟨h1, h2⟩ := ck_range_not h
  rw [i32_lt] at h1 h2
  have h3 : (1 : Int32).toInt = 1 := rfl
  have h4 : (8 : Int32).toInt = 8 := rfl
  exact vp_in_iff.mpr ⟨by omega, by omega⟩
theorem sum_200 {n x : Int32} (h1 : vp_in n 201) (h2 : vp_in x 9) (h : ¬ 200 < n + x) : n.toNatClampNeg + x.toNatClampNeg ≤ 200 := by
  obtain ⟨a, ha, rfl⟩ := vp_in_of h1 (by decide)
  obtain ⟨b, hb, rfl⟩ := vp_in_of h2 (by decide)
  rw [nI_add, i32_lt, nI_toInt (by omega)] at h
  have h4 : (200 : Int32).toInt = 200 := rfl
  rw [nI_clamp (by omega), nI_clamp (by omega)]
  omega
def zf (f : Nat → Int32) (n : Nat) : Nat → Int32 := fun j => if j < n then 0 else f j
theorem zf_0 (f : Nat → Int32) : zf f 0 = f := by funext j; simp [zf]
theorem zf_s (f : Nat → Int32) (n : Nat) : upd (zf f n) n 0 = zf f (n + 1) := by
  funext j
  by_cases h : j = n
  · subst h; rw [pk_us]; simp [zf]
  · rw [pk_un h]
    simp only [zf]
    by_cases h2 : j < n
    · rw [if_pos h2, if_pos (by omega)]
    · rw [if_neg h2, if_neg (by omega)]
theorem in_dig {x : Int32} (h : 48 ≤ x ∧ x ≤ 57) : vp_in (x - 48) 10 := by
  obtain ⟨h1, h2⟩ := h
  rw [i32_le] at h1 h2
  have h3 : (48 : Int32).toInt = 48 := rfl
  have h4 : (57 : Int32).toInt = 57 := rfl
  obtain ⟨j, hj, e⟩ : ∃ j : Nat, j < 58 ∧ x = nI j := vp_in_of (vp_in_iff.mpr ⟨by omega, by omega⟩) (by decide)
  subst e
  rw [nI_toInt (by omega)] at h1 h2
  have e48 : (48 : Int32) = nI 48 := by decide +kernel
  rw [e48, pk_sub (by omega)]
  exact vp_in_nI (by omega) (by decide)
theorem nI_dec (n : Nat) : nI n + (-1) = nI n - 1 := (Int32.sub_eq_add_neg _ _).symm
