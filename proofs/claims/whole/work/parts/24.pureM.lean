/-! PURE WORDS of the reference -/
def th4 (a b c d : Int32) : Int32 := if a = 0 then (if b = 0 then (if c = 0 then (if d = 0 then 0 else 4) else 3) else 2) else 1
theorem in_rng {x hi : Int32} {N : Nat} (h : 0 ≤ x ∧ x ≤ hi) (hn : hi.toInt < N) : vp_in x N := by
  obtain ⟨h1, h2⟩ := h
  rw [i32_le] at h1 h2
  have h3 : (0 : Int32).toInt = 0 := rfl
  exact vp_in_iff.mpr ⟨by omega, by omega⟩
theorem in_slotM {y k : Int32} (h1 : vp_in y 5) (h2 : vp_in k 10) : vp_in ((10 * y) + k) 50 := by
  rw [Int32.mul_comm]; exact in_slot h1 h2
theorem in_cellM {y k : Int32} (h1 : vp_in y 10) (h2 : vp_in k 5) : vp_in ((5 * y) + k) 50 := by
  rw [Int32.mul_comm]; exact in_cell h1 h2
theorem cnt_pred {n : Int32} {N : Nat} (hN : N < 1000) (hc : vp_in n (N + 1)) (x : Int32) : x ≤ n - 1 ↔ x < n := by
  obtain ⟨k, hk, rfl⟩ := vp_in_of hc (by omega)
  rw [i32_le, i32_lt, nI_toInt (by omega)]
  cases k with
  | zero =>
    have h1 : (nI 0 - 1 : Int32).toInt = -1 := by decide +kernel
    rw [h1]; omega
  | succ k =>
    have h2 : (nI (k + 1) - 1 : Int32) = nI k := nI_pred k
    rw [h2, nI_toInt (by omega)]; omega
theorem in_cnt {x n : Int32} {N : Nat} (hN : N < 1000) (h : 0 ≤ x ∧ x ≤ n - 1) (hc : vp_in n (N + 1)) : vp_in x N := by
  obtain ⟨h1, h2⟩ := h
  rw [cnt_pred hN hc] at h2
  rw [i32_le] at h1
  rw [i32_lt] at h2
  have h3 : (0 : Int32).toInt = 0 := rfl
  have h4 := (vp_in_iff.mp hc).2
  exact vp_in_iff.mpr ⟨by omega, by omega⟩
theorem in_less {n lim : Int32} {N : Nat} (hc : vp_in n (N + 1)) (hl : lim.toInt = N) (h : ¬ n = lim) : vp_in n N := by
  have h4 := vp_in_iff.mp hc
  refine vp_in_iff.mpr ⟨h4.1, ?_⟩
  rcases Int.lt_or_eq_of_le (show n.toInt ≤ N by omega) with h5 | h5
  · exact h5
  · exact absurd (Int32.toInt_inj.mp (h5.trans hl.symm)) h
theorem t4_0000 : th4 0 0 0 0 = 0 := by decide
theorem z4_0000 : (if 0 < th4 0 0 0 0 then (1 : Int32) else 0) = 0 := by decide
theorem t4_0001 : th4 0 0 0 1 = 4 := by decide
theorem z4_0001 : (if 0 < th4 0 0 0 1 then (1 : Int32) else 0) = 1 := by decide
theorem t4_0010 : th4 0 0 1 0 = 3 := by decide
theorem z4_0010 : (if 0 < th4 0 0 1 0 then (1 : Int32) else 0) = 1 := by decide
theorem t4_0011 : th4 0 0 1 1 = 3 := by decide
theorem z4_0011 : (if 0 < th4 0 0 1 1 then (1 : Int32) else 0) = 1 := by decide
theorem t4_0100 : th4 0 1 0 0 = 2 := by decide
theorem z4_0100 : (if 0 < th4 0 1 0 0 then (1 : Int32) else 0) = 1 := by decide
theorem t4_0101 : th4 0 1 0 1 = 2 := by decide
theorem z4_0101 : (if 0 < th4 0 1 0 1 then (1 : Int32) else 0) = 1 := by decide
theorem t4_0110 : th4 0 1 1 0 = 2 := by decide
theorem z4_0110 : (if 0 < th4 0 1 1 0 then (1 : Int32) else 0) = 1 := by decide
theorem t4_0111 : th4 0 1 1 1 = 2 := by decide
theorem z4_0111 : (if 0 < th4 0 1 1 1 then (1 : Int32) else 0) = 1 := by decide
theorem t4_1000 : th4 1 0 0 0 = 1 := by decide
theorem z4_1000 : (if 0 < th4 1 0 0 0 then (1 : Int32) else 0) = 1 := by decide
theorem t4_1001 : th4 1 0 0 1 = 1 := by decide
theorem z4_1001 : (if 0 < th4 1 0 0 1 then (1 : Int32) else 0) = 1 := by decide
theorem t4_1010 : th4 1 0 1 0 = 1 := by decide
theorem z4_1010 : (if 0 < th4 1 0 1 0 then (1 : Int32) else 0) = 1 := by decide
theorem t4_1011 : th4 1 0 1 1 = 1 := by decide
theorem z4_1011 : (if 0 < th4 1 0 1 1 then (1 : Int32) else 0) = 1 := by decide
theorem t4_1100 : th4 1 1 0 0 = 1 := by decide
theorem z4_1100 : (if 0 < th4 1 1 0 0 then (1 : Int32) else 0) = 1 := by decide
theorem t4_1101 : th4 1 1 0 1 = 1 := by decide
theorem z4_1101 : (if 0 < th4 1 1 0 1 then (1 : Int32) else 0) = 1 := by decide
theorem t4_1110 : th4 1 1 1 0 = 1 := by decide
theorem z4_1110 : (if 0 < th4 1 1 1 0 then (1 : Int32) else 0) = 1 := by decide
theorem t4_1111 : th4 1 1 1 1 = 1 := by decide
theorem z4_1111 : (if 0 < th4 1 1 1 1 then (1 : Int32) else 0) = 1 := by decide
