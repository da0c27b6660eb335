/-! PURE WORDS of the class: its checks, its places -/
def ck_known (x n : Int32) : Option String := if x < 0 ∨ n ≤ x then some eIA else none
def ck_range (x lo hi : Int32) : Option String := if x < lo ∨ hi < x then some eIO else none
def ck_state (b : Int32) : Option String := if b = 0 then some eIS else none
def ck_room (b : Int32) : Option String := if b = 0 then some eUO else none
theorem ck_known_not {x n : Int32} (h : ck_known x n = none) : ¬ x < 0 ∧ ¬ n ≤ x := by
  unfold ck_known at h
  split at h
  · cases h
  · rename_i h1; exact ⟨fun h2 => h1 (Or.inl h2), fun h2 => h1 (Or.inr h2)⟩
theorem ck_range_not {x lo hi : Int32} (h : ck_range x lo hi = none) : ¬ x < lo ∧ ¬ hi < x := by
  unfold ck_range at h
  split at h
  · cases h
  · rename_i h1; exact ⟨fun h2 => h1 (Or.inl h2), fun h2 => h1 (Or.inr h2)⟩
theorem i32_lt {x y : Int32} : x < y ↔ x.toInt < y.toInt := Int32.lt_iff_toInt_lt
theorem i32_le {x y : Int32} : x ≤ y ↔ x.toInt ≤ y.toInt := Int32.le_iff_toInt_le
theorem ck_known_in {x n : Int32} (N : Nat) (h : ck_known x n = none) (hn : n.toInt ≤ N) : vp_in x N := by
  obtain ⟨h1, h2⟩ := ck_known_not h
  rw [i32_lt] at h1
  rw [i32_le] at h2
  have h3 : (0 : Int32).toInt = 0 := rfl
  exact vp_in_iff.mpr ⟨by omega, by omega⟩
theorem in_slot {y k : Int32} (h1 : vp_in y 5) (h2 : vp_in k 10) : vp_in ((y * 10) + k) 50 := by
  obtain ⟨a, ha, rfl⟩ := vp_in_of h1 (by decide)
  obtain ⟨b, hb, rfl⟩ := vp_in_of h2 (by decide)
  have e : (nI a * 10) + nI b = nI (a * 10 + b) := by
    have h10 : (10 : Int32) = nI 10 := by decide +kernel
    rw [h10, pk_mul, nI_add]
  rw [e]
  exact vp_in_nI (by omega) (by decide)
theorem in_cell {y k : Int32} (h1 : vp_in y 10) (h2 : vp_in k 5) : vp_in ((y * 5) + k) 50 := by
  obtain ⟨a, ha, rfl⟩ := vp_in_of h1 (by decide)
  obtain ⟨b, hb, rfl⟩ := vp_in_of h2 (by decide)
  have e : (nI a * 5) + nI b = nI (a * 5 + b) := by
    have h10 : (5 : Int32) = nI 5 := by decide +kernel
    rw [h10, pk_mul, nI_add]
  rw [e]
  exact vp_in_nI (by omega) (by decide)
theorem le_lit {i N : Nat} {x : Int32} (hx : x = nI N) (h : i < N) (hN : N < 2 ^ 31) : ¬ x ≤ nI i := by rw [hx]; exact nI_ge h hN
theorem in_four {x : Int32} (h : vp_in x 4) : x = 0 ∨ x = 1 ∨ x = 2 ∨ x = 3 := by
  obtain ⟨j, hj, rfl⟩ := vp_in_of h (by decide)
  rcases (show j = 0 ∨ j = 1 ∨ j = 2 ∨ j = 3 by omega) with rfl | rfl | rfl | rfl <;> decide
theorem in_below {x n : Int32} {N : Nat} (h0 : ¬ x < 0) (h : ¬ n ≤ x) (hn : n.toInt ≤ N) : vp_in x N := by
  rw [i32_lt] at h0
  rw [i32_le] at h
  have h3 : (0 : Int32).toInt = 0 := rfl
  exact vp_in_iff.mpr ⟨by omega, by omega⟩
theorem nar_bool {y : Int32} (h : y = 0 ∨ y = 1) : vp_nar .boolean y = y := by
  rcases h with rfl | rfl <;> rfl
theorem ne_long {z : Int32} (h : ¬ z = 0) : ¬ z.toInt64 = 0 := fun e => h (by
  have h1 : z.toInt64.toInt = 0 := by rw [e]; rfl
  rw [Int32.toInt_toInt64] at h1
  exact Int32.toInt_inj.mp h1)
/-! what each method throws, in the order of its checks -/
def th_budget (x y z cl b : Int32) : Option String := (ck_known x 5).or ((ck_known y 10).or ((ck_range z 0 100000000).or (if x < cl ∨ z < b then some eIS else none)))
def th_k3 (x a y b z c : Int32) : Option String := (ck_known x a).or ((ck_known y b).or (ck_known z c))
def th_k2 (x a y b : Int32) : Option String := (ck_known x a).or (ck_known y b)
def at_budget (t h s z : Int32) : Int32 := if z = 0 then t else if z = 1 then h else if z = 2 then s else t - (h + s)
def th_order (x y z cl fr n : Int32) : Option String := (ck_known x 5).or ((ck_known y 10).or ((ck_range z 0 100000000).or ((if x < cl ∨ fr < z then some eIS else none).or (if 60 ≤ n then some eUO else none))))
def th_invoice (x y n op mo : Int32) (bd : Int64) (fr : Int32) : Option String := (ck_known x n).or ((ck_range y 0 100000000).or ((ck_state op).or ((if bd < (if 0 ≤ mo then mo else 0 - mo).toInt64 then some eIS else none).or (if fr < mo then some eIS else none))))
def th_bill (x y z v b h n : Int32) (co : Int64) : Option String := (ck_known x 10).or ((ck_range y 0 100000).or ((ck_range z 0 100000000).or ((ck_range v 0 9999).or ((if b = 0 ∧ h = 0 then some eIS else none).or (if 60 ≤ n ∨ 1000000000 < co then some eUO else none)))))
def th_pay (x y n lf : Int32) : Option String := (ck_known x n).or ((ck_range y 1 100000000).or (if lf < y then some eIS else none))
def th_dispute (x y n di lf : Int32) : Option String := (ck_known x n).or ((if di = y then some eIS else none).or (if ¬ y = 0 ∧ ¬ 0 < lf then some eIS else none))
def at_bill (c p d r y : Int32) : Int32 := if y = 0 then c else if y = 1 then p else if y = 2 then (if d = 0 then 0 else 1) else r
def th_grant (x y n : Int32) : Option String := (ck_known x 10).or ((ck_range y 0 100000000).or (if 20 ≤ n then some eUO else none))
def th_use (x y z n pu lf : Int32) : Option String := (ck_known x n).or ((ck_known y 10).or ((ck_range z 0 100000000).or (if ¬ pu = y ∨ lf < z then some eIS else none)))
def th_row (x y n : Int32) : Option String := (ck_known x 10).or ((ck_range y (-100000000) 100000000).or (if 8 ≤ n then some eUO else none))
def th_forecast (x y z : Int32) : Option String := (ck_known x 5).or ((ck_known y 10).or ((ck_range z 0 365).or (if z = 0 then some eAR else none)))
/-! shares -/
def hp_rp (f : Nat → Int32) (y z : Int32) (j : Nat) : Int32 := ((y.toInt64 * (f j).toInt64) / z.toInt64).toInt32
def hp_rem (f : Nat → Int32) (y z : Int32) (j : Nat) : Int64 := (y.toInt64 * (f j).toInt64) - (y.toInt64 * (f j).toInt64) / z.toInt64 * z.toInt64
abbrev hp_before (f : Nat → Int32) (y z a b : Int32) : Prop := hp_rem f y z b.toNatClampNeg < hp_rem f y z a.toNatClampNeg ∨ (hp_rem f y z a.toNatClampNeg = hp_rem f y z b.toNatClampNeg ∧ a < b)
def hp_cnt (f : Nat → Int32) (y z x : Int32) : Nat → Int32
  | 0 => 0
  | i + 1 => if hp_before f y z (nI i) x then hp_cnt f y z x i + 1 else hp_cnt f y z x i
def hp_left (f : Nat → Int32) (y z : Int32) : Nat → Int32
  | 0 => y
  | i + 1 => hp_left f y z i - hp_rp f y z i
def hp_part (f : Nat → Int32) (y z x : Int32) : Int32 := if hp_cnt f y z x 6 < hp_left f y z 6 then hp_rp f y z x.toNatClampNeg + 1 else hp_rp f y z x.toNatClampNeg
/-! batches, reminders -/
def bk_all (ac ce : Nat → Int32) (y : Int32) (f : Nat → Int64) : Nat → (Nat → Int64)
  | 0 => f
  | i + 1 => vp_updL (bk_all ac ce y f i) ((ac i * 5) + y).toNatClampNeg (bk_all ac ce y f i ((ac i * 5) + y).toNatClampNeg + (ce i).toInt64)
abbrev rm_due (c p d s : Nat → Int32) (x : Int32) (i : Nat) : Prop := 0 < c i - p i ∧ s i = 0 ∧ d i < x
def rm_all (c p d s : Nat → Int32) (x : Int32) (f : Nat → Int32) : Nat → (Nat → Int32)
  | 0 => f
  | i + 1 => if rm_due c p d s x i then upd (rm_all c p d s x f i) i (rm_all c p d s x f i i + 1) else rm_all c p d s x f i
def rm_cnt (c p d s : Nat → Int32) (x : Int32) : Nat → Int32
  | 0 => 0
  | i + 1 => if rm_due c p d s x i then rm_cnt c p d s x i + 1 else rm_cnt c p d s x i
