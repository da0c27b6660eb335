/-! the reader, byte by byte: base, hour, told, rows, part, kind, number, digits -/
abbrev RS : Type := (Nat → Int32) × (Nat → Int32) × (Nat → Int32) × Int32 × Int32 × Int32 × Int32 × Int32
abbrev dg (x : Int32) : Prop := 48 ≤ x ∧ x ≤ 57
abbrev tkP (to : Nat → Int32) (x : Int32) : Prop := (48 ≤ x ∧ x ≤ 57) ∧ to (x - 48).toNatClampNeg = 0
abbrev tdP (nu di x : Int32) : Prop := (48 ≤ x ∧ x ≤ 57) ∧ (di = 0 ∨ (0 < nu ∧ di < 6))
def tk (r : RS) (x : Int32) : RS :=
  if r.2.2.2.2.1 = 0 then (r.1, r.2.1, (if tkP r.2.2.1 x then upd r.2.2.1 (x - 48).toNatClampNeg 1 else r.2.2.1), r.2.2.2.1, (if tkP r.2.2.1 x then 1 else r.2.2.2.2.1), (if tkP r.2.2.1 x then x - 48 else r.2.2.2.2.2.1), r.2.2.2.2.2.2.1, r.2.2.2.2.2.2.2)
  else if r.2.2.2.2.1 = 1 then (r.1, r.2.1, r.2.2.1, r.2.2.2.1, 2, r.2.2.2.2.2.1, r.2.2.2.2.2.2.1, r.2.2.2.2.2.2.2)
  else if r.2.2.2.2.1 = 2 then
    (if x = 43 then (upd r.1 r.2.2.2.2.2.1.toNatClampNeg r.2.2.2.2.2.2.1, r.2.1, r.2.2.1, r.2.2.2.1, 3, r.2.2.2.2.2.1, 0, 0)
     else (r.1, r.2.1, r.2.2.1, r.2.2.2.1, r.2.2.2.2.1, r.2.2.2.2.2.1, (if tdP r.2.2.2.2.2.2.1 r.2.2.2.2.2.2.2 x then (r.2.2.2.2.2.2.1 * 10) + (x - 48) else r.2.2.2.2.2.2.1), (if tdP r.2.2.2.2.2.2.1 r.2.2.2.2.2.2.2 x then r.2.2.2.2.2.2.2 + 1 else r.2.2.2.2.2.2.2)))
  else
    (if x = 59 then (r.1, upd r.2.1 r.2.2.2.2.2.1.toNatClampNeg r.2.2.2.2.2.2.1, r.2.2.1, r.2.2.2.1 + 1, 0, r.2.2.2.2.2.1, 0, 0)
     else (r.1, r.2.1, r.2.2.1, r.2.2.2.1, r.2.2.2.2.1, r.2.2.2.2.2.1, (if tdP r.2.2.2.2.2.2.1 r.2.2.2.2.2.2.2 x then (r.2.2.2.2.2.2.1 * 10) + (x - 48) else r.2.2.2.2.2.2.1), (if tdP r.2.2.2.2.2.2.1 r.2.2.2.2.2.2.2 x then r.2.2.2.2.2.2.2 + 1 else r.2.2.2.2.2.2.2)))
/-- the byte is taken -/
abbrev tkb (r : RS) (x : Int32) : Prop :=
  (r.2.2.2.2.1 = 0 ∧ tkP r.2.2.1 x) ∨ (r.2.2.2.2.1 = 1 ∧ x = 58) ∨ (r.2.2.2.2.1 = 2 ∧ ((x = 43 ∧ 0 < r.2.2.2.2.2.2.2) ∨ (¬ x = 43 ∧ tdP r.2.2.2.2.2.2.1 r.2.2.2.2.2.2.2 x))) ∨ (r.2.2.2.2.1 = 3 ∧ ((x = 59 ∧ 0 < r.2.2.2.2.2.2.2) ∨ (¬ x = 59 ∧ tdP r.2.2.2.2.2.2.1 r.2.2.2.2.2.2.2 x)))
theorem n10 : ((1 : Int32) = 0) = False := eq_false (by decide)
theorem n20 : ((2 : Int32) = 0) = False := eq_false (by decide)
theorem n21 : ((2 : Int32) = 1) = False := eq_false (by decide)
theorem n30 : ((3 : Int32) = 0) = False := eq_false (by decide)
theorem n31 : ((3 : Int32) = 1) = False := eq_false (by decide)
theorem n32 : ((3 : Int32) = 2) = False := eq_false (by decide)
theorem n01 : ((0 : Int32) = 1) = False := eq_false (by decide)
theorem n02 : ((0 : Int32) = 2) = False := eq_false (by decide)
theorem n03 : ((0 : Int32) = 3) = False := eq_false (by decide)
theorem n12 : ((1 : Int32) = 2) = False := eq_false (by decide)
theorem n13 : ((1 : Int32) = 3) = False := eq_false (by decide)
theorem n23 : ((2 : Int32) = 3) = False := eq_false (by decide)
/-- what stays true of the reader -/
def rs_ok (r : RS) : Prop := (r.2.2.2.2.1 = 0 ∨ r.2.2.2.2.1 = 1 ∨ r.2.2.2.2.1 = 2 ∨ r.2.2.2.2.1 = 3) ∧ vp_in r.2.2.2.2.2.1 10
theorem rs_ok_tk {r : RS} (h : rs_ok r) (x : Int32) : rs_ok (tk r x) := by
  obtain ⟨ba, ho, to, ro, pa, ki, nu, di⟩ := r
  obtain ⟨hp, hk⟩ := h
  simp only at hp hk
  unfold tk
  simp only
  by_cases e0 : pa = 0
  · rw [if_pos e0]
    by_cases hP : tkP to x
    · simp only [if_pos hP]
      exact ⟨Or.inr (Or.inl rfl), in_dig hP.1⟩
    · simp only [if_neg hP]
      exact ⟨Or.inl e0, hk⟩
  · rw [if_neg e0]
    by_cases e1 : pa = 1
    · rw [if_pos e1]
      exact ⟨Or.inr (Or.inr (Or.inl rfl)), hk⟩
    · rw [if_neg e1]
      by_cases e2 : pa = 2
      · rw [if_pos e2]
        by_cases ex : x = 43
        · rw [if_pos ex]
          exact ⟨Or.inr (Or.inr (Or.inr rfl)), hk⟩
        · rw [if_neg ex]
          exact ⟨hp, hk⟩
      · rw [if_neg e2]
        by_cases ex : x = 59
        · rw [if_pos ex]
          exact ⟨Or.inl rfl, hk⟩
        · rw [if_neg ex]
          exact ⟨hp, hk⟩
/-- n bytes from place i: the state behind the last one that was seen, and where it was wrong -/
def rdl (f : Nat → Int32) : Nat → Nat → RS → RS × Option Nat
  | 0, _, r => (r, none)
  | n + 1, i, r => if tkb r (f i) then rdl f n (i + 1) (tk r (f i)) else (tk r (f i), some i)
def rd_r (q : RS × Option Nat) (n : Int32) : Int32 := match q.2 with
  | some i => nI i
  | none => if q.1.2.2.2.2.1 = 0 then -1 else n
def rs0 (fa fb fc : Nat → Int32) (ki : Int32) : RS := (zf fa 10, zf fb 10, zf fc 10, 0, 0, ki, 0, 0)
def cpf (f g : Nat → Int32) (n : Nat) : Nat → Int32 := fun j => if j < n then g j else f j
theorem cpf_0 (f g : Nat → Int32) : cpf f g 0 = f := by funext j; simp [cpf]
theorem cpf_s (f g : Nat → Int32) (n : Nat) : upd (cpf f g n) n (g n) = cpf f g (n + 1) := by
  funext j
  by_cases h : j = n
  · subst h; rw [pk_us]; simp [cpf]
  · rw [pk_un h]
    simp only [cpf]
    by_cases h2 : j < n
    · rw [if_pos h2, if_pos (by omega)]
    · rw [if_neg h2, if_neg (by omega)]
def th_share (x y s : Int32) : Option String := (ck_known x 6).or ((ck_range y 0 100000000).or (if ¬ 0 < s then some eAR else none))
def po_to (x cl : Int32) : Int32 := if x < cl then cl else x
def th_post (x cl s : Int32) : Option String := (ck_known x 5).or (if po_to x cl < 5 ∧ s = 0 then none else some eIS)
theorem in_to {x cl : Int32} (h1 : vp_in x 5) (h2 : vp_in cl 6) (h : ¬ 5 ≤ po_to x cl) : vp_in (po_to x cl) 5 := by
  refine in_below (n := 5) ?_ h (by decide)
  unfold po_to
  split
  · obtain ⟨a, ha, rfl⟩ := vp_in_of h2 (by decide); exact nI_pos (by omega)
  · obtain ⟨a, ha, rfl⟩ := vp_in_of h1 (by decide); exact nI_pos (by omega)
