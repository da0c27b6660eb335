/-! PURE WORDS of the reference's loops -/
theorem sh_key (p : Int64) (k : Nat) (hk : k + 8 ≤ 64) (sa : Int64) (sb : UInt64) (h1 : (sa.toBitVec.smod 64).toNat = k) (h2 : (sb.toBitVec % 64).toNat = k) : ((p >>> sa).toInt32 &&& 255) = ((p.toUInt64 >>> sb).toInt64).toInt32 &&& 255 := by
  apply Int32.toBitVec_inj.mp
  show (p.toBitVec.sshiftRight (sa.toBitVec.smod 64).toNat).signExtend 32 &&& 255#32 = (p.toBitVec >>> (sb.toBitVec % 64).toNat).signExtend 32 &&& 255#32
  rw [h1, h2]
  apply BitVec.eq_of_getLsbD_eq
  intro j hj
  rw [BitVec.getLsbD_and, BitVec.getLsbD_and]
  by_cases h8 : j < 8
  · congr 1
    rw [BitVec.getLsbD_signExtend, BitVec.getLsbD_signExtend, BitVec.getLsbD_sshiftRight, BitVec.getLsbD_ushiftRight]
    have e1 : j < 64 := by omega
    have e2 : k + j < 64 := by omega
    simp [e1, e2, hj, show ¬ 64 ≤ j by omega]
  · have e : (255#32).getLsbD j = false := by
      have : ∀ j : Fin 32, 8 ≤ j.val → (255#32).getLsbD j.val = false := by decide
      exact this ⟨j, hj⟩ (Nat.le_of_not_lt h8)
    rw [e, Bool.and_false, Bool.and_false]
theorem bym_eq (p : Int64) {i : Nat} (h : i < 8) : ((p >>> ((8 * (nI i)).toInt64 &&& 63)).toInt32 &&& 255) = by_ p i := by
  unfold by_
  rcases (show i = 0 ∨ i = 1 ∨ i = 2 ∨ i = 3 ∨ i = 4 ∨ i = 5 ∨ i = 6 ∨ i = 7 by omega) with rfl | rfl | rfl | rfl | rfl | rfl | rfl | rfl
  · exact sh_key p 0 (by decide) _ _ (by decide +kernel) (by decide +kernel)
  · exact sh_key p 8 (by decide) _ _ (by decide +kernel) (by decide +kernel)
  · exact sh_key p 16 (by decide) _ _ (by decide +kernel) (by decide +kernel)
  · exact sh_key p 24 (by decide) _ _ (by decide +kernel) (by decide +kernel)
  · exact sh_key p 32 (by decide) _ _ (by decide +kernel) (by decide +kernel)
  · exact sh_key p 40 (by decide) _ _ (by decide +kernel) (by decide +kernel)
  · exact sh_key p 48 (by decide) _ _ (by decide +kernel) (by decide +kernel)
  · exact sh_key p 56 (by decide) _ _ (by decide +kernel) (by decide +kernel)
abbrev rmM_due (c p d s : Nat → Int32) (x : Int32) (i : Nat) : Prop := p i < c i ∧ s i = 0 ∧ d i < x
def rmM_all (c p d s : Nat → Int32) (x : Int32) (f : Nat → Int32) : Nat → (Nat → Int32)
  | 0 => f
  | i + 1 => if rmM_due c p d s x i then upd (rmM_all c p d s x f i) i (rmM_all c p d s x f i i + 1) else rmM_all c p d s x f i
def rmM_cnt (c p d s : Nat → Int32) (x : Int32) : Nat → Int32
  | 0 => 0
  | i + 1 => if rmM_due c p d s x i then rmM_cnt c p d s x i + 1 else rmM_cnt c p d s x i
def hp_gv (f : Nat → Int32) (y z : Int32) : Nat → Int32
  | 0 => 0
  | i + 1 => hp_gv f y z i + hp_rp f y z i
theorem hp_lg (f : Nat → Int32) (y z : Int32) : ∀ i, hp_left f y z i = y - hp_gv f y z i
  | 0 => by rw [hp_left, hp_gv, Int32.sub_zero]
  | i + 1 => by
    rw [hp_left, hp_gv, hp_lg f y z i]
    apply Int32.toBitVec_inj.mp
    show y.toBitVec - (hp_gv f y z i).toBitVec - (hp_rp f y z i).toBitVec = y.toBitVec - ((hp_gv f y z i).toBitVec + (hp_rp f y z i).toBitVec)
    rw [BitVec.sub_sub]
theorem sum_200M {n x : Int32} (h1 : vp_in n 201) (h2 : (1 : Int32) ≤ x ∧ x ≤ 8) (h : n + x ≤ 200) : n.toNatClampNeg + x.toNatClampNeg ≤ 200 := by
  refine sum_200 h1 ?_ (Int32.not_lt.mpr h)
  obtain ⟨h3, h4⟩ := h2
  rw [i32_le] at h3 h4
  have e1 : (1 : Int32).toInt = 1 := rfl
  have e2 : (8 : Int32).toInt = 8 := rfl
  exact vp_in_iff.mpr ⟨by omega, by omega⟩
theorem in_r9M {x : Int32} (h2 : (1 : Int32) ≤ x ∧ x ≤ 8) : vp_in x 9 := by
  obtain ⟨h3, h4⟩ := h2
  rw [i32_le] at h3 h4
  have e1 : (1 : Int32).toInt = 1 := rfl
  have e2 : (8 : Int32).toInt = 8 := rfl
  exact vp_in_iff.mpr ⟨by omega, by omega⟩
theorem po_nI {a b : Nat} (ha : a < 100) (hb : b < 100) : po_to (nI a) (nI b) = nI (max a b) := by
  unfold po_to
  by_cases h : a < b
  · rw [if_pos (nI_lt h (by omega)), Nat.max_eq_right (by omega)]
  · rw [if_neg (nI_nlt (by omega) (by omega)), Nat.max_eq_left (by omega)]
theorem cl_A {r : Int32} {P Q Q' : Prop} (hr : ¬ r = 0 ↔ P ∨ Q) (c : ¬ r = 0) (hq : Q → Q') : ¬ (1 : Int32) = 0 ↔ P ∨ Q' := ⟨fun _ => (hr.mp c).elim Or.inl (fun q => Or.inr (hq q)), fun _ => by decide⟩
theorem cl_B {P Q' : Prop} (h : Q') : ¬ (1 : Int32) = 0 ↔ P ∨ Q' := ⟨fun _ => Or.inr h, fun _ => by decide⟩
theorem cl_C {r : Int32} {P Q Q' : Prop} (hr : ¬ r = 0 ↔ P ∨ Q) (c : r = 0) (hq : Q' → Q) : ¬ (0 : Int32) = 0 ↔ P ∨ Q' := ⟨fun q => absurd rfl q, fun q => absurd c (hr.mpr (q.elim Or.inl (fun z => Or.inr (hq z))))⟩
theorem ex_s {F : Nat → Prop} {i : Nat} (h : ∃ j : Nat, j < i ∧ F j) : ∃ j : Nat, j < i + 1 ∧ F j := h.elim fun j q => ⟨j, Nat.lt_succ_of_lt q.1, q.2⟩
theorem ex_last {F : Nat → Prop} {i : Nat} (h : F i) : ∃ j : Nat, j < i + 1 ∧ F j := ⟨i, Nat.lt_succ_self i, h⟩
theorem ex_back {F : Nat → Prop} {i : Nat} (hn : ¬ F i) (h : ∃ j : Nat, j < i + 1 ∧ F j) : ∃ j : Nat, j < i ∧ F j := h.elim fun j q => ⟨j, by
  rcases Nat.lt_succ_iff_lt_or_eq.mp q.1 with h1 | h1
  · exact h1
  · exact absurd (h1 ▸ q.2) hn, q.2⟩
def rw0 (x n : Int32) : Int32 := if 0 ≤ x ∧ x ≤ 4 then 0 else n
