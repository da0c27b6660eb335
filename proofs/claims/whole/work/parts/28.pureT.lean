/-! THE TARIFF'S TEXT: the reference's reader against the class's, byte by byte -/
def see_ (f : Nat → Int32) (n i : Nat) : Int32 := if i < n then f i else -1
theorem see_in {f : Nat → Int32} {n i : Nat} (h : i < n) : see_ f n i = f i := if_pos h
theorem see_out {f : Nat → Int32} {n i : Nat} (h : ¬ i < n) : see_ f n i = -1 := if_neg h
section PT
variable {f : Nat → Int32} {n i : Nat} {r : RS} {ZZ : RS × Option Nat}
theorem rd_refuse (hi : i < n) (hz : rdl f (n - i) i r = ZZ) (h : ¬ tkb r (f i)) : rd_r ZZ (nI n) = nI i := by
  rw [show n - i = (n - (i + 1)) + 1 by omega, rdl, if_neg h] at hz
  rw [← hz]; rfl
theorem rd_take (hi : i < n) (hz : rdl f (n - i) i r = ZZ) (h : tkb r (f i)) : rdl f (n - (i + 1)) (i + 1) (tk r (f i)) = ZZ := by
  rw [show n - i = (n - (i + 1)) + 1 by omega, rdl, if_pos h] at hz
  exact hz
theorem rd_end (hi : i = n) (hz : rdl f (n - i) i r = ZZ) (hp : ¬ r.2.2.2.2.1 = 0) : rd_r ZZ (nI n) = nI i := by
  rw [show n - i = 0 by omega, rdl] at hz
  rw [← hz, hi]; exact if_neg hp
theorem rd_end0 (hi : i = n) (hz : rdl f (n - i) i r = ZZ) (hp : r.2.2.2.2.1 = 0) : rd_r ZZ (nI n) = -1 ∧ ZZ.1 = r := by
  rw [show n - i = 0 by omega, rdl] at hz
  rw [← hz]; exact ⟨if_pos hp, rfl⟩
theorem neg_dig : ¬ dg (-1) := by decide
theorem not58 : ¬ ((-1 : Int32) = 58) := by decide
theorem not43 : ¬ ((-1 : Int32) = 43) := by decide
theorem not59 : ¬ ((-1 : Int32) = 59) := by decide
theorem in_dig_of (h : dg (see_ f n i)) : i < n := by
  by_cases hi : i < n
  · exact hi
  · rw [see_out hi] at h; exact absurd h neg_dig
variable {ba ho to : Nat → Int32} {ro ki v d pa : Int32}
theorem k_no (hi : i < n) (hz : rdl f (n - i) i (ba, ho, to, ro, 0, ki, 0, 0) = ZZ) (h : ¬ (dg (see_ f n i) ∧ to ((see_ f n i) - 48).toNatClampNeg = 0)) : rd_r ZZ (nI n) = nI i := by
  rw [see_in hi] at h
  refine rd_refuse hi hz (fun q => ?_)
  rcases q with q | q | q | q
  · exact h q.2
  · exact absurd q.1 (by dsimp only; decide)
  · exact absurd q.1 (by dsimp only; decide)
  · exact absurd q.1 (by dsimp only; decide)
theorem k_ok (hi : i < n) (hz : rdl f (n - i) i (ba, ho, to, ro, 0, ki, 0, 0) = ZZ) (h : dg (see_ f n i) ∧ to ((see_ f n i) - 48).toNatClampNeg = 0) : rdl f (n - (i + 1)) (i + 1) (ba, ho, upd to ((see_ f n i) - 48).toNatClampNeg 1, ro, 1, (see_ f n i) - 48, 0, 0) = ZZ := by
  rw [see_in hi] at h ⊢
  have h2 := rd_take hi hz (Or.inl ⟨rfl, h⟩)
  rw [tk] at h2
  simp only [if_pos (show tkP to (f i) from h), ↓reduceIte] at h2
  exact h2
theorem c_no (hi : i ≤ n) (hz : rdl f (n - i) i (ba, ho, to, ro, 1, ki, v, d) = ZZ) (h : ¬ see_ f n i = 58) : rd_r ZZ (nI n) = nI i := by
  rcases Nat.lt_or_eq_of_le hi with h1 | h1
  · rw [see_in h1] at h
    refine rd_refuse h1 hz (fun q => ?_)
    rcases q with q | q | q | q
    · exact absurd q.1 (by dsimp only; decide)
    · exact h q.2
    · exact absurd q.1 (by dsimp only; decide)
    · exact absurd q.1 (by dsimp only; decide)
  · exact rd_end h1 hz (by dsimp only; decide)
theorem c_ok (hz : rdl f (n - i) i (ba, ho, to, ro, 1, ki, v, d) = ZZ) (h : see_ f n i = 58) : i < n ∧ rdl f (n - (i + 1)) (i + 1) (ba, ho, to, ro, 2, ki, v, d) = ZZ := by
  have hi : i < n := by
    by_cases hi : i < n
    · exact hi
    · rw [see_out hi] at h; exact absurd h not58
  rw [see_in hi] at h
  refine ⟨hi, ?_⟩
  have h2 := rd_take hi hz (Or.inr (Or.inl ⟨rfl, h⟩))
  rw [tk] at h2
  simp only [n10, ↓reduceIte] at h2
  exact h2
theorem tk_no2 (hp : pa = 2 ∨ pa = 3) {x : Int32} (h1 : ¬ (((pa = 2 ∧ x = 43) ∨ (pa = 3 ∧ x = 59)) ∧ 0 < d)) (h2 : ¬ tdP v d x) : ¬ tkb (ba, ho, to, ro, pa, ki, v, d) x := by
  intro q
  rcases hp with rfl | rfl
  · rcases q with q | q | q | q
    · exact absurd q.1 (by dsimp only; decide)
    · exact absurd q.1 (by dsimp only; decide)
    · rcases q.2 with z | z
      · exact h1 ⟨Or.inl ⟨rfl, z.1⟩, z.2⟩
      · exact h2 z.2
    · exact absurd q.1 (by dsimp only; decide)
  · rcases q with q | q | q | q
    · exact absurd q.1 (by dsimp only; decide)
    · exact absurd q.1 (by dsimp only; decide)
    · exact absurd q.1 (by dsimp only; decide)
    · rcases q.2 with z | z
      · exact h1 ⟨Or.inr ⟨rfl, z.1⟩, z.2⟩
      · exact h2 z.2
theorem pa_ne (hp : pa = 2 ∨ pa = 3) : ¬ pa = 0 := by rcases hp with rfl | rfl <;> decide
/-- no number at all -/
theorem nd_none (hp : pa = 2 ∨ pa = 3) (hi : i ≤ n) (hz : rdl f (n - i) i (ba, ho, to, ro, pa, ki, v, 0) = ZZ) (h : ¬ dg (see_ f n i)) : rd_r ZZ (nI n) = nI i := by
  rcases Nat.lt_or_eq_of_le hi with h1 | h1
  · rw [see_in h1] at h
    exact rd_refuse h1 hz (tk_no2 hp (fun q => absurd q.2 (by decide)) (fun q => h q.1))
  · exact rd_end h1 hz (pa_ne hp)
/-- a number too long, or one behind a 0 -/
theorem nd_full (hp : pa = 2 ∨ pa = 3) (hz : rdl f (n - i) i (ba, ho, to, ro, pa, ki, v, d) = ZZ) (h : dg (see_ f n i)) (h2 : ¬ (d = 0 ∨ (0 < v ∧ d < 6))) : rd_r ZZ (nI n) = nI i := by
  have h1 := in_dig_of h
  rw [see_in h1] at h
  refine rd_refuse h1 hz (tk_no2 hp (fun q => ?_) (fun q => h2 q.2))
  rcases q.1 with z | z
  · rw [z.2] at h; exact absurd h (by decide)
  · rw [z.2] at h; exact absurd h (by decide)
theorem nd_ok (hp : pa = 2 ∨ pa = 3) (hz : rdl f (n - i) i (ba, ho, to, ro, pa, ki, v, d) = ZZ) (h : dg (see_ f n i)) (h2 : d = 0 ∨ (0 < v ∧ d < 6)) : rdl f (n - (i + 1)) (i + 1) (ba, ho, to, ro, pa, ki, (v * 10) + ((see_ f n i) - 48), d + 1) = ZZ := by
  have h1 := in_dig_of h
  rw [see_in h1] at h ⊢
  have n43 : ¬ f i = 43 := fun z => by rw [z] at h; exact absurd h (by decide)
  have n59 : ¬ f i = 59 := fun z => by rw [z] at h; exact absurd h (by decide)
  have ht : tdP v d (f i) := ⟨h, h2⟩
  rcases hp with rfl | rfl
  · have h3 := rd_take h1 hz (Or.inr (Or.inr (Or.inl ⟨rfl, Or.inr ⟨n43, ht⟩⟩)))
    rw [tk] at h3
    simp only [n20, n21, if_neg n43, if_pos ht, ↓reduceIte] at h3
    exact h3
  · have h3 := rd_take h1 hz (Or.inr (Or.inr (Or.inr ⟨rfl, Or.inr ⟨n59, ht⟩⟩)))
    rw [tk] at h3
    simp only [n30, n31, n32, if_neg n59, if_pos ht, ↓reduceIte] at h3
    exact h3
theorem p_no (hi : i ≤ n) (hz : rdl f (n - i) i (ba, ho, to, ro, 2, ki, v, d) = ZZ) (hd : ¬ dg (see_ f n i)) (h : ¬ see_ f n i = 43) : rd_r ZZ (nI n) = nI i := by
  rcases Nat.lt_or_eq_of_le hi with h1 | h1
  · rw [see_in h1] at h hd
    refine rd_refuse h1 hz (tk_no2 (Or.inl rfl) (fun q => ?_) (fun q => hd q.1))
    rcases q.1 with z | z
    · exact h z.2
    · exact absurd z.1 (by decide)
  · exact rd_end h1 hz (by dsimp only; decide)
theorem p_ok (hz : rdl f (n - i) i (ba, ho, to, ro, 2, ki, v, d) = ZZ) (hd : 0 < d) (h : see_ f n i = 43) : i < n ∧ rdl f (n - (i + 1)) (i + 1) (upd ba ki.toNatClampNeg v, ho, to, ro, 3, ki, 0, 0) = ZZ := by
  have hi : i < n := by
    by_cases hi : i < n
    · exact hi
    · rw [see_out hi] at h; exact absurd h not43
  rw [see_in hi] at h
  refine ⟨hi, ?_⟩
  have h2 := rd_take hi hz (Or.inr (Or.inr (Or.inl ⟨rfl, Or.inl ⟨h, hd⟩⟩)))
  rw [tk] at h2
  simp only [n20, n21, if_pos h, ↓reduceIte] at h2
  exact h2
theorem s_no (hi : i ≤ n) (hz : rdl f (n - i) i (ba, ho, to, ro, 3, ki, v, d) = ZZ) (hd : ¬ dg (see_ f n i)) (h : ¬ see_ f n i = 59) : rd_r ZZ (nI n) = nI i := by
  rcases Nat.lt_or_eq_of_le hi with h1 | h1
  · rw [see_in h1] at h hd
    refine rd_refuse h1 hz (tk_no2 (Or.inr rfl) (fun q => ?_) (fun q => hd q.1))
    rcases q.1 with z | z
    · exact absurd z.1 (by decide)
    · exact h z.2
  · exact rd_end h1 hz (by dsimp only; decide)
theorem s_ok (hz : rdl f (n - i) i (ba, ho, to, ro, 3, ki, v, d) = ZZ) (hd : 0 < d) (h : see_ f n i = 59) : i < n ∧ rdl f (n - (i + 1)) (i + 1) (ba, upd ho ki.toNatClampNeg v, to, ro + 1, 0, ki, 0, 0) = ZZ := by
  have hi : i < n := by
    by_cases hi : i < n
    · exact hi
    · rw [see_out hi] at h; exact absurd h not59
  rw [see_in hi] at h
  refine ⟨hi, ?_⟩
  have h2 := rd_take hi hz (Or.inr (Or.inr (Or.inr ⟨rfl, Or.inl ⟨h, hd⟩⟩)))
  rw [tk] at h2
  simp only [n30, n31, n32, if_pos h, ↓reduceIte] at h2
  exact h2
end PT
/-! digits as numbers -/
theorem dg_nI {x : Int32} (h : dg x) : ∃ c : Nat, c < 10 ∧ x = nI (48 + c) ∧ x - 48 = nI c := by
  obtain ⟨h1, h2⟩ := h
  rw [i32_le] at h1 h2
  have h3 : (48 : Int32).toInt = 48 := rfl
  have h4 : (57 : Int32).toInt = 57 := rfl
  obtain ⟨j, hj, e⟩ : ∃ j : Nat, j < 58 ∧ x = nI j := vp_in_of (vp_in_iff.mpr ⟨by omega, by omega⟩) (by decide)
  subst e
  rw [nI_toInt (by omega)] at h1 h2
  have e48 : (48 : Int32) = nI 48 := by decide +kernel
  refine ⟨j - 48, by omega, by rw [show 48 + (j - 48) = j by omega], ?_⟩
  rw [e48, pk_sub (by omega)]
theorem dg_09 {x : Int32} (h : dg x) : 0 ≤ (x - 48) ∧ (x - 48) ≤ 9 := by
  obtain ⟨c, hc, -, e⟩ := dg_nI h
  rw [e, show (9 : Int32) = nI 9 by decide +kernel]
  exact ⟨nI_pos' (by omega), nI_le (by omega) (by omega)⟩
theorem dg_10 {x : Int32} (h : dg x) : (10 + (x - 48)).toNatClampNeg = 10 + (x - 48).toNatClampNeg ∧ (x - 48).toNatClampNeg < 10 := by
  obtain ⟨c, hc, -, e⟩ := dg_nI h
  rw [e, show (10 : Int32) = nI 10 by decide +kernel, nI_add, nI_clamp (by omega), nI_clamp (by omega)]
  exact ⟨rfl, hc⟩
theorem dg_in20 {x : Int32} (h : dg x) : vp_in (10 + (x - 48)) 20 := by
  obtain ⟨c, hc, -, e⟩ := dg_nI h
  rw [e, show (10 : Int32) = nI 10 by decide +kernel, nI_add]
  exact vp_in_nI (by omega) (by decide)
theorem num_s {x : Int32} {m d : Nat} (h : dg x) (hm : m < 10 ^ d) (hd : d ≤ 6) : ∃ m' : Nat, m' < 10 ^ (d + 1) ∧ (10 * nI m + x) - 48 = nI m' ∧ (nI m * 10) + (x - 48) = nI m' ∧ (0 < m → 0 < m') := by
  obtain ⟨c, hc, e1, e2⟩ := dg_nI h
  have hp : m * 10 + c < 10 ^ (d + 1) := by rw [Nat.pow_succ]; omega
  refine ⟨m * 10 + c, hp, ?_, ?_, fun h => by omega⟩
  · rw [e1, show (10 : Int32) = nI 10 by decide +kernel, show (48 : Int32) = nI 48 by decide +kernel, pk_mul, nI_add, pk_sub (by omega), show 10 * m + (48 + c) - 48 = m * 10 + c by omega]
  · rw [e2, show (10 : Int32) = nI 10 by decide +kernel, pk_mul, nI_add]
theorem d10 {d : Nat} (h : d ≤ 6) : (10 : Nat) ^ d ≤ 1000000 := Nat.pow_le_pow_right (by decide) h
/-! rows told -/
def tcnt (f : Nat → Int32) : Nat → Int32
  | 0 => 0
  | i + 1 => tcnt f i + (if f i = 0 then 0 else 1)
theorem tcnt_eq {f g : Nat → Int32} : ∀ {n : Nat}, (∀ j, j < n → f j = g j) → tcnt f n = tcnt g n
  | 0, _ => rfl
  | n + 1, h => by rw [tcnt, tcnt, tcnt_eq (fun j hj => h j (by omega)), h n (by omega)]
theorem tcnt_upd {f : Nat → Int32} {k : Nat} (hf : f k = 0) : ∀ {n : Nat}, k < n → tcnt (upd f k 1) n = tcnt f n + 1
  | 0, h => absurd h (Nat.not_lt_zero k)
  | n + 1, h => by
    rcases Nat.lt_succ_iff_lt_or_eq.mp h with h1 | h1
    · rw [tcnt, tcnt, tcnt_upd hf h1, pk_un (show n ≠ k by omega), Int32.add_assoc, Int32.add_assoc, Int32.add_comm 1]
    · subst h1
      rw [tcnt, tcnt, pk_us, hf, tcnt_eq (g := f) (fun j hj => pk_un (by omega)), if_neg (by decide), if_pos rfl, Int32.add_zero]
/-- what holds at the start of a row -/
def tbnd (ba ho to : Nat → Int32) (ro : Int32) : Prop := (∀ j : Nat, j < 10 → to j = 0 ∨ to j = 1) ∧ ro = tcnt to 10 ∧ (∀ j : Nat, j < 10 → ∃ v : Nat, v < 1000000 ∧ ba j = nI v) ∧ (∀ j : Nat, j < 10 → ∃ v : Nat, v < 1000000 ∧ ho j = nI v)
theorem tb_upd {ba ho to : Nat → Int32} {ro : Int32} {k b h : Nat} (hk : k < 10) (hto : to k = 0) (hb : b < 1000000) (hh : h < 1000000) (H : tbnd ba ho to ro) : tbnd (upd ba k (nI b)) (upd ho k (nI h)) (upd to k 1) (ro + 1) := by
  obtain ⟨h1, h2, h3, h4⟩ := H
  refine ⟨fun j hj => ?_, ?_, fun j hj => ?_, fun j hj => ?_⟩
  · by_cases e : j = k
    · rw [e, pk_us]; exact Or.inr rfl
    · rw [pk_un e]; exact h1 j hj
  · rw [tcnt_upd hto hk, h2]
  · by_cases e : j = k
    · rw [e, pk_us]; exact ⟨b, hb, rfl⟩
    · rw [pk_un e]; exact h3 j hj
  · by_cases e : j = k
    · rw [e, pk_us]; exact ⟨h, hh, rfl⟩
    · rw [pk_un e]; exact h4 j hj
/-- the reference's working rows are the reader's -/
def rrel (F17 F18 F19 ba ho to : Nat → Int32) : Prop := ∀ j : Nat, j < 10 → F17 (10 + j) = to j ∧ F18 (10 + j) = ba j ∧ F19 (10 + j) = ho j
theorem rr_upd {F17 F18 F19 ba ho to : Nat → Int32} {k : Nat} {a b c : Int32} (H : rrel F17 F18 F19 ba ho to) : rrel (upd F17 (10 + k) a) (upd F18 (10 + k) b) (upd F19 (10 + k) c) (upd ba k b) (upd ho k c) (upd to k a) := by
  intro j hj
  by_cases e : j = k
  · rw [e, pk_us, pk_us, pk_us, pk_us, pk_us, pk_us]; exact ⟨rfl, rfl, rfl⟩
  · have e2 : 10 + j ≠ 10 + k := by omega
    rw [pk_un e2, pk_un e2, pk_un e2, pk_un e, pk_un e, pk_un e]; exact H j hj
/-- the first rows are as they were -/
def rlow (F G : Nat → Int32) : Prop := ∀ j : Nat, j < 10 → F j = G j
theorem rlow_upd {F G : Nat → Int32} {k : Nat} {a : Int32} (H : rlow F G) : rlow (upd F (10 + k) a) G := fun j hj => by rw [pk_un (show j ≠ 10 + k by omega)]; exact H j hj
def zr (f : Nat → Int32) (n : Nat) : Nat → Int32 := fun j => if 10 ≤ j ∧ j < n then 0 else f j
theorem zr_0 (f : Nat → Int32) : zr f 10 = f := by funext j; simp only [zr]; exact if_neg (by omega)
theorem zr_s (f : Nat → Int32) {n : Nat} (hn : 10 ≤ n) : upd (zr f n) n 0 = zr f (n + 1) := by
  funext j
  by_cases h : j = n
  · subst h; rw [pk_us]; simp only [zr]; rw [if_pos (by omega)]
  · rw [pk_un h]
    simp only [zr]
    by_cases h2 : 10 ≤ j ∧ j < n
    · rw [if_pos h2, if_pos (by omega)]
    · rw [if_neg h2, if_neg (by omega)]
theorem zr_low (f : Nat → Int32) (n : Nat) : rlow (zr f n) f := fun j hj => if_neg (by omega)
def cpd (f : Nat → Int32) (n : Nat) : Nat → Int32 := fun j => if j < n then f (10 + j) else f j
theorem cpd_0 (f : Nat → Int32) : cpd f 0 = f := by funext j; simp [cpd]
theorem cpd_hi (f : Nat → Int32) {n j : Nat} (h : n ≤ j) : cpd f n j = f j := if_neg (by omega)
theorem cpd_s (f : Nat → Int32) {n : Nat} (hn : n < 10) : upd (cpd f n) n (cpd f n (10 + n)) = cpd f (n + 1) := by
  funext j
  rw [cpd_hi f (show n ≤ 10 + n by omega)]
  by_cases h : j = n
  · subst h; rw [pk_us]; simp only [cpd]; rw [if_pos (by omega)]
  · rw [pk_un h]
    simp only [cpd]
    by_cases h2 : j < n
    · rw [if_pos h2, if_pos (by omega)]
    · rw [if_neg h2, if_neg (by omega)]
theorem rs0_bnd (fa fb fc : Nat → Int32) : tbnd (zf fa 10) (zf fb 10) (zf fc 10) 0 := by
  have hz : ∀ (f : Nat → Int32) (j : Nat), j < 10 → zf f 10 j = 0 := fun f j hj => if_pos hj
  refine ⟨fun j hj => Or.inl (hz _ j hj), ?_, fun j hj => ⟨0, by decide, by rw [hz _ j hj]; rfl⟩, fun j hj => ⟨0, by decide, by rw [hz _ j hj]; rfl⟩⟩
  rw [tcnt_eq (g := fun _ => 0) (fun j hj => hz _ j hj)]
  decide
theorem rs0_rel (F17 F18 F19 fa fb fc : Nat → Int32) : rrel (zr F17 20) (zr F18 20) (zr F19 20) (zf fa 10) (zf fb 10) (zf fc 10) := by
  intro j hj
  have hz : ∀ (f : Nat → Int32), zf f 10 j = 0 := fun f => if_pos hj
  have hy : ∀ (f : Nat → Int32), zr f 20 (10 + j) = 0 := fun f => if_pos (by omega)
  rw [hz, hz, hz, hy, hy, hy]; exact ⟨rfl, rfl, rfl⟩
theorem nI_nm1 {k : Nat} (h : k < 1000) : ¬ nI k = -1 := by
  intro q
  have h1 := nI_toInt (n := k) (by omega)
  rw [q] at h1
  have h2 : (-1 : Int32).toInt = -1 := by decide
  omega
