/-! WHAT IS THROWN, AS A NUMBER -/
def cod (L : List String) : Option String → Int32
  | none => 0
  | some E => nI (L.idxOf E + 1)
def tS (L : List String) (t : Option String) : Prop := ∀ E : String, t = some E → E ∈ L
theorem ts_or {L : List String} {a b : Option String} (ha : tS L a) (hb : tS L b) : tS L (a.or b) := by
  intro E h
  cases a with
  | none => exact hb E h
  | some x => exact ha E h
theorem ts_if {L : List String} {c : Prop} [Decidable c] {X : String} (h : X ∈ L) : tS L (if c then some X else none) := by
  intro E h2
  split at h2
  · cases h2; exact h
  · cases h2
theorem ts_ifn {L : List String} {c : Prop} [Decidable c] {X : String} (h : X ∈ L) : tS L (if c then none else some X) := by
  intro E h2
  split at h2
  · cases h2
  · cases h2; exact h
theorem ts_known {L : List String} {x n : Int32} (h : eIA ∈ L) : tS L (ck_known x n) := ts_if h
theorem ts_range {L : List String} {x a b : Int32} (h : eIO ∈ L) : tS L (ck_range x a b) := ts_if h
theorem ts_state {L : List String} {x : Int32} (h : eIS ∈ L) : tS L (ck_state x) := ts_if h
