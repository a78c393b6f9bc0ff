def gx_inr {α R : Type} (x : Option (Nat ⊕ α)) (f : α → Option R) : Option R := x.bind (fun z => match z with
  | .inl _ => none
  | .inr u => f u)
def gx_inl {α R : Type} (x : Option (Nat ⊕ α)) (f : Nat → Option R) : Option R := x.bind (fun z => match z with
  | .inl n => f n
  | .inr _ => none)
theorem gx_inrS {α R : Type} {x : Option (Nat ⊕ α)} {f : α → Option R} {r : R} (h : gx_inr x f = some r) : ∃ u, x = some (.inr u) ∧ f u = some r := by
  cases x with
  | none => cases h
  | some z =>
    cases z with
    | inl n => cases h
    | inr u => exact ⟨u, rfl, h⟩
theorem gx_inlS {α R : Type} {x : Option (Nat ⊕ α)} {f : Nat → Option R} {r : R} (h : gx_inl x f = some r) : ∃ n, x = some (.inl n) ∧ f n = some r := by
  cases x with
  | none => cases h
  | some z =>
    cases z with
    | inl n => exact ⟨n, rfl, h⟩
    | inr u => cases h

