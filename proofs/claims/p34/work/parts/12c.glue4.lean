/-! calls that must not throw -/
def bt1 {α κ : Type} (x : Option (α ⊕ Nat)) (f : α → Option κ) : Option κ := match x with
  | some (.inl a) => f a
  | _ => none
def bt2 {α β κ : Type} (x : Option ((α × β) ⊕ Nat)) (f : α → β → Option κ) : Option κ := match x with
  | some (.inl (a, b)) => f a b
  | _ => none
def bt3 {α β δ κ : Type} (x : Option ((α × β × δ) ⊕ Nat)) (f : α → β → δ → Option κ) : Option κ := match x with
  | some (.inl (a, b, d)) => f a b d
  | _ => none
theorem ot1 {α κ : Type} {x : Option (α ⊕ Nat)} {f : α → Option κ} {z : κ} (h : some z = bt1 x f) : ∃ a, x = some (.inl a) ∧ some z = f a := by
  cases x with
  | none => cases h
  | some a =>
    cases a with
    | inl a => exact ⟨a, rfl, h⟩
    | inr k => cases h
theorem ot2 {α β κ : Type} {x : Option ((α × β) ⊕ Nat)} {f : α → β → Option κ} {z : κ} (h : some z = bt2 x f) : ∃ a b, x = some (.inl (a, b)) ∧ some z = f a b := by
  cases x with
  | none => cases h
  | some a =>
    cases a with
    | inl a => obtain ⟨a, b⟩ := a; exact ⟨a, b, rfl, h⟩
    | inr k => cases h
theorem ot3 {α β δ κ : Type} {x : Option ((α × β × δ) ⊕ Nat)} {f : α → β → δ → Option κ} {z : κ} (h : some z = bt3 x f) : ∃ a b d, x = some (.inl (a, b, d)) ∧ some z = f a b d := by
  cases x with
  | none => cases h
  | some a =>
    cases a with
    | inl a => obtain ⟨a, b, d⟩ := a; exact ⟨a, b, d, rfl, h⟩
    | inr k => cases h
