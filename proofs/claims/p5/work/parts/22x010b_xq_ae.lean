noncomputable def xq_ae (b : Nat → Nat) (S : xq_S) (k t n : Nat) (cA : ClassId) (e : va_E) : Prop := match t with
  | 0 => ∃ F : Nat → Int32, e = .inl (cA, n, .inl F) ∧ ∀ i, i < n → F i = S.1 k i
  | 1 => ∃ F : Nat → Int64, e = .inl (cA, n, .inr (.inl F)) ∧ ∀ i, i < n → F i = S.2.1 k i
  | 2 => ∃ F : Nat → Int32, e = .inl (cA, n, .inl F) ∧ ∀ i, i < n → F i = S.1 k i
  | 3 => ∃ F : Nat → Int32, e = .inl (cA, n, .inl F) ∧ ∀ i, i < n → F i = S.1 k i
  | _ + 4 => ∃ F : Nat → Option Nat, e = .inl (cA, n, .inr (.inr (.inr (.inr F)))) ∧ ∀ i, i < n → F i = some (b (xq_sr k i))
