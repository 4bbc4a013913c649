noncomputable def xq_ar (k : Nat) : Option (Nat × Nat) := match zrget xqT k with
  | some (.inr q) => some q
  | _ => none
