noncomputable def xq_cl (k ci : Nat) : Bool := match zrget xqT k with
  | some (.inl q) => Nat.beq q.1 ci
  | _ => false
