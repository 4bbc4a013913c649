noncomputable def xq_kd (k ci j : Nat) : Option Nat := match zrget xqT k with
  | some (.inl q) => (match Nat.beq q.1 ci with
    | true => zget q.2 j
    | false => none)
  | _ => none
