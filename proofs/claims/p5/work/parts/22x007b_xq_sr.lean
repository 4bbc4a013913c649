noncomputable def xq_sr (k j : Nat) : Nat := match zrget xqR k with
  | some l => (match zget l j with
    | some n => n
    | none => 0)
  | none => 0
