def xi_tab (lo : Int) (ts : List Nat) (d : Nat) : xq_I := fun _ L st S => match st with
  | .int x :: r => some (.inl (xq_tb x.toInt lo ts d, L, r, S))
  | _ => none
