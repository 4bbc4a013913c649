def xi_lsw (ts : List (Int × Nat)) (d : Nat) : xq_I := fun _ L st S => match st with
  | .int x :: r => some (.inl (xq_lk x.toInt ts d, L, r, S))
  | _ => none
def xi_rt0 : xq_I := fun _ _ st S => match st with
  | [] => some (.inr (none, S))
  | _ => none
def xi_rtI : xq_I := fun _ _ st S => match st with
  | [.int x] => some (.inr (some (.int x), S))
  | _ => none
def xi_rtZ : xq_I := fun _ _ st S => match st with
  | [.int x] => if x = 0 ∨ x = 1 then some (.inr (some (.int x), S)) else none
  | _ => none
def xi_rtJ : xq_I := fun _ _ st S => match st with
  | [.long x] => some (.inr (some (.long x), S))
  | _ => none
