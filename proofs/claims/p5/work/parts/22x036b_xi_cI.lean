noncomputable def xi_cI (nx mi n : Nat) (ci : Option Nat) : xq_I := fun call L st S => match xq_pp n [] st with
  | some (as, rest) => (match Nat.ble (xq_ct rest) 8 && xq_rc ci as with
    | true => xq_bI (call mi as S) (fun x S' => some (.inl (nx, L, .int x :: rest, S')))
    | false => none)
  | none => none
noncomputable def xi_cJ (nx mi n : Nat) (ci : Option Nat) : xq_I := fun call L st S => match xq_pp n [] st with
  | some (as, rest) => (match Nat.ble (xq_ct rest) 8 && xq_rc ci as with
    | true => xq_bJ (call mi as S) (fun x S' => some (.inl (nx, L, .long x :: rest, S')))
    | false => none)
  | none => none
noncomputable def xi_cV (nx mi n : Nat) (ci : Option Nat) : xq_I := fun call L st S => match xq_pp n [] st with
  | some (as, rest) => (match Nat.ble (xq_ct rest) 8 && xq_rc ci as with
    | true => xq_bV (call mi as S) (fun S' => some (.inl (nx, L, rest, S')))
    | false => none)
  | none => none
