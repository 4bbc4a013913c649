noncomputable def xi_copy (nx : Nat) : xq_I := fun _ L st S => match st with
  | .int n :: .int dp :: .ref kd :: .int sp :: .ref ks :: t => (match xq_ar ks with
    | some (0, n0) => (match xq_ar kd with
      | some (0, n1) => (match Nat.ble (xq_ct t) 8 with
        | true => if 0 ≤ sp.toInt ∧ 0 ≤ dp.toInt ∧ 0 ≤ n.toInt ∧ sp.toInt + n.toInt ≤ (n0 : Int) ∧ dp.toInt + n.toInt ≤ (n1 : Int) then some (.inl (nx, L, t, (xq_cpy S.1 ks sp.toInt.toNat kd dp.toInt.toNat n.toInt.toNat, S.2))) else none
        | false => none)
      | _ => none)
    | _ => none)
  | _ => none
def xi_m2 (nx : Nat) (g : Int32 → Int32 → Int32) : xq_I := fun _ L st S => match st with
  | .int y :: .int x :: t => (match Nat.ble (xq_ct t) 8 with
    | true => some (.inl (nx, L, .int (g x y) :: t, S))
    | false => none)
  | _ => none
def xi_m1 (nx : Nat) (g : Int32 → Int32) : xq_I := fun _ L st S => match st with
  | .int x :: t => (match Nat.ble (xq_ct t) 8 with
    | true => some (.inl (nx, L, .int (g x) :: t, S))
    | false => none)
  | _ => none
