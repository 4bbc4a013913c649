noncomputable def xq_sl (b : Nat → Nat) (t : Nat) (S : xq_S) (k j : Nat) : Value := match t with
  | 0 => .int (S.1 k j)
  | 1 => .long (S.2.1 k j)
  | 2 => .ref (b (xq_sr k j))
  | 3 => if S.2.2 k j = 0 then .null else .ref (b (S.2.2 k j))
  | _ => .int (S.1 k j)
