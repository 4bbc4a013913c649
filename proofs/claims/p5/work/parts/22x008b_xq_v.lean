def xq_v (b : Nat → Nat) (v : Value) : Value := match v with
  | .ref k => .ref (b k)
  | v => v
