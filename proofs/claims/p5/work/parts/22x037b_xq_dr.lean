def xq_dr (ks : List Nat) (L : List Value) : List Value := match ks with
  | [] => L
  | k :: t => xq_dr t (L.set k .null)
