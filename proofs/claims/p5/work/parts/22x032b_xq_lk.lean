def xq_lk (x : Int) : List (Int × Nat) → Nat → Nat
  | [], d => d
  | (v, t) :: ts, d => if x = v then t else xq_lk x ts d
