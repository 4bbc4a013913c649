def xq_tb (x lo : Int) : List Nat → Nat → Nat
  | [], d => d
  | t :: ts, d => if x = lo then t else xq_tb x (lo + 1) ts d
