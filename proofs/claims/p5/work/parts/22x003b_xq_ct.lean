def xq_ct : List Value → Nat
  | [] => 0
  | v :: t => v.category + xq_ct t
