def xq_pp : Nat → List Value → List Value → Option (List Value × List Value)
  | 0, acc, st => some (acc, st)
  | n + 1, acc, a :: st => xq_pp n (a :: acc) st
  | _ + 1, _, [] => none
