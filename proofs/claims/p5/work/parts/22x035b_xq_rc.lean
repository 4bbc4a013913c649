noncomputable def xq_rc (ci : Option Nat) (as : List Value) : Bool := match ci with
  | none => true
  | some c => (match as with
    | .ref k :: _ => xq_cl k c
    | _ => false)
