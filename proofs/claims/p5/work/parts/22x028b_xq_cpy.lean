def xq_cpy (f : Nat → Nat → Int32) (ks sp kd dp n : Nat) : Nat → Nat → Int32 := fun k j => if k = kd ∧ dp ≤ j ∧ j < dp + n then f ks (sp + (j - dp)) else f k j
