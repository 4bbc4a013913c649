theorem xq_in {x : Int32} {n : Nat} (h : 0 ≤ x.toInt ∧ x.toInt < (n : Int)) : vp_in x n ∧ x.toNatClampNeg = x.toInt.toNat ∧ x.toInt.toNat < n := ⟨vp_in_iff.mpr ⟨h.1, h.2⟩, rfl, by omega⟩
