theorem xq_upd_ar {F : Nat → Int32} {f : Nat → Nat → Int32} {k n i : Nat} {x : Int32} (hF : ∀ i, i < n → F i = f k i) : ∀ j, j < n → upd F i x j = xq_upd f k i x k j := by
  intro j hj
  unfold upd xq_upd
  by_cases h : j = i
  · rw [if_pos h, if_pos ⟨rfl, h⟩]
  · rw [if_neg h, if_neg (fun q => h q.2)]
    exact hF j hj
