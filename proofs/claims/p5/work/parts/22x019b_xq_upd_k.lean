theorem xq_upd_k {α : Type} {f : Nat → Nat → α} {k j k' : Nat} {x : α} (h : k' ≠ k) : xq_upd f k j x k' = f k' := by
  funext j'
  exact xq_upd_n (fun q => h q.1)
