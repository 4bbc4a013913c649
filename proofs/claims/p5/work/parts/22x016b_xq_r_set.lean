theorem xq_r_set {b : Nat → Nat} {cl : List vw_C} {tys : List (ClassId × FieldType)} {S S' : xq_S} {ws : va_W} {k : Nat} {sh : xq_Sh} {e e' : va_E} (hr : xq_r b cl tys S ws) (he : ws[k]? = some (b k, e)) (hsh : zrget xqT k = some sh) (hn : xq_e b cl tys S' k sh e') (hS : ∀ k', k' ≠ k → S'.1 k' = S.1 k' ∧ S'.2.1 k' = S.2.1 k' ∧ S'.2.2 k' = S.2.2 k') : xq_r b cl tys S' (ws.set k (b k, e')) := by
  intro k' sh' h'
  rw [List.getElem?_set]
  by_cases hk : k = k'
  · subst hk
    rw [hsh] at h'
    cases h'
    exact ⟨e', by rw [if_pos rfl, if_pos (List.getElem?_eq_some_iff.mp he).1], hn⟩
  · obtain ⟨e0, h1, h2⟩ := hr k' sh' h'
    obtain ⟨g1, g2, g3⟩ := hS k' (fun q => hk q.symm)
    exact ⟨e0, by rw [if_neg hk]; exact h1, xq_e_cg g1 g2 g3 h2⟩
