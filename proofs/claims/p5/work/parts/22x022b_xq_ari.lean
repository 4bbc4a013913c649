theorem xq_ari {b : Nat → Nat} {cl : List vw_C} {tys : List (ClassId × FieldType)} {S : xq_S} {ws : va_W} (hr : xq_r b cl tys S ws) {k t n : Nat} (h : xq_ar k = some (t, n)) (ht : t = 0 ∨ t = 2 ∨ t = 3) : ∃ cA F, (cA, zty cl t) ∈ tys ∧ ws[k]? = some (b k, .inl (cA, n, .inl F)) ∧ ∀ i, i < n → F i = S.1 k i := by
  obtain ⟨e, he, cA, hA, hF⟩ := hr k _ (xq_ar_at h)
  rcases ht with rfl | rfl | rfl
  · obtain ⟨F, rfl, h2⟩ := hF
    exact ⟨cA, F, hA, he, h2⟩
  · obtain ⟨F, rfl, h2⟩ := hF
    exact ⟨cA, F, hA, he, h2⟩
  · obtain ⟨F, rfl, h2⟩ := hF
    exact ⟨cA, F, hA, he, h2⟩
