theorem xq_ari_set {b : Nat → Nat} {cl : List vw_C} {tys : List (ClassId × FieldType)} {S : xq_S} {ws : va_W} (hr : xq_r b cl tys S ws) {k t n : Nat} (h : xq_ar k = some (t, n)) (ht : t = 0 ∨ t = 2 ∨ t = 3) {cA : ClassId} {F F' : Nat → Int32} {f' : Nat → Nat → Int32} (hA : (cA, zty cl t) ∈ tys) (he : ws[k]? = some (b k, .inl (cA, n, .inl F))) (hF : ∀ i, i < n → F' i = f' k i) (hf : ∀ k', k' ≠ k → f' k' = S.1 k') : xq_r b cl tys (f', S.2) (ws.set k (b k, .inl (cA, n, .inl F'))) := by
  refine xq_r_set hr he (xq_ar_at h) ⟨cA, hA, ?_⟩ (fun k' hk => ⟨hf k' hk, rfl, rfl⟩)
  rcases ht with rfl | rfl | rfl
  · exact ⟨F', rfl, hF⟩
  · exact ⟨F', rfl, hF⟩
  · exact ⟨F', rfl, hF⟩
