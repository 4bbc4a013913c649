theorem xq_slot {b : Nat → Nat} {cl : List vw_C} {tys : List (ClassId × FieldType)} {S : xq_S} {ws : va_W} (hr : xq_r b cl tys S ws) {k ci j t : Nat} (h : xq_kd k ci j = some t) : ∃ vs, ws[k]? = some (b k, .inr (ci, vs)) ∧ vs[j]? = some (xq_sl b t S k j) := by
  obtain ⟨ks, h1, h2⟩ := xq_kd_at h
  obtain ⟨e, he, vs, rfl, hl, hv⟩ := hr k _ h1
  exact ⟨vs, he, hv j t h2⟩
