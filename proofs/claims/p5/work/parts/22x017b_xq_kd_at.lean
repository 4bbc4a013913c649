theorem xq_kd_at {k ci j t : Nat} (h : xq_kd k ci j = some t) : ∃ ks : List Nat, zrget xqT k = some (.inl (ci, ks)) ∧ ks[j]? = some t := by
  unfold xq_kd at h
  split at h
  · rename_i q hq
    split at h
    · rename_i hb
      have hb := Nat.eq_of_beq_eq_true hb
      obtain ⟨c, ks⟩ := q
      have hb : c = ci := hb
      subst hb
      rw [zget_eq] at h
      exact ⟨ks, hq, h⟩
    · cases h
  · cases h
