theorem xq_ar_at {k t n : Nat} (h : xq_ar k = some (t, n)) : zrget xqT k = some (.inr (t, n)) := by
  unfold xq_ar at h
  split at h
  · rename_i q hq
    cases h
    exact hq
  · cases h
