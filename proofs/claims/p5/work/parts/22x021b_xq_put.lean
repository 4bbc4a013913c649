theorem xq_put {b : Nat → Nat} {cl : List vw_C} {tys : List (ClassId × FieldType)} {S S' : xq_S} {ws : va_W} (hr : xq_r b cl tys S ws) {k ci j t : Nat} (h : xq_kd k ci j = some t) {vs : List Value} (he : ws[k]? = some (b k, .inr (ci, vs))) {v : Value} (hv : xq_sl b t S' k j = v) (hS : ∀ k' j', ¬ (k' = k ∧ j' = j) → S'.1 k' j' = S.1 k' j' ∧ S'.2.1 k' j' = S.2.1 k' j' ∧ S'.2.2 k' j' = S.2.2 k' j') : xq_r b cl tys S' (ws.set k (b k, .inr (ci, vs.set j v))) := by
  obtain ⟨ks, h1, h2⟩ := xq_kd_at h
  obtain ⟨e, he0, vs0, rfl, hl, hv0⟩ := hr k _ h1
  rw [he] at he0
  cases he0
  refine xq_r_set hr he h1 ⟨_, rfl, by rw [List.length_set]; exact hl, fun j' t' hj' => ?_⟩ (fun k' hk => ⟨funext fun j' => (hS k' j' (fun q => hk q.1)).1, funext fun j' => (hS k' j' (fun q => hk q.1)).2.1, funext fun j' => (hS k' j' (fun q => hk q.1)).2.2⟩)
  rw [List.getElem?_set]
  by_cases hj : j = j'
  · subst hj
    have h2 : ks[j]? = some t := h2
    have hj' : ks[j]? = some t' := hj'
    rw [h2] at hj'
    cases hj'
    rw [if_pos rfl, if_pos (by rw [hl]; exact (List.getElem?_eq_some_iff.mp h2).1), hv]
  · rw [if_neg hj, hv0 j' t' hj']
    obtain ⟨g1, g2, g3⟩ := hS k j' (fun q => hj q.2.symm)
    unfold xq_sl
    rw [g1, g2, g3]
