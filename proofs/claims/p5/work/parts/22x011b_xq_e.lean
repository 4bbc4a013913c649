noncomputable def xq_e (b : Nat → Nat) (cl : List vw_C) (tys : List (ClassId × FieldType)) (S : xq_S) (k : Nat) (sh : xq_Sh) (e : va_E) : Prop := match sh with
  | .inl q => ∃ vs, e = .inr (q.1, vs) ∧ vs.length = q.2.length ∧ ∀ j t, q.2[j]? = some t → vs[j]? = some (xq_sl b t S k j)
  | .inr q => ∃ cA, (cA, zty cl q.1) ∈ tys ∧ xq_ae b S k q.1 q.2 cA e
