theorem xq_e_cg {b : Nat → Nat} {cl : List vw_C} {tys : List (ClassId × FieldType)} {S S' : xq_S} {k : Nat} {sh : xq_Sh} {e : va_E} (h1 : S'.1 k = S.1 k) (h2 : S'.2.1 k = S.2.1 k) (h3 : S'.2.2 k = S.2.2 k) (q : xq_e b cl tys S k sh e) : xq_e b cl tys S' k sh e := by
  unfold xq_e xq_ae xq_sl at q ⊢
  rw [h1, h2, h3]
  exact q
