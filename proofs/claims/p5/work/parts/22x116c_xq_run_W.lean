section XQM
variable {p : Program} {l : Launch} {e : Env} {R : Room} {s : State} {m : MethodId} {args : Array Value} {below : List Frame} {meth : Method} {c0 : Code} {Q : State → Prop} {D : va_G} {cl : List vw_C} {tys : List (ClassId × FieldType)} {o : zO} {z : Nat} {X : State → Heap → Prop} {Ts : List Cond} {prog : List zM} {nL : Nat} {own : String} {cc : ByteArray} {ret : Option FieldType} {nm : String}
variable {b : Nat → Nat}
theorem xq_run_W {call : xq_F} {code : xq_K} {r : xq_O} (hco : xq_Co l D cl tys z X Ts prog R b call) (hops : ∀ pc sem, zrget code pc = some (some sem) → xq_Op p l e R s m args below meth c0 Q D cl tys z X Ts prog nL cc ret b pc sem) (hr : xq_R p l e R s m args below meth c0 Q D cl tys z cc ret b r) : ∀ (n : Nat) (c : xq_C), xq_run call code n c = some r → xq_W p l e R s m args below meth c0 Q D cl tys z nL b c
  | 0, c, h => by cases h
  | n + 1, c, h => by
    have h : (match xq_st call code c with
      | none => none
      | some (.inl c') => xq_run call code n c'
      | some (.inr r) => some r) = some r := h
    have hstep : ∀ x, xq_st call code c = some x → xq_X p l e R s m args below meth c0 Q D cl tys z nL cc ret b x → xq_W p l e R s m args below meth c0 Q D cl tys z nL b c := by
      intro x hx hX
      unfold xq_st at hx
      split at hx
      · rename_i sem hs
        exact hops _ _ hs call _ _ _ x hco hx hX
      · cases hx
    split at h
    · cases h
    · rename_i c' hc
      exact hstep _ hc (xq_run_W hco hops hr n c' h)
    · rename_i r' hc
      cases h
      exact hstep _ hc hr
end XQM
