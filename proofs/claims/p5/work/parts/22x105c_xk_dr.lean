section XQM
variable {p : Program} {l : Launch} {e : Env} {R : Room} {s : State} {m : MethodId} {args : Array Value} {below : List Frame} {meth : Method} {c0 : Code} {Q : State → Prop} {D : va_G} {cl : List vw_C} {tys : List (ClassId × FieldType)} {o : zO} {z : Nat} {X : State → Heap → Prop} {Ts : List Cond} {prog : List zM} {nL : Nat} {own : String} {cc : ByteArray} {ret : Option FieldType} {nm : String}
variable {b : Nat → Nat}
theorem xk_dr {pc : Nat} {ks : List Nat} {sem : xq_I} (h : xq_Op p l e R s m args below meth c0 Q D cl tys z X Ts prog nL cc ret b pc sem) : xq_Op p l e R s m args below meth c0 Q D cl tys z X Ts prog nL cc ret b pc (xi_dr ks sem) := by
  intro call L st S x hco hs hx
  unfold xi_dr at hs
  split at hs
  · rename_i c hc
    cases hs
    exact h call L st S _ hco hc (fun ls ws H locs hL hM => hx ls ws H locs ⟨hL.1, hL.2.1, fun i v hv hn => hL.2.2 i v (xq_dr_at hv hn) hn⟩ hM)
  · rename_i hn
    exact h call L st S x hco hs hx
end XQM
