section XQM
variable {p : Program} {l : Launch} {e : Env} {R : Room} {s : State} {m : MethodId} {args : Array Value} {below : List Frame} {meth : Method} {c0 : Code} {Q : State → Prop} {D : va_G} {cl : List vw_C} {tys : List (ClassId × FieldType)} {o : zO} {z : Nat} {X : State → Heap → Prop} {Ts : List Cond} {prog : List zM} {nL : Nat} {own : String} {cc : ByteArray} {ret : Option FieldType} {nm : String}
variable {b : Nat → Nat}
theorem xk_pop (C : zCx p R s m args meth c0 D cl tys z X Ts own cc nL nm) {pc : Nat} (hd : decode cc pc = .ok (.pop, 1)) : xq_Op p l e R s m args below meth c0 Q D cl tys z X Ts prog nL cc ret b pc (xi_pop (pc + 1)) := by
  intro call L st S x _ hs hx ls ws H locs hL hM
  unfold xi_pop at hs
  split at hs
  · cases hs
    exact lv_pop C.1 C.2.1 hd rfl (hx ls ws H locs hL hM)
  · cases hs
    exact lv_pop C.1 C.2.1 hd rfl (hx ls ws H locs hL hM)
  · cases hs
end XQM
