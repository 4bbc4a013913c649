section XQM
variable {p : Program} {l : Launch} {e : Env} {R : Room} {s : State} {m : MethodId} {args : Array Value} {below : List Frame} {meth : Method} {c0 : Code} {Q : State → Prop} {D : va_G} {cl : List vw_C} {tys : List (ClassId × FieldType)} {o : zO} {z : Nat} {X : State → Heap → Prop} {Ts : List Cond} {prog : List zM} {nL : Nat} {own : String} {cc : ByteArray} {ret : Option FieldType} {nm : String}
variable {b : Nat → Nat}
theorem xk_rtZ (C : zCx p R s m args meth c0 D cl tys z X Ts own cc nL nm) {pc : Nat} (hr : ret = some .boolean) (hd : decode cc pc = .ok (.ireturn, 1)) : xq_Op p l e R s m args below meth c0 Q D cl tys z X Ts prog nL cc ret b pc xi_rtZ := by
  intro call L st S x _ hs hx ls ws H locs hL hM
  unfold xi_rtZ at hs
  split at hs
  · rename_i v
    split at hs
    · rename_i h01
      cases hs
      have hnf : narrow .boolean (.int v) = .int v := by rcases h01 with rfl | rfl <;> decide
      exact hx pc ls ws H locs (Or.inl ⟨_, .boolean, rfl, hr, hnf, hd⟩) hM
    · cases hs
  · cases hs
end XQM
