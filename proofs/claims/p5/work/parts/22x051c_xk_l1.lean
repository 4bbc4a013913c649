section XQM
variable {p : Program} {l : Launch} {e : Env} {R : Room} {s : State} {m : MethodId} {args : Array Value} {below : List Frame} {meth : Method} {c0 : Code} {Q : State → Prop} {D : va_G} {cl : List vw_C} {tys : List (ClassId × FieldType)} {o : zO} {z : Nat} {X : State → Heap → Prop} {Ts : List Cond} {prog : List zM} {nL : Nat} {own : String} {cc : ByteArray} {ret : Option FieldType} {nm : String}
variable {b : Nat → Nat}
theorem xk_l1 (C : zCx p R s m args meth c0 D cl tys z X Ts own cc nL nm) {pc nx : Nat} {g : Int64 → Int64} (row : ∀ (H : Heap) (locs : List Loc) (cells slots : Nat) (ls : Array Slot) (rest : List Value) (x : Int64), W p l e R s m args below meth c0 H locs cells slots Q (F0 m nx ls (.long (g x) :: rest)) → W p l e R s m args below meth c0 H locs cells slots Q (F0 m pc ls (.long x :: rest))) : xq_Op p l e R s m args below meth c0 Q D cl tys z X Ts prog nL cc ret b pc (xi_l1 nx g) := by
  intro call L st S x _ hs hx ls ws H locs hL hM
  unfold xi_l1 at hs
  split at hs
  · cases hs
    exact row _ _ _ _ _ _ _ (hx ls ws H locs hL hM)
  · cases hs
end XQM
