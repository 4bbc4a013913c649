section XQM
variable {p : Program} {l : Launch} {e : Env} {R : Room} {s : State} {m : MethodId} {args : Array Value} {below : List Frame} {meth : Method} {c0 : Code} {Q : State → Prop} {D : va_G} {cl : List vw_C} {tys : List (ClassId × FieldType)} {o : zO} {z : Nat} {X : State → Heap → Prop} {Ts : List Cond} {prog : List zM} {nL : Nat} {own : String} {cc : ByteArray} {ret : Option FieldType} {nm : String}
variable {b : Nat → Nat}
theorem xk_ldI (C : zCx p R s m args meth c0 D cl tys z X Ts own cc nL nm) {pc nx i : Nat} (row : ∀ (H : Heap) (locs : List Loc) (cells slots : Nat) (ls : Array Slot) (rest : List Value) (x : Int32), ls[i]? = some (.val (.int x)) → W p l e R s m args below meth c0 H locs cells slots Q (F0 m nx ls (.int x :: rest)) → W p l e R s m args below meth c0 H locs cells slots Q (F0 m pc ls rest)) : xq_Op p l e R s m args below meth c0 Q D cl tys z X Ts prog nL cc ret b pc (xi_ldI nx i) := by
  intro call L st S x _ hs hx ls ws H locs hL hM
  unfold xi_ldI at hs
  split at hs
  · rename_i v hv
    cases hs
    exact row _ _ _ _ _ _ _ (hL.2.2 i _ hv (fun q => by cases q)) (hx ls ws H locs hL hM)
  · cases hs
end XQM
