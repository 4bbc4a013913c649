section XQM
variable {p : Program} {l : Launch} {e : Env} {R : Room} {s : State} {m : MethodId} {args : Array Value} {below : List Frame} {meth : Method} {c0 : Code} {Q : State → Prop} {D : va_G} {cl : List vw_C} {tys : List (ClassId × FieldType)} {o : zO} {z : Nat} {X : State → Heap → Prop} {Ts : List Cond} {prog : List zM} {nL : Nat} {own : String} {cc : ByteArray} {ret : Option FieldType} {nm : String}
variable {b : Nat → Nat}
noncomputable def xq_R (p : Program) (l : Launch) (e : Env) (R : Room) (s : State) (m : MethodId) (args : Array Value) (below : List Frame) (meth : Method) (c0 : Code) (Q : State → Prop) (D : va_G) (cl : List vw_C) (tys : List (ClassId × FieldType)) (z : Nat) (cc : ByteArray) (ret : Option FieldType) (b : Nat → Nat) (r : xq_O) : Prop :=
  ∀ (pc : Nat) (ls : Array Slot) (ws : va_W) (H : Heap) (locs : List Loc), zRetI cc ret pc (r.1.map (xq_v b)) → xq_M b D cl tys z s.heap r.2 ws H locs → W p l e R s m args below meth c0 H locs 0 0 Q (F0 m pc ls (r.1.map (xq_v b)).toList)
end XQM
