section XQM
variable {p : Program} {l : Launch} {e : Env} {R : Room} {s : State} {m : MethodId} {args : Array Value} {below : List Frame} {meth : Method} {c0 : Code} {Q : State → Prop} {D : va_G} {cl : List vw_C} {tys : List (ClassId × FieldType)} {o : zO} {z : Nat} {X : State → Heap → Prop} {Ts : List Cond} {prog : List zM} {nL : Nat} {own : String} {cc : ByteArray} {ret : Option FieldType} {nm : String}
variable {b : Nat → Nat}
noncomputable def xq_X (p : Program) (l : Launch) (e : Env) (R : Room) (s : State) (m : MethodId) (args : Array Value) (below : List Frame) (meth : Method) (c0 : Code) (Q : State → Prop) (D : va_G) (cl : List vw_C) (tys : List (ClassId × FieldType)) (z : Nat) (nL : Nat) (cc : ByteArray) (ret : Option FieldType) (b : Nat → Nat) (x : xq_C ⊕ xq_O) : Prop := match x with
  | .inl c => xq_W p l e R s m args below meth c0 Q D cl tys z nL b c
  | .inr r => xq_R p l e R s m args below meth c0 Q D cl tys z cc ret b r
end XQM
