section XQM
variable {p : Program} {l : Launch} {e : Env} {R : Room} {s : State} {m : MethodId} {args : Array Value} {below : List Frame} {meth : Method} {c0 : Code} {Q : State → Prop} {D : va_G} {cl : List vw_C} {tys : List (ClassId × FieldType)} {o : zO} {z : Nat} {X : State → Heap → Prop} {Ts : List Cond} {prog : List zM} {nL : Nat} {own : String} {cc : ByteArray} {ret : Option FieldType} {nm : String}
variable {b : Nat → Nat}
noncomputable def xq_Op (p : Program) (l : Launch) (e : Env) (R : Room) (s : State) (m : MethodId) (args : Array Value) (below : List Frame) (meth : Method) (c0 : Code) (Q : State → Prop) (D : va_G) (cl : List vw_C) (tys : List (ClassId × FieldType)) (z : Nat) (X : State → Heap → Prop) (Ts : List Cond) (prog : List zM) (nL : Nat) (cc : ByteArray) (ret : Option FieldType) (b : Nat → Nat) (pc : Nat) (sem : xq_I) : Prop :=
  ∀ (call : xq_F) (L st : List Value) (S : xq_S) (x : xq_C ⊕ xq_O), xq_Co l D cl tys z X Ts prog R b call → sem call L st S = some x → xq_X p l e R s m args below meth c0 Q D cl tys z nL cc ret b x → xq_W p l e R s m args below meth c0 Q D cl tys z nL b (pc, L, st, S)
end XQM
