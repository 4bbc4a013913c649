section XQM
variable {p : Program} {l : Launch} {e : Env} {R : Room} {s : State} {m : MethodId} {args : Array Value} {below : List Frame} {meth : Method} {c0 : Code} {Q : State → Prop} {D : va_G} {cl : List vw_C} {tys : List (ClassId × FieldType)} {o : zO} {z : Nat} {X : State → Heap → Prop} {Ts : List Cond} {prog : List zM} {nL : Nat} {own : String} {cc : ByteArray} {ret : Option FieldType} {nm : String}
variable {b : Nat → Nat}
noncomputable def xq_St (D : va_G) (cl : List vw_C) (tys : List (ClassId × FieldType)) (z : Nat) (X : State → Heap → Prop) (b : Nat → Nat) (S : xq_S) (ws : va_W) (U : State) : Prop := xq_r b cl tys S ws ∧ va_P D cl ws U.heap ∧ va_D (zA z) ws ∧ va_K D cl tys U ∧ X U U.heap ∧ z ≤ U.heap.size
end XQM
