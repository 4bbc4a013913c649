section XQM
variable {p : Program} {l : Launch} {e : Env} {R : Room} {s : State} {m : MethodId} {args : Array Value} {below : List Frame} {meth : Method} {c0 : Code} {Q : State → Prop} {D : va_G} {cl : List vw_C} {tys : List (ClassId × FieldType)} {o : zO} {z : Nat} {X : State → Heap → Prop} {Ts : List Cond} {prog : List zM} {nL : Nat} {own : String} {cc : ByteArray} {ret : Option FieldType} {nm : String}
variable {b : Nat → Nat}
noncomputable def xq_Q (D : va_G) (cl : List vw_C) (tys : List (ClassId × FieldType)) (z : Nat) (b : Nat → Nat) (r : xq_O) : Array Value → State → Outcome → State → Prop := fun _ st oc t => (oc = .returned (r.1.map (xq_v b)) ∧ ∃ ws', xq_r b cl tys r.2 ws' ∧ va_P D cl ws' t.heap ∧ va_D (zA z) ws') ∧ va_F (zA z) st t
end XQM
