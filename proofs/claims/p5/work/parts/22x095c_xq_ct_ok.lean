section XQM
variable {p : Program} {l : Launch} {e : Env} {R : Room} {s : State} {m : MethodId} {args : Array Value} {below : List Frame} {meth : Method} {c0 : Code} {Q : State → Prop} {D : va_G} {cl : List vw_C} {tys : List (ClassId × FieldType)} {o : zO} {z : Nat} {X : State → Heap → Prop} {Ts : List Cond} {prog : List zM} {nL : Nat} {own : String} {cc : ByteArray} {ret : Option FieldType} {nm : String}
variable {b : Nat → Nat}
theorem xq_ct_ok : ∀ (st : List Value), ((st.map (xq_v b)).map fun v => v.category).sum = xq_ct st
  | [] => rfl
  | v :: t => by
    show (xq_v b v).category + ((t.map (xq_v b)).map fun v => v.category).sum = v.category + xq_ct t
    rw [xq_ct_ok t, xq_v_cat]
end XQM
