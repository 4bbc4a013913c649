section XQM
variable {p : Program} {l : Launch} {e : Env} {R : Room} {s : State} {m : MethodId} {args : Array Value} {below : List Frame} {meth : Method} {c0 : Code} {Q : State → Prop} {D : va_G} {cl : List vw_C} {tys : List (ClassId × FieldType)} {o : zO} {z : Nat} {X : State → Heap → Prop} {Ts : List Cond} {prog : List zM} {nL : Nat} {own : String} {cc : ByteArray} {ret : Option FieldType} {nm : String}
variable {b : Nat → Nat}
noncomputable def xq_Mt (l : Launch) (D : va_G) (cl : List vw_C) (tys : List (ClassId × FieldType)) (z : Nat) (X : State → Heap → Prop) (Ts : List Cond) (b : Nat → Nat) (mr : zM) (fr lo : Nat) (vs : List Value) (S : xq_S) (r : xq_O) : Prop :=
  ∀ ws : va_W, xq_r b cl tys S ws → Met l mr.1 (.code mr.1 mr.2.1 mr.2.2.1 mr.2.2.2.1 :: Ts) { frames := fr, cells := mr.2.2.2.2.1, slots := mr.2.2.2.2.2.1, locals := lo } (va_Pc (vs.map (xq_v b)) (xq_St D cl tys z X b S ws)) (xq_Q D cl tys z b r) mr.2.2.2.2.1 mr.2.2.2.2.2.1 (zA z)
end XQM
