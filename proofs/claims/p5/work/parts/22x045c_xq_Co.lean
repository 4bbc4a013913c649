section XQM
variable {p : Program} {l : Launch} {e : Env} {R : Room} {s : State} {m : MethodId} {args : Array Value} {below : List Frame} {meth : Method} {c0 : Code} {Q : State → Prop} {D : va_G} {cl : List vw_C} {tys : List (ClassId × FieldType)} {o : zO} {z : Nat} {X : State → Heap → Prop} {Ts : List Cond} {prog : List zM} {nL : Nat} {own : String} {cc : ByteArray} {ret : Option FieldType} {nm : String}
variable {b : Nat → Nat}
noncomputable def xq_Co (l : Launch) (D : va_G) (cl : List vw_C) (tys : List (ClassId × FieldType)) (z : Nat) (X : State → Heap → Prop) (Ts : List Cond) (prog : List zM) (R : Room) (b : Nat → Nat) (call : xq_F) : Prop :=
  ∀ mi mr vs S r, zget prog mi = some mr → call mi vs S = some r → mr.2.2.2.2.1 = 0 ∧ mr.2.2.2.2.2.1 = 0 ∧ ∃ fr lo, fr + 1 ≤ R.frames ∧ 8 + (mr.2.2.1 + 11) + lo ≤ R.locals ∧ xq_Mt l D cl tys z X Ts b mr fr lo vs S r
end XQM
