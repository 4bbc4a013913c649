section XQM
variable {p : Program} {l : Launch} {e : Env} {R : Room} {s : State} {m : MethodId} {args : Array Value} {below : List Frame} {meth : Method} {c0 : Code} {Q : State → Prop} {D : va_G} {cl : List vw_C} {tys : List (ClassId × FieldType)} {o : zO} {z : Nat} {X : State → Heap → Prop} {Ts : List Cond} {prog : List zM} {nL : Nat} {own : String} {cc : ByteArray} {ret : Option FieldType} {nm : String}
variable {b : Nat → Nat}
noncomputable def xq_D (xp : List (Option (Nat × xq_K))) : Nat → xq_F
  | 0 => fun _ _ _ => none
  | d + 1 => fun mi vs S => match zget xp mi with
    | some (some q) => (match Nat.ble (xq_ct vs) q.1 with
      | true => xq_E (xq_D xp d) q.2 (0, xq_as q.1 vs, [], S)
      | false => none)
    | _ => none
end XQM
