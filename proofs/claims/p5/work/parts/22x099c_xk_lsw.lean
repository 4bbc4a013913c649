section XQM
variable {p : Program} {l : Launch} {e : Env} {R : Room} {s : State} {m : MethodId} {args : Array Value} {below : List Frame} {meth : Method} {c0 : Code} {Q : State → Prop} {D : va_G} {cl : List vw_C} {tys : List (ClassId × FieldType)} {o : zO} {z : Nat} {X : State → Heap → Prop} {Ts : List Cond} {prog : List zM} {nL : Nat} {own : String} {cc : ByteArray} {ret : Option FieldType} {nm : String}
variable {b : Nat → Nat}
theorem xk_lsw (C : zCx p R s m args meth c0 D cl tys z X Ts own cc nL nm) {pc len d : Nat} {dflt : Int} {ps : Array (Int × Int)} {ts : List (Int × Nat)} (hd : decode cc pc = .ok (.lookupswitch dflt ps, len)) (hdf : (pc : Int) + dflt = (d : Int)) (hp : (ps.toList.zip (ps.toList.drop 1)).all (fun (a, next) => a.1 < next.1) = true) (hsw : ∀ v : Int, (pc : Int) + Op.lookupswitch.offset ps.toList dflt v = (zlsw v ts d : Int)) : xq_Op p l e R s m args below meth c0 Q D cl tys z X Ts prog nL cc ret b pc (xi_lsw ts d) := by
  intro call L st S x _ hs hx ls ws H locs hL hM
  unfold xi_lsw at hs
  split at hs
  · rename_i v r
    cases hs
    have hx : xq_W p l e R s m args below meth c0 Q D cl tys z nL b (xq_lk v.toInt ts d, L, r, S) := hx
    rw [xq_lk_eq] at hx
    exact lv_lookup C.1 C.2.1 hd hp rfl (hsw _) (hx ls ws H locs hL hM)
  · cases hs
end XQM
