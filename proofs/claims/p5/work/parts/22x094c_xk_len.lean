section XQM
variable {p : Program} {l : Launch} {e : Env} {R : Room} {s : State} {m : MethodId} {args : Array Value} {below : List Frame} {meth : Method} {c0 : Code} {Q : State → Prop} {D : va_G} {cl : List vw_C} {tys : List (ClassId × FieldType)} {o : zO} {z : Nat} {X : State → Heap → Prop} {Ts : List Cond} {prog : List zM} {nL : Nat} {own : String} {cc : ByteArray} {ret : Option FieldType} {nm : String}
variable {b : Nat → Nat}
theorem xk_len (C : zCx p R s m args meth c0 D cl tys z X Ts own cc nL nm) {pc : Nat} (hd : decode cc pc = .ok (.arraylength, 1)) : xq_Op p l e R s m args below meth c0 Q D cl tys z X Ts prog nL cc ret b pc (xi_len (pc + 1)) := by
  intro call L st S x _ hs hx ls ws H locs hL hM
  unfold xi_len at hs
  split at hs
  · split at hs
    · rename_i t n hk
      cases hs
      obtain ⟨e0, h1, cA, hA, h2⟩ := hM.1 _ _ (xq_ar_at hk)
      obtain ⟨x, rfl, hx0⟩ := xq_ae_len h2
      obtain ⟨t0, ht0⟩ := List.getElem?_of_mem hA
      refine va_alen C.1 C.2.1 C.2.2.2.2.2.1 hM.2.1 _ t0 h1 ht0 rfl hd ?_
      rw [hx0]
      exact hx ls ws H locs hL hM
    · cases hs
  · cases hs
end XQM
