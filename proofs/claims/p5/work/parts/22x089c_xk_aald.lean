section XQM
variable {p : Program} {l : Launch} {e : Env} {R : Room} {s : State} {m : MethodId} {args : Array Value} {below : List Frame} {meth : Method} {c0 : Code} {Q : State → Prop} {D : va_G} {cl : List vw_C} {tys : List (ClassId × FieldType)} {o : zO} {z : Nat} {X : State → Heap → Prop} {Ts : List Cond} {prog : List zM} {nL : Nat} {own : String} {cc : ByteArray} {ret : Option FieldType} {nm : String}
variable {b : Nat → Nat}
theorem xk_aald (C : zCx p R s m args meth c0 D cl tys z X Ts own cc nL nm) {pc : Nat} (hd : decode cc pc = .ok (.aaload, 1)) : xq_Op p l e R s m args below meth c0 Q D cl tys z X Ts prog nL cc ret b pc (xi_aald (pc + 1)) := by
  intro call L st S x _ hs hx ls ws H locs hL hM
  unfold xi_aald at hs
  split at hs
  · split at hs
    · rename_i t3 n hk
      split at hs
      · rename_i hi
        cases hs
        obtain ⟨e0, h1, cA, hA, F, rfl, h2⟩ := hM.1 _ _ (xq_ar_at hk)
        obtain ⟨b1, b2, b3⟩ := xq_in hi
        obtain ⟨t0, ht0⟩ := List.getElem?_of_mem hA
        refine va_aldq C.1 C.2.1 C.2.2.2.2.2.1 hM.2.1 _ t0 h1 ht0 b1 hd ?_
        rw [b2, h2 _ b3]
        exact hx ls ws H locs hL hM
      · cases hs
    · cases hs
  · cases hs
end XQM
