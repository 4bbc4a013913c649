section XQM
variable {p : Program} {l : Launch} {e : Env} {R : Room} {s : State} {m : MethodId} {args : Array Value} {below : List Frame} {meth : Method} {c0 : Code} {Q : State → Prop} {D : va_G} {cl : List vw_C} {tys : List (ClassId × FieldType)} {o : zO} {z : Nat} {X : State → Heap → Prop} {Ts : List Cond} {prog : List zM} {nL : Nat} {own : String} {cc : ByteArray} {ret : Option FieldType} {nm : String}
variable {b : Nat → Nat}
theorem xk_iast (C : zCx p R s m args meth c0 D cl tys z X Ts own cc nL nm) {pc : Nat} (hd : decode cc pc = .ok (.iastore, 1)) : xq_Op p l e R s m args below meth c0 Q D cl tys z X Ts prog nL cc ret b pc (xi_iast (pc + 1)) := by
  intro call L st S x _ hs hx ls ws H locs hL hM
  unfold xi_iast at hs
  split at hs
  · split at hs
    · rename_i n hk
      split at hs
      · rename_i hi
        cases hs
        obtain ⟨cA, F, hA, h1, h2⟩ := xq_ari hM.1 hk (Or.inl rfl)
        obtain ⟨b1, b2, b3⟩ := xq_in hi
        obtain ⟨t0, ht0⟩ := List.getElem?_of_mem hA
        refine va_iast C.1 C.2.1 C.2.2.2.2.2.1 hM.2.1 hM.2.2.1 hM.2.2.2 _ t0 h1 ht0 b1 hd (fun H1 locs1 hP hD hS => ?_)
        rw [b2] at hP hD
        exact hx ls _ H1 locs1 hL ⟨xq_ari_set hM.1 hk (Or.inl rfl) hA h1 (xq_upd_ar h2) (fun k' hk' => xq_upd_k hk'), hP, hD, hS⟩
      · cases hs
    · cases hs
  · cases hs
end XQM
