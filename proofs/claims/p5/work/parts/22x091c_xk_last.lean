section XQM
variable {p : Program} {l : Launch} {e : Env} {R : Room} {s : State} {m : MethodId} {args : Array Value} {below : List Frame} {meth : Method} {c0 : Code} {Q : State → Prop} {D : va_G} {cl : List vw_C} {tys : List (ClassId × FieldType)} {o : zO} {z : Nat} {X : State → Heap → Prop} {Ts : List Cond} {prog : List zM} {nL : Nat} {own : String} {cc : ByteArray} {ret : Option FieldType} {nm : String}
variable {b : Nat → Nat}
theorem xk_last (C : zCx p R s m args meth c0 D cl tys z X Ts own cc nL nm) {pc : Nat} (hd : decode cc pc = .ok (.lastore, 1)) : xq_Op p l e R s m args below meth c0 Q D cl tys z X Ts prog nL cc ret b pc (xi_last (pc + 1)) := by
  intro call L st S x _ hs hx ls ws H locs hL hM
  unfold xi_last at hs
  split at hs
  · rename_i v i k t
    split at hs
    · rename_i n hk
      split at hs
      · rename_i hi
        cases hs
        obtain ⟨e0, h1, cA, hA, F, rfl, h2⟩ := hM.1 _ _ (xq_ar_at hk)
        obtain ⟨b1, b2, b3⟩ := xq_in hi
        obtain ⟨t0, ht0⟩ := List.getElem?_of_mem hA
        refine va_last C.1 C.2.1 C.2.2.2.2.2.1 hM.2.1 hM.2.2.1 hM.2.2.2 _ t0 h1 ht0 b1 hd (fun H1 locs1 hP hD hS => ?_)
        rw [b2] at hP hD
        refine hx ls _ H1 locs1 hL ⟨xq_r_set hM.1 h1 (xq_ar_at hk) ⟨cA, hA, _, rfl, fun j hj => ?_⟩ (fun k' hk' => ⟨rfl, xq_upd_k hk', rfl⟩), hP, hD, hS⟩
        show vp_updL F i.toInt.toNat v j = xq_upd S.2.1 k i.toInt.toNat v k j
        unfold xq_upd
        by_cases h : j = i.toInt.toNat
        · rw [if_pos ⟨rfl, h⟩]
          exact if_pos h
        · rw [if_neg (fun q => h q.2)]
          exact (if_neg h).trans (h2 j hj)
      · cases hs
    · cases hs
  · cases hs
end XQM
