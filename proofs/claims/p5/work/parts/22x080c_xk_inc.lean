section XQM
variable {p : Program} {l : Launch} {e : Env} {R : Room} {s : State} {m : MethodId} {args : Array Value} {below : List Frame} {meth : Method} {c0 : Code} {Q : State → Prop} {D : va_G} {cl : List vw_C} {tys : List (ClassId × FieldType)} {o : zO} {z : Nat} {X : State → Heap → Prop} {Ts : List Cond} {prog : List zM} {nL : Nat} {own : String} {cc : ByteArray} {ret : Option FieldType} {nm : String}
variable {b : Nat → Nat}
theorem xk_inc (C : zCx p R s m args meth c0 D cl tys z X Ts own cc nL nm) {pc i : Nat} {n : Int} (hd : decode cc pc = .ok (.iinc i n, 3)) (hi : i < nL) {c : Int32} (hc : Int32.ofInt n = c) : xq_Op p l e R s m args below meth c0 Q D cl tys z X Ts prog nL cc ret b pc (xi_inc (pc + 3) i c) := by
  subst hc
  intro call L st S x _ hs hx ls ws H locs hL hM
  unfold xi_inc at hs
  split at hs
  · rename_i v hv
    cases hs
    have h1 := xq_lv_of (b := b) (i := 0) hv (fun q => by cases q)
    rw [Nat.zero_add] at h1
    obtain ⟨k, hk⟩ := List.getElem?_of_mem h1
    exact lv_iinc C.1 C.2.1 hd (xq_lv_has hL) hk rfl hi rfl (fun ls' hl' => hx ls' ws H locs (xq_L_st (v := .int (v + Int32.ofInt n)) hL hl') hM)
  · cases hs
end XQM
