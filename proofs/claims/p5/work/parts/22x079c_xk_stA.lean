section XQM
variable {p : Program} {l : Launch} {e : Env} {R : Room} {s : State} {m : MethodId} {args : Array Value} {below : List Frame} {meth : Method} {c0 : Code} {Q : State → Prop} {D : va_G} {cl : List vw_C} {tys : List (ClassId × FieldType)} {o : zO} {z : Nat} {X : State → Heap → Prop} {Ts : List Cond} {prog : List zM} {nL : Nat} {own : String} {cc : ByteArray} {ret : Option FieldType} {nm : String}
variable {b : Nat → Nat}
theorem xk_stA (C : zCx p R s m args meth c0 D cl tys z X Ts own cc nL nm) {pc nx i : Nat} (row : ∀ (H : Heap) (locs : List Loc) (cells slots : Nat) (ls : Array Slot) (rest : List Value) (x : Nat) (lv : List (Nat × Value)), lv_has ls nL lv → (∀ ls' : Array Slot, lv_has ls' nL ((i, Value.ref x) :: lv.filter (fun q => !(q.1 == i) && !(q.1 + 1 == i && q.2.category == 2))) → W p l e R s m args below meth c0 H locs cells slots Q (F0 m nx ls' rest)) → W p l e R s m args below meth c0 H locs cells slots Q (F0 m pc ls (.ref x :: rest))) : xq_Op p l e R s m args below meth c0 Q D cl tys z X Ts prog nL cc ret b pc (xi_stA nx i) := by
  intro call L st S x _ hs hx ls ws H locs hL hM
  unfold xi_stA at hs
  split at hs
  · cases hs
    exact row _ _ _ _ _ _ _ _ (xq_lv_has hL) (fun ls' hl' => hx ls' ws H locs (xq_L_st hL hl') hM)
  · cases hs
end XQM
