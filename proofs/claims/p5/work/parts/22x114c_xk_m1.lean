section XQM
variable {p : Program} {l : Launch} {e : Env} {R : Room} {s : State} {m : MethodId} {args : Array Value} {below : List Frame} {meth : Method} {c0 : Code} {Q : State → Prop} {D : va_G} {cl : List vw_C} {tys : List (ClassId × FieldType)} {o : zO} {z : Nat} {X : State → Heap → Prop} {Ts : List Cond} {prog : List zM} {nL : Nat} {own : String} {cc : ByteArray} {ret : Option FieldType} {nm : String}
variable {b : Nat → Nat}
theorem xk_m1 (C : zCx p R s m args meth c0 D cl tys z X Ts own cc nL nm) {pc nx : Nat} {g : Int32 → Int32} (row : ∀ (H : Heap) (locs : List Loc) (cells slots : Nat) (ls : Array Slot) (rest : List Value) (x : Int32), c0.maxLocals = ls.size → 1 ≤ R.frames → (rest.map fun v => v.category).sum + 13 ≤ R.locals → cells ≤ R.cells → slots ≤ R.slots → W p l e R s m args below meth c0 H locs cells slots Q (F0 m nx ls (.int (g x) :: rest)) → W p l e R s m args below meth c0 H locs cells slots Q (F0 m pc ls (.int x :: rest))) : xq_Op p l e R s m args below meth c0 Q D cl tys z X Ts prog nL cc ret b pc (xi_m1 nx g) := by
  intro call L st S x _ hs hx ls ws H locs hL hM
  unfold xi_m1 at hs
  split at hs
  · rename_i v1 t
    split at hs
    · rename_i hct
      have hct := Nat.le_of_ble_eq_true hct
      have hct2 := xq_ct_ok (b := b) t
      have hlo := C.2.2.2.2.2.2.2.2.2.2
      cases hs
      exact row _ _ _ _ _ _ _ (C.2.2.1.trans hL.1.symm) C.2.2.2.2.2.2.2.2.2.1 (by rw [hct2]; omega) (Nat.zero_le _) (Nat.zero_le _) (hx ls ws H locs hL hM)
    · cases hs
  · cases hs
end XQM
