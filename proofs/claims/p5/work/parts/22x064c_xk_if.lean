section XQM
variable {p : Program} {l : Launch} {e : Env} {R : Room} {s : State} {m : MethodId} {args : Array Value} {below : List Frame} {meth : Method} {c0 : Code} {Q : State → Prop} {D : va_G} {cl : List vw_C} {tys : List (ClassId × FieldType)} {o : zO} {z : Nat} {X : State → Heap → Prop} {Ts : List Cond} {prog : List zM} {nL : Nat} {own : String} {cc : ByteArray} {ret : Option FieldType} {nm : String}
variable {b : Nat → Nat}
theorem xk_if (C : zCx p R s m args meth c0 D cl tys z X Ts own cc nL nm) {pc nx t : Nat} {P : Int32 → Prop} {d : ∀ x, Decidable (P x)} (row : ∀ (H : Heap) (locs : List Loc) (cells slots : Nat) (ls : Array Slot) (rest : List Value) (x : Int32), (P x → W p l e R s m args below meth c0 H locs cells slots Q (F0 m t ls rest)) → (¬ P x → W p l e R s m args below meth c0 H locs cells slots Q (F0 m nx ls rest)) → W p l e R s m args below meth c0 H locs cells slots Q (F0 m pc ls (.int x :: rest))) : xq_Op p l e R s m args below meth c0 Q D cl tys z X Ts prog nL cc ret b pc (xi_if P d t nx) := by
  intro call L st S x _ hs hx ls ws H locs hL hM
  unfold xi_if at hs
  split at hs
  · rename_i v r
    cases hs
    refine row _ _ _ _ _ _ _ (fun q => ?_) (fun q => ?_)
    · have hx : xq_W p l e R s m args below meth c0 Q D cl tys z nL b (@ite _ (P v) (d v) (t, L, r, S) (nx, L, r, S)) := hx
      rw [if_pos q] at hx
      exact hx ls ws H locs hL hM
    · have hx : xq_W p l e R s m args below meth c0 Q D cl tys z nL b (@ite _ (P v) (d v) (t, L, r, S) (nx, L, r, S)) := hx
      rw [if_neg q] at hx
      exact hx ls ws H locs hL hM
  · cases hs
end XQM
