section XQM
variable {p : Program} {l : Launch} {e : Env} {R : Room} {s : State} {m : MethodId} {args : Array Value} {below : List Frame} {meth : Method} {c0 : Code} {Q : State → Prop} {D : va_G} {cl : List vw_C} {tys : List (ClassId × FieldType)} {o : zO} {z : Nat} {X : State → Heap → Prop} {Ts : List Cond} {prog : List zM} {nL : Nat} {own : String} {cc : ByteArray} {ret : Option FieldType} {nm : String}
variable {b : Nat → Nat}
theorem xk_putI (C : zCx p R s m args meth c0 D cl tys z X Ts own cc nL nm) {pc ci k : Nat} {ty : FieldType} (ht : ty = .int) (row : ∀ (H : Heap) (locs : List Loc) (cells slots : Nat) (ls : Array Slot) (rest : List Value) (ws : va_W) (q0 a : Nat) (fs : List Value) (v : Value), va_P D cl ws H → va_D (zA z) ws → va_S (zA z) s.heap H locs → ws[q0]? = some (a, .inr (ci, fs)) → k < fs.length → narrow ty v = v → fits ty v = true → (∀ (H1 : Heap) (locs1 : List Loc), va_P D cl (ws.set q0 (a, .inr (ci, fs.set k v))) H1 → va_D (zA z) (ws.set q0 (a, .inr (ci, fs.set k v))) → va_S (zA z) s.heap H1 locs1 → W p l e R s m args below meth c0 H1 locs1 cells slots Q (F0 m (pc + 3) ls rest)) → W p l e R s m args below meth c0 H locs cells slots Q (F0 m pc ls (v :: .ref a :: rest))) : xq_Op p l e R s m args below meth c0 Q D cl tys z X Ts prog nL cc ret b pc (xi_putI (pc + 3) ci k) := by
  intro call L st S x _ hs hx ls ws H locs hL hM
  subst ht
  unfold xi_putI at hs
  split at hs
  · rename_i v k0 t
    split at hs
    · rename_i hk
      cases hs
      obtain ⟨vs, h1, h2⟩ := xq_slot hM.1 hk
      refine row _ _ _ _ _ _ ws _ _ _ _ hM.2.1 hM.2.2.1 hM.2.2.2 h1 (List.getElem?_eq_some_iff.mp h2).1 rfl rfl (fun H1 locs1 hP hD hS => ?_)
      exact hx ls _ H1 locs1 hL ⟨xq_put (S' := (xq_upd S.1 k0 k v, S.2)) hM.1 hk h1 (by show Value.int (xq_upd S.1 k0 k v k0 k) = _; rw [xq_upd_s]; rfl) (fun k' j' h => ⟨xq_upd_n h, rfl, rfl⟩), hP, hD, hS⟩
    · cases hs
  · cases hs
end XQM
