section XQM
variable {p : Program} {l : Launch} {e : Env} {R : Room} {s : State} {m : MethodId} {args : Array Value} {below : List Frame} {meth : Method} {c0 : Code} {Q : State → Prop} {D : va_G} {cl : List vw_C} {tys : List (ClassId × FieldType)} {o : zO} {z : Nat} {X : State → Heap → Prop} {Ts : List Cond} {prog : List zM} {nL : Nat} {own : String} {cc : ByteArray} {ret : Option FieldType} {nm : String}
variable {b : Nat → Nat}
theorem xk_putR (C : zCx p R s m args meth c0 D cl tys z X Ts own cc nL nm) {pc ci k : Nat} {ty : FieldType} (ht : zftag ty = 3) (row : ∀ (H : Heap) (locs : List Loc) (cells slots : Nat) (ls : Array Slot) (rest : List Value) (ws : va_W) (q0 a : Nat) (fs : List Value) (v : Value), va_P D cl ws H → va_D (zA z) ws → va_S (zA z) s.heap H locs → ws[q0]? = some (a, .inr (ci, fs)) → k < fs.length → narrow ty v = v → fits ty v = true → (∀ (H1 : Heap) (locs1 : List Loc), va_P D cl (ws.set q0 (a, .inr (ci, fs.set k v))) H1 → va_D (zA z) (ws.set q0 (a, .inr (ci, fs.set k v))) → va_S (zA z) s.heap H1 locs1 → W p l e R s m args below meth c0 H1 locs1 cells slots Q (F0 m (pc + 3) ls rest)) → W p l e R s m args below meth c0 H locs cells slots Q (F0 m pc ls (v :: .ref a :: rest))) : xq_Op p l e R s m args below meth c0 Q D cl tys z X Ts prog nL cc ret b pc (xi_putR (pc + 3) ci k) := by
  intro call L st S x _ hs hx ls ws H locs hL hM
  unfold xi_putR at hs
  split at hs
  · rename_i v k0 t
    split at hs
    · rename_i hk
      split at hs
      · cases hs
      · rename_i h0
        cases hs
        obtain ⟨vs, h1, h2⟩ := xq_slot hM.1 hk
        have hnf : narrow ty (.ref (b v)) = .ref (b v) ∧ fits ty (.ref (b v)) = true := by cases ty <;> simp [zftag] at ht <;> exact ⟨rfl, rfl⟩
        refine row _ _ _ _ _ _ ws _ _ _ _ hM.2.1 hM.2.2.1 hM.2.2.2 h1 (List.getElem?_eq_some_iff.mp h2).1 hnf.1 hnf.2 (fun H1 locs1 hP hD hS => ?_)
        exact hx ls _ H1 locs1 hL ⟨xq_put (S' := (S.1, S.2.1, xq_upd S.2.2 k0 k v)) hM.1 hk h1 (by show (if xq_upd S.2.2 k0 k v k0 k = 0 then Value.null else .ref (b (xq_upd S.2.2 k0 k v k0 k))) = _; rw [xq_upd_s, if_neg h0]; rfl) (fun k' j' h => ⟨rfl, rfl, xq_upd_n h⟩), hP, hD, hS⟩
    · cases hs
  · cases hs

end XQM
