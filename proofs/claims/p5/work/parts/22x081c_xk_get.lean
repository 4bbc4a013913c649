section XQM
variable {p : Program} {l : Launch} {e : Env} {R : Room} {s : State} {m : MethodId} {args : Array Value} {below : List Frame} {meth : Method} {c0 : Code} {Q : State → Prop} {D : va_G} {cl : List vw_C} {tys : List (ClassId × FieldType)} {o : zO} {z : Nat} {X : State → Heap → Prop} {Ts : List Cond} {prog : List zM} {nL : Nat} {own : String} {cc : ByteArray} {ret : Option FieldType} {nm : String}
variable {b : Nat → Nat}
theorem xk_get (C : zCx p R s m args meth c0 D cl tys z X Ts own cc nL nm) {pc ci k : Nat} (row : ∀ (H : Heap) (locs : List Loc) (cells slots : Nat) (ls : Array Slot) (rest : List Value) (ws : va_W) (q0 a : Nat) (fs : List Value) (v : Value), va_P D cl ws H → ws[q0]? = some (a, .inr (ci, fs)) → fs[k]? = some v → W p l e R s m args below meth c0 H locs cells slots Q (F0 m (pc + 3) ls (v :: rest)) → W p l e R s m args below meth c0 H locs cells slots Q (F0 m pc ls (.ref a :: rest))) : xq_Op p l e R s m args below meth c0 Q D cl tys z X Ts prog nL cc ret b pc (xi_get (pc + 3) ci k) := by
  intro call L st S x _ hs hx ls ws H locs hL hM
  unfold xi_get at hs
  split at hs
  · rename_i k0 t
    split at hs
    · rename_i hk
      cases hs
      obtain ⟨vs, h1, h2⟩ := xq_slot hM.1 hk
      exact row _ _ _ _ _ _ ws _ _ _ _ hM.2.1 h1 h2 (hx ls ws H locs hL hM)
    · rename_i hk
      cases hs
      obtain ⟨vs, h1, h2⟩ := xq_slot hM.1 hk
      exact row _ _ _ _ _ _ ws _ _ _ _ hM.2.1 h1 h2 (hx ls ws H locs hL hM)
    · rename_i hk
      cases hs
      obtain ⟨vs, h1, h2⟩ := xq_slot hM.1 hk
      exact row _ _ _ _ _ _ ws _ _ _ _ hM.2.1 h1 h2 (hx ls ws H locs hL hM)
    · rename_i hk
      split at hs
      · cases hs
      · rename_i h0
        cases hs
        obtain ⟨vs, h1, h2⟩ := xq_slot hM.1 hk
        have e : xq_sl b 3 S k0 k = .ref (b (S.2.2 k0 k)) := if_neg h0
        rw [e] at h2
        exact row _ _ _ _ _ _ ws _ _ _ _ hM.2.1 h1 h2 (hx ls ws H locs hL hM)
    · rename_i hk
      cases hs
      obtain ⟨vs, h1, h2⟩ := xq_slot hM.1 hk
      exact row _ _ _ _ _ _ ws _ _ _ _ hM.2.1 h1 h2 (hx ls ws H locs hL hM)
    · cases hs
  · cases hs
end XQM
