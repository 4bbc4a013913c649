section XQM
variable {p : Program} {l : Launch} {e : Env} {R : Room} {s : State} {m : MethodId} {args : Array Value} {below : List Frame} {meth : Method} {c0 : Code} {Q : State → Prop} {D : va_G} {cl : List vw_C} {tys : List (ClassId × FieldType)} {o : zO} {z : Nat} {X : State → Heap → Prop} {Ts : List Cond} {prog : List zM} {nL : Nat} {own : String} {cc : ByteArray} {ret : Option FieldType} {nm : String}
variable {b : Nat → Nat}
theorem xq_ae_len {S : xq_S} {k t n : Nat} {cA : ClassId} {e0 : va_E} (h : xq_ae b S k t n cA e0) : ∃ x : vp_A, e0 = .inl (cA, x) ∧ x.1 = n := by
  match t, h with
  | 0, ⟨f, h1, _⟩ => exact ⟨_, h1, rfl⟩
  | 1, ⟨f, h1, _⟩ => exact ⟨_, h1, rfl⟩
  | 2, ⟨f, h1, _⟩ => exact ⟨_, h1, rfl⟩
  | 3, ⟨f, h1, _⟩ => exact ⟨_, h1, rfl⟩
  | _ + 4, ⟨f, h1, _⟩ => exact ⟨_, h1, rfl⟩
end XQM
