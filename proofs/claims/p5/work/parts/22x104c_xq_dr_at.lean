section XQM
variable {p : Program} {l : Launch} {e : Env} {R : Room} {s : State} {m : MethodId} {args : Array Value} {below : List Frame} {meth : Method} {c0 : Code} {Q : State → Prop} {D : va_G} {cl : List vw_C} {tys : List (ClassId × FieldType)} {o : zO} {z : Nat} {X : State → Heap → Prop} {Ts : List Cond} {prog : List zM} {nL : Nat} {own : String} {cc : ByteArray} {ret : Option FieldType} {nm : String}
variable {b : Nat → Nat}
theorem xq_dr_at : ∀ {ks : List Nat} {L : List Value} {j : Nat} {v : Value}, (xq_dr ks L)[j]? = some v → v ≠ .null → L[j]? = some v
  | [], L, j, v, h, _ => h
  | k :: ks, L, j, v, h, hv => by
    have h1 := xq_dr_at (ks := ks) (L := L.set k .null) h hv
    rw [List.getElem?_set] at h1
    split at h1
    · split at h1
      · cases h1
        exact absurd rfl hv
      · cases h1
    · exact h1
end XQM
