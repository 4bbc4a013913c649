section XQM
variable {p : Program} {l : Launch} {e : Env} {R : Room} {s : State} {m : MethodId} {args : Array Value} {below : List Frame} {meth : Method} {c0 : Code} {Q : State → Prop} {D : va_G} {cl : List vw_C} {tys : List (ClassId × FieldType)} {o : zO} {z : Nat} {X : State → Heap → Prop} {Ts : List Cond} {prog : List zM} {nL : Nat} {own : String} {cc : ByteArray} {ret : Option FieldType} {nm : String}
variable {b : Nat → Nat}
theorem xq_lv_mem : ∀ {L : List Value} {i : Nat} {q : Nat × Value}, q ∈ xq_lv b i L → ∃ j v, q = (i + j, xq_v b v) ∧ L[j]? = some v ∧ v ≠ .null
  | [], i, q, h => absurd h List.not_mem_nil
  | v :: t, i, q, h => by
    by_cases hv : v = .null
    · subst hv
      obtain ⟨j, w, h1, h2, h3⟩ := xq_lv_mem (L := t) (i := i + 1) h
      exact ⟨j + 1, w, by rw [h1]; congr 1; omega, h2, h3⟩
    · have e : xq_lv b i (v :: t) = (i, xq_v b v) :: xq_lv b (i + 1) t := by
        cases v <;> first | rfl | exact absurd rfl hv
      rw [e] at h
      rcases List.mem_cons.mp h with h | h
      · exact ⟨0, v, h, rfl, hv⟩
      · obtain ⟨j, w, h1, h2, h3⟩ := xq_lv_mem (L := t) (i := i + 1) h
        exact ⟨j + 1, w, by rw [h1]; congr 1; omega, h2, h3⟩
end XQM
