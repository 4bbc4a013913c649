section XQM
variable {p : Program} {l : Launch} {e : Env} {R : Room} {s : State} {m : MethodId} {args : Array Value} {below : List Frame} {meth : Method} {c0 : Code} {Q : State → Prop} {D : va_G} {cl : List vw_C} {tys : List (ClassId × FieldType)} {o : zO} {z : Nat} {X : State → Heap → Prop} {Ts : List Cond} {prog : List zM} {nL : Nat} {own : String} {cc : ByteArray} {ret : Option FieldType} {nm : String}
variable {b : Nat → Nat}
theorem xq_lv_of : ∀ {L : List Value} {i j : Nat} {v : Value}, L[j]? = some v → v ≠ .null → (i + j, xq_v b v) ∈ xq_lv b i L
  | [], i, j, v, h, _ => by simp at h
  | w :: t, i, 0, v, h, hv => by
    have e0 : w = v := by simpa using h
    subst e0
    have e : xq_lv b i (w :: t) = (i, xq_v b w) :: xq_lv b (i + 1) t := by
      cases w <;> first | rfl | exact absurd rfl hv
    rw [e]
    exact List.mem_cons_self
  | w :: t, i, j + 1, v, h, hv => by
    have h0 : t[j]? = some v := h
    have h1 := xq_lv_of (L := t) (i := i + 1) (j := j) (v := v) h0 hv
    rw [show i + 1 + j = i + (j + 1) by omega] at h1
    by_cases hw : w = .null
    · subst hw
      exact h1
    · have e : xq_lv b i (w :: t) = (i, xq_v b w) :: xq_lv b (i + 1) t := by
        cases w <;> first | rfl | exact absurd rfl hw
      rw [e]
      exact List.mem_cons_of_mem _ h1
end XQM
