section XQM
variable {p : Program} {l : Launch} {e : Env} {R : Room} {s : State} {m : MethodId} {args : Array Value} {below : List Frame} {meth : Method} {c0 : Code} {Q : State → Prop} {D : va_G} {cl : List vw_C} {tys : List (ClassId × FieldType)} {o : zO} {z : Nat} {X : State → Heap → Prop} {Ts : List Cond} {prog : List zM} {nL : Nat} {own : String} {cc : ByteArray} {ret : Option FieldType} {nm : String}
variable {b : Nat → Nat}
theorem xq_as_ok : ∀ {vs : List Value} {n i j : Nat} {v : Value}, (xq_as n vs)[j]? = some v → v ≠ .null → (i + j, xq_v b v) ∈ lv_args i (vs.map (xq_v b))
  | [], n, i, j, v, h, hv => by
    unfold xq_as at h
    rw [List.getElem?_replicate] at h
    split at h
    · cases h
      exact absurd rfl hv
    · cases h
  | w :: t, n, i, j, v, h, hv => by
    unfold xq_as at h
    have e : lv_args i ((w :: t).map (xq_v b)) = (i, xq_v b w) :: lv_args (if w.category = 2 then i + 2 else i + 1) (t.map (xq_v b)) := by
      show (i, xq_v b w) :: lv_args (if (xq_v b w).category = 2 then i + 2 else i + 1) (t.map (xq_v b)) = _
      rw [xq_v_cat]
    rw [e]
    split at h
    · rename_i hc
      rw [if_pos hc]
      match j, h with
      | 0, h => cases h; exact List.mem_cons_self
      | 1, h => cases h; exact absurd rfl hv
      | j + 2, h =>
        have h1 := xq_as_ok (vs := t) (n := n - 2) (i := i + 2) (j := j) h hv
        rw [show i + 2 + j = i + (j + 2) by omega] at h1
        exact List.mem_cons_of_mem _ h1
    · rename_i hc
      rw [if_neg hc]
      match j, h with
      | 0, h => cases h; exact List.mem_cons_self
      | j + 1, h =>
        have h1 := xq_as_ok (vs := t) (n := n - 1) (i := i + 1) (j := j) h hv
        rw [show i + 1 + j = i + (j + 1) by omega] at h1
        exact List.mem_cons_of_mem _ h1
end XQM
