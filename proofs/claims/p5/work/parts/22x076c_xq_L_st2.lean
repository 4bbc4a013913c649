section XQM
variable {p : Program} {l : Launch} {e : Env} {R : Room} {s : State} {m : MethodId} {args : Array Value} {below : List Frame} {meth : Method} {c0 : Code} {Q : State → Prop} {D : va_G} {cl : List vw_C} {tys : List (ClassId × FieldType)} {o : zO} {z : Nat} {X : State → Heap → Prop} {Ts : List Cond} {prog : List zM} {nL : Nat} {own : String} {cc : ByteArray} {ret : Option FieldType} {nm : String}
variable {b : Nat → Nat}
theorem xq_L_st2 {ls ls' : Array Slot} {L : List Value} {i : Nat} {v : Value} (hL : xq_L b nL ls L) (h : lv_has ls' nL ((i, xq_v b v) :: (xq_lv b 0 L).filter (fun q => !(q.1 == i) && (!(q.1 == i + 1) && !(q.1 + 1 == i && q.2.category == 2))))) : xq_L b nL ls' (((xq_k2 L i).set i v).set (i + 1) .null) := by
  refine ⟨h.1, h.2.1, fun j w hj hw => ?_⟩
  rw [List.getElem?_set] at hj
  by_cases hij1 : i + 1 = j
  · rw [if_pos hij1] at hj
    split at hj
    · cases hj
      exact absurd rfl hw
    · cases hj
  rw [if_neg hij1, List.getElem?_set] at hj
  by_cases hij : i = j
  · subst hij
    rw [if_pos rfl] at hj
    split at hj
    · cases hj
      exact h.2.2 (i, xq_v b v) List.mem_cons_self
    · cases hj
  · rw [if_neg hij] at hj
    obtain ⟨h1, h2⟩ := xq_k2_at hj hw
    have h3 := xq_lv_of (b := b) (i := 0) h1 hw
    rw [Nat.zero_add] at h3
    refine h.2.2 (j, xq_v b w) (List.mem_cons_of_mem _ (List.mem_filter.mpr ⟨h3, ?_⟩))
    have e1 : (j == i) = false := by simpa using (fun q : j = i => hij q.symm)
    have e3 : (j == i + 1) = false := by simpa using (fun q : j = i + 1 => hij1 q.symm)
    have e2 : (j + 1 == i && (xq_v b w).category == 2) = false := by
      rw [xq_v_cat]
      rw [Bool.and_eq_false_iff]
      by_cases hq : j + 1 = i
      · right
        simpa using (fun q : w.category = 2 => h2 ⟨hq, q⟩)
      · left
        simpa using hq
    show (!(j == i) && (!(j == i + 1) && !(j + 1 == i && (xq_v b w).category == 2))) = true
    rw [e1, e2, e3]
    rfl
end XQM
