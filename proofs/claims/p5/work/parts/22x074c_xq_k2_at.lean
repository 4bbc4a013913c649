section XQM
variable {p : Program} {l : Launch} {e : Env} {R : Room} {s : State} {m : MethodId} {args : Array Value} {below : List Frame} {meth : Method} {c0 : Code} {Q : State → Prop} {D : va_G} {cl : List vw_C} {tys : List (ClassId × FieldType)} {o : zO} {z : Nat} {X : State → Heap → Prop} {Ts : List Cond} {prog : List zM} {nL : Nat} {own : String} {cc : ByteArray} {ret : Option FieldType} {nm : String}
variable {b : Nat → Nat}
theorem xq_k2_at {L : List Value} {i j : Nat} {v : Value} (h : (xq_k2 L i)[j]? = some v) (hv : v ≠ .null) : L[j]? = some v ∧ ¬ (j + 1 = i ∧ v.category = 2) := by
  unfold xq_k2 at h
  split at h
  · exact ⟨h, fun q => by omega⟩
  · rename_i k
    split at h
    · rename_i w hw
      split at h
      · rw [List.getElem?_set] at h
        by_cases hkj : k = j
        · subst hkj
          rw [if_pos rfl] at h
          split at h
          · cases h
            exact absurd rfl hv
          · cases h
        · rw [if_neg hkj] at h
          exact ⟨h, fun q => hkj (by omega)⟩
      · rename_i hc
        refine ⟨h, fun q => ?_⟩
        have e : j = k := by omega
        subst e
        rw [h] at hw
        cases hw
        exact hc q.2
    · rename_i hn
      refine ⟨h, fun q => ?_⟩
      have e : j = k := by omega
      subst e
      rw [h] at hn
      cases hn
end XQM
