section XQM
variable {p : Program} {l : Launch} {e : Env} {R : Room} {s : State} {m : MethodId} {args : Array Value} {below : List Frame} {meth : Method} {c0 : Code} {Q : State → Prop} {D : va_G} {cl : List vw_C} {tys : List (ClassId × FieldType)} {o : zO} {z : Nat} {X : State → Heap → Prop} {Ts : List Cond} {prog : List zM} {nL : Nat} {own : String} {cc : ByteArray} {ret : Option FieldType} {nm : String}
variable {b : Nat → Nat}
theorem xq_lk_eq (x : Int) : ∀ (ts : List (Int × Nat)) (d : Nat), xq_lk x ts d = zlsw x ts d
  | [], d => rfl
  | (v, t) :: ts, d => by
    show (if x = v then t else xq_lk x ts d) = Bool.casesOn (motive := fun _ => Nat) (zle x v && zle v x) (zlsw x ts d) t
    by_cases h : x = v
    · rw [if_pos h]
      have e : (zle x v && zle v x) = true := by rw [Bool.and_eq_true, zle_iff, zle_iff]; omega
      rw [e]
    · rw [if_neg h, xq_lk_eq x ts d]
      have e : (zle x v && zle v x) = false := by rw [Bool.and_eq_false_iff, zle_f, zle_f]; omega
      rw [e]
end XQM
