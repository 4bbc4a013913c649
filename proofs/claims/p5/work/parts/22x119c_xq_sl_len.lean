section XQM
variable {p : Program} {l : Launch} {e : Env} {R : Room} {s : State} {m : MethodId} {args : Array Value} {below : List Frame} {meth : Method} {c0 : Code} {Q : State → Prop} {D : va_G} {cl : List vw_C} {tys : List (ClassId × FieldType)} {o : zO} {z : Nat} {X : State → Heap → Prop} {Ts : List Cond} {prog : List zM} {nL : Nat} {own : String} {cc : ByteArray} {ret : Option FieldType} {nm : String}
variable {b : Nat → Nat}
theorem xq_sl_len : ∀ (vs : List Value), (lg_sl (vs.map (xq_v b))).length = xq_ct vs
  | [] => rfl
  | v :: t => by
    have e := xq_sl_len t
    unfold lg_sl at e ⊢
    rw [List.map_cons, List.flatMap_cons, List.length_append, e, xq_v_cat]
    rcases lv_cat v with h | h
    · rw [h]
      simp [xq_ct, h]
    · rw [h]
      simp [xq_ct, h]
end XQM
