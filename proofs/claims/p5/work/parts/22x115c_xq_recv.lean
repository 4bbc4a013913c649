section XQM
variable {p : Program} {l : Launch} {e : Env} {R : Room} {s : State} {m : MethodId} {args : Array Value} {below : List Frame} {meth : Method} {c0 : Code} {Q : State → Prop} {D : va_G} {cl : List vw_C} {tys : List (ClassId × FieldType)} {o : zO} {z : Nat} {X : State → Heap → Prop} {Ts : List Cond} {prog : List zM} {nL : Nat} {own : String} {cc : ByteArray} {ret : Option FieldType} {nm : String}
variable {b : Nat → Nat}
theorem xq_recv {ci : Nat} {Cn : String} {T : u_T} {N : Nat} {U : State} (hK : va_K D cl tys U) (hcl : cl[ci]? = some (Cn, T, N)) {as : List Value} {S : xq_S} {ws : va_W} {H : Heap} (h1 : xq_rc (some ci) as = true) (h2 : xq_r b cl tys S ws) (h3 : va_P D cl ws H) : ∃ b0 As, as.map (xq_v b) = .ref b0 :: As ∧ ∃ cell : Cell, H[b0]? = some cell ∧ cell.vm.isStatics = false ∧ U.vm.findClass Cn = some cell.cls := by
  unfold xq_rc at h1
  split at h1
  · rename_i h9
    cases h9
  · rename_i c h9
    cases h9
    split at h1
    · rename_i k t
      unfold xq_cl at h1
      split at h1
      · rename_i q hq
        have e := Nat.eq_of_beq_eq_true h1
        obtain ⟨c, ks⟩ := q
        have e : c = ci := e
        subst e
        obtain ⟨e0, he, vs, rfl, -⟩ := h2 k _ hq
        exact ⟨b k, t.map (xq_v b), rfl, va_recv hK h3 hcl he⟩
      · cases h1
    · cases h1
end XQM
