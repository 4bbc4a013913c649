section XQM
variable {p : Program} {l : Launch} {e : Env} {R : Room} {s : State} {m : MethodId} {args : Array Value} {below : List Frame} {meth : Method} {c0 : Code} {Q : State → Prop} {D : va_G} {cl : List vw_C} {tys : List (ClassId × FieldType)} {o : zO} {z : Nat} {X : State → Heap → Prop} {Ts : List Cond} {prog : List zM} {nL : Nat} {own : String} {cc : ByteArray} {ret : Option FieldType} {nm : String}
variable {b : Nat → Nat}
theorem xk_tab (C : zCx p R s m args meth c0 D cl tys z X Ts own cc nL nm) {pc len d : Nat} {dflt lo hi : Int} {offs : Array Int} {ts : List Nat} (hd : decode cc pc = .ok (.tableswitch dflt lo hi offs, len)) (hdf : (pc : Int) + dflt = (d : Int)) (hhi : hi + 1 = lo + (ts.length : Int)) (hts : ∀ (k t : Nat), ts[k]? = some t → ∃ off : Int, offs[k]? = some off ∧ (pc : Int) + off = (t : Int)) : xq_Op p l e R s m args below meth c0 Q D cl tys z X Ts prog nL cc ret b pc (xi_tab lo ts d) := by
  intro call L st S x _ hs hx ls ws H locs hL hM
  unfold xi_tab at hs
  split at hs
  · rename_i v r
    cases hs
    have key : ∀ (ts : List Nat) (lo x : Int), (lo ≤ x ∧ x < lo + (ts.length : Int) ∧ ∃ t, ts[(x - lo).toNat]? = some t ∧ xq_tb x lo ts d = t) ∨ ((x < lo ∨ lo + (ts.length : Int) ≤ x) ∧ xq_tb x lo ts d = d) := by
      intro ts
      induction ts with
      | nil =>
        intro lo x
        right
        refine ⟨?_, rfl⟩
        show x < lo ∨ lo + ((0 : Nat) : Int) ≤ x
        omega
      | cons t ts ih =>
        intro lo x
        have e : xq_tb x lo (t :: ts) d = if x = lo then t else xq_tb x (lo + 1) ts d := rfl
        have el : ((t :: ts).length : Int) = (ts.length : Int) + 1 := by simp
        by_cases hx : x = lo
        · left
          refine ⟨by omega, by omega, t, ?_, by rw [e, if_pos hx]⟩
          rw [show x - lo = 0 by omega]
          rfl
        · rw [e, if_neg hx]
          rcases ih (lo + 1) x with ⟨h1, h2, t', h3, h4⟩ | ⟨h1, h2⟩
          · left
            refine ⟨by omega, by omega, t', ?_, h4⟩
            rw [show (x - lo).toNat = (x - (lo + 1)).toNat + 1 by omega]
            exact h3
          · right
            exact ⟨by omega, h2⟩
    have hx : xq_W p l e R s m args below meth c0 Q D cl tys z nL b (xq_tb v.toInt lo ts d, L, r, S) := hx
    rcases key ts lo v.toInt with ⟨h1, h2, t, h3, h4⟩ | ⟨h1, h2⟩
    · rw [h4] at hx
      obtain ⟨off, o1, o2⟩ := hts _ _ h3
      exact lv_tableIn C.1 C.2.1 hd (by omega) (by omega) (off := off) o1 o2 (hx ls ws H locs hL hM)
    · rw [h2] at hx
      exact lv_tableOut C.1 C.2.1 hd (by omega) hdf (hx ls ws H locs hL hM)
  · cases hs
end XQM
