section XQM
variable {p : Program} {l : Launch} {e : Env} {R : Room} {s : State} {m : MethodId} {args : Array Value} {below : List Frame} {meth : Method} {c0 : Code} {Q : State → Prop} {D : va_G} {cl : List vw_C} {tys : List (ClassId × FieldType)} {o : zO} {z : Nat} {X : State → Heap → Prop} {Ts : List Cond} {prog : List zM} {nL : Nat} {own : String} {cc : ByteArray} {ret : Option FieldType} {nm : String}
variable {b : Nat → Nat}
theorem xq_D_ok (hX : zXok X z) {xp : List (Option (Nat × xq_K))} (hxp : xq_Pok l D cl tys z X Ts prog b xp) : ∀ (d mi : Nat) (mr : zM) (vs : List Value) (S : xq_S) (r : xq_O), zget prog mi = some mr → xq_D xp d mi vs S = some r → ∀ fr lo, d ≤ fr → 200 + 60 * d ≤ lo → xq_Mt l D cl tys z X Ts b mr fr lo vs S r
  | 0, mi, mr, vs, S, r, hm, h, fr, lo, hf, hl => by cases h
  | d + 1, mi, mr, vs, S, r, hm, h, fr, lo, hf, hl => by
    have h : (match zget xp mi with
      | some (some q) => (match Nat.ble (xq_ct vs) q.1 with
        | true => xq_E (xq_D xp d) q.2 (0, xq_as q.1 vs, [], S)
        | false => none)
      | _ => none) = some r := h
    split at h
    · rename_i q hq
      split at h
      · rename_i hct
        have hct := Nat.le_of_ble_eq_true hct
        obtain ⟨g1, g2, g3, g4, g5, g6⟩ := hxp mi q mr hq hm
        rw [xq_E_iff] at h
        obtain ⟨n, hn⟩ := h
        rw [← g1] at hn hct
        refine xq_meth hX g5 g6 (by omega) (by omega) ?_ hct hn
        intro mi' mr' vs' S' r' hm' h'
        cases d with
        | zero => cases h'
        | succ d =>
          have h9 := h'
          have h' : (match zget xp mi' with
            | some (some q) => (match Nat.ble (xq_ct vs') q.1 with
              | true => xq_E (xq_D xp d) q.2 (0, xq_as q.1 vs', [], S')
              | false => none)
            | _ => none) = some r' := h'
          split at h'
          · rename_i q' hq'
            obtain ⟨k1, k2, k3, k4, -⟩ := hxp mi' q' mr' hq' hm'
            refine ⟨k3, k4, fr - 1, lo - (19 + mr'.2.2.1), by show fr - 1 + 1 ≤ fr; omega, by show 8 + (mr'.2.2.1 + 11) + (lo - (19 + mr'.2.2.1)) ≤ lo; omega, ?_⟩
            exact xq_D_ok hX hxp (d + 1) mi' mr' vs' S' r' hm' h9 (fr - 1) (lo - (19 + mr'.2.2.1)) (by omega) (by omega)
          · cases h'
      · cases h
    · cases h
end XQM
