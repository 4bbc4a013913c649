/-! SPLITS OF A SLOT: an object's field, an element of an array; by a path of fields from a local -/
noncomputable def zpath (h : zH) (path : List Nat) : Nat → Option Nat := List.rec (motive := fun _ => Nat → Option Nat) (fun q => some q) (fun j _ ih q => match zrget h.2.1 q with
  | some (.inr (_, fs)) => (match zget fs j with
    | some (.inr (.inr (.inl q'))) => ih q'
    | _ => none)
  | _ => none) path
theorem zwr_re {cl : List vw_C} {tys : List (ClassId × FieldType)} {o : zO} {h : zH} {ws : va_W} {d : Nat} (w : zwr cl tys o h ws) {k a : Nat} {e : va_E} (he : ws[k]? = some (a, e)) {c c' : zC} (hc : zrget h.2.1 k = some c) (hr : zcr cl tys o (zad ws) c' e) : zwr cl tys o (h.1, zrset h.2.1 k c', d) ws := by
  refine ⟨w.1, fun j hj => ?_⟩
  dsimp only
  rw [zrget_set hc]
  by_cases e1 : j = k
  · subst e1
    rw [if_pos rfl]
    exact ⟨c', a, e, rfl, he, hr⟩
  · rw [if_neg e1]
    exact w.2 j hj
noncomputable def zo_splH (l0 : Nat) (path : List Nat) (j : Nat) (bx : List zI) (sem : zSem) : zSem := fun call rt go c => match zlook c.1 l0 with
  | some (.inr (.inr (.inl q0))) => (match zpath c.2.2.1 path q0 with
    | some k => (match zrget c.2.2.1.2.1 k with
      | some (.inr (ci, fs)) => (match zget fs j with
        | some (.inl q) => (match zcovr q.1.2 bx q.1.1 && Nat.blt k c.2.2.1.1 with
          | true => zboxes (fun b => zfr (zrset c.2.2.1.2.1 k (.inr (ci, zset fs (.inl (b, none)) j))) k (sem call rt go (c.1, c.2.1, (c.2.2.1.1, zrset c.2.2.1.2.1 k (.inr (ci, zset fs (.inl (b, none)) j)), c.2.2.1.2.2), c.2.2.2))) q.1 bx
          | false => false)
        | _ => false)
      | _ => false)
    | none => false)
  | _ => false
/-- an element of an array, its place by an exact local -/
noncomputable def zo_splA (l0 : Nat) (path : List Nat) (li : Nat) (bx : List zI) (sem : zSem) : zSem := fun call rt go c => match zlook c.1 l0 with
  | some (.inr (.inr (.inl q0))) => (match zpath c.2.2.1 path q0 with
    | some k => (match zrget c.2.2.1.2.1 k with
      | some (.inl (t, n, r)) => (match zlook c.1 li with
        | some (.inl u) => (match Nat.ble t 3 && (Nat.blt 1 t || Nat.beq t 0) && (zle u.1.2 u.1.1 && (zle 0 u.1.1 && (Nat.blt u.1.1.toNat n && (Nat.blt k c.2.2.1.1 && !zuni r)))) with
          | true => (match zrget r u.1.1.toNat with
            | some (.inl q) => (match zcovr q.1.2 bx q.1.1 with
              | true => zboxes (fun b => zfr (zrset c.2.2.1.2.1 k (.inl (t, n, zrset r u.1.1.toNat (.inl (b, none))))) k (sem call rt go (c.1, c.2.1, (c.2.2.1.1, zrset c.2.2.1.2.1 k (.inl (t, n, zrset r u.1.1.toNat (.inl (b, none)))), c.2.2.1.2.2), c.2.2.2))) q.1 bx
              | false => false)
            | _ => false)
          | false => false)
        | _ => false)
      | _ => false)
    | none => false)
  | _ => false
theorem zgH_nar {o : zO} {ad : Nat → Option Nat} {q : zN} {b : zI} {v : Value} {x : Int32} (hv : v = .int x) (hx : zmem q.1 x.toInt) (hm : zmem b x.toInt) : zgH o ad (.inl ((zmx q.1.1 b.1, zmn q.1.2 b.2), none)) v := ⟨x, hv, zmx_e hx.1 hm.1, zmn_e hx.2 hm.2⟩
section ZSPLH
variable {p : Program} {l : Launch} {e : Env} {R : Room} {s : State} {m : MethodId} {args : Array Value} {below : List Frame} {meth : Method} {c0 : Code} {Q : State → Prop} {D : va_G} {cl : List vw_C} {tys : List (ClassId × FieldType)} {o : zO} {z : Nat} {X : State → Heap → Prop} {Ts : List Cond} {prog : List zM} {ws0 : va_W} {nL : Nat} {own : String} {cc : ByteArray} {ret : Option FieldType} {nm : String}
theorem zk_splH {pc l0 j : Nat} {path : List Nat} {bx : List zI} {sem : zSem} (h0 : zOp p l e R s m args below meth c0 Q D cl tys o z X Ts prog ws0 nL cc ret (pc) (sem)) : zOp p l e R s m args below meth c0 Q D cl tys o z X Ts prog ws0 nL cc ret (pc) (zo_splH l0 path j bx sem) := by
  intro call rt go c hcall hrt hgo hs fv hfv ls vst H locs ws S
  unfold zo_splH at hs
  split at hs
  · split at hs
    · rename_i k hk
      split at hs
      · rename_i ci fs hc
        split at hs
        · rename_i q hq
          split at hs
          · rename_i hcv
            rw [Bool.and_eq_true] at hcv
            have hkl : k < c.2.2.1.1 := Nat.le_of_ble_eq_true hcv.2
            obtain ⟨c9, a, e, g1, g2, g3⟩ := S.2.2.1.2 k hkl
            rw [hc] at g1
            cases g1
            obtain ⟨vs, rfl, hvs⟩ := g3
            rw [zget_eq] at hq
            obtain ⟨v, hv1, x, hvx, hx⟩ := zr2_get j hvs hq
            obtain ⟨b, hb, hm⟩ := zcovr_ok hcv.1 hx.1 hx.2
            have hr := zfr_ok (zboxes_ok hx hs b hb hm)
            have hz : zr2 (zgH (zwith o fv) (zad ws)) (zset fs (.inl ((zmx q.1.1 b.1, zmn q.1.2 b.2), none)) j) vs := by
              have h9 := zr2_set j hvs (zgH_nar (o := zwith o fv) (ad := zad ws) hvx hx hm)
              rw [zset_eq]
              have e9 : vs.set j v = vs := by
                apply List.ext_getElem?
                intro i
                rw [List.getElem?_set]
                by_cases ei : j = i
                · subst ei
                  rw [if_pos rfl, if_pos (List.getElem?_eq_some_iff.mp hv1).1, hv1]
                · rw [if_neg ei]
              rw [e9] at h9
              exact h9
            exact h0 call rt go _ hcall hrt hgo hr fv hfv ls vst H locs ws ⟨S.1, S.2.1, zwr_re S.2.2.1 g2 hc ⟨vs, rfl, hz⟩, S.2.2.2⟩
          · cases hs
        · cases hs
      · cases hs
    · cases hs
  · cases hs
theorem zk_splA {pc l0 li : Nat} {path : List Nat} {bx : List zI} {sem : zSem} (h0 : zOp p l e R s m args below meth c0 Q D cl tys o z X Ts prog ws0 nL cc ret (pc) (sem)) : zOp p l e R s m args below meth c0 Q D cl tys o z X Ts prog ws0 nL cc ret (pc) (zo_splA l0 path li bx sem) := by
  intro call rt go c hcall hrt hgo hs fv hfv ls vst H locs ws S
  unfold zo_splA at hs
  split at hs
  · split at hs
    · rename_i k hk
      split at hs
      · rename_i t n r hc
        split at hs
        · rename_i u hu
          split at hs
          · rename_i hck
            simp only [Bool.and_eq_true, Bool.or_eq_true, Bool.not_eq_true'] at hck
            obtain ⟨⟨k1, k2⟩, k3, k4, k5, k6, k7⟩ := hck
            have k1 := Nat.le_of_ble_eq_true k1
            have hkl : k < c.2.2.1.1 := Nat.le_of_ble_eq_true k6
            have hin : u.1.1.toNat < n := Nat.le_of_ble_eq_true k5
            split at hs
            · rename_i q hq
              split at hs
              · rename_i hcv
                obtain ⟨c9, a, ee, g1, g2, g3⟩ := S.2.2.1.2 k hkl
                rw [hc] at g1
                cases g1
                obtain ⟨cA, hA, hz⟩ := g3
                have key : ∀ f : Nat → Int32, (∀ i, i < n → ∃ a, zaget r i = some a ∧ zgH (zwith o fv) (zad ws) a (.int (f i))) → ∃ b, b ∈ bx ∧ zmem b (f u.1.1.toNat).toInt ∧ zmem q.1 (f u.1.1.toNat).toInt ∧ ∀ i, i < n → ∃ a, zaget (zrset r u.1.1.toNat (.inl ((zmx q.1.1 b.1, zmn q.1.2 b.2), none))) i = some a ∧ zgH (zwith o fv) (zad ws) a (.int (f i)) := by
                  intro f hf
                  obtain ⟨a9, p1, p2⟩ := hf _ hin
                  rw [zaget_n k7, hq] at p1
                  cases p1
                  obtain ⟨x, hvx, hx⟩ := p2
                  have ex : f u.1.1.toNat = x := by cases hvx; rfl
                  obtain ⟨b, hb, hm⟩ := zcovr_ok hcv hx.1 hx.2
                  refine ⟨b, hb, by rw [ex]; exact hm, by rw [ex]; exact hx, fun i hi => ?_⟩
                  rw [zaget_n (zuni_set k7), zrget_set hq]
                  by_cases ei : i = u.1.1.toNat
                  · rw [if_pos ei, ei]
                    exact ⟨_, rfl, zgH_nar hvx hx hm⟩
                  · rw [if_neg ei]
                    obtain ⟨a8, p3, p4⟩ := hf i hi
                    rw [zaget_n k7] at p3
                    exact ⟨a8, p3, p4⟩
                have fin : ∀ b, b ∈ bx → (∃ x : Int, zmem b x ∧ zmem q.1 x) → zcr cl tys (zwith o fv) (zad ws) (.inl (t, n, zrset r u.1.1.toNat (.inl ((zmx q.1.1 b.1, zmn q.1.2 b.2), none)))) ee → W p l e R s m args below meth c0 H locs c.2.2.2.1 c.2.2.2.2 Q (F0 m pc ls vst) := by
                  rintro b hb ⟨x, hm, hx⟩ hz9
                  have hr := zfr_ok (zboxes_ok hx hs b hb hm)
                  exact h0 call rt go _ hcall hrt hgo hr fv hfv ls vst H locs ws ⟨S.1, S.2.1, zwr_re S.2.2.1 g2 hc hz9, S.2.2.2⟩
                match t, k1, k2, hz, hA, fin with
                | 0, _, _, ⟨f, e1, hf⟩, hA, fin =>
                  obtain ⟨b, hb, hm, hx, hall⟩ := key f hf
                  exact fin b hb ⟨_, hm, hx⟩ ⟨cA, hA, f, e1, hall⟩
                | 1, _, k2, _, _, _ => rcases k2 with k2 | k2 <;> cases k2
                | 2, _, _, ⟨f, e1, hf⟩, hA, fin =>
                  obtain ⟨b, hb, hm, hx, hall⟩ := key f hf
                  exact fin b hb ⟨_, hm, hx⟩ ⟨cA, hA, f, e1, hall⟩
                | 3, _, _, ⟨f, e1, hf⟩, hA, fin =>
                  obtain ⟨b, hb, hm, hx, hall⟩ := key f hf
                  exact fin b hb ⟨_, hm, hx⟩ ⟨cA, hA, f, e1, hall⟩
                | t + 4, k1, _, _, _, _ => exact absurd k1 (by omega)
              · cases hs
            · cases hs
          · cases hs
        · cases hs
      · cases hs
    · cases hs
  · cases hs
end ZSPLH
