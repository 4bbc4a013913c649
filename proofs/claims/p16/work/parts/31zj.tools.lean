/-! WALKS BY HAND, with values -/
noncomputable def ztgs (c : zK) (ts : List (Nat × Nat)) : Bool := zall (fun t : Nat × Nat => match zlook c.1 t.1 with
  | some (.inl q) => (match q.2 with
    | some r => Nat.beq r.1 t.2 && (Nat.ble (t.2 + 1) 100 && (Nat.ble (t.1 + 1) 100 && (zle r.2 0 && zle 0 r.2)))
    | none => false)
  | _ => false) ts
/-- heads: place, state, locals that are named ints -/
noncomputable def zcutH (hs : List (Nat × zK × List (Nat × Nat))) : zCut := fun pc c => List.rec (motive := fun _ => Option Bool) none (fun q _ ih => match Nat.beq q.1 pc with
  | true => some (zinc c q.2.1 && ztgs c q.2.2)
  | false => ih) hs
theorem zcutH_ok {pc : Nat} {c : zK} : ∀ {hs : List (Nat × zK × List (Nat × Nat))}, zcutH hs pc c = some true → ∃ q ∈ hs, q.1 = pc ∧ zinc c q.2.1 = true ∧ ztgs c q.2.2 = true
  | [], h => by cases h
  | q :: hs, h => by
    have h : (match Nat.beq q.1 pc with
      | true => some (zinc c q.2.1 && ztgs c q.2.2)
      | false => zcutH hs pc c) = some true := h
    split at h
    · rename_i hb
      have h := Option.some.inj h
      rw [Bool.and_eq_true] at h
      exact ⟨q, List.mem_cons_self, Nat.eq_of_beq_eq_true hb, h.1, h.2⟩
    · obtain ⟨q', h1, h2⟩ := zcutH_ok h
      exact ⟨q', List.mem_cons_of_mem _ h1, h2⟩
section ZTOOL
variable {p : Program} {l : Launch} {e : Env} {R : Room} {s : State} {m : MethodId} {args : Array Value} {below : List Frame} {meth : Method} {c0 : Code} {Q : State → Prop} {D : va_G} {cl : List vw_C} {tys : List (ClassId × FieldType)} {o : zO} {z : Nat} {X : State → Heap → Prop} {Ts : List Cond} {prog : List zM} {ws0 : va_W} {nL : Nat} {own : String} {cc : ByteArray} {ret : Option FieldType} {nm : String}
theorem ztgs_ok {f : Nat → Int32} {c : zK} {ts : List (Nat × Nat)} {H0 : Heap} {ls : Array Slot} {vst : List Value} {H : Heap} {locs : List Loc} {ws : va_W} (h : ztgs c ts = true) (S : zSat D cl tys (zwith o f) z ws0 nL H0 c ls vst H locs ws) : ∀ t ∈ ts, zgv ls t.1 = f t.2 := by
  intro t ht
  have h1 := zall_mem h t ht
  split at h1
  · rename_i q hq
    split at h1
    · rename_i r hr
      simp only [Bool.and_eq_true, zle_iff] at h1
      obtain ⟨k1, k2, k3, k4, k5⟩ := h1
      have k1 := Nat.eq_of_beq_eq_true k1
      have k2 := Nat.le_of_ble_eq_true k2
      have k3 := Nat.le_of_ble_eq_true k3
      obtain ⟨v, h2, h3⟩ := zlv S.1 hq
      obtain ⟨x, rfl, -, tx⟩ := zint h3
      rw [hr] at tx
      have tx : x = f r.1 + Int32.ofInt r.2 := (ztg_eq (by omega)).mp tx
      rw [zgv_lo (by omega) h2, tx, k1, show r.2 = 0 by omega, show Int32.ofInt 0 = 0 by decide, Int32.add_zero]
    · cases h1
  · cases h1
/-- a stretch: from here to heads, what has changed counted from here -/
theorem zstretch {ov : zOw} (hov : zOwOk l D cl tys o z X Ts prog ov) (hX : zXok X z) (hprog : zProgOk l D cl tys o z X Ts prog) {n fr lo : Nat} (hfr : fr ≤ R.frames) (hlo : lo ≤ R.locals) {code : zCode} {ws : va_W} (hcode : ∀ pc sem, zrget code pc = some (some sem) → zOp p l e R s m args below meth c0 Q D cl tys o z X Ts prog ws nL cc ret pc sem) {hs : List (Nat × zK × List (Nat × Nat))} {pc : Nat} {c : zK} (hrun : zrunw prog ov n (zcutH hs) fr lo code (fun _ _ => false) pc c = true) {ls : Array Slot} {vst : List Value} {H : Heap} {locs : List Loc} (S : zSat D cl tys o z ws nL s.heap c ls vst H locs ws)
    (hk : ∀ q ∈ hs, ∀ (ls' : Array Slot) (H' : Heap) (locs' : List Loc) (ws' : va_W), zSat D cl tys (zwith o (zgv ls')) z ws nL s.heap q.2.1 ls' [] H' locs' ws' → (∀ t ∈ q.2.2, zgv ls' t.1 = o.2.2 t.2) → W p l e R s m args below meth c0 H' locs' q.2.1.2.2.2.1 q.2.1.2.2.2.2 Q (F0 m q.1 ls' [])) : W p l e R s m args below meth c0 H locs c.2.2.2.1 c.2.2.2.2 Q (F0 m pc ls vst) := by
  refine zrunw_ok hov hX hprog n p e R s m args below meth c0 Q ws nL cc ret code hcode fr lo hfr hlo (fun _ _ => false) (fun pc ls v r h H locs ws cells slots _ _ _ _ _ _ _ _ _ q => by cases q) (zcutH hs) ?_ pc c hrun o.2.2 (fun _ _ => rfl) ls vst H locs ws S
  intro pc' c' hc f hf ls' vst' H' locs' ws' S'
  obtain ⟨q, hq, e1, hi, ht⟩ := zcutH_ok hc
  subst e1
  have S' : zSat D cl tys (zwith o f) z ws nL s.heap c' ls' vst' H' locs' ws' := S'
  obtain ⟨S2, w1, w2⟩ := zinc_ok hi S'
  have ev : vst' = [] := by
    unfold zinc at hi
    split at hi
    · rename_i e1
      have s2 := S'.2.1
      rw [e1] at s2
      exact zr2_nil s2
    · cases hi
  subst ev
  refine W.widen w1 w2 (hk q hq ls' H' locs' ws' S2 (fun t h9 => ?_))
  rw [ztgs_ok ht S' t h9]
  unfold ztgs at ht
  have h1 := zall_mem ht t h9
  refine hf t.2 ?_
  split at h1
  · split at h1
    · simp only [Bool.and_eq_true] at h1
      exact Nat.le_of_ble_eq_true h1.2.1
    · cases h1
  · cases h1
theorem zwr_same {h : zH} {ws : va_W} (w : zwr cl tys o h ws) {k q : Nat} {e e' : va_E} (he : ws[k]? = some (q, e)) {c : zC} (hc : zrget h.2.1 k = some c) (hr : zcr cl tys o (zad ws) c e') : zwr cl tys o h (ws.set k (q, e')) := by
  refine ⟨by rw [List.length_set]; exact w.1, fun j hj => ?_⟩
  rw [zad_set he]
  obtain ⟨c1, a, e1, h1, h2, h3⟩ := w.2 j hj
  rw [List.getElem?_set]
  by_cases hjk : j = k
  · subst hjk
    rw [if_pos rfl, if_pos (List.getElem?_eq_some_iff.mp he).1]
    exact ⟨c, q, e', hc, rfl, hr⟩
  · rw [if_neg (fun h => hjk h.symm)]
    exact ⟨c1, a, e1, h1, h2, h3⟩
theorem zv_get (C : zCx p R s m args meth c0 D cl tys z X Ts own cc nL nm) {pc idx ci k N : Nat} {Cn : String} {T : u_T} (hd : decode cc pc = .ok (.getfield idx, 3)) (hcl : cl[ci]? = some (Cn, T, N)) (hin : ∀ w ∈ u_ws Cn T N, w ∈ Ts) (hk : k < N) (hl : Cond.fieldLink own idx (T k).1 (T k).2.1 (T k).2.2.1 ∈ Ts) {H : Heap} {locs : List Loc} {cells slots : Nat} {ls : Array Slot} {rest : List Value} {ws : va_W} {q0 a : Nat} {fs : List Value} {v : Value} (hP : va_P D cl ws H) (he : ws[q0]? = some (a, .inr (ci, fs))) (hv : fs[k]? = some v) (kk : W p l e R s m args below meth c0 H locs cells slots Q (F0 m (pc + 3) ls (v :: rest))) : W p l e R s m args below meth c0 H locs cells slots Q (F0 m pc ls (.ref a :: rest)) :=
  va_get C.1 C.2.1 C.2.2.2.2.1 hin C.2.2.2.1 C.2.2.2.2.2.1 hP q0 he hcl k hk (C.2.2.2.2.1 _ hl) (fun _ h => h) hv hd kk
theorem zv_put (C : zCx p R s m args meth c0 D cl tys z X Ts own cc nL nm) {pc idx ci k N : Nat} {Cn : String} {T : u_T} {ty : FieldType} (hd : decode cc pc = .ok (.putfield idx, 3)) (hcl : cl[ci]? = some (Cn, T, N)) (hin : ∀ w ∈ u_ws Cn T N, w ∈ Ts) (ty0 : Nat → FieldType) (hty : ∀ k, k < N → parseFieldDescriptor (T k).2.2.1 = some (ty0 k)) (hnm : ∀ a, a < N → ∀ b, b < N → a ≠ b → (T a).2.1 ≠ (T b).2.1) (hk : k < N) (hl : Cond.fieldLink own idx (T k).1 (T k).2.1 (T k).2.2.1 ∈ Ts) (hfin : (T k).2.2.2 = false) (hdt : parseFieldDescriptor (T k).2.2.1 = some ty) {H : Heap} {locs : List Loc} {cells slots : Nat} {ls : Array Slot} {rest : List Value} {ws : va_W} {q0 a : Nat} {fs : List Value} {v : Value} (hP : va_P D cl ws H) (hD : va_D (zA z) ws) (hS : va_S (zA z) s.heap H locs) (he : ws[q0]? = some (a, .inr (ci, fs))) (hlen : k < fs.length) (hn : narrow ty v = v) (hf : fits ty v = true) (kk : ∀ (H1 : Heap) (locs1 : List Loc), va_P D cl (ws.set q0 (a, .inr (ci, fs.set k v))) H1 → va_D (zA z) (ws.set q0 (a, .inr (ci, fs.set k v))) → va_S (zA z) s.heap H1 locs1 → W p l e R s m args below meth c0 H1 locs1 cells slots Q (F0 m (pc + 3) ls rest)) : W p l e R s m args below meth c0 H locs cells slots Q (F0 m pc ls (v :: .ref a :: rest)) :=
  va_put C.1 C.2.1 C.2.2.2.2.1 hin ty0 hty hnm C.2.2.2.1 C.2.2.2.2.2.1 hP hD hS q0 he hcl k hk (C.2.2.2.2.1 _ hl) (fun _ h => h) hfin hdt hn hf hlen hd kk
/-- a slot that has not changed -/
theorem zkept {d : Nat} {ws ws' : va_W} (h : zcg d ws ws') {k j a ci : Nat} {vs : List Value} (he : ws[k]? = some (a, .inr (ci, vs))) (hb : zbit d k j = false) : ∃ vs', ws'[k]? = some (a, .inr (ci, vs')) ∧ vs'[j]? = vs[j]? := by
  obtain ⟨e', h1, h2⟩ := h k a _ he
  obtain ⟨vs', rfl, -, h3⟩ := h2
  exact ⟨vs', h1, h3 j hb⟩
end ZTOOL
