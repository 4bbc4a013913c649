section XQM
variable {p : Program} {l : Launch} {e : Env} {R : Room} {s : State} {m : MethodId} {args : Array Value} {below : List Frame} {meth : Method} {c0 : Code} {Q : State → Prop} {D : va_G} {cl : List vw_C} {tys : List (ClassId × FieldType)} {o : zO} {z : Nat} {X : State → Heap → Prop} {Ts : List Cond} {prog : List zM} {nL : Nat} {own : String} {cc : ByteArray} {ret : Option FieldType} {nm : String}
variable {b : Nat → Nat}
theorem xq_meth (hX : zXok X z) {mr : zM} (hy : plainName mr.1.cls = true) {code : xq_K} (hops : ∀ (p : Program) (e : Env) (R : Room) (s : State) (m : MethodId) (args : Array Value) (below : List Frame) (meth : Method) (c0 : Code) (Q : State → Prop), zCx p R s m args meth c0 D cl tys z X Ts mr.1.cls mr.2.1 mr.2.2.1 mr.1.name → ∀ pc sem, zrget code pc = some (some sem) → xq_Op p l e R s m args below meth c0 Q D cl tys z X Ts prog mr.2.2.1 mr.2.1 mr.2.2.2.1 b pc sem) {fr lo : Nat} (k0 : 1 ≤ fr) (k1 : 200 ≤ lo) {call : xq_F} (hco : xq_Co l D cl tys z X Ts prog { frames := fr, cells := mr.2.2.2.2.1, slots := mr.2.2.2.2.2.1, locals := lo } b call) {vs : List Value} (hct : xq_ct vs ≤ mr.2.2.1) {S : xq_S} {r : xq_O} {n : Nat} (h : xq_run call code n (0, xq_as mr.2.2.1 vs, [], S) = some r) : xq_Mt l D cl tys z X Ts b mr fr lo vs S r := by
  intro ws hws
  refine Met.ofW (cc := mr.2.1) (maxL := mr.2.2.1) (ret := mr.2.2.2.1) hy rfl ?_
  intro p' e' s' m' args' below' meth' c' s₁ B hml hv
  obtain ⟨rfl, v1, v2, v3, v4, v5, v6⟩ := hv
  have hts := atoms_spec B.pre
  have CX' : zCx p' { frames := fr, cells := mr.2.2.2.2.1, slots := mr.2.2.2.2.2.1, locals := lo } s' m' (vs.map (xq_v b)).toArray meth' c' D cl tys z X Ts mr.1.cls mr.2.1 mr.2.2.1 mr.1.name := ⟨B.exec, B.bytes, hml, findClass_of_methodNamed B.named, fun w hw => hts w (List.mem_cons_of_mem _ hw), v4, (name_of_methodNamed B.named B.method).1, v5, v6, k0, k1⟩
  have hl := lv_entry (vs.map (xq_v b)) (n := mr.2.2.1) (by rw [xq_sl_len]; exact hct)
  rw [lg_entry_eq]
  refine xq_run_W hco (hops p' e' _ s' m' _ below' meth' c' _ CX') ?_ n _ h _ ws s'.heap [] ⟨hl.1, hl.2.1, fun i v hi hn => ?_⟩ ⟨v1, v2, v3, va_S.rf⟩
  · intro pc ls ws' H locs q9 q
    have hq : ∀ t : State, t.heap = H → s'.WarmedH t.vm → xq_Q D cl tys z b r (vs.map (xq_v b)).toArray s' (.returned (r.1.map (xq_v b))) t := fun t ht _ => ⟨⟨rfl, ws', q.1, by rw [ht]; exact q.2.1, q.2.2.1⟩, q.2.2.2.F ht⟩
    refine W.widen (k := mr.2.2.2.2.1) (n := mr.2.2.2.2.2.1) (Nat.zero_le _) (Nat.zero_le _) ?_
    generalize hrv : r.1.map (xq_v b) = rv at q9 hq ⊢
    cases rv with
    | none =>
      obtain ⟨e1, e2⟩ := q9
      exact W.vret B.exec B.bytes (B.returns.trans e1) hq q.2.2.2.2.2 e2 B.notSynchronized
    | some w =>
      rcases q9 with ⟨x, ty, rfl, e1, e2, e3⟩ | ⟨x, rfl, e1, e3⟩ | ⟨x, rt, rfl, e1, e2, e3⟩
      · exact W.zret B.exec B.bytes (B.returns.trans e1) e2 hq q.2.2.2.2.2 e3 B.notSynchronized
      · exact W.lret B.exec B.bytes (B.returns.trans e1) hq q.2.2.2.2.2 e3 B.notSynchronized
      · exact W.aret B.exec B.bytes (B.returns.trans e1) e2 (Or.inr ⟨x, rfl⟩) hq q.2.2.2.2.2 e3 B.notSynchronized
  · have h1 := xq_as_ok (b := b) (i := 0) hi hn
    rw [Nat.zero_add] at h1
    exact hl.2.2 _ h1
end XQM
