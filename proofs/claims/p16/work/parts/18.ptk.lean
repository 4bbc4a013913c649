/-! A METHOD WITH LOOPS: its points, then what is known of it -/
noncomputable def zok1 (fr : Option zPt) (c : zK) (q : zPt) : Bool := match zinc c q.2.1 with
  | false => false
  | true => (match fr with
    | none => true
    | some p => (match zdif (zB p.2.1) c.1 q.2.2.1 (p.2.2.1, p.2.2.2 + -q.2.2.2) with
      | none => false
      | some r => (match zlo (zB p.2.1) r.1 r.2 with
        | none => false
        | some s => zle 1 s)))
noncomputable def zcutP (fr : Option zPt) (pts : List zPt) : zCut := fun pc c => List.rec (motive := fun _ => Option Bool) none (fun q _ ih => match Nat.beq q.1 pc with
  | true => (match zok1 fr c q with
    | true => some true
    | false => (match ih with
      | some b => some b
      | none => some false))
  | false => ih) pts
theorem zcutP_ok {fr : Option zPt} {pc : Nat} {c : zK} : ∀ {pts : List zPt}, zcutP fr pts pc c = some true → ∃ q ∈ pts, q.1 = pc ∧ zok1 fr c q = true
  | [], h => by cases h
  | q :: pts, h => by
    have h : (match Nat.beq q.1 pc with
      | true => (match zok1 fr c q with
        | true => some true
        | false => (match zcutP fr pts pc c with
          | some b => some b
          | none => some false))
      | false => zcutP fr pts pc c) = some true := h
    split at h
    · rename_i hb
      split at h
      · rename_i hk
        exact ⟨q, List.mem_cons_self, Nat.eq_of_beq_eq_true hb, hk⟩
      · split at h
        · rename_i b hz
          cases h
          obtain ⟨q', h1, h2⟩ := zcutP_ok hz
          exact ⟨q', List.mem_cons_of_mem _ h1, h2⟩
        · cases h
    · obtain ⟨q', h1, h2⟩ := zcutP_ok h
      exact ⟨q', List.mem_cons_of_mem _ h1, h2⟩
/-- a measure is never below 0 -/
noncomputable def znn (q : zPt) : Bool := match zlo (zB q.2.1) q.2.2.1 q.2.2.2 with
  | none => false
  | some s => zle 0 s
section ZPTK
variable {p : Program} {l : Launch} {e : Env} {R : Room} {s : State} {m : MethodId} {args : Array Value} {below : List Frame} {meth : Method} {c0 : Code} {Q : State → Prop} {D : va_G} {cl : List vw_C} {tys : List (ClassId × FieldType)} {o : zO} {z : Nat} {X : State → Heap → Prop} {Ts : List Cond} {prog : List zM} {ws0 : va_W} {nL : Nat} {own : String} {cc : ByteArray} {ret : Option FieldType} {nm : String}
theorem zpts_ok {ov : zOv} {fr lo : Nat} {code : zCode} {rt : zRt} {pts : List zPt} (hov : ∀ g, zOvOk l D cl tys (zwith o g) z X Ts prog ov) (hX : zXok X z) (hprog : ∀ g, zProgOk l D cl tys (zwith o g) z X Ts prog) (hcode : ∀ g, ∀ pc sem, zrget code pc = some (some sem) → zOp p l e R s m args below meth c0 Q D cl tys (zwith o g) z X Ts prog ws0 nL cc ret (pc) (sem)) (hfr : fr ≤ R.frames) (hlo : lo ≤ R.locals) (hrt : zRetOk p l e R s m args below meth c0 Q D cl tys o z ws0 cc ret rt)
    (hchk : ∀ q ∈ pts, znn q = true ∧ ∃ n, zrunc prog ov n (zcutP (some q) pts) fr lo code rt q.1 q.2.1 = true) : ∀ (N : Nat) (q : zPt), q ∈ pts → ∀ (g : Nat → Int32) (ls : Array Slot) (vst : List Value) (H : Heap) (locs : List Loc) (ws : va_W), zSat D cl tys (zwith o g) z ws0 nL s.heap q.2.1 ls vst H locs ws → zlin g q.2.2.1 q.2.2.2 < (N : Int) → W p l e R s m args below meth c0 H locs q.2.1.2.2.2.1 q.2.1.2.2.2.2 Q (F0 m q.1 ls vst) := by
  intro N
  induction N with
  | zero =>
    intro q hq g ls vst H locs ws S hN
    exfalso
    have h0 := (hchk q hq).1
    unfold znn at h0
    split at h0
    · cases h0
    · rename_i t ht
      rw [zle_iff] at h0
      have := zlo_ok (zB_ok S) ht
      omega
  | succ N ih =>
    intro q hq g ls vst H locs ws S hN
    obtain ⟨-, n, hn⟩ := hchk q hq
    refine zrunc_ok (o := zwith o g) (hov g) hX (hprog g) n p e R s m args below meth c0 Q ws0 nL cc ret code (hcode g) fr lo hfr hlo rt hrt (zcutP (some q) pts) ?_ q.1 q.2.1 hn g (fun _ _ => rfl) ls vst H locs ws S
    intro pc' c' hcut f hf ls' vst' H' locs' ws' S'
    obtain ⟨q', h1, h2, h3⟩ := zcutP_ok hcut
    subst h2
    unfold zok1 at h3
    split at h3
    · cases h3
    · rename_i hi
      dsimp only at h3
      split at h3
      · cases h3
      · rename_i r hr
        split at h3
        · cases h3
        · rename_i t ht
          rw [zle_iff] at h3
          have S' : zSat D cl tys (zwith o f) z ws0 nL s.heap c' ls' vst' H' locs' ws' := S'
          obtain ⟨S2, w1, w2⟩ := zinc_ok hi S'
          have d1 := zdif_ok (o := o) (g := g) hf (zB_ok S) S'.1 hr
          have d2 := zlo_ok (zB_ok S) ht
          dsimp only at d1
          rw [zlin_k] at d1
          have d3 := zlin_k (zgv ls') q'.2.2.1 0 q'.2.2.2
          rw [Int.zero_add] at d3
          exact W.widen w1 w2 (ih q' h1 (zgv ls') ls' vst' H' locs' ws' S2 (by omega))
theorem zpts_go {ov : zOv} {fr lo : Nat} {code : zCode} {rt : zRt} {pts : List zPt} (hov : ∀ g, zOvOk l D cl tys (zwith o g) z X Ts prog ov) (hX : zXok X z) (hprog : ∀ g, zProgOk l D cl tys (zwith o g) z X Ts prog) (hcode : ∀ g, ∀ pc sem, zrget code pc = some (some sem) → zOp p l e R s m args below meth c0 Q D cl tys (zwith o g) z X Ts prog ws0 nL cc ret (pc) (sem)) (hfr : fr ≤ R.frames) (hlo : lo ≤ R.locals) (hrt : zRetOk p l e R s m args below meth c0 Q D cl tys o z ws0 cc ret rt)
    (hchk : ∀ q ∈ pts, znn q = true ∧ ∃ n, zrunc prog ov n (zcutP (some q) pts) fr lo code rt q.1 q.2.1 = true) {n pc : Nat} {c : zK} (h : zrunc prog ov n (zcutP none pts) fr lo code rt pc c = true) : zGo p l e R s m args below meth c0 Q D cl tys o z ws0 nL pc c := by
  refine zrunc_ok (o := zwith o o.2.2) (hov _) hX (hprog _) n p e R s m args below meth c0 Q ws0 nL cc ret code (hcode _) fr lo hfr hlo rt hrt (zcutP none pts) ?_ pc c h
  intro pc' c' hcut f hf ls' vst' H' locs' ws' S'
  obtain ⟨q', h1, h2, h3⟩ := zcutP_ok hcut
  subst h2
  unfold zok1 at h3
  split at h3
  · cases h3
  · rename_i hi
    have S' : zSat D cl tys (zwith o f) z ws0 nL s.heap c' ls' vst' H' locs' ws' := S'
    obtain ⟨S2, w1, w2⟩ := zinc_ok hi S'
    exact W.widen w1 w2 (zpts_ok hov hX hprog hcode hfr hlo hrt hchk ((zlin (zgv ls') q'.2.2.1 q'.2.2.2).toNat + 1) q' h1 (zgv ls') ls' vst' H' locs' ws' S2 (by omega))
theorem zMet_pts {ov : zOv} {f lo : Nat} {k : zRt} {pts : List zPt} (hov : ∀ g, zOvOk l D cl tys (zwith o g) z X Ts prog ov) (hX : zXok X z) (hprog : ∀ g, zProgOk l D cl tys (zwith o g) z X Ts prog) {mi : Nat} {mr : zM} (hm : zget prog mi = some mr) {as : List zAV} {h : zH} (k0 : 1 ≤ f) (k1 : 200 ≤ lo) (k2 : zcats as ≤ mr.2.2.1) (k3 : zcats as ≤ 700)
    (hchk : ∀ q ∈ pts, znn q = true ∧ ∃ n, zrunc prog ov n (zcutP (some q) pts) f lo mr.2.2.2.2.2.2 k q.1 q.2.1 = true) {n : Nat} (hc : zrunc prog ov n (zcutP none pts) f lo mr.2.2.2.2.2.2 k 0 (zargs 0 as, [], (h.1, h.2.1, 0), 0, 0) = true) : zMet l D cl tys o z X Ts mr f lo h as k := by
  intro ws vs hvs
  obtain ⟨hy, -⟩ := hprog o.2.2 mi mr hm
  refine Met.ofW (cc := mr.2.1) (maxL := mr.2.2.1) (ret := mr.2.2.2.1) hy rfl ?_
  intro p' e' s' m' args' below' meth' c' s₁ B hml hv
  obtain ⟨rfl, v1, v2, v3, v4, v5, v6⟩ := hv
  have hts := atoms_spec B.pre
  have CX' : zCx p' { frames := f, cells := mr.2.2.2.2.1, slots := mr.2.2.2.2.2.1, locals := lo } s' m' vs.toArray meth' c' D cl tys z X Ts mr.1.cls mr.2.1 mr.2.2.1 mr.1.name := ⟨B.exec, B.bytes, hml, findClass_of_methodNamed B.named, fun w hw => hts w (List.mem_cons_of_mem _ hw), v4, (name_of_methodNamed B.named B.method).1, v5, v6, k0, k1⟩
  have hl := lv_entry vs (n := mr.2.2.1) (by rw [zsl_len hvs]; exact k2)
  rw [lg_entry_eq]
  refine zpts_go (fr := f) (lo := lo) (code := mr.2.2.2.2.2.2) hov hX hprog (fun g pc sem hp => (hprog g mi mr hm).2 p' e' _ s' m' vs.toArray below' meth' c' _ ws rfl rfl CX' pc sem hp) (Nat.le_refl _) (Nat.le_refl _) (zret_MQ B.exec B.bytes B.notSynchronized B.returns rfl rfl) hchk hc (zent o.2.2 vs) (zent_ag _ _) _ [] s'.heap [] ws ⟨⟨_, hl, zargs_ok (g := o.2.2) hvs (by omega) _ (fun n hn => zent_F _ _ (by omega))⟩, trivial, ⟨v1.1, v1.2⟩, v2, v3, va_S.rf, zcg_rf⟩
end ZPTK
