/-! GOOD POINTS: from each of them, at every activation of its method, the method comes to its end -/
def zPtOk (l : Launch) (D : va_G) (cl : List vw_C) (tys : List (ClassId × FieldType)) (o : zO) (z : Nat) (X : State → Heap → Prop) (Ts : List Cond) (mr : zM) (q : zPw) : Prop :=
  ∀ (p : Program) (e : Env) (R : Room) (s : State) (m : MethodId) (args : Array Value) (below : List Frame) (meth : Method) (c0 : Code) (ws0 : va_W), R.cells = mr.2.2.2.2.1 → R.slots = mr.2.2.2.2.2.1 → zCx p R s m args meth c0 D cl tys z X Ts mr.1.cls mr.2.1 mr.2.2.1 mr.1.name → meth.locks = false → meth.sig.returnType = mr.2.2.2.1 → q.2.2.1 ≤ R.frames → q.2.2.2 ≤ R.locals → ∀ (g : Nat → Int32) (ls : Array Slot) (vst : List Value) (H : Heap) (locs : List Loc) (ws : va_W), zSat D cl tys (zwith o g) z ws0 mr.2.2.1 s.heap q.1.2.1 ls vst H locs ws → W p l e R s m args below meth c0 H locs q.1.2.1.2.2.2.1 q.1.2.1.2.2.2.2 (zQf D cl tys o z below args s mr.2.2.2.2.1 mr.2.2.2.2.2.1 ws0 q.2.1) (F0 m q.1.1 ls vst)
noncomputable def zcutX (sl : List (Nat × Nat)) (fr : Option zPt) (e : (Option zAV × zH) × Nat × Nat) (G pts : List zPw) : zCut := fun pc c => match zcutW sl none e G pc c with
  | some true => some true
  | _ => zcutW sl fr e pts pc c
noncomputable def zchkX (sl : List (Nat × Nat)) (prog : List zM) (ov : zOw) (n : Nat) (code : zCode) (G pts qs : List zPw) : Bool := zall (fun q => match znn q.1 with
  | true => zrunw prog ov n (zcutX sl (some q.1) q.2 G pts) q.2.2.1 q.2.2.2 code (zkin q.2.1.1 q.2.1.2) q.1.1 q.1.2.1
  | false => false) qs
section ZGOOD
variable {l : Launch} {D : va_G} {cl : List vw_C} {tys : List (ClassId × FieldType)} {o : zO} {z : Nat} {X : State → Heap → Prop} {Ts : List Cond} {prog : List zM}
/-- a state that a good point holds -/
theorem zgdpt {mr : zM} {G : List zPw} (hG : ∀ q ∈ G, zPtOk l D cl tys o z X Ts mr q) {p : Program} {e : Env} {R : Room} {s : State} {m : MethodId} {args : Array Value} {below : List Frame} {meth : Method} {c0 : Code} {ws0 : va_W} (hbc : R.cells = mr.2.2.2.2.1) (hbs : R.slots = mr.2.2.2.2.2.1) (C : zCx p R s m args meth c0 D cl tys z X Ts mr.1.cls mr.2.1 mr.2.2.1 mr.1.name) (hlk : meth.locks = false) (hrt : meth.sig.returnType = mr.2.2.2.1) {en : (Option zAV × zH) × Nat × Nat} (hf : en.2.1 ≤ R.frames) (hl : en.2.2 ≤ R.locals) {pc : Nat} {c : zK} {sl : List (Nat × Nat)} (hc : zcutW sl none en G pc c = some true) {f : Nat → Int32} {ls : Array Slot} {vst : List Value} {H : Heap} {locs : List Loc} {ws : va_W} (S : zSat D cl tys (zwith o f) z ws0 mr.2.2.1 s.heap c ls vst H locs ws) : W p l e R s m args below meth c0 H locs c.2.2.2.1 c.2.2.2.2 (zQf D cl tys o z below args s mr.2.2.2.2.1 mr.2.2.2.2.2.1 ws0 en.1) (F0 m pc ls vst) := by
  obtain ⟨q', h1, h2', h3⟩ := zcutW_ok hc
  subst h2'
  unfold zokw at h3
  split at h3
  · rename_i h4
    split at h3
    · rename_i h5
      rw [Bool.and_eq_true] at h5
      have b1 := Nat.le_of_ble_eq_true h5.1
      have b2 := Nat.le_of_ble_eq_true h5.2
      unfold zok1 at h4
      split at h4
      · cases h4
      · rename_i hi
        obtain ⟨S2, w1, w2⟩ := zinc_ok hi S
        refine W.widen w1 w2 (zW_mono (fun t ht => ?_) (hG q' h1 p e R s m args below meth c0 ws0 hbc hbs C hlk hrt (Nat.le_trans b1 hf) (Nat.le_trans b2 hl) (zgv ls) ls vst H locs ws S2))
        obtain ⟨oc, t1, t2, t3, t4⟩ := ht
        exact ⟨oc, t1, t2, zQ_in h3 t3, t4⟩
    · cases h3
  · cases h3
theorem zPt_mk {sl : List (Nat × Nat)} {ov : zOw} {n : Nat} {G pts : List zPw} (hov : ∀ g, zOwOk l D cl tys (zwith o g) z X Ts prog ov) (hX : zXok X z) (hprog : ∀ g, zProgOk l D cl tys (zwith o g) z X Ts prog) {mi : Nat} {mr : zM} (hm : zget prog mi = some mr) (hG : ∀ q ∈ G, zPtOk l D cl tys o z X Ts mr q) (hchk : zchkX sl prog ov n mr.2.2.2.2.2.2 G pts pts = true) : ∀ q ∈ pts, zPtOk l D cl tys o z X Ts mr q := by
  intro q0 hq0 p e R s m args below meth c0 ws0 hbc hbs C hlk hret hf0 hl0 g0 ls0 vst0 H0 locs0 ws1 S0
  have key : ∀ (N : Nat) (q : zPw), q ∈ pts → q.2.2.1 ≤ R.frames → q.2.2.2 ≤ R.locals → ∀ (g : Nat → Int32) (ls : Array Slot) (vst : List Value) (H : Heap) (locs : List Loc) (ws : va_W), zSat D cl tys (zwith o g) z ws0 mr.2.2.1 s.heap q.1.2.1 ls vst H locs ws → zlin g q.1.2.2.1 q.1.2.2.2 < (N : Int) → W p l e R s m args below meth c0 H locs q.1.2.1.2.2.2.1 q.1.2.1.2.2.2.2 (zQf D cl tys o z below args s mr.2.2.2.2.1 mr.2.2.2.2.2.1 ws0 q.2.1) (F0 m q.1.1 ls vst) := by
    intro N
    induction N with
    | zero =>
      intro q hq hf hl g ls vst H locs ws S hN
      exfalso
      have h0 := zall_mem hchk q hq
      split at h0
      · rename_i h9
        unfold znn at h9
        split at h9
        · cases h9
        · rename_i t ht
          rw [zle_iff] at h9
          have := zlo_ok (zB_ok S) ht
          omega
      · cases h0
    | succ N ih =>
      intro q hq hf hl g ls vst H locs ws S hN
      have hn := zall_mem hchk q hq
      split at hn
      · refine zrunw_ok (o := zwith o g) (hov g) hX (hprog g) n p e R s m args below meth c0 _ ws0 mr.2.2.1 mr.2.1 mr.2.2.2.1 mr.2.2.2.2.2.2 (fun pc sem hp => (hprog g mi mr hm).2 p e R s m args below meth c0 _ ws0 hbc hbs C pc sem hp) q.2.2.1 q.2.2.2 hf hl _ (zret_MQ C.1 C.2.1 hlk hret hbc hbs) (zcutX sl (some q.1) q.2 G pts) ?_ q.1.1 q.1.2.1 hn g (fun _ _ => rfl) ls vst H locs ws S
        intro pc' c' hcut f hff ls' vst' H' locs' ws' S'
        have S' : zSat D cl tys (zwith o f) z ws0 mr.2.2.1 s.heap c' ls' vst' H' locs' ws' := S'
        unfold zcutX at hcut
        split at hcut
        · rename_i hc
          exact zgdpt hG hbc hbs C hlk hret hf hl hc S'
        · obtain ⟨q', h1, h2, h3⟩ := zcutW_ok hcut
          subst h2
          unfold zokw at h3
          split at h3
          · rename_i h4
            split at h3
            · rename_i h5
              rw [Bool.and_eq_true] at h5
              have b1 := Nat.le_of_ble_eq_true h5.1
              have b2 := Nat.le_of_ble_eq_true h5.2
              unfold zok1 at h4
              split at h4
              · cases h4
              · rename_i hi
                dsimp only at h4
                split at h4
                · cases h4
                · rename_i r hr
                  split at h4
                  · cases h4
                  · rename_i t ht
                    rw [zle_iff] at h4
                    obtain ⟨S2, w1, w2⟩ := zinc_ok hi S'
                    have d1 := zdif_ok (o := o) (g := g) hff (zB_ok S) S'.1 hr
                    have d2 := zlo_ok (zB_ok S) ht
                    dsimp only at d1
                    rw [zlin_k] at d1
                    have d3 := zlin_k (zgv ls') q'.1.2.2.1 0 q'.1.2.2.2
                    rw [Int.zero_add] at d3
                    refine W.widen w1 w2 (zW_mono (fun t ht => ?_) (ih q' h1 (Nat.le_trans b1 hf) (Nat.le_trans b2 hl) (zgv ls') ls' vst' H' locs' ws' S2 (by omega)))
                    obtain ⟨oc, t1, t2, t3, t4⟩ := ht
                    exact ⟨oc, t1, t2, zQ_in h3 t3, t4⟩
            · cases h3
          · cases h3
      · cases hn
  exact key ((zlin g0 q0.1.2.2.1 q0.1.2.2.2).toNat + 1) q0 hq0 hf0 hl0 g0 ls0 vst0 H0 locs0 ws1 S0 (by omega)
theorem zMet_G {sl : List (Nat × Nat)} {ov : zOw} {f lo : Nat} {r2 : Option zAV} {h2 : zH} {G : List zPw} (hov : ∀ g, zOwOk l D cl tys (zwith o g) z X Ts prog ov) (hX : zXok X z) (hprog : ∀ g, zProgOk l D cl tys (zwith o g) z X Ts prog) {mi : Nat} {mr : zM} (hm : zget prog mi = some mr) {as : List zAV} {h : zH} (k0 : 1 ≤ f) (k1 : 200 ≤ lo) (k2 : zcats as ≤ mr.2.2.1) (k3 : zcats as ≤ 700) (hG : ∀ q ∈ G, zPtOk l D cl tys o z X Ts mr q) {n : Nat} (hc : zrunw prog ov n (zcutW sl none ((r2, h2), f, lo) G) f lo mr.2.2.2.2.2.2 (zkin r2 h2) 0 (zargs 0 as, [], (h.1, h.2.1, 0), 0, 0) = true) : zMet l D cl tys o z X Ts mr f lo h as (zkin r2 h2) := by
  intro ws vs hvs
  obtain ⟨hy, -⟩ := hprog o.2.2 mi mr hm
  refine Met.ofW (cc := mr.2.1) (maxL := mr.2.2.1) (ret := mr.2.2.2.1) hy rfl ?_
  intro p' e' s' m' args' below' meth' c' s₁ B hml hv
  obtain ⟨rfl, v1, v2, v3, v4, v5, v6⟩ := hv
  have hts := atoms_spec B.pre
  have CX' : zCx p' { frames := f, cells := mr.2.2.2.2.1, slots := mr.2.2.2.2.2.1, locals := lo } s' m' vs.toArray meth' c' D cl tys z X Ts mr.1.cls mr.2.1 mr.2.2.1 mr.1.name := ⟨B.exec, B.bytes, hml, findClass_of_methodNamed B.named, fun w hw => hts w (List.mem_cons_of_mem _ hw), v4, (name_of_methodNamed B.named B.method).1, v5, v6, k0, k1⟩
  have hl := lv_entry vs (n := mr.2.2.1) (by rw [zsl_len hvs]; exact k2)
  rw [lg_entry_eq]
  refine zrunw_ok (o := zwith o o.2.2) (hov _) hX (hprog _) n p' e' _ s' m' vs.toArray below' meth' c' _ ws mr.2.2.1 mr.2.1 mr.2.2.2.1 mr.2.2.2.2.2.2 (fun pc sem hp => (hprog _ mi mr hm).2 p' e' _ s' m' vs.toArray below' meth' c' _ ws rfl rfl CX' pc sem hp) f lo (Nat.le_refl _) (Nat.le_refl _) _ (zret_MQ B.exec B.bytes B.notSynchronized B.returns rfl rfl) (zcutW sl none ((r2, h2), f, lo) G) ?_ 0 _ hc (zent o.2.2 vs) (zent_ag _ _) _ [] s'.heap [] ws ⟨⟨_, hl, zargs_ok (g := o.2.2) hvs (by omega) _ (fun n hn => zent_F _ _ (by omega))⟩, trivial, ⟨v1.1, v1.2⟩, v2, v3, va_S.rf, zcg_rf⟩
  intro pc' c1 hcut f' hff ls' vst' H' locs' ws' S'
  have S' : zSat D cl tys (zwith o f') z ws mr.2.2.1 s'.heap c1 ls' vst' H' locs' ws' := S'
  exact zgdpt (en := ((r2, h2), f, lo)) hG rfl rfl CX' B.notSynchronized B.returns (Nat.le_refl _) (Nat.le_refl _) hcut S'
/-- a method without heads, with any end -/
theorem zMet_run {ov : zOw} {f lo : Nat} {k : zRt} (hov : ∀ g, zOwOk l D cl tys (zwith o g) z X Ts prog ov) (hX : zXok X z) (hprog : ∀ g, zProgOk l D cl tys (zwith o g) z X Ts prog) {mi : Nat} {mr : zM} (hm : zget prog mi = some mr) {as : List zAV} {h : zH} (k0 : 1 ≤ f) (k1 : 200 ≤ lo) (k2 : zcats as ≤ mr.2.2.1) (k3 : zcats as ≤ 700) {n : Nat} (hc : zrunw prog ov n zcut0 f lo mr.2.2.2.2.2.2 k 0 (zargs 0 as, [], (h.1, h.2.1, 0), 0, 0) = true) : zMet l D cl tys o z X Ts mr f lo h as k := by
  intro ws vs hvs
  obtain ⟨hy, -⟩ := hprog o.2.2 mi mr hm
  refine Met.ofW (cc := mr.2.1) (maxL := mr.2.2.1) (ret := mr.2.2.2.1) hy rfl ?_
  intro p' e' s' m' args' below' meth' c' s₁ B hml hv
  obtain ⟨rfl, v1, v2, v3, v4, v5, v6⟩ := hv
  have hts := atoms_spec B.pre
  have CX' : zCx p' { frames := f, cells := mr.2.2.2.2.1, slots := mr.2.2.2.2.2.1, locals := lo } s' m' vs.toArray meth' c' D cl tys z X Ts mr.1.cls mr.2.1 mr.2.2.1 mr.1.name := ⟨B.exec, B.bytes, hml, findClass_of_methodNamed B.named, fun w hw => hts w (List.mem_cons_of_mem _ hw), v4, (name_of_methodNamed B.named B.method).1, v5, v6, k0, k1⟩
  have hl := lv_entry vs (n := mr.2.2.1) (by rw [zsl_len hvs]; exact k2)
  rw [lg_entry_eq]
  refine zrunw_ok (o := zwith o o.2.2) (hov _) hX (hprog _) n p' e' _ s' m' vs.toArray below' meth' c' _ ws mr.2.2.1 mr.2.1 mr.2.2.2.1 mr.2.2.2.2.2.2 (fun pc sem hp => (hprog _ mi mr hm).2 p' e' _ s' m' vs.toArray below' meth' c' _ ws rfl rfl CX' pc sem hp) f lo (Nat.le_refl _) (Nat.le_refl _) _ (zret_MQ B.exec B.bytes B.notSynchronized B.returns rfl rfl) zcut0 (fun _ _ h => by cases h) 0 _ hc (zent o.2.2 vs) (zent_ag _ _) _ [] s'.heap [] ws ⟨⟨_, hl, zargs_ok (g := o.2.2) hvs (by omega) _ (fun n hn => zent_F _ _ (by omega))⟩, trivial, ⟨v1.1, v1.2⟩, v2, v3, va_S.rf, zcg_rf⟩
end ZGOOD
