/-! WALKS THAT TAKE SOME CALLS AS KNOWN -/
abbrev zOv : Type := Nat → Nat → Nat → List zAV → zH → Option (Option zAV × zH)
noncomputable def zcallv (prog : List zM) (ov : zOv) (ih : Nat → Nat → zCode → zRt → Nat → zK → Bool) (fr lo : Nat) : zCall := fun mi as h k => match ov fr lo mi as h with
  | some q => k q.1 q.2
  | none => zcall prog ih fr lo mi as h k
noncomputable def zrunv (prog : List zM) (ov : zOv) (n : Nat) : Nat → Nat → zCode → zRt → Nat → zK → Bool := Nat.rec (motive := fun _ => Nat → Nat → zCode → zRt → Nat → zK → Bool) (fun _ _ _ _ _ _ => false) (fun _ ih fr lo code rt pc c => match zrget code pc with
  | some (some sem) => sem (zcallv prog ov ih fr lo) rt (ih fr lo code rt) c
  | _ => false) n
theorem zrunv_s {prog : List zM} {ov : zOv} {n fr lo : Nat} {code : zCode} {rt : zRt} {pc : Nat} {c : zK} (h : zrunv prog ov (n + 1) fr lo code rt pc c = true) : ∃ sem, zrget code pc = some (some sem) ∧ sem (zcallv prog ov (zrunv prog ov n) fr lo) rt (zrunv prog ov n fr lo code rt) c = true := by
  have h : (match zrget code pc with | some (some sem) => sem (zcallv prog ov (zrunv prog ov n) fr lo) rt (zrunv prog ov n fr lo code rt) c | _ => false) = true := h
  split at h
  · rename_i sem hc
    exact ⟨sem, hc, h⟩
  · cases h
abbrev zRm (mr : zM) (f lo : Nat) : Room := { frames := f, cells := mr.2.2.2.2.1, slots := mr.2.2.2.2.2.1, locals := lo }
def zOvOk (l : Launch) (D : va_G) (cl : List vw_C) (tys : List (ClassId × FieldType)) (o : zO) (z : Nat) (X : State → Heap → Prop) (Ts : List Cond) (prog : List zM) (ov : zOv) : Prop :=
  ∀ fr lo mi mr as h q k, zget prog mi = some mr → ov fr lo mi as h = some q → k q.1 q.2 = true → ∃ f' lo', f' + 1 ≤ fr ∧ 8 + (mr.2.2.1 + 11) + lo' ≤ lo ∧ zMet l D cl tys o z X Ts mr f' lo' h as k
/-- what is known of a method: from these arguments and this world it answers so, and leaves this world -/
def zKn (l : Launch) (D : va_G) (cl : List vw_C) (tys : List (ClassId × FieldType)) (o : zO) (z : Nat) (X : State → Heap → Prop) (Ts : List Cond) (mr : zM) (F L : Nat) (av : List zAV) (hh : zH) (r2 : Option zAV) (h2 : zH) : Prop :=
  ∀ (p : Program) (e : Env) (s : State) (m : MethodId) (args : Array Value) (below : List Frame) (meth : Method) (c0 : Code) (Q : State → Prop) (ws : va_W) (k : zRt), zCx p (zRm mr F L) s m args meth c0 D cl tys z X Ts mr.1.cls mr.2.1 mr.2.2.1 mr.1.name → zRetOk p l e (zRm mr F L) s m args below meth c0 Q D cl tys o z ws mr.2.1 mr.2.2.2.1 k → k r2 h2 = true → zGo p l e (zRm mr F L) s m args below meth c0 Q D cl tys o z ws mr.2.2.1 0 (zargs 0 av, [], hh, 0, 0)
abbrev zKd : Type := Nat × Nat × Nat × Nat × List zAV × zH × Option zAV × zH
noncomputable def zkdhit (M : zMp) (d : zKd) (fr lo mi : Nat) (as : List zAV) (h : zH) : Bool := match Nat.beq mi d.1 with
  | false => false
  | true => Nat.ble (d.2.2.1 + 1) fr && (Nat.ble (19 + d.2.1 + d.2.2.2.1) lo && (Nat.ble (zcats as) d.2.1 && (zall2 (zcv M) as d.2.2.2.2.1 && zcvH M h d.2.2.2.2.2.1)))
noncomputable def zovL (M : zMp) (ds : List zKd) : zOv := fun fr lo mi as h => List.rec (motive := fun _ => Option (Option zAV × zH)) none (fun d _ ih => match zkdhit M d fr lo mi as h with
  | true => some d.2.2.2.2.2.2
  | false => ih) ds
noncomputable def zovO (a b : zOv) : zOv := fun fr lo mi as h => match a fr lo mi as h with
  | some q => some q
  | none => b fr lo mi as h
def zov0 : zOv := fun _ _ _ _ _ => none
noncomputable def zcvR (M : zMp) (r2 : Option zAV) (h2 : zH) : zRt := fun r h => zcvO M r r2 && zcvH M h h2
section ZRUNV
variable {p : Program} {l : Launch} {e : Env} {R : Room} {s : State} {m : MethodId} {args : Array Value} {below : List Frame} {meth : Method} {c0 : Code} {Q : State → Prop} {D : va_G} {cl : List vw_C} {tys : List (ClassId × FieldType)} {o : zO} {z : Nat} {X : State → Heap → Prop} {Ts : List Cond} {prog : List zM} {ws0 : va_W} {nL : Nat} {own : String} {cc : ByteArray} {ret : Option FieldType} {nm : String}
theorem zMet_of (hprog : zProgOk l D cl tys o z X Ts prog) {mi : Nat} {mr : zM} (hm : zget prog mi = some mr) {f lo : Nat} (k0 : 1 ≤ f) (k1 : 200 ≤ lo) {as : List zAV} {h : zH} {k : zRt} (k2 : zcats as ≤ mr.2.2.1) (hgo : ∀ (p : Program) (e : Env) (s : State) (m : MethodId) (args : Array Value) (below : List Frame) (meth : Method) (c0 : Code) (Q : State → Prop) (ws : va_W), zCx p (zRm mr f lo) s m args meth c0 D cl tys z X Ts mr.1.cls mr.2.1 mr.2.2.1 mr.1.name → zRetOk p l e (zRm mr f lo) s m args below meth c0 Q D cl tys o z ws mr.2.1 mr.2.2.2.1 k → zGo p l e (zRm mr f lo) s m args below meth c0 Q D cl tys o z ws mr.2.2.1 0 (zargs 0 as, [], h, 0, 0)) : zMet l D cl tys o z X Ts mr f lo h as k := by
  intro ws vs hvs
  obtain ⟨hy, hmr⟩ := hprog mi mr hm
  refine Met.ofW (cc := mr.2.1) (maxL := mr.2.2.1) (ret := mr.2.2.2.1) hy rfl ?_
  intro p' e' s' m' args' below' meth' c' s₁ B hml hv
  obtain ⟨rfl, v1, v2, v3, v4, v5, v6⟩ := hv
  have hts := atoms_spec B.pre
  have CX' : zCx p' (zRm mr f lo) s' m' vs.toArray meth' c' D cl tys z X Ts mr.1.cls mr.2.1 mr.2.2.1 mr.1.name := ⟨B.exec, B.bytes, hml, findClass_of_methodNamed B.named, fun w hw => hts w (List.mem_cons_of_mem _ hw), v4, (name_of_methodNamed B.named B.method).1, v5, v6, k0, k1⟩
  have hl := lv_entry vs (n := mr.2.2.1) (by rw [zsl_len hvs]; exact k2)
  rw [lg_entry_eq]
  exact hgo p' e' s' m' vs.toArray below' meth' c' _ ws CX' (zret_MQ B.exec B.bytes B.notSynchronized B.returns rfl rfl) _ [] s'.heap [] ws ⟨⟨_, hl, zargs_ok hvs⟩, trivial, v1, v2, v3, va_S.rf, fun _ _ q => q⟩
theorem zrunv_ok (hX : zXok X z) (hprog : zProgOk l D cl tys o z X Ts prog) {ov : zOv} (hov : zOvOk l D cl tys o z X Ts prog ov) : ∀ (n : Nat) (p : Program) (e : Env) (R : Room) (s : State) (m : MethodId) (args : Array Value) (below : List Frame) (meth : Method) (c0 : Code) (Q : State → Prop) (ws0 : va_W) (nL : Nat) (cc : ByteArray) (ret : Option FieldType) (code : zCode), (∀ pc sem, zrget code pc = some (some sem) → zOp p l e R s m args below meth c0 Q D cl tys o z X Ts prog ws0 nL cc ret (pc) (sem)) → ∀ (fr lo : Nat), fr ≤ R.frames → lo ≤ R.locals → ∀ (rt : zRt), zRetOk p l e R s m args below meth c0 Q D cl tys o z ws0 cc ret rt → ∀ (pc : Nat) (c : zK), zrunv prog ov n fr lo code rt pc c = true → zGo p l e R s m args below meth c0 Q D cl tys o z ws0 nL pc c := by
  intro n
  induction n with
  | zero => intro p e R s m args below meth c0 Q ws0 nL cc ret code _ fr lo _ _ rt _ pc c h; cases h
  | succ n ih =>
    intro p e R s m args below meth c0 Q ws0 nL cc ret code hcode fr lo hfr hlo rt hrt pc c h
    obtain ⟨sem, hsem, hs⟩ := zrunv_s h
    refine hcode pc sem hsem _ rt _ c ?_ hrt (fun pc' c' h' => ih p e R s m args below meth c0 Q ws0 nL cc ret code hcode fr lo hfr hlo rt hrt pc' c' h') hs
    intro mi mr av h k hm hc
    unfold zcallv at hc
    split at hc
    · rename_i q hq
      obtain ⟨f', lo', q1, q2, q3⟩ := hov fr lo mi mr av h q k hm hq hc
      exact ⟨f', lo', by omega, by omega, q3⟩
    · unfold zcall at hc
      rw [hm] at hc
      dsimp only at hc
      cases fr with
      | zero => cases hc
      | succ f =>
        dsimp only at hc
        split at hc
        · rename_i hcnt
          simp only [Bool.and_eq_true] at hcnt
          have k1 := Nat.le_of_ble_eq_true hcnt.1
          have k0 := Nat.le_of_ble_eq_true hcnt.2.1
          have k2 := Nat.le_of_ble_eq_true hcnt.2.2
          refine ⟨f, lo - (19 + mr.2.2.1), by omega, by omega, ?_⟩
          refine zMet_of hprog hm k0 (by omega) k2 ?_
          intro p' e' s' m' args' below' meth' c' Q' ws CX' hret
          exact ih p' e' _ s' m' args' below' meth' c' Q' ws mr.2.2.1 mr.2.1 mr.2.2.2.1 mr.2.2.2.2.2.2 (fun pc sem hp => (hprog mi mr hm).2 p' e' _ s' m' args' below' meth' c' Q' ws rfl rfl CX' pc sem hp) f (lo - (19 + mr.2.2.1)) (Nat.le_refl _) (Nat.le_refl _) k hret 0 _ hc
        · cases hc
theorem zov0_ok : zOvOk l D cl tys o z X Ts prog zov0 := by
  intro fr lo mi mr as h q k _ hq
  cases hq
theorem zovO_ok {a b : zOv} (ha : zOvOk l D cl tys o z X Ts prog a) (hb : zOvOk l D cl tys o z X Ts prog b) : zOvOk l D cl tys o z X Ts prog (zovO a b) := by
  intro fr lo mi mr as h q k hm hq hk
  unfold zovO at hq
  split at hq
  · rename_i q' hq'
    cases hq
    exact ha fr lo mi mr as h _ k hm hq' hk
  · exact hb fr lo mi mr as h q k hm hq hk
theorem zargs_cv {M : zMp} : ∀ {i : Nat} {as av : List zAV}, zall2 (zcv M) as av = true → ∀ {ad : Nat → Option Nat} {f' f : Nat → Int32} {lv : List (Nat × Value)}, zMok M f' f → zr2 (zlr (zwith o f') ad) (zargs i as) lv → zr2 (zlr (zwith o f) ad) (zargs i av) lv
  | _, [], [], _, _, _, _, lv, _, h => by
    have e := zr2_nil h
    subst e
    exact trivial
  | _, [], _ :: _, h, _, _, _, _, _, _ => by cases h
  | _, _ :: _, [], h, _, _, _, _, _, _ => by cases h
  | i, a :: as, b :: av, h, ad, f', f, lv, hM, hz => by
    obtain ⟨v, t, rfl, h1, h2⟩ := zr2_cons hz
    have hg := zcv_ok hM (zall2_c h).1 h1.2
    have ec : zcat a = zcat b := by rw [← zg_cat h1.2, ← zg_cat hg]
    refine ⟨⟨h1.1, hg⟩, ?_⟩
    have h2' : zr2 (zlr (zwith o f') ad) (zargs (i + zcat a) as) t := h2
    rw [ec] at h2'
    exact zargs_cv (zall2_c h).2 hM h2'
theorem zGo_in {M : zMp} {f' f : Nat → Int32} {as av : List zAV} {h hh : zH} {pc : Nat} (hM : zMok M f' f) (h1 : zall2 (zcv M) as av = true) (h2 : zcvH M h hh = true) (hg : zGo p l e R s m args below meth c0 Q D cl tys (zwith o f) z ws0 nL pc (zargs 0 av, [], hh, 0, 0)) : zGo p l e R s m args below meth c0 Q D cl tys (zwith o f') z ws0 nL pc (zargs 0 as, [], h, 0, 0) := by
  intro ls vst H locs ws S
  obtain ⟨⟨lv, s1, s2⟩, s3, s4, s5, s6, s7, s8⟩ := S
  have e := zr2_nil s3
  subst e
  exact hg ls [] H locs ws ⟨⟨lv, s1, zargs_cv h1 hM s2⟩, trivial, zwr_cv hM h2 s4, s5, s6, s7, s8⟩
theorem zovL_ok {f : Nat → Int32} {M : zMp} (hM : zMok M f f) (hprog : zProgOk l D cl tys (zwith o f) z X Ts prog) : ∀ {ds : List zKd}, (∀ d ∈ ds, ∀ mr, zget prog d.1 = some mr → mr.2.2.1 = d.2.1 ∧ 1 ≤ d.2.2.1 ∧ 200 ≤ d.2.2.2.1 ∧ zKn l D cl tys (zwith o f) z X Ts mr d.2.2.1 d.2.2.2.1 d.2.2.2.2.1 d.2.2.2.2.2.1 d.2.2.2.2.2.2.1 d.2.2.2.2.2.2.2) → zOvOk l D cl tys (zwith o f) z X Ts prog (zovL M ds)
  | [], _ => by
    intro fr lo mi mr as h q k _ hq
    cases hq
  | d :: ds, hd => by
    intro fr lo mi mr as h q k hm hq hk
    have hq : (match zkdhit M d fr lo mi as h with
      | true => some d.2.2.2.2.2.2
      | false => zovL M ds fr lo mi as h) = some q := hq
    split at hq
    · rename_i hhit
      cases hq
      unfold zkdhit at hhit
      split at hhit
      · cases hhit
      · rename_i hmi
        have e := Nat.eq_of_beq_eq_true hmi
        subst e
        simp only [Bool.and_eq_true] at hhit
        obtain ⟨a1, a2, a3, a4, a5⟩ := hhit
        have a1 := Nat.le_of_ble_eq_true a1
        have a2 := Nat.le_of_ble_eq_true a2
        have a3 := Nat.le_of_ble_eq_true a3
        obtain ⟨b1, b2, b3, b4⟩ := hd d List.mem_cons_self mr hm
        refine ⟨d.2.2.1, d.2.2.2.1, a1, by rw [b1]; omega, zMet_of hprog hm b2 b3 (by rw [b1]; exact a3) ?_⟩
        intro p' e' s' m' args' below' meth' c' Q' ws CX' hret
        exact zGo_in hM a4 a5 (b4 p' e' s' m' args' below' meth' c' Q' ws k CX' hret hk)
    · exact zovL_ok hM hprog (fun d' h' => hd d' (List.mem_cons_of_mem _ h')) fr lo mi mr as h q k hm hq hk
theorem zRet_cv {M : zMp} {f' f : Nat → Int32} {rt : zRt} (hM : zMok M f' f) (hrt : zRetOk p l e R s m args below meth c0 Q D cl tys (zwith o f) z ws0 cc ret rt) {r2 : Option zAV} {h2 : zH} (hk : rt r2 h2 = true) : zRetOk p l e R s m args below meth c0 Q D cl tys (zwith o f') z ws0 cc ret (zcvR M r2 h2) := by
  intro pc ls v r h H locs ws cells slots q1 q2 q3 q4 q5 q6 q7 q8 q9 q10
  unfold zcvR at q10
  rw [Bool.and_eq_true] at q10
  exact hrt pc ls v r2 h2 H locs ws cells slots (zcvO_ok hM q10.1 q1) (zwr_cv hM q10.2 q2) q3 q4 q5 q6 q7 q8 q9 hk
/-- known by a run -/
theorem zKn_run (hX : zXok X z) {f f' : Nat → Int32} (hprog : zProgOk l D cl tys (zwith o f') z X Ts prog) {ov : zOv} (hov : zOvOk l D cl tys (zwith o f') z X Ts prog ov) {M M0 : zMp} (hM0 : zMok M0 f f') (hM : zMok M f' f) {mi : Nat} {mr : zM} (hm : zget prog mi = some mr) {n F L : Nat} {av av' : List zAV} {hh hh' : zH} {r2 : Option zAV} {h2 : zH} (ha : zall2 (zcv M0) av av' = true) (hb : zcvH M0 hh hh' = true) (hrun : zrunv prog ov n F L mr.2.2.2.2.2.2 (zcvR M r2 h2) 0 (zargs 0 av', [], hh', 0, 0) = true) : zKn l D cl tys (zwith o f) z X Ts mr F L av hh r2 h2 := by
  intro p e s m args below meth c0 Q ws k C hret hk
  exact zGo_in hM0 ha hb (zrunv_ok hX hprog hov n p e _ s m args below meth c0 Q ws mr.2.2.1 mr.2.1 mr.2.2.2.1 mr.2.2.2.2.2.2 (fun pc sem hp => (hprog mi mr hm).2 p e _ s m args below meth c0 Q ws rfl rfl C pc sem hp) F L (Nat.le_refl _) (Nat.le_refl _) _ (zRet_cv hM hret hk) 0 _ hrun)
/-- a compare of two named ints, known -/
noncomputable def zdcT (n1 n2 : Nat) (b : Bool) (x y : zN) : Option Bool := match x.2 with
  | some q1 => (match y.2 with
    | some q2 => (match Nat.beq q1.1 n1 && (zieq q1.2 0 && (Nat.beq q2.1 n2 && zieq q2.2 0)) with
      | true => some b
      | false => none)
    | none => none)
  | none => none
theorem zdcT_ok {P : Int32 → Int32 → Prop} {f : Nat → Int32} {n1 n2 : Nat} {b : Bool} (hP : zdec (P (f n1) (f n2)) (some b)) {a c : zN} {x y : Int32} (h1 : ztg f a.2 x) (h2 : ztg f c.2 y) : zdec (P x y) (zdcT n1 n2 b a c) := by
  unfold zdcT
  split
  · rename_i q1 e1
    split
    · rename_i q2 e2
      split
      · rename_i hh
        simp only [Bool.and_eq_true] at hh
        obtain ⟨k1, k2, k3, k4⟩ := hh
        rw [e1] at h1
        rw [e2] at h2
        have h1 : x = f q1.1 + Int32.ofInt q1.2 := h1
        have h2 : y = f q2.1 + Int32.ofInt q2.2 := h2
        rw [h1, h2, Nat.eq_of_beq_eq_true k1, Nat.eq_of_beq_eq_true k3, zieq_ok k2, zieq_ok k4, show Int32.ofInt 0 = 0 by decide, Int32.add_zero, Int32.add_zero]
        exact hP
      · exact ⟨fun h => (by cases h), fun h => (by cases h)⟩
    · exact ⟨fun h => (by cases h), fun h => (by cases h)⟩
  · exact ⟨fun h => (by cases h), fun h => (by cases h)⟩
/-- once round a loop: from its head with one row of names to its head with another -/
theorem zround (hX : zXok X z) {f f' : Nat → Int32} (hprog : zProgOk l D cl tys (zwith o f) z X Ts prog) {ov : zOv} (hov : zOvOk l D cl tys (zwith o f) z X Ts prog ov) {M : zMp} (hM : zMok M f f') {code : zCode} (hcode : ∀ pc sem, zrget code pc = some (some sem) → zOp p l e R s m args below meth c0 Q D cl tys (zwith o f) z X Ts prog ws0 nL cc ret pc sem) {hp cp gp : Nat} {C : zK} {sm : zSem} {y1 : Option zSem} (hgp : zrget code gp = some (some (zo_goto hp))) (hcp : zrget code cp = some y1) (hne : gp ≠ cp) (hsm : zOp p l e R s m args below meth c0 Q D cl tys (zwith o f) z X Ts prog ws0 nL cc ret cp sm) (hnext : zGo p l e R s m args below meth c0 Q D cl tys (zwith o f') z ws0 nL hp C) {n fr lo : Nat} (hfr : fr ≤ R.frames) (hlo : lo ≤ R.locals) (hrun : zrunv prog ov n fr lo (zrset (zrset code cp (some sm)) gp (some (zo_cut (fun c => zcvK M c C)))) (fun _ _ => false) hp C = true) : zGo p l e R s m args below meth c0 Q D cl tys (zwith o f) z ws0 nL hp C := by
  refine zrunv_ok hX hprog hov n p e R s m args below meth c0 Q ws0 nL cc ret _ ?_ fr lo hfr hlo _ ?_ hp C hrun
  · intro pc sem h
    have hg2 : zrget (zrset code cp (some sm)) gp = some (some (zo_goto hp)) := by rw [zrget_set hcp, if_neg hne]; exact hgp
    rw [zrget_set hg2] at h
    by_cases e1 : pc = gp
    · rw [if_pos e1] at h
      have h : some (zo_cut (fun c => zcvK M c C)) = some sem := Option.some.inj h
      cases h
      subst e1
      intro call rt go c k1 k2 _ hs
      refine hcode pc _ hgp call rt (fun pc' c' => Nat.beq pc' hp && zcvK M c' C) c k1 k2 ?_ ?_
      · intro pc' c' h'
        rw [Bool.and_eq_true] at h'
        have e := Nat.eq_of_beq_eq_true h'.1
        subst e
        exact zGo_cv hM h'.2 hnext
      · show (Nat.beq hp hp && zcvK M c C) = true
        rw [Bool.and_eq_true]
        exact ⟨Nat.beq_refl hp, hs⟩
    · rw [if_neg e1, zrget_set hcp] at h
      by_cases e2 : pc = cp
      · rw [if_pos e2] at h
        have h : some sm = some sem := Option.some.inj h
        cases h
        rw [e2]
        exact hsm
      · rw [if_neg e2] at h
        exact hcode pc sem h
  · intro pc ls v r h H locs ws cells slots _ _ _ _ _ _ _ _ _ q
    cases q
/-- out of a loop -/
theorem zleave (hX : zXok X z) {f : Nat → Int32} (hprog : zProgOk l D cl tys (zwith o f) z X Ts prog) {ov : zOv} (hov : zOvOk l D cl tys (zwith o f) z X Ts prog ov) {code : zCode} (hcode : ∀ pc sem, zrget code pc = some (some sem) → zOp p l e R s m args below meth c0 Q D cl tys (zwith o f) z X Ts prog ws0 nL cc ret pc sem) {hp cp : Nat} {C : zK} {sm : zSem} {y1 : Option zSem} (hcp : zrget code cp = some y1) (hsm : zOp p l e R s m args below meth c0 Q D cl tys (zwith o f) z X Ts prog ws0 nL cc ret cp sm) {n fr lo : Nat} (hfr : fr ≤ R.frames) (hlo : lo ≤ R.locals) {rt : zRt} (hrt : zRetOk p l e R s m args below meth c0 Q D cl tys (zwith o f) z ws0 cc ret rt) (hrun : zrunv prog ov n fr lo (zrset code cp (some sm)) rt hp C = true) : zGo p l e R s m args below meth c0 Q D cl tys (zwith o f) z ws0 nL hp C := by
  refine zrunv_ok hX hprog hov n p e R s m args below meth c0 Q ws0 nL cc ret _ ?_ fr lo hfr hlo _ hrt hp C hrun
  intro pc sem h
  rw [zrget_set hcp] at h
  by_cases e2 : pc = cp
  · rw [if_pos e2] at h
    have h : some sm = some sem := Option.some.inj h
    cases h
    rw [e2]
    exact hsm
  · rw [if_neg e2] at h
    exact hcode pc sem h
/-- into a loop: up to its head -/
theorem zenter (hX : zXok X z) {f f' : Nat → Int32} (hprog : zProgOk l D cl tys (zwith o f) z X Ts prog) {ov : zOv} (hov : zOvOk l D cl tys (zwith o f) z X Ts prog ov) {M : zMp} (hM : zMok M f f') {code : zCode} (hcode : ∀ pc sem, zrget code pc = some (some sem) → zOp p l e R s m args below meth c0 Q D cl tys (zwith o f) z X Ts prog ws0 nL cc ret pc sem) {hp : Nat} {C c : zK} {y1 : Option zSem} (hhp : zrget code hp = some y1) (hnext : zGo p l e R s m args below meth c0 Q D cl tys (zwith o f') z ws0 nL hp C) {n fr lo : Nat} (hfr : fr ≤ R.frames) (hlo : lo ≤ R.locals) {pc0 : Nat} (hrun : zrunv prog ov n fr lo (zrset code hp (some (zo_cut (fun c => zcvK M c C)))) (fun _ _ => false) pc0 c = true) : zGo p l e R s m args below meth c0 Q D cl tys (zwith o f) z ws0 nL pc0 c := by
  refine zrunv_ok hX hprog hov n p e R s m args below meth c0 Q ws0 nL cc ret _ ?_ fr lo hfr hlo _ ?_ pc0 c hrun
  · intro pc sem h
    rw [zrget_set hhp] at h
    by_cases e1 : pc = hp
    · rw [if_pos e1] at h
      have h : some (zo_cut (fun c => zcvK M c C)) = some sem := Option.some.inj h
      cases h
      subst e1
      intro call rt go c k1 k2 _ hs
      exact zGo_cv hM hs hnext
    · rw [if_neg e1] at h
      exact hcode pc sem h
  · intro pc ls v r h H locs ws cells slots _ _ _ _ _ _ _ _ _ q
    cases q
end ZRUNV
