/-! KNOWN CALLS WITH SEVERAL ANSWERS; POINTS THAT HAVE EACH THEIR OWN END -/
abbrev zOw : Type := Nat → Nat → Nat → List zAV → zH → Option (List (Option zAV × zH))
def zOwOk (l : Launch) (D : va_G) (cl : List vw_C) (tys : List (ClassId × FieldType)) (o : zO) (z : Nat) (X : State → Heap → Prop) (Ts : List Cond) (prog : List zM) (ov : zOw) : Prop :=
  ∀ fr lo mi mr as h qs, zget prog mi = some mr → ov fr lo mi as h = some qs → ∃ f' lo', f' + 1 ≤ fr ∧ 8 + (mr.2.2.1 + 11) + lo' ≤ lo ∧ ∀ k : zRt, zall (fun q : Option zAV × zH => k q.1 q.2) qs = true → zMet l D cl tys o z X Ts mr f' lo' h as k
noncomputable def zcallw (prog : List zM) (ov : zOw) (ih : Nat → Nat → zCode → zRt → Nat → zK → Bool) (fr lo : Nat) : zCall := fun mi as h k => match ov fr lo mi as h with
  | some qs => zall (fun q : Option zAV × zH => k q.1 q.2) qs
  | none => zcall prog ih fr lo mi as h k
noncomputable def zrunw (prog : List zM) (ov : zOw) (n : Nat) : zCut → Nat → Nat → zCode → zRt → Nat → zK → Bool := Nat.rec (motive := fun _ => zCut → Nat → Nat → zCode → zRt → Nat → zK → Bool) (fun _ _ _ _ _ _ _ => false) (fun _ ih cut fr lo code rt pc c => match zrget code pc with
  | some (some sem) => sem (zcallw prog ov (ih zcut0) fr lo) rt (fun pc' c' => match cut pc' c' with
    | some b => b
    | none => ih cut fr lo code rt pc' c') c
  | _ => false) n
theorem zrunw_s {prog : List zM} {ov : zOw} {cut : zCut} {n fr lo : Nat} {code : zCode} {rt : zRt} {pc : Nat} {c : zK} (h : zrunw prog ov (n + 1) cut fr lo code rt pc c = true) : ∃ sem, zrget code pc = some (some sem) ∧ sem (zcallw prog ov (zrunw prog ov n zcut0) fr lo) rt (fun pc' c' => match cut pc' c' with
    | some b => b
    | none => zrunw prog ov n cut fr lo code rt pc' c') c = true := by
  have h : (match zrget code pc with
    | some (some sem) => sem (zcallw prog ov (zrunw prog ov n zcut0) fr lo) rt (fun pc' c' => match cut pc' c' with
      | some b => b
      | none => zrunw prog ov n cut fr lo code rt pc' c') c
    | _ => false) = true := h
  split at h
  · rename_i sem hc
    exact ⟨sem, hc, h⟩
  · cases h
/-- an answer of several -/
noncomputable def zany {α : Type} (f : α → Bool) (l : List α) : Bool := List.rec (motive := fun _ => Bool) false (fun a _ ih => match f a with
  | true => true
  | false => ih) l
theorem zany_ok {α : Type} {f : α → Bool} : ∀ {l : List α}, zany f l = true → ∃ a ∈ l, f a = true
  | [], h => by cases h
  | x :: l, h => by
    have h : (match f x with
      | true => true
      | false => zany f l) = true := h
    split at h
    · rename_i hf; exact ⟨x, List.mem_cons_self, hf⟩
    · obtain ⟨a, h1, h2⟩ := zany_ok h
      exact ⟨a, List.mem_cons_of_mem _ h1, h2⟩
theorem zall_mem {α : Type} {f : α → Bool} : ∀ {l : List α}, zall f l = true → ∀ a ∈ l, f a = true := by
  intro l h a ha
  obtain ⟨k, hk, e⟩ := List.mem_iff_getElem.mp ha
  exact zall_ok h (k := k) (a := a) (by rw [List.getElem?_eq_getElem hk, e])
noncomputable def zkinL (qs : List (Option zAV × zH)) : zRt := fun r h => zany (fun q : Option zAV × zH => zkin q.1 q.2 r h) qs
/-- method, its locals, frames and room that it wants, arguments, world; answers, each with a world behind it -/
abbrev zKw : Type := Nat × Nat × Nat × Nat × List zAV × zH × List (Option zAV × zH)
noncomputable def zwhit (d : zKw) (fr lo mi : Nat) (as : List zAV) (h : zH) : Bool := match Nat.beq mi d.1 with
  | true => (match Nat.ble (d.2.2.1 + 1) fr && Nat.ble (19 + d.2.1 + d.2.2.2.1) lo with
    | true => (match zl2 zvl as d.2.2.2.2.1 with
      | true => (match zhl h d.2.2.2.2.2.1 with
        | true => zall (fun q : Option zAV × zH => zl2 (zl2 (fun _ _ => true)) q.2.2.1 h.2.1) d.2.2.2.2.2.2
        | false => false)
      | false => false)
    | false => false)
  | false => false
noncomputable def zmapR (f : Option zAV × zH → Option zAV × zH) (l : List (Option zAV × zH)) : List (Option zAV × zH) := List.rec (motive := fun _ => List (Option zAV × zH)) [] (fun a _ ih => f a :: ih) l
noncomputable def zovW (ds : List zKw) : zOw := fun fr lo mi as h => List.rec (motive := fun _ => Option (List (Option zAV × zH))) none (fun d _ ih => match zwhit d fr lo mi as h with
  | true => some (zmapR (fun q => (q.1, zmH h q.2)) d.2.2.2.2.2.2)
  | false => ih) ds
theorem zmapR_all {k : zRt} {f : Option zAV × zH → Option zAV × zH} : ∀ {l : List (Option zAV × zH)}, zall (fun q : Option zAV × zH => k q.1 q.2) (zmapR f l) = true → ∀ r ∈ l, k (f r).1 (f r).2 = true
  | [], _, r, hr => absurd hr List.not_mem_nil
  | x :: l, h, r, hr => by
    have h : (match k (f x).1 (f x).2 with
      | true => zall (fun q : Option zAV × zH => k q.1 q.2) (zmapR f l)
      | false => false) = true := h
    split at h
    · rename_i hx
      rcases List.mem_cons.mp hr with rfl | hr
      · exact hx
      · exact zmapR_all h r hr
    · cases h
section ZRUNW
variable {p : Program} {l : Launch} {e : Env} {R : Room} {s : State} {m : MethodId} {args : Array Value} {below : List Frame} {meth : Method} {c0 : Code} {Q : State → Prop} {D : va_G} {cl : List vw_C} {tys : List (ClassId × FieldType)} {o : zO} {z : Nat} {X : State → Heap → Prop} {Ts : List Cond} {prog : List zM} {ws0 : va_W} {nL : Nat} {own : String} {cc : ByteArray} {ret : Option FieldType} {nm : String}
theorem zrunw_ok {ov : zOw} (hov : zOwOk l D cl tys o z X Ts prog ov) (hX : zXok X z) (hprog : zProgOk l D cl tys o z X Ts prog) : ∀ (n : Nat) (p : Program) (e : Env) (R : Room) (s : State) (m : MethodId) (args : Array Value) (below : List Frame) (meth : Method) (c0 : Code) (Q : State → Prop) (ws0 : va_W) (nL : Nat) (cc : ByteArray) (ret : Option FieldType) (code : zCode), (∀ pc sem, zrget code pc = some (some sem) → zOp p l e R s m args below meth c0 Q D cl tys o z X Ts prog ws0 nL cc ret (pc) (sem)) → ∀ (fr lo : Nat), fr ≤ R.frames → lo ≤ R.locals → ∀ (rt : zRt), zRetOk p l e R s m args below meth c0 Q D cl tys o z ws0 cc ret rt → ∀ (cut : zCut), (∀ pc c, cut pc c = some true → zGo p l e R s m args below meth c0 Q D cl tys o z ws0 nL pc c) → ∀ (pc : Nat) (c : zK), zrunw prog ov n cut fr lo code rt pc c = true → zGo p l e R s m args below meth c0 Q D cl tys o z ws0 nL pc c := by
  intro n
  induction n with
  | zero => intro p e R s m args below meth c0 Q ws0 nL cc ret code _ fr lo _ _ rt _ cut _ pc c h; cases h
  | succ n ih =>
    intro p e R s m args below meth c0 Q ws0 nL cc ret code hcode fr lo hfr hlo rt hrt cut hcut pc c h
    obtain ⟨sem, hsem, hs⟩ := zrunw_s h
    refine hcode pc sem hsem _ rt _ c ?_ hrt (fun pc' c' h' => by
      split at h'
      · rename_i b hb
        subst h'
        exact hcut pc' c' hb
      · exact ih p e R s m args below meth c0 Q ws0 nL cc ret code hcode fr lo hfr hlo rt hrt cut hcut pc' c' h') hs
    intro mi mr av h k hm hc
    unfold zcallw at hc
    split at hc
    · rename_i qs hq
      obtain ⟨f', lo', g1, g2, g3⟩ := hov fr lo mi mr av h qs hm hq
      exact ⟨f', lo', Nat.le_trans g1 hfr, Nat.le_trans g2 hlo, g3 k hc⟩
    unfold zcall at hc
    rw [hm] at hc
    dsimp only at hc
    cases fr with
    | zero => cases hc
    | succ f =>
      dsimp only at hc
      split at hc
      · rename_i hcnt
        simp only [Bool.and_eq_true] at hcnt
        have k1 := Nat.le_of_ble_eq_true hcnt.1
        have k0 := Nat.le_of_ble_eq_true hcnt.2.1
        have k2 := Nat.le_of_ble_eq_true hcnt.2.2.1
        have k3 := Nat.le_of_ble_eq_true hcnt.2.2.2
        refine ⟨f, lo - (19 + mr.2.2.1), by omega, by omega, ?_⟩
        intro ws vs hvs
        obtain ⟨hy, hmr⟩ := hprog mi mr hm
        refine Met.ofW (cc := mr.2.1) (maxL := mr.2.2.1) (ret := mr.2.2.2.1) hy rfl ?_
        intro p' e' s' m' args' below' meth' c' s₁ B hml hv
        obtain ⟨rfl, v1, v2, v3, v4, v5, v6⟩ := hv
        have hts := atoms_spec B.pre
        have CX' : zCx p' { frames := f, cells := mr.2.2.2.2.1, slots := mr.2.2.2.2.2.1, locals := lo - (19 + mr.2.2.1) } s' m' vs.toArray meth' c' D cl tys z X Ts mr.1.cls mr.2.1 mr.2.2.1 mr.1.name := ⟨B.exec, B.bytes, hml, findClass_of_methodNamed B.named, fun w hw => hts w (List.mem_cons_of_mem _ hw), v4, (name_of_methodNamed B.named B.method).1, v5, v6, k0, by show 200 ≤ lo - (19 + mr.2.2.1); omega⟩
        have hl := lv_entry vs (n := mr.2.2.1) (by rw [zsl_len hvs]; exact k2)
        rw [lg_entry_eq]
        refine ih p' e' _ s' m' vs.toArray below' meth' c' _ ws mr.2.2.1 mr.2.1 mr.2.2.2.1 mr.2.2.2.2.2.2 (fun pc sem hp => hmr p' e' _ s' m' vs.toArray below' meth' c' _ ws rfl rfl CX' pc sem hp) f (lo - (19 + mr.2.2.1)) (Nat.le_refl _) (Nat.le_refl _) k (zret_MQ B.exec B.bytes B.notSynchronized B.returns rfl rfl) zcut0 (fun _ _ h => by cases h) 0 _ hc (zent o.2.2 vs) (zent_ag _ _) _ [] s'.heap [] ws ⟨⟨_, hl, zargs_ok (g := o.2.2) hvs (by omega) _ (fun n hn => zent_F _ _ (by omega))⟩, trivial, ⟨v1.1, v1.2⟩, v2, v3, va_S.rf, zcg_rf⟩
      · cases hc
theorem zMet_frameL {mr : zM} {fr lo : Nat} {h hh : zH} {as av : List zAV} {qs : List (Option zAV × zH)} {k : zRt} (hM : zMet l D cl tys o z X Ts mr fr lo hh av (zkinL qs)) (ha : zl2 zvl as av = true) (hb : zhl h hh = true) (hrow : ∀ q ∈ qs, zl2 (zl2 (fun _ _ => true)) q.2.2.1 h.2.1 = true) (hk : ∀ q ∈ qs, k q.1 (zmH h q.2) = true) : zMet l D cl tys o z X Ts mr fr lo h as k := by
  intro ws vs hvs
  have h0 := hM ws vs (zl2_r (R := zgH o (zad ws)) (R' := zgH o (zad ws)) (fun a b v q1 q2 => zvl_ok q1 q2) ha hvs)
  intro p e a1 a2 a3 s m args below b1 b2 b3 b4
  obtain ⟨c0, c1, c2⟩ := b3
  obtain ⟨n, oc, d1, d2, d3, ⟨⟨⟨r, v, h', ws', f1, f2, f3, f4, f5, f6, f7⟩, g1⟩, g2⟩⟩ := h0 p e a1 a2 a3 s m args below b1 b2 ⟨c0, zhl_ok hb c1, c2⟩ b4
  obtain ⟨⟨r2, h2⟩, hr2, f8⟩ := zany_ok f7
  obtain ⟨k1, k2, k3⟩ := zkin_ok f8 f2
  have k4 := zsm_ok k3 f3
  exact ⟨n, oc, d1, d2, d3, ⟨⟨r2, v, zmH h h2, ws', f1, k1, k4, zmH_ok (hrow _ hr2) c1 (zhl_ok k2 f4) k4, f5, f6, hk _ hr2⟩, g1⟩, g2⟩
def zKnW (l : Launch) (D : va_G) (cl : List vw_C) (tys : List (ClassId × FieldType)) (o : zO) (z : Nat) (X : State → Heap → Prop) (Ts : List Cond) (prog : List zM) (d : zKw) : Prop :=
  ∀ mr, zget prog d.1 = some mr → mr.2.2.1 = d.2.1 ∧ zMet l D cl tys o z X Ts mr d.2.2.1 d.2.2.2.1 d.2.2.2.2.2.1 d.2.2.2.2.1 (zkinL d.2.2.2.2.2.2)
theorem zovW_ok : ∀ {ds : List zKw}, (∀ d ∈ ds, zKnW l D cl tys o z X Ts prog d) → zOwOk l D cl tys o z X Ts prog (zovW ds)
  | [], _ => fun fr lo mi mr as h qs _ hq => by cases hq
  | d :: ds, hd => fun fr lo mi mr as h qs hm hq => by
    have hq : (match zwhit d fr lo mi as h with
      | true => some (zmapR (fun q => (q.1, zmH h q.2)) d.2.2.2.2.2.2)
      | false => zovW ds fr lo mi as h) = some qs := hq
    split at hq
    · rename_i hh
      cases hq
      unfold zwhit at hh
      split at hh
      · rename_i h0
        have e := Nat.eq_of_beq_eq_true h0
        subst e
        split at hh
        · rename_i h1
          rw [Bool.and_eq_true] at h1
          have h2 := Nat.le_of_ble_eq_true h1.1
          have h3 := Nat.le_of_ble_eq_true h1.2
          obtain ⟨q1, q2⟩ := hd d List.mem_cons_self mr hm
          split at hh
          · rename_i h4
            split at hh
            · rename_i h5
              exact ⟨d.2.2.1, d.2.2.2.1, h2, by rw [q1]; omega, fun k hk => zMet_frameL q2 h4 h5 (zall_mem hh) (fun q hr => zmapR_all hk q hr)⟩
            · cases hh
          · cases hh
        · cases hh
      · cases hh
    · exact zovW_ok (fun d' h' => hd d' (List.mem_cons_of_mem _ h')) fr lo mi mr as h qs hm hq
/-! points with ends: head, state, measure; answer and world behind; frames and room -/
abbrev zPw : Type := zPt × (Option zAV × zH) × Nat × Nat
noncomputable def zokw (fr : Option zPt) (e : (Option zAV × zH) × Nat × Nat) (c : zK) (q : zPw) : Bool := match zok1 fr c q.1 with
  | true => (match Nat.ble q.2.2.1 e.2.1 && Nat.ble q.2.2.2 e.2.2 with
    | true => zkin e.1.1 e.1.2 q.2.1.1 q.2.1.2
    | false => false)
  | false => false
noncomputable def zslot (c : zK) (k j : Nat) : Option zAV := match zrget c.2.2.1.2.1 k with
  | some (.inr (_, fs)) => zget fs j
  | _ => none
/-- some slots ahead of all others -/
noncomputable def zpre (sl : List (Nat × Nat)) (c C : zK) : Bool := zall (fun s : Nat × Nat => match zslot c s.1 s.2 with
  | some a => (match zslot C s.1 s.2 with
    | some b => zvl a b
    | none => false)
  | none => false) sl
noncomputable def zcutW (sl : List (Nat × Nat)) (fr : Option zPt) (e : (Option zAV × zH) × Nat × Nat) (pts : List zPw) : zCut := fun pc c => List.rec (motive := fun _ => Option Bool) none (fun q _ ih => match Nat.beq q.1.1 pc with
  | true => (match (match zpre sl c q.1.2.1 with
    | true => zokw fr e c q
    | false => false) with
    | true => some true
    | false => (match ih with
      | some b => some b
      | none => some false))
  | false => ih) pts
theorem zcutW_ok {sl : List (Nat × Nat)} {fr : Option zPt} {e : (Option zAV × zH) × Nat × Nat} {pc : Nat} {c : zK} : ∀ {pts : List zPw}, zcutW sl fr e pts pc c = some true → ∃ q ∈ pts, q.1.1 = pc ∧ zokw fr e c q = true
  | [], h => by cases h
  | q :: pts, h => by
    have h : (match Nat.beq q.1.1 pc with
      | true => (match (match zpre sl c q.1.2.1 with
        | true => zokw fr e c q
        | false => false) with
        | true => some true
        | false => (match zcutW sl fr e pts pc c with
          | some b => some b
          | none => some false))
      | false => zcutW sl fr e pts pc c) = some true := h
    split at h
    · rename_i hb
      split at h
      · rename_i hk
        split at hk
        · exact ⟨q, List.mem_cons_self, Nat.eq_of_beq_eq_true hb, hk⟩
        · cases hk
      · split at h
        · rename_i b hz
          cases h
          obtain ⟨q', h1, h2⟩ := zcutW_ok hz
          exact ⟨q', List.mem_cons_of_mem _ h1, h2⟩
        · cases h
    · obtain ⟨q', h1, h2⟩ := zcutW_ok h
      exact ⟨q', List.mem_cons_of_mem _ h1, h2⟩
theorem zQ_in {ws : va_W} {r2 r2' : Option zAV} {h2 h2' : zH} (hk : zkin r2 h2 r2' h2' = true) {a : Array Value} {st t : State} {oc : Outcome} (h : zQ D cl tys o z ws (zkin r2' h2') a st oc t) : zQ D cl tys o z ws (zkin r2 h2) a st oc t := by
  obtain ⟨⟨r, v, h', ws', f1, f2, f3, f4, f5, f6, f7⟩, g1⟩ := h
  obtain ⟨k1, k2, k3⟩ := zkin_ok f7 f2
  exact ⟨⟨r2', v, h2', ws', f1, k1, zsm_ok k3 f3, zhl_ok k2 f4, f5, f6, hk⟩, g1⟩
theorem zW_mono {H : Heap} {locs : List Loc} {cells slots : Nat} {Q' : State → Prop} {g : JFrame} (hQ : ∀ t, Q t → Q' t) (h : W p l e R s m args below meth c0 H locs cells slots Q g) : W p l e R s m args below meth c0 H locs cells slots Q' g := by
  intro T hT X
  obtain ⟨t, a, b⟩ := h T hT X
  exact ⟨t, a, hQ t b⟩
abbrev zQf (D : va_G) (cl : List vw_C) (tys : List (ClassId × FieldType)) (o : zO) (z : Nat) (below : List Frame) (args : Array Value) (s : State) (bc bs : Nat) (ws0 : va_W) (e : Option zAV × zH) : State → Prop := MQ below (zQ D cl tys o z ws0 (zkin e.1 e.2)) args s bc bs (zA z)
theorem zMet_one {mr : zM} {f lo : Nat} {h : zH} {as : List zAV} {r2 : Option zAV} {h2 : zH} (hM : zMet l D cl tys o z X Ts mr f lo h as (zkin r2 h2)) : zMet l D cl tys o z X Ts mr f lo h as (zkinL [(r2, h2)]) := by
  intro ws vs hvs
  have h0 := hM ws vs hvs
  intro p e a1 a2 a3 s m args below b1 b2 b3 b4
  obtain ⟨n, oc, d1, d2, d3, ⟨⟨⟨r, v, h', ws', f1, f2, f3, f4, f5, f6, f7⟩, g1⟩, g2⟩⟩ := h0 p e a1 a2 a3 s m args below b1 b2 b3 b4
  refine ⟨n, oc, d1, d2, d3, ⟨⟨r, v, h', ws', f1, f2, f3, f4, f5, f6, ?_⟩, g1⟩, g2⟩
  show (match zkin r2 h2 r h' with
    | true => true
    | false => false) = true
  rw [f7]
end ZRUNW
