/-! THE WALK WITH KNOWN CALLS AND CUTS -/
/-- frames, locals' room, method, arguments, world: an answer and a world behind it -/
abbrev zOv : Type := Nat → Nat → Nat → List zAV → zH → Option (Option zAV × zH)
abbrev zCut : Type := Nat → zK → Option Bool
def zOvOk (l : Launch) (D : va_G) (cl : List vw_C) (tys : List (ClassId × FieldType)) (o : zO) (z : Nat) (X : State → Heap → Prop) (Ts : List Cond) (prog : List zM) (ov : zOv) : Prop :=
  ∀ fr lo mi mr as h r h', zget prog mi = some mr → ov fr lo mi as h = some (r, h') → ∃ f' lo', f' + 1 ≤ fr ∧ 8 + (mr.2.2.1 + 11) + lo' ≤ lo ∧ ∀ k : zRt, k r h' = true → zMet l D cl tys o z X Ts mr f' lo' h as k
noncomputable def zcallv (prog : List zM) (ov : zOv) (ih : Nat → Nat → zCode → zRt → Nat → zK → Bool) (fr lo : Nat) : zCall := fun mi as h k => match ov fr lo mi as h with
  | some q => k q.1 q.2
  | none => zcall prog ih fr lo mi as h k
def zcut0 : zCut := fun _ _ => none
noncomputable def zrunc (prog : List zM) (ov : zOv) (n : Nat) : zCut → Nat → Nat → zCode → zRt → Nat → zK → Bool := Nat.rec (motive := fun _ => zCut → Nat → Nat → zCode → zRt → Nat → zK → Bool) (fun _ _ _ _ _ _ _ => false) (fun _ ih cut fr lo code rt pc c => match zrget code pc with
  | some (some sem) => sem (zcallv prog ov (ih zcut0) fr lo) rt (fun pc' c' => match cut pc' c' with
    | some b => b
    | none => ih cut fr lo code rt pc' c') c
  | _ => false) n
theorem zrunc_s {prog : List zM} {ov : zOv} {cut : zCut} {n fr lo : Nat} {code : zCode} {rt : zRt} {pc : Nat} {c : zK} (h : zrunc prog ov (n + 1) cut fr lo code rt pc c = true) : ∃ sem, zrget code pc = some (some sem) ∧ sem (zcallv prog ov (zrunc prog ov n zcut0) fr lo) rt (fun pc' c' => match cut pc' c' with
    | some b => b
    | none => zrunc prog ov n cut fr lo code rt pc' c') c = true := by
  have h : (match zrget code pc with
    | some (some sem) => sem (zcallv prog ov (zrunc prog ov n zcut0) fr lo) rt (fun pc' c' => match cut pc' c' with
      | some b => b
      | none => zrunc prog ov n cut fr lo code rt pc' c') c
    | _ => false) = true := h
  split at h
  · rename_i sem hc
    exact ⟨sem, hc, h⟩
  · cases h
section ZRUNC
variable {p : Program} {l : Launch} {e : Env} {R : Room} {s : State} {m : MethodId} {args : Array Value} {below : List Frame} {meth : Method} {c0 : Code} {Q : State → Prop} {D : va_G} {cl : List vw_C} {tys : List (ClassId × FieldType)} {o : zO} {z : Nat} {X : State → Heap → Prop} {Ts : List Cond} {prog : List zM} {ws0 : va_W} {nL : Nat} {own : String} {cc : ByteArray} {ret : Option FieldType} {nm : String}
theorem zrunc_ok {ov : zOv} (hov : zOvOk l D cl tys o z X Ts prog ov) (hX : zXok X z) (hprog : zProgOk l D cl tys o z X Ts prog) : ∀ (n : Nat) (p : Program) (e : Env) (R : Room) (s : State) (m : MethodId) (args : Array Value) (below : List Frame) (meth : Method) (c0 : Code) (Q : State → Prop) (ws0 : va_W) (nL : Nat) (cc : ByteArray) (ret : Option FieldType) (code : zCode), (∀ pc sem, zrget code pc = some (some sem) → zOp p l e R s m args below meth c0 Q D cl tys o z X Ts prog ws0 nL cc ret (pc) (sem)) → ∀ (fr lo : Nat), fr ≤ R.frames → lo ≤ R.locals → ∀ (rt : zRt), zRetOk p l e R s m args below meth c0 Q D cl tys o z ws0 cc ret rt → ∀ (cut : zCut), (∀ pc c, cut pc c = some true → zGo p l e R s m args below meth c0 Q D cl tys o z ws0 nL pc c) → ∀ (pc : Nat) (c : zK), zrunc prog ov n cut fr lo code rt pc c = true → zGo p l e R s m args below meth c0 Q D cl tys o z ws0 nL pc c := by
  intro n
  induction n with
  | zero => intro p e R s m args below meth c0 Q ws0 nL cc ret code _ fr lo _ _ rt _ cut _ pc c h; cases h
  | succ n ih =>
    intro p e R s m args below meth c0 Q ws0 nL cc ret code hcode fr lo hfr hlo rt hrt cut hcut pc c h
    obtain ⟨sem, hsem, hs⟩ := zrunc_s h
    refine hcode pc sem hsem _ rt _ c ?_ hrt (fun pc' c' h' => by
      split at h'
      · rename_i b hb
        subst h'
        exact hcut pc' c' hb
      · exact ih p e R s m args below meth c0 Q ws0 nL cc ret code hcode fr lo hfr hlo rt hrt cut hcut pc' c' h') hs
    intro mi mr av h k hm hc
    unfold zcallv at hc
    split at hc
    · rename_i q hq
      obtain ⟨f', lo', g1, g2, g3⟩ := hov fr lo mi mr av h q.1 q.2 hm hq
      exact ⟨f', lo', Nat.le_trans g1 hfr, Nat.le_trans g2 hlo, g3 k hc⟩
    unfold zcall at hc
    rw [hm] at hc
    dsimp only at hc
    cases fr with
    | zero => cases hc
    | succ f =>
      dsimp only at hc
      split at hc
      · rename_i hcnt
        simp only [Bool.and_eq_true] at hcnt
        have k1 := Nat.le_of_ble_eq_true hcnt.1
        have k0 := Nat.le_of_ble_eq_true hcnt.2.1
        have k2 := Nat.le_of_ble_eq_true hcnt.2.2.1
        have k3 := Nat.le_of_ble_eq_true hcnt.2.2.2
        refine ⟨f, lo - (19 + mr.2.2.1), by omega, by omega, ?_⟩
        intro ws vs hvs
        obtain ⟨hy, hmr⟩ := hprog mi mr hm
        refine Met.ofW (cc := mr.2.1) (maxL := mr.2.2.1) (ret := mr.2.2.2.1) hy rfl ?_
        intro p' e' s' m' args' below' meth' c' s₁ B hml hv
        obtain ⟨rfl, v1, v2, v3, v4, v5, v6⟩ := hv
        have hts := atoms_spec B.pre
        have CX' : zCx p' { frames := f, cells := mr.2.2.2.2.1, slots := mr.2.2.2.2.2.1, locals := lo - (19 + mr.2.2.1) } s' m' vs.toArray meth' c' D cl tys z X Ts mr.1.cls mr.2.1 mr.2.2.1 mr.1.name := ⟨B.exec, B.bytes, hml, findClass_of_methodNamed B.named, fun w hw => hts w (List.mem_cons_of_mem _ hw), v4, (name_of_methodNamed B.named B.method).1, v5, v6, k0, by show 200 ≤ lo - (19 + mr.2.2.1); omega⟩
        have hl := lv_entry vs (n := mr.2.2.1) (by rw [zsl_len hvs]; exact k2)
        rw [lg_entry_eq]
        refine ih p' e' _ s' m' vs.toArray below' meth' c' _ ws mr.2.2.1 mr.2.1 mr.2.2.2.1 mr.2.2.2.2.2.2 (fun pc sem hp => hmr p' e' _ s' m' vs.toArray below' meth' c' _ ws rfl rfl CX' pc sem hp) f (lo - (19 + mr.2.2.1)) (Nat.le_refl _) (Nat.le_refl _) k (zret_MQ B.exec B.bytes B.notSynchronized B.returns rfl rfl) zcut0 (fun _ _ h => by cases h) 0 _ hc (zent o.2.2 vs) (zent_ag _ _) _ [] s'.heap [] ws ⟨⟨_, hl, zargs_ok (g := o.2.2) hvs (by omega) _ (fun n hn => zent_F _ _ (by omega))⟩, trivial, ⟨v1.1, v1.2⟩, v2, v3, va_S.rf, zcg_rf⟩
      · cases hc
/-! known calls -/
/-- method, its locals, frames and room that it wants, arguments, world, answer, world behind it -/
abbrev zKd : Type := Nat × Nat × Nat × Nat × List zAV × zH × Option zAV × zH
noncomputable def zkhit (d : zKd) (fr lo mi : Nat) (as : List zAV) (h : zH) : Bool := match Nat.beq mi d.1 with
  | true => (match Nat.ble (d.2.2.1 + 1) fr && Nat.ble (19 + d.2.1 + d.2.2.2.1) lo with
    | true => (match zl2 zvl as d.2.2.2.2.1 with
      | true => (match zhl h d.2.2.2.2.2.1 with
        | true => zl2 (zl2 (fun _ _ => true)) d.2.2.2.2.2.2.2.2.1 h.2.1
        | false => false)
      | false => false)
    | false => false)
  | false => false
noncomputable def zovK (ds : List zKd) : zOv := fun fr lo mi as h => List.rec (motive := fun _ => Option (Option zAV × zH)) none (fun d _ ih => match zkhit d fr lo mi as h with
  | true => some (d.2.2.2.2.2.2.1, zmH h d.2.2.2.2.2.2.2)
  | false => ih) ds
def zKnown (l : Launch) (D : va_G) (cl : List vw_C) (tys : List (ClassId × FieldType)) (o : zO) (z : Nat) (X : State → Heap → Prop) (Ts : List Cond) (prog : List zM) (d : zKd) : Prop :=
  ∀ mr, zget prog d.1 = some mr → mr.2.2.1 = d.2.1 ∧ zMet l D cl tys o z X Ts mr d.2.2.1 d.2.2.2.1 d.2.2.2.2.2.1 d.2.2.2.2.1 (zkin d.2.2.2.2.2.2.1 d.2.2.2.2.2.2.2)
theorem zovK_ok : ∀ {ds : List zKd}, (∀ d ∈ ds, zKnown l D cl tys o z X Ts prog d) → zOvOk l D cl tys o z X Ts prog (zovK ds)
  | [], _ => fun fr lo mi mr as h r h' _ hq => by cases hq
  | d :: ds, hd => fun fr lo mi mr as h r h' hm hq => by
    have hq : (match zkhit d fr lo mi as h with
      | true => some (d.2.2.2.2.2.2.1, zmH h d.2.2.2.2.2.2.2)
      | false => zovK ds fr lo mi as h) = some (r, h') := hq
    split at hq
    · rename_i hh
      cases hq
      unfold zkhit at hh
      split at hh
      · rename_i h0
        have e := Nat.eq_of_beq_eq_true h0
        subst e
        split at hh
        · rename_i h1
          rw [Bool.and_eq_true] at h1
          have h2 := Nat.le_of_ble_eq_true h1.1
          have h3 := Nat.le_of_ble_eq_true h1.2
          obtain ⟨q1, q2⟩ := hd d List.mem_cons_self mr hm
          split at hh
          · rename_i h4
            split at hh
            · rename_i h5
              exact ⟨d.2.2.1, d.2.2.2.1, h2, by rw [q1]; omega, fun k hk => zMet_frame q2 h4 h5 hh hk⟩
            · cases hh
          · cases hh
        · cases hh
      · cases hh
    · exact zovK_ok (fun d' h' => hd d' (List.mem_cons_of_mem _ h')) fr lo mi mr as h r h' hm hq
end ZRUNC
