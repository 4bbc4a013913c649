/-! A RUN FOR ANY 'WHAT HOLDS'; cells and slots so far set aside -/
section ZRUNG
variable {p : Program} {l : Launch} {e : Env} {R : Room} {s : State} {m : MethodId} {args : Array Value} {below : List Frame} {meth : Method} {c0 : Code} {Q : State → Prop} {D : va_G} {cl : List vw_C} {tys : List (ClassId × FieldType)} {o : zO} {z : Nat} {X : State → Heap → Prop} {Ts : List Cond} {prog : List zM} {ws0 : va_W} {nL : Nat} {own : String} {cc : ByteArray} {ret : Option FieldType} {nm : String}
theorem zcallw_ok {ov : zOw} (hov : zOwOk l D cl tys o z X Ts prog ov) (hX : zXok X z) (hprog : zProgOk l D cl tys o z X Ts prog) {n fr lo : Nat} (hfr : fr ≤ R.frames) (hlo : lo ≤ R.locals) : zCallOk l D cl tys o z X Ts prog R (zcallw prog ov (zrunw prog ov n zcut0) fr lo) := by
  have ih := zrunw_ok (l := l) (D := D) (cl := cl) (tys := tys) (o := o) (z := z) (X := X) (Ts := Ts) (prog := prog) hov hX hprog n
  intro mi mr av h k hm hc
  unfold zcallw at hc
  split at hc
  · rename_i qs hq
    obtain ⟨f', lo', g1, g2, g3⟩ := hov fr lo mi mr av h qs hm hq
    exact ⟨f', lo', Nat.le_trans g1 hfr, Nat.le_trans g2 hlo, g3 k hc⟩
  unfold zcall at hc
  rw [hm] at hc
  dsimp only at hc
  cases fr with
  | zero => cases hc
  | succ f =>
    dsimp only at hc
    split at hc
    · rename_i hcnt
      simp only [Bool.and_eq_true] at hcnt
      have k1 := Nat.le_of_ble_eq_true hcnt.1
      have k0 := Nat.le_of_ble_eq_true hcnt.2.1
      have k2 := Nat.le_of_ble_eq_true hcnt.2.2.1
      have k3 := Nat.le_of_ble_eq_true hcnt.2.2.2
      refine ⟨f, lo - (19 + mr.2.2.1), by omega, by omega, ?_⟩
      intro ws vs hvs
      obtain ⟨hy, hmr⟩ := hprog mi mr hm
      refine Met.ofW (cc := mr.2.1) (maxL := mr.2.2.1) (ret := mr.2.2.2.1) hy rfl ?_
      intro p' e' s' m' args' below' meth' c' s₁ B hml hv
      obtain ⟨rfl, v1, v2, v3, v4, v5, v6⟩ := hv
      have hts := atoms_spec B.pre
      have CX' : zCx p' { frames := f, cells := mr.2.2.2.2.1, slots := mr.2.2.2.2.2.1, locals := lo - (19 + mr.2.2.1) } s' m' vs.toArray meth' c' D cl tys z X Ts mr.1.cls mr.2.1 mr.2.2.1 mr.1.name := ⟨B.exec, B.bytes, hml, findClass_of_methodNamed B.named, fun w hw => hts w (List.mem_cons_of_mem _ hw), v4, (name_of_methodNamed B.named B.method).1, v5, v6, k0, by show 200 ≤ lo - (19 + mr.2.2.1); omega⟩
      have hl := lv_entry vs (n := mr.2.2.1) (by rw [zsl_len hvs]; exact k2)
      rw [lg_entry_eq]
      refine ih p' e' _ s' m' vs.toArray below' meth' c' _ ws mr.2.2.1 mr.2.1 mr.2.2.2.1 mr.2.2.2.2.2.2 (fun pc sem hp => hmr p' e' _ s' m' vs.toArray below' meth' c' _ ws rfl rfl CX' pc sem hp) f (lo - (19 + mr.2.2.1)) (Nat.le_refl _) (Nat.le_refl _) k (zret_MQ B.exec B.bytes B.notSynchronized B.returns rfl rfl) zcut0 (fun _ _ h => by cases h) 0 _ hc (zent o.2.2 vs) (zent_ag _ _) _ [] s'.heap [] ws ⟨⟨_, hl, zargs_ok (g := o.2.2) hvs (by omega) _ (fun n hn => zent_F _ _ (by omega))⟩, trivial, ⟨v1.1, v1.2⟩, v2, v3, va_S.rf, zcg_rf⟩
    · cases hc
theorem zrunw_G {ov : zOw} (hov : zOwOk l D cl tys o z X Ts prog ov) (hX : zXok X z) (hprog : zProgOk l D cl tys o z X Ts prog) {fr lo : Nat} (hfr : fr ≤ R.frames) (hlo : lo ≤ R.locals) {code : zCode} {rt : zRt} {G : Nat → zK → Prop} (hcode : ∀ pc sem, zrget code pc = some (some sem) → ∀ (call : zCall) (go : Nat → zK → Bool) (c : zK), zCallOk l D cl tys o z X Ts prog R call → (∀ pc' c', go pc' c' = true → G pc' c') → sem call rt go c = true → G pc c) {cut : zCut} (hcut : ∀ pc c, cut pc c = some true → G pc c) : ∀ (n : Nat) (pc : Nat) (c : zK), zrunw prog ov n cut fr lo code rt pc c = true → G pc c := by
  intro n
  induction n with
  | zero => intro pc c h; cases h
  | succ n ih =>
    intro pc c h
    obtain ⟨sem, hsem, hs⟩ := zrunw_s h
    refine hcode pc sem hsem _ _ c (zcallw_ok hov hX hprog hfr hlo) (fun pc' c' h' => ?_) hs
    split at h'
    · rename_i b hb
      subst h'
      exact hcut pc' c' hb
    · exact ih pc' c' h'
/-- so many cells and slots more -/
def zshf (K S : Nat) (c : zK) : zK := (c.1, c.2.1, c.2.2.1, c.2.2.2.1 + K, c.2.2.2.2 + S)
/-- a walk that holds with more cells and slots behind it, too -/
def zSh (K S : Nat) (sem sem' : zSem) : Prop := ∀ (call : zCall) (rt : zRt) (go go' : Nat → zK → Bool) (c : zK), (∀ pc' c', go pc' c' = true → go' pc' (zshf K S c') = true) → sem call rt go c = true → sem' call rt go' (zshf K S c) = true
/-- an instruction's walk, so many cells and slots behind it -/
def zOpB (p : Program) (l : Launch) (e : Env) (R : Room) (s : State) (m : MethodId) (args : Array Value) (below : List Frame) (meth : Method) (c0 : Code) (Q : State → Prop) (D : va_G) (cl : List vw_C) (tys : List (ClassId × FieldType)) (o : zO) (z : Nat) (X : State → Heap → Prop) (Ts : List Cond) (prog : List zM) (ws0 : va_W) (nL : Nat) (K S : Nat) (rt : zRt) (pc : Nat) (sem : zSem) : Prop := ∀ (call : zCall) (go : Nat → zK → Bool) (c : zK), zCallOk l D cl tys o z X Ts prog R call → (∀ pc' c', go pc' c' = true → zGo p l e R s m args below meth c0 Q D cl tys o z ws0 nL pc' (zshf K S c')) → sem call rt go c = true → zGo p l e R s m args below meth c0 Q D cl tys o z ws0 nL pc (zshf K S c)
theorem zB_of {K S pc : Nat} {sem sem' : zSem} {rt : zRt} (hrt : zRetOk p l e R s m args below meth c0 Q D cl tys o z ws0 cc ret rt) (h : zSh K S sem sem') (hop : zOp p l e R s m args below meth c0 Q D cl tys o z X Ts prog ws0 nL cc ret pc sem') : zOpB p l e R s m args below meth c0 Q D cl tys o z X Ts prog ws0 nL K S rt pc sem := by
  intro call go c hcall hgo hs
  exact hop call rt (zGG (zGo p l e R s m args below meth c0 Q D cl tys o z ws0 nL)) (zshf K S c) hcall hrt (fun _ _ h => zGG_o h) (h call rt go _ c (fun pc' c' q => zGG_i (hgo pc' c' q)) hs)
theorem zMet_mono {mr : zM} {fr lo : Nat} {h : zH} {as : List zAV} {k k' : zRt} (hM : zMet l D cl tys o z X Ts mr fr lo h as k) (hk : ∀ r h', k r h' = true → k' r h' = true) : zMet l D cl tys o z X Ts mr fr lo h as k' := by
  intro ws vs hvs
  have h0 := hM ws vs hvs
  intro p e a1 a2 a3 s m args below b1 b2 b3 b4
  obtain ⟨n, oc, d1, d2, d3, ⟨⟨⟨r, v, h', ws', f1, f2, f3, f4, f5, f6, f7⟩, g1⟩, g2⟩⟩ := h0 p e a1 a2 a3 s m args below b1 b2 b3 b4
  exact ⟨n, oc, d1, d2, d3, ⟨⟨r, v, h', ws', f1, f2, f3, f4, f5, f6, hk r h' f7⟩, g1⟩, g2⟩
theorem zB_call {K S pc nx mi n mc ms bc bs bc' bs' : Nat} {recv : List zAV → zH → Bool} {rt : zRt} (hrt : zRetOk p l e R s m args below meth c0 Q D cl tys o z ws0 cc ret rt) (h1 : bc + K ≤ bc') (h2 : bs + S ≤ bs') (hop : zOp p l e R s m args below meth c0 Q D cl tys o z X Ts prog ws0 nL cc ret pc (zo_call nx mi n mc ms bc' bs' recv)) : zOpB p l e R s m args below meth c0 Q D cl tys o z X Ts prog ws0 nL K S rt pc (zo_call nx mi n mc ms bc bs recv) := by
  intro call go c hcall hgo hs
  obtain ⟨al, st, hp, cs, sl⟩ := c
  unfold zo_call at hs
  dsimp only at hs
  split at hs
  · rename_i as rest hpop
    split at hs
    · rename_i hcnd
      simp only [Bool.and_eq_true] at hcnd
      obtain ⟨c1, c2, c3, c4⟩ := hcnd
      have c2 := Nat.le_of_ble_eq_true c2
      have c3 := Nat.le_of_ble_eq_true c3
      refine hop (zCC (zcallP l D cl tys o z X Ts prog R)) rt (zGG (zGo p l e R s m args below meth c0 Q D cl tys o z ws0 nL)) _ zCC_ok hrt (fun _ _ h => zGG_o h) ?_
      show zo_call nx mi n mc ms bc' bs' recv (zCC (zcallP l D cl tys o z X Ts prog R)) rt (zGG (zGo p l e R s m args below meth c0 Q D cl tys o z ws0 nL)) (al, st, hp, cs + K, sl + S) = true
      unfold zo_call
      dsimp only
      rw [hpop]
      dsimp only
      have e1 : Nat.ble (cs + K + mc) bc' = true := Nat.ble_eq.mpr (by omega)
      have e2 : Nat.ble (sl + S + ms) bs' = true := Nat.ble_eq.mpr (by omega)
      rw [if_pos (by simp only [Bool.and_eq_true]; exact ⟨c1, e1, e2, c4⟩)]
      refine zCC_i (fun mr hm => ?_)
      obtain ⟨fr, lo, g1, g2, g3⟩ := hcall mi mr as hp _ hm hs
      refine ⟨fr, lo, g1, g2, zMet_mono g3 (fun r h' hk => ?_)⟩
      have a1 : cs + K + mc = cs + mc + K := by omega
      have a2 : sl + S + ms = sl + ms + S := by omega
      cases r with
      | none =>
        dsimp only at hk ⊢
        rw [a1, a2]
        exact zGG_i (hgo _ _ hk)
      | some a =>
        dsimp only at hk ⊢
        rw [a1, a2]
        exact zGG_i (hgo _ _ hk)
    · cases hs
  · cases hs
end ZRUNG
section ZSH
variable {K S : Nat}
theorem zs_push {nx : Nat} {a : zAV} : zSh K S (zo_push nx a) (zo_push nx a) := fun _ _ _ _ c hg h => by
  obtain ⟨al, st, hp, cs, sl⟩ := c
  exact hg nx (al, a :: st, hp, cs, sl) h
theorem zs_loadI {nx i : Nat} : zSh K S (zo_loadI nx i) (zo_loadI nx i) := fun _ _ go go' c hg h => by
  obtain ⟨al, st, hp, cs, sl⟩ := c
  unfold zo_loadI at h ⊢
  dsimp only [zshf] at h ⊢
  split at h
  · rename_i q hq; first | exact hg nx (al, _ :: st, hp, cs, sl) h | (rw [hq]; exact hg nx (al, _ :: st, hp, cs, sl) h)
  · cases h
theorem zs_loadA {nx i : Nat} : zSh K S (zo_loadA nx i) (zo_loadA nx i) := fun _ _ go go' c hg h => by
  obtain ⟨al, st, hp, cs, sl⟩ := c
  unfold zo_loadA at h ⊢
  dsimp only [zshf] at h ⊢
  split at h
  · rename_i q hq; first | exact hg nx (al, _ :: st, hp, cs, sl) h | (rw [hq]; exact hg nx (al, _ :: st, hp, cs, sl) h)
  · cases h
theorem zs_goto {t : Nat} : zSh K S (zo_goto t) (zo_goto t) := fun _ _ _ _ c hg h => hg t c h
theorem zs_add {nx : Nat} : zSh K S (zo_add nx) (zo_add nx) := fun _ _ go go' c hg h => by
  obtain ⟨al, st, hp, cs, sl⟩ := c
  unfold zo_add at h ⊢
  dsimp only [zshf] at h ⊢
  split at h
  · rename_i e
    cases e
    try dsimp only
    unfold zfi at h ⊢
    split at h
    · rename_i hz; first | exact hg nx (_, _, _, _, _) h | (rw [hz]; exact hg nx (_, _, _, _, _) h)
    · cases h
  · cases h
theorem zs_and {nx : Nat} : zSh K S (zo_and nx) (zo_and nx) := fun _ _ go go' c hg h => by
  obtain ⟨al, st, hp, cs, sl⟩ := c
  unfold zo_and at h ⊢
  dsimp only [zshf] at h ⊢
  split at h
  · rename_i e
    cases e
    try dsimp only
    unfold zfi at h ⊢
    split at h
    · rename_i hz; first | exact hg nx (_, _, _, _, _) h | (rw [hz]; exact hg nx (_, _, _, _, _) h)
    · cases h
  · cases h
theorem zs_pop {nx : Nat} : zSh K S (zo_pop nx) (zo_pop nx) := fun _ _ go go' c hg h => by
  obtain ⟨al, st, hp, cs, sl⟩ := c
  unfold zo_pop at h ⊢
  dsimp only [zshf] at h ⊢
  split at h
  · rename_i e
    cases e
    try dsimp only
    split at h
    · rename_i hz; first | exact hg nx (_, _, _, _, _) h | (rw [if_pos hz]; exact hg nx (_, _, _, _, _) h)
    · cases h
  · cases h
theorem zs_inc {nx i : Nat} {n : Int} : zSh K S (zo_inc nx i n) (zo_inc nx i n) := fun _ _ go go' c hg h => by
  obtain ⟨al, st, hp, cs, sl⟩ := c
  unfold zo_inc at h ⊢
  dsimp only [zshf] at h ⊢
  split at h
  · rename_i q hq
    try rw [hq]
    try dsimp only
    unfold zfi at h ⊢
    split at h
    · rename_i hz; first | exact hg nx (_, _, _, _, _) h | (rw [hz]; exact hg nx (_, _, _, _, _) h)
    · cases h
  · cases h
theorem zs_stN {nx i : Nat} : zSh K S (zo_stN nx i) (zo_stN nx i) := fun _ _ go go' c hg h => by
  obtain ⟨al, st, hp, cs, sl⟩ := c
  unfold zo_stN at h ⊢
  dsimp only [zshf] at h ⊢
  split at h
  · rename_i e
    cases e
    try dsimp only
    split at h
    · rename_i hq; first | exact hg nx (_, _, _, _, _) h | (rw [hq]; exact hg nx (_, _, _, _, _) h)
    · rename_i hq
      try rw [hq]
      try dsimp only
      split at h
      · rename_i hz; first | exact hg nx (_, _, _, _, _) h | (rw [if_pos hz]; exact hg nx (_, _, _, _, _) h)
      · cases h
  · cases h
theorem zs_stL {nx i : Nat} : zSh K S (zo_stL nx i) (zo_stL nx i) := fun _ _ go go' c hg h => by
  obtain ⟨al, st, hp, cs, sl⟩ := c
  unfold zo_stL at h ⊢
  dsimp only [zshf] at h ⊢
  split at h
  · rename_i e
    cases e
    exact hg nx (_, _, _, _, _) h
  · cases h
theorem zs_box {K S : Nat} {sem sem' : zSem} (h0 : zSh K S sem sem') {call : zCall} {rt : zRt} {go go' : Nat → zK → Bool} (hg : ∀ pc' c', go pc' c' = true → go' pc' (zshf K S c') = true) (al : zL) (st : List zAV) (hp : zH) (cs sl : Nat) (q : zN) : ∀ l : List zI, zboxes (fun b => sem call rt go (al, .inl (b, q.2) :: st, hp, cs, sl)) q.1 l = true → zboxes (fun b => sem' call rt go' (al, .inl (b, q.2) :: st, hp, cs + K, sl + S)) q.1 l = true
  | [], _ => rfl
  | b :: l, hb => by
    have hb : (match zle (zmx q.1.1 b.1) (zmn q.1.2 b.2) with
      | true => (match sem call rt go (al, .inl ((zmx q.1.1 b.1, zmn q.1.2 b.2), q.2) :: st, hp, cs, sl) with
        | true => zboxes (fun b => sem call rt go (al, .inl (b, q.2) :: st, hp, cs, sl)) q.1 l
        | false => false)
      | false => zboxes (fun b => sem call rt go (al, .inl (b, q.2) :: st, hp, cs, sl)) q.1 l) = true := hb
    show (match zle (zmx q.1.1 b.1) (zmn q.1.2 b.2) with
      | true => (match sem' call rt go' (al, .inl ((zmx q.1.1 b.1, zmn q.1.2 b.2), q.2) :: st, hp, cs + K, sl + S) with
        | true => zboxes (fun b => sem' call rt go' (al, .inl (b, q.2) :: st, hp, cs + K, sl + S)) q.1 l
        | false => false)
      | false => zboxes (fun b => sem' call rt go' (al, .inl (b, q.2) :: st, hp, cs + K, sl + S)) q.1 l) = true
    cases hz : zle (zmx q.1.1 b.1) (zmn q.1.2 b.2) with
    | false =>
      rw [hz] at hb
      exact zs_box h0 hg al st hp cs sl q l hb
    | true =>
      rw [hz] at hb
      dsimp only at hb ⊢
      cases h9 : sem call rt go (al, .inl ((zmx q.1.1 b.1, zmn q.1.2 b.2), q.2) :: st, hp, cs, sl) with
      | false => rw [h9] at hb; cases hb
      | true =>
        rw [h9] at hb
        have h8 : sem' call rt go' (al, .inl ((zmx q.1.1 b.1, zmn q.1.2 b.2), q.2) :: st, hp, cs + K, sl + S) = true := h0 call rt go go' (al, .inl ((zmx q.1.1 b.1, zmn q.1.2 b.2), q.2) :: st, hp, cs, sl) hg h9
        rw [h8]
        exact zs_box h0 hg al st hp cs sl q l hb
theorem zs_splT {bx : List zI} {sem sem' : zSem} (h0 : zSh K S sem sem') : zSh K S (zo_splT bx sem) (zo_splT bx sem') := fun call rt go go' c hg h => by
  obtain ⟨al, st, hp, cs, sl⟩ := c
  cases st with
  | nil => cases h
  | cons a st =>
    cases a with
    | inr _ => cases h
    | inl q =>
      have h : (match zcovr q.1.2 bx q.1.1 with
        | true => zboxes (fun b => sem call rt go (al, .inl (b, q.2) :: st, hp, cs, sl)) q.1 bx
        | false => false) = true := h
      show (match zcovr q.1.2 bx q.1.1 with
        | true => zboxes (fun b => sem' call rt go' (al, .inl (b, q.2) :: st, hp, cs + K, sl + S)) q.1 bx
        | false => false) = true
      cases hz : zcovr q.1.2 bx q.1.1 with
      | false => rw [hz] at h; cases h
      | true =>
        rw [hz] at h
        exact zs_box h0 hg al st hp cs sl q bx h
theorem zs_tab {lo : Int} {ts : List Nat} {d : Nat} : zSh K S (zo_tab lo ts d) (zo_tab lo ts d) := fun _ _ go go' c hg h => by
  obtain ⟨al, st, hp, cs, sl⟩ := c
  unfold zo_tab at h ⊢
  dsimp only [zshf] at h ⊢
  split at h
  · rename_i e
    cases e
    try dsimp only
    split at h
    · rename_i hz; first | exact hg d (_, _, _, _, _) h | (rw [if_pos hz]; exact hg d (_, _, _, _, _) h)
    · rename_i hz
      try rw [if_neg hz]
      split at h
      · rename_i hy
        try rw [if_pos hy]
        split at h
        · rename_i t ht; first | exact hg t (_, _, _, _, _) h | (rw [ht]; exact hg t (_, _, _, _, _) h)
        · cases h
      · cases h
  · cases h
end ZSH
section ZSH2
variable {K S : Nat}
theorem zs_br {go go' : Nat → zK → Bool} (hg : ∀ pc' c', go pc' c' = true → go' pc' (zshf K S c') = true) {d : Option Bool} {t f : Nat} {c : zK} (h : zbr go d t f c = true) : zbr go' d t f (zshf K S c) = true := by
  unfold zbr at h ⊢
  split at h
  · exact hg _ _ h
  · exact hg _ _ h
  · rw [Bool.and_eq_true] at h ⊢
    exact ⟨hg _ _ h.1, hg _ _ h.2⟩
theorem zs_ic {f : zN → zN → Option Bool} {t nx : Nat} : zSh K S (zo_ic f t nx) (zo_ic f t nx) := fun _ _ go go' c hg h => by
  obtain ⟨al, st, hp, cs, sl⟩ := c
  match st, h with
  | [], h => cases h
  | [.inl _], h => cases h
  | [.inr _], h => cases h
  | .inr _ :: _ :: _, h => cases h
  | .inl _ :: .inr _ :: _, h => cases h
  | .inl b :: .inl a :: st, h =>
    have h : zbr go (f a b) t nx (al, st, hp, cs, sl) = true := h
    exact zs_br hg h
theorem zs_perm {ps : List (Nat × Nat)} {k j q : Nat} {hI : zH} {sem sem' : zSem} (h0 : zSh K S sem sem') : zSh K S (zo_perm ps k j q hI sem) (zo_perm ps k j q hI sem') := fun call rt go go' c hg h => by
  unfold zo_perm at h ⊢
  have e : zslot (zshf K S c) k j = zslot c k j := rfl
  rw [e]
  cases hz : zslot c k j with
  | none => rw [hz] at h; cases h
  | some v =>
    rw [hz] at h
    match v, h with
    | .inl _, h => cases h
    | .inr (.inl _), h => cases h
    | .inr (.inr (.inr _)), h => cases h
    | .inr (.inr (.inl q')), h =>
      dsimp only at h ⊢
      cases hb : Nat.beq q' q with
      | false =>
        rw [hb] at h
        exact h0 call rt go go' c hg h
      | true =>
        rw [hb] at h
        dsimp only at h ⊢
        cases hc : (zall (fun x : Nat × zAV => zfix ps x.2) c.1 && (zall (zfix ps) c.2.1 && (zpmok ps c.2.2.1.1 && zpmh ps c.2.2.1 hI))) with
        | false => rw [hc] at h; cases h
        | true =>
          rw [hc] at h
          have hc' : (zall (fun x : Nat × zAV => zfix ps x.2) (zshf K S c).1 && (zall (zfix ps) (zshf K S c).2.1 && (zpmok ps (zshf K S c).2.2.1.1 && zpmh ps (zshf K S c).2.2.1 hI))) = true := hc
          rw [hc']
          exact h0 call rt go go' (c.1, c.2.1, (hI.1, hI.2.1, 0), c.2.2.2) hg h
end ZSH2
