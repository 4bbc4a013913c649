/-! LOOPS BY THEIR NAMED INTS, INSTRUCTIONS WHOSE RESULT IS NAMED -/
section ZLOOP
variable {p : Program} {l : Launch} {e : Env} {R : Room} {s : State} {m : MethodId} {args : Array Value} {below : List Frame} {meth : Method} {c0 : Code} {Q : State → Prop} {D : va_G} {cl : List vw_C} {tys : List (ClassId × FieldType)} {o : zO} {z : Nat} {X : State → Heap → Prop} {Ts : List Cond} {prog : List zM} {ws0 : va_W} {nL : Nat} {own : String} {cc : ByteArray} {ret : Option FieldType} {nm : String}
theorem zpt {code : zCode} {P : Nat → zSem → Prop} (h : ∀ pc sem, zrget code pc = some (some sem) → P pc sem) {cp : Nat} {y : Option zSem} {sm : zSem} (hcp : zrget code cp = some y) (hsm : P cp sm) : ∀ pc sem, zrget (zrset code cp (some sm)) pc = some (some sem) → P pc sem := by
  intro pc sem hq
  rw [zrget_set hcp] at hq
  by_cases e : pc = cp
  · rw [if_pos e] at hq
    have hq : some sm = some sem := Option.some.inj hq
    cases hq
    rw [e]
    exact hsm
  · rw [if_neg e] at hq
    exact h pc sem hq
theorem zKn_loop (hX : zXok X z) (hprog : ∀ f, zProgOk l D cl tys (zwith o f) z X Ts prog) {mi : Nat} {mr : zM} (hm : zget prog mi = some mr) {code' : zCode} {hp cp gp : Nat} {y1 y2 y3 : Option zSem} (hhp : zrget mr.2.2.2.2.2.2 hp = some y2) (hgp : zrget code' gp = some (some (zo_goto hp))) (hcp' : zrget code' cp = some y1) (hcp : zrget mr.2.2.2.2.2.2 cp = some y3) (hne : gp ≠ cp) (P : Int32 → Int32 → Prop) {n1 n2 t nx : Nat}
    (hcmp : ∀ (p : Program) (e : Env) (R : Room) (s : State) (m : MethodId) (args : Array Value) (below : List Frame) (meth : Method) (c0 : Code) (Q : State → Prop) (ws : va_W) (f : Nat → Int32) (b : Bool), zCx p R s m args meth c0 D cl tys z X Ts mr.1.cls mr.2.1 mr.2.2.1 mr.1.name → zdec (P (f n1) (f n2)) (some b) → zOp p l e R s m args below meth c0 Q D cl tys (zwith o f) z X Ts prog ws mr.2.2.1 mr.2.1 mr.2.2.2.1 cp (zo_ic (zdcT n1 n2 b) t nx))
    (Inv : (Nat → Int32) → Nat → Prop)
    (hcode' : ∀ (p : Program) (e : Env) (R : Room) (s : State) (m : MethodId) (args : Array Value) (below : List Frame) (meth : Method) (c0 : Code) (Q : State → Prop) (ws : va_W) (f : Nat → Int32) (k : Nat), R.cells = mr.2.2.2.2.1 → R.slots = mr.2.2.2.2.2.1 → zCx p R s m args meth c0 D cl tys z X Ts mr.1.cls mr.2.1 mr.2.2.1 mr.1.name → Inv f (k + 1) → ∀ pc sem, zrget code' pc = some (some sem) → zOp p l e R s m args below meth c0 Q D cl tys (zwith o f) z X Ts prog ws mr.2.2.1 mr.2.1 mr.2.2.2.1 pc sem)
    {C : zK} {F L n0 : Nat} {av : List zAV} {hh : zH} {r2 : Option zAV} {h2 : zH} {fb f0 : Nat → Int32} {k0 : Nat} {M0 : zMp} (hM0 : zMok M0 fb f0) (hI0 : Inv f0 k0) {ov0 : zOv} (hov0 : zOvOk l D cl tys (zwith o fb) z X Ts prog ov0)
    (hrun0 : zrunv prog ov0 n0 F L (zrset mr.2.2.2.2.2.2 hp (some (zo_cut (fun c => zcvK M0 c C)))) (fun _ _ => false) 0 (zargs 0 av, [], hh, 0, 0) = true)
    (hstep : ∀ f k, Inv f (k + 1) → ¬ P (f n1) (f n2) ∧ ∃ f' M ov n, Inv f' k ∧ zMok M f f' ∧ zOvOk l D cl tys (zwith o f) z X Ts prog ov ∧ zrunv prog ov n F L (zrset (zrset code' cp (some (zo_ic (zdcT n1 n2 false) t nx))) gp (some (zo_cut (fun c => zcvK M c C)))) (fun _ _ => false) hp C = true)
    (hexit : ∀ f, Inv f 0 → P (f n1) (f n2) ∧ ∃ M ov n, zMok M f fb ∧ zOvOk l D cl tys (zwith o f) z X Ts prog ov ∧ zrunv prog ov n F L (zrset mr.2.2.2.2.2.2 cp (some (zo_ic (zdcT n1 n2 true) t nx))) (zcvR M r2 h2) hp C = true) : zKn l D cl tys (zwith o fb) z X Ts mr F L av hh r2 h2 := by
  intro p e s m args below meth c0 Q ws k CX hret hk
  have key : ∀ j f, Inv f j → zGo p l e (zRm mr F L) s m args below meth c0 Q D cl tys (zwith o f) z ws mr.2.2.1 hp C := by
    intro j
    induction j with
    | zero =>
      intro f hI
      obtain ⟨hP, M, ov, n, hM, hov, hr⟩ := hexit f hI
      exact zleave hX (hprog f) hov (fun pc sem hq => (hprog f mi mr hm).2 p e _ s m args below meth c0 Q ws rfl rfl CX pc sem hq) hcp (hcmp p e _ s m args below meth c0 Q ws f true CX ⟨fun _ => hP, fun h => by cases h⟩) (Nat.le_refl _) (Nat.le_refl _) (zRet_cv hM hret hk) hr
    | succ j ih =>
      intro f hI
      obtain ⟨hP, f', M, ov, n, hI', hM, hov, hr⟩ := hstep f j hI
      exact zround hX (hprog f) hov hM (hcode' p e _ s m args below meth c0 Q ws f j rfl rfl CX hI) hgp hcp' hne (hcmp p e _ s m args below meth c0 Q ws f false CX ⟨fun h => (by cases h), fun _ => hP⟩) (ih f' hI') (Nat.le_refl _) (Nat.le_refl _) hr
  exact zenter hX (hprog fb) hov0 hM0 (fun pc sem hq => (hprog fb mi mr hm).2 p e _ s m args below meth c0 Q ws rfl rfl CX pc sem hq) hhp (key k0 f0 hI0) (Nat.le_refl _) (Nat.le_refl _) hrun0
/-- known by a run of a table that was mended at this row of names -/
theorem zKn_runP (hX : zXok X z) {f : Nat → Int32} (hprog : zProgOk l D cl tys (zwith o f) z X Ts prog) {ov : zOv} (hov : zOvOk l D cl tys (zwith o f) z X Ts prog ov) {M : zMp} (hM : zMok M f f) {mr : zM} {n F L : Nat} {av : List zAV} {hh : zH} {r2 : Option zAV} {h2 : zH} {code' : zCode}
    (hcode' : ∀ (p : Program) (e : Env) (R : Room) (s : State) (m : MethodId) (args : Array Value) (below : List Frame) (meth : Method) (c0 : Code) (Q : State → Prop) (ws : va_W), R.cells = mr.2.2.2.2.1 → R.slots = mr.2.2.2.2.2.1 → zCx p R s m args meth c0 D cl tys z X Ts mr.1.cls mr.2.1 mr.2.2.1 mr.1.name → ∀ pc sem, zrget code' pc = some (some sem) → zOp p l e R s m args below meth c0 Q D cl tys (zwith o f) z X Ts prog ws mr.2.2.1 mr.2.1 mr.2.2.2.1 pc sem)
    (hrun : zrunv prog ov n F L code' (zcvR M r2 h2) 0 (zargs 0 av, [], hh, 0, 0) = true) : zKn l D cl tys (zwith o f) z X Ts mr F L av hh r2 h2 := by
  intro p e s m args below meth c0 Q ws k CX hret hk
  exact zrunv_ok hX hprog hov n p e _ s m args below meth c0 Q ws mr.2.2.1 mr.2.1 mr.2.2.2.1 code' (hcode' p e _ s m args below meth c0 Q ws rfl rfl CX) F L (Nat.le_refl _) (Nat.le_refl _) _ (zRet_cv hM hret hk) 0 _ hrun
/-- a named int and one number: what comes of them is known -/
noncomputable def zo_k2 (nx : Nat) (t : Nat × Int) (k : Int) (res : zN) : zSem := fun _ _ go c => match c with
  | (al, .inl b :: .inl a :: st, h) => (match a.2 with
    | some q => (match Nat.beq q.1 t.1 && (zieq q.2 t.2 && (zieq b.1.1 k && zieq b.1.2 k)) with
      | true => go nx (al, .inl res :: st, h)
      | false => false)
    | none => false)
  | _ => false
theorem zk_k2 (C : zCx p R s m args meth c0 D cl tys z X Ts own cc nL nm) {pc nx : Nat} {t : Nat × Int} {k : Int} {res : zN} {g : Int32 → Int32 → Int32} (hres : zmi res.1 (g (o.2.2 t.1 + Int32.ofInt t.2) (Int32.ofInt k)) ∧ ztg o.2.2 res.2 (g (o.2.2 t.1 + Int32.ofInt t.2) (Int32.ofInt k))) (row : ∀ (H : Heap) (locs : List Loc) (cells slots : Nat) (ls : Array Slot) (rest : List Value) (x : Int32), W p l e R s m args below meth c0 H locs cells slots Q (F0 m nx ls (.int (g x (Int32.ofInt k)) :: rest)) → W p l e R s m args below meth c0 H locs cells slots Q (F0 m pc ls (.int (Int32.ofInt k) :: .int x :: rest))) : zOp p l e R s m args below meth c0 Q D cl tys o z X Ts prog ws0 nL cc ret (pc) (zo_k2 nx t k res) := by
  intro call rt go c _ _ hgo hs ls vst H locs ws S
  unfold zo_k2 at hs
  split at hs
  · rename_i al b a st h
    split at hs
    · rename_i q hq
      split at hs
      · rename_i hh
        simp only [Bool.and_eq_true] at hh
        obtain ⟨k1, k2, k3, k4⟩ := hh
        obtain ⟨v, t1, rfl, h1, h2⟩ := zr2_cons S.2.1
        obtain ⟨v2, t2, rfl, h3, h4⟩ := zr2_cons h2
        obtain ⟨y, rfl, hy⟩ := zint h1
        obtain ⟨x, rfl, hx⟩ := zint h3
        have ey : y = Int32.ofInt k := by
          have a1 := zieq_ok k3
          have a2 := zieq_ok k4
          obtain ⟨b1, b2⟩ := hy.1
          have e3 : y.toInt = k := by omega
          rw [← e3, Int32.ofInt_toInt]
        have ex : x = o.2.2 t.1 + Int32.ofInt t.2 := by
          have hx2 := hx.2
          rw [hq] at hx2
          have hx2 : x = o.2.2 q.1 + Int32.ofInt q.2 := hx2
          rw [hx2, Nat.eq_of_beq_eq_true k1, zieq_ok k2]
        rw [ey]
        refine row _ _ _ _ _ _ _ (hgo _ _ hs ls _ H locs ws (zSat_st S ⟨⟨_, rfl, ?_, ?_⟩, h4⟩))
        · rw [ex]; exact hres.1
        · rw [ex]; exact hres.2
      · cases hs
    · cases hs
  · cases hs
/-- a named int is loaded, of which narrower bounds are known -/
noncomputable def zo_ldN (nx i : Nat) (n : Nat) (iv : zI) : zSem := fun _ _ go c => match c with
  | (al, st, h) => match zlook al i with
    | some (.inl q) => (match q.2 with
      | some t => (match Nat.beq t.1 n && zieq t.2 0 with
        | true => go nx (al, .inl (iv, some (n, 0)) :: st, h)
        | false => false)
      | none => false)
    | _ => false
theorem zk_ldN (C : zCx p R s m args meth c0 D cl tys z X Ts own cc nL nm) {pc nx i n : Nat} {iv : zI} (hiv : zmi iv (o.2.2 n)) (row : ∀ (H : Heap) (locs : List Loc) (cells slots : Nat) (ls : Array Slot) (rest : List Value) (x : Int32), ls[i]? = some (.val (.int x)) → W p l e R s m args below meth c0 H locs cells slots Q (F0 m nx ls (.int x :: rest)) → W p l e R s m args below meth c0 H locs cells slots Q (F0 m pc ls rest)) : zOp p l e R s m args below meth c0 Q D cl tys o z X Ts prog ws0 nL cc ret (pc) (zo_ldN nx i n iv) := by
  intro call rt go c _ _ hgo hs ls vst H locs ws S
  unfold zo_ldN at hs
  split at hs
  split at hs
  · rename_i q hq
    split at hs
    · rename_i t ht
      split at hs
      · rename_i hh
        rw [Bool.and_eq_true] at hh
        obtain ⟨lv, l1, l2⟩ := S.1
        obtain ⟨k, v, g1, g2⟩ := zlook_ok l2 hq
        obtain ⟨x, rfl, hx⟩ := zint g2
        have ex : x = o.2.2 n := by
          have hx2 := hx.2
          rw [ht] at hx2
          have hx2 : x = o.2.2 t.1 + Int32.ofInt t.2 := hx2
          rw [hx2, Nat.eq_of_beq_eq_true hh.1, zieq_ok hh.2]
          exact Int32.add_zero _
        refine row _ _ _ _ _ _ x (l1.2.2 _ (List.mem_of_getElem? g1)) (hgo _ _ hs ls _ H locs ws (zSat_st S ⟨⟨_, rfl, ?_, ?_⟩, S.2.1⟩))
        · rw [ex]; exact hiv
        · show x = o.2.2 n + Int32.ofInt 0
          rw [ex]; exact (Int32.add_zero _).symm
      · cases hs
    · cases hs
  · cases hs
end ZLOOP
theorem zSat0 {D : va_G} {tys : List (ClassId × FieldType)} {o : zO} {z : Nat} {H0 : Heap} {ls : Array Slot} (hl : lv_has ls 8 [(0, .ref o.1)]) : zSat D vwCl tys o z [] 8 H0 zc0 ls [] H0 [] [] := by
  refine ⟨⟨_, hl, ⟨rfl, rfl⟩, trivial⟩, trivial, ⟨rfl, fun k hk => absurd hk (Nat.not_lt_zero k)⟩, fun k q h => by simp at h, ⟨fun i j p q h => by simp at h, fun k q h => by simp at h⟩, va_S.rf, fun _ _ h => h⟩
/-! THE LAW FROM ITS 32ND BYTE ON, OVER THE FRESH WORLD -/
noncomputable def zHF : zH := (126, [[.inr (7, [.inr (.inr (.inl 1)), .inr (.inr (.inl 3)), .inr (.inr (.inl 15)), .inr (.inr (.inl 18)), .inr (.inr (.inl 21)), .inr (.inr (.inl 24)), .inr (.inr (.inl 62)), .inr (.inr (.inl 63)), .inr (.inr (.inl 64)), .inr (.inr (.inl 78)), .inr (.inr (.inl 80)), .inr (.inr (.inl 81)), .inr (.inr (.inl 82)), .inl ((.ofNat 0, .ofNat 0), none), .inr (.inr (.inl 83)), .inl ((.ofNat 0, .ofNat 0), none)]),
    .inr (6, [.inr (.inr (.inl 2)), .inl ((.ofNat 0, .ofNat 0), none)]),
    .inl (0, 80, zrmk 80 (.inl ((.ofNat 0, .ofNat 0), none))),
    .inr (0, [.inr (.inr (.inl 4)), .inr (.inr (.inl 5)), .inr (.inr (.inl 6)), .inr (.inr (.inl 7)), .inr (.inr (.inl 8)), .inr (.inr (.inl 9)), .inl ((.ofNat 0, .ofNat 0), none), .inl ((.ofNat 8, .ofNat 8), none), .inl ((.ofNat 4, .ofNat 4), none), .inr (.inr (.inl 10)), .inl ((.ofNat 0, .ofNat 0), none), .inl ((.ofNat 0, .ofNat 0), none)]),
    .inl (0, 8, zrmk 8 (.inl ((.ofNat 0, .ofNat 0), none))),
    .inl (0, 8, zrmk 8 (.inl ((.ofNat 0, .ofNat 0), none))),
    .inl (0, 8, zrmk 8 (.inl ((.ofNat 0, .ofNat 0), none))),
    .inl (0, 7, zrmk 7 (.inl ((.ofNat 0, .ofNat 0), none))),
    .inl (0, 8, zrmk 8 (.inl ((.ofNat 0, .ofNat 0), none))),
    .inl (0, 8, zrmk 8 (.inl ((.ofNat 0, .ofNat 0), none))),
    .inr (3, [.inr (.inr (.inl 11)), .inr (.inr (.inl 12)), .inr (.inr (.inl 13)), .inr (.inr (.inl 14)), .inl ((.ofNat 9, .ofNat 9), none), .inl ((.ofNat 0, .ofNat 0), none), .inl ((.ofNat 0, .ofNat 0), none), .inl ((.ofNat 1, .ofNat 1), none), .inl ((.ofNat 0, .ofNat 0), none)]),
    .inl (0, 40, (zrset (zrset (zrset (zrset (zrset (zrset (zrset (zrset (zrset (zrmk 40 (.inl ((.ofNat 0, .ofNat 0), none))) 0 (.inl ((.negSucc 1, .negSucc 1), none))) 1 (.inl ((.negSucc 2, .negSucc 2), none))) 2 (.inl ((.negSucc 42, .negSucc 42), none))) 3 (.inl ((.negSucc 0, .negSucc 0), none))) 4 (.inl ((.ofNat 5, .ofNat 5), none))) 5 (.inl ((.negSucc 61, .negSucc 61), none))) 6 (.inl ((.ofNat 9, .ofNat 9), none))) 7 (.inl ((.negSucc 41, .negSucc 41), none))) 8 (.inl ((.negSucc 42, .negSucc 42), none)))),
    .inl (0, 40, (zrset (zrset (zrset (zrmk 40 (.inl ((.ofNat 0, .ofNat 0), none))) 0 (.inl ((.ofNat 43, .ofNat 43), none))) 1 (.inl ((.ofNat 42, .ofNat 42), none))) 2 (.inl ((.ofNat 62, .ofNat 62), none)))),
    .inl (0, 40, zrmk 40 (.inl ((.ofNat 0, .ofNat 0), none))),
    .inl (2, 5, (zrset (zrmk 5 (.inl ((.ofNat 0, .ofNat 0), none))) 1 (.inl ((.ofNat 1, .ofNat 1), none)))),
    .inr (5, [.inr (.inr (.inl 16)), .inr (.inr (.inl 17)), .inl ((.ofNat 0, .ofNat 0), none), .inl ((.ofNat 0, .ofNat 0), none), .inl ((.ofNat 0, .ofNat 0), none), .inl ((.ofNat 0, .ofNat 0), none)])],
  [.inl (0, 8, (zrset (zrset (zrset (zrset (zrset (zrset (zrset (zrset (zrmk 8 (.inl ((.ofNat 0, .ofNat 0), none))) 0 (.inl ((.negSucc 0, .negSucc 0), none))) 1 (.inl ((.negSucc 0, .negSucc 0), none))) 2 (.inl ((.negSucc 0, .negSucc 0), none))) 3 (.inl ((.negSucc 0, .negSucc 0), none))) 4 (.inl ((.negSucc 0, .negSucc 0), none))) 5 (.inl ((.negSucc 0, .negSucc 0), none))) 6 (.inl ((.negSucc 0, .negSucc 0), none))) 7 (.inl ((.negSucc 0, .negSucc 0), none)))),
    .inl (0, 8, zrmk 8 (.inl ((.ofNat 0, .ofNat 0), none))),
    .inr (5, [.inr (.inr (.inl 19)), .inr (.inr (.inl 20)), .inl ((.ofNat 0, .ofNat 0), none), .inl ((.ofNat 0, .ofNat 0), none), .inl ((.ofNat 0, .ofNat 0), none), .inl ((.ofNat 0, .ofNat 0), none)]),
    .inl (0, 8, (zrset (zrset (zrset (zrset (zrset (zrset (zrset (zrset (zrmk 8 (.inl ((.ofNat 0, .ofNat 0), none))) 0 (.inl ((.negSucc 0, .negSucc 0), none))) 1 (.inl ((.negSucc 0, .negSucc 0), none))) 2 (.inl ((.negSucc 0, .negSucc 0), none))) 3 (.inl ((.negSucc 0, .negSucc 0), none))) 4 (.inl ((.negSucc 0, .negSucc 0), none))) 5 (.inl ((.negSucc 0, .negSucc 0), none))) 6 (.inl ((.negSucc 0, .negSucc 0), none))) 7 (.inl ((.negSucc 0, .negSucc 0), none)))),
    .inl (0, 8, zrmk 8 (.inl ((.ofNat 0, .ofNat 0), none))),
    .inr (5, [.inr (.inr (.inl 22)), .inr (.inr (.inl 23)), .inl ((.ofNat 0, .ofNat 0), none), .inl ((.ofNat 0, .ofNat 0), none), .inl ((.ofNat 0, .ofNat 0), none), .inl ((.ofNat 0, .ofNat 0), none)]),
    .inl (0, 8, (zrset (zrset (zrset (zrset (zrset (zrset (zrset (zrset (zrmk 8 (.inl ((.ofNat 0, .ofNat 0), none))) 0 (.inl ((.negSucc 0, .negSucc 0), none))) 1 (.inl ((.negSucc 0, .negSucc 0), none))) 2 (.inl ((.negSucc 0, .negSucc 0), none))) 3 (.inl ((.negSucc 0, .negSucc 0), none))) 4 (.inl ((.negSucc 0, .negSucc 0), none))) 5 (.inl ((.negSucc 0, .negSucc 0), none))) 6 (.inl ((.negSucc 0, .negSucc 0), none))) 7 (.inl ((.negSucc 0, .negSucc 0), none)))),
    .inl (0, 8, zrmk 8 (.inl ((.ofNat 0, .ofNat 0), none))),
    .inr (2, [.inr (.inr (.inl 25)), .inl ((.ofNat 0, .ofNat 0), none), .inl ((.ofNat 0, .ofNat 0), none)]),
    .inl (9, 12, (zrset (zrset (zrset (zrset (zrset (zrset (zrset (zrset (zrset (zrset (zrset (zrset (zrmk 12 (.inr (.inr (.inr (.inl false))))) 0 (.inr (.inr (.inl 26)))) 1 (.inr (.inr (.inl 29)))) 2 (.inr (.inr (.inl 32)))) 3 (.inr (.inr (.inl 35)))) 4 (.inr (.inr (.inl 38)))) 5 (.inr (.inr (.inl 41)))) 6 (.inr (.inr (.inl 44)))) 7 (.inr (.inr (.inl 47)))) 8 (.inr (.inr (.inl 50)))) 9 (.inr (.inr (.inl 53)))) 10 (.inr (.inr (.inl 56)))) 11 (.inr (.inr (.inl 59))))),
    .inr (5, [.inr (.inr (.inl 27)), .inr (.inr (.inl 28)), .inl ((.ofNat 0, .ofNat 0), none), .inl ((.ofNat 0, .ofNat 0), none), .inl ((.ofNat 0, .ofNat 0), none), .inl ((.ofNat 0, .ofNat 0), none)]),
    .inl (0, 8, (zrset (zrset (zrset (zrset (zrset (zrset (zrset (zrset (zrmk 8 (.inl ((.ofNat 0, .ofNat 0), none))) 0 (.inl ((.negSucc 0, .negSucc 0), none))) 1 (.inl ((.negSucc 0, .negSucc 0), none))) 2 (.inl ((.negSucc 0, .negSucc 0), none))) 3 (.inl ((.negSucc 0, .negSucc 0), none))) 4 (.inl ((.negSucc 0, .negSucc 0), none))) 5 (.inl ((.negSucc 0, .negSucc 0), none))) 6 (.inl ((.negSucc 0, .negSucc 0), none))) 7 (.inl ((.negSucc 0, .negSucc 0), none)))),
    .inl (0, 8, zrmk 8 (.inl ((.ofNat 0, .ofNat 0), none))),
    .inr (5, [.inr (.inr (.inl 30)), .inr (.inr (.inl 31)), .inl ((.ofNat 0, .ofNat 0), none), .inl ((.ofNat 0, .ofNat 0), none), .inl ((.ofNat 0, .ofNat 0), none), .inl ((.ofNat 0, .ofNat 0), none)]),
    .inl (0, 8, (zrset (zrset (zrset (zrset (zrset (zrset (zrset (zrset (zrmk 8 (.inl ((.ofNat 0, .ofNat 0), none))) 0 (.inl ((.negSucc 0, .negSucc 0), none))) 1 (.inl ((.negSucc 0, .negSucc 0), none))) 2 (.inl ((.negSucc 0, .negSucc 0), none))) 3 (.inl ((.negSucc 0, .negSucc 0), none))) 4 (.inl ((.negSucc 0, .negSucc 0), none))) 5 (.inl ((.negSucc 0, .negSucc 0), none))) 6 (.inl ((.negSucc 0, .negSucc 0), none))) 7 (.inl ((.negSucc 0, .negSucc 0), none)))),
    .inl (0, 8, zrmk 8 (.inl ((.ofNat 0, .ofNat 0), none)))],
  [.inr (5, [.inr (.inr (.inl 33)), .inr (.inr (.inl 34)), .inl ((.ofNat 0, .ofNat 0), none), .inl ((.ofNat 0, .ofNat 0), none), .inl ((.ofNat 0, .ofNat 0), none), .inl ((.ofNat 0, .ofNat 0), none)]),
    .inl (0, 8, (zrset (zrset (zrset (zrset (zrset (zrset (zrset (zrset (zrmk 8 (.inl ((.ofNat 0, .ofNat 0), none))) 0 (.inl ((.negSucc 0, .negSucc 0), none))) 1 (.inl ((.negSucc 0, .negSucc 0), none))) 2 (.inl ((.negSucc 0, .negSucc 0), none))) 3 (.inl ((.negSucc 0, .negSucc 0), none))) 4 (.inl ((.negSucc 0, .negSucc 0), none))) 5 (.inl ((.negSucc 0, .negSucc 0), none))) 6 (.inl ((.negSucc 0, .negSucc 0), none))) 7 (.inl ((.negSucc 0, .negSucc 0), none)))),
    .inl (0, 8, zrmk 8 (.inl ((.ofNat 0, .ofNat 0), none))),
    .inr (5, [.inr (.inr (.inl 36)), .inr (.inr (.inl 37)), .inl ((.ofNat 0, .ofNat 0), none), .inl ((.ofNat 0, .ofNat 0), none), .inl ((.ofNat 0, .ofNat 0), none), .inl ((.ofNat 0, .ofNat 0), none)]),
    .inl (0, 8, (zrset (zrset (zrset (zrset (zrset (zrset (zrset (zrset (zrmk 8 (.inl ((.ofNat 0, .ofNat 0), none))) 0 (.inl ((.negSucc 0, .negSucc 0), none))) 1 (.inl ((.negSucc 0, .negSucc 0), none))) 2 (.inl ((.negSucc 0, .negSucc 0), none))) 3 (.inl ((.negSucc 0, .negSucc 0), none))) 4 (.inl ((.negSucc 0, .negSucc 0), none))) 5 (.inl ((.negSucc 0, .negSucc 0), none))) 6 (.inl ((.negSucc 0, .negSucc 0), none))) 7 (.inl ((.negSucc 0, .negSucc 0), none)))),
    .inl (0, 8, zrmk 8 (.inl ((.ofNat 0, .ofNat 0), none))),
    .inr (5, [.inr (.inr (.inl 39)), .inr (.inr (.inl 40)), .inl ((.ofNat 0, .ofNat 0), none), .inl ((.ofNat 0, .ofNat 0), none), .inl ((.ofNat 0, .ofNat 0), none), .inl ((.ofNat 0, .ofNat 0), none)]),
    .inl (0, 8, (zrset (zrset (zrset (zrset (zrset (zrset (zrset (zrset (zrmk 8 (.inl ((.ofNat 0, .ofNat 0), none))) 0 (.inl ((.negSucc 0, .negSucc 0), none))) 1 (.inl ((.negSucc 0, .negSucc 0), none))) 2 (.inl ((.negSucc 0, .negSucc 0), none))) 3 (.inl ((.negSucc 0, .negSucc 0), none))) 4 (.inl ((.negSucc 0, .negSucc 0), none))) 5 (.inl ((.negSucc 0, .negSucc 0), none))) 6 (.inl ((.negSucc 0, .negSucc 0), none))) 7 (.inl ((.negSucc 0, .negSucc 0), none)))),
    .inl (0, 8, zrmk 8 (.inl ((.ofNat 0, .ofNat 0), none))),
    .inr (5, [.inr (.inr (.inl 42)), .inr (.inr (.inl 43)), .inl ((.ofNat 0, .ofNat 0), none), .inl ((.ofNat 0, .ofNat 0), none), .inl ((.ofNat 0, .ofNat 0), none), .inl ((.ofNat 0, .ofNat 0), none)]),
    .inl (0, 8, (zrset (zrset (zrset (zrset (zrset (zrset (zrset (zrset (zrmk 8 (.inl ((.ofNat 0, .ofNat 0), none))) 0 (.inl ((.negSucc 0, .negSucc 0), none))) 1 (.inl ((.negSucc 0, .negSucc 0), none))) 2 (.inl ((.negSucc 0, .negSucc 0), none))) 3 (.inl ((.negSucc 0, .negSucc 0), none))) 4 (.inl ((.negSucc 0, .negSucc 0), none))) 5 (.inl ((.negSucc 0, .negSucc 0), none))) 6 (.inl ((.negSucc 0, .negSucc 0), none))) 7 (.inl ((.negSucc 0, .negSucc 0), none)))),
    .inl (0, 8, zrmk 8 (.inl ((.ofNat 0, .ofNat 0), none))),
    .inr (5, [.inr (.inr (.inl 45)), .inr (.inr (.inl 46)), .inl ((.ofNat 0, .ofNat 0), none), .inl ((.ofNat 0, .ofNat 0), none), .inl ((.ofNat 0, .ofNat 0), none), .inl ((.ofNat 0, .ofNat 0), none)]),
    .inl (0, 8, (zrset (zrset (zrset (zrset (zrset (zrset (zrset (zrset (zrmk 8 (.inl ((.ofNat 0, .ofNat 0), none))) 0 (.inl ((.negSucc 0, .negSucc 0), none))) 1 (.inl ((.negSucc 0, .negSucc 0), none))) 2 (.inl ((.negSucc 0, .negSucc 0), none))) 3 (.inl ((.negSucc 0, .negSucc 0), none))) 4 (.inl ((.negSucc 0, .negSucc 0), none))) 5 (.inl ((.negSucc 0, .negSucc 0), none))) 6 (.inl ((.negSucc 0, .negSucc 0), none))) 7 (.inl ((.negSucc 0, .negSucc 0), none)))),
    .inl (0, 8, zrmk 8 (.inl ((.ofNat 0, .ofNat 0), none))),
    .inr (5, [.inr (.inr (.inl 48)), .inr (.inr (.inl 49)), .inl ((.ofNat 0, .ofNat 0), none), .inl ((.ofNat 0, .ofNat 0), none), .inl ((.ofNat 0, .ofNat 0), none), .inl ((.ofNat 0, .ofNat 0), none)])],
  [.inl (0, 8, (zrset (zrset (zrset (zrset (zrset (zrset (zrset (zrset (zrmk 8 (.inl ((.ofNat 0, .ofNat 0), none))) 0 (.inl ((.negSucc 0, .negSucc 0), none))) 1 (.inl ((.negSucc 0, .negSucc 0), none))) 2 (.inl ((.negSucc 0, .negSucc 0), none))) 3 (.inl ((.negSucc 0, .negSucc 0), none))) 4 (.inl ((.negSucc 0, .negSucc 0), none))) 5 (.inl ((.negSucc 0, .negSucc 0), none))) 6 (.inl ((.negSucc 0, .negSucc 0), none))) 7 (.inl ((.negSucc 0, .negSucc 0), none)))),
    .inl (0, 8, zrmk 8 (.inl ((.ofNat 0, .ofNat 0), none))),
    .inr (5, [.inr (.inr (.inl 51)), .inr (.inr (.inl 52)), .inl ((.ofNat 0, .ofNat 0), none), .inl ((.ofNat 0, .ofNat 0), none), .inl ((.ofNat 0, .ofNat 0), none), .inl ((.ofNat 0, .ofNat 0), none)]),
    .inl (0, 8, (zrset (zrset (zrset (zrset (zrset (zrset (zrset (zrset (zrmk 8 (.inl ((.ofNat 0, .ofNat 0), none))) 0 (.inl ((.negSucc 0, .negSucc 0), none))) 1 (.inl ((.negSucc 0, .negSucc 0), none))) 2 (.inl ((.negSucc 0, .negSucc 0), none))) 3 (.inl ((.negSucc 0, .negSucc 0), none))) 4 (.inl ((.negSucc 0, .negSucc 0), none))) 5 (.inl ((.negSucc 0, .negSucc 0), none))) 6 (.inl ((.negSucc 0, .negSucc 0), none))) 7 (.inl ((.negSucc 0, .negSucc 0), none)))),
    .inl (0, 8, zrmk 8 (.inl ((.ofNat 0, .ofNat 0), none))),
    .inr (5, [.inr (.inr (.inl 54)), .inr (.inr (.inl 55)), .inl ((.ofNat 0, .ofNat 0), none), .inl ((.ofNat 0, .ofNat 0), none), .inl ((.ofNat 0, .ofNat 0), none), .inl ((.ofNat 0, .ofNat 0), none)]),
    .inl (0, 8, (zrset (zrset (zrset (zrset (zrset (zrset (zrset (zrset (zrmk 8 (.inl ((.ofNat 0, .ofNat 0), none))) 0 (.inl ((.negSucc 0, .negSucc 0), none))) 1 (.inl ((.negSucc 0, .negSucc 0), none))) 2 (.inl ((.negSucc 0, .negSucc 0), none))) 3 (.inl ((.negSucc 0, .negSucc 0), none))) 4 (.inl ((.negSucc 0, .negSucc 0), none))) 5 (.inl ((.negSucc 0, .negSucc 0), none))) 6 (.inl ((.negSucc 0, .negSucc 0), none))) 7 (.inl ((.negSucc 0, .negSucc 0), none)))),
    .inl (0, 8, zrmk 8 (.inl ((.ofNat 0, .ofNat 0), none))),
    .inr (5, [.inr (.inr (.inl 57)), .inr (.inr (.inl 58)), .inl ((.ofNat 0, .ofNat 0), none), .inl ((.ofNat 0, .ofNat 0), none), .inl ((.ofNat 0, .ofNat 0), none), .inl ((.ofNat 0, .ofNat 0), none)]),
    .inl (0, 8, (zrset (zrset (zrset (zrset (zrset (zrset (zrset (zrset (zrmk 8 (.inl ((.ofNat 0, .ofNat 0), none))) 0 (.inl ((.negSucc 0, .negSucc 0), none))) 1 (.inl ((.negSucc 0, .negSucc 0), none))) 2 (.inl ((.negSucc 0, .negSucc 0), none))) 3 (.inl ((.negSucc 0, .negSucc 0), none))) 4 (.inl ((.negSucc 0, .negSucc 0), none))) 5 (.inl ((.negSucc 0, .negSucc 0), none))) 6 (.inl ((.negSucc 0, .negSucc 0), none))) 7 (.inl ((.negSucc 0, .negSucc 0), none)))),
    .inl (0, 8, zrmk 8 (.inl ((.ofNat 0, .ofNat 0), none))),
    .inr (5, [.inr (.inr (.inl 60)), .inr (.inr (.inl 61)), .inl ((.ofNat 0, .ofNat 0), none), .inl ((.ofNat 0, .ofNat 0), none), .inl ((.ofNat 0, .ofNat 0), none), .inl ((.ofNat 0, .ofNat 0), none)]),
    .inl (0, 8, (zrset (zrset (zrset (zrset (zrset (zrset (zrset (zrset (zrmk 8 (.inl ((.ofNat 0, .ofNat 0), none))) 0 (.inl ((.negSucc 0, .negSucc 0), none))) 1 (.inl ((.negSucc 0, .negSucc 0), none))) 2 (.inl ((.negSucc 0, .negSucc 0), none))) 3 (.inl ((.negSucc 0, .negSucc 0), none))) 4 (.inl ((.negSucc 0, .negSucc 0), none))) 5 (.inl ((.negSucc 0, .negSucc 0), none))) 6 (.inl ((.negSucc 0, .negSucc 0), none))) 7 (.inl ((.negSucc 0, .negSucc 0), none)))),
    .inl (0, 8, zrmk 8 (.inl ((.ofNat 0, .ofNat 0), none))),
    .inl (9, 2, (zrset (zrset (zrmk 2 (.inr (.inr (.inr (.inl false))))) 0 (.inr (.inr (.inl 88)))) 1 (.inr (.inr (.inl 91))))),
    .inl (2, 2, zrmk 2 (.inl ((.ofNat 0, .ofNat 0), none)))],
  [.inr (4, [.inr (.inr (.inl 65)), .inr (.inr (.inl 66)), .inr (.inr (.inl 67)), .inr (.inr (.inl 68)), .inr (.inr (.inl 69)), .inr (.inr (.inl 70)), .inr (.inr (.inl 71)), .inr (.inr (.inl 72)), .inr (.inr (.inl 73)), .inr (.inr (.inl 74)), .inr (.inr (.inl 75)), .inr (.inr (.inl 76)), .inr (.inr (.inl 77)), .inl ((.ofNat 0, .ofNat 0), none), .inr (.inl (.ofNat 0, .ofNat 0))]),
    .inl (0, 8, zrmk 8 (.inl ((.ofNat 0, .ofNat 0), none))),
    .inl (0, 8, zrmk 8 (.inl ((.ofNat 0, .ofNat 0), none))),
    .inl (0, 8, zrmk 8 (.inl ((.ofNat 0, .ofNat 0), none))),
    .inl (0, 8, zrmk 8 (.inl ((.ofNat 0, .ofNat 0), none))),
    .inl (1, 64, zrmk 64 (.inr (.inl (.ofNat 0, .ofNat 0)))),
    .inl (1, 8, zrmk 8 (.inr (.inl (.ofNat 0, .ofNat 0)))),
    .inl (1, 256, zrmk 256 (.inr (.inl (.ofNat 0, .ofNat 0)))),
    .inl (1, 256, zrmk 256 (.inr (.inl (.ofNat 0, .ofNat 0)))),
    .inl (0, 2304, zrmk 2304 (.inl ((.ofNat 0, .ofNat 0), none))),
    .inl (0, 256, zrmk 256 (.inl ((.ofNat 0, .ofNat 0), none))),
    .inl (0, 64, zrmk 64 (.inl ((.ofNat 0, .ofNat 0), none))),
    .inl (2, 256, zrmk 256 (.inl ((.ofNat 0, .ofNat 0), none))),
    .inl (0, 256, zrmk 256 (.inl ((.ofNat 0, .ofNat 0), none))),
    .inr (1, [.inr (.inr (.inl 79)), .inl ((.ofNat 0, .ofNat 0), none)]),
    .inl (1, 8, zrmk 8 (.inr (.inl (.ofNat 0, .ofNat 0))))],
  [.inl (0, 12, zrmk 12 (.inl ((.ofNat 0, .ofNat 0), none))),
    .inl (0, 12, zrmk 12 (.inl ((.ofNat 0, .ofNat 0), none))),
    .inl (0, 12, zrmk 12 (.inl ((.ofNat 0, .ofNat 0), none))),
    .inr (3, [.inr (.inr (.inl 84)), .inr (.inr (.inl 85)), .inr (.inr (.inl 86)), .inr (.inr (.inl 87)), .inl ((.ofNat 9, .ofNat 9), none), .inl ((.ofNat 0, .ofNat 0), none), .inl ((.ofNat 0, .ofNat 0), none), .inl ((.ofNat 1, .ofNat 1), none), .inl ((.ofNat 0, .ofNat 0), none)]),
    .inl (0, 40, (zrset (zrset (zrset (zrset (zrset (zrset (zrset (zrset (zrset (zrmk 40 (.inl ((.ofNat 0, .ofNat 0), none))) 0 (.inl ((.negSucc 1, .negSucc 1), none))) 1 (.inl ((.negSucc 2, .negSucc 2), none))) 2 (.inl ((.negSucc 42, .negSucc 42), none))) 3 (.inl ((.negSucc 0, .negSucc 0), none))) 4 (.inl ((.ofNat 5, .ofNat 5), none))) 5 (.inl ((.negSucc 61, .negSucc 61), none))) 6 (.inl ((.ofNat 9, .ofNat 9), none))) 7 (.inl ((.negSucc 41, .negSucc 41), none))) 8 (.inl ((.negSucc 42, .negSucc 42), none)))),
    .inl (0, 40, (zrset (zrset (zrset (zrmk 40 (.inl ((.ofNat 0, .ofNat 0), none))) 0 (.inl ((.ofNat 43, .ofNat 43), none))) 1 (.inl ((.ofNat 42, .ofNat 42), none))) 2 (.inl ((.ofNat 62, .ofNat 62), none)))),
    .inl (0, 40, zrmk 40 (.inl ((.ofNat 0, .ofNat 0), none))),
    .inl (2, 5, (zrset (zrmk 5 (.inl ((.ofNat 0, .ofNat 0), none))) 1 (.inl ((.ofNat 1, .ofNat 1), none)))),
    .inr (5, [.inr (.inr (.inl 89)), .inr (.inr (.inl 90)), .inl ((.ofNat 0, .ofNat 0), none), .inl ((.ofNat 0, .ofNat 0), none), .inl ((.ofNat 0, .ofNat 0), none), .inl ((.ofNat 0, .ofNat 0), none)]),
    .inl (0, 8, (zrset (zrset (zrset (zrset (zrset (zrset (zrset (zrset (zrmk 8 (.inl ((.ofNat 0, .ofNat 0), none))) 0 (.inl ((.negSucc 0, .negSucc 0), none))) 1 (.inl ((.negSucc 0, .negSucc 0), none))) 2 (.inl ((.negSucc 0, .negSucc 0), none))) 3 (.inl ((.negSucc 0, .negSucc 0), none))) 4 (.inl ((.negSucc 0, .negSucc 0), none))) 5 (.inl ((.negSucc 0, .negSucc 0), none))) 6 (.inl ((.negSucc 0, .negSucc 0), none))) 7 (.inl ((.negSucc 0, .negSucc 0), none)))),
    .inl (0, 8, zrmk 8 (.inl ((.ofNat 0, .ofNat 0), none))),
    .inr (5, [.inr (.inr (.inl 92)), .inr (.inr (.inl 93)), .inl ((.ofNat 0, .ofNat 0), none), .inl ((.ofNat 0, .ofNat 0), none), .inl ((.ofNat 0, .ofNat 0), none), .inl ((.ofNat 0, .ofNat 0), none)]),
    .inl (0, 8, (zrset (zrset (zrset (zrset (zrset (zrset (zrset (zrset (zrmk 8 (.inl ((.ofNat 0, .ofNat 0), none))) 0 (.inl ((.negSucc 0, .negSucc 0), none))) 1 (.inl ((.negSucc 0, .negSucc 0), none))) 2 (.inl ((.negSucc 0, .negSucc 0), none))) 3 (.inl ((.negSucc 0, .negSucc 0), none))) 4 (.inl ((.negSucc 0, .negSucc 0), none))) 5 (.inl ((.negSucc 0, .negSucc 0), none))) 6 (.inl ((.negSucc 0, .negSucc 0), none))) 7 (.inl ((.negSucc 0, .negSucc 0), none)))),
    .inl (0, 8, zrmk 8 (.inl ((.ofNat 0, .ofNat 0), none))),
    .inr (8, [.inr (.inr (.inl 95)), .inl ((.ofNat 8, .ofNat 8), none), .inl ((.ofNat 4, .ofNat 4), none), .inl ((.ofNat 0, .ofNat 0), none), .inr (.inr (.inl 96)), .inr (.inr (.inl 97)), .inr (.inr (.inl 98)), .inr (.inr (.inl 99)), .inl ((.ofNat 0, .ofNat 0), none), .inr (.inr (.inl 100)), .inl ((.ofNat 0, .ofNat 0), none), .inl ((.ofNat 0, .ofNat 0), none), .inr (.inr (.inr (.inl false))), .inl ((.ofNat 0, .ofNat 0), none), .inl ((.ofNat 0, .ofNat 0), none), .inl ((.ofNat 0, .ofNat 0), none), .inl ((.ofNat 0, .ofNat 0), none), .inr (.inr (.inl 101)), .inr (.inr (.inl 102)), .inr (.inr (.inl 103)), .inl ((.ofNat 0, .ofNat 0), none), .inl ((.ofNat 0, .ofNat 0), none), .inr (.inr (.inl 104)), .inr (.inr (.inl 105)), .inl ((.ofNat 0, .ofNat 0), none), .inr (.inr (.inl 106)), .inr (.inr (.inl 107)), .inl ((.ofNat 0, .ofNat 0), none), .inl ((.ofNat 0, .ofNat 0), none), .inr (.inr (.inl 108)), .inr (.inr (.inl 109)), .inr (.inr (.inl 110)), .inr (.inr (.inl 111)), .inr (.inr (.inl 112)), .inr (.inr (.inl 113)), .inr (.inr (.inl 114)), .inr (.inr (.inl 115)), .inr (.inr (.inl 116)), .inr (.inr (.inl 117)), .inl ((.ofNat 1000000000, .ofNat 1000000000), none), .inr (.inr (.inl 118)), .inr (.inr (.inl 119)), .inr (.inr (.inl 120)), .inr (.inr (.inl 121)), .inl ((.ofNat 0, .ofNat 0), none), .inl ((.ofNat 0, .ofNat 0), none), .inl ((.ofNat 0, .ofNat 0), none), .inl ((.ofNat 0, .ofNat 0), none), .inr (.inr (.inl 122)), .inr (.inr (.inl 123)), .inr (.inr (.inl 124))]),
    .inl (0, 27, (zrset (zrset (zrset (zrset (zrset (zrset (zrset (zrset (zrmk 27 (.inl ((.ofNat 0, .ofNat 0), none))) 0 (.inl ((.negSucc 0, .negSucc 0), none))) 1 (.inl ((.negSucc 0, .negSucc 0), none))) 2 (.inl ((.negSucc 0, .negSucc 0), none))) 3 (.inl ((.negSucc 0, .negSucc 0), none))) 4 (.inl ((.negSucc 0, .negSucc 0), none))) 5 (.inl ((.negSucc 0, .negSucc 0), none))) 6 (.inl ((.negSucc 0, .negSucc 0), none))) 7 (.inl ((.negSucc 0, .negSucc 0), none))))],
  [.inl (0, 8, zrmk 8 (.inl ((.ofNat 0, .ofNat 0), none))),
    .inl (0, 8, zrmk 8 (.inl ((.ofNat 0, .ofNat 0), none))),
    .inl (0, 8, zrmk 8 (.inl ((.ofNat 0, .ofNat 0), none))),
    .inl (3, 80, zrmk 80 (.inl ((.ofNat 0, .ofNat 0), none))),
    .inl (1, 16, zrmk 16 (.inr (.inl (.ofNat 0, .ofNat 0)))),
    .inl (0, 24, zrmk 24 (.inl ((.ofNat 0, .ofNat 0), none))),
    .inl (3, 40, zrmk 40 (.inl ((.ofNat 0, .ofNat 0), none))),
    .inl (3, 40, zrmk 40 (.inl ((.ofNat 0, .ofNat 0), none))),
    .inl (0, 7, zrmk 7 (.inl ((.ofNat 0, .ofNat 0), none))),
    .inl (0, 324, zrmk 324 (.inl ((.ofNat 0, .ofNat 0), none))),
    .inl (0, 27, zrmk 27 (.inl ((.ofNat 0, .ofNat 0), none))),
    .inl (0, 27, zrmk 27 (.inl ((.ofNat 0, .ofNat 0), none))),
    .inl (0, 8, zrmk 8 (.inl ((.ofNat 0, .ofNat 0), none))),
    .inl (0, 8, zrmk 8 (.inl ((.ofNat 0, .ofNat 0), none))),
    .inl (0, 240, zrmk 240 (.inl ((.ofNat 0, .ofNat 0), none))),
    .inl (0, 8, zrmk 8 (.inl ((.ofNat 0, .ofNat 0), none)))],
  [.inl (0, 8, zrmk 8 (.inl ((.ofNat 0, .ofNat 0), none))),
    .inl (0, 8, zrmk 8 (.inl ((.ofNat 0, .ofNat 0), none))),
    .inl (0, 8, zrmk 8 (.inl ((.ofNat 0, .ofNat 0), none))),
    .inl (0, 64, zrmk 64 (.inl ((.ofNat 0, .ofNat 0), none))),
    .inl (0, 2304, zrmk 2304 (.inl ((.ofNat 0, .ofNat 0), none))),
    .inl (0, 2304, zrmk 2304 (.inl ((.ofNat 0, .ofNat 0), none))),
    .inl (0, 8, zrmk 8 (.inl ((.ofNat 0, .ofNat 0), none))),
    .inl (2, 256, zrmk 256 (.inl ((.ofNat 0, .ofNat 0), none))),
    .inl (0, 12, zrmk 12 (.inl ((.ofNat 0, .ofNat 0), none))),
    .inl (0, 12, zrmk 12 (.inl ((.ofNat 0, .ofNat 0), none))),
    .inl (0, 54, zrmk 54 (.inl ((.ofNat 0, .ofNat 0), none))),
    .inl (2, 2, zrmk 2 (.inl ((.ofNat 0, .ofNat 0), none))),
    .inl (0, 2, zrmk 2 (.inl ((.ofNat 0, .ofNat 0), none))),
    .inl (1, 1, zrmk 1 (.inr (.inl (.ofNat 0, .ofNat 0)))),
    .inr (99, []),
    .inr (99, [])],
  List.replicate 16 (.inr (99, [])),
  List.replicate 16 (.inr (99, [])),
  List.replicate 16 (.inr (99, [])),
  List.replicate 16 (.inr (99, [])),
  List.replicate 16 (.inr (99, [])),
  List.replicate 16 (.inr (99, [])),
  List.replicate 16 (.inr (99, [])),
  List.replicate 16 (.inr (99, []))])
noncomputable def zcHF : zK := ([(0, .inr (.inr (.inr (.inl true)))), (1, .inr (.inr (.inl 0))), (2, .inr (.inr (.inl 94))), (3, .inr (.inr (.inl 125))), (4, .inl ((.ofNat 0, .ofNat 0), none))], [], zHF, 1000, 100000)
set_option maxRecDepth 100000 in
theorem zpre : zlaw (fun c => zcvK [] c zcHF) = true := by decide +kernel
noncomputable def zrunL (ov : zOv) (sc : List zN) (jq : zI) : Bool := zrunv zprog ov 100000 2048 84000 (kLaw (.ofNat 5, .ofNat 5) sc jq) (fun _ _ => false) 32 zcHF
theorem zfiveV {p : Program} {l : Launch} {e : Env} {s : State} {m : MethodId} {below : List Frame} {meth : Method} {c : Code} {b : Nat} {xs : Nat → Int32} {D : va_G} {tys : List (ClassId × FieldType)} {adr : Nat → Nat} {nm : String} (E : zEnv tys) (C : ∀ o : zO, o.1 = b → o.2.1 = adr → zCx p room_1 s m #[Value.ref b] meth c D vwCl tys s.heap.size (zXX o s.heap.size) zTs RL cL_law 8 nm) (hX : va_X b 5 xs s s.heap) (hbl : b < s.heap.size) (hr : meth.sig.returnType = ret) (hlocks : meth.locks = false) {ls : Array Slot} (hl : lv_has ls 8 [(0, .ref b)]) {jq : zI} {sc : List zN} (o : zO) (eb : o.1 = b) (ea : o.2.1 = adr) (e0 : o.2.2 0 = xs 0) {ov : zOv} (hov : zOvOk l D vwCl tys o s.heap.size (zXX o s.heap.size) zTs zprog ov) (hj : zmi jq (xs 0 &&& 63)) (hsc : ∀ (i : Nat) (q : zN), sc[i]? = some q → i < 5 ∧ zmi q.1 (xs i) ∧ ztg o.2.2 q.2 (xs i)) (hrun : zrunL ov sc jq = true) : W p l e room_1 s m #[Value.ref b] below meth c s.heap [] 0 0 (lw_Z below #[Value.ref b] s) (F0 m 0 ls []) := by
  have C := C o eb ea
  have hX' : va_X o.1 5 xs s s.heap := by rw [eb]; exact hX
  have hbl' : o.1 < s.heap.size := by rw [eb]; exact hbl
  have hbA : ¬ zA s.heap.size o.1 := Nat.not_le.mpr hbl'
  have hj' : zmi jq (o.2.2 0 &&& 63) := by rw [e0]; exact hj
  have h5 : zmem (.ofNat 5, .ofNat 5) (Int32.ofNat 5).toInt := ⟨by decide +kernel, by decide +kernel⟩
  have go5 : zGo p l e room_1 s m #[Value.ref b] below meth c (lw_Z below #[Value.ref b] s) D vwCl tys (zwith o o.2.2) s.heap.size [] 8 32 zcHF := by
    unfold zrunL at hrun
    exact zrunv_ok zXX_ok (zprog_ok E) hov 100000 p e room_1 s m #[Value.ref b] below meth c (lw_Z below #[Value.ref b] s) [] 8 cL_law (some .boolean) _ (okLaw E C hX' hbl' hbA rfl h5 hsc hr hlocks hj') 2048 84000 (by decide) (by decide) _ (fun pc ls v r h H locs ws cells slots _ _ _ _ _ _ _ _ _ q => by cases q) 32 zcHF hrun
  have hpre := zpre
  unfold zlaw at hpre
  have hops : ∀ pc sem, zrget (kLawC (fun c => zcvK [] c zcHF)) pc = some (some sem) → zOp p l e room_1 s m #[Value.ref b] below meth c (lw_Z below #[Value.ref b] s) D vwCl tys o s.heap.size (zXX o s.heap.size) zTs zprog [] 8 cL_law (some .boolean) pc sem := by
    unfold kLawC
    have hat : ∃ y, zrget (kLaw (.ofNat 5, .ofNat 5) [] (.ofNat 0, .ofNat 63)) 32 = some y := ⟨_, rfl⟩
    obtain ⟨y, hy⟩ := hat
    refine zpt (P := fun pc sem => zOp p l e room_1 s m #[Value.ref b] below meth c (lw_Z below #[Value.ref b] s) D vwCl tys o s.heap.size (zXX o s.heap.size) zTs zprog [] 8 cL_law (some .boolean) pc sem) (okLaw E C hX' hbl' hbA rfl h5 (fun i q hq => by simp at hq) hr hlocks (by have := zand_r (x := o.2.2 0) (y := 63) (by decide); exact this)) hy ?_
    intro call rt go cf _ _ _ hs
    exact zGo_cv (o := o) (f := o.2.2) (f' := o.2.2) zMok_nil hs go5
  have hz : zSat D vwCl tys o s.heap.size [] 8 s.heap zc0 ls [] s.heap [] [] := zSat0 (by rw [eb]; exact hl)
  exact zrun_ok zXX_ok (zprog_ok E) 100000 p e room_1 s m #[Value.ref b] below meth c (lw_Z below #[Value.ref b] s) [] 8 cL_law (some .boolean) _ hops 2048 84000 (by decide) (by decide) _ (fun pc ls v r h H locs ws cells slots _ _ _ _ _ _ _ _ _ q => by cases q) 0 zc0 hpre ls [] s.heap [] [] hz
