/-! EXCEPTIONS: rider() and row() answer or throw, the law's rider() and row() catch it -/
abbrev zE : String := "java/util/NoSuchElementException"
def zEn : List String := ["java/lang/RuntimeException", "java/lang/Exception"]
def zThW : List Cond := [.castable zE zE, .declares ⟨"java/lang/RuntimeException", "<init>", "()V"⟩, .declares ⟨"java/lang/Exception", "<init>", "()V"⟩, .declares ⟨"java/lang/Throwable", "<init>", "()V"⟩]
def zTh (z : Nat) (U : State) (H : Heap) : Prop := (∀ w ∈ zThW, va_Nw w U) ∧ vx_Zq Bundle.tN "UNASSIGNED_STACK" Bundle.steD (zA z) U H ∧ vx_Zq Bundle.tN "SUPPRESSED_SENTINEL" Bundle.listD (zA z) U H
theorem zThW_warm {w : Cond} (hw : w ∈ zThW) {s U : State} (hW : s.WarmedH U.vm) (h : va_Nw w s) : va_Nw w U := by
  simp only [zThW, List.mem_cons, List.not_mem_nil, or_false] at hw
  rcases hw with rfl | rfl | rfl | rfl
  · exact va_Nw.warmC hW h
  · exact va_tabs rfl (rfl : (s.setVm U.vm).vm = U.vm) (by rw [Cond.declares_setVm hW.alike]; exact h)
  · exact va_tabs rfl (rfl : (s.setVm U.vm).vm = U.vm) (by rw [Cond.declares_setVm hW.alike]; exact h)
  · exact va_tabs rfl (rfl : (s.setVm U.vm).vm = U.vm) (by rw [Cond.declares_setVm hW.alike]; exact h)
theorem zTh_warm {z : Nat} {s U : State} {H : Heap} (hW : s.WarmedH U.vm) (h : zTh z s H) : zTh z U H := ⟨fun w hw => zThW_warm hw hW (h.1 w hw), h.2.1.moved hW.alike, h.2.2.moved hW.alike⟩
theorem zTh_kept {z : Nat} {U : State} {H H1 : Heap} (hk : ∀ a : Nat, a < H.size → ¬ zA z a → H1[a]? = H[a]?) (h : zTh z U H) : zTh z U H1 := ⟨h.1, h.2.1.kept hk, h.2.2.kept hk⟩
/-- a start with a world, and what a throw needs -/
def zStT (D : va_G) (tys : List (ClassId × FieldType)) (o : zO) (z : Nat) (h : zH) (ws : va_W) (U : State) : Prop := zSt D vwCl tys o z (zXX o z) h ws U ∧ zTh z U U.heap
theorem zblindT {D : va_G} {tys : List (ClassId × FieldType)} {o : zO} {z : Nat} {h : zH} {ws : va_W} {vs : List Value} : FrameBlind (va_Pc vs (zStT D tys o z h ws)) := by
  intro a U g mk q
  obtain ⟨q0, ⟨q1, q2, q3, q4, q5, q6⟩, q7⟩ := q
  exact ⟨q0, ⟨q1, q2, q3, va_K.moved (u := U) (U := U.calling g mk a) (Vm.Alike.refl U.vm) q4, zXX_ok.1 U _ _ rfl q5, q6⟩, zTh_warm (s := U) (U := U.calling g mk a) (State.WarmedH.refl U) q7⟩
/-- what stands where it was thrown -/
def zXC (D : va_G) (tys : List (ClassId × FieldType)) (o : zO) (z : Nat) (ws : va_W) (k : zH → Bool) : String → State → State → Prop := vx_X (S := zH × va_W) (fun u => k u.1 = true ∧ zcg u.1.2.2 ws u.2 ∧ zwr vwCl tys o u.1 u.2 ∧ va_D (zA z) u.2) (fun E u t => E = zE ∧ va_P D vwCl u.2 t.heap) (zA z)
/-- a place where the walk is taken up elsewhere -/
def zo_cut (f : zK → Bool) : zSem := fun _ _ _ c => f c
noncomputable def zcutT (k : zH → Bool) (c : zK) : Bool := match c.2.1 with
  | [] => Nat.beq c.2.2.2.1 0 && (Nat.beq c.2.2.2.2 0 && k c.2.2.1)
  | _ => false
noncomputable def zthrow (ds : List zKw) (kx : zCode) (px F L : Nat) (as : List zAV) (h : zH) (k : zH → Bool) (kr : zRt) : Bool := zrunw zprog2 (zovW ds) 1000 zcut0 F L (zrset kx px (some (zo_cut (zcutT k)))) kr 0 (zargs 0 as, [], (h.1, h.2.1, 0), 0, 0)
theorem zpt {P : Nat → zSem → Prop} {kx : zCode} {px : Nat} {yx : Option zSem} {sem0 : zSem} (h : ∀ pc sem, zrget kx pc = some (some sem) → P pc sem) (hpx : zrget kx px = some yx) (h0 : P px sem0) : ∀ pc sem, zrget (zrset kx px (some sem0)) pc = some (some sem) → P pc sem := by
  intro pc sem hs
  rw [zrget_set hpx] at hs
  split at hs
  · rename_i e
    subst e
    cases hs
    exact h0
  · exact h pc sem hs
theorem zx_a : (Jvm.Cond.classLink "RockingHorse" (113 : Nat) "java/util/NoSuchElementException") ∈ zTs := zTs_b5 129 rfl rfl
theorem zx_b : (Jvm.Cond.initialized "java/util/NoSuchElementException") ∈ zTs := zTs_b1 20 rfl rfl
theorem zx_c : (Jvm.Cond.classLink "RockingHorseLaw" (13 : Nat) "java/util/NoSuchElementException") ∈ zTs := zTs_b5 124 rfl rfl
theorem zx_rider_code : (Jvm.Cond.code ({ cls := "RockingHorse", name := "rider", desc := "(II)I" } : Jvm.MethodName) prog_1_method_6_code (3 : Nat) (Option.some Jvm.ClassFile.FieldType.int)) ∈ zTs := zTs_b5 128 rfl rfl
theorem zx_rider_l : (Jvm.Cond.methodLink "RockingHorseLaw" (7 : Nat) ({ cls := "RockingHorse", name := "rider", desc := "(II)I" } : Jvm.MethodName)) ∈ zTs := zTs_b5 125 rfl rfl
theorem zx_rider_i : (Jvm.Cond.instanceMethod ({ cls := "RockingHorse", name := "rider", desc := "(II)I" } : Jvm.MethodName)) ∈ zTs := zTs_b5 126 rfl rfl
theorem zx_rider_s : (Jvm.Cond.selects "RockingHorse" ({ cls := "RockingHorse", name := "rider", desc := "(II)I" } : Jvm.MethodName) ({ cls := "RockingHorse", name := "rider", desc := "(II)I" } : Jvm.MethodName)) ∈ zTs := zTs_b5 127 rfl rfl
theorem zx_Lrider_code : (Jvm.Cond.codeWith ({ cls := "RockingHorseLaw", name := "rider", desc := "(LRockingHorse;II[J)I" } : Jvm.MethodName) method_3_code (5 : Nat) (Option.some Jvm.ClassFile.FieldType.int) [((0 : Nat), (10 : Nat), (13 : Nat), (13 : Nat))]) ∈ zTs := zTs_b5 123 rfl rfl
theorem zx_Lrider_l : (Jvm.Cond.methodLink "RockingHorseLaw" (42 : Nat) ({ cls := "RockingHorseLaw", name := "rider", desc := "(LRockingHorse;II[J)I" } : Jvm.MethodName)) ∈ zTs := zTs_b5 121 rfl rfl
theorem zx_Lrider_s : (Jvm.Cond.static ({ cls := "RockingHorseLaw", name := "rider", desc := "(LRockingHorse;II[J)I" } : Jvm.MethodName)) ∈ zTs := zTs_b5 122 rfl rfl
theorem zx_row_code : (Jvm.Cond.code ({ cls := "RockingHorse", name := "row", desc := "(I)J" } : Jvm.MethodName) prog_1_method_51_code (2 : Nat) (Option.some Jvm.ClassFile.FieldType.long)) ∈ zTs := zTs_b5 200 rfl rfl
theorem zx_row_l : (Jvm.Cond.methodLink "RockingHorseLaw" (15 : Nat) ({ cls := "RockingHorse", name := "row", desc := "(I)J" } : Jvm.MethodName)) ∈ zTs := zTs_b5 197 rfl rfl
theorem zx_row_i : (Jvm.Cond.instanceMethod ({ cls := "RockingHorse", name := "row", desc := "(I)J" } : Jvm.MethodName)) ∈ zTs := zTs_b5 198 rfl rfl
theorem zx_row_s : (Jvm.Cond.selects "RockingHorse" ({ cls := "RockingHorse", name := "row", desc := "(I)J" } : Jvm.MethodName) ({ cls := "RockingHorse", name := "row", desc := "(I)J" } : Jvm.MethodName)) ∈ zTs := zTs_b5 199 rfl rfl
theorem zx_Lrow_code : (Jvm.Cond.codeWith ({ cls := "RockingHorseLaw", name := "row", desc := "(LRockingHorse;I[J)I" } : Jvm.MethodName) method_4_code (4 : Nat) (Option.some Jvm.ClassFile.FieldType.int) [((0 : Nat), (8 : Nat), (11 : Nat), (13 : Nat))]) ∈ zTs := zTs_b5 196 rfl rfl
theorem zx_Lrow_l : (Jvm.Cond.methodLink "RockingHorseLaw" (226 : Nat) ({ cls := "RockingHorseLaw", name := "row", desc := "(LRockingHorse;I[J)I" } : Jvm.MethodName)) ∈ zTs := zTs_b5 194 rfl rfl
theorem zx_Lrow_s : (Jvm.Cond.static ({ cls := "RockingHorseLaw", name := "row", desc := "(LRockingHorse;I[J)I" } : Jvm.MethodName)) ∈ zTs := zTs_b5 195 rfl rfl
theorem zx_RL : (Jvm.Cond.initialized "RockingHorseLaw") ∈ zTs := zTs_b1 0 rfl rfl
theorem zx_R7 : (Jvm.Cond.initialized "RockingHorse") ∈ zTs := zTs_b1 1 rfl rfl

theorem zx0 : ∀ w ∈ (vx_at0 RX7 115 zE zEn).filter goodWord, w ∈ lw_tbl := by decide +kernel
theorem zx1 : ∀ w ∈ (vx_at0 RX7 115 zE zEn).filter (fun w => !goodWord w), w ∈ zThW := by decide +kernel
theorem zx2 : ∀ w ∈ Cond.classLink RX7 113 zE :: Cond.initialized zE :: vx_at0 RX7 115 zE zEn, vx_ot w = true := by decide +kernel
theorem zx3 : ∀ n ∈ zEn, Bundle.fit n = true := by decide +kernel
/-- a method that answers or throws -/
theorem zMetX {l : Launch} (hst : l.stackTraces = false) {D : va_G} {tys : List (ClassId × FieldType)} {o : zO} {z : Nat} (E : zEnv tys) {ds : List zKw} (hov : zOwOk l D vwCl tys o z (zXX o z) zTs zprog2 (zovW ds)) {y : MethodName} {cc : ByteArray} {nL : Nat} {ret : Option FieldType} (hy : plainName y.cls = true) (hcls : y.cls = RX7) {F L : Nat} (kF : 8 ≤ F) (kL : 200 ≤ L) {kx : zCode} {px : Nat} {yx : Option zSem} (hpx : zrget kx px = some yx)
    (hcode : ∀ (p : Program) (e : Env) (R : Room) (s : State) (m : MethodId) (args : Array Value) (below : List Frame) (meth : Method) (c0 : Code) (Q : State → Prop) (ws : va_W), R.cells = 1 → R.slots = 6 → zCx p R s m args meth c0 D vwCl tys z (zXX o z) zTs y.cls cc nL y.name → ∀ pc sem, zrget kx pc = some (some sem) → zOp p l e R s m args below meth c0 Q D vwCl tys o z (zXX o z) zTs zprog2 ws nL cc ret pc sem)
    (d0 : decode cc px = .ok (.new 113, 3)) (d3 : decode cc (px + 3) = .ok (.dup, 1)) (d4 : decode cc (px + 4) = .ok (.invokespecial 115, 3)) (d7 : decode cc (px + 7) = .ok (.athrow, 1))
    {as : List zAV} {h : zH} {k : zH → Bool} {kr : zRt} (k2 : zcats as ≤ nL) (k3 : zcats as ≤ 700) (hrun : zthrow ds kx px F L as h k kr = true) {ws : va_W} {vs : List Value} (hvs : zr2 (zgH o (zad ws)) as vs) : vx_Met l y (.code y cc nL ret :: zTs) { frames := F, cells := 1, slots := 6, locals := L } (va_Pc vs (zStT D tys o z h ws)) (zQ D vwCl tys o z ws kr) (zXC D tys o z ws k) 1 6 (zA z) := by
  refine vx_ofW (cc := cc) (maxL := nL) (ret := ret) hy rfl ?_
  intro p' e' s' m' args' below' meth' c' s₁ B hml htab hv
  obtain ⟨rfl, ⟨v1, v2, v3, v4, v5, v6⟩, v7⟩ := hv
  have hts := atoms_spec B.pre
  have hts' : ∀ w ∈ zTs, w.before vs.toArray s' = true := fun w hw => hts w (List.mem_cons_of_mem _ hw)
  have CX' : zCx p' { frames := F, cells := 1, slots := 6, locals := L } s' m' vs.toArray meth' c' D vwCl tys z (zXX o z) zTs y.cls cc nL y.name := ⟨B.exec, B.bytes, hml, findClass_of_methodNamed B.named, hts', v4, (name_of_methodNamed B.named B.method).1, v5, v6, by show 1 ≤ F; omega, kL⟩
  have hl := lv_entry vs (n := nL) (by rw [zsl_len hvs]; exact k2)
  rw [lg_entry_eq]
  have hat : ∀ w ∈ vx_at0 RX7 115 zE zEn, w.before vs.toArray s' = true := vx_hat (B := zThW) (fun w hw => hts' w (List.mem_filter.mpr ⟨zx0 w hw, (List.mem_filter.mp hw).2⟩)) zx1 (fun w hw => by
    have hn := v7.1 w hw
    simp only [zThW, List.mem_cons, List.not_mem_nil, or_false] at hw
    rcases hw with rfl | rfl | rfl | rfl <;> exact va_Nw.use (A := vs.toArray) rfl hn)
  have hrt : zRetOk p' l e' { frames := F, cells := 1, slots := 6, locals := L } s' m' vs.toArray below' meth' c' (vx_MQ below' (zQ D vwCl tys o z ws kr) (zXC D tys o z ws k) vs.toArray s' 1 6 (zA z)) D vwCl tys o z ws cc ret kr := fun pc ls v r h H locs ws' cells slots q1 q2 q3 q4 q5 q6 q7 q8 q9 q10 => vx_ret (zret_MQ (R := { frames := F, cells := 1, slots := 6, locals := L }) B.exec B.bytes B.notSynchronized B.returns rfl rfl pc ls v r h H locs ws' cells slots q1 q2 q3 q4 q5 q6 q7 q8 q9 q10)
  unfold zthrow at hrun
  refine zrunw_ok (z := z) (X := zXX o z) hov zXX_ok (zprog2_ok E) 1000 p' e' { frames := F, cells := 1, slots := 6, locals := L } s' m' vs.toArray below' meth' c' (vx_MQ below' (zQ D vwCl tys o z ws kr) (zXC D tys o z ws k) vs.toArray s' 1 6 (zA z)) ws nL cc ret _ ?_ F L (Nat.le_refl _) (Nat.le_refl _) kr hrt zcut0 (fun _ _ h => by cases h) 0 _ hrun (zent o.2.2 vs) (zent_ag _ _) _ [] s'.heap [] ws ⟨⟨_, hl, zargs_ok (g := o.2.2) hvs (by omega) _ (fun n hn => zent_F _ _ (by omega))⟩, trivial, ⟨v1.1, v1.2⟩, v2, v3, va_S.rf, zcg_rf⟩
  refine zpt (P := fun pc sem => zOp p' l e' { frames := F, cells := 1, slots := 6, locals := L } s' m' vs.toArray below' meth' c' (vx_MQ below' (zQ D vwCl tys o z ws kr) (zXC D tys o z ws k) vs.toArray s' 1 6 (zA z)) D vwCl tys o z (zXX o z) zTs zprog2 ws nL cc ret pc sem) (hcode p' e' _ s' m' _ below' meth' c' _ ws rfl rfl CX') hpx ?_
  intro call rt go c _ _ _ hs fv hfv ls vst H locs ws' S
  have hs : zcutT k c = true := hs
  unfold zcutT at hs
  split at hs
  · rename_i hst0
    simp only [Bool.and_eq_true] at hs
    obtain ⟨g1, g2, g3⟩ := hs
    have g1 := Nat.eq_of_beq_eq_true g1
    have g2 := Nat.eq_of_beq_eq_true g2
    obtain ⟨⟨lv, s1, s2⟩, s3, s4, s5, s6, s7, s8⟩ := S
    rw [hst0] at s3
    have e := zr2_nil s3
    subst e
    rw [g1, g2]
    refine vx_throw0 (A := zA z) (cc := cc) (own := RX7) (cls := zE) (names := zEn) (ik := 113) (ic := 115) B.exec B.bytes hst (by rw [← hcls]; exact findClass_of_methodNamed B.named) (by decide +kernel) zx3 (hts' _ zx_a) (hts' _ zx_b) hat zx2 v7.2.1 v7.2.2 s7 (s1.1.trans hml.symm) d0 d3 d4 d7 (fun x hx => (htab x hx).elim) (by show 2 + 3 < F; omega) (by show 0 + (13 * (2 + 1) + 42) ≤ L; omega) (Nat.le_refl 1) (Nat.le_refl 6) B.notSynchronized ?_ s7.2.2 (Nat.le_refl 1) (Nat.le_refl 6)
    intro t hal hsz hkeep
    exact ⟨(c.2.2.1, ws'), ⟨g3, s8, ⟨s4.1, s4.2⟩, s6⟩, ⟨rfl, s5.kept (fun k q hk => hkeep q.1 (s5 k q hk).lt)⟩, Nat.le_trans s7.1 hsz, fun q h1 h2 => (hkeep q (Nat.lt_of_lt_of_le h1 s7.1)).trans (s7.2.1 q h1 h2)⟩
  · cases hs
/-- a call of a method that answers or throws, under a row of the method's own table -/
noncomputable def zo_tcall (ds : List zKw) (hpc nx n nL : Nat) (kx : zCode) (px F L : Nat) : zSem := fun _ _ go c => match c with
  | (al, st, h, cs, sl) => match zpop (n + 1) [] st with
    | some (as, rest) => if Nat.ble (zcats rest) 8 && (Nat.beq cs 0 && (Nat.beq sl 0 && (zrecv 7 as h && (Nat.ble (zcats as) nL && Nat.ble (zcats as) 700)))) then zthrow ds kx px F L as h (fun h' => go hpc (al, [.inr (.inr (.inr (.inr 100)))], (h'.1, h'.2.1, Nat.lor h.2.2 h'.2.2), 1, 6)) (fun r h' => match r with
      | none => false
      | some a => go nx (al, zstrip a :: rest, (h'.1, h'.2.1, Nat.lor h.2.2 h'.2.2), 1, 6)) else false
    | none => false
theorem zk_tcall {p : Program} {l : Launch} {e : Env} {R : Room} {s : State} {m : MethodId} {args : Array Value} {below : List Frame} {meth : Method} {c0 : Code} {Q : State → Prop} {D : va_G} {tys : List (ClassId × FieldType)} {o : zO} {z : Nat} {ws0 : va_W} {nL : Nat} {cc : ByteArray} {ret : Option FieldType} {nm : String} (C : zCx p R s m args meth c0 D vwCl tys z (zXX o z) zTs RL cc nL nm) (hst : l.stackTraces = false) (E : zEnv tys) {ds : List zKw} (hov : zOwOk l D vwCl tys o z (zXX o z) zTs zprog2 (zovW ds)) (hTh : zTh z s s.heap) (hbc : R.cells = 1) (hbs : R.slots = 6)
    {y : MethodName} {ccx : ByteArray} {nX : Nat} {retx : Option FieldType} (hy : plainName y.cls = true) (hcls : y.cls = RX7) {F L : Nat} (kF : 8 ≤ F) (kL : 200 ≤ L) (hF : F + 1 ≤ R.frames) (hL : 8 + (nX + 11) + L ≤ R.locals) {kx : zCode} {px : Nat} {yx : Option zSem} (hpx : zrget kx px = some yx)
    (hcode : ∀ (p : Program) (e : Env) (R : Room) (s : State) (m : MethodId) (args : Array Value) (below : List Frame) (meth : Method) (c0 : Code) (Q : State → Prop) (ws : va_W), R.cells = 1 → R.slots = 6 → zCx p R s m args meth c0 D vwCl tys z (zXX o z) zTs y.cls ccx nX y.name → ∀ pc sem, zrget kx pc = some (some sem) → zOp p l e R s m args below meth c0 Q D vwCl tys o z (zXX o z) zTs zprog2 ws nX ccx retx pc sem)
    (d0 : decode ccx px = .ok (.new 113, 3)) (d3 : decode ccx (px + 3) = .ok (.dup, 1)) (d4 : decode ccx (px + 4) = .ok (.invokespecial 115, 3)) (d7 : decode ccx (px + 7) = .ok (.athrow, 1))
    {idx n pc hpc : Nat} (wcode : Cond.code y ccx nX retx ∈ zTs) (wl : Cond.methodLink RL idx y ∈ zTs) (win : Cond.instanceMethod y ∈ zTs) (wsel : Cond.selects RX7 y y ∈ zTs) (wini : Cond.initialized RX7 ∈ zTs) (hpar : zPar y n) (hd : decode cc pc = .ok (.invokevirtual idx, 3)) {x : ExceptionTableEntry} (htab : c0.exceptionTable.toList = [x]) (hx : covers x pc = true) (hxt : x.catchType = 13) (hxp : x.handlerPc = hpc) : zOp p l e R s m args below meth c0 Q D vwCl tys o z (zXX o z) zTs zprog2 ws0 nL cc ret pc (zo_tcall ds hpc (pc + 3) n nX kx px F L) := by
  intro call rt go c _ _ hgo hs fv hfv ls vst H locs ws S
  unfold zo_tcall at hs
  split at hs
  rename_i al st h cs sl
  split at hs
  · rename_i as rest hp
    split at hs
    · rename_i hcnt
      simp only [Bool.and_eq_true] at hcnt
      obtain ⟨c1, c2, c3, c4, c5, c6⟩ := hcnt
      have c1 := Nat.le_of_ble_eq_true c1
      have c2 := Nat.eq_of_beq_eq_true c2
      have c3 := Nat.eq_of_beq_eq_true c3
      have c5 := Nat.le_of_ble_eq_true c5
      have c6 := Nat.le_of_ble_eq_true c6
      subst c2
      subst c3
      obtain ⟨xs, e1, e2, e3⟩ := zpop_ok hp
      rw [List.append_nil] at e1
      subst e1
      subst e2
      obtain ⟨vx, vr, rfl, h1, h2⟩ := zr2_split S.2.1
      have h1 := zr2_rev h1
      rw [List.reverse_reverse] at h1
      have h1 : zr2 (zgH o (zad ws)) as vx.reverse := zr2_imp (fun a b q => zgH_w q) h1
      have hlen : vx.reverse.length = n + 1 := by rw [← zr2_len h1]; exact e3
      have hw0 : zwr vwCl tys o h ws := ⟨S.2.2.1.1, S.2.2.1.2⟩
      obtain ⟨b, As', hbA, hcell⟩ := zrecv_ok (U := s) C.2.2.2.2.2.1 (show vwCl[7]? = some (RX7, TX7, 16) from rfl) as h ws _ H c4 hw0 S.2.2.2.1 h1
      have hM := zMetX hst E hov hy hcls kF kL hpx hcode d0 d3 d4 d7 c5 c6 hs h1
      rw [hbA] at hM hlen
      have hst9 : vx = As'.reverse ++ [.ref b] := by
        have := congrArg List.reverse hbA
        rw [List.reverse_reverse] at this
        rw [this]
        simp
      have hroom : 2 * (F0 m pc ls (vx ++ vr)).monitorRoom + (vr.map fun v => v.category).sum ≤ 8 := lv_room (by rw [zcats_ok h2]; exact c1)
      rw [hst9] at hroom ⊢
      rw [List.append_assoc] at hroom ⊢
      have hr := vx_runV (As := As') (b := b) (H := H) (locs := locs) (cells := 0) (slots := 0) (rest := vr) (g := F0 m pc ls (As'.reverse ++ ([.ref b] ++ vr))) (mc := 1) (ms := 6) (n := n) (C := RX7) (index := idx) (below := below) (e := e) (meth := meth) ⟨C.1, C.2.1, C.2.2.1, C.2.2.2.1, C.2.2.2.2.1⟩ hM ⟨callB_of n C.2.2.2.2.1 (zgood zTs_good wcode) rfl rfl rfl (by rw [hcls]; exact C.2.2.2.2.1 _ wini) (C.2.2.2.2.1 _ wl) hpar ⟨hF, hL⟩, C.2.2.2.2.1 _ win, C.2.2.2.2.1 _ wsel⟩ ⟨zblindT, hcell, fun U hU hW => ⟨rfl, ⟨hw0, by rw [hU]; exact S.2.2.2.1, S.2.2.2.2.1, va_K.moved hW.alike C.2.2.2.2.2.1, by rw [hU]; exact zXX_ok.2.1 s U H hW (zXX_ok.2.2 s s.heap H C.2.2.2.2.2.2.2.2.1 (fun q hq => S.2.2.2.2.2.1.2.1 q (Nat.lt_of_lt_of_le hq C.2.2.2.2.2.2.2.2.1) (Nat.not_le.mpr hq)) C.2.2.2.2.2.2.2.1), by rw [hU]; exact Nat.le_trans C.2.2.2.2.2.2.2.2.1 S.2.2.2.2.2.1.1⟩, by rw [hU]; exact zTh_warm hW (zTh_kept S.2.2.2.2.2.1.2.1 hTh)⟩⟩ rfl (by simpa using hlen) S.1.choose_spec.1.1 rfl hroom hd ⟨by rw [hbc]; exact Nat.le_refl 1, by rw [hbs]; exact Nat.le_refl 6⟩
      intro T hT Xst
      rcases hr T hT Xst with ⟨v, st₀, t, T', L', h0, X', hL', e1, e2, ⟨⟨r, v', h9, ws', hv, q1, q2, q3, q4, q5, q6⟩, hF9⟩, st⟩ | ⟨q, st₀, t, T', L', E9, ce, h0, X', hL', e1, e2, ⟨u, ⟨u1, u2, u3, u4⟩, ⟨u5, u6⟩, hF9⟩, hce, hcv, hcl, st⟩
      · cases hv
        obtain ⟨k1, k2, k3⟩ := vx_keep h0 e1 S.2.2.2.2.2.1 (A1 := zA z) (fun q _ h => h) (fun q h => h) hL' hF9
        rw [← e1] at q4
        cases r with
        | none => cases q6
        | some a =>
          cases v with
          | none => exact q1.elim
          | some w =>
            obtain ⟨t2, a1, b1⟩ := hgo _ _ q6 fv hfv ls _ T'.heap (locs ++ L') ws' (zSat_hp S h2 (zg_strip q1) (zcg_sub q2) ⟨q3.1, q3.2⟩ q4 q5 k3 (zcg_tr S.2.2.2.2.2.2 q2)) T' rfl X'
            exact ⟨t2, st t2 a1, b1⟩
      · obtain ⟨k1, k2, k3⟩ := vx_keep h0 e1 S.2.2.2.2.2.1 (A1 := zA z) (fun q _ h => h) (fun q h => h) hL' hF9
        rw [u5] at hcl
        have hcast : (Cond.castable zE zE).before args s = true := va_Nw.use (A := args) rfl (hTh.1 _ List.mem_cons_self)
        have hW : vx_W p l e R s m args below meth c0 T'.heap (locs ++ L') (0 + 1) (0 + 6) Q (F0 m pc ls vr) q := by
          refine vx_catch C.2.2.2.1 [] x [] htab (fun z hz => absurd hz List.not_mem_nil) hx (by rw [hxt]; decide) (by rw [hxt]; exact C.2.2.2.2.1 _ zx_c) hcast (by rw [e1]; exact hce) hcv hcl ?_
          rw [hxp]
          exact hgo hpc _ u1 fv hfv ls [.ref q] T'.heap (locs ++ L') u.2 (zSat_h S ⟨⟨fun h => absurd h (by decide), Or.inr ⟨q, rfl⟩⟩, trivial⟩ (zcg_sub u2) ⟨u3.1, u3.2⟩ (by rw [e1]; exact u6) u4 k3 (zcg_tr S.2.2.2.2.2.2 u2))
        obtain ⟨t2, a1, b1⟩ := hW T' rfl X'
        exact ⟨t2, st.trans a1, b1⟩
    · cases hs
  · cases hs
/-- a method with a table of its own, walked -/
noncomputable def zlrun (ds : List zKw) (kl : zCode) (as : List zAV) (h : zH) (k : zRt) : Bool := zrunw zprog2 (zovW ds) 1000 zcut0 100 20000 kl k 0 (zargs 0 as, [], (h.1, h.2.1, 0), 0, 0)
theorem zMetL {l : Launch} {D : va_G} {tys : List (ClassId × FieldType)} {o : zO} {z : Nat} (E : zEnv tys) {ds : List zKw} (hov : zOwOk l D vwCl tys o z (zXX o z) zTs zprog2 (zovW ds)) {y : MethodName} {cc : ByteArray} {nL : Nat} {ret : Option FieldType} {hh : List (Nat × Nat × Nat × Nat)} (hy : plainName y.cls = true) (hcls : y.cls = RL) {kl : zCode}
    (hcode : ∀ (p : Program) (e : Env) (R : Room) (s : State) (m : MethodId) (args : Array Value) (below : List Frame) (meth : Method) (c0 : Code) (Q : State → Prop) (ws : va_W), R.cells = 1 → R.slots = 6 → R.frames = 100 → R.locals = 20000 → zCx p R s m args meth c0 D vwCl tys z (zXX o z) zTs RL cc nL y.name → zTh z s s.heap → c0.exceptionTable.toList = tableOf hh → ∀ pc sem, zrget kl pc = some (some sem) → zOp p l e R s m args below meth c0 Q D vwCl tys o z (zXX o z) zTs zprog2 ws nL cc ret pc sem)
    {as : List zAV} {h : zH} {k : zRt} (k2 : zcats as ≤ nL) (k3 : zcats as ≤ 700) (hrun : zlrun ds kl as h k = true) {ws : va_W} {vs : List Value} (hvs : zr2 (zgH o (zad ws)) as vs) : Met l y (.codeWith y cc nL ret hh :: zTs) { frames := 100, cells := 1, slots := 6, locals := 20000 } (va_Pc vs (zStT D tys o z h ws)) (zQ D vwCl tys o z ws k) 1 6 (zA z) := by
  refine va_MetW (cc := cc) (maxL := nL) (ret := ret) (hh := hh) hy rfl ?_
  intro p' e' s' m' args' below' meth' c' s₁ B hml hv
  obtain ⟨rfl, ⟨v1, v2, v3, v4, v5, v6⟩, v7⟩ := hv
  have hts := atoms_spec B.pre
  have htab := vx_table (x := y) B (hts _ List.mem_cons_self)
  have CX' : zCx p' { frames := 100, cells := 1, slots := 6, locals := 20000 } s' m' vs.toArray meth' c' D vwCl tys z (zXX o z) zTs RL cc nL y.name := ⟨B.exec, B.bytes, hml, by rw [← hcls]; exact findClass_of_methodNamed B.named, fun w hw => hts w (List.mem_cons_of_mem _ hw), v4, (name_of_methodNamed B.named B.method).1, v5, v6, by decide, by decide⟩
  have hl := lv_entry vs (n := nL) (by rw [zsl_len hvs]; exact k2)
  rw [lg_entry_eq]
  unfold zlrun at hrun
  exact zrunw_ok (z := z) (X := zXX o z) hov zXX_ok (zprog2_ok E) 1000 p' e' { frames := 100, cells := 1, slots := 6, locals := 20000 } s' m' vs.toArray below' meth' c' _ ws nL cc ret kl (hcode p' e' _ s' m' _ below' meth' c' _ ws rfl rfl rfl rfl CX' v7 htab) 100 20000 (Nat.le_refl _) (Nat.le_refl _) k (zret_MQ B.exec B.bytes B.notSynchronized B.returns rfl rfl) zcut0 (fun _ _ h => by cases h) 0 _ hrun (zent o.2.2 vs) (zent_ag _ _) _ [] s'.heap [] ws ⟨⟨_, hl, zargs_ok (g := o.2.2) hvs (by omega) _ (fun n hn => zent_F _ _ (by omega))⟩, trivial, ⟨v1.1, v1.2⟩, v2, v3, va_S.rf, zcg_rf⟩
/-- its call, so many cells and slots behind it -/
noncomputable def zo_lcall (ds : List zKw) (nx n nL bc bs : Nat) (kl : zCode) : zSem := fun _ _ go c => match c with
  | (al, st, h, cs, sl) => match zpop n [] st with
    | some (as, rest) => if Nat.ble (zcats rest) 8 && (Nat.ble (cs + 1) bc && (Nat.ble (sl + 6) bs && (Nat.ble (zcats as) nL && Nat.ble (zcats as) 700))) then zlrun ds kl as h (fun r h' => match r with
      | none => false
      | some a => go nx (al, zstrip a :: rest, (h'.1, h'.2.1, Nat.lor h.2.2 h'.2.2), cs + 1, sl + 6)) else false
    | none => false
theorem zB_lcall {p : Program} {l : Launch} {e : Env} {R : Room} {s : State} {m : MethodId} {args : Array Value} {below : List Frame} {meth : Method} {c0 : Code} {Q : State → Prop} {D : va_G} {tys : List (ClassId × FieldType)} {o : zO} {z : Nat} {ws0 : va_W} {nL : Nat} {cc : ByteArray} {nm : String} {K S0 : Nat} {rt : zRt} (C : zCx p R s m args meth c0 D vwCl tys z (zXX o z) zTs RL cc nL nm) (E : zEnv tys) {ds : List zKw} (hov : zOwOk l D vwCl tys o z (zXX o z) zTs zprog2 (zovW ds)) (hTh : zTh z s s.heap) {bc bs : Nat} (hbc : bc + K ≤ R.cells) (hbs : bs + S0 ≤ R.slots) (hF : 101 ≤ R.frames)
    {y : MethodName} {ccx : ByteArray} {nX : Nat} {retx : Option FieldType} {hh : List (Nat × Nat × Nat × Nat)} (hL : 8 + (nX + 11) + 20000 ≤ R.locals) (hy : plainName y.cls = true) (hcls : y.cls = RL) {kl : zCode}
    (hcode : ∀ (p : Program) (e : Env) (R : Room) (s : State) (m : MethodId) (args : Array Value) (below : List Frame) (meth : Method) (c0 : Code) (Q : State → Prop) (ws : va_W), R.cells = 1 → R.slots = 6 → R.frames = 100 → R.locals = 20000 → zCx p R s m args meth c0 D vwCl tys z (zXX o z) zTs RL ccx nX y.name → zTh z s s.heap → c0.exceptionTable.toList = tableOf hh → ∀ pc sem, zrget kl pc = some (some sem) → zOp p l e R s m args below meth c0 Q D vwCl tys o z (zXX o z) zTs zprog2 ws nX ccx retx pc sem)
    {idx n pc : Nat} (wcode : Cond.codeWith y ccx nX retx hh ∈ zTs) (wl : Cond.methodLink RL idx y ∈ zTs) (wst : Cond.static y ∈ zTs) (wini : Cond.initialized y.cls ∈ zTs) (hpar : zPar y n) (hd : decode cc pc = .ok (.invokestatic idx, 3)) : zOpB p l e R s m args below meth c0 Q D vwCl tys o z (zXX o z) zTs zprog2 ws0 nL K S0 rt pc (zo_lcall ds (pc + 3) n nX bc bs kl) := by
  intro call go c _ hgo hs fv hfv ls vst H locs ws S
  unfold zo_lcall at hs
  split at hs
  rename_i al st h cs sl
  have S : zSat D vwCl tys (zwith o fv) z ws0 nL s.heap (al, st, h, cs + K, sl + S0) ls vst H locs ws := S
  show W p l e R s m args below meth c0 H locs (cs + K) (sl + S0) Q (F0 m pc ls vst)
  split at hs
  · rename_i as rest hp
    split at hs
    · rename_i hcnt
      simp only [Bool.and_eq_true] at hcnt
      obtain ⟨c1, c2, c3, c4, c5⟩ := hcnt
      have c1 := Nat.le_of_ble_eq_true c1
      have c2 := Nat.le_of_ble_eq_true c2
      have c3 := Nat.le_of_ble_eq_true c3
      have c4 := Nat.le_of_ble_eq_true c4
      have c5 := Nat.le_of_ble_eq_true c5
      obtain ⟨xs, e1, e2, e3⟩ := zpop_ok hp
      rw [List.append_nil] at e1
      subst e1
      subst e2
      obtain ⟨vx, vr, rfl, h1, h2⟩ := zr2_split S.2.1
      have h1 := zr2_rev h1
      rw [List.reverse_reverse] at h1
      have h1 : zr2 (zgH o (zad ws)) as vx.reverse := zr2_imp (fun a b q => zgH_w q) h1
      have hlen : vx.reverse.length = n := by rw [← zr2_len h1]; exact e3
      have hw0 : zwr vwCl tys o h ws := ⟨S.2.2.1.1, S.2.2.1.2⟩
      have hM := zMetL (l := l) E hov hy hcls hcode c4 c5 hs h1
      have hG : GoodIn zTs (va_wsS RL idx y (.codeWith y ccx nX retx hh :: zTs)) := by
        intro w hw
        have hm : w ∈ zTs := by
          unfold va_wsS at hw
          rcases List.mem_append.mp hw with hw | hw
          · simp only [List.mem_cons, List.not_mem_nil, or_false] at hw
            rcases hw with rfl | rfl | rfl
            · exact wl
            · exact wst
            · exact wini
          · rcases List.mem_cons.mp hw with rfl | hw
            · exact wcode
            · exact hw
        exact ⟨hm, good_of_word (zTs_good w hm)⟩
      have hrun := vx_runSW (As := vx.reverse) (H := H) (locs := locs) (cells := cs + K) (slots := sl + S0) (rest := vr) (g := F0 m pc ls (vx.reverse.reverse ++ vr)) (mc := 1) (ms := 6) (n := n) (index := idx) (below := below) (e := e) (meth := meth) ⟨C.1, C.2.1, C.2.2.1, C.2.2.2.1, C.2.2.2.2.1⟩ hM (vx_cwSW n C.2.2.2.2.1 hG rfl rfl rfl hpar ⟨hF, hL⟩) ⟨zblindT, fun U hU hW => ⟨rfl, ⟨hw0, by rw [hU]; exact S.2.2.2.1, S.2.2.2.2.1, va_K.moved hW.alike C.2.2.2.2.2.1, by rw [hU]; exact zXX_ok.2.1 s U H hW (zXX_ok.2.2 s s.heap H C.2.2.2.2.2.2.2.2.1 (fun q hq => S.2.2.2.2.2.1.2.1 q (Nat.lt_of_lt_of_le hq C.2.2.2.2.2.2.2.2.1) (Nat.not_le.mpr hq)) C.2.2.2.2.2.2.2.1), by rw [hU]; exact Nat.le_trans C.2.2.2.2.2.2.2.2.1 S.2.2.2.2.2.1.1⟩, by rw [hU]; exact zTh_warm hW (zTh_kept S.2.2.2.2.2.1.2.1 hTh)⟩⟩ rfl hlen S.1.choose_spec.1.1 rfl (lv_room (by rw [zcats_ok h2]; exact c1)) hd ⟨by omega, by omega⟩
      rw [List.reverse_reverse] at hrun
      refine zcall_k hrun S.2.2.2.2.2.1 (fun r v h' ws' H1 locs1 q1 q2 q3 q4 q5 q6 q7 => ?_)
      have a1 : cs + K + 1 = cs + 1 + K := by omega
      have a2 : sl + S0 + 6 = sl + 6 + S0 := by omega
      rw [a1, a2]
      cases r with
      | none => cases q7
      | some a =>
        cases v with
        | none => exact q1.elim
        | some w => exact hgo _ _ q7 fv hfv ls _ H1 locs1 ws' (zSat_hp S h2 (zg_strip q1) (zcg_sub q2) ⟨q3.1, q3.2⟩ q4 q5 q6 (zcg_tr S.2.2.2.2.2.2 q2))
    · cases hs
  · cases hs
theorem dX7_rider_20 : decode cX7_rider 20 = .ok (.new 113, 3) := by decide +kernel
theorem dX7_rider_24 : decode cX7_rider 24 = .ok (.invokespecial 115, 3) := by decide +kernel
theorem dX7_rider_27 : decode cX7_rider 27 = .ok (.athrow, 1) := by decide +kernel
theorem dX7_row_15 : decode cX7_row 15 = .ok (.new 113, 3) := by decide +kernel
theorem dX7_row_19 : decode cX7_row 19 = .ok (.invokespecial 115, 3) := by decide +kernel
theorem dX7_row_22 : decode cX7_row 22 = .ok (.athrow, 1) := by decide +kernel
theorem dL_rider_0 : decode cL_rider 0 = .ok (.aload_n 3, 1) := by decide +kernel
theorem dL_rider_1 : decode cL_rider 1 = .ok (.iconst 0, 1) := by decide +kernel
theorem dL_rider_2 : decode cL_rider 2 = .ok (.aload_n 0, 1) := by decide +kernel
theorem dL_rider_3 : decode cL_rider 3 = .ok (.iload_n 1, 1) := by decide +kernel
theorem dL_rider_4 : decode cL_rider 4 = .ok (.iload_n 2, 1) := by decide +kernel
theorem dL_rider_5 : decode cL_rider 5 = .ok (.invokevirtual 7, 3) := by decide +kernel
theorem dL_rider_8 : decode cL_rider 8 = .ok (.i2l, 1) := by decide +kernel
theorem dL_rider_9 : decode cL_rider 9 = .ok (.lastore, 1) := by decide +kernel
theorem dL_rider_10 : decode cL_rider 10 = .ok (.goto 7, 3) := by decide +kernel
theorem dL_rider_13 : decode cL_rider 13 = .ok (.astore 4, 2) := by decide +kernel
theorem dL_rider_15 : decode cL_rider 15 = .ok (.iconst 1, 1) := by decide +kernel
theorem dL_rider_16 : decode cL_rider 16 = .ok (.ireturn, 1) := by decide +kernel
theorem dL_rider_17 : decode cL_rider 17 = .ok (.iconst 0, 1) := by decide +kernel
theorem dL_rider_18 : decode cL_rider 18 = .ok (.ireturn, 1) := by decide +kernel
theorem dL_row_0 : decode cL_row 0 = .ok (.aload_n 2, 1) := by decide +kernel
theorem dL_row_1 : decode cL_row 1 = .ok (.iconst 0, 1) := by decide +kernel
theorem dL_row_2 : decode cL_row 2 = .ok (.aload_n 0, 1) := by decide +kernel
theorem dL_row_3 : decode cL_row 3 = .ok (.iload_n 1, 1) := by decide +kernel
theorem dL_row_4 : decode cL_row 4 = .ok (.invokevirtual 15, 3) := by decide +kernel
theorem dL_row_7 : decode cL_row 7 = .ok (.lastore, 1) := by decide +kernel
theorem dL_row_8 : decode cL_row 8 = .ok (.goto 6, 3) := by decide +kernel
theorem dL_row_11 : decode cL_row 11 = .ok (.astore_n 3, 1) := by decide +kernel
theorem dL_row_12 : decode cL_row 12 = .ok (.iconst 1, 1) := by decide +kernel
theorem dL_row_13 : decode cL_row 13 = .ok (.ireturn, 1) := by decide +kernel
theorem dL_row_14 : decode cL_row 14 = .ok (.iconst 0, 1) := by decide +kernel
theorem dL_row_15 : decode cL_row 15 = .ok (.ireturn, 1) := by decide +kernel
noncomputable def kxR : zCode := [[some (zo_splL 1 [(.negSucc 2147483647, .negSucc 0), (.ofNat 0, .ofNat 7), (.ofNat 8, .ofNat 2147483647)] (zo_splL 2 [(.negSucc 2147483647, .negSucc 0), (.ofNat 0, .ofNat 0), (.ofNat 1, .ofNat 1), (.ofNat 2, .ofNat 2), (.ofNat 3, .ofNat 3), (.ofNat 4, .ofNat 4), (.ofNat 5, .ofNat 5), (.ofNat 6, .ofNat 2147483647)] (zo_loadA 1 0))), some (zo_get 4 7 1), none, none, some (zo_loadI 5 1), some (zo_call 8 21 2 0 0 1 6 (zrecv 0)), none, none, some (zo_ifR zd_eq (zr0 zrf_eq) 20 11), none, none, some (zo_loadI 12 2), some (zo_ifR zd_lt (zr0 zrf_lt) 20 15), none, none, some (zo_loadI 16 2)],
  [some (zo_push 17 (.inl ((.ofNat 5, .ofNat 5), none))), some (zo_icR zc_le zrf_le 28 20), none, none, none, none, none, none, none, none, none, none, some (zo_loadI 29 2), some (zo_tab (.ofNat 0) [64, 74, 84, 94, 104] 121), none, none],
  [none, none, none, none, none, none, none, none, none, none, none, none, none, none, none, none],
  [none, none, none, none, none, none, none, none, none, none, none, none, none, none, none, none],
  [some (zo_loadA 65 0), some (zo_get 68 7 1), none, none, some (zo_get 71 0 1), none, none, some (zo_loadI 72 1), some (zo_ald 73 0), some (zo_ret1 1 6 0), some (zo_loadA 75 0), some (zo_get 78 7 1), none, none, some (zo_get 81 0 2), none],
  [none, some (zo_loadI 82 1), some (zo_ald 83 0), some (zo_ret1 1 6 0), some (zo_loadA 85 0), some (zo_get 88 7 1), none, none, some (zo_get 91 0 0), none, none, some (zo_loadI 92 1), some (zo_ald 93 0), some (zo_ret1 1 6 0), some (zo_loadA 95 0), some (zo_get 98 7 2)],
  [none, none, some (zo_get 101 5 1), none, none, some (zo_loadI 102 1), some (zo_ald 103 0), some (zo_ret1 1 6 0), some (zo_loadA 105 0), some (zo_get 108 7 2), none, none, some (zo_loadI 109 1), some (zo_call 112 88 2 0 0 1 6 (zrecv 5)), none, none],
  [some (zo_ifR zd_eq (zr0 zrf_eq) 119 115), none, none, some (zo_push 116 (.inl ((.ofNat 1, .ofNat 1), none))), some (zo_goto 120), none, none, some (zo_push 120 (.inl ((.ofNat 0, .ofNat 0), none))), some (zo_ret1 1 6 0), some (zo_loadA 122 0), some (zo_get 125 7 2), none, none, some (zo_loadI 126 1), some (zo_call 129 86 2 0 0 1 6 (zrecv 5)), none],
  [none, some (zo_ret1 1 6 0)]]
set_option maxRecDepth 100000 in
theorem okxR {l : Launch} {D : va_G} {tys : List (ClassId × FieldType)} {o : zO} {z : Nat} (E : zEnv tys) (p : Program) (e : Env) (R : Room) (s : State) (m : MethodId) (args : Array Value) (below : List Frame) (meth : Method) (c0 : Code) (Q : State → Prop) (ws : va_W) (hbc : R.cells = 1) (hbs : R.slots = 6) (C : zCx p R s m args meth c0 D vwCl tys z (zXX o z) zTs yX7_rider.cls cX7_rider 3 yX7_rider.name) : ∀ pc sem, zrget kxR pc = some (some sem) → zOp p l e R s m args below meth c0 Q D vwCl tys o z (zXX o z) zTs zprog2 ws 3 cX7_rider (some .int) pc sem := by
  intro pc sem h
  replace C : zCx p R s m args meth c0 D vwCl tys z (zXX o z) zTs RX7 cX7_rider 3 "rider" := C
  refine zRows_get (P := fun pc sem => zOp p l e R s m args below meth c0 Q D vwCl tys o z (zXX o z) zTs zprog2 ws 3 cX7_rider (some .int) pc sem) (c := kxR) ?_ h
  unfold kxR
  exact (zrs_c (zr_s (zk_splL (zk_splL (zq_aload_n C (zda zDX7_rider 0 rfl rfl) rfl)))
    (zr_s (zq_get (k := 1) C (zda zDX7_rider 1 rfl rfl) (show vwCl[7]? = some (RX7, TX7, 16) from rfl) zinX7 (by decide) zw424)
    (zr_n (zr_n (zr_s (zq_iload_n C (zda zDX7_rider 4 rfl rfl) rfl)
    (zr_s (zk_callVN (n := 1) C zXX_ok zTs_good hbc hbs (show zget zprog2 21 = some mX0_has from rfl) rfl rfl (show vwCl[0]? = some (RX0, TX0, 12) from rfl) zw550 (fun U H h => zn46 h) zw549 zs23 zw3 (by decide +kernel) (zda zDX7_rider 5 rfl rfl))
    (zr_n (zr_n (zr_s (zqr_if_eq C (zda zDX7_rider 8 rfl rfl) (by decide))
    (zr_n (zr_n (zr_s (zq_iload_n C (zda zDX7_rider 11 rfl rfl) rfl)
    (zr_s (zqr_if_lt C (zda zDX7_rider 12 rfl rfl) (by decide))
    (zr_n (zr_n (zr_s (zq_iload_n C (zda zDX7_rider 15 rfl rfl) rfl)
    zr_0))))))))))))))))
  (zrs_c (zr_s (zq_iconst (n := .ofNat 5) C (zda zDX7_rider 16 rfl rfl) (by decide))
    (zr_s (zqr_le C (zda zDX7_rider 17 rfl rfl) (by decide))
    (zr_n (zr_n (zr_n (zr_n (zr_n (zr_n (zr_n (zr_n (zr_n (zr_n (zr_s (zq_iload_n C (zda zDX7_rider 28 rfl rfl) rfl)
    (zr_s (zk_tab C (zda zDX7_rider 29 rfl rfl) (by decide) (by decide) (fun k t h => zswT (pc := 29) (offs := [(.ofNat 35), (.ofNat 45), (.ofNat 55), (.ofNat 65), (.ofNat 75)]) (by decide) h))
    (zr_n (zr_n zr_0))))))))))))))))
  (zrs_c (zr_n (zr_n (zr_n (zr_n (zr_n (zr_n (zr_n (zr_n (zr_n (zr_n (zr_n (zr_n (zr_n (zr_n (zr_n (zr_n zr_0))))))))))))))))
  (zrs_c (zr_n (zr_n (zr_n (zr_n (zr_n (zr_n (zr_n (zr_n (zr_n (zr_n (zr_n (zr_n (zr_n (zr_n (zr_n (zr_n zr_0))))))))))))))))
  (zrs_c (zr_s (zq_aload_n C (zda zDX7_rider 64 rfl rfl) rfl)
    (zr_s (zq_get (k := 1) C (zda zDX7_rider 65 rfl rfl) (show vwCl[7]? = some (RX7, TX7, 16) from rfl) zinX7 (by decide) zw424)
    (zr_n (zr_n (zr_s (zq_getN (k := 1) C (zda zDX7_rider 68 rfl rfl) (show vwCl[0]? = some (RX0, TX0, 12) from rfl) zinX0 (by decide) (fun U H h => zn8 h))
    (zr_n (zr_n (zr_s (zq_iload_n C (zda zDX7_rider 71 rfl rfl) rfl)
    (zr_s (zk_iald C (zda zDX7_rider 72 rfl rfl))
    (zr_s (zk_ret1 (ty := .int) C hbc hbs rfl rfl (Or.inl ⟨(zda zDX7_rider 73 rfl rfl), by decide⟩))
    (zr_s (zq_aload_n C (zda zDX7_rider 74 rfl rfl) rfl)
    (zr_s (zq_get (k := 1) C (zda zDX7_rider 75 rfl rfl) (show vwCl[7]? = some (RX7, TX7, 16) from rfl) zinX7 (by decide) zw424)
    (zr_n (zr_n (zr_s (zq_getN (k := 2) C (zda zDX7_rider 78 rfl rfl) (show vwCl[0]? = some (RX0, TX0, 12) from rfl) zinX0 (by decide) (fun U H h => zn9 h))
    (zr_n zr_0))))))))))))))))
  (zrs_c (zr_n (zr_s (zq_iload_n C (zda zDX7_rider 81 rfl rfl) rfl)
    (zr_s (zk_iald C (zda zDX7_rider 82 rfl rfl))
    (zr_s (zk_ret1 (ty := .int) C hbc hbs rfl rfl (Or.inl ⟨(zda zDX7_rider 83 rfl rfl), by decide⟩))
    (zr_s (zq_aload_n C (zda zDX7_rider 84 rfl rfl) rfl)
    (zr_s (zq_get (k := 1) C (zda zDX7_rider 85 rfl rfl) (show vwCl[7]? = some (RX7, TX7, 16) from rfl) zinX7 (by decide) zw424)
    (zr_n (zr_n (zr_s (zq_getN (k := 0) C (zda zDX7_rider 88 rfl rfl) (show vwCl[0]? = some (RX0, TX0, 12) from rfl) zinX0 (by decide) (fun U H h => zn7 h))
    (zr_n (zr_n (zr_s (zq_iload_n C (zda zDX7_rider 91 rfl rfl) rfl)
    (zr_s (zk_iald C (zda zDX7_rider 92 rfl rfl))
    (zr_s (zk_ret1 (ty := .int) C hbc hbs rfl rfl (Or.inl ⟨(zda zDX7_rider 93 rfl rfl), by decide⟩))
    (zr_s (zq_aload_n C (zda zDX7_rider 94 rfl rfl) rfl)
    (zr_s (zq_get (k := 2) C (zda zDX7_rider 95 rfl rfl) (show vwCl[7]? = some (RX7, TX7, 16) from rfl) zinX7 (by decide) zw425)
    zr_0))))))))))))))))
  (zrs_c (zr_n (zr_n (zr_s (zq_getN (k := 1) C (zda zDX7_rider 98 rfl rfl) (show vwCl[5]? = some (RX5, TX5, 6) from rfl) zinX5 (by decide) (fun U H h => zn19 h))
    (zr_n (zr_n (zr_s (zq_iload_n C (zda zDX7_rider 101 rfl rfl) rfl)
    (zr_s (zk_iald C (zda zDX7_rider 102 rfl rfl))
    (zr_s (zk_ret1 (ty := .int) C hbc hbs rfl rfl (Or.inl ⟨(zda zDX7_rider 103 rfl rfl), by decide⟩))
    (zr_s (zq_aload_n C (zda zDX7_rider 104 rfl rfl) rfl)
    (zr_s (zq_get (k := 2) C (zda zDX7_rider 105 rfl rfl) (show vwCl[7]? = some (RX7, TX7, 16) from rfl) zinX7 (by decide) zw425)
    (zr_n (zr_n (zr_s (zq_iload_n C (zda zDX7_rider 108 rfl rfl) rfl)
    (zr_s (zk_callVN (n := 1) C zXX_ok zTs_good hbc hbs (show zget zprog2 88 = some mX5_isIll from rfl) rfl rfl (show vwCl[5]? = some (RX5, TX5, 6) from rfl) zw670 (fun U H h => zn68 h) zw669 zs39 zw11 (by decide +kernel) (zda zDX7_rider 109 rfl rfl))
    (zr_n (zr_n zr_0))))))))))))))))
  (zrs_c (zr_s (zqr_if_eq C (zda zDX7_rider 112 rfl rfl) (by decide))
    (zr_n (zr_n (zr_s (zq_iconst (n := .ofNat 1) C (zda zDX7_rider 115 rfl rfl) (by decide))
    (zr_s (zk_goto C (zda zDX7_rider 116 rfl rfl) (by decide))
    (zr_n (zr_n (zr_s (zq_iconst (n := .ofNat 0) C (zda zDX7_rider 119 rfl rfl) (by decide))
    (zr_s (zk_ret1 (ty := .int) C hbc hbs rfl rfl (Or.inl ⟨(zda zDX7_rider 120 rfl rfl), by decide⟩))
    (zr_s (zq_aload_n C (zda zDX7_rider 121 rfl rfl) rfl)
    (zr_s (zq_get (k := 2) C (zda zDX7_rider 122 rfl rfl) (show vwCl[7]? = some (RX7, TX7, 16) from rfl) zinX7 (by decide) zw425)
    (zr_n (zr_n (zr_s (zq_iload_n C (zda zDX7_rider 125 rfl rfl) rfl)
    (zr_s (zk_callVN (n := 1) C zXX_ok zTs_good hbc hbs (show zget zprog2 86 = some mX5_hoursOf from rfl) rfl rfl (show vwCl[5]? = some (RX5, TX5, 6) from rfl) zw1153 (fun U H h => zn89 h) zw1152 zs94 zw11 (by decide +kernel) (zda zDX7_rider 126 rfl rfl))
    (zr_n zr_0))))))))))))))))
  (zrs_c (zr_n (zr_s (zk_ret1 (ty := .int) C hbc hbs rfl rfl (Or.inl ⟨(zda zDX7_rider 129 rfl rfl), by decide⟩))
    zr_0))
  zrs_0)))))))))
noncomputable def kxW : zCode := [[some (zo_splL 1 [(.negSucc 2147483647, .negSucc 0), (.ofNat 0, .ofNat 15), (.ofNat 16, .ofNat 2147483647)] (zo_loadI 1 1)), some (zo_ifR zd_lt (zr0 zrf_lt) 15 4), none, none, some (zo_loadI 5 1), some (zo_loadA 6 0), some (zo_get 9 7 9), none, none, some (zo_get 12 1 1), none, none, some (zo_icR zc_lt zrf_lt 23 15), none, none, none],
  [none, none, none, none, none, none, none, some (zo_loadA 24 0), some (zo_get 27 7 9), none, none, some (zo_loadI 28 1), some (zo_call 31 34 2 0 0 1 6 (zrecv 1)), none, none, some (zo_ret1 1 6 1)]]
set_option maxRecDepth 100000 in
theorem okxW {l : Launch} {D : va_G} {tys : List (ClassId × FieldType)} {o : zO} {z : Nat} (E : zEnv tys) (p : Program) (e : Env) (R : Room) (s : State) (m : MethodId) (args : Array Value) (below : List Frame) (meth : Method) (c0 : Code) (Q : State → Prop) (ws : va_W) (hbc : R.cells = 1) (hbs : R.slots = 6) (C : zCx p R s m args meth c0 D vwCl tys z (zXX o z) zTs yX7_row.cls cX7_row 2 yX7_row.name) : ∀ pc sem, zrget kxW pc = some (some sem) → zOp p l e R s m args below meth c0 Q D vwCl tys o z (zXX o z) zTs zprog2 ws 2 cX7_row (some .long) pc sem := by
  intro pc sem h
  replace C : zCx p R s m args meth c0 D vwCl tys z (zXX o z) zTs RX7 cX7_row 2 "row" := C
  refine zRows_get (P := fun pc sem => zOp p l e R s m args below meth c0 Q D vwCl tys o z (zXX o z) zTs zprog2 ws 2 cX7_row (some .long) pc sem) (c := kxW) ?_ h
  unfold kxW
  exact (zrs_c (zr_s (zk_splL (zq_iload_n C (zda zDX7_row 0 rfl rfl) rfl))
    (zr_s (zqr_if_lt C (zda zDX7_row 1 rfl rfl) (by decide))
    (zr_n (zr_n (zr_s (zq_iload_n C (zda zDX7_row 4 rfl rfl) rfl)
    (zr_s (zq_aload_n C (zda zDX7_row 5 rfl rfl) rfl)
    (zr_s (zq_get (k := 9) C (zda zDX7_row 6 rfl rfl) (show vwCl[7]? = some (RX7, TX7, 16) from rfl) zinX7 (by decide) zw432)
    (zr_n (zr_n (zr_s (zq_getN (k := 1) C (zda zDX7_row 9 rfl rfl) (show vwCl[1]? = some (RX1, TX1, 2) from rfl) zinX1 (by decide) (fun U H h => zn36 h))
    (zr_n (zr_n (zr_s (zqr_lt C (zda zDX7_row 12 rfl rfl) (by decide))
    (zr_n (zr_n (zr_n zr_0))))))))))))))))
  (zrs_c (zr_n (zr_n (zr_n (zr_n (zr_n (zr_n (zr_n (zr_s (zq_aload_n C (zda zDX7_row 23 rfl rfl) rfl)
    (zr_s (zq_get (k := 9) C (zda zDX7_row 24 rfl rfl) (show vwCl[7]? = some (RX7, TX7, 16) from rfl) zinX7 (by decide) zw432)
    (zr_n (zr_n (zr_s (zq_iload_n C (zda zDX7_row 27 rfl rfl) rfl)
    (zr_s (zk_callVN (n := 1) C zXX_ok zTs_good hbc hbs (show zget zprog2 34 = some mX1_at from rfl) rfl rfl (show vwCl[1]? = some (RX1, TX1, 2) from rfl) zw1164 (fun U H h => zn90 h) zw1163 zs95 zw15 (by decide +kernel) (zda zDX7_row 28 rfl rfl))
    (zr_n (zr_n (zr_s (zk_ret1 C hbc hbs rfl rfl (Or.inr ⟨(zda zDX7_row 31 rfl rfl), rfl⟩))
    zr_0))))))))))))))))
  zrs_0))
noncomputable def klR (ds : List zKw) : zCode := [[some (zo_loadA 1 3), some (zo_push 2 (.inl ((.ofNat 0, .ofNat 0), none))), some (zo_loadA 3 0), some (zo_loadI 4 1), some (zo_loadI 5 2), some (zo_tcall ds 13 8 2 3 kxR 20 50 10000), none, none, some (zo_i2l 9), some (zo_ast 10 1), some (zo_goto 17), none, none, some (zo_stA 15 4), none, some (zo_push 16 (.inl ((.ofNat 1, .ofNat 1), none)))],
  [some (zo_ret1 1 6 0), some (zo_push 18 (.inl ((.ofNat 0, .ofNat 0), none))), some (zo_ret1 1 6 0)]]
set_option maxRecDepth 100000 in
theorem oklR {l : Launch} {D : va_G} {tys : List (ClassId × FieldType)} {o : zO} {z : Nat} (hst : l.stackTraces = false) (E : zEnv tys) {ds : List zKw} (hov : zOwOk l D vwCl tys o z (zXX o z) zTs zprog2 (zovW ds)) (p : Program) (e : Env) (R : Room) (s : State) (m : MethodId) (args : Array Value) (below : List Frame) (meth : Method) (c0 : Code) (Q : State → Prop) (ws : va_W) (hbc : R.cells = 1) (hbs : R.slots = 6) (hfr : R.frames = 100) (hlo : R.locals = 20000) (C : zCx p R s m args meth c0 D vwCl tys z (zXX o z) zTs RL cL_rider 5 yL_rider.name) (hTh : zTh z s s.heap) (htab : c0.exceptionTable.toList = tableOf [(0, 10, 13, 13)]) : ∀ pc sem, zrget (klR ds) pc = some (some sem) → zOp p l e R s m args below meth c0 Q D vwCl tys o z (zXX o z) zTs zprog2 ws 5 cL_rider (some .int) pc sem := by
  intro pc sem h
  refine zRows_get (P := fun pc sem => zOp p l e R s m args below meth c0 Q D vwCl tys o z (zXX o z) zTs zprog2 ws 5 cL_rider (some .int) pc sem) (c := klR ds) ?_ h
  unfold klR
  exact (zrs_c (zr_s (zq_aload_n C dL_rider_0 rfl)
    (zr_s (zq_iconst (n := .ofNat 0) C dL_rider_1 (by decide))
    (zr_s (zq_aload_n C dL_rider_2 rfl)
    (zr_s (zq_iload_n C dL_rider_3 rfl)
    (zr_s (zq_iload_n C dL_rider_4 rfl)
    (zr_s (zk_tcall C hst E hov hTh hbc hbs (y := yX7_rider) (ccx := cX7_rider) (nX := 3) (retx := some .int) (by decide) rfl (F := 50) (L := 10000) (by decide) (by decide) (by rw [hfr]; decide) (by rw [hlo]; decide) (kx := kxR) (px := 20) (show zrget kxR 20 = some _ from rfl) (okxR E) dX7_rider_20 (zda zDX7_rider 23 rfl rfl) dX7_rider_24 dX7_rider_27 (idx := 7) (n := 2) zx_rider_code zx_rider_l zx_rider_i zx_rider_s zx_R7 (by decide +kernel) dL_rider_5 (x := ⟨0, 10, 13, 13⟩) htab (by decide) rfl rfl)
    (zr_n (zr_n (zr_s (zk_i2l C dL_rider_8)
    (zr_s (zk_last C dL_rider_9)
    (zr_s (zk_goto C dL_rider_10 (by decide))
    (zr_n (zr_n (zr_s (zq_astore C dL_rider_13 (by decide))
    (zr_n (zr_s (zq_iconst (n := .ofNat 1) C dL_rider_15 (by decide))
    zr_0))))))))))))))))
  (zrs_c (zr_s (zk_ret1 (ty := .int) C hbc hbs rfl rfl (Or.inl ⟨dL_rider_16, by decide⟩))
    (zr_s (zq_iconst (n := .ofNat 0) C dL_rider_17 (by decide))
    (zr_s (zk_ret1 (ty := .int) C hbc hbs rfl rfl (Or.inl ⟨dL_rider_18, by decide⟩))
    zr_0)))
  zrs_0))
noncomputable def klW (ds : List zKw) : zCode := [[some (zo_loadA 1 2), some (zo_push 2 (.inl ((.ofNat 0, .ofNat 0), none))), some (zo_loadA 3 0), some (zo_loadI 4 1), some (zo_tcall ds 11 7 1 2 kxW 15 50 10000), none, none, some (zo_ast 8 1), some (zo_goto 14), none, none, some (zo_stA 12 3), some (zo_push 13 (.inl ((.ofNat 1, .ofNat 1), none))), some (zo_ret1 1 6 0), some (zo_push 15 (.inl ((.ofNat 0, .ofNat 0), none))), some (zo_ret1 1 6 0)]]
set_option maxRecDepth 100000 in
theorem oklW {l : Launch} {D : va_G} {tys : List (ClassId × FieldType)} {o : zO} {z : Nat} (hst : l.stackTraces = false) (E : zEnv tys) {ds : List zKw} (hov : zOwOk l D vwCl tys o z (zXX o z) zTs zprog2 (zovW ds)) (p : Program) (e : Env) (R : Room) (s : State) (m : MethodId) (args : Array Value) (below : List Frame) (meth : Method) (c0 : Code) (Q : State → Prop) (ws : va_W) (hbc : R.cells = 1) (hbs : R.slots = 6) (hfr : R.frames = 100) (hlo : R.locals = 20000) (C : zCx p R s m args meth c0 D vwCl tys z (zXX o z) zTs RL cL_row 4 yL_row.name) (hTh : zTh z s s.heap) (htab : c0.exceptionTable.toList = tableOf [(0, 8, 11, 13)]) : ∀ pc sem, zrget (klW ds) pc = some (some sem) → zOp p l e R s m args below meth c0 Q D vwCl tys o z (zXX o z) zTs zprog2 ws 4 cL_row (some .int) pc sem := by
  intro pc sem h
  refine zRows_get (P := fun pc sem => zOp p l e R s m args below meth c0 Q D vwCl tys o z (zXX o z) zTs zprog2 ws 4 cL_row (some .int) pc sem) (c := klW ds) ?_ h
  unfold klW
  exact (zrs_c (zr_s (zq_aload_n C dL_row_0 rfl)
    (zr_s (zq_iconst (n := .ofNat 0) C dL_row_1 (by decide))
    (zr_s (zq_aload_n C dL_row_2 rfl)
    (zr_s (zq_iload_n C dL_row_3 rfl)
    (zr_s (zk_tcall C hst E hov hTh hbc hbs (y := yX7_row) (ccx := cX7_row) (nX := 2) (retx := some .long) (by decide) rfl (F := 50) (L := 10000) (by decide) (by decide) (by rw [hfr]; decide) (by rw [hlo]; decide) (kx := kxW) (px := 15) (show zrget kxW 15 = some _ from rfl) (okxW E) dX7_row_15 (zda zDX7_row 18 rfl rfl) dX7_row_19 dX7_row_22 (idx := 15) (n := 1) zx_row_code zx_row_l zx_row_i zx_row_s zx_R7 (by decide +kernel) dL_row_4 (x := ⟨0, 8, 11, 13⟩) htab (by decide) rfl rfl)
    (zr_n (zr_n (zr_s (zk_last C dL_row_7)
    (zr_s (zk_goto C dL_row_8 (by decide))
    (zr_n (zr_n (zr_s (zq_astore_n C dL_row_11 rfl (by decide))
    (zr_s (zq_iconst (n := .ofNat 1) C dL_row_12 (by decide))
    (zr_s (zk_ret1 (ty := .int) C hbc hbs rfl rfl (Or.inl ⟨dL_row_13, by decide⟩))
    (zr_s (zq_iconst (n := .ofNat 0) C dL_row_14 (by decide))
    (zr_s (zk_ret1 (ty := .int) C hbc hbs rfl rfl (Or.inl ⟨dL_row_15, by decide⟩))
    zr_0))))))))))))))))
  zrs_0)
