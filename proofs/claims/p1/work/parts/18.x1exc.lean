/-! EXCEPTIONS: rider() and row() of a fresh object throw, the law's rider() and row() catch it -/
abbrev zE : String := "java/util/NoSuchElementException"
def zEn : List String := ["java/lang/RuntimeException", "java/lang/Exception"]
def zThW : List Cond := [.castable zE zE, .declares ⟨"java/lang/RuntimeException", "<init>", "()V"⟩, .declares ⟨"java/lang/Exception", "<init>", "()V"⟩, .declares ⟨"java/lang/Throwable", "<init>", "()V"⟩]
def zTh (z : Nat) (U : State) (H : Heap) : Prop := (∀ w ∈ zThW, va_Nw w U) ∧ vx_Zq Bundle.tN "UNASSIGNED_STACK" Bundle.steD (zA z) U H ∧ vx_Zq Bundle.tN "SUPPRESSED_SENTINEL" Bundle.listD (zA z) U H
theorem zThW_warm {w : Cond} (hw : w ∈ zThW) {s U : State} (hW : s.WarmedH U.vm) (h : va_Nw w s) : va_Nw w U := by
  simp only [zThW, List.mem_cons, List.not_mem_nil, or_false] at hw
  rcases hw with rfl | rfl | rfl | rfl
  · exact va_Nw.warmC hW h
  · exact va_tabs rfl (rfl : (s.setVm U.vm).vm = U.vm) (by rw [Cond.declares_setVm hW.alike]; exact h)
  · exact va_tabs rfl (rfl : (s.setVm U.vm).vm = U.vm) (by rw [Cond.declares_setVm hW.alike]; exact h)
  · exact va_tabs rfl (rfl : (s.setVm U.vm).vm = U.vm) (by rw [Cond.declares_setVm hW.alike]; exact h)
theorem zTh_warm {z : Nat} {s U : State} {H : Heap} (hW : s.WarmedH U.vm) (h : zTh z s H) : zTh z U H := ⟨fun w hw => zThW_warm hw hW (h.1 w hw), h.2.1.moved hW.alike, h.2.2.moved hW.alike⟩
theorem zTh_kept {z : Nat} {U : State} {H H1 : Heap} (hk : ∀ a : Nat, a < H.size → ¬ zA z a → H1[a]? = H[a]?) (h : zTh z U H) : zTh z U H1 := ⟨h.1, h.2.1.kept hk, h.2.2.kept hk⟩
/-- a start with a world, and what a throw needs -/
def zStT (D : va_G) (tys : List (ClassId × FieldType)) (o : zO) (z : Nat) (h : zH) (ws : va_W) (U : State) : Prop := zSt D vwCl tys o z (zXX o z) h ws U ∧ zTh z U U.heap
theorem zblindT {D : va_G} {tys : List (ClassId × FieldType)} {o : zO} {z : Nat} {h : zH} {ws : va_W} {vs : List Value} : FrameBlind (va_Pc vs (zStT D tys o z h ws)) := by
  intro a U g mk q
  obtain ⟨q0, ⟨q1, q2, q3, q4, q5, q6⟩, q7⟩ := q
  exact ⟨q0, ⟨q1, q2, q3, va_K.moved (u := U) (U := U.calling g mk a) (Vm.Alike.refl U.vm) q4, zXX_ok.1 U _ _ rfl q5, q6⟩, zTh_warm (s := U) (U := U.calling g mk a) (State.WarmedH.refl U) q7⟩
/-- what stands where it was thrown -/
def zXC (D : va_G) (tys : List (ClassId × FieldType)) (o : zO) (z : Nat) (ws : va_W) (k : zH → Bool) : String → State → State → Prop := vx_X (S := zH × va_W) (fun u => k u.1 = true ∧ zsub (zad ws) (zad u.2) ∧ zwr vwCl tys o u.1 u.2 ∧ va_D (zA z) u.2) (fun E u t => E = zE ∧ va_P D vwCl u.2 t.heap) (zA z)
noncomputable def zcutX (k : zH → Bool) (c : zK) : Bool := match c.2.1 with
  | [] => Nat.beq c.2.2.2.1 0 && (Nat.beq c.2.2.2.2 0 && k c.2.2.1)
  | _ => false
noncomputable def zthrow (kx : zCode) (px F L : Nat) (as : List zAV) (h : zH) (k : zH → Bool) : Bool := zrunv zprog zov0 1000 F L (zrset kx px (some (zo_cut (zcutX k)))) (fun _ _ => false) 0 (zargs 0 as, [], h, 0, 0)
theorem zx_a : (Jvm.Cond.classLink "RockingHorse" (113 : Nat) "java/util/NoSuchElementException") ∈ zTs := zTs_at 1241 (by decide +kernel) (by decide +kernel)
theorem zx_b : (Jvm.Cond.initialized "java/util/NoSuchElementException") ∈ zTs := zTs_at 172 (by decide +kernel) (by decide +kernel)
theorem zx_c : (Jvm.Cond.classLink "RockingHorseLaw" (13 : Nat) "java/util/NoSuchElementException") ∈ zTs := zTs_at 1236 (by decide +kernel) (by decide +kernel)
theorem zx_rider_code : (Jvm.Cond.code ({ cls := "RockingHorse", name := "rider", desc := "(II)I" } : Jvm.MethodName) prog_1_method_6_code (3 : Nat) (Option.some Jvm.ClassFile.FieldType.int)) ∈ zTs := zTs_at 1240 (by decide +kernel) (by decide +kernel)
theorem zx_rider_l : (Jvm.Cond.methodLink "RockingHorseLaw" (7 : Nat) ({ cls := "RockingHorse", name := "rider", desc := "(II)I" } : Jvm.MethodName)) ∈ zTs := zTs_at 1237 (by decide +kernel) (by decide +kernel)
theorem zx_rider_i : (Jvm.Cond.instanceMethod ({ cls := "RockingHorse", name := "rider", desc := "(II)I" } : Jvm.MethodName)) ∈ zTs := zTs_at 1238 (by decide +kernel) (by decide +kernel)
theorem zx_rider_s : (Jvm.Cond.selects "RockingHorse" ({ cls := "RockingHorse", name := "rider", desc := "(II)I" } : Jvm.MethodName) ({ cls := "RockingHorse", name := "rider", desc := "(II)I" } : Jvm.MethodName)) ∈ zTs := zTs_at 1239 (by decide +kernel) (by decide +kernel)
theorem zx_Lrider_code : (Jvm.Cond.codeWith ({ cls := "RockingHorseLaw", name := "rider", desc := "(LRockingHorse;II[J)I" } : Jvm.MethodName) method_3_code (5 : Nat) (Option.some Jvm.ClassFile.FieldType.int) [((0 : Nat), (10 : Nat), (13 : Nat), (13 : Nat))]) ∈ zTs := zTs_at 1235 (by decide +kernel) (by decide +kernel)
theorem zx_Lrider_l : (Jvm.Cond.methodLink "RockingHorseLaw" (42 : Nat) ({ cls := "RockingHorseLaw", name := "rider", desc := "(LRockingHorse;II[J)I" } : Jvm.MethodName)) ∈ zTs := zTs_at 1233 (by decide +kernel) (by decide +kernel)
theorem zx_Lrider_s : (Jvm.Cond.static ({ cls := "RockingHorseLaw", name := "rider", desc := "(LRockingHorse;II[J)I" } : Jvm.MethodName)) ∈ zTs := zTs_at 1234 (by decide +kernel) (by decide +kernel)
theorem zx_row_code : (Jvm.Cond.code ({ cls := "RockingHorse", name := "row", desc := "(I)J" } : Jvm.MethodName) prog_1_method_51_code (2 : Nat) (Option.some Jvm.ClassFile.FieldType.long)) ∈ zTs := zTs_at 1312 (by decide +kernel) (by decide +kernel)
theorem zx_row_l : (Jvm.Cond.methodLink "RockingHorseLaw" (15 : Nat) ({ cls := "RockingHorse", name := "row", desc := "(I)J" } : Jvm.MethodName)) ∈ zTs := zTs_at 1309 (by decide +kernel) (by decide +kernel)
theorem zx_row_i : (Jvm.Cond.instanceMethod ({ cls := "RockingHorse", name := "row", desc := "(I)J" } : Jvm.MethodName)) ∈ zTs := zTs_at 1310 (by decide +kernel) (by decide +kernel)
theorem zx_row_s : (Jvm.Cond.selects "RockingHorse" ({ cls := "RockingHorse", name := "row", desc := "(I)J" } : Jvm.MethodName) ({ cls := "RockingHorse", name := "row", desc := "(I)J" } : Jvm.MethodName)) ∈ zTs := zTs_at 1311 (by decide +kernel) (by decide +kernel)
theorem zx_Lrow_code : (Jvm.Cond.codeWith ({ cls := "RockingHorseLaw", name := "row", desc := "(LRockingHorse;I[J)I" } : Jvm.MethodName) method_4_code (4 : Nat) (Option.some Jvm.ClassFile.FieldType.int) [((0 : Nat), (8 : Nat), (11 : Nat), (13 : Nat))]) ∈ zTs := zTs_at 1308 (by decide +kernel) (by decide +kernel)
theorem zx_Lrow_l : (Jvm.Cond.methodLink "RockingHorseLaw" (229 : Nat) ({ cls := "RockingHorseLaw", name := "row", desc := "(LRockingHorse;I[J)I" } : Jvm.MethodName)) ∈ zTs := zTs_at 1306 (by decide +kernel) (by decide +kernel)
theorem zx_Lrow_s : (Jvm.Cond.static ({ cls := "RockingHorseLaw", name := "row", desc := "(LRockingHorse;I[J)I" } : Jvm.MethodName)) ∈ zTs := zTs_at 1307 (by decide +kernel) (by decide +kernel)
theorem zx_RL : (Jvm.Cond.initialized "RockingHorseLaw") ∈ zTs := zTs_at 152 (by decide +kernel) (by decide +kernel)
theorem zx_R7 : (Jvm.Cond.initialized "RockingHorse") ∈ zTs := zTs_at 153 (by decide +kernel) (by decide +kernel)

theorem zx0 : ∀ w ∈ (vx_at0 RX7 115 zE zEn).filter goodWord, w ∈ lw_tbl := by decide +kernel
theorem zx1 : ∀ w ∈ (vx_at0 RX7 115 zE zEn).filter (fun w => !goodWord w), w ∈ zThW := by decide +kernel
theorem zx2 : ∀ w ∈ Cond.classLink RX7 113 zE :: Cond.initialized zE :: vx_at0 RX7 115 zE zEn, vx_ot w = true := by decide +kernel
theorem zx3 : ∀ n ∈ zEn, Bundle.fit n = true := by decide +kernel
/-- a method that throws -/
theorem zMetX {l : Launch} (hst : l.stackTraces = false) {D : va_G} {tys : List (ClassId × FieldType)} {o : zO} {z : Nat} (E : zEnv tys) {y : MethodName} {cc : ByteArray} {nL : Nat} {ret : Option FieldType} (hy : plainName y.cls = true) (hcls : y.cls = RX7) {F L : Nat} (kF : 8 ≤ F) (kL : 200 ≤ L) {kx : zCode} {px : Nat} {yx : Option zSem} (hpx : zrget kx px = some yx)
    (hcode : ∀ (p : Program) (e : Env) (R : Room) (s : State) (m : MethodId) (args : Array Value) (below : List Frame) (meth : Method) (c0 : Code) (Q : State → Prop) (ws : va_W), R.cells = 1 → R.slots = 6 → zCx p R s m args meth c0 D vwCl tys z (zXX o z) zTs y.cls cc nL y.name → ∀ pc sem, zrget kx pc = some (some sem) → zOp p l e R s m args below meth c0 Q D vwCl tys o z (zXX o z) zTs zprog ws nL cc ret pc sem)
    (d0 : decode cc px = .ok (.new 113, 3)) (d3 : decode cc (px + 3) = .ok (.dup, 1)) (d4 : decode cc (px + 4) = .ok (.invokespecial 115, 3)) (d7 : decode cc (px + 7) = .ok (.athrow, 1))
    {as : List zAV} {h : zH} {k : zH → Bool} (k2 : zcats as ≤ nL) (hrun : zthrow kx px F L as h k = true) {ws : va_W} {vs : List Value} (hvs : zr2 (zg o (zad ws)) as vs) (Qc : Array Value → State → Outcome → State → Prop) : vx_Met l y (.code y cc nL ret :: zTs) { frames := F, cells := 1, slots := 6, locals := L } (va_Pc vs (zStT D tys o z h ws)) Qc (zXC D tys o z ws k) 1 6 (zA z) := by
  refine vx_ofW (cc := cc) (maxL := nL) (ret := ret) hy rfl ?_
  intro p' e' s' m' args' below' meth' c' s₁ B hml htab hv
  obtain ⟨rfl, ⟨v1, v2, v3, v4, v5, v6⟩, v7⟩ := hv
  have hts := atoms_spec B.pre
  have hts' : ∀ w ∈ zTs, w.before vs.toArray s' = true := fun w hw => hts w (List.mem_cons_of_mem _ hw)
  have CX' : zCx p' { frames := F, cells := 1, slots := 6, locals := L } s' m' vs.toArray meth' c' D vwCl tys z (zXX o z) zTs y.cls cc nL y.name := ⟨B.exec, B.bytes, hml, findClass_of_methodNamed B.named, hts', v4, (name_of_methodNamed B.named B.method).1, v5, v6, by show 1 ≤ F; omega, kL⟩
  have hl := lv_entry vs (n := nL) (by rw [zsl_len hvs]; exact k2)
  rw [lg_entry_eq]
  have hat : ∀ w ∈ vx_at0 RX7 115 zE zEn, w.before vs.toArray s' = true := vx_hat (B := zThW) (fun w hw => hts' w (List.mem_filter.mpr ⟨zx0 w hw, (List.mem_filter.mp hw).2⟩)) zx1 (fun w hw => by
    have hn := v7.1 w hw
    simp only [zThW, List.mem_cons, List.not_mem_nil, or_false] at hw
    rcases hw with rfl | rfl | rfl | rfl <;> exact va_Nw.use (A := vs.toArray) rfl hn)
  unfold zthrow at hrun
  refine zrunv_ok (z := z) (X := zXX o z) zXX_ok (zprog_ok E) zov0_ok 1000 p' e' { frames := F, cells := 1, slots := 6, locals := L } s' m' vs.toArray below' meth' c' (vx_MQ below' Qc (zXC D tys o z ws k) vs.toArray s' 1 6 (zA z)) ws nL cc ret _ ?_ F L (Nat.le_refl _) (Nat.le_refl _) (fun _ _ => false) (fun pc ls v r h H locs ws cells slots _ _ _ _ _ _ _ _ _ q => by cases q) 0 _ hrun _ [] s'.heap [] ws ⟨⟨_, hl, zargs_ok hvs⟩, trivial, v1, v2, v3, va_S.rf, fun _ _ q => q⟩
  refine zpt (P := fun pc sem => zOp p' l e' { frames := F, cells := 1, slots := 6, locals := L } s' m' vs.toArray below' meth' c' (vx_MQ below' Qc (zXC D tys o z ws k) vs.toArray s' 1 6 (zA z)) D vwCl tys o z (zXX o z) zTs zprog ws nL cc ret pc sem) (hcode p' e' _ s' m' _ below' meth' c' _ ws rfl rfl CX') hpx ?_
  intro call rt go c _ _ _ hs ls vst H locs ws' S
  have hs : zcutX k c = true := hs
  unfold zcutX at hs
  split at hs
  · rename_i hst0
    simp only [Bool.and_eq_true] at hs
    obtain ⟨g1, g2, g3⟩ := hs
    have g1 := Nat.eq_of_beq_eq_true g1
    have g2 := Nat.eq_of_beq_eq_true g2
    obtain ⟨⟨lv, s1, s2⟩, s3, s4, s5, s6, s7, s8⟩ := S
    rw [hst0] at s3
    have e := zr2_nil s3
    subst e
    rw [g1, g2]
    refine vx_throw0 (A := zA z) (cc := cc) (own := RX7) (cls := zE) (names := zEn) (ik := 113) (ic := 115) B.exec B.bytes hst (by rw [← hcls]; exact findClass_of_methodNamed B.named) (by decide +kernel) zx3 (hts' _ zx_a) (hts' _ zx_b) hat zx2 v7.2.1 v7.2.2 s7 (s1.1.trans hml.symm) d0 d3 d4 d7 (fun x hx => (htab x hx).elim) (by show 2 + 3 < F; omega) (by show 0 + (13 * (2 + 1) + 42) ≤ L; omega) (Nat.le_refl 1) (Nat.le_refl 6) B.notSynchronized ?_ s7.2.2 (Nat.le_refl 1) (Nat.le_refl 6)
    intro t hal hsz hkeep
    exact ⟨(c.2.2.1, ws'), ⟨g3, s8, s4, s6⟩, ⟨rfl, s5.kept (fun k q hk => hkeep q.1 (s5 k q hk).lt)⟩, Nat.le_trans s7.1 hsz, fun q h1 h2 => (hkeep q (Nat.lt_of_lt_of_le h1 s7.1)).trans (s7.2.1 q h1 h2)⟩
  · cases hs
/-- a call of a method that throws, under a row of the method's own table -/
noncomputable def zo_tcall (hpc n nL : Nat) (kx : zCode) (px F L : Nat) : zSem := fun _ _ go c => match c with
  | (al, st, h, cs, sl) => match zpop (n + 1) [] st with
    | some (as, rest) => if Nat.ble (zcats rest) 8 && (Nat.beq cs 0 && (Nat.beq sl 0 && (zrecv 7 as h && Nat.ble (zcats as) nL))) then zthrow kx px F L as h (fun h' => go hpc (al, [.inr (.inr (.inr (.inr 100)))], h', 1, 6)) else false
    | none => false
theorem zk_tcall {p : Program} {l : Launch} {e : Env} {R : Room} {s : State} {m : MethodId} {args : Array Value} {below : List Frame} {meth : Method} {c0 : Code} {Q : State → Prop} {D : va_G} {tys : List (ClassId × FieldType)} {o : zO} {z : Nat} {ws0 : va_W} {nL : Nat} {cc : ByteArray} {ret : Option FieldType} {nm : String} (C : zCx p R s m args meth c0 D vwCl tys z (zXX o z) zTs RL cc nL nm) (hst : l.stackTraces = false) (E : zEnv tys) (hTh : zTh z s s.heap) (hbc : R.cells = 1) (hbs : R.slots = 6)
    {y : MethodName} {ccx : ByteArray} {nX : Nat} {retx : Option FieldType} (hy : plainName y.cls = true) (hcls : y.cls = RX7) {F L : Nat} (kF : 8 ≤ F) (kL : 200 ≤ L) (hF : F + 1 ≤ R.frames) (hL : 8 + (nX + 11) + L ≤ R.locals) {kx : zCode} {px : Nat} {yx : Option zSem} (hpx : zrget kx px = some yx)
    (hcode : ∀ (p : Program) (e : Env) (R : Room) (s : State) (m : MethodId) (args : Array Value) (below : List Frame) (meth : Method) (c0 : Code) (Q : State → Prop) (ws : va_W), R.cells = 1 → R.slots = 6 → zCx p R s m args meth c0 D vwCl tys z (zXX o z) zTs y.cls ccx nX y.name → ∀ pc sem, zrget kx pc = some (some sem) → zOp p l e R s m args below meth c0 Q D vwCl tys o z (zXX o z) zTs zprog ws nX ccx retx pc sem)
    (d0 : decode ccx px = .ok (.new 113, 3)) (d3 : decode ccx (px + 3) = .ok (.dup, 1)) (d4 : decode ccx (px + 4) = .ok (.invokespecial 115, 3)) (d7 : decode ccx (px + 7) = .ok (.athrow, 1))
    {idx n pc hpc : Nat} (wcode : Cond.code y ccx nX retx ∈ zTs) (wl : Cond.methodLink RL idx y ∈ zTs) (win : Cond.instanceMethod y ∈ zTs) (wsel : Cond.selects RX7 y y ∈ zTs) (wini : Cond.initialized RX7 ∈ zTs) (hpar : zPar y n) (hd : decode cc pc = .ok (.invokevirtual idx, 3)) {x : ExceptionTableEntry} (htab : c0.exceptionTable.toList = [x]) (hx : covers x pc = true) (hxt : x.catchType = 13) (hxp : x.handlerPc = hpc) : zOp p l e R s m args below meth c0 Q D vwCl tys o z (zXX o z) zTs zprog ws0 nL cc ret pc (zo_tcall hpc n nX kx px F L) := by
  intro call rt go c _ _ hgo hs ls vst H locs ws S
  unfold zo_tcall at hs
  split at hs
  rename_i al st h cs sl
  split at hs
  · rename_i as rest hp
    split at hs
    · rename_i hcnt
      simp only [Bool.and_eq_true] at hcnt
      obtain ⟨c1, c2, c3, c4, c5⟩ := hcnt
      have c1 := Nat.le_of_ble_eq_true c1
      have c2 := Nat.eq_of_beq_eq_true c2
      have c3 := Nat.eq_of_beq_eq_true c3
      have c5 := Nat.le_of_ble_eq_true c5
      subst c2
      subst c3
      obtain ⟨xs, e1, e2, e3⟩ := zpop_ok hp
      rw [List.append_nil] at e1
      subst e1
      subst e2
      obtain ⟨vx, vr, rfl, h1, h2⟩ := zr2_split S.2.1
      have h1 := zr2_rev h1
      rw [List.reverse_reverse] at h1
      have hlen : vx.reverse.length = n + 1 := by rw [← zr2_len h1]; exact e3
      obtain ⟨b, As', hbA, hcell⟩ := zrecv_ok (U := s) C.2.2.2.2.2.1 (show vwCl[7]? = some (RX7, TX7, 16) from rfl) as h ws _ H c4 S.2.2.1 S.2.2.2.1 h1
      have hM := zMetX hst E hy hcls kF kL hpx hcode d0 d3 d4 d7 c5 hs h1 (fun _ _ _ _ => False)
      rw [hbA] at hM hlen
      have hst9 : vx = As'.reverse ++ [.ref b] := by
        have := congrArg List.reverse hbA
        rw [List.reverse_reverse] at this
        rw [this]
        simp
      have hroom : 2 * (F0 m pc ls (vx ++ vr)).monitorRoom + (vr.map fun v => v.category).sum ≤ 8 := lv_room (by rw [zcats_ok h2]; exact c1)
      rw [hst9] at hroom ⊢
      rw [List.append_assoc] at hroom ⊢
      have hr := vx_runV (As := As') (b := b) (H := H) (locs := locs) (cells := 0) (slots := 0) (rest := vr) (g := F0 m pc ls (As'.reverse ++ ([.ref b] ++ vr))) (mc := 1) (ms := 6) (n := n) (C := RX7) (index := idx) (below := below) (e := e) (meth := meth) ⟨C.1, C.2.1, C.2.2.1, C.2.2.2.1, C.2.2.2.2.1⟩ hM ⟨callB_of n C.2.2.2.2.1 (zgood zTs_good wcode) rfl rfl rfl (by rw [hcls]; exact C.2.2.2.2.1 _ wini) (C.2.2.2.2.1 _ wl) hpar ⟨hF, hL⟩, C.2.2.2.2.1 _ win, C.2.2.2.2.1 _ wsel⟩ ⟨zblindT, hcell, fun U hU hW => ⟨rfl, ⟨S.2.2.1, by rw [hU]; exact S.2.2.2.1, S.2.2.2.2.1, va_K.moved hW.alike C.2.2.2.2.2.1, by rw [hU]; exact zXX_ok.2.1 s U H hW (zXX_ok.2.2 s s.heap H C.2.2.2.2.2.2.2.2.1 (fun q hq => S.2.2.2.2.2.1.2.1 q (Nat.lt_of_lt_of_le hq C.2.2.2.2.2.2.2.2.1) (Nat.not_le.mpr hq)) C.2.2.2.2.2.2.2.1), by rw [hU]; exact Nat.le_trans C.2.2.2.2.2.2.2.2.1 S.2.2.2.2.2.1.1⟩, by rw [hU]; exact zTh_warm hW (zTh_kept S.2.2.2.2.2.1.2.1 hTh)⟩⟩ rfl (by simpa using hlen) S.1.choose_spec.1.1 rfl hroom hd ⟨by rw [hbc]; exact Nat.le_refl 1, by rw [hbs]; exact Nat.le_refl 6⟩
      intro T hT Xst
      rcases hr T hT Xst with ⟨v, st₀, t, T', L', h0, X', hL', e1, e2, hq, st⟩ | ⟨q, st₀, t, T', L', E9, ce, h0, X', hL', e1, e2, ⟨u, ⟨u1, u2, u3, u4⟩, ⟨u5, u6⟩, hF9⟩, hce, hcv, hcl, st⟩
      · exact hq.elim
      · obtain ⟨k1, k2, k3⟩ := vx_keep h0 e1 S.2.2.2.2.2.1 (A1 := zA z) (fun q _ h => h) (fun q h => h) hL' hF9
        rw [u5] at hcl
        have hcast : (Cond.castable zE zE).before args s = true := va_Nw.use (A := args) rfl (hTh.1 _ List.mem_cons_self)
        have hW : vx_W p l e R s m args below meth c0 T'.heap (locs ++ L') (0 + 1) (0 + 6) Q (F0 m pc ls vr) q := by
          refine vx_catch C.2.2.2.1 [] x [] htab (fun z hz => absurd hz List.not_mem_nil) hx (by rw [hxt]; decide) (by rw [hxt]; exact C.2.2.2.2.1 _ zx_c) hcast (by rw [e1]; exact hce) hcv hcl ?_
          rw [hxp]
          exact hgo hpc _ u1 ls [.ref q] T'.heap (locs ++ L') u.2 (zSat_h S ⟨⟨fun h => absurd h (by decide), Or.inr ⟨q, rfl⟩⟩, trivial⟩ u2 u3 (by rw [e1]; exact u6) u4 k3)
        obtain ⟨t2, a1, b1⟩ := hW T' rfl X'
        exact ⟨t2, st.trans a1, b1⟩
    · cases hs
  · cases hs
/-- a method with a table of its own, walked -/
noncomputable def zlrun (kl : zCode) (as : List zAV) (h : zH) (k : zRt) : Bool := zrunv zprog zov0 1000 100 20000 kl k 0 (zargs 0 as, [], h, 0, 0)
theorem zMetL {l : Launch} {D : va_G} {tys : List (ClassId × FieldType)} {o : zO} {z : Nat} (E : zEnv tys) {y : MethodName} {cc : ByteArray} {nL : Nat} {ret : Option FieldType} {hh : List (Nat × Nat × Nat × Nat)} (hy : plainName y.cls = true) (hcls : y.cls = RL) {kl : zCode}
    (hcode : ∀ (p : Program) (e : Env) (R : Room) (s : State) (m : MethodId) (args : Array Value) (below : List Frame) (meth : Method) (c0 : Code) (Q : State → Prop) (ws : va_W), R.cells = 1 → R.slots = 6 → R.frames = 100 → R.locals = 20000 → zCx p R s m args meth c0 D vwCl tys z (zXX o z) zTs RL cc nL y.name → zTh z s s.heap → c0.exceptionTable.toList = tableOf hh → ∀ pc sem, zrget kl pc = some (some sem) → zOp p l e R s m args below meth c0 Q D vwCl tys o z (zXX o z) zTs zprog ws nL cc ret pc sem)
    {as : List zAV} {h : zH} {k : zRt} (k2 : zcats as ≤ nL) (hrun : zlrun kl as h k = true) {ws : va_W} {vs : List Value} (hvs : zr2 (zg o (zad ws)) as vs) : Met l y (.codeWith y cc nL ret hh :: zTs) { frames := 100, cells := 1, slots := 6, locals := 20000 } (va_Pc vs (zStT D tys o z h ws)) (zQ D vwCl tys o z ws k) 1 6 (zA z) := by
  refine va_MetW (cc := cc) (maxL := nL) (ret := ret) (hh := hh) hy rfl ?_
  intro p' e' s' m' args' below' meth' c' s₁ B hml hv
  obtain ⟨rfl, ⟨v1, v2, v3, v4, v5, v6⟩, v7⟩ := hv
  have hts := atoms_spec B.pre
  have htab := vx_table (x := y) B (hts _ List.mem_cons_self)
  have CX' : zCx p' { frames := 100, cells := 1, slots := 6, locals := 20000 } s' m' vs.toArray meth' c' D vwCl tys z (zXX o z) zTs RL cc nL y.name := ⟨B.exec, B.bytes, hml, by rw [← hcls]; exact findClass_of_methodNamed B.named, fun w hw => hts w (List.mem_cons_of_mem _ hw), v4, (name_of_methodNamed B.named B.method).1, v5, v6, by decide, by decide⟩
  have hl := lv_entry vs (n := nL) (by rw [zsl_len hvs]; exact k2)
  rw [lg_entry_eq]
  unfold zlrun at hrun
  exact zrunv_ok (z := z) (X := zXX o z) zXX_ok (zprog_ok E) zov0_ok 1000 p' e' { frames := 100, cells := 1, slots := 6, locals := 20000 } s' m' vs.toArray below' meth' c' _ ws nL cc ret kl (hcode p' e' _ s' m' _ below' meth' c' _ ws rfl rfl rfl rfl CX' v7 htab) 100 20000 (Nat.le_refl _) (Nat.le_refl _) k (zret_MQ B.exec B.bytes B.notSynchronized B.returns rfl rfl) 0 _ hrun _ [] s'.heap [] ws ⟨⟨_, hl, zargs_ok hvs⟩, trivial, v1, v2, v3, va_S.rf, fun _ _ q => q⟩
/-- its call -/
noncomputable def zo_lcall (nx n nL bc bs : Nat) (kl : zCode) : zSem := fun _ _ go c => match c with
  | (al, st, h, cs, sl) => match zpop n [] st with
    | some (as, rest) => if Nat.ble (zcats rest) 8 && (Nat.ble (cs + 1) bc && (Nat.ble (sl + 6) bs && Nat.ble (zcats as) nL)) then zlrun kl as h (fun r h' => match r with
      | none => go nx (al, rest, h', cs + 1, sl + 6)
      | some a => go nx (al, a :: rest, h', cs + 1, sl + 6)) else false
    | none => false
theorem zk_lcall {p : Program} {l : Launch} {e : Env} {R : Room} {s : State} {m : MethodId} {args : Array Value} {below : List Frame} {meth : Method} {c0 : Code} {Q : State → Prop} {D : va_G} {tys : List (ClassId × FieldType)} {o : zO} {z : Nat} {ws0 : va_W} {nL : Nat} {cc : ByteArray} {ret : Option FieldType} {nm : String} (C : zCx p R s m args meth c0 D vwCl tys z (zXX o z) zTs RL cc nL nm) (E : zEnv tys) (hTh : zTh z s s.heap) {bc bs : Nat} (hbc : R.cells = bc) (hbs : R.slots = bs) (hF : 101 ≤ R.frames)
    {y : MethodName} {ccx : ByteArray} {nX : Nat} {retx : Option FieldType} {hh : List (Nat × Nat × Nat × Nat)} (hL : 8 + (nX + 11) + 20000 ≤ R.locals) (hy : plainName y.cls = true) (hcls : y.cls = RL) {kl : zCode}
    (hcode : ∀ (p : Program) (e : Env) (R : Room) (s : State) (m : MethodId) (args : Array Value) (below : List Frame) (meth : Method) (c0 : Code) (Q : State → Prop) (ws : va_W), R.cells = 1 → R.slots = 6 → R.frames = 100 → R.locals = 20000 → zCx p R s m args meth c0 D vwCl tys z (zXX o z) zTs RL ccx nX y.name → zTh z s s.heap → c0.exceptionTable.toList = tableOf hh → ∀ pc sem, zrget kl pc = some (some sem) → zOp p l e R s m args below meth c0 Q D vwCl tys o z (zXX o z) zTs zprog ws nX ccx retx pc sem)
    {idx n pc : Nat} (wcode : Cond.codeWith y ccx nX retx hh ∈ zTs) (wl : Cond.methodLink RL idx y ∈ zTs) (wst : Cond.static y ∈ zTs) (wini : Cond.initialized y.cls ∈ zTs) (hpar : zPar y n) (hd : decode cc pc = .ok (.invokestatic idx, 3)) : zOp p l e R s m args below meth c0 Q D vwCl tys o z (zXX o z) zTs zprog ws0 nL cc ret pc (zo_lcall (pc + 3) n nX bc bs kl) := by
  intro call rt go c _ _ hgo hs ls vst H locs ws S
  unfold zo_lcall at hs
  split at hs
  rename_i al st h cs sl
  split at hs
  · rename_i as rest hp
    split at hs
    · rename_i hcnt
      simp only [Bool.and_eq_true] at hcnt
      obtain ⟨c1, c2, c3, c4⟩ := hcnt
      have c1 := Nat.le_of_ble_eq_true c1
      have c2 := Nat.le_of_ble_eq_true c2
      have c3 := Nat.le_of_ble_eq_true c3
      have c4 := Nat.le_of_ble_eq_true c4
      obtain ⟨xs, e1, e2, e3⟩ := zpop_ok hp
      rw [List.append_nil] at e1
      subst e1
      subst e2
      obtain ⟨vx, vr, rfl, h1, h2⟩ := zr2_split S.2.1
      have h1 := zr2_rev h1
      rw [List.reverse_reverse] at h1
      have hlen : vx.reverse.length = n := by rw [← zr2_len h1]; exact e3
      have hM := zMetL (l := l) E hy hcls hcode c4 hs h1
      have hG : GoodIn zTs (va_wsS RL idx y (.codeWith y ccx nX retx hh :: zTs)) := by
        intro w hw
        have hm : w ∈ zTs := by
          unfold va_wsS at hw
          rcases List.mem_append.mp hw with hw | hw
          · simp only [List.mem_cons, List.not_mem_nil, or_false] at hw
            rcases hw with rfl | rfl | rfl
            · exact wl
            · exact wst
            · exact wini
          · rcases List.mem_cons.mp hw with rfl | hw
            · exact wcode
            · exact hw
        exact ⟨hm, good_of_word (zTs_good w hm)⟩
      have hrun := vx_runSW (As := vx.reverse) (H := H) (locs := locs) (cells := cs) (slots := sl) (rest := vr) (g := F0 m pc ls (vx.reverse.reverse ++ vr)) (mc := 1) (ms := 6) (n := n) (index := idx) (below := below) (e := e) (meth := meth) ⟨C.1, C.2.1, C.2.2.1, C.2.2.2.1, C.2.2.2.2.1⟩ hM (vx_cwSW n C.2.2.2.2.1 hG rfl rfl rfl hpar ⟨hF, hL⟩) ⟨zblindT, fun U hU hW => ⟨rfl, ⟨S.2.2.1, by rw [hU]; exact S.2.2.2.1, S.2.2.2.2.1, va_K.moved hW.alike C.2.2.2.2.2.1, by rw [hU]; exact zXX_ok.2.1 s U H hW (zXX_ok.2.2 s s.heap H C.2.2.2.2.2.2.2.2.1 (fun q hq => S.2.2.2.2.2.1.2.1 q (Nat.lt_of_lt_of_le hq C.2.2.2.2.2.2.2.2.1) (Nat.not_le.mpr hq)) C.2.2.2.2.2.2.2.1), by rw [hU]; exact Nat.le_trans C.2.2.2.2.2.2.2.2.1 S.2.2.2.2.2.1.1⟩, by rw [hU]; exact zTh_warm hW (zTh_kept S.2.2.2.2.2.1.2.1 hTh)⟩⟩ rfl hlen S.1.choose_spec.1.1 rfl (lv_room (by rw [zcats_ok h2]; exact c1)) hd ⟨by rw [hbc]; exact c2, by rw [hbs]; exact c3⟩
      rw [List.reverse_reverse] at hrun
      refine zcall_k hrun S.2.2.2.2.2.1 (fun r v h' ws' H1 locs1 q1 q2 q3 q4 q5 q6 q7 => ?_)
      cases r with
      | none =>
        cases v with
        | none => exact hgo _ _ q7 ls _ H1 locs1 ws' (zSat_h S h2 q2 q3 q4 q5 q6)
        | some w => exact q1.elim
      | some a =>
        cases v with
        | none => exact q1.elim
        | some w => exact hgo _ _ q7 ls _ H1 locs1 ws' (zSat_hp S h2 q1 q2 q3 q4 q5 q6)
    · cases hs
  · cases hs
