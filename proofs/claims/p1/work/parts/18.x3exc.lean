theorem zTh_start {s : State} {b : Nat} (hts : ∀ w ∈ lw_tbl, w.before #[Value.ref b] s = true) (hgv : (Jvm.Cond.and given_1 narrow_1).before #[Value.ref b] s = true) : zTh s.heap.size s s.heap := by
  have hs := flat_of_before _ hgv
  have hA : ∀ a : Nat, a < s.heap.size → ¬ zA s.heap.size a := fun a h q => Nat.not_le.mpr h q
  refine ⟨fun w hw => ?_, vx_Zqof (hts (Jvm.Cond.laysStatic "java/lang/Throwable" "UNASSIGNED_STACK" "[Ljava/lang/StackTraceElement;") (List.mem_of_getElem? (i := 1268) (by decide +kernel))) (hts (Jvm.Cond.initialized "java/lang/Throwable") (List.mem_of_getElem? (i := 169) (by decide +kernel))) (hs (Cond.isRef (Term.static "java/lang/Throwable" "UNASSIGNED_STACK" "[Ljava/lang/StackTraceElement;")) (by decide +kernel)) hA, vx_Zqof (hts (Jvm.Cond.laysStatic "java/lang/Throwable" "SUPPRESSED_SENTINEL" "Ljava/util/List;") (List.mem_of_getElem? (i := 1270) (by decide +kernel))) (hts (Jvm.Cond.initialized "java/lang/Throwable") (List.mem_of_getElem? (i := 169) (by decide +kernel))) (hs (Cond.isRef (Term.static "java/lang/Throwable" "SUPPRESSED_SENTINEL" "Ljava/util/List;")) (by decide +kernel)) hA⟩
  simp only [zThW, List.mem_cons, List.not_mem_nil, or_false] at hw
  rcases hw with rfl | rfl | rfl | rfl
  · exact va_Nw.of rfl (hts (Jvm.Cond.castable "java/util/NoSuchElementException" "java/util/NoSuchElementException") (List.mem_of_getElem? (i := 1243) (by decide +kernel)))
  · exact va_Nw.of rfl (hts (Jvm.Cond.declares ({ cls := "java/lang/RuntimeException", name := "<init>", desc := "()V" } : Jvm.MethodName)) (List.mem_of_getElem? (i := 1244) (by decide +kernel)))
  · exact va_Nw.of rfl (hts (Jvm.Cond.declares ({ cls := "java/lang/Exception", name := "<init>", desc := "()V" } : Jvm.MethodName)) (List.mem_of_getElem? (i := 1246) (by decide +kernel)))
  · exact va_Nw.of rfl (hts (Jvm.Cond.declares ({ cls := "java/lang/Throwable", name := "<init>", desc := "()V" } : Jvm.MethodName)) (List.mem_of_getElem? (i := 1248) (by decide +kernel)))
noncomputable def kLawX (sc : List zN) (jq : zI) : zCode := zrset (zrset (kLaw (.ofNat 5, .ofNat 5) sc jq) 342 (some (zo_lcall 345 4 5 600002 7302232 klR))) 1444 (some (zo_lcall 1447 3 4 600002 7302232 klW))
noncomputable def zrunX (sc : List zN) (jq : zI) : Bool := zrunv zprog zov0 100000 2048 84000 (kLawX sc jq) (fun _ _ => false) 32 zcHF
theorem zfiveX {p : Program} {l : Launch} {e : Env} {s : State} {m : MethodId} {below : List Frame} {meth : Method} {c : Code} {b : Nat} {xs : Nat → Int32} {D : va_G} {tys : List (ClassId × FieldType)} {adr : Nat → Nat} {nm : String} (E : zEnv tys) (C : ∀ o : zO, o.1 = b → o.2.1 = adr → zCx p room_1 s m #[Value.ref b] meth c D vwCl tys s.heap.size (zXX o s.heap.size) zTs RL cL_law 8 nm) (hX : va_X b 5 xs s s.heap) (hbl : b < s.heap.size) (hr : meth.sig.returnType = ret) (hlocks : meth.locks = false) {ls : Array Slot} (hl : lv_has ls 8 [(0, .ref b)]) (hst : l.stackTraces = false) (hTh : zTh s.heap.size s s.heap) {jq : zI} {sc : List zN} (o : zO) (eb : o.1 = b) (ea : o.2.1 = adr) (e0 : o.2.2 0 = xs 0) (hj : zmi jq (xs 0 &&& 63)) (hsc : ∀ (i : Nat) (q : zN), sc[i]? = some q → i < 5 ∧ zmi q.1 (xs i) ∧ ztg o.2.2 q.2 (xs i)) (hrun : zrunX sc jq = true) : W p l e room_1 s m #[Value.ref b] below meth c s.heap [] 0 0 (lw_Z below #[Value.ref b] s) (F0 m 0 ls []) := by
  have C := C o eb ea
  have hX' : va_X o.1 5 xs s s.heap := by rw [eb]; exact hX
  have hbl' : o.1 < s.heap.size := by rw [eb]; exact hbl
  have hbA : ¬ zA s.heap.size o.1 := Nat.not_le.mpr hbl'
  have hj' : zmi jq (o.2.2 0 &&& 63) := by rw [e0]; exact hj
  have h5 : zmem (.ofNat 5, .ofNat 5) (Int32.ofNat 5).toInt := ⟨by decide +kernel, by decide +kernel⟩
  have go5 : zGo p l e room_1 s m #[Value.ref b] below meth c (lw_Z below #[Value.ref b] s) D vwCl tys (zwith o o.2.2) s.heap.size [] 8 32 zcHF := by
    unfold zrunX at hrun
    refine zrunv_ok zXX_ok (zprog_ok E) zov0_ok 100000 p e room_1 s m #[Value.ref b] below meth c (lw_Z below #[Value.ref b] s) [] 8 cL_law (some .boolean) _ ?_ 2048 84000 (by decide) (by decide) _ (fun pc ls v r h H locs ws cells slots _ _ _ _ _ _ _ _ _ q => by cases q) 32 zcHF hrun
    unfold kLawX
    have hat1 : ∃ y, zrget (kLaw (.ofNat 5, .ofNat 5) sc jq) 342 = some y := ⟨_, rfl⟩
    have hat2 : ∃ y, zrget (kLaw (.ofNat 5, .ofNat 5) sc jq) 1444 = some y := ⟨_, rfl⟩
    obtain ⟨y1, hy1⟩ := hat1
    obtain ⟨y2, hy2⟩ := hat2
    refine zpt (P := fun pc sem => zOp p l e room_1 s m #[Value.ref b] below meth c (lw_Z below #[Value.ref b] s) D vwCl tys o s.heap.size (zXX o s.heap.size) zTs zprog [] 8 cL_law (some .boolean) pc sem) (zpt (P := fun pc sem => zOp p l e room_1 s m #[Value.ref b] below meth c (lw_Z below #[Value.ref b] s) D vwCl tys o s.heap.size (zXX o s.heap.size) zTs zprog [] 8 cL_law (some .boolean) pc sem) (okLaw E C hX' hbl' hbA rfl h5 hsc hr hlocks hj') hy1 ?_) (by rw [zrget_set hy1, if_neg (by decide)]; exact hy2) ?_
    · exact zk_lcall C E hTh (bc := 600002) (bs := 7302232) rfl rfl (by decide) (y := yL_rider) (ccx := cL_rider) (nX := 5) (retx := some .int) (hh := [(0, 10, 13, 13)]) (by decide) (by decide) rfl (kl := klR) (oklR hst E) (idx := 42) (n := 4) zx_Lrider_code zx_Lrider_l zx_Lrider_s zx_RL (by decide +kernel) zdL_law_342
    · exact zk_lcall C E hTh (bc := 600002) (bs := 7302232) rfl rfl (by decide) (y := yL_row) (ccx := cL_row) (nX := 4) (retx := some .int) (hh := [(0, 8, 11, 13)]) (by decide) (by decide) rfl (kl := klW) (oklW hst E) (idx := 229) (n := 3) zx_Lrow_code zx_Lrow_l zx_Lrow_s zx_RL (by decide +kernel) zdL_law_1444
  have hpre := zpre
  unfold zlaw at hpre
  have hops : ∀ pc sem, zrget (kLawC (fun c => zcvK [] c zcHF)) pc = some (some sem) → zOp p l e room_1 s m #[Value.ref b] below meth c (lw_Z below #[Value.ref b] s) D vwCl tys o s.heap.size (zXX o s.heap.size) zTs zprog [] 8 cL_law (some .boolean) pc sem := by
    unfold kLawC
    have hat : ∃ y, zrget (kLaw (.ofNat 5, .ofNat 5) [] (.ofNat 0, .ofNat 63)) 32 = some y := ⟨_, rfl⟩
    obtain ⟨y, hy⟩ := hat
    refine zpt (P := fun pc sem => zOp p l e room_1 s m #[Value.ref b] below meth c (lw_Z below #[Value.ref b] s) D vwCl tys o s.heap.size (zXX o s.heap.size) zTs zprog [] 8 cL_law (some .boolean) pc sem) (okLaw E C hX' hbl' hbA rfl h5 (fun i q hq => by simp at hq) hr hlocks (by have := zand_r (x := o.2.2 0) (y := 63) (by decide); exact this)) hy ?_
    intro call rt go cf _ _ _ hs
    exact zGo_cv (o := o) (f := o.2.2) (f' := o.2.2) zMok_nil hs go5
  have hz : zSat D vwCl tys o s.heap.size [] 8 s.heap zc0 ls [] s.heap [] [] := zSat0 (by rw [eb]; exact hl)
  exact zrun_ok zXX_ok (zprog_ok E) 100000 p e room_1 s m #[Value.ref b] below meth c (lw_Z below #[Value.ref b] s) [] 8 cL_law (some .boolean) _ hops 2048 84000 (by decide) (by decide) _ (fun pc ls v r h H locs ws cells slots _ _ _ _ _ _ _ _ _ q => by cases q) 0 zc0 hpre ls [] s.heap [] [] hz
set_option maxRecDepth 100000 in
theorem zlw_4_0 : zrunX (zsc (.negSucc 2147483647, .negSucc 0) zall) (.ofNat 4, .ofNat 4) = true := by decide +kernel
set_option maxRecDepth 100000 in
theorem zlw_4_1 : zrunX (zsc (.ofNat 0, .ofNat 2147483647) zall) (.ofNat 4, .ofNat 4) = true := by decide +kernel
theorem zcase_4 {p : Program} {l : Launch} {e : Env} {s : State} {m : MethodId} {below : List Frame} {meth : Method} {c : Code} {b : Nat} {xs : Nat → Int32} {D : va_G} {tys : List (ClassId × FieldType)} {adr : Nat → Nat} {nm : String} (E : zEnv tys) (C : ∀ o : zO, o.1 = b → o.2.1 = adr → zCx p room_1 s m #[Value.ref b] meth c D vwCl tys s.heap.size (zXX o s.heap.size) zTs RL cL_law 8 nm) (hX : va_X b 5 xs s s.heap) (hbl : b < s.heap.size) (hr : meth.sig.returnType = ret) (hlocks : meth.locks = false) {ls : Array Slot} (hl : lv_has ls 8 [(0, .ref b)]) (hst : l.stackTraces = false) (hTh : zTh s.heap.size s s.heap) (hj : zmi (.ofNat 4, .ofNat 4) (xs 0 &&& 63)) : W p l e room_1 s m #[Value.ref b] below meth c s.heap [] 0 0 (lw_Z below #[Value.ref b] s) (F0 m 0 ls []) := by
  have sc : ∀ b1 : zI, zmi b1 (xs 1) → ∀ (i : Nat) (q : zN), (zsc b1 zall)[i]? = some q → i < 5 ∧ zmi q.1 (xs i) ∧ ztg (zfn xs 0) q.2 (xs i) := by
    intro b1 h1 i q hq
    match i, hq with
    | 0, hq => cases hq; exact ⟨by decide, z32 _, by show xs 0 = xs 0 + Int32.ofInt (.ofNat 0); rw [z0i]; exact (Int32.add_zero _).symm⟩
    | 1, hq => cases hq; exact ⟨by decide, h1, by show xs 1 = xs 1 + Int32.ofInt (.ofNat 0); rw [z0i]; exact (Int32.add_zero _).symm⟩
    | 2, hq => cases hq; exact ⟨by decide, z32 _, by show xs 2 = xs 2 + Int32.ofInt (.ofNat 0); rw [z0i]; exact (Int32.add_zero _).symm⟩
    | 3, hq => cases hq; exact ⟨by decide, z32 _, trivial⟩
    | 4, hq => cases hq; exact ⟨by decide, z32 _, trivial⟩
    | i + 5, hq => simp [zsc] at hq
  obtain ⟨q, hq, h1⟩ := zcov_ok (x := xs 1) (l := [(.negSucc 2147483647, .negSucc 0), (.ofNat 0, .ofNat 2147483647)]) (lo := -2147483648) (by decide +kernel) (z32 _).1
  simp only [List.mem_cons, List.not_mem_nil, or_false] at hq
  rcases hq with rfl | rfl
  · exact zfiveX E C hX hbl hr hlocks hl hst hTh (b, adr, zfn xs 0) rfl rfl rfl hj (sc _ h1) zlw_4_0
  · exact zfiveX E C hX hbl hr hlocks hl hst hTh (b, adr, zfn xs 0) rfl rfl rfl hj (sc _ h1) zlw_4_1
set_option maxRecDepth 100000 in
theorem zlw_49_0 : zrunX (zsc (.negSucc 2147483647, .negSucc 0) zall) (.ofNat 49, .ofNat 49) = true := by decide +kernel
set_option maxRecDepth 100000 in
theorem zlw_49_1 : zrunX (zsc (.ofNat 0, .ofNat 2147483647) zall) (.ofNat 49, .ofNat 49) = true := by decide +kernel
theorem zcase_49 {p : Program} {l : Launch} {e : Env} {s : State} {m : MethodId} {below : List Frame} {meth : Method} {c : Code} {b : Nat} {xs : Nat → Int32} {D : va_G} {tys : List (ClassId × FieldType)} {adr : Nat → Nat} {nm : String} (E : zEnv tys) (C : ∀ o : zO, o.1 = b → o.2.1 = adr → zCx p room_1 s m #[Value.ref b] meth c D vwCl tys s.heap.size (zXX o s.heap.size) zTs RL cL_law 8 nm) (hX : va_X b 5 xs s s.heap) (hbl : b < s.heap.size) (hr : meth.sig.returnType = ret) (hlocks : meth.locks = false) {ls : Array Slot} (hl : lv_has ls 8 [(0, .ref b)]) (hst : l.stackTraces = false) (hTh : zTh s.heap.size s s.heap) (hj : zmi (.ofNat 49, .ofNat 49) (xs 0 &&& 63)) : W p l e room_1 s m #[Value.ref b] below meth c s.heap [] 0 0 (lw_Z below #[Value.ref b] s) (F0 m 0 ls []) := by
  have sc : ∀ b1 : zI, zmi b1 (xs 1) → ∀ (i : Nat) (q : zN), (zsc b1 zall)[i]? = some q → i < 5 ∧ zmi q.1 (xs i) ∧ ztg (zfn xs 0) q.2 (xs i) := by
    intro b1 h1 i q hq
    match i, hq with
    | 0, hq => cases hq; exact ⟨by decide, z32 _, by show xs 0 = xs 0 + Int32.ofInt (.ofNat 0); rw [z0i]; exact (Int32.add_zero _).symm⟩
    | 1, hq => cases hq; exact ⟨by decide, h1, by show xs 1 = xs 1 + Int32.ofInt (.ofNat 0); rw [z0i]; exact (Int32.add_zero _).symm⟩
    | 2, hq => cases hq; exact ⟨by decide, z32 _, by show xs 2 = xs 2 + Int32.ofInt (.ofNat 0); rw [z0i]; exact (Int32.add_zero _).symm⟩
    | 3, hq => cases hq; exact ⟨by decide, z32 _, trivial⟩
    | 4, hq => cases hq; exact ⟨by decide, z32 _, trivial⟩
    | i + 5, hq => simp [zsc] at hq
  obtain ⟨q, hq, h1⟩ := zcov_ok (x := xs 1) (l := [(.negSucc 2147483647, .negSucc 0), (.ofNat 0, .ofNat 2147483647)]) (lo := -2147483648) (by decide +kernel) (z32 _).1
  simp only [List.mem_cons, List.not_mem_nil, or_false] at hq
  rcases hq with rfl | rfl
  · exact zfiveX E C hX hbl hr hlocks hl hst hTh (b, adr, zfn xs 0) rfl rfl rfl hj (sc _ h1) zlw_49_0
  · exact zfiveX E C hX hbl hr hlocks hl hst hTh (b, adr, zfn xs 0) rfl rfl rfl hj (sc _ h1) zlw_49_1
