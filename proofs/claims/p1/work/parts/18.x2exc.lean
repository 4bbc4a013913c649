theorem zdX7_rider_20 : decode cX7_rider 20 = .ok (.new 113, 3) := by decide +kernel
theorem zdX7_rider_23 : decode cX7_rider 23 = .ok (.dup, 1) := by decide +kernel
theorem zdX7_rider_24 : decode cX7_rider 24 = .ok (.invokespecial 115, 3) := by decide +kernel
theorem zdX7_rider_27 : decode cX7_rider 27 = .ok (.athrow, 1) := by decide +kernel
theorem zdX7_row_15 : decode cX7_row 15 = .ok (.new 113, 3) := by decide +kernel
theorem zdX7_row_18 : decode cX7_row 18 = .ok (.dup, 1) := by decide +kernel
theorem zdX7_row_19 : decode cX7_row 19 = .ok (.invokespecial 115, 3) := by decide +kernel
theorem zdX7_row_22 : decode cX7_row 22 = .ok (.athrow, 1) := by decide +kernel
theorem zdL_rider_0 : decode cL_rider 0 = .ok (.aload_n 3, 1) := by decide +kernel
theorem zdL_rider_1 : decode cL_rider 1 = .ok (.iconst 0, 1) := by decide +kernel
theorem zdL_rider_2 : decode cL_rider 2 = .ok (.aload_n 0, 1) := by decide +kernel
theorem zdL_rider_3 : decode cL_rider 3 = .ok (.iload_n 1, 1) := by decide +kernel
theorem zdL_rider_4 : decode cL_rider 4 = .ok (.iload_n 2, 1) := by decide +kernel
theorem zdL_rider_5 : decode cL_rider 5 = .ok (.invokevirtual 7, 3) := by decide +kernel
theorem zdL_rider_13 : decode cL_rider 13 = .ok (.astore 4, 2) := by decide +kernel
theorem zdL_rider_15 : decode cL_rider 15 = .ok (.iconst 1, 1) := by decide +kernel
theorem zdL_rider_16 : decode cL_rider 16 = .ok (.ireturn, 1) := by decide +kernel
theorem zdL_row_0 : decode cL_row 0 = .ok (.aload_n 2, 1) := by decide +kernel
theorem zdL_row_1 : decode cL_row 1 = .ok (.iconst 0, 1) := by decide +kernel
theorem zdL_row_2 : decode cL_row 2 = .ok (.aload_n 0, 1) := by decide +kernel
theorem zdL_row_3 : decode cL_row 3 = .ok (.iload_n 1, 1) := by decide +kernel
theorem zdL_row_4 : decode cL_row 4 = .ok (.invokevirtual 15, 3) := by decide +kernel
theorem zdL_row_11 : decode cL_row 11 = .ok (.astore_n 3, 1) := by decide +kernel
theorem zdL_row_12 : decode cL_row 12 = .ok (.iconst 1, 1) := by decide +kernel
theorem zdL_row_13 : decode cL_row 13 = .ok (.ireturn, 1) := by decide +kernel
theorem zdL_law_342 : decode cL_law 342 = .ok (.invokestatic 42, 3) := by decide +kernel
theorem zdL_law_1444 : decode cL_law 1444 = .ok (.invokestatic 229, 3) := by decide +kernel
noncomputable def kxR : zCode := [[some (zo_loadA 1 0), some (zo_get 4 7 1), none, none, some (zo_loadI 5 1), some (zo_call 8 19 2 0 0 1 6 (zrecv 0)), none, none, some (zo_if zd_eq 20 11), none, none, none, none, none, none, none], [none, none, none, none, none]]
noncomputable def kxW : zCode := [[some (zo_loadI 1 1), some (zo_if zd_lt 15 4), none, none, some (zo_loadI 5 1), some (zo_loadA 6 0), some (zo_get 9 7 9), none, none, some (zo_get 12 1 1), none, none, some (zo_ic zc_lt 23 15), none, none, none]]
noncomputable def klR : zCode := [[some (zo_loadA 1 3), some (zo_push 2 (.inl ((.ofNat 0, .ofNat 0), none))), some (zo_loadA 3 0), some (zo_loadI 4 1), some (zo_loadI 5 2), some (zo_tcall 13 2 3 kxR 20 50 10000), none, none, none, none, none, none, none, some (zo_stA 15 4), none, some (zo_push 16 (.inl ((.ofNat 1, .ofNat 1), none)))], [some (zo_ret1 1 6 0)]]
noncomputable def klW : zCode := [[some (zo_loadA 1 2), some (zo_push 2 (.inl ((.ofNat 0, .ofNat 0), none))), some (zo_loadA 3 0), some (zo_loadI 4 1), some (zo_tcall 11 1 2 kxW 15 50 10000), none, none, none, none, none, none, some (zo_stA 12 3), some (zo_push 13 (.inl ((.ofNat 1, .ofNat 1), none))), some (zo_ret1 1 6 0)]]
theorem okxR {l : Launch} {D : va_G} {tys : List (ClassId × FieldType)} {o : zO} {z : Nat} (E : zEnv tys) (p : Program) (e : Env) (R : Room) (s : State) (m : MethodId) (args : Array Value) (below : List Frame) (meth : Method) (c0 : Code) (Q : State → Prop) (ws : va_W) (hbc : R.cells = 1) (hbs : R.slots = 6) (C : zCx p R s m args meth c0 D vwCl tys z (zXX o z) zTs yX7_rider.cls cX7_rider 3 yX7_rider.name) : ∀ pc sem, zrget kxR pc = some (some sem) → zOp p l e R s m args below meth c0 Q D vwCl tys o z (zXX o z) zTs zprog ws 3 cX7_rider (some .int) pc sem := by
  intro pc sem h
  replace C : zCx p R s m args meth c0 D vwCl tys z (zXX o z) zTs RX7 cX7_rider 3 "rider" := C
  refine zRows_get (P := fun pc sem => zOp p l e R s m args below meth c0 Q D vwCl tys o z (zXX o z) zTs zprog ws 3 cX7_rider (some .int) pc sem) (c := kxR) ?_ h
  unfold kxR
  exact (zrs_c (zr_s (zq_aload_n C dX7_rider_0 rfl)
    (zr_s (zq_get (k := 1) C dX7_rider_1 (show vwCl[7]? = some (RX7, TX7, 16) from rfl) zinX7 (by decide) zw424)
    (zr_n (zr_n (zr_s (zq_iload_n C dX7_rider_4 rfl)
    (zr_s (zk_callVN (n := 1) C zXX_ok zTs_good hbc hbs (show zget zprog 19 = some mX0_has from rfl) rfl rfl (show vwCl[0]? = some (RX0, TX0, 12) from rfl) zw550 (fun U H h => zn46 h) zw549 zs23 zw3 (by decide +kernel) dX7_rider_5)
    (zr_n (zr_n (zr_s (zq_if_eq C dX7_rider_8 (by decide))
    (zr_n (zr_n (zr_n (zr_n (zr_n (zr_n (zr_n zr_0))))))))))))))))
  (zrs_c (zr_n (zr_n (zr_n (zr_n (zr_n zr_0)))))
  zrs_0))
theorem okxW {l : Launch} {D : va_G} {tys : List (ClassId × FieldType)} {o : zO} {z : Nat} (E : zEnv tys) (p : Program) (e : Env) (R : Room) (s : State) (m : MethodId) (args : Array Value) (below : List Frame) (meth : Method) (c0 : Code) (Q : State → Prop) (ws : va_W) (hbc : R.cells = 1) (hbs : R.slots = 6) (C : zCx p R s m args meth c0 D vwCl tys z (zXX o z) zTs yX7_row.cls cX7_row 2 yX7_row.name) : ∀ pc sem, zrget kxW pc = some (some sem) → zOp p l e R s m args below meth c0 Q D vwCl tys o z (zXX o z) zTs zprog ws 2 cX7_row (some .long) pc sem := by
  intro pc sem h
  replace C : zCx p R s m args meth c0 D vwCl tys z (zXX o z) zTs RX7 cX7_row 2 "row" := C
  refine zRows_get (P := fun pc sem => zOp p l e R s m args below meth c0 Q D vwCl tys o z (zXX o z) zTs zprog ws 2 cX7_row (some .long) pc sem) (c := kxW) ?_ h
  unfold kxW
  exact (zrs_c (zr_s (zq_iload_n C dX7_row_0 rfl)
    (zr_s (zq_if_lt C dX7_row_1 (by decide))
    (zr_n (zr_n (zr_s (zq_iload_n C dX7_row_4 rfl)
    (zr_s (zq_aload_n C dX7_row_5 rfl)
    (zr_s (zq_get (k := 9) C dX7_row_6 (show vwCl[7]? = some (RX7, TX7, 16) from rfl) zinX7 (by decide) zw432)
    (zr_n (zr_n (zr_s (zq_getN (k := 1) C dX7_row_9 (show vwCl[1]? = some (RX1, TX1, 2) from rfl) zinX1 (by decide) (fun U H h => zn36 h))
    (zr_n (zr_n (zr_s (zq_icmp_lt C dX7_row_12 (by decide))
    (zr_n (zr_n (zr_n zr_0))))))))))))))))
  zrs_0)
theorem oklR {l : Launch} {D : va_G} {tys : List (ClassId × FieldType)} {o : zO} {z : Nat} (hst : l.stackTraces = false) (E : zEnv tys) (p : Program) (e : Env) (R : Room) (s : State) (m : MethodId) (args : Array Value) (below : List Frame) (meth : Method) (c0 : Code) (Q : State → Prop) (ws : va_W) (hbc : R.cells = 1) (hbs : R.slots = 6) (hfr : R.frames = 100) (hlo : R.locals = 20000) (C : zCx p R s m args meth c0 D vwCl tys z (zXX o z) zTs RL cL_rider 5 yL_rider.name) (hTh : zTh z s s.heap) (htab : c0.exceptionTable.toList = tableOf [(0, 10, 13, 13)]) : ∀ pc sem, zrget klR pc = some (some sem) → zOp p l e R s m args below meth c0 Q D vwCl tys o z (zXX o z) zTs zprog ws 5 cL_rider (some .int) pc sem := by
  intro pc sem h
  refine zRows_get (P := fun pc sem => zOp p l e R s m args below meth c0 Q D vwCl tys o z (zXX o z) zTs zprog ws 5 cL_rider (some .int) pc sem) (c := klR) ?_ h
  unfold klR
  exact (zrs_c (zr_s (zq_aload_n C zdL_rider_0 rfl)
    (zr_s (zq_iconst C zdL_rider_1 (by decide +kernel))
    (zr_s (zq_aload_n C zdL_rider_2 rfl)
    (zr_s (zq_iload_n C zdL_rider_3 rfl)
    (zr_s (zq_iload_n C zdL_rider_4 rfl)
    (zr_s (zk_tcall C hst E hTh hbc hbs (y := yX7_rider) (ccx := cX7_rider) (nX := 3) (retx := some .int) (by decide) rfl (F := 50) (L := 10000) (by decide) (by decide) (by rw [hfr]; decide) (by rw [hlo]; decide) (kx := kxR) (px := 20) (show zrget kxR 20 = some _ from rfl) (okxR E) zdX7_rider_20 zdX7_rider_23 zdX7_rider_24 zdX7_rider_27 (idx := 7) (n := 2) zx_rider_code zx_rider_l zx_rider_i zx_rider_s zx_R7 (by decide +kernel) zdL_rider_5 (x := ⟨0, 10, 13, 13⟩) htab (by decide) rfl rfl)
    (zr_n (zr_n (zr_n (zr_n (zr_n (zr_n (zr_n (zr_s (zq_astore C zdL_rider_13 (by decide))
    (zr_n (zr_s (zq_iconst C zdL_rider_15 (by decide +kernel)) zr_0))))))))))))))))
  (zrs_c (zr_s (zk_ret1 (ty := .int) C hbc hbs rfl rfl (Or.inl ⟨zdL_rider_16, by decide⟩)) zr_0) zrs_0))
theorem oklW {l : Launch} {D : va_G} {tys : List (ClassId × FieldType)} {o : zO} {z : Nat} (hst : l.stackTraces = false) (E : zEnv tys) (p : Program) (e : Env) (R : Room) (s : State) (m : MethodId) (args : Array Value) (below : List Frame) (meth : Method) (c0 : Code) (Q : State → Prop) (ws : va_W) (hbc : R.cells = 1) (hbs : R.slots = 6) (hfr : R.frames = 100) (hlo : R.locals = 20000) (C : zCx p R s m args meth c0 D vwCl tys z (zXX o z) zTs RL cL_row 4 yL_row.name) (hTh : zTh z s s.heap) (htab : c0.exceptionTable.toList = tableOf [(0, 8, 11, 13)]) : ∀ pc sem, zrget klW pc = some (some sem) → zOp p l e R s m args below meth c0 Q D vwCl tys o z (zXX o z) zTs zprog ws 4 cL_row (some .int) pc sem := by
  intro pc sem h
  refine zRows_get (P := fun pc sem => zOp p l e R s m args below meth c0 Q D vwCl tys o z (zXX o z) zTs zprog ws 4 cL_row (some .int) pc sem) (c := klW) ?_ h
  unfold klW
  exact (zrs_c (zr_s (zq_aload_n C zdL_row_0 rfl)
    (zr_s (zq_iconst C zdL_row_1 (by decide +kernel))
    (zr_s (zq_aload_n C zdL_row_2 rfl)
    (zr_s (zq_iload_n C zdL_row_3 rfl)
    (zr_s (zk_tcall C hst E hTh hbc hbs (y := yX7_row) (ccx := cX7_row) (nX := 2) (retx := some .long) (by decide) rfl (F := 50) (L := 10000) (by decide) (by decide) (by rw [hfr]; decide) (by rw [hlo]; decide) (kx := kxW) (px := 15) (show zrget kxW 15 = some _ from rfl) (okxW E) zdX7_row_15 zdX7_row_18 zdX7_row_19 zdX7_row_22 (idx := 15) (n := 1) zx_row_code zx_row_l zx_row_i zx_row_s zx_R7 (by decide +kernel) zdL_row_4 (x := ⟨0, 8, 11, 13⟩) htab (by decide) rfl rfl)
    (zr_n (zr_n (zr_n (zr_n (zr_n (zr_n (zr_s (zq_astore_n C zdL_row_11 rfl (by decide))
    (zr_s (zq_iconst C zdL_row_12 (by decide +kernel))
    (zr_s (zk_ret1 (ty := .int) C hbc hbs rfl rfl (Or.inl ⟨zdL_row_13, by decide⟩)) zr_0))))))))))))))
  zrs_0)
