set_option maxRecDepth 100000 in
set_option maxHeartbeats 4000000 in
theorem okX4_ways {l : Launch} {D : va_G} {tys : List (ClassId × FieldType)} {o : zO} {z : Nat} (E : zEnv tys) : zCodeOk l D vwCl tys o z (zXX o z) zTs zprog mX4_ways := by
  intro p e R s m args below meth c0 Q ws0 hbc hbs C pc sem h
  replace hbc : R.cells = 0 := hbc
  replace hbs : R.slots = 0 := hbs
  replace C : zCx p R s m args meth c0 D vwCl tys z (zXX o z) zTs RX4 cX4_ways 2 "ways" := C
  refine zRows_get (P := fun pc sem => zOp p l e R s m args below meth c0 Q D vwCl tys o z (zXX o z) zTs zprog ws0 2 cX4_ways (some .int) pc sem) (c := kX4_ways) ?_ h
  unfold kX4_ways
  exact (zrs_c (zr_s (zq_iconst (n := .ofNat 0) C dX4_ways_0 (by decide))
    (zr_s (zq_istore_n C dX4_ways_1 rfl (by decide))
    (zr_s (zq_iload_n C dX4_ways_2 rfl)
    (zr_s (zq_sipush (n := .ofNat 256) C dX4_ways_3 (by decide) (by decide))
    (zr_n (zr_n (zr_s (zq_icmp_ge C dX4_ways_6 (by decide))
    (zr_n (zr_n (zr_s (zq_aload_n C dX4_ways_9 rfl)
    (zr_s (zq_get (k := 8) C dX4_ways_10 (show vwCl[4]? = some (RX4, TX4, 15) from rfl) zinX4 (by decide) zw366)
    (zr_n (zr_n (zr_s (zq_iload_n C dX4_ways_13 rfl)
    (zr_s (zq_iload_n C dX4_ways_14 rfl)
    (zr_s (zq_if_ne C dX4_ways_15 (by decide))
    zr_0))))))))))))))))
  (zrs_c (zr_n (zr_n (zr_s (zq_iconst (n := .ofNat 1) C dX4_ways_18 (by decide))
    (zr_s (zk_goto C dX4_ways_19 (by decide))
    (zr_n (zr_n (zr_s (zq_iconst (n := .ofNat 0) C dX4_ways_22 (by decide))
    (zr_s (zk_iast C dX4_ways_23)
    (zr_s (zk_inc (n := .ofNat 1) C dX4_ways_24 (by decide) (by decide))
    (zr_n (zr_n (zr_s (zk_goto C dX4_ways_27 (by decide))
    (zr_n (zr_n (zr_s (zq_iconst (n := .ofNat 0) C dX4_ways_30 (by decide))
    (zr_s (zq_istore_n C dX4_ways_31 rfl (by decide))
    zr_0))))))))))))))))
  (zrs_c (zr_s (zq_iload_n C dX4_ways_32 rfl)
    (zr_s (zq_bipush (n := .ofNat 8) C dX4_ways_33 (by decide) (by decide))
    (zr_n (zr_s (zq_icmp_ge C dX4_ways_35 (by decide))
    (zr_n (zr_n (zr_s (zq_aload_n C dX4_ways_38 rfl)
    (zr_s (zq_aload_n C dX4_ways_39 rfl)
    (zr_s (zq_get (k := 8) C dX4_ways_40 (show vwCl[4]? = some (RX4, TX4, 15) from rfl) zinX4 (by decide) zw366)
    (zr_n (zr_n (zr_s (zq_iload_n C dX4_ways_43 rfl)
    (zr_s (zq_sipush (n := .ofNat 256) C dX4_ways_44 (by decide) (by decide))
    (zr_n (zr_n (zr_s (zq_imul C dX4_ways_47)
    zr_0))))))))))))))))
  (zrs_c (zr_s (zq_iload_n C dX4_ways_48 rfl)
    (zr_s (zq_iconst (n := .ofNat 1) C dX4_ways_49 (by decide))
    (zr_s (zk_add C dX4_ways_50)
    (zr_s (zq_sipush (n := .ofNat 256) C dX4_ways_51 (by decide) (by decide))
    (zr_n (zr_n (zr_s (zq_imul C dX4_ways_54)
    (zr_s (zq_iload_n C dX4_ways_55 rfl)
    (zr_s (zk_callV (n := 4) C zXX_ok zTs_good hbc hbs (show zget zprog 50 = some mX4_addWays from rfl) rfl rfl (show vwCl[4]? = some (RX4, TX4, 15) from rfl) zw867 zw864 zw866 zs69 zw14 (by decide +kernel) dX4_ways_56)
    (zr_n (zr_n (zr_s (zk_inc (n := .ofNat 1) C dX4_ways_59 (by decide) (by decide))
    (zr_n (zr_n (zr_s (zk_goto C dX4_ways_62 (by decide))
    (zr_n zr_0))))))))))))))))
  (zrs_c (zr_n (zr_s (zq_aload_n C dX4_ways_65 rfl)
    (zr_s (zq_get (k := 8) C dX4_ways_66 (show vwCl[4]? = some (RX4, TX4, 15) from rfl) zinX4 (by decide) zw366)
    (zr_n (zr_n (zr_s (zq_sipush (n := .ofNat 2048) C dX4_ways_69 (by decide) (by decide))
    (zr_n (zr_n (zr_s (zq_aload_n C dX4_ways_72 rfl)
    (zr_s (zq_get (k := 13) C dX4_ways_73 (show vwCl[4]? = some (RX4, TX4, 15) from rfl) zinX4 (by decide) zw371)
    (zr_n (zr_n (zr_s (zk_add C dX4_ways_76)
    (zr_s (zk_iald C dX4_ways_77)
    (zr_s (zk_ret1 (ty := .int) C hbc hbs rfl rfl (Or.inl ⟨dX4_ways_78, by decide⟩))
    zr_0)))))))))))))))
  zrs_0)))))
set_option maxRecDepth 100000 in
set_option maxHeartbeats 4000000 in
theorem okX4_weigh {l : Launch} {D : va_G} {tys : List (ClassId × FieldType)} {o : zO} {z : Nat} (E : zEnv tys) : zCodeOk l D vwCl tys o z (zXX o z) zTs zprog mX4_weigh := by
  intro p e R s m args below meth c0 Q ws0 hbc hbs C pc sem h
  replace hbc : R.cells = 0 := hbc
  replace hbs : R.slots = 0 := hbs
  replace C : zCx p R s m args meth c0 D vwCl tys z (zXX o z) zTs RX4 cX4_weigh 6 "weigh" := C
  refine zRows_get (P := fun pc sem => zOp p l e R s m args below meth c0 Q D vwCl tys o z (zXX o z) zTs zprog ws0 6 cX4_weigh none pc sem) (c := kX4_weigh) ?_ h
  unfold kX4_weigh
  exact (zrs_c (zr_s (zq_aload_n C dX4_weigh_0 rfl)
    (zr_s (zq_get (k := 6) C dX4_weigh_1 (show vwCl[4]? = some (RX4, TX4, 15) from rfl) zinX4 (by decide) zw364)
    (zr_n (zr_n (zr_s (zq_iconst (n := .ofNat 0) C dX4_weigh_4 (by decide))
    (zr_s (zq_lconst (n := .ofNat 0) C dX4_weigh_5 (by decide) (by decide))
    (zr_s (zk_last C dX4_weigh_6)
    (zr_s (zq_iconst (n := .ofNat 1) C dX4_weigh_7 (by decide))
    (zr_s (zq_istore_n C dX4_weigh_8 rfl (by decide))
    (zr_s (zq_iload_n C dX4_weigh_9 rfl)
    (zr_s (zq_aload_n C dX4_weigh_10 rfl)
    (zr_s (zq_get (k := 13) C dX4_weigh_11 (show vwCl[4]? = some (RX4, TX4, 15) from rfl) zinX4 (by decide) zw371)
    (zr_n (zr_n (zr_s (zq_icmp_gt C dX4_weigh_14 (by decide))
    (zr_n zr_0))))))))))))))))
  (zrs_c (zr_n (zr_s (zq_iload_n C dX4_weigh_17 rfl)
    (zr_s (zq_aload_n C dX4_weigh_18 rfl)
    (zr_s (zq_get (k := 0) C dX4_weigh_19 (show vwCl[4]? = some (RX4, TX4, 15) from rfl) zinX4 (by decide) zw357)
    (zr_n (zr_n (zr_s (zq_iload_n C dX4_weigh_22 rfl)
    (zr_s (zk_iald C dX4_weigh_23)
    (zr_s (zq_iconst (n := .negSucc 0) C dX4_weigh_24 (by decide))
    (zr_s (zq_ixor C dX4_weigh_25)
    (zr_s (zq_iand C dX4_weigh_26)
    (zr_s (zq_if_eq C dX4_weigh_27 (by decide))
    (zr_n (zr_n (zr_s (zk_goto C dX4_weigh_30 (by decide))
    (zr_n zr_0))))))))))))))))
  (zrs_c (zr_n (zr_n (zr_n (zr_n (zr_n (zr_n (zr_n (zr_n (zr_n (zr_n (zr_n (zr_n (zr_n (zr_n (zr_n (zr_n zr_0))))))))))))))))
  (zrs_c (zr_n (zr_n (zr_n (zr_n (zr_n (zr_n (zr_n (zr_n (zr_n (zr_n (zr_n (zr_n (zr_n (zr_n (zr_n (zr_n zr_0))))))))))))))))
  (zrs_c (zr_n (zr_n (zr_n (zr_n (zr_n (zr_n (zr_n (zr_n (zr_n (zr_n (zr_n (zr_n (zr_n (zr_n (zr_n (zr_n zr_0))))))))))))))))
  (zrs_c (zr_n (zr_n (zr_n (zr_n (zr_n (zr_n (zr_n (zr_n (zr_n (zr_n (zr_n (zr_n (zr_n (zr_n (zr_n (zr_n zr_0))))))))))))))))
  (zrs_c (zr_n (zr_n (zr_n (zr_n (zr_n (zr_n (zr_n (zr_n (zr_n (zr_n (zr_n (zr_n (zr_n (zr_n (zr_n (zr_n zr_0))))))))))))))))
  (zrs_c (zr_n (zr_n (zr_n (zr_n (zr_n (zr_n (zr_s (zk_inc (n := .ofNat 1) C dX4_weigh_118 (by decide) (by decide))
    (zr_n (zr_n (zr_s (zk_goto C dX4_weigh_121 (by decide))
    (zr_n (zr_n (zr_s (zk_ret0 C hbc hbs rfl dX4_weigh_124)
    zr_0)))))))))))))
  zrs_0))))))))
set_option maxRecDepth 100000 in
set_option maxHeartbeats 4000000 in
theorem okX5_copy {l : Launch} {D : va_G} {tys : List (ClassId × FieldType)} {o : zO} {z : Nat} (E : zEnv tys) : zCodeOk l D vwCl tys o z (zXX o z) zTs zprog mX5_copy := by
  intro p e R s m args below meth c0 Q ws0 hbc hbs C pc sem h
  replace hbc : R.cells = 0 := hbc
  replace hbs : R.slots = 0 := hbs
  replace C : zCx p R s m args meth c0 D vwCl tys z (zXX o z) zTs RX5 cX5_copy 2 "copy" := C
  refine zRows_get (P := fun pc sem => zOp p l e R s m args below meth c0 Q D vwCl tys o z (zXX o z) zTs zprog ws0 2 cX5_copy none pc sem) (c := kX5_copy) ?_ h
  unfold kX5_copy
  exact (zrs_c (zr_s (zq_aload_n C dX5_copy_0 rfl)
    (zr_s (zq_get (k := 0) C dX5_copy_1 (show vwCl[5]? = some (RX5, TX5, 6) from rfl) zinX5 (by decide) zw301)
    (zr_n (zr_n (zr_s (zq_iconst (n := .ofNat 0) C dX5_copy_4 (by decide))
    (zr_s (zq_aload_n C dX5_copy_5 rfl)
    (zr_s (zq_get (k := 0) C dX5_copy_6 (show vwCl[5]? = some (RX5, TX5, 6) from rfl) zinX5 (by decide) zw301)
    (zr_n (zr_n (zr_s (zq_iconst (n := .ofNat 0) C dX5_copy_9 (by decide))
    (zr_s (zq_bipush (n := .ofNat 8) C dX5_copy_10 (by decide) (by decide))
    (zr_n (zr_s (zk_copy C dX5_copy_12 zw615 zw617 zw616 zw22 (by decide +kernel))
    (zr_n (zr_n (zr_s (zq_aload_n C dX5_copy_15 rfl)
    zr_0))))))))))))))))
  (zrs_c (zr_s (zq_get (k := 1) C dX5_copy_16 (show vwCl[5]? = some (RX5, TX5, 6) from rfl) zinX5 (by decide) zw304)
    (zr_n (zr_n (zr_s (zq_iconst (n := .ofNat 0) C dX5_copy_19 (by decide))
    (zr_s (zq_aload_n C dX5_copy_20 rfl)
    (zr_s (zq_get (k := 1) C dX5_copy_21 (show vwCl[5]? = some (RX5, TX5, 6) from rfl) zinX5 (by decide) zw304)
    (zr_n (zr_n (zr_s (zq_iconst (n := .ofNat 0) C dX5_copy_24 (by decide))
    (zr_s (zq_bipush (n := .ofNat 8) C dX5_copy_25 (by decide) (by decide))
    (zr_n (zr_s (zk_copy C dX5_copy_27 zw615 zw617 zw616 zw22 (by decide +kernel))
    (zr_n (zr_n (zr_s (zq_aload_n C dX5_copy_30 rfl)
    (zr_s (zq_aload_n C dX5_copy_31 rfl)
    zr_0))))))))))))))))
  (zrs_c (zr_s (zq_get (k := 2) C dX5_copy_32 (show vwCl[5]? = some (RX5, TX5, 6) from rfl) zinX5 (by decide) zw307)
    (zr_n (zr_n (zr_s (zq_put (k := 2) C dX5_copy_35 (show vwCl[5]? = some (RX5, TX5, 6) from rfl) zinX5 tyX5 tyX5_ok nmX5 (by decide) zw307 rfl (ty := .int) (by decide +kernel) rfl)
    (zr_n (zr_n (zr_s (zq_aload_n C dX5_copy_38 rfl)
    (zr_s (zq_aload_n C dX5_copy_39 rfl)
    (zr_s (zq_get (k := 3) C dX5_copy_40 (show vwCl[5]? = some (RX5, TX5, 6) from rfl) zinX5 (by decide) zw309)
    (zr_n (zr_n (zr_s (zq_put (k := 3) C dX5_copy_43 (show vwCl[5]? = some (RX5, TX5, 6) from rfl) zinX5 tyX5 tyX5_ok nmX5 (by decide) zw309 rfl (ty := .int) (by decide +kernel) rfl)
    (zr_n (zr_n (zr_s (zq_aload_n C dX5_copy_46 rfl)
    (zr_s (zq_aload_n C dX5_copy_47 rfl)
    zr_0))))))))))))))))
  (zrs_c (zr_s (zq_get (k := 4) C dX5_copy_48 (show vwCl[5]? = some (RX5, TX5, 6) from rfl) zinX5 (by decide) zw312)
    (zr_n (zr_n (zr_s (zq_put (k := 4) C dX5_copy_51 (show vwCl[5]? = some (RX5, TX5, 6) from rfl) zinX5 tyX5 tyX5_ok nmX5 (by decide) zw312 rfl (ty := .int) (by decide +kernel) rfl)
    (zr_n (zr_n (zr_s (zq_aload_n C dX5_copy_54 rfl)
    (zr_s (zq_aload_n C dX5_copy_55 rfl)
    (zr_s (zq_get (k := 5) C dX5_copy_56 (show vwCl[5]? = some (RX5, TX5, 6) from rfl) zinX5 (by decide) zw315)
    (zr_n (zr_n (zr_s (zq_put (k := 5) C dX5_copy_59 (show vwCl[5]? = some (RX5, TX5, 6) from rfl) zinX5 tyX5 tyX5_ok nmX5 (by decide) zw315 rfl (ty := .int) (by decide +kernel) rfl)
    (zr_n (zr_n (zr_s (zk_ret0 C hbc hbs rfl dX5_copy_62)
    zr_0)))))))))))))))
  zrs_0))))
set_option maxRecDepth 100000 in
set_option maxHeartbeats 4000000 in
theorem okX5_init {l : Launch} {D : va_G} {tys : List (ClassId × FieldType)} {o : zO} {z : Nat} (E : zEnv tys) : zCodeOk l D vwCl tys o z (zXX o z) zTs zprog mX5_init := by
  intro p e R s m args below meth c0 Q ws0 hbc hbs C pc sem h
  replace hbc : R.cells = 2 := hbc
  replace hbs : R.slots = 16 := hbs
  replace C : zCx p R s m args meth c0 D vwCl tys z (zXX o z) zTs RX5 cX5_init 1 "<init>" := C
  refine zRows_get (P := fun pc sem => zOp p l e R s m args below meth c0 Q D vwCl tys o z (zXX o z) zTs zprog ws0 1 cX5_init none pc sem) (c := kX5_init) ?_ h
  unfold kX5_init
  exact (zrs_c (zr_s (zq_aload_n C dX5_init_0 rfl)
    (zr_s (zk_objInit C dX5_init_1 zw297 zw29 zw30)
    (zr_n (zr_n (zr_s (zq_aload_n C dX5_init_4 rfl)
    (zr_s (zq_bipush (n := .ofNat 8) C dX5_init_5 (by decide) (by decide))
    (zr_n (zr_s (zq_newI C hbc hbs dX5_init_7 zw47 E.1)
    (zr_n (zr_s (zq_putF (k := 0) C dX5_init_9 (show vwCl[5]? = some (RX5, TX5, 6) from rfl) zinX5 tyX5 tyX5_ok nmX5 (by decide) zw301 rfl rfl rfl (ty := (.array .int)) (by decide +kernel) rfl)
    (zr_n (zr_n (zr_s (zq_aload_n C dX5_init_12 rfl)
    (zr_s (zq_bipush (n := .ofNat 8) C dX5_init_13 (by decide) (by decide))
    (zr_n (zr_s (zq_newI C hbc hbs dX5_init_15 zw47 E.1)
    zr_0))))))))))))))))
  (zrs_c (zr_n (zr_s (zq_putF (k := 1) C dX5_init_17 (show vwCl[5]? = some (RX5, TX5, 6) from rfl) zinX5 tyX5 tyX5_ok nmX5 (by decide) zw304 rfl rfl rfl (ty := (.array .int)) (by decide +kernel) rfl)
    (zr_n (zr_n (zr_s (zq_aload_n C dX5_init_20 rfl)
    (zr_s (zq_get (k := 0) C dX5_init_21 (show vwCl[5]? = some (RX5, TX5, 6) from rfl) zinX5 (by decide) zw301)
    (zr_n (zr_n (zr_s (zq_iconst (n := .negSucc 0) C dX5_init_24 (by decide))
    (zr_s (zk_callS C zXX_ok zTs_good hbc hbs (show zget zprog 16 = some mJ7_fill_53178 from rfl) rfl rfl zw300 zw298 zw299 zw12 (by decide +kernel) dX5_init_25)
    (zr_n (zr_n (zr_s (zk_ret0 C hbc hbs rfl dX5_init_28)
    zr_0)))))))))))))
  zrs_0))
set_option maxRecDepth 100000 in
set_option maxHeartbeats 4000000 in
theorem okX5_mostTired {l : Launch} {D : va_G} {tys : List (ClassId × FieldType)} {o : zO} {z : Nat} (E : zEnv tys) : zCodeOk l D vwCl tys o z (zXX o z) zTs zprog mX5_mostTired := by
  intro p e R s m args below meth c0 Q ws0 hbc hbs C pc sem h
  replace hbc : R.cells = 0 := hbc
  replace hbs : R.slots = 0 := hbs
  replace C : zCx p R s m args meth c0 D vwCl tys z (zXX o z) zTs RX5 cX5_mostTired 3 "mostTired" := C
  refine zRows_get (P := fun pc sem => zOp p l e R s m args below meth c0 Q D vwCl tys o z (zXX o z) zTs zprog ws0 3 cX5_mostTired (some .int) pc sem) (c := kX5_mostTired) ?_ h
  unfold kX5_mostTired
  exact (zrs_c (zr_s (zq_iconst (n := .ofNat 0) C dX5_mostTired_0 (by decide))
    (zr_s (zq_istore_n C dX5_mostTired_1 rfl (by decide))
    (zr_s (zq_iconst (n := .ofNat 0) C dX5_mostTired_2 (by decide))
    (zr_s (zq_istore_n C dX5_mostTired_3 rfl (by decide))
    (zr_s (zq_iload_n C dX5_mostTired_4 rfl)
    (zr_s (zq_bipush (n := .ofNat 8) C dX5_mostTired_5 (by decide) (by decide))
    (zr_n (zr_s (zq_icmp_ge C dX5_mostTired_7 (by decide))
    (zr_n (zr_n (zr_s (zq_iload_n C dX5_mostTired_10 rfl)
    (zr_s (zq_aload_n C dX5_mostTired_11 rfl)
    (zr_s (zq_get (k := 1) C dX5_mostTired_12 (show vwCl[5]? = some (RX5, TX5, 6) from rfl) zinX5 (by decide) zw304)
    (zr_n (zr_n (zr_s (zq_iload_n C dX5_mostTired_15 rfl)
    zr_0))))))))))))))))
  (zrs_c (zr_s (zk_iald C dX5_mostTired_16)
    (zr_s (zq_max C hbc hbs dX5_mostTired_17 zw756 zw146 zw9 zw147)
    (zr_n (zr_n (zr_s (zq_istore_n C dX5_mostTired_20 rfl (by decide))
    (zr_s (zk_inc (n := .ofNat 1) C dX5_mostTired_21 (by decide) (by decide))
    (zr_n (zr_n (zr_s (zk_goto C dX5_mostTired_24 (by decide))
    (zr_n (zr_n (zr_s (zq_iload_n C dX5_mostTired_27 rfl)
    (zr_s (zk_ret1 (ty := .int) C hbc hbs rfl rfl (Or.inl ⟨dX5_mostTired_28, by decide⟩))
    zr_0)))))))))))))
  zrs_0))
set_option maxRecDepth 100000 in
set_option maxHeartbeats 4000000 in
theorem okX5_tiredOfAll {l : Launch} {D : va_G} {tys : List (ClassId × FieldType)} {o : zO} {z : Nat} (E : zEnv tys) : zCodeOk l D vwCl tys o z (zXX o z) zTs zprog mX5_tiredOfAll := by
  intro p e R s m args below meth c0 Q ws0 hbc hbs C pc sem h
  replace hbc : R.cells = 0 := hbc
  replace hbs : R.slots = 0 := hbs
  replace C : zCx p R s m args meth c0 D vwCl tys z (zXX o z) zTs RX5 cX5_tiredOfAll 3 "tiredOfAll" := C
  refine zRows_get (P := fun pc sem => zOp p l e R s m args below meth c0 Q D vwCl tys o z (zXX o z) zTs zprog ws0 3 cX5_tiredOfAll (some .int) pc sem) (c := kX5_tiredOfAll) ?_ h
  unfold kX5_tiredOfAll
  exact (zrs_c (zr_s (zq_iconst (n := .ofNat 0) C dX5_tiredOfAll_0 (by decide))
    (zr_s (zq_istore_n C dX5_tiredOfAll_1 rfl (by decide))
    (zr_s (zq_iconst (n := .ofNat 0) C dX5_tiredOfAll_2 (by decide))
    (zr_s (zq_istore_n C dX5_tiredOfAll_3 rfl (by decide))
    (zr_s (zq_iload_n C dX5_tiredOfAll_4 rfl)
    (zr_s (zq_bipush (n := .ofNat 8) C dX5_tiredOfAll_5 (by decide) (by decide))
    (zr_n (zr_s (zq_icmp_ge C dX5_tiredOfAll_7 (by decide))
    (zr_n (zr_n (zr_s (zq_iload_n C dX5_tiredOfAll_10 rfl)
    (zr_s (zq_aload_n C dX5_tiredOfAll_11 rfl)
    (zr_s (zq_get (k := 1) C dX5_tiredOfAll_12 (show vwCl[5]? = some (RX5, TX5, 6) from rfl) zinX5 (by decide) zw304)
    (zr_n (zr_n (zr_s (zq_iload_n C dX5_tiredOfAll_15 rfl)
    zr_0))))))))))))))))
  (zrs_c (zr_s (zk_iald C dX5_tiredOfAll_16)
    (zr_s (zk_add C dX5_tiredOfAll_17)
    (zr_s (zq_istore_n C dX5_tiredOfAll_18 rfl (by decide))
    (zr_s (zk_inc (n := .ofNat 1) C dX5_tiredOfAll_19 (by decide) (by decide))
    (zr_n (zr_n (zr_s (zk_goto C dX5_tiredOfAll_22 (by decide))
    (zr_n (zr_n (zr_s (zq_iload_n C dX5_tiredOfAll_25 rfl)
    (zr_s (zk_ret1 (ty := .int) C hbc hbs rfl rfl (Or.inl ⟨dX5_tiredOfAll_26, by decide⟩))
    zr_0)))))))))))
  zrs_0))
set_option maxRecDepth 100000 in
set_option maxHeartbeats 4000000 in
theorem okX6_add {l : Launch} {D : va_G} {tys : List (ClassId × FieldType)} {o : zO} {z : Nat} (E : zEnv tys) : zCodeOk l D vwCl tys o z (zXX o z) zTs zprog mX6_add := by
  intro p e R s m args below meth c0 Q ws0 hbc hbs C pc sem h
  replace hbc : R.cells = 0 := hbc
  replace hbs : R.slots = 0 := hbs
  replace C : zCx p R s m args meth c0 D vwCl tys z (zXX o z) zTs RX6 cX6_add 3 "add" := C
  refine zRows_get (P := fun pc sem => zOp p l e R s m args below meth c0 Q D vwCl tys o z (zXX o z) zTs zprog ws0 3 cX6_add (some .int) pc sem) (c := kX6_add) ?_ h
  unfold kX6_add
  exact (zrs_c (zr_s (zq_aload_n C dX6_add_0 rfl)
    (zr_s (zq_get (k := 1) C dX6_add_1 (show vwCl[6]? = some (RX6, TX6, 2) from rfl) zinX6 (by decide) zw38)
    (zr_n (zr_n (zr_s (zq_iconst (n := .ofNat 4) C dX6_add_4 (by decide))
    (zr_s (zk_add C dX6_add_5)
    (zr_s (zq_bipush (n := .ofNat 80) C dX6_add_6 (by decide) (by decide))
    (zr_n (zr_s (zq_icmp_le C dX6_add_8 (by decide))
    (zr_n (zr_n (zr_n (zr_n (zr_s (zq_bipush (n := .ofNat 24) C dX6_add_13 (by decide) (by decide))
    (zr_n (zr_s (zq_istore_n C dX6_add_15 rfl (by decide))
    zr_0))))))))))))))))
  (zrs_c (zr_s (zq_iload_n C dX6_add_16 rfl)
    (zr_s (zq_if_lt C dX6_add_17 (by decide))
    (zr_n (zr_n (zr_s (zq_aload_n C dX6_add_20 rfl)
    (zr_s (zq_get (k := 0) C dX6_add_21 (show vwCl[6]? = some (RX6, TX6, 2) from rfl) zinX6 (by decide) zw37)
    (zr_n (zr_n (zr_s (zq_aload_n C dX6_add_24 rfl)
    (zr_s (zq_get (k := 1) C dX6_add_25 (show vwCl[6]? = some (RX6, TX6, 2) from rfl) zinX6 (by decide) zw38)
    (zr_n (zr_n (zr_s (zq_iload_n C dX6_add_28 rfl)
    (zr_s (zq_iload_n C dX6_add_29 rfl)
    (zr_s (zq_iushr C dX6_add_30)
    (zr_s (zq_sipush (n := .ofNat 255) C dX6_add_31 (by decide) (by decide))
    zr_0))))))))))))))))
  (zrs_c (zr_n (zr_n (zr_s (zq_iand C dX6_add_34)
    (zr_s (zk_iast C dX6_add_35)
    (zr_s (zq_aload_n C dX6_add_36 rfl)
    (zr_s (zk_dup C dX6_add_37)
    (zr_s (zq_get (k := 1) C dX6_add_38 (show vwCl[6]? = some (RX6, TX6, 2) from rfl) zinX6 (by decide) zw38)
    (zr_n (zr_n (zr_s (zq_iconst (n := .ofNat 1) C dX6_add_41 (by decide))
    (zr_s (zk_add C dX6_add_42)
    (zr_s (zq_put (k := 1) C dX6_add_43 (show vwCl[6]? = some (RX6, TX6, 2) from rfl) zinX6 tyX6 tyX6_ok nmX6 (by decide) zw38 rfl (ty := .int) (by decide +kernel) rfl)
    (zr_n (zr_n (zr_s (zk_inc (n := .negSucc 7) C dX6_add_46 (by decide) (by decide))
    (zr_n zr_0))))))))))))))))
  (zrs_c (zr_n (zr_s (zk_goto C dX6_add_49 (by decide))
    (zr_n (zr_n (zr_s (zq_aload_n C dX6_add_52 rfl)
    (zr_s (zq_get (k := 1) C dX6_add_53 (show vwCl[6]? = some (RX6, TX6, 2) from rfl) zinX6 (by decide) zw38)
    (zr_n (zr_n (zr_s (zk_ret1 (ty := .int) C hbc hbs rfl rfl (Or.inl ⟨dX6_add_56, by decide⟩))
    zr_0)))))))))
  zrs_0))))
set_option maxRecDepth 100000 in
set_option maxHeartbeats 4000000 in
theorem okX6_cut {l : Launch} {D : va_G} {tys : List (ClassId × FieldType)} {o : zO} {z : Nat} (E : zEnv tys) : zCodeOk l D vwCl tys o z (zXX o z) zTs zprog mX6_cut := by
  intro p e R s m args below meth c0 Q ws0 hbc hbs C pc sem h
  replace hbc : R.cells = 0 := hbc
  replace hbs : R.slots = 0 := hbs
  replace C : zCx p R s m args meth c0 D vwCl tys z (zXX o z) zTs RX6 cX6_cut 2 "cut" := C
  refine zRows_get (P := fun pc sem => zOp p l e R s m args below meth c0 Q D vwCl tys o z (zXX o z) zTs zprog ws0 2 cX6_cut (some .boolean) pc sem) (c := kX6_cut) ?_ h
  unfold kX6_cut
  exact (zrs_c (zr_s (zq_iload_n C dX6_cut_0 rfl)
    (zr_s (zq_if_lt C dX6_cut_1 (by decide))
    (zr_n (zr_n (zr_s (zq_iload_n C dX6_cut_4 rfl)
    (zr_s (zq_aload_n C dX6_cut_5 rfl)
    (zr_s (zq_get (k := 1) C dX6_cut_6 (show vwCl[6]? = some (RX6, TX6, 2) from rfl) zinX6 (by decide) zw38)
    (zr_n (zr_n (zr_s (zq_icmp_le C dX6_cut_9 (by decide))
    (zr_n (zr_n (zr_s (zq_iconst (n := .ofNat 0) C dX6_cut_12 (by decide))
    (zr_s (zk_ret1 (ty := .boolean) C hbc hbs rfl rfl (Or.inl ⟨dX6_cut_13, by decide⟩))
    (zr_s (zq_aload_n C dX6_cut_14 rfl)
    (zr_s (zq_iload_n C dX6_cut_15 rfl)
    zr_0))))))))))))))))
  (zrs_c (zr_s (zq_put (k := 1) C dX6_cut_16 (show vwCl[6]? = some (RX6, TX6, 2) from rfl) zinX6 tyX6 tyX6_ok nmX6 (by decide) zw38 rfl (ty := .int) (by decide +kernel) rfl)
    (zr_n (zr_n (zr_s (zq_iconst (n := .ofNat 1) C dX6_cut_19 (by decide))
    (zr_s (zk_ret1 (ty := .boolean) C hbc hbs rfl rfl (Or.inl ⟨dX6_cut_20, by decide⟩))
    zr_0)))))
  zrs_0))
set_option maxRecDepth 100000 in
set_option maxHeartbeats 4000000 in
theorem okX6_empty {l : Launch} {D : va_G} {tys : List (ClassId × FieldType)} {o : zO} {z : Nat} (E : zEnv tys) : zCodeOk l D vwCl tys o z (zXX o z) zTs zprog mX6_empty := by
  intro p e R s m args below meth c0 Q ws0 hbc hbs C pc sem h
  replace hbc : R.cells = 0 := hbc
  replace hbs : R.slots = 0 := hbs
  replace C : zCx p R s m args meth c0 D vwCl tys z (zXX o z) zTs RX6 cX6_empty 1 "empty" := C
  refine zRows_get (P := fun pc sem => zOp p l e R s m args below meth c0 Q D vwCl tys o z (zXX o z) zTs zprog ws0 1 cX6_empty none pc sem) (c := kX6_empty) ?_ h
  unfold kX6_empty
  exact (zrs_c (zr_s (zq_aload_n C dX6_empty_0 rfl)
    (zr_s (zq_iconst (n := .ofNat 0) C dX6_empty_1 (by decide))
    (zr_s (zq_put (k := 1) C dX6_empty_2 (show vwCl[6]? = some (RX6, TX6, 2) from rfl) zinX6 tyX6 tyX6_ok nmX6 (by decide) zw38 rfl (ty := .int) (by decide +kernel) rfl)
    (zr_n (zr_n (zr_s (zk_ret0 C hbc hbs rfl dX6_empty_5)
    zr_0))))))
  zrs_0)
set_option maxRecDepth 100000 in
set_option maxHeartbeats 4000000 in
theorem okX6_init {l : Launch} {D : va_G} {tys : List (ClassId × FieldType)} {o : zO} {z : Nat} (E : zEnv tys) : zCodeOk l D vwCl tys o z (zXX o z) zTs zprog mX6_init := by
  intro p e R s m args below meth c0 Q ws0 hbc hbs C pc sem h
  replace hbc : R.cells = 1 := hbc
  replace hbs : R.slots = 80 := hbs
  replace C : zCx p R s m args meth c0 D vwCl tys z (zXX o z) zTs RX6 cX6_init 1 "<init>" := C
  refine zRows_get (P := fun pc sem => zOp p l e R s m args below meth c0 Q D vwCl tys o z (zXX o z) zTs zprog ws0 1 cX6_init none pc sem) (c := kX6_init) ?_ h
  unfold kX6_init
  exact (zrs_c (zr_s (zq_aload_n C dX6_init_0 rfl)
    (zr_s (zk_objInit C dX6_init_1 zw36 zw29 zw30)
    (zr_n (zr_n (zr_s (zq_aload_n C dX6_init_4 rfl)
    (zr_s (zq_bipush (n := .ofNat 80) C dX6_init_5 (by decide) (by decide))
    (zr_n (zr_s (zq_newI C hbc hbs dX6_init_7 zw47 E.1)
    (zr_n (zr_s (zq_putF (k := 0) C dX6_init_9 (show vwCl[6]? = some (RX6, TX6, 2) from rfl) zinX6 tyX6 tyX6_ok nmX6 (by decide) zw37 rfl rfl rfl (ty := (.array .int)) (by decide +kernel) rfl)
    (zr_n (zr_n (zr_s (zk_ret0 C hbc hbs rfl dX6_init_12)
    zr_0)))))))))))))
  zrs_0)
set_option maxRecDepth 100000 in
set_option maxHeartbeats 4000000 in
theorem okX7_able {l : Launch} {D : va_G} {tys : List (ClassId × FieldType)} {o : zO} {z : Nat} (E : zEnv tys) : zCodeOk l D vwCl tys o z (zXX o z) zTs zprog mX7_able := by
  intro p e R s m args below meth c0 Q ws0 hbc hbs C pc sem h
  replace hbc : R.cells = 0 := hbc
  replace hbs : R.slots = 0 := hbs
  replace C : zCx p R s m args meth c0 D vwCl tys z (zXX o z) zTs RX7 cX7_able 5 "able" := C
  refine zRows_get (P := fun pc sem => zOp p l e R s m args below meth c0 Q D vwCl tys o z (zXX o z) zTs zprog ws0 5 cX7_able (some .int) pc sem) (c := kX7_able) ?_ h
  unfold kX7_able
  exact (zrs_c (zr_s (zq_iload_n C dX7_able_0 rfl)
    (zr_s (zk_callS C zXX_ok zTs_good hbc hbs (show zget zprog 100 = some mX7_isHour from rfl) rfl rfl zw553 zw551 zw552 zw1 (by decide +kernel) dX7_able_1)
    (zr_n (zr_n (zr_s (zq_if_ne C dX7_able_4 (by decide))
    (zr_n (zr_n (zr_s (zq_iconst (n := .negSucc 0) C dX7_able_7 (by decide))
    (zr_s (zk_ret1 (ty := .int) C hbc hbs rfl rfl (Or.inl ⟨dX7_able_8, by decide⟩))
    (zr_s (zq_aload_n C dX7_able_9 rfl)
    (zr_s (zq_get (k := 9) C dX7_able_10 (show vwCl[7]? = some (RX7, TX7, 16) from rfl) zinX7 (by decide) zw432)
    (zr_n (zr_n (zr_s (zk_callVN (n := 0) C zXX_ok zTs_good hbc hbs (show zget zprog 28 = some mX1_clear from rfl) rfl rfl (show vwCl[1]? = some (RX1, TX1, 2) from rfl) zw690 (fun U H h => zn73 h) zw689 zs43 zw15 (by decide +kernel) dX7_able_13)
    (zr_n (zr_n zr_0))))))))))))))))
  (zrs_c (zr_s (zq_iconst (n := .ofNat 0) C dX7_able_16 (by decide))
    (zr_s (zq_istore_n C dX7_able_17 rfl (by decide))
    (zr_s (zq_iconst (n := .ofNat 0) C dX7_able_18 (by decide))
    (zr_s (zq_istore_n C dX7_able_19 rfl (by decide))
    (zr_s (zq_iload_n C dX7_able_20 rfl)
    (zr_s (zq_aload_n C dX7_able_21 rfl)
    (zr_s (zq_get (k := 1) C dX7_able_22 (show vwCl[7]? = some (RX7, TX7, 16) from rfl) zinX7 (by decide) zw424)
    (zr_n (zr_n (zr_s (zq_getN (k := 6) C dX7_able_25 (show vwCl[0]? = some (RX0, TX0, 12) from rfl) zinX0 (by decide) (fun U H h => zn10 h))
    (zr_n (zr_n (zr_s (zq_icmp_ge C dX7_able_28 (by decide))
    (zr_n (zr_n (zr_n zr_0))))))))))))))))
  (zrs_c (zr_n (zr_n (zr_n (zr_n (zr_n (zr_n (zr_n (zr_n (zr_n (zr_n (zr_n (zr_n (zr_n (zr_n (zr_n (zr_n zr_0))))))))))))))))
  (zrs_c (zr_n (zr_n (zr_n (zr_n (zr_n (zr_n (zr_n (zr_n (zr_n (zr_n (zr_n (zr_n (zr_n (zr_n (zr_n (zr_n zr_0))))))))))))))))
  (zrs_c (zr_n (zr_n (zr_n (zr_n (zr_n (zr_n (zr_n (zr_s (zq_iload_n C dX7_able_71 rfl)
    (zr_s (zk_callS C zXX_ok zTs_good hbc hbs (show zget zprog 14 = some mJ6_bitCount_0f7a4 from rfl) rfl rfl zw564 zw645 zw563 zw21 (by decide +kernel) dX7_able_72)
    (zr_n (zr_n (zr_s (zk_ret1 (ty := .int) C hbc hbs rfl rfl (Or.inl ⟨dX7_able_75, by decide⟩))
    zr_0))))))))))))
  zrs_0)))))
set_option maxRecDepth 100000 in
set_option maxHeartbeats 4000000 in
theorem okX7_again {l : Launch} {D : va_G} {tys : List (ClassId × FieldType)} {o : zO} {z : Nat} (E : zEnv tys) : zCodeOk l D vwCl tys o z (zXX o z) zTs zprog mX7_again := by
  intro p e R s m args below meth c0 Q ws0 hbc hbs C pc sem h
  replace hbc : R.cells = 0 := hbc
  replace hbs : R.slots = 0 := hbs
  replace C : zCx p R s m args meth c0 D vwCl tys z (zXX o z) zTs RX7 cX7_again 2 "again" := C
  refine zRows_get (P := fun pc sem => zOp p l e R s m args below meth c0 Q D vwCl tys o z (zXX o z) zTs zprog ws0 2 cX7_again (some .boolean) pc sem) (c := kX7_again) ?_ h
  unfold kX7_again
  exact (zrs_c (zr_s (zq_iload_n C dX7_again_0 rfl)
    (zr_s (zq_if_lt C dX7_again_1 (by decide))
    (zr_n (zr_n (zr_s (zq_iload_n C dX7_again_4 rfl)
    (zr_s (zq_iconst (n := .ofNat 2) C dX7_again_5 (by decide))
    (zr_s (zq_icmp_ge C dX7_again_6 (by decide))
    (zr_n (zr_n (zr_s (zq_aload_n C dX7_again_9 rfl)
    (zr_s (zq_get (k := 7) C dX7_again_10 (show vwCl[7]? = some (RX7, TX7, 16) from rfl) zinX7 (by decide) zw430)
    (zr_n (zr_n (zr_s (zq_iload_n C dX7_again_13 rfl)
    (zr_s (zk_bald C dX7_again_14)
    (zr_s (zq_if_ne C dX7_again_15 (by decide))
    zr_0))))))))))))))))
  (zrs_c (zr_n (zr_n (zr_s (zq_iconst (n := .ofNat 0) C dX7_again_18 (by decide))
    (zr_s (zk_ret1 (ty := .boolean) C hbc hbs rfl rfl (Or.inl ⟨dX7_again_19, by decide⟩))
    (zr_n (zr_n (zr_n (zr_n (zr_n (zr_n (zr_n (zr_n (zr_n (zr_n (zr_n (zr_n zr_0))))))))))))))))
  (zrs_c (zr_n (zr_n (zr_n (zr_n (zr_n (zr_n (zr_n (zr_n (zr_n (zr_n zr_0))))))))))
  zrs_0)))
set_option maxRecDepth 100000 in
set_option maxHeartbeats 4000000 in
theorem okX7_ask {l : Launch} {D : va_G} {tys : List (ClassId × FieldType)} {o : zO} {z : Nat} (E : zEnv tys) : zCodeOk l D vwCl tys o z (zXX o z) zTs zprog mX7_ask := by
  intro p e R s m args below meth c0 Q ws0 hbc hbs C pc sem h
  replace hbc : R.cells = 0 := hbc
  replace hbs : R.slots = 0 := hbs
  replace C : zCx p R s m args meth c0 D vwCl tys z (zXX o z) zTs RX7 cX7_ask 5 "ask" := C
  refine zRows_get (P := fun pc sem => zOp p l e R s m args below meth c0 Q D vwCl tys o z (zXX o z) zTs zprog ws0 5 cX7_ask (some .int) pc sem) (c := kX7_ask) ?_ h
  unfold kX7_ask
  exact (zrs_c (zr_s (zq_aload_n C dX7_ask_0 rfl)
    (zr_s (zk_callV (n := 0) C zXX_ok zTs_good hbc hbs (show zget zprog 110 = some mX7_openFitting from rfl) rfl rfl (show vwCl[7]? = some (RX7, TX7, 16) from rfl) zw971 zw968 zw970 zs78 zw1 (by decide +kernel) dX7_ask_1)
    (zr_n (zr_n (zr_s (zq_aload_n C dX7_ask_4 rfl)
    (zr_s (zq_get (k := 8) C dX7_ask_5 (show vwCl[7]? = some (RX7, TX7, 16) from rfl) zinX7 (by decide) zw431)
    (zr_n (zr_n (zr_s (zk_callVN (n := 0) C zXX_ok zTs_good hbc hbs (show zget zprog 60 = some mX4_ways from rfl) rfl rfl (show vwCl[4]? = some (RX4, TX4, 15) from rfl) zw863 (fun U H h => zn77 h) zw862 zs68 zw14 (by decide +kernel) dX7_ask_8)
    (zr_n (zr_n (zr_s (zq_if_ne C dX7_ask_11 (by decide))
    (zr_n (zr_n (zr_s (zq_bipush (n := .negSucc 1) C dX7_ask_14 (by decide) (by decide))
    (zr_n zr_0))))))))))))))))
  (zrs_c (zr_s (zk_ret1 (ty := .int) C hbc hbs rfl rfl (Or.inl ⟨dX7_ask_16, by decide⟩))
    (zr_n (zr_n (zr_n (zr_n (zr_n (zr_n (zr_n (zr_n (zr_n (zr_n (zr_n (zr_n (zr_n (zr_n (zr_n zr_0))))))))))))))))
  (zrs_c (zr_n (zr_n (zr_n (zr_n (zr_n (zr_n (zr_n (zr_n (zr_n (zr_n (zr_n (zr_n (zr_n (zr_n (zr_n (zr_n zr_0))))))))))))))))
  (zrs_c (zr_n (zr_n (zr_n (zr_n (zr_n (zr_n (zr_n (zr_n (zr_n (zr_n (zr_n (zr_n (zr_n (zr_n (zr_n (zr_n zr_0))))))))))))))))
  (zrs_c (zr_n (zr_n (zr_n (zr_n (zr_n (zr_n (zr_n (zr_n (zr_n (zr_n (zr_n (zr_n (zr_n (zr_n (zr_n (zr_n zr_0))))))))))))))))
  (zrs_c (zr_n (zr_n (zr_n (zr_n (zr_n (zr_n zr_0))))))
  zrs_0))))))
set_option maxRecDepth 100000 in
set_option maxHeartbeats 4000000 in
theorem okX7_away {l : Launch} {D : va_G} {tys : List (ClassId × FieldType)} {o : zO} {z : Nat} (E : zEnv tys) : zCodeOk l D vwCl tys o z (zXX o z) zTs zprog mX7_away := by
  intro p e R s m args below meth c0 Q ws0 hbc hbs C pc sem h
  replace hbc : R.cells = 0 := hbc
  replace hbs : R.slots = 0 := hbs
  replace C : zCx p R s m args meth c0 D vwCl tys z (zXX o z) zTs RX7 cX7_away 5 "away" := C
  refine zRows_get (P := fun pc sem => zOp p l e R s m args below meth c0 Q D vwCl tys o z (zXX o z) zTs zprog ws0 5 cX7_away (some .int) pc sem) (c := kX7_away) ?_ h
  unfold kX7_away
  exact (zrs_c (zr_s (zq_aload_n C dX7_away_0 rfl)
    (zr_s (zq_iconst (n := .negSucc 0) C dX7_away_1 (by decide))
    (zr_s (zk_callV (n := 1) C zXX_ok zTs_good hbc hbs (show zget zprog 111 = some mX7_openSeats from rfl) rfl rfl (show vwCl[7]? = some (RX7, TX7, 16) from rfl) zw781 zw778 zw780 zs55 zw1 (by decide +kernel) dX7_away_2)
    (zr_n (zr_n (zr_s (zq_iconst (n := .ofNat 0) C dX7_away_5 (by decide))
    (zr_s (zq_istore_n C dX7_away_6 rfl (by decide))
    (zr_s (zq_iload_n C dX7_away_7 rfl)
    (zr_s (zq_aload_n C dX7_away_8 rfl)
    (zr_s (zq_get (k := 1) C dX7_away_9 (show vwCl[7]? = some (RX7, TX7, 16) from rfl) zinX7 (by decide) zw424)
    (zr_n (zr_n (zr_s (zq_getN (k := 6) C dX7_away_12 (show vwCl[0]? = some (RX0, TX0, 12) from rfl) zinX0 (by decide) (fun U H h => zn10 h))
    (zr_n (zr_n (zr_s (zq_icmp_ge C dX7_away_15 (by decide))
    zr_0))))))))))))))))
  (zrs_c (zr_n (zr_n (zr_n (zr_n (zr_n (zr_n (zr_n (zr_n (zr_n (zr_n (zr_n (zr_n (zr_n (zr_n (zr_n (zr_n zr_0))))))))))))))))
  (zrs_c (zr_n (zr_n (zr_n (zr_n (zr_n (zr_n (zr_n (zr_n (zr_n (zr_s (zq_aload_n C dX7_away_41 rfl)
    (zr_s (zq_get (k := 8) C dX7_away_42 (show vwCl[7]? = some (RX7, TX7, 16) from rfl) zinX7 (by decide) zw431)
    (zr_n (zr_n (zr_s (zk_callVN (n := 0) C zXX_ok zTs_good hbc hbs (show zget zprog 56 = some mX4_least from rfl) rfl rfl (show vwCl[4]? = some (RX4, TX4, 15) from rfl) zw811 (fun U H h => zn71 h) zw810 zs61 zw14 (by decide +kernel) dX7_away_45)
    (zr_n (zr_n zr_0))))))))))))))))
  (zrs_c (zr_s (zq_lstore_n C dX7_away_48 rfl (by decide))
    (zr_s (zq_lload_n C dX7_away_49 rfl)
    (zr_s (zq_ldc2 (n := .ofNat 1152921504606846976) C dX7_away_50 zw827 (by decide +kernel))
    (zr_n (zr_n (zr_s (zk_lcmp C dX7_away_53)
    (zr_s (zq_if_lt C dX7_away_54 (by decide))
    (zr_n (zr_n (zr_s (zq_bipush (n := .negSucc 1) C dX7_away_57 (by decide) (by decide))
    (zr_n (zr_s (zk_ret1 (ty := .int) C hbc hbs rfl rfl (Or.inl ⟨dX7_away_59, by decide⟩))
    (zr_n (zr_n (zr_n (zr_n zr_0))))))))))))))))
  (zrs_c (zr_n (zr_n (zr_n (zr_n (zr_n (zr_n (zr_n (zr_n (zr_n (zr_n (zr_n (zr_n (zr_n (zr_n (zr_n (zr_n zr_0))))))))))))))))
  (zrs_c (zr_n (zr_n (zr_n (zr_n (zr_n (zr_n (zr_n (zr_n (zr_n (zr_n (zr_n (zr_n (zr_n (zr_n zr_0))))))))))))))
  zrs_0))))))
set_option maxRecDepth 100000 in
set_option maxHeartbeats 4000000 in
theorem okX7_bare {l : Launch} {D : va_G} {tys : List (ClassId × FieldType)} {o : zO} {z : Nat} (E : zEnv tys) : zCodeOk l D vwCl tys o z (zXX o z) zTs zprog mX7_bare := by
  intro p e R s m args below meth c0 Q ws0 hbc hbs C pc sem h
  replace hbc : R.cells = 0 := hbc
  replace hbs : R.slots = 0 := hbs
  replace C : zCx p R s m args meth c0 D vwCl tys z (zXX o z) zTs RX7 cX7_bare 4 "bare" := C
  refine zRows_get (P := fun pc sem => zOp p l e R s m args below meth c0 Q D vwCl tys o z (zXX o z) zTs zprog ws0 4 cX7_bare (some .int) pc sem) (c := kX7_bare) ?_ h
  unfold kX7_bare
  exact (zrs_c (zr_s (zq_aload_n C dX7_bare_0 rfl)
    (zr_s (zq_iconst (n := .negSucc 0) C dX7_bare_1 (by decide))
    (zr_s (zk_callV (n := 1) C zXX_ok zTs_good hbc hbs (show zget zprog 111 = some mX7_openSeats from rfl) rfl rfl (show vwCl[7]? = some (RX7, TX7, 16) from rfl) zw781 zw778 zw780 zs55 zw1 (by decide +kernel) dX7_bare_2)
    (zr_n (zr_n (zr_s (zq_aload_n C dX7_bare_5 rfl)
    (zr_s (zq_get (k := 8) C dX7_bare_6 (show vwCl[7]? = some (RX7, TX7, 16) from rfl) zinX7 (by decide) zw431)
    (zr_n (zr_n (zr_s (zk_callVN (n := 0) C zXX_ok zTs_good hbc hbs (show zget zprog 56 = some mX4_least from rfl) rfl rfl (show vwCl[4]? = some (RX4, TX4, 15) from rfl) zw811 (fun U H h => zn71 h) zw810 zs61 zw14 (by decide +kernel) dX7_bare_9)
    (zr_n (zr_n (zr_s (zk_pop2 C dX7_bare_12)
    (zr_s (zq_bipush (n := .ofNat 9) C dX7_bare_13 (by decide) (by decide))
    (zr_n (zr_s (zq_istore_n C dX7_bare_15 rfl (by decide))
    zr_0))))))))))))))))
  (zrs_c (zr_s (zq_iconst (n := .ofNat 0) C dX7_bare_16 (by decide))
    (zr_s (zq_istore_n C dX7_bare_17 rfl (by decide))
    (zr_s (zq_iconst (n := .ofNat 1) C dX7_bare_18 (by decide))
    (zr_s (zq_istore_n C dX7_bare_19 rfl (by decide))
    (zr_s (zq_iload_n C dX7_bare_20 rfl)
    (zr_s (zq_aload_n C dX7_bare_21 rfl)
    (zr_s (zq_get (k := 8) C dX7_bare_22 (show vwCl[7]? = some (RX7, TX7, 16) from rfl) zinX7 (by decide) zw431)
    (zr_n (zr_n (zr_s (zq_getN (k := 13) C dX7_bare_25 (show vwCl[4]? = some (RX4, TX4, 15) from rfl) zinX4 (by decide) (fun U H h => zn33 h))
    (zr_n (zr_n (zr_s (zq_icmp_gt C dX7_bare_28 (by decide))
    (zr_n (zr_n (zr_s (zq_aload_n C dX7_bare_31 rfl)
    zr_0))))))))))))))))
  (zrs_c (zr_s (zq_get (k := 8) C dX7_bare_32 (show vwCl[7]? = some (RX7, TX7, 16) from rfl) zinX7 (by decide) zw431)
    (zr_n (zr_n (zr_s (zq_iload_n C dX7_bare_35 rfl)
    (zr_s (zk_callVN (n := 1) C zXX_ok zTs_good hbc hbs (show zget zprog 51 = some mX4_canHold from rfl) rfl rfl (show vwCl[4]? = some (RX4, TX4, 15) from rfl) zw851 (fun U H h => zn76 h) zw850 zs66 zw14 (by decide +kernel) dX7_bare_36)
    (zr_n (zr_n (zr_s (zq_if_ne C dX7_bare_39 (by decide))
    (zr_n (zr_n (zr_s (zq_iload_n C dX7_bare_42 rfl)
    (zr_s (zk_callS C zXX_ok zTs_good hbc hbs (show zget zprog 14 = some mJ6_bitCount_0f7a4 from rfl) rfl rfl zw564 zw645 zw563 zw21 (by decide +kernel) dX7_bare_43)
    (zr_n (zr_n (zr_s (zq_iload_n C dX7_bare_46 rfl)
    (zr_s (zq_icmp_ge C dX7_bare_47 (by decide))
    zr_0))))))))))))))))
  (zrs_c (zr_n (zr_n (zr_s (zq_iload_n C dX7_bare_50 rfl)
    (zr_s (zk_callS C zXX_ok zTs_good hbc hbs (show zget zprog 14 = some mJ6_bitCount_0f7a4 from rfl) rfl rfl zw564 zw645 zw563 zw21 (by decide +kernel) dX7_bare_51)
    (zr_n (zr_n (zr_s (zq_istore_n C dX7_bare_54 rfl (by decide))
    (zr_s (zq_iload_n C dX7_bare_55 rfl)
    (zr_s (zq_istore_n C dX7_bare_56 rfl (by decide))
    (zr_s (zk_inc (n := .ofNat 1) C dX7_bare_57 (by decide) (by decide))
    (zr_n (zr_n (zr_s (zk_goto C dX7_bare_60 (by decide))
    (zr_n (zr_n (zr_s (zq_iload_n C dX7_bare_63 rfl)
    zr_0))))))))))))))))
  (zrs_c (zr_s (zq_if_ne C dX7_bare_64 (by decide))
    (zr_n (zr_n (zr_n (zr_n (zr_n (zr_s (zq_aload_n C dX7_bare_70 rfl)
    (zr_s (zq_get (k := 9) C dX7_bare_71 (show vwCl[7]? = some (RX7, TX7, 16) from rfl) zinX7 (by decide) zw432)
    (zr_n (zr_n (zr_s (zq_iload_n C dX7_bare_74 rfl)
    (zr_s (zk_i2l C dX7_bare_75)
    (zr_s (zk_callVN (n := 1) C zXX_ok zTs_good hbc hbs (show zget zprog 30 = some mX1_tell from rfl) rfl rfl (show vwCl[1]? = some (RX1, TX1, 2) from rfl) zw747 (fun U H h => zn64 h) zw746 zs51 zw15 (by decide +kernel) dX7_bare_76)
    (zr_n (zr_n (zr_s (zq_iload_n C dX7_bare_79 rfl)
    zr_0))))))))))))))))
  (zrs_c (zr_s (zk_ret1 (ty := .int) C hbc hbs rfl rfl (Or.inl ⟨dX7_bare_80, by decide⟩))
    zr_0)
  zrs_0))))))
set_option maxRecDepth 100000 in
set_option maxHeartbeats 4000000 in
theorem okX7_chance {l : Launch} {D : va_G} {tys : List (ClassId × FieldType)} {o : zO} {z : Nat} (E : zEnv tys) : zCodeOk l D vwCl tys o z (zXX o z) zTs zprog mX7_chance := by
  intro p e R s m args below meth c0 Q ws0 hbc hbs C pc sem h
  replace hbc : R.cells = 0 := hbc
  replace hbs : R.slots = 0 := hbs
  replace C : zCx p R s m args meth c0 D vwCl tys z (zXX o z) zTs RX7 cX7_chance 8 "chance" := C
  refine zRows_get (P := fun pc sem => zOp p l e R s m args below meth c0 Q D vwCl tys o z (zXX o z) zTs zprog ws0 8 cX7_chance (some .long) pc sem) (c := kX7_chance) ?_ h
  unfold kX7_chance
  exact (zrs_c (zr_s (zq_iload_n C dX7_chance_0 rfl)
    (zr_s (zk_callS C zXX_ok zTs_good hbc hbs (show zget zprog 14 = some mJ6_bitCount_0f7a4 from rfl) rfl rfl zw564 zw645 zw563 zw21 (by decide +kernel) dX7_chance_1)
    (zr_n (zr_n (zr_s (zq_istore_n C dX7_chance_4 rfl (by decide))
    (zr_s (zq_lconst (n := .ofNat 0) C dX7_chance_5 (by decide) (by decide))
    (zr_s (zq_lstore C dX7_chance_6 (by decide))
    (zr_n (zr_s (zq_iconst (n := .ofNat 0) C dX7_chance_8 (by decide))
    (zr_s (zq_istore C dX7_chance_9 (by decide))
    (zr_n (zr_s (zq_iload C dX7_chance_11)
    (zr_n (zr_s (zq_iload_n C dX7_chance_13 rfl)
    (zr_s (zq_icmp_gt C dX7_chance_14 (by decide))
    (zr_n zr_0))))))))))))))))
  (zrs_c (zr_n (zr_s (zq_iload C dX7_chance_17)
    (zr_n (zr_s (zq_iload_n C dX7_chance_19 rfl)
    (zr_s (zq_iconst (n := .negSucc 0) C dX7_chance_20 (by decide))
    (zr_s (zq_ixor C dX7_chance_21)
    (zr_s (zq_iand C dX7_chance_22)
    (zr_s (zq_if_ne C dX7_chance_23 (by decide))
    (zr_n (zr_n (zr_s (zq_aload_n C dX7_chance_26 rfl)
    (zr_s (zq_get (k := 8) C dX7_chance_27 (show vwCl[7]? = some (RX7, TX7, 16) from rfl) zinX7 (by decide) zw431)
    (zr_n (zr_n (zr_s (zq_iload C dX7_chance_30)
    (zr_n zr_0))))))))))))))))
  (zrs_c (zr_s (zk_callVN (n := 1) C zXX_ok zTs_good hbc hbs (show zget zprog 55 = some mX4_lacks from rfl) rfl rfl (show vwCl[4]? = some (RX4, TX4, 15) from rfl) zw1033 (fun U H h => zn88 h) zw1032 zs89 zw14 (by decide +kernel) dX7_chance_32)
    (zr_n (zr_n (zr_s (zq_if_ne C dX7_chance_35 (by decide))
    (zr_n (zr_n (zr_n (zr_n (zr_n (zr_n (zr_n (zr_n (zr_n (zr_n (zr_n (zr_n zr_0))))))))))))))))
  (zrs_c (zr_n (zr_n (zr_n (zr_n (zr_n (zr_n (zr_n (zr_n (zr_n (zr_n (zr_n (zr_n (zr_n (zr_n (zr_n (zr_n zr_0))))))))))))))))
  (zrs_c (zr_n (zr_n (zr_n (zr_n (zr_s (zk_inc (n := .ofNat 1) C dX7_chance_68 (by decide) (by decide))
    (zr_n (zr_n (zr_s (zk_goto C dX7_chance_71 (by decide))
    (zr_n (zr_n (zr_s (zq_lload C dX7_chance_74)
    (zr_n (zr_s (zk_ret1 C hbc hbs rfl rfl (Or.inr ⟨dX7_chance_76, rfl⟩))
    zr_0)))))))))))))
  zrs_0)))))
set_option maxRecDepth 100000 in
set_option maxHeartbeats 4000000 in
theorem okX7_changes {l : Launch} {D : va_G} {tys : List (ClassId × FieldType)} {o : zO} {z : Nat} (E : zEnv tys) : zCodeOk l D vwCl tys o z (zXX o z) zTs zprog mX7_changes := by
  intro p e R s m args below meth c0 Q ws0 hbc hbs C pc sem h
  replace hbc : R.cells = 0 := hbc
  replace hbs : R.slots = 0 := hbs
  replace C : zCx p R s m args meth c0 D vwCl tys z (zXX o z) zTs RX7 cX7_changes 8 "changes" := C
  refine zRows_get (P := fun pc sem => zOp p l e R s m args below meth c0 Q D vwCl tys o z (zXX o z) zTs zprog ws0 8 cX7_changes (some .int) pc sem) (c := kX7_changes) ?_ h
  unfold kX7_changes
  exact (zrs_c (zr_s (zq_iconst (n := .ofNat 0) C dX7_changes_0 (by decide))
    (zr_s (zq_istore_n C dX7_changes_1 rfl (by decide))
    (zr_s (zq_iconst (n := .ofNat 0) C dX7_changes_2 (by decide))
    (zr_s (zq_istore_n C dX7_changes_3 rfl (by decide))
    (zr_s (zq_iconst (n := .ofNat 0) C dX7_changes_4 (by decide))
    (zr_s (zq_istore_n C dX7_changes_5 rfl (by decide))
    (zr_s (zq_iconst (n := .ofNat 1) C dX7_changes_6 (by decide))
    (zr_s (zq_istore C dX7_changes_7 (by decide))
    (zr_n (zr_s (zq_iload C dX7_changes_9)
    (zr_n (zr_s (zq_bipush (n := .ofNat 8) C dX7_changes_11 (by decide) (by decide))
    (zr_n (zr_s (zq_icmp_ge C dX7_changes_13 (by decide))
    (zr_n (zr_n zr_0))))))))))))))))
  (zrs_c (zr_s (zq_aload_n C dX7_changes_16 rfl)
    (zr_s (zq_get (k := 2) C dX7_changes_17 (show vwCl[7]? = some (RX7, TX7, 16) from rfl) zinX7 (by decide) zw425)
    (zr_n (zr_n (zr_s (zq_getN (k := 0) C dX7_changes_20 (show vwCl[5]? = some (RX5, TX5, 6) from rfl) zinX5 (by decide) (fun U H h => zn17 h))
    (zr_n (zr_n (zr_s (zq_iload C dX7_changes_23)
    (zr_n (zr_s (zq_iconst (n := .ofNat 1) C dX7_changes_25 (by decide))
    (zr_s (zk_sub C dX7_changes_26)
    (zr_s (zk_iald C dX7_changes_27)
    (zr_s (zq_istore C dX7_changes_28 (by decide))
    (zr_n (zr_s (zq_aload_n C dX7_changes_30 rfl)
    (zr_s (zq_get (k := 2) C dX7_changes_31 (show vwCl[7]? = some (RX7, TX7, 16) from rfl) zinX7 (by decide) zw425)
    zr_0))))))))))))))))
  (zrs_c (zr_n (zr_n (zr_s (zq_getN (k := 0) C dX7_changes_34 (show vwCl[5]? = some (RX5, TX5, 6) from rfl) zinX5 (by decide) (fun U H h => zn17 h))
    (zr_n (zr_n (zr_s (zq_iload C dX7_changes_37)
    (zr_n (zr_s (zk_iald C dX7_changes_39)
    (zr_s (zq_istore C dX7_changes_40 (by decide))
    (zr_n (zr_s (zq_aload_n C dX7_changes_42 rfl)
    (zr_s (zq_get (k := 1) C dX7_changes_43 (show vwCl[7]? = some (RX7, TX7, 16) from rfl) zinX7 (by decide) zw424)
    (zr_n (zr_n (zr_s (zq_iload C dX7_changes_46)
    (zr_n zr_0))))))))))))))))
  (zrs_c (zr_s (zq_iload C dX7_changes_48)
    (zr_n (zr_s (zk_callVN (n := 2) C zXX_ok zTs_good hbc hbs (show zget zprog 18 = some mX0_areTwo from rfl) rfl rfl (show vwCl[0]? = some (RX0, TX0, 12) from rfl) zw674 (fun U H h => zn60 h) zw673 zs40 zw3 (by decide +kernel) dX7_changes_50)
    (zr_n (zr_n (zr_s (zq_if_eq C dX7_changes_53 (by decide))
    (zr_n (zr_n (zr_n (zr_n (zr_n (zr_n (zr_n (zr_n (zr_n (zr_n zr_0))))))))))))))))
  (zrs_c (zr_n (zr_n (zr_n (zr_n (zr_n (zr_n (zr_n (zr_n (zr_n (zr_n (zr_n (zr_n (zr_n (zr_n (zr_n (zr_n zr_0))))))))))))))))
  (zrs_c (zr_n (zr_n (zr_n (zr_n (zr_n (zr_n (zr_n (zr_n (zr_n (zr_n (zr_n (zr_n (zr_n (zr_n (zr_n (zr_n zr_0))))))))))))))))
  (zrs_c (zr_n (zr_s (zk_inc (n := .ofNat 1) C dX7_changes_97 (by decide) (by decide))
    (zr_n (zr_n (zr_s (zk_goto C dX7_changes_100 (by decide))
    (zr_n (zr_n (zr_s (zq_aload_n C dX7_changes_103 rfl)
    (zr_s (zq_get (k := 9) C dX7_changes_104 (show vwCl[7]? = some (RX7, TX7, 16) from rfl) zinX7 (by decide) zw432)
    (zr_n (zr_n (zr_s (zq_iload_n C dX7_changes_107 rfl)
    (zr_s (zk_i2l C dX7_changes_108)
    (zr_s (zq_iload_n C dX7_changes_109 rfl)
    (zr_s (zk_i2l C dX7_changes_110)
    (zr_s (zk_callVN (n := 2) C zXX_ok zTs_good hbc hbs (show zget zprog 31 = some mX1_tell_ from rfl) rfl rfl (show vwCl[1]? = some (RX1, TX1, 2) from rfl) zw686 (fun U H h => zn59 h) zw685 zs42 zw15 (by decide +kernel) dX7_changes_111)
    zr_0))))))))))))))))
  (zrs_c (zr_n (zr_n (zr_s (zq_iload_n C dX7_changes_114 rfl)
    (zr_s (zk_ret1 (ty := .int) C hbc hbs rfl rfl (Or.inl ⟨dX7_changes_115, by decide⟩))
    zr_0))))
  zrs_0))))))))
set_option maxRecDepth 100000 in
set_option maxHeartbeats 4000000 in
theorem okX7_count {l : Launch} {D : va_G} {tys : List (ClassId × FieldType)} {o : zO} {z : Nat} (E : zEnv tys) : zCodeOk l D vwCl tys o z (zXX o z) zTs zprog mX7_count := by
  intro p e R s m args below meth c0 Q ws0 hbc hbs C pc sem h
  replace hbc : R.cells = 0 := hbc
  replace hbs : R.slots = 0 := hbs
  replace C : zCx p R s m args meth c0 D vwCl tys z (zXX o z) zTs RX7 cX7_count 2 "count" := C
  refine zRows_get (P := fun pc sem => zOp p l e R s m args below meth c0 Q D vwCl tys o z (zXX o z) zTs zprog ws0 2 cX7_count (some .int) pc sem) (c := kX7_count) ?_ h
  unfold kX7_count
  exact (zrs_c (zr_s (zq_iload_n C dX7_count_0 rfl)
    (zr_s (zq_bipush (n := .ofNat 20) C dX7_count_1 (by decide) (by decide))
    (zr_n (zr_s (zq_icmp_lt C dX7_count_3 (by decide))
    (zr_n (zr_n (zr_s (zq_iload_n C dX7_count_6 rfl)
    (zr_s (zq_bipush (n := .ofNat 28) C dX7_count_7 (by decide) (by decide))
    (zr_n (zr_s (zq_icmp_ge C dX7_count_9 (by decide))
    (zr_n (zr_n (zr_s (zq_aload_n C dX7_count_12 rfl)
    (zr_s (zq_get (k := 2) C dX7_count_13 (show vwCl[7]? = some (RX7, TX7, 16) from rfl) zinX7 (by decide) zw425)
    (zr_n (zr_n zr_0))))))))))))))))
  (zrs_c (zr_s (zq_getN (k := 0) C dX7_count_16 (show vwCl[5]? = some (RX5, TX5, 6) from rfl) zinX5 (by decide) (fun U H h => zn17 h))
    (zr_n (zr_n (zr_s (zq_iload_n C dX7_count_19 rfl)
    (zr_s (zq_bipush (n := .ofNat 20) C dX7_count_20 (by decide) (by decide))
    (zr_n (zr_s (zk_sub C dX7_count_22)
    (zr_s (zk_iald C dX7_count_23)
    (zr_s (zk_ret1 (ty := .int) C hbc hbs rfl rfl (Or.inl ⟨dX7_count_24, by decide⟩))
    (zr_s (zq_iload_n C dX7_count_25 rfl)
    (zr_s (zk_tab C dX7_count_26 (by decide) (by decide) (fun k t h => zswT (pc := 26) (offs := [(.ofNat 62), (.ofNat 70), (.ofNat 78), (.ofNat 86), (.ofNat 94), (.ofNat 102), (.ofNat 110), (.ofNat 118), (.ofNat 126), (.ofNat 131), (.ofNat 139), (.ofNat 147)]) (by decide) h))
    (zr_n (zr_n (zr_n (zr_n (zr_n zr_0))))))))))))))))
  (zrs_c (zr_n (zr_n (zr_n (zr_n (zr_n (zr_n (zr_n (zr_n (zr_n (zr_n (zr_n (zr_n (zr_n (zr_n (zr_n (zr_n zr_0))))))))))))))))
  (zrs_c (zr_n (zr_n (zr_n (zr_n (zr_n (zr_n (zr_n (zr_n (zr_n (zr_n (zr_n (zr_n (zr_n (zr_n (zr_n (zr_n zr_0))))))))))))))))
  (zrs_c (zr_n (zr_n (zr_n (zr_n (zr_n (zr_n (zr_n (zr_n (zr_n (zr_n (zr_n (zr_n (zr_n (zr_n (zr_n (zr_n zr_0))))))))))))))))
  (zrs_c (zr_n (zr_n (zr_n (zr_n (zr_n (zr_n (zr_n (zr_n (zr_s (zq_aload_n C dX7_count_88 rfl)
    (zr_s (zq_get (k := 1) C dX7_count_89 (show vwCl[7]? = some (RX7, TX7, 16) from rfl) zinX7 (by decide) zw424)
    (zr_n (zr_n (zr_s (zq_getN (k := 7) C dX7_count_92 (show vwCl[0]? = some (RX0, TX0, 12) from rfl) zinX0 (by decide) (fun U H h => zn11 h))
    (zr_n (zr_n (zr_s (zk_ret1 (ty := .int) C hbc hbs rfl rfl (Or.inl ⟨dX7_count_95, by decide⟩))
    zr_0))))))))))))))))
  (zrs_c (zr_s (zq_aload_n C dX7_count_96 rfl)
    (zr_s (zq_get (k := 1) C dX7_count_97 (show vwCl[7]? = some (RX7, TX7, 16) from rfl) zinX7 (by decide) zw424)
    (zr_n (zr_n (zr_s (zq_getN (k := 8) C dX7_count_100 (show vwCl[0]? = some (RX0, TX0, 12) from rfl) zinX0 (by decide) (fun U H h => zn12 h))
    (zr_n (zr_n (zr_s (zk_ret1 (ty := .int) C hbc hbs rfl rfl (Or.inl ⟨dX7_count_103, by decide⟩))
    (zr_s (zq_aload_n C dX7_count_104 rfl)
    (zr_s (zq_get (k := 1) C dX7_count_105 (show vwCl[7]? = some (RX7, TX7, 16) from rfl) zinX7 (by decide) zw424)
    (zr_n (zr_n (zr_s (zq_getN (k := 6) C dX7_count_108 (show vwCl[0]? = some (RX0, TX0, 12) from rfl) zinX0 (by decide) (fun U H h => zn10 h))
    (zr_n (zr_n (zr_s (zk_ret1 (ty := .int) C hbc hbs rfl rfl (Or.inl ⟨dX7_count_111, by decide⟩))
    zr_0))))))))))))))))
  (zrs_c (zr_s (zq_aload_n C dX7_count_112 rfl)
    (zr_s (zq_get (k := 2) C dX7_count_113 (show vwCl[7]? = some (RX7, TX7, 16) from rfl) zinX7 (by decide) zw425)
    (zr_n (zr_n (zr_s (zq_getN (k := 2) C dX7_count_116 (show vwCl[5]? = some (RX5, TX5, 6) from rfl) zinX5 (by decide) (fun U H h => zn21 h))
    (zr_n (zr_n (zr_s (zk_ret1 (ty := .int) C hbc hbs rfl rfl (Or.inl ⟨dX7_count_119, by decide⟩))
    (zr_s (zq_aload_n C dX7_count_120 rfl)
    (zr_s (zq_get (k := 2) C dX7_count_121 (show vwCl[7]? = some (RX7, TX7, 16) from rfl) zinX7 (by decide) zw425)
    (zr_n (zr_n (zr_s (zq_getN (k := 3) C dX7_count_124 (show vwCl[5]? = some (RX5, TX5, 6) from rfl) zinX5 (by decide) (fun U H h => zn23 h))
    (zr_n (zr_n (zr_s (zk_ret1 (ty := .int) C hbc hbs rfl rfl (Or.inl ⟨dX7_count_127, by decide⟩))
    zr_0))))))))))))))))
  (zrs_c (zr_s (zq_aload_n C dX7_count_128 rfl)
    (zr_s (zq_get (k := 2) C dX7_count_129 (show vwCl[7]? = some (RX7, TX7, 16) from rfl) zinX7 (by decide) zw425)
    (zr_n (zr_n (zr_s (zq_getN (k := 4) C dX7_count_132 (show vwCl[5]? = some (RX5, TX5, 6) from rfl) zinX5 (by decide) (fun U H h => zn24 h))
    (zr_n (zr_n (zr_s (zk_ret1 (ty := .int) C hbc hbs rfl rfl (Or.inl ⟨dX7_count_135, by decide⟩))
    (zr_s (zq_aload_n C dX7_count_136 rfl)
    (zr_s (zq_get (k := 2) C dX7_count_137 (show vwCl[7]? = some (RX7, TX7, 16) from rfl) zinX7 (by decide) zw425)
    (zr_n (zr_n (zr_s (zq_getN (k := 5) C dX7_count_140 (show vwCl[5]? = some (RX5, TX5, 6) from rfl) zinX5 (by decide) (fun U H h => zn26 h))
    (zr_n (zr_n (zr_s (zk_ret1 (ty := .int) C hbc hbs rfl rfl (Or.inl ⟨dX7_count_143, by decide⟩))
    zr_0))))))))))))))))
  (zrs_c (zr_s (zq_aload_n C dX7_count_144 rfl)
    (zr_s (zq_get (k := 2) C dX7_count_145 (show vwCl[7]? = some (RX7, TX7, 16) from rfl) zinX7 (by decide) zw425)
    (zr_n (zr_n (zr_s (zk_callVN (n := 0) C zXX_ok zTs_good hbc hbs (show zget zprog 65 = some mX5_tiredOfAll from rfl) rfl rfl (show vwCl[5]? = some (RX5, TX5, 6) from rfl) zw600 (fun U H h => zn50 h) zw599 zs28 zw11 (by decide +kernel) dX7_count_148)
    (zr_n (zr_n (zr_s (zk_ret1 (ty := .int) C hbc hbs rfl rfl (Or.inl ⟨dX7_count_151, by decide⟩))
    (zr_s (zq_aload_n C dX7_count_152 rfl)
    (zr_s (zq_get (k := 13) C dX7_count_153 (show vwCl[7]? = some (RX7, TX7, 16) from rfl) zinX7 (by decide) zw436)
    (zr_n (zr_n (zr_s (zk_ret1 (ty := .int) C hbc hbs rfl rfl (Or.inl ⟨dX7_count_156, by decide⟩))
    (zr_s (zq_aload_n C dX7_count_157 rfl)
    (zr_s (zq_get (k := 5) C dX7_count_158 (show vwCl[7]? = some (RX7, TX7, 16) from rfl) zinX7 (by decide) zw428)
    (zr_n zr_0))))))))))))))))
  (zrs_c (zr_n (zr_s (zq_getN (k := 2) C dX7_count_161 (show vwCl[2]? = some (RX2, TX2, 3) from rfl) zinX2 (by decide) (fun U H h => zn30 h))
    (zr_n (zr_n (zr_s (zk_ret1 (ty := .int) C hbc hbs rfl rfl (Or.inl ⟨dX7_count_164, by decide⟩))
    (zr_s (zq_aload_n C dX7_count_165 rfl)
    (zr_s (zq_get (k := 9) C dX7_count_166 (show vwCl[7]? = some (RX7, TX7, 16) from rfl) zinX7 (by decide) zw432)
    (zr_n (zr_n (zr_s (zq_getN (k := 1) C dX7_count_169 (show vwCl[1]? = some (RX1, TX1, 2) from rfl) zinX1 (by decide) (fun U H h => zn36 h))
    (zr_n (zr_n (zr_s (zk_ret1 (ty := .int) C hbc hbs rfl rfl (Or.inl ⟨dX7_count_172, by decide⟩))
    (zr_s (zq_aload_n C dX7_count_173 rfl)
    (zr_s (zq_get (k := 0) C dX7_count_174 (show vwCl[7]? = some (RX7, TX7, 16) from rfl) zinX7 (by decide) zw423)
    (zr_n zr_0))))))))))))))))
  (zrs_c (zr_n (zr_s (zq_getN (k := 1) C dX7_count_177 (show vwCl[6]? = some (RX6, TX6, 2) from rfl) zinX6 (by decide) (fun U H h => zn3 h))
    (zr_n (zr_n (zr_s (zk_ret1 (ty := .int) C hbc hbs rfl rfl (Or.inl ⟨dX7_count_180, by decide⟩))
    (zr_s (zq_bipush (n := .negSucc 99) C dX7_count_181 (by decide) (by decide))
    (zr_n (zr_s (zk_ret1 (ty := .int) C hbc hbs rfl rfl (Or.inl ⟨dX7_count_183, by decide⟩))
    zr_0))))))))
  zrs_0))))))))))))
set_option maxRecDepth 100000 in
set_option maxHeartbeats 4000000 in
theorem okX7_draw {l : Launch} {D : va_G} {tys : List (ClassId × FieldType)} {o : zO} {z : Nat} (E : zEnv tys) : zCodeOk l D vwCl tys o z (zXX o z) zTs zprog mX7_draw := by
  intro p e R s m args below meth c0 Q ws0 hbc hbs C pc sem h
  replace hbc : R.cells = 0 := hbc
  replace hbs : R.slots = 0 := hbs
  replace C : zCx p R s m args meth c0 D vwCl tys z (zXX o z) zTs RX7 cX7_draw 2 "draw" := C
  refine zRows_get (P := fun pc sem => zOp p l e R s m args below meth c0 Q D vwCl tys o z (zXX o z) zTs zprog ws0 2 cX7_draw (some .int) pc sem) (c := kX7_draw) ?_ h
  unfold kX7_draw
  exact (zrs_c (zr_s (zq_aload_n C dX7_draw_0 rfl)
    (zr_s (zq_aload_n C dX7_draw_1 rfl)
    (zr_s (zq_get (k := 15) C dX7_draw_2 (show vwCl[7]? = some (RX7, TX7, 16) from rfl) zinX7 (by decide) zw438)
    (zr_n (zr_n (zr_s (zq_ldc_w (n := .ofNat 1103515245) C dX7_draw_5 zw1068 (by decide +kernel))
    (zr_n (zr_n (zr_s (zq_imul C dX7_draw_8)
    (zr_s (zq_sipush (n := .ofNat 12345) C dX7_draw_9 (by decide) (by decide))
    (zr_n (zr_n (zr_s (zk_add C dX7_draw_12)
    (zr_s (zq_put (k := 15) C dX7_draw_13 (show vwCl[7]? = some (RX7, TX7, 16) from rfl) zinX7 tyX7 tyX7_ok nmX7 (by decide) zw438 rfl (ty := .int) (by decide +kernel) rfl)
    (zr_n (zr_n zr_0))))))))))))))))
  (zrs_c (zr_s (zq_iload_n C dX7_draw_16 rfl)
    (zr_s (zq_if_le C dX7_draw_17 (by decide))
    (zr_n (zr_n (zr_s (zq_aload_n C dX7_draw_20 rfl)
    (zr_s (zq_get (k := 15) C dX7_draw_21 (show vwCl[7]? = some (RX7, TX7, 16) from rfl) zinX7 (by decide) zw438)
    (zr_n (zr_n (zr_s (zq_bipush (n := .ofNat 16) C dX7_draw_24 (by decide) (by decide))
    (zr_n (zr_s (zq_iushr C dX7_draw_26)
    (zr_s (zq_iload_n C dX7_draw_27 rfl)
    (zr_s (zq_irem C dX7_draw_28)
    (zr_s (zk_goto C dX7_draw_29 (by decide))
    (zr_n (zr_n zr_0))))))))))))))))
  (zrs_c (zr_n (zr_s (zk_ret1 (ty := .int) C hbc hbs rfl rfl (Or.inl ⟨dX7_draw_33, by decide⟩))
    zr_0))
  zrs_0)))
set_option maxRecDepth 100000 in
set_option maxHeartbeats 4000000 in
theorem okX7_drawAct {l : Launch} {D : va_G} {tys : List (ClassId × FieldType)} {o : zO} {z : Nat} (E : zEnv tys) : zCodeOk l D vwCl tys o z (zXX o z) zTs zprog mX7_drawAct := by
  intro p e R s m args below meth c0 Q ws0 hbc hbs C pc sem h
  replace hbc : R.cells = 0 := hbc
  replace hbs : R.slots = 0 := hbs
  replace C : zCx p R s m args meth c0 D vwCl tys z (zXX o z) zTs RX7 cX7_drawAct 3 "drawAct" := C
  refine zRows_get (P := fun pc sem => zOp p l e R s m args below meth c0 Q D vwCl tys o z (zXX o z) zTs zprog ws0 3 cX7_drawAct none pc sem) (c := kX7_drawAct) ?_ h
  unfold kX7_drawAct
  exact (zrs_c (zr_s (zq_aload_n C dX7_drawAct_0 rfl)
    (zr_s (zq_iconst (n := .ofNat 4) C dX7_drawAct_1 (by decide))
    (zr_s (zk_callV (n := 1) C zXX_ok zTs_good hbc hbs (show zget zprog 78 = some mX7_draw from rfl) rfl rfl (show vwCl[7]? = some (RX7, TX7, 16) from rfl) zw1067 zw1064 zw1066 zs92 zw1 (by decide +kernel) dX7_drawAct_2)
    (zr_n (zr_n (zr_s (zq_istore_n C dX7_drawAct_5 rfl (by decide))
    (zr_s (zq_iload_n C dX7_drawAct_6 rfl)
    (zr_s (zq_iconst (n := .ofNat 2) C dX7_drawAct_7 (by decide))
    (zr_s (zq_icmp_ge C dX7_drawAct_8 (by decide))
    (zr_n (zr_n (zr_s (zq_aload_n C dX7_drawAct_11 rfl)
    (zr_s (zq_get (k := 1) C dX7_drawAct_12 (show vwCl[7]? = some (RX7, TX7, 16) from rfl) zinX7 (by decide) zw424)
    (zr_n (zr_n (zr_s (zq_aload_n C dX7_drawAct_15 rfl)
    zr_0))))))))))))))))
  (zrs_c (zr_s (zq_get (k := 4) C dX7_drawAct_16 (show vwCl[7]? = some (RX7, TX7, 16) from rfl) zinX7 (by decide) zw427)
    (zr_n (zr_n (zr_s (zk_callVN (n := 1) C zXX_ok zTs_good hbc hbs (show zget zprog 23 = some mX0_pass from rfl) rfl rfl (show vwCl[0]? = some (RX0, TX0, 12) from rfl) zw657 (fun U H h => zn63 h) zw656 zs36 zw3 (by decide +kernel) dX7_drawAct_19)
    (zr_n (zr_n (zr_s (zk_goto C dX7_drawAct_22 (by decide))
    (zr_n (zr_n (zr_s (zq_aload_n C dX7_drawAct_25 rfl)
    (zr_s (zq_get (k := 1) C dX7_drawAct_26 (show vwCl[7]? = some (RX7, TX7, 16) from rfl) zinX7 (by decide) zw424)
    (zr_n (zr_n (zr_s (zq_getN (k := 6) C dX7_drawAct_29 (show vwCl[0]? = some (RX0, TX0, 12) from rfl) zinX0 (by decide) (fun U H h => zn10 h))
    (zr_n (zr_n zr_0))))))))))))))))
  (zrs_c (zr_s (zq_if_le C dX7_drawAct_32 (by decide))
    (zr_n (zr_n (zr_n (zr_n (zr_n (zr_n (zr_n (zr_n (zr_n (zr_n (zr_n (zr_n (zr_n (zr_n (zr_n zr_0))))))))))))))))
  (zrs_c (zr_n (zr_n (zr_n (zr_n (zr_n (zr_n (zr_n (zr_n (zr_n (zr_n (zr_n (zr_n (zr_n (zr_s (zq_aload_n C dX7_drawAct_61 rfl)
    (zr_s (zq_get (k := 1) C dX7_drawAct_62 (show vwCl[7]? = some (RX7, TX7, 16) from rfl) zinX7 (by decide) zw424)
    (zr_n zr_0))))))))))))))))
  (zrs_c (zr_n (zr_s (zq_getN (k := 6) C dX7_drawAct_65 (show vwCl[0]? = some (RX0, TX0, 12) from rfl) zinX0 (by decide) (fun U H h => zn10 h))
    (zr_n (zr_n (zr_s (zq_if_le C dX7_drawAct_68 (by decide))
    (zr_n (zr_n (zr_n (zr_n (zr_n (zr_n (zr_n (zr_n (zr_n (zr_n (zr_n zr_0))))))))))))))))
  (zrs_c (zr_n (zr_n (zr_n (zr_n (zr_n (zr_n (zr_n (zr_n (zr_n (zr_n (zr_n (zr_n (zr_n (zr_n (zr_n (zr_n zr_0))))))))))))))))
  (zrs_c (zr_n (zr_n (zr_s (zk_ret0 C hbc hbs rfl dX7_drawAct_98)
    zr_0)))
  zrs_0)))))))
set_option maxRecDepth 100000 in
set_option maxHeartbeats 4000000 in
theorem okX7_easiest {l : Launch} {D : va_G} {tys : List (ClassId × FieldType)} {o : zO} {z : Nat} (E : zEnv tys) : zCodeOk l D vwCl tys o z (zXX o z) zTs zprog mX7_easiest := by
  intro p e R s m args below meth c0 Q ws0 hbc hbs C pc sem h
  replace hbc : R.cells = 0 := hbc
  replace hbs : R.slots = 0 := hbs
  replace C : zCx p R s m args meth c0 D vwCl tys z (zXX o z) zTs RX7 cX7_easiest 3 "easiest" := C
  refine zRows_get (P := fun pc sem => zOp p l e R s m args below meth c0 Q D vwCl tys o z (zXX o z) zTs zprog ws0 3 cX7_easiest (some .int) pc sem) (c := kX7_easiest) ?_ h
  unfold kX7_easiest
  exact (zrs_c (zr_s (zq_aload_n C dX7_easiest_0 rfl)
    (zr_s (zq_iconst (n := .negSucc 0) C dX7_easiest_1 (by decide))
    (zr_s (zk_callV (n := 1) C zXX_ok zTs_good hbc hbs (show zget zprog 81 = some mX7_easiestWithout from rfl) rfl rfl (show vwCl[7]? = some (RX7, TX7, 16) from rfl) zw777 zw774 zw776 zs54 zw1 (by decide +kernel) dX7_easiest_2)
    (zr_n (zr_n (zr_s (zq_lstore_n C dX7_easiest_5 rfl (by decide))
    (zr_s (zq_lload_n C dX7_easiest_6 rfl)
    (zr_s (zq_ldc2 (n := .ofNat 1152921504606846976) C dX7_easiest_7 zw827 (by decide +kernel))
    (zr_n (zr_n (zr_s (zk_lcmp C dX7_easiest_10)
    (zr_s (zq_if_lt C dX7_easiest_11 (by decide))
    (zr_n (zr_n (zr_s (zq_bipush (n := .negSucc 1) C dX7_easiest_14 (by decide) (by decide))
    (zr_n zr_0))))))))))))))))
  (zrs_c (zr_s (zk_goto C dX7_easiest_16 (by decide))
    (zr_n (zr_n (zr_n (zr_n (zr_n (zr_n (zr_n (zr_s (zk_ret1 (ty := .int) C hbc hbs rfl rfl (Or.inl ⟨dX7_easiest_24, by decide⟩))
    zr_0)))))))))
  zrs_0))
set_option maxRecDepth 100000 in
set_option maxHeartbeats 4000000 in
theorem okX7_easiestWithout {l : Launch} {D : va_G} {tys : List (ClassId × FieldType)} {o : zO} {z : Nat} (E : zEnv tys) : zCodeOk l D vwCl tys o z (zXX o z) zTs zprog mX7_easiestWithout := by
  intro p e R s m args below meth c0 Q ws0 hbc hbs C pc sem h
  replace hbc : R.cells = 0 := hbc
  replace hbs : R.slots = 0 := hbs
  replace C : zCx p R s m args meth c0 D vwCl tys z (zXX o z) zTs RX7 cX7_easiestWithout 2 "easiestWithout" := C
  refine zRows_get (P := fun pc sem => zOp p l e R s m args below meth c0 Q D vwCl tys o z (zXX o z) zTs zprog ws0 2 cX7_easiestWithout (some .long) pc sem) (c := kX7_easiestWithout) ?_ h
  unfold kX7_easiestWithout
  exact (zrs_c (zr_s (zq_aload_n C dX7_easiestWithout_0 rfl)
    (zr_s (zq_iload_n C dX7_easiestWithout_1 rfl)
    (zr_s (zk_callV (n := 1) C zXX_ok zTs_good hbc hbs (show zget zprog 111 = some mX7_openSeats from rfl) rfl rfl (show vwCl[7]? = some (RX7, TX7, 16) from rfl) zw781 zw778 zw780 zs55 zw1 (by decide +kernel) dX7_easiestWithout_2)
    (zr_n (zr_n (zr_s (zq_aload_n C dX7_easiestWithout_5 rfl)
    (zr_s (zk_callV (n := 0) C zXX_ok zTs_good hbc hbs (show zget zprog 114 = some mX7_priceByHard from rfl) rfl rfl (show vwCl[7]? = some (RX7, TX7, 16) from rfl) zw799 zw796 zw798 zs58 zw1 (by decide +kernel) dX7_easiestWithout_6)
    (zr_n (zr_n (zr_s (zq_aload_n C dX7_easiestWithout_9 rfl)
    (zr_s (zq_get (k := 8) C dX7_easiestWithout_10 (show vwCl[7]? = some (RX7, TX7, 16) from rfl) zinX7 (by decide) zw431)
    (zr_n (zr_n (zr_s (zk_callVN (n := 0) C zXX_ok zTs_good hbc hbs (show zget zprog 56 = some mX4_least from rfl) rfl rfl (show vwCl[4]? = some (RX4, TX4, 15) from rfl) zw811 (fun U H h => zn71 h) zw810 zs61 zw14 (by decide +kernel) dX7_easiestWithout_13)
    (zr_n (zr_n zr_0))))))))))))))))
  (zrs_c (zr_s (zk_ret1 C hbc hbs rfl rfl (Or.inr ⟨dX7_easiestWithout_16, rfl⟩))
    zr_0)
  zrs_0))
set_option maxRecDepth 100000 in
set_option maxHeartbeats 4000000 in
theorem okX7_end {l : Launch} {D : va_G} {tys : List (ClassId × FieldType)} {o : zO} {z : Nat} (E : zEnv tys) : zCodeOk l D vwCl tys o z (zXX o z) zTs zprog mX7_end := by
  intro p e R s m args below meth c0 Q ws0 hbc hbs C pc sem h
  replace hbc : R.cells = 0 := hbc
  replace hbs : R.slots = 0 := hbs
  replace C : zCx p R s m args meth c0 D vwCl tys z (zXX o z) zTs RX7 cX7_end 2 "end" := C
  refine zRows_get (P := fun pc sem => zOp p l e R s m args below meth c0 Q D vwCl tys o z (zXX o z) zTs zprog ws0 2 cX7_end (some .boolean) pc sem) (c := kX7_end) ?_ h
  unfold kX7_end
  exact (zrs_c (zr_s (zq_aload_n C dX7_end_0 rfl)
    (zr_s (zq_get (k := 0) C dX7_end_1 (show vwCl[7]? = some (RX7, TX7, 16) from rfl) zinX7 (by decide) zw423)
    (zr_n (zr_n (zr_s (zq_iload_n C dX7_end_4 rfl)
    (zr_s (zk_callVN (n := 1) C zXX_ok zTs_good hbc hbs (show zget zprog 67 = some mX6_cut from rfl) rfl rfl (show vwCl[6]? = some (RX6, TX6, 2) from rfl) zw487 (fun U H h => zn39 h) zw486 zs11 zw2 (by decide +kernel) dX7_end_5)
    (zr_n (zr_n (zr_s (zk_ret1 (ty := .boolean) C hbc hbs rfl rfl (Or.inl ⟨dX7_end_8, by decide⟩))
    zr_0)))))))))
  zrs_0)
set_option maxRecDepth 100000 in
set_option maxHeartbeats 4000000 in
theorem okX7_fairest {l : Launch} {D : va_G} {tys : List (ClassId × FieldType)} {o : zO} {z : Nat} (E : zEnv tys) : zCodeOk l D vwCl tys o z (zXX o z) zTs zprog mX7_fairest := by
  intro p e R s m args below meth c0 Q ws0 hbc hbs C pc sem h
  replace hbc : R.cells = 0 := hbc
  replace hbs : R.slots = 0 := hbs
  replace C : zCx p R s m args meth c0 D vwCl tys z (zXX o z) zTs RX7 cX7_fairest 3 "fairest" := C
  refine zRows_get (P := fun pc sem => zOp p l e R s m args below meth c0 Q D vwCl tys o z (zXX o z) zTs zprog ws0 3 cX7_fairest (some .int) pc sem) (c := kX7_fairest) ?_ h
  unfold kX7_fairest
  exact (zrs_c (zr_s (zq_aload_n C dX7_fairest_0 rfl)
    (zr_s (zq_iconst (n := .negSucc 0) C dX7_fairest_1 (by decide))
    (zr_s (zk_callV (n := 1) C zXX_ok zTs_good hbc hbs (show zget zprog 111 = some mX7_openSeats from rfl) rfl rfl (show vwCl[7]? = some (RX7, TX7, 16) from rfl) zw781 zw778 zw780 zs55 zw1 (by decide +kernel) dX7_fairest_2)
    (zr_n (zr_n (zr_s (zq_iconst (n := .ofNat 0) C dX7_fairest_5 (by decide))
    (zr_s (zq_istore_n C dX7_fairest_6 rfl (by decide))
    (zr_s (zq_iload_n C dX7_fairest_7 rfl)
    (zr_s (zq_aload_n C dX7_fairest_8 rfl)
    (zr_s (zq_get (k := 1) C dX7_fairest_9 (show vwCl[7]? = some (RX7, TX7, 16) from rfl) zinX7 (by decide) zw424)
    (zr_n (zr_n (zr_s (zq_getN (k := 6) C dX7_fairest_12 (show vwCl[0]? = some (RX0, TX0, 12) from rfl) zinX0 (by decide) (fun U H h => zn10 h))
    (zr_n (zr_n (zr_s (zq_icmp_ge C dX7_fairest_15 (by decide))
    zr_0))))))))))))))))
  (zrs_c (zr_n (zr_n (zr_n (zr_n (zr_n (zr_n (zr_n (zr_n (zr_n (zr_n (zr_n (zr_n (zr_n (zr_n (zr_n (zr_n zr_0))))))))))))))))
  (zrs_c (zr_n (zr_n (zr_n (zr_n (zr_n (zr_n (zr_n (zr_n (zr_n (zr_n (zr_n (zr_n (zr_n (zr_n (zr_n (zr_n zr_0))))))))))))))))
  (zrs_c (zr_n (zr_n (zr_n (zr_n (zr_n (zr_n (zr_n (zr_n (zr_n (zr_n (zr_n (zr_s (zq_aload_n C dX7_fairest_59 rfl)
    (zr_s (zq_get (k := 8) C dX7_fairest_60 (show vwCl[7]? = some (RX7, TX7, 16) from rfl) zinX7 (by decide) zw431)
    (zr_n (zr_n (zr_s (zk_callVN (n := 0) C zXX_ok zTs_good hbc hbs (show zget zprog 57 = some mX4_leastMost from rfl) rfl rfl (show vwCl[4]? = some (RX4, TX4, 15) from rfl) zw900 (fun U H h => zn79 h) zw899 zs72 zw14 (by decide +kernel) dX7_fairest_63)
    zr_0))))))))))))))))
  (zrs_c (zr_n (zr_n (zr_s (zq_lstore_n C dX7_fairest_66 rfl (by decide))
    (zr_s (zq_lload_n C dX7_fairest_67 rfl)
    (zr_s (zq_ldc2 (n := .ofNat 1152921504606846976) C dX7_fairest_68 zw827 (by decide +kernel))
    (zr_n (zr_n (zr_s (zk_lcmp C dX7_fairest_71)
    (zr_s (zq_if_lt C dX7_fairest_72 (by decide))
    (zr_n (zr_n (zr_s (zq_bipush (n := .negSucc 1) C dX7_fairest_75 (by decide) (by decide))
    (zr_n (zr_s (zk_ret1 (ty := .int) C hbc hbs rfl rfl (Or.inl ⟨dX7_fairest_77, by decide⟩))
    (zr_n (zr_n zr_0))))))))))))))))
  (zrs_c (zr_n (zr_n (zr_n (zr_n (zr_n (zr_n (zr_n (zr_n (zr_n (zr_n (zr_n (zr_n (zr_n (zr_n (zr_n (zr_n zr_0))))))))))))))))
  (zrs_c (zr_n (zr_n (zr_n (zr_n (zr_n (zr_n (zr_n zr_0)))))))
  zrs_0)))))))
set_option maxRecDepth 100000 in
set_option maxHeartbeats 4000000 in
theorem okX7_fewest {l : Launch} {D : va_G} {tys : List (ClassId × FieldType)} {o : zO} {z : Nat} (E : zEnv tys) : zCodeOk l D vwCl tys o z (zXX o z) zTs zprog mX7_fewest := by
  intro p e R s m args below meth c0 Q ws0 hbc hbs C pc sem h
  replace hbc : R.cells = 0 := hbc
  replace hbs : R.slots = 0 := hbs
  replace C : zCx p R s m args meth c0 D vwCl tys z (zXX o z) zTs RX7 cX7_fewest 3 "fewest" := C
  refine zRows_get (P := fun pc sem => zOp p l e R s m args below meth c0 Q D vwCl tys o z (zXX o z) zTs zprog ws0 3 cX7_fewest (some .int) pc sem) (c := kX7_fewest) ?_ h
  unfold kX7_fewest
  exact (zrs_c (zr_s (zq_aload_n C dX7_fewest_0 rfl)
    (zr_s (zq_iconst (n := .negSucc 0) C dX7_fewest_1 (by decide))
    (zr_s (zk_callV (n := 1) C zXX_ok zTs_good hbc hbs (show zget zprog 111 = some mX7_openSeats from rfl) rfl rfl (show vwCl[7]? = some (RX7, TX7, 16) from rfl) zw781 zw778 zw780 zs55 zw1 (by decide +kernel) dX7_fewest_2)
    (zr_n (zr_n (zr_s (zq_iconst (n := .ofNat 0) C dX7_fewest_5 (by decide))
    (zr_s (zq_istore_n C dX7_fewest_6 rfl (by decide))
    (zr_s (zq_iload_n C dX7_fewest_7 rfl)
    (zr_s (zq_aload_n C dX7_fewest_8 rfl)
    (zr_s (zq_get (k := 1) C dX7_fewest_9 (show vwCl[7]? = some (RX7, TX7, 16) from rfl) zinX7 (by decide) zw424)
    (zr_n (zr_n (zr_s (zq_getN (k := 6) C dX7_fewest_12 (show vwCl[0]? = some (RX0, TX0, 12) from rfl) zinX0 (by decide) (fun U H h => zn10 h))
    (zr_n (zr_n (zr_s (zq_icmp_ge C dX7_fewest_15 (by decide))
    zr_0))))))))))))))))
  (zrs_c (zr_n (zr_n (zr_n (zr_n (zr_n (zr_n (zr_n (zr_n (zr_n (zr_n (zr_n (zr_n (zr_n (zr_n (zr_n (zr_n zr_0))))))))))))))))
  (zrs_c (zr_n (zr_n (zr_n (zr_n (zr_n (zr_n (zr_n (zr_n (zr_n (zr_s (zq_aload_n C dX7_fewest_41 rfl)
    (zr_s (zq_get (k := 8) C dX7_fewest_42 (show vwCl[7]? = some (RX7, TX7, 16) from rfl) zinX7 (by decide) zw431)
    (zr_n (zr_n (zr_s (zk_callVN (n := 0) C zXX_ok zTs_good hbc hbs (show zget zprog 56 = some mX4_least from rfl) rfl rfl (show vwCl[4]? = some (RX4, TX4, 15) from rfl) zw811 (fun U H h => zn71 h) zw810 zs61 zw14 (by decide +kernel) dX7_fewest_45)
    (zr_n (zr_n zr_0))))))))))))))))
  (zrs_c (zr_s (zq_lstore_n C dX7_fewest_48 rfl (by decide))
    (zr_s (zq_lload_n C dX7_fewest_49 rfl)
    (zr_s (zq_ldc2 (n := .ofNat 1152921504606846976) C dX7_fewest_50 zw827 (by decide +kernel))
    (zr_n (zr_n (zr_s (zk_lcmp C dX7_fewest_53)
    (zr_s (zq_if_lt C dX7_fewest_54 (by decide))
    (zr_n (zr_n (zr_s (zq_bipush (n := .negSucc 1) C dX7_fewest_57 (by decide) (by decide))
    (zr_n (zr_s (zk_ret1 (ty := .int) C hbc hbs rfl rfl (Or.inl ⟨dX7_fewest_59, by decide⟩))
    (zr_n (zr_n (zr_n (zr_n zr_0))))))))))))))))
  (zrs_c (zr_n (zr_n (zr_n (zr_n (zr_n (zr_n (zr_n (zr_n (zr_n (zr_n (zr_n (zr_n (zr_n (zr_n zr_0))))))))))))))
  zrs_0)))))
set_option maxRecDepth 100000 in
set_option maxHeartbeats 4000000 in
theorem okX7_first {l : Launch} {D : va_G} {tys : List (ClassId × FieldType)} {o : zO} {z : Nat} (E : zEnv tys) : zCodeOk l D vwCl tys o z (zXX o z) zTs zprog mX7_first := by
  intro p e R s m args below meth c0 Q ws0 hbc hbs C pc sem h
  replace hbc : R.cells = 0 := hbc
  replace hbs : R.slots = 0 := hbs
  replace C : zCx p R s m args meth c0 D vwCl tys z (zXX o z) zTs RX7 cX7_first 3 "first" := C
  refine zRows_get (P := fun pc sem => zOp p l e R s m args below meth c0 Q D vwCl tys o z (zXX o z) zTs zprog ws0 3 cX7_first (some .int) pc sem) (c := kX7_first) ?_ h
  unfold kX7_first
  exact (zrs_c (zr_s (zq_iload_n C dX7_first_0 rfl)
    (zr_s (zq_iconst (n := .ofNat 1) C dX7_first_1 (by decide))
    (zr_s (zq_icmp_lt C dX7_first_2 (by decide))
    (zr_n (zr_n (zr_s (zq_iload_n C dX7_first_5 rfl)
    (zr_s (zq_bipush (n := .ofNat 60) C dX7_first_6 (by decide) (by decide))
    (zr_n (zr_s (zq_icmp_le C dX7_first_8 (by decide))
    (zr_n (zr_n (zr_s (zq_iconst (n := .negSucc 0) C dX7_first_11 (by decide))
    (zr_s (zk_ret1 (ty := .int) C hbc hbs rfl rfl (Or.inl ⟨dX7_first_12, by decide⟩))
    (zr_s (zq_aload_n C dX7_first_13 rfl)
    (zr_s (zq_get (k := 4) C dX7_first_14 (show vwCl[7]? = some (RX7, TX7, 16) from rfl) zinX7 (by decide) zw427)
    (zr_n zr_0))))))))))))))))
  (zrs_c (zr_n (zr_s (zq_aload_n C dX7_first_17 rfl)
    (zr_s (zq_get (k := 2) C dX7_first_18 (show vwCl[7]? = some (RX7, TX7, 16) from rfl) zinX7 (by decide) zw425)
    (zr_n (zr_n (zr_s (zk_callVN (n := 1) C zXX_ok zTs_good hbc hbs (show zget zprog 62 = some mX5_copy from rfl) rfl rfl (show vwCl[5]? = some (RX5, TX5, 6) from rfl) zw614 (fun U H h => zn52 h) zw613 zs30 zw11 (by decide +kernel) dX7_first_21)
    (zr_n (zr_n (zr_s (zq_iconst (n := .ofNat 0) C dX7_first_24 (by decide))
    (zr_s (zq_istore_n C dX7_first_25 rfl (by decide))
    (zr_s (zq_iload_n C dX7_first_26 rfl)
    (zr_s (zq_iload_n C dX7_first_27 rfl)
    (zr_s (zq_icmp_ge C dX7_first_28 (by decide))
    (zr_n (zr_n (zr_s (zq_aload_n C dX7_first_31 rfl)
    zr_0))))))))))))))))
  (zrs_c (zr_s (zq_get (k := 1) C dX7_first_32 (show vwCl[7]? = some (RX7, TX7, 16) from rfl) zinX7 (by decide) zw424)
    (zr_n (zr_n (zr_s (zq_aload_n C dX7_first_35 rfl)
    (zr_s (zq_get (k := 4) C dX7_first_36 (show vwCl[7]? = some (RX7, TX7, 16) from rfl) zinX7 (by decide) zw427)
    (zr_n (zr_n (zr_s (zk_callVN (n := 1) C zXX_ok zTs_good hbc hbs (show zget zprog 23 = some mX0_pass from rfl) rfl rfl (show vwCl[0]? = some (RX0, TX0, 12) from rfl) zw657 (fun U H h => zn63 h) zw656 zs36 zw3 (by decide +kernel) dX7_first_39)
    (zr_n (zr_n (zr_s (zq_aload_n C dX7_first_42 rfl)
    (zr_s (zq_get (k := 1) C dX7_first_43 (show vwCl[7]? = some (RX7, TX7, 16) from rfl) zinX7 (by decide) zw424)
    (zr_n (zr_n (zr_s (zq_getN (k := 10) C dX7_first_46 (show vwCl[0]? = some (RX0, TX0, 12) from rfl) zinX0 (by decide) (fun U H h => zn14 h))
    (zr_n zr_0))))))))))))))))
  (zrs_c (zr_n (zr_s (zq_if_eq C dX7_first_49 (by decide))
    (zr_n (zr_n (zr_s (zq_aload_n C dX7_first_52 rfl)
    (zr_s (zq_get (k := 9) C dX7_first_53 (show vwCl[7]? = some (RX7, TX7, 16) from rfl) zinX7 (by decide) zw432)
    (zr_n (zr_n (zr_s (zq_aload_n C dX7_first_56 rfl)
    (zr_s (zq_get (k := 1) C dX7_first_57 (show vwCl[7]? = some (RX7, TX7, 16) from rfl) zinX7 (by decide) zw424)
    (zr_n (zr_n (zr_s (zq_getN (k := 10) C dX7_first_60 (show vwCl[0]? = some (RX0, TX0, 12) from rfl) zinX0 (by decide) (fun U H h => zn14 h))
    (zr_n (zr_n (zr_s (zk_callS C zXX_ok zTs_good hbc hbs (show zget zprog 105 = some mX7_lowest from rfl) rfl rfl zw743 zw741 zw742 zw1 (by decide +kernel) dX7_first_63)
    zr_0))))))))))))))))
  (zrs_c (zr_n (zr_n (zr_s (zk_i2l C dX7_first_66)
    (zr_s (zk_callVN (n := 1) C zXX_ok zTs_good hbc hbs (show zget zprog 30 = some mX1_tell from rfl) rfl rfl (show vwCl[1]? = some (RX1, TX1, 2) from rfl) zw747 (fun U H h => zn64 h) zw746 zs51 zw15 (by decide +kernel) dX7_first_67)
    (zr_n (zr_n (zr_s (zq_iload_n C dX7_first_70 rfl)
    (zr_s (zk_ret1 (ty := .int) C hbc hbs rfl rfl (Or.inl ⟨dX7_first_71, by decide⟩))
    (zr_n (zr_n (zr_n (zr_n (zr_n (zr_n (zr_n (zr_n zr_0))))))))))))))))
  (zrs_c (zr_n zr_0)
  zrs_0))))))
set_option maxRecDepth 100000 in
set_option maxHeartbeats 4000000 in
theorem okX7_fits {l : Launch} {D : va_G} {tys : List (ClassId × FieldType)} {o : zO} {z : Nat} (E : zEnv tys) : zCodeOk l D vwCl tys o z (zXX o z) zTs zprog mX7_fits := by
  intro p e R s m args below meth c0 Q ws0 hbc hbs C pc sem h
  replace hbc : R.cells = 0 := hbc
  replace hbs : R.slots = 0 := hbs
  replace C : zCx p R s m args meth c0 D vwCl tys z (zXX o z) zTs RX7 cX7_fits 1 "fits" := C
  refine zRows_get (P := fun pc sem => zOp p l e R s m args below meth c0 Q D vwCl tys o z (zXX o z) zTs zprog ws0 1 cX7_fits (some .int) pc sem) (c := kX7_fits) ?_ h
  unfold kX7_fits
  exact (zrs_c (zr_s (zq_aload_n C dX7_fits_0 rfl)
    (zr_s (zk_callV (n := 0) C zXX_ok zTs_good hbc hbs (show zget zprog 110 = some mX7_openFitting from rfl) rfl rfl (show vwCl[7]? = some (RX7, TX7, 16) from rfl) zw971 zw968 zw970 zs78 zw1 (by decide +kernel) dX7_fits_1)
    (zr_n (zr_n (zr_s (zq_aload_n C dX7_fits_4 rfl)
    (zr_s (zk_callV (n := 0) C zXX_ok zTs_good hbc hbs (show zget zprog 134 = some mX7_tellWays from rfl) rfl rfl (show vwCl[7]? = some (RX7, TX7, 16) from rfl) zw859 zw856 zw858 zs67 zw1 (by decide +kernel) dX7_fits_5)
    (zr_n (zr_n (zr_s (zk_ret1 (ty := .int) C hbc hbs rfl rfl (Or.inl ⟨dX7_fits_8, by decide⟩))
    zr_0)))))))))
  zrs_0)
set_option maxRecDepth 100000 in
set_option maxHeartbeats 4000000 in
theorem okX7_forget {l : Launch} {D : va_G} {tys : List (ClassId × FieldType)} {o : zO} {z : Nat} (E : zEnv tys) : zCodeOk l D vwCl tys o z (zXX o z) zTs zprog mX7_forget := by
  intro p e R s m args below meth c0 Q ws0 hbc hbs C pc sem h
  replace hbc : R.cells = 0 := hbc
  replace hbs : R.slots = 0 := hbs
  replace C : zCx p R s m args meth c0 D vwCl tys z (zXX o z) zTs RX7 cX7_forget 2 "forget" := C
  refine zRows_get (P := fun pc sem => zOp p l e R s m args below meth c0 Q D vwCl tys o z (zXX o z) zTs zprog ws0 2 cX7_forget (some .int) pc sem) (c := kX7_forget) ?_ h
  unfold kX7_forget
  exact (zrs_c (zr_s (zq_aload_n C dX7_forget_0 rfl)
    (zr_s (zq_get (k := 13) C dX7_forget_1 (show vwCl[7]? = some (RX7, TX7, 16) from rfl) zinX7 (by decide) zw436)
    (zr_n (zr_n (zr_s (zq_istore_n C dX7_forget_4 rfl (by decide))
    (zr_s (zq_aload_n C dX7_forget_5 rfl)
    (zr_s (zq_iconst (n := .ofNat 0) C dX7_forget_6 (by decide))
    (zr_s (zq_put (k := 13) C dX7_forget_7 (show vwCl[7]? = some (RX7, TX7, 16) from rfl) zinX7 tyX7 tyX7_ok nmX7 (by decide) zw436 rfl (ty := .int) (by decide +kernel) rfl)
    (zr_n (zr_n (zr_s (zq_iload_n C dX7_forget_10 rfl)
    (zr_s (zk_ret1 (ty := .int) C hbc hbs rfl rfl (Or.inl ⟨dX7_forget_11, by decide⟩))
    zr_0))))))))))))
  zrs_0)
set_option maxRecDepth 100000 in
set_option maxHeartbeats 4000000 in
theorem okX7_found {l : Launch} {D : va_G} {tys : List (ClassId × FieldType)} {o : zO} {z : Nat} (E : zEnv tys) : zCodeOk l D vwCl tys o z (zXX o z) zTs zprog mX7_found := by
  intro p e R s m args below meth c0 Q ws0 hbc hbs C pc sem h
  replace hbc : R.cells = 0 := hbc
  replace hbs : R.slots = 0 := hbs
  replace C : zCx p R s m args meth c0 D vwCl tys z (zXX o z) zTs RX7 cX7_found 4 "found" := C
  refine zRows_get (P := fun pc sem => zOp p l e R s m args below meth c0 Q D vwCl tys o z (zXX o z) zTs zprog ws0 4 cX7_found (some .int) pc sem) (c := kX7_found) ?_ h
  unfold kX7_found
  exact (zrs_c (zr_s (zq_iload_n C dX7_found_0 rfl)
    (zr_s (zk_callS C zXX_ok zTs_good hbc hbs (show zget zprog 100 = some mX7_isHour from rfl) rfl rfl zw553 zw551 zw552 zw1 (by decide +kernel) dX7_found_1)
    (zr_n (zr_n (zr_s (zq_if_eq C dX7_found_4 (by decide))
    (zr_n (zr_n (zr_s (zq_aload_n C dX7_found_7 rfl)
    (zr_s (zq_get (k := 1) C dX7_found_8 (show vwCl[7]? = some (RX7, TX7, 16) from rfl) zinX7 (by decide) zw424)
    (zr_n (zr_n (zr_s (zq_iload_n C dX7_found_11 rfl)
    (zr_s (zk_callVN (n := 1) C zXX_ok zTs_good hbc hbs (show zget zprog 19 = some mX0_has from rfl) rfl rfl (show vwCl[0]? = some (RX0, TX0, 12) from rfl) zw550 (fun U H h => zn46 h) zw549 zs23 zw3 (by decide +kernel) dX7_found_12)
    (zr_n (zr_n (zr_s (zq_if_eq C dX7_found_15 (by decide))
    zr_0))))))))))))))))
  (zrs_c (zr_n (zr_n (zr_n (zr_n (zr_n (zr_n (zr_n (zr_n (zr_n (zr_n (zr_n (zr_n (zr_n (zr_n (zr_n (zr_n zr_0))))))))))))))))
  (zrs_c (zr_n (zr_n (zr_n (zr_n (zr_s (zq_iconst (n := .negSucc 0) C dX7_found_36 (by decide))
    (zr_s (zk_ret1 (ty := .int) C hbc hbs rfl rfl (Or.inl ⟨dX7_found_37, by decide⟩))
    (zr_n (zr_n (zr_n (zr_n (zr_n (zr_n (zr_n (zr_n (zr_n (zr_n zr_0))))))))))))))))
  (zrs_c (zr_n (zr_n (zr_n (zr_n (zr_n (zr_n (zr_n (zr_n (zr_n (zr_n (zr_n (zr_n (zr_n (zr_n (zr_n (zr_n zr_0))))))))))))))))
  (zrs_c (zr_n (zr_n (zr_n (zr_n (zr_n (zr_n (zr_n (zr_n (zr_n (zr_n (zr_n (zr_n (zr_n (zr_n (zr_n (zr_n zr_0))))))))))))))))
  (zrs_c (zr_n (zr_n (zr_n zr_0)))
  zrs_0))))))
set_option maxRecDepth 100000 in
set_option maxHeartbeats 4000000 in
theorem okX7_gaps {l : Launch} {D : va_G} {tys : List (ClassId × FieldType)} {o : zO} {z : Nat} (E : zEnv tys) : zCodeOk l D vwCl tys o z (zXX o z) zTs zprog mX7_gaps := by
  intro p e R s m args below meth c0 Q ws0 hbc hbs C pc sem h
  replace hbc : R.cells = 0 := hbc
  replace hbs : R.slots = 0 := hbs
  replace C : zCx p R s m args meth c0 D vwCl tys z (zXX o z) zTs RX7 cX7_gaps 1 "gaps" := C
  refine zRows_get (P := fun pc sem => zOp p l e R s m args below meth c0 Q D vwCl tys o z (zXX o z) zTs zprog ws0 1 cX7_gaps (some .int) pc sem) (c := kX7_gaps) ?_ h
  unfold kX7_gaps
  exact (zrs_c (zr_s (zq_aload_n C dX7_gaps_0 rfl)
    (zr_s (zq_get (k := 1) C dX7_gaps_1 (show vwCl[7]? = some (RX7, TX7, 16) from rfl) zinX7 (by decide) zw424)
    (zr_n (zr_n (zr_s (zq_aload_n C dX7_gaps_4 rfl)
    (zr_s (zq_get (k := 2) C dX7_gaps_5 (show vwCl[7]? = some (RX7, TX7, 16) from rfl) zinX7 (by decide) zw425)
    (zr_n (zr_n (zr_s (zk_callVN (n := 1) C zXX_ok zTs_good hbc hbs (show zget zprog 26 = some mX0_watch from rfl) rfl rfl (show vwCl[0]? = some (RX0, TX0, 12) from rfl) zw661 (fun U H h => zn62 h) zw660 zs37 zw3 (by decide +kernel) dX7_gaps_8)
    (zr_n (zr_n (zr_s (zq_aload_n C dX7_gaps_11 rfl)
    (zr_s (zq_get (k := 9) C dX7_gaps_12 (show vwCl[7]? = some (RX7, TX7, 16) from rfl) zinX7 (by decide) zw432)
    (zr_n (zr_n (zr_s (zq_aload_n C dX7_gaps_15 rfl)
    zr_0))))))))))))))))
  (zrs_c (zr_s (zq_get (k := 1) C dX7_gaps_16 (show vwCl[7]? = some (RX7, TX7, 16) from rfl) zinX7 (by decide) zw424)
    (zr_n (zr_n (zr_s (zq_getN (k := 10) C dX7_gaps_19 (show vwCl[0]? = some (RX0, TX0, 12) from rfl) zinX0 (by decide) (fun U H h => zn14 h))
    (zr_n (zr_n (zr_s (zk_callS C zXX_ok zTs_good hbc hbs (show zget zprog 14 = some mJ6_bitCount_0f7a4 from rfl) rfl rfl zw564 zw645 zw563 zw21 (by decide +kernel) dX7_gaps_22)
    (zr_n (zr_n (zr_s (zk_i2l C dX7_gaps_25)
    (zr_s (zq_aload_n C dX7_gaps_26 rfl)
    (zr_s (zq_get (k := 1) C dX7_gaps_27 (show vwCl[7]? = some (RX7, TX7, 16) from rfl) zinX7 (by decide) zw424)
    (zr_n (zr_n (zr_s (zq_getN (k := 11) C dX7_gaps_30 (show vwCl[0]? = some (RX0, TX0, 12) from rfl) zinX0 (by decide) (fun U H h => zn15 h))
    (zr_n zr_0))))))))))))))))
  (zrs_c (zr_n (zr_s (zk_i2l C dX7_gaps_33)
    (zr_s (zk_callVN (n := 2) C zXX_ok zTs_good hbc hbs (show zget zprog 31 = some mX1_tell_ from rfl) rfl rfl (show vwCl[1]? = some (RX1, TX1, 2) from rfl) zw686 (fun U H h => zn59 h) zw685 zs42 zw15 (by decide +kernel) dX7_gaps_34)
    (zr_n (zr_n (zr_s (zq_aload_n C dX7_gaps_37 rfl)
    (zr_s (zq_get (k := 1) C dX7_gaps_38 (show vwCl[7]? = some (RX7, TX7, 16) from rfl) zinX7 (by decide) zw424)
    (zr_n (zr_n (zr_s (zq_getN (k := 10) C dX7_gaps_41 (show vwCl[0]? = some (RX0, TX0, 12) from rfl) zinX0 (by decide) (fun U H h => zn14 h))
    (zr_n (zr_n (zr_s (zk_ret1 (ty := .int) C hbc hbs rfl rfl (Or.inl ⟨dX7_gaps_44, by decide⟩))
    zr_0)))))))))))))
  zrs_0)))
set_option maxRecDepth 100000 in
set_option maxHeartbeats 4000000 in
theorem okX7_gapsByTrade {l : Launch} {D : va_G} {tys : List (ClassId × FieldType)} {o : zO} {z : Nat} (E : zEnv tys) : zCodeOk l D vwCl tys o z (zXX o z) zTs zprog mX7_gapsByTrade := by
  intro p e R s m args below meth c0 Q ws0 hbc hbs C pc sem h
  replace hbc : R.cells = 0 := hbc
  replace hbs : R.slots = 0 := hbs
  replace C : zCx p R s m args meth c0 D vwCl tys z (zXX o z) zTs RX7 cX7_gapsByTrade 5 "gapsByTrade" := C
  refine zRows_get (P := fun pc sem => zOp p l e R s m args below meth c0 Q D vwCl tys o z (zXX o z) zTs zprog ws0 5 cX7_gapsByTrade (some .int) pc sem) (c := kX7_gapsByTrade) ?_ h
  unfold kX7_gapsByTrade
  exact (zrs_c (zr_s (zq_aload_n C dX7_gapsByTrade_0 rfl)
    (zr_s (zq_get (k := 4) C dX7_gapsByTrade_1 (show vwCl[7]? = some (RX7, TX7, 16) from rfl) zinX7 (by decide) zw427)
    (zr_n (zr_n (zr_s (zq_getN (k := 0) C dX7_gapsByTrade_4 (show vwCl[5]? = some (RX5, TX5, 6) from rfl) zinX5 (by decide) (fun U H h => zn17 h))
    (zr_n (zr_n (zr_s (zq_iload_n C dX7_gapsByTrade_7 rfl)
    (zr_s (zk_iald C dX7_gapsByTrade_8)
    (zr_s (zq_istore_n C dX7_gapsByTrade_9 rfl (by decide))
    (zr_s (zq_aload_n C dX7_gapsByTrade_10 rfl)
    (zr_s (zq_get (k := 4) C dX7_gapsByTrade_11 (show vwCl[7]? = some (RX7, TX7, 16) from rfl) zinX7 (by decide) zw427)
    (zr_n (zr_n (zr_s (zq_getN (k := 0) C dX7_gapsByTrade_14 (show vwCl[5]? = some (RX5, TX5, 6) from rfl) zinX5 (by decide) (fun U H h => zn17 h))
    (zr_n zr_0))))))))))))))))
  (zrs_c (zr_n (zr_s (zq_iload_n C dX7_gapsByTrade_17 rfl)
    (zr_s (zk_iald C dX7_gapsByTrade_18)
    (zr_s (zq_istore C dX7_gapsByTrade_19 (by decide))
    (zr_n (zr_s (zq_aload_n C dX7_gapsByTrade_21 rfl)
    (zr_s (zq_get (k := 4) C dX7_gapsByTrade_22 (show vwCl[7]? = some (RX7, TX7, 16) from rfl) zinX7 (by decide) zw427)
    (zr_n (zr_n (zr_s (zq_getN (k := 0) C dX7_gapsByTrade_25 (show vwCl[5]? = some (RX5, TX5, 6) from rfl) zinX5 (by decide) (fun U H h => zn17 h))
    (zr_n (zr_n (zr_s (zq_iload_n C dX7_gapsByTrade_28 rfl)
    (zr_s (zq_iload C dX7_gapsByTrade_29)
    (zr_n (zr_s (zk_iast C dX7_gapsByTrade_31)
    zr_0))))))))))))))))
  (zrs_c (zr_s (zq_aload_n C dX7_gapsByTrade_32 rfl)
    (zr_s (zq_get (k := 4) C dX7_gapsByTrade_33 (show vwCl[7]? = some (RX7, TX7, 16) from rfl) zinX7 (by decide) zw427)
    (zr_n (zr_n (zr_s (zq_getN (k := 0) C dX7_gapsByTrade_36 (show vwCl[5]? = some (RX5, TX5, 6) from rfl) zinX5 (by decide) (fun U H h => zn17 h))
    (zr_n (zr_n (zr_s (zq_iload_n C dX7_gapsByTrade_39 rfl)
    (zr_s (zq_iload_n C dX7_gapsByTrade_40 rfl)
    (zr_s (zk_iast C dX7_gapsByTrade_41)
    (zr_s (zq_aload_n C dX7_gapsByTrade_42 rfl)
    (zr_s (zq_get (k := 1) C dX7_gapsByTrade_43 (show vwCl[7]? = some (RX7, TX7, 16) from rfl) zinX7 (by decide) zw424)
    (zr_n (zr_n (zr_s (zq_aload_n C dX7_gapsByTrade_46 rfl)
    (zr_s (zq_get (k := 4) C dX7_gapsByTrade_47 (show vwCl[7]? = some (RX7, TX7, 16) from rfl) zinX7 (by decide) zw427)
    zr_0))))))))))))))))
  (zrs_c (zr_n (zr_n (zr_s (zk_callVN (n := 1) C zXX_ok zTs_good hbc hbs (show zget zprog 26 = some mX0_watch from rfl) rfl rfl (show vwCl[0]? = some (RX0, TX0, 12) from rfl) zw661 (fun U H h => zn62 h) zw660 zs37 zw3 (by decide +kernel) dX7_gapsByTrade_50)
    (zr_n (zr_n (zr_s (zq_aload_n C dX7_gapsByTrade_53 rfl)
    (zr_s (zq_get (k := 4) C dX7_gapsByTrade_54 (show vwCl[7]? = some (RX7, TX7, 16) from rfl) zinX7 (by decide) zw427)
    (zr_n (zr_n (zr_s (zq_getN (k := 0) C dX7_gapsByTrade_57 (show vwCl[5]? = some (RX5, TX5, 6) from rfl) zinX5 (by decide) (fun U H h => zn17 h))
    (zr_n (zr_n (zr_s (zq_iload_n C dX7_gapsByTrade_60 rfl)
    (zr_s (zq_iload_n C dX7_gapsByTrade_61 rfl)
    (zr_s (zk_iast C dX7_gapsByTrade_62)
    (zr_s (zq_aload_n C dX7_gapsByTrade_63 rfl)
    zr_0))))))))))))))))
  (zrs_c (zr_s (zq_get (k := 4) C dX7_gapsByTrade_64 (show vwCl[7]? = some (RX7, TX7, 16) from rfl) zinX7 (by decide) zw427)
    (zr_n (zr_n (zr_s (zq_getN (k := 0) C dX7_gapsByTrade_67 (show vwCl[5]? = some (RX5, TX5, 6) from rfl) zinX5 (by decide) (fun U H h => zn17 h))
    (zr_n (zr_n (zr_s (zq_iload_n C dX7_gapsByTrade_70 rfl)
    (zr_s (zq_iload C dX7_gapsByTrade_71)
    (zr_n (zr_s (zk_iast C dX7_gapsByTrade_73)
    (zr_s (zq_aload_n C dX7_gapsByTrade_74 rfl)
    (zr_s (zq_get (k := 1) C dX7_gapsByTrade_75 (show vwCl[7]? = some (RX7, TX7, 16) from rfl) zinX7 (by decide) zw424)
    (zr_n (zr_n (zr_s (zq_getN (k := 10) C dX7_gapsByTrade_78 (show vwCl[0]? = some (RX0, TX0, 12) from rfl) zinX0 (by decide) (fun U H h => zn14 h))
    (zr_n zr_0))))))))))))))))
  (zrs_c (zr_n (zr_s (zk_callS C zXX_ok zTs_good hbc hbs (show zget zprog 14 = some mJ6_bitCount_0f7a4 from rfl) rfl rfl zw564 zw645 zw563 zw21 (by decide +kernel) dX7_gapsByTrade_81)
    (zr_n (zr_n (zr_s (zk_ret1 (ty := .int) C hbc hbs rfl rfl (Or.inl ⟨dX7_gapsByTrade_84, by decide⟩))
    zr_0)))))
  zrs_0))))))
set_option maxRecDepth 100000 in
set_option maxHeartbeats 4000000 in
theorem okX7_give {l : Launch} {D : va_G} {tys : List (ClassId × FieldType)} {o : zO} {z : Nat} (E : zEnv tys) : zCodeOk l D vwCl tys o z (zXX o z) zTs zprog mX7_give := by
  intro p e R s m args below meth c0 Q ws0 hbc hbs C pc sem h
  replace hbc : R.cells = 0 := hbc
  replace hbs : R.slots = 0 := hbs
  replace C : zCx p R s m args meth c0 D vwCl tys z (zXX o z) zTs RX7 cX7_give 4 "give" := C
  refine zRows_get (P := fun pc sem => zOp p l e R s m args below meth c0 Q D vwCl tys o z (zXX o z) zTs zprog ws0 4 cX7_give (some .int) pc sem) (c := kX7_give) ?_ h
  unfold kX7_give
  exact (zrs_c (zr_s (zq_iload_n C dX7_give_0 rfl)
    (zr_s (zk_callS C zXX_ok zTs_good hbc hbs (show zget zprog 100 = some mX7_isHour from rfl) rfl rfl zw553 zw551 zw552 zw1 (by decide +kernel) dX7_give_1)
    (zr_n (zr_n (zr_s (zq_if_eq C dX7_give_4 (by decide))
    (zr_n (zr_n (zr_s (zq_aload_n C dX7_give_7 rfl)
    (zr_s (zq_get (k := 1) C dX7_give_8 (show vwCl[7]? = some (RX7, TX7, 16) from rfl) zinX7 (by decide) zw424)
    (zr_n (zr_n (zr_s (zq_iload_n C dX7_give_11 rfl)
    (zr_s (zk_callVN (n := 1) C zXX_ok zTs_good hbc hbs (show zget zprog 22 = some mX0_isSomebodyOrNobody from rfl) rfl rfl (show vwCl[0]? = some (RX0, TX0, 12) from rfl) zw635 (fun U H h => zn55 h) zw634 zs33 zw3 (by decide +kernel) dX7_give_12)
    (zr_n (zr_n (zr_s (zq_if_ne C dX7_give_15 (by decide))
    zr_0))))))))))))))))
  (zrs_c (zr_n (zr_n (zr_s (zq_bipush (n := .negSucc 1) C dX7_give_18 (by decide) (by decide))
    (zr_n (zr_s (zk_ret1 (ty := .int) C hbc hbs rfl rfl (Or.inl ⟨dX7_give_20, by decide⟩))
    (zr_s (zq_aload_n C dX7_give_21 rfl)
    (zr_s (zq_get (k := 5) C dX7_give_22 (show vwCl[7]? = some (RX7, TX7, 16) from rfl) zinX7 (by decide) zw428)
    (zr_n (zr_n (zr_s (zq_aload_n C dX7_give_25 rfl)
    (zr_s (zq_get (k := 2) C dX7_give_26 (show vwCl[7]? = some (RX7, TX7, 16) from rfl) zinX7 (by decide) zw425)
    (zr_n (zr_n (zr_s (zk_callVN (n := 1) C zXX_ok zTs_good hbc hbs (show zget zprog 34 = some mX2_push from rfl) rfl rfl (show vwCl[2]? = some (RX2, TX2, 3) from rfl) zw625 (fun U H h => zn53 h) zw624 zs32 zw13 (by decide +kernel) dX7_give_29)
    (zr_n (zr_n zr_0))))))))))))))))
  (zrs_c (zr_s (zq_aload_n C dX7_give_32 rfl)
    (zr_s (zq_get (k := 2) C dX7_give_33 (show vwCl[7]? = some (RX7, TX7, 16) from rfl) zinX7 (by decide) zw425)
    (zr_n (zr_n (zr_s (zq_getN (k := 0) C dX7_give_36 (show vwCl[5]? = some (RX5, TX5, 6) from rfl) zinX5 (by decide) (fun U H h => zn17 h))
    (zr_n (zr_n (zr_s (zq_iload_n C dX7_give_39 rfl)
    (zr_s (zk_iald C dX7_give_40)
    (zr_s (zq_istore_n C dX7_give_41 rfl (by decide))
    (zr_s (zq_aload_n C dX7_give_42 rfl)
    (zr_s (zq_get (k := 2) C dX7_give_43 (show vwCl[7]? = some (RX7, TX7, 16) from rfl) zinX7 (by decide) zw425)
    (zr_n (zr_n (zr_s (zq_getN (k := 0) C dX7_give_46 (show vwCl[5]? = some (RX5, TX5, 6) from rfl) zinX5 (by decide) (fun U H h => zn17 h))
    (zr_n zr_0))))))))))))))))
  (zrs_c (zr_n (zr_s (zq_iload_n C dX7_give_49 rfl)
    (zr_s (zq_iload_n C dX7_give_50 rfl)
    (zr_s (zk_iast C dX7_give_51)
    (zr_s (zq_iload_n C dX7_give_52 rfl)
    (zr_s (zk_ret1 (ty := .int) C hbc hbs rfl rfl (Or.inl ⟨dX7_give_53, by decide⟩))
    zr_0))))))
  zrs_0))))
set_option maxRecDepth 100000 in
set_option maxHeartbeats 4000000 in
theorem okX7_greatestShared {l : Launch} {D : va_G} {tys : List (ClassId × FieldType)} {o : zO} {z : Nat} (E : zEnv tys) : zCodeOk l D vwCl tys o z (zXX o z) zTs zprog mX7_greatestShared := by
  intro p e R s m args below meth c0 Q ws0 hbc hbs C pc sem h
  replace hbc : R.cells = 0 := hbc
  replace hbs : R.slots = 0 := hbs
  replace C : zCx p R s m args meth c0 D vwCl tys z (zXX o z) zTs RX7 cX7_greatestShared 7 "greatestShared" := C
  refine zRows_get (P := fun pc sem => zOp p l e R s m args below meth c0 Q D vwCl tys o z (zXX o z) zTs zprog ws0 7 cX7_greatestShared (some .long) pc sem) (c := kX7_greatestShared) ?_ h
  unfold kX7_greatestShared
  exact (zrs_c (zr_s (zq_iconst (n := .ofNat 0) C dX7_greatestShared_0 (by decide))
    (zr_s (zq_istore C dX7_greatestShared_1 (by decide))
    (zr_n (zr_s (zq_iload C dX7_greatestShared_3)
    (zr_n (zr_s (zq_sipush (n := .ofNat 128) C dX7_greatestShared_5 (by decide) (by decide))
    (zr_n (zr_n (zr_s (zq_icmp_ge C dX7_greatestShared_8 (by decide))
    (zr_n (zr_n (zr_s (zq_lload_n C dX7_greatestShared_11 rfl)
    (zr_s (zq_lconst (n := .ofNat 0) C dX7_greatestShared_12 (by decide) (by decide))
    (zr_s (zk_lcmp C dX7_greatestShared_13)
    (zr_s (zq_if_eq C dX7_greatestShared_14 (by decide))
    (zr_n zr_0))))))))))))))))
  (zrs_c (zr_n (zr_s (zq_lload_n C dX7_greatestShared_17 rfl)
    (zr_s (zq_lload_n C dX7_greatestShared_18 rfl)
    (zr_s (zq_lrem C dX7_greatestShared_19)
    (zr_s (zq_lstore C dX7_greatestShared_20 (by decide))
    (zr_n (zr_s (zq_lload_n C dX7_greatestShared_22 rfl)
    (zr_s (zq_lstore_n C dX7_greatestShared_23 rfl (by decide))
    (zr_s (zq_lload C dX7_greatestShared_24)
    (zr_n (zr_s (zq_lstore_n C dX7_greatestShared_26 rfl (by decide))
    (zr_s (zk_inc (n := .ofNat 1) C dX7_greatestShared_27 (by decide) (by decide))
    (zr_n (zr_n (zr_s (zk_goto C dX7_greatestShared_30 (by decide))
    (zr_n zr_0))))))))))))))))
  (zrs_c (zr_n (zr_s (zq_lload_n C dX7_greatestShared_33 rfl)
    (zr_s (zk_ret1 C hbc hbs rfl rfl (Or.inr ⟨dX7_greatestShared_34, rfl⟩))
    zr_0)))
  zrs_0)))
set_option maxRecDepth 100000 in
set_option maxHeartbeats 4000000 in
theorem okX7_hard {l : Launch} {D : va_G} {tys : List (ClassId × FieldType)} {o : zO} {z : Nat} (E : zEnv tys) : zCodeOk l D vwCl tys o z (zXX o z) zTs zprog mX7_hard := by
  intro p e R s m args below meth c0 Q ws0 hbc hbs C pc sem h
  replace hbc : R.cells = 0 := hbc
  replace hbs : R.slots = 0 := hbs
  replace C : zCx p R s m args meth c0 D vwCl tys z (zXX o z) zTs RX7 cX7_hard 3 "hard" := C
  refine zRows_get (P := fun pc sem => zOp p l e R s m args below meth c0 Q D vwCl tys o z (zXX o z) zTs zprog ws0 3 cX7_hard (some .int) pc sem) (c := kX7_hard) ?_ h
  unfold kX7_hard
  exact (zrs_c (zr_s (zq_aload_n C dX7_hard_0 rfl)
    (zr_s (zq_get (k := 1) C dX7_hard_1 (show vwCl[7]? = some (RX7, TX7, 16) from rfl) zinX7 (by decide) zw424)
    (zr_n (zr_n (zr_s (zq_iload_n C dX7_hard_4 rfl)
    (zr_s (zk_callVN (n := 1) C zXX_ok zTs_good hbc hbs (show zget zprog 19 = some mX0_has from rfl) rfl rfl (show vwCl[0]? = some (RX0, TX0, 12) from rfl) zw550 (fun U H h => zn46 h) zw549 zs23 zw3 (by decide +kernel) dX7_hard_5)
    (zr_n (zr_n (zr_s (zq_if_eq C dX7_hard_8 (by decide))
    (zr_n (zr_n (zr_n (zr_n (zr_n (zr_n (zr_n zr_0))))))))))))))))
  (zrs_c (zr_n (zr_n (zr_s (zq_iconst (n := .negSucc 0) C dX7_hard_18 (by decide))
    (zr_s (zk_ret1 (ty := .int) C hbc hbs rfl rfl (Or.inl ⟨dX7_hard_19, by decide⟩))
    (zr_n (zr_n (zr_n (zr_n (zr_n (zr_n (zr_n zr_0)))))))))))
  zrs_0))
set_option maxRecDepth 100000 in
set_option maxHeartbeats 4000000 in
theorem okX7_hardOfRota {l : Launch} {D : va_G} {tys : List (ClassId × FieldType)} {o : zO} {z : Nat} (E : zEnv tys) : zCodeOk l D vwCl tys o z (zXX o z) zTs zprog mX7_hardOfRota := by
  intro p e R s m args below meth c0 Q ws0 hbc hbs C pc sem h
  replace hbc : R.cells = 0 := hbc
  replace hbs : R.slots = 0 := hbs
  replace C : zCx p R s m args meth c0 D vwCl tys z (zXX o z) zTs RX7 cX7_hardOfRota 5 "hardOfRota" := C
  refine zRows_get (P := fun pc sem => zOp p l e R s m args below meth c0 Q D vwCl tys o z (zXX o z) zTs zprog ws0 5 cX7_hardOfRota (some .int) pc sem) (c := kX7_hardOfRota) ?_ h
  unfold kX7_hardOfRota
  exact (zrs_c (zr_s (zq_iconst (n := .ofNat 0) C dX7_hardOfRota_0 (by decide))
    (zr_s (zq_istore_n C dX7_hardOfRota_1 rfl (by decide))
    (zr_s (zq_iconst (n := .ofNat 0) C dX7_hardOfRota_2 (by decide))
    (zr_s (zq_istore_n C dX7_hardOfRota_3 rfl (by decide))
    (zr_s (zq_iload_n C dX7_hardOfRota_4 rfl)
    (zr_s (zq_aload_n C dX7_hardOfRota_5 rfl)
    (zr_s (zq_get (k := 1) C dX7_hardOfRota_6 (show vwCl[7]? = some (RX7, TX7, 16) from rfl) zinX7 (by decide) zw424)
    (zr_n (zr_n (zr_s (zq_getN (k := 7) C dX7_hardOfRota_9 (show vwCl[0]? = some (RX0, TX0, 12) from rfl) zinX0 (by decide) (fun U H h => zn11 h))
    (zr_n (zr_n (zr_s (zq_icmp_ge C dX7_hardOfRota_12 (by decide))
    (zr_n (zr_n (zr_s (zq_aload_n C dX7_hardOfRota_15 rfl)
    zr_0))))))))))))))))
  (zrs_c (zr_s (zq_get (k := 2) C dX7_hardOfRota_16 (show vwCl[7]? = some (RX7, TX7, 16) from rfl) zinX7 (by decide) zw425)
    (zr_n (zr_n (zr_s (zq_getN (k := 0) C dX7_hardOfRota_19 (show vwCl[5]? = some (RX5, TX5, 6) from rfl) zinX5 (by decide) (fun U H h => zn17 h))
    (zr_n (zr_n (zr_s (zq_iload_n C dX7_hardOfRota_22 rfl)
    (zr_s (zk_iald C dX7_hardOfRota_23)
    (zr_s (zq_istore C dX7_hardOfRota_24 (by decide))
    (zr_n (zr_s (zq_iload_n C dX7_hardOfRota_26 rfl)
    (zr_s (zq_aload_n C dX7_hardOfRota_27 rfl)
    (zr_s (zq_get (k := 1) C dX7_hardOfRota_28 (show vwCl[7]? = some (RX7, TX7, 16) from rfl) zinX7 (by decide) zw424)
    (zr_n (zr_n (zr_s (zq_iload C dX7_hardOfRota_31)
    zr_0))))))))))))))))
  (zrs_c (zr_n (zr_s (zk_callVN (n := 1) C zXX_ok zTs_good hbc hbs (show zget zprog 19 = some mX0_has from rfl) rfl rfl (show vwCl[0]? = some (RX0, TX0, 12) from rfl) zw550 (fun U H h => zn46 h) zw549 zs23 zw3 (by decide +kernel) dX7_hardOfRota_33)
    (zr_n (zr_n (zr_s (zq_if_eq C dX7_hardOfRota_36 (by decide))
    (zr_n (zr_n (zr_n (zr_n (zr_n (zr_n (zr_n (zr_n (zr_n (zr_n (zr_n zr_0))))))))))))))))
  (zrs_c (zr_n (zr_n (zr_n (zr_n (zr_n (zr_n (zr_n (zr_n (zr_n (zr_s (zq_iconst (n := .ofNat 0) C dX7_hardOfRota_57 (by decide))
    (zr_s (zk_add C dX7_hardOfRota_58)
    (zr_s (zq_istore_n C dX7_hardOfRota_59 rfl (by decide))
    (zr_s (zk_inc (n := .ofNat 1) C dX7_hardOfRota_60 (by decide) (by decide))
    (zr_n (zr_n (zr_s (zk_goto C dX7_hardOfRota_63 (by decide))
    zr_0))))))))))))))))
  (zrs_c (zr_n (zr_n (zr_s (zq_iload_n C dX7_hardOfRota_66 rfl)
    (zr_s (zk_ret1 (ty := .int) C hbc hbs rfl rfl (Or.inl ⟨dX7_hardOfRota_67, by decide⟩))
    zr_0))))
  zrs_0)))))
set_option maxRecDepth 100000 in
set_option maxHeartbeats 4000000 in
theorem okX7_held {l : Launch} {D : va_G} {tys : List (ClassId × FieldType)} {o : zO} {z : Nat} (E : zEnv tys) : zCodeOk l D vwCl tys o z (zXX o z) zTs zprog mX7_held := by
  intro p e R s m args below meth c0 Q ws0 hbc hbs C pc sem h
  replace hbc : R.cells = 0 := hbc
  replace hbs : R.slots = 0 := hbs
  replace C : zCx p R s m args meth c0 D vwCl tys z (zXX o z) zTs RX7 cX7_held 2 "held" := C
  refine zRows_get (P := fun pc sem => zOp p l e R s m args below meth c0 Q D vwCl tys o z (zXX o z) zTs zprog ws0 2 cX7_held (some .int) pc sem) (c := kX7_held) ?_ h
  unfold kX7_held
  exact (zrs_c (zr_s (zq_iload_n C dX7_held_0 rfl)
    (zr_s (zq_if_lt C dX7_held_1 (by decide))
    (zr_n (zr_n (zr_s (zq_iload_n C dX7_held_4 rfl)
    (zr_s (zq_bipush (n := .ofNat 10) C dX7_held_5 (by decide) (by decide))
    (zr_n (zr_s (zq_icmp_le C dX7_held_7 (by decide))
    (zr_n (zr_n (zr_s (zq_iconst (n := .negSucc 0) C dX7_held_10 (by decide))
    (zr_s (zk_ret1 (ty := .int) C hbc hbs rfl rfl (Or.inl ⟨dX7_held_11, by decide⟩))
    (zr_s (zq_aload_n C dX7_held_12 rfl)
    (zr_s (zq_iconst (n := .negSucc 0) C dX7_held_13 (by decide))
    (zr_s (zk_callV (n := 1) C zXX_ok zTs_good hbc hbs (show zget zprog 111 = some mX7_openSeats from rfl) rfl rfl (show vwCl[7]? = some (RX7, TX7, 16) from rfl) zw781 zw778 zw780 zs55 zw1 (by decide +kernel) dX7_held_14)
    (zr_n zr_0))))))))))))))))
  (zrs_c (zr_n (zr_s (zq_aload_n C dX7_held_17 rfl)
    (zr_s (zq_get (k := 8) C dX7_held_18 (show vwCl[7]? = some (RX7, TX7, 16) from rfl) zinX7 (by decide) zw431)
    (zr_n (zr_n (zr_s (zk_callVN (n := 0) C zXX_ok zTs_good hbc hbs (show zget zprog 52 = some mX4_findLacks from rfl) rfl rfl (show vwCl[4]? = some (RX4, TX4, 15) from rfl) zw1020 (fun U H h => zn87 h) zw1019 zs86 zw14 (by decide +kernel) dX7_held_21)
    (zr_n (zr_n (zr_s (zq_aload_n C dX7_held_24 rfl)
    (zr_s (zq_aload_n C dX7_held_25 rfl)
    (zr_s (zq_aload_n C dX7_held_26 rfl)
    (zr_s (zk_callV (n := 0) C zXX_ok zTs_good hbc hbs (show zget zprog 139 = some mX7_wellOnes from rfl) rfl rfl (show vwCl[7]? = some (RX7, TX7, 16) from rfl) zw913 zw910 zw912 zs74 zw1 (by decide +kernel) dX7_held_27)
    (zr_n (zr_n (zr_s (zq_iload_n C dX7_held_30 rfl)
    (zr_s (zk_callV (n := 2) C zXX_ok zTs_good hbc hbs (show zget zprog 75 = some mX7_chance from rfl) rfl rfl (show vwCl[7]? = some (RX7, TX7, 16) from rfl) zw1029 zw1026 zw1028 zs88 zw1 (by decide +kernel) dX7_held_31)
    zr_0))))))))))))))))
  (zrs_c (zr_n (zr_n (zr_s (zq_bipush (n := .ofNat 10) C dX7_held_34 (by decide) (by decide))
    (zr_n (zr_s (zq_aload_n C dX7_held_36 rfl)
    (zr_s (zk_callV (n := 0) C zXX_ok zTs_good hbc hbs (show zget zprog 139 = some mX7_wellOnes from rfl) rfl rfl (show vwCl[7]? = some (RX7, TX7, 16) from rfl) zw913 zw910 zw912 zs74 zw1 (by decide +kernel) dX7_held_37)
    (zr_n (zr_n (zr_s (zk_callS C zXX_ok zTs_good hbc hbs (show zget zprog 14 = some mJ6_bitCount_0f7a4 from rfl) rfl rfl zw564 zw645 zw563 zw21 (by decide +kernel) dX7_held_40)
    (zr_n (zr_n (zr_s (zk_callS C zXX_ok zTs_good hbc hbs (show zget zprog 113 = some mX7_power from rfl) rfl rfl zw1036 zw1034 zw1035 zw1 (by decide +kernel) dX7_held_43)
    (zr_n (zr_n (zr_s (zk_callV (n := 2) C zXX_ok zTs_good hbc hbs (show zget zprog 133 = some mX7_tellFraction from rfl) rfl rfl (show vwCl[7]? = some (RX7, TX7, 16) from rfl) zw988 zw985 zw987 zs81 zw1 (by decide +kernel) dX7_held_46)
    (zr_n zr_0))))))))))))))))
  (zrs_c (zr_n (zr_s (zq_iconst (n := .ofNat 0) C dX7_held_49 (by decide))
    (zr_s (zk_ret1 (ty := .int) C hbc hbs rfl rfl (Or.inl ⟨dX7_held_50, by decide⟩))
    zr_0)))
  zrs_0))))
set_option maxRecDepth 100000 in
set_option maxHeartbeats 4000000 in
theorem okX7_ill {l : Launch} {D : va_G} {tys : List (ClassId × FieldType)} {o : zO} {z : Nat} (E : zEnv tys) : zCodeOk l D vwCl tys o z (zXX o z) zTs zprog mX7_ill := by
  intro p e R s m args below meth c0 Q ws0 hbc hbs C pc sem h
  replace hbc : R.cells = 0 := hbc
  replace hbs : R.slots = 0 := hbs
  replace C : zCx p R s m args meth c0 D vwCl tys z (zXX o z) zTs RX7 cX7_ill 2 "ill" := C
  refine zRows_get (P := fun pc sem => zOp p l e R s m args below meth c0 Q D vwCl tys o z (zXX o z) zTs zprog ws0 2 cX7_ill (some .int) pc sem) (c := kX7_ill) ?_ h
  unfold kX7_ill
  exact (zrs_c (zr_s (zq_aload_n C dX7_ill_0 rfl)
    (zr_s (zq_get (k := 1) C dX7_ill_1 (show vwCl[7]? = some (RX7, TX7, 16) from rfl) zinX7 (by decide) zw424)
    (zr_n (zr_n (zr_s (zq_iload_n C dX7_ill_4 rfl)
    (zr_s (zk_callVN (n := 1) C zXX_ok zTs_good hbc hbs (show zget zprog 19 = some mX0_has from rfl) rfl rfl (show vwCl[0]? = some (RX0, TX0, 12) from rfl) zw550 (fun U H h => zn46 h) zw549 zs23 zw3 (by decide +kernel) dX7_ill_5)
    (zr_n (zr_n (zr_s (zq_if_ne C dX7_ill_8 (by decide))
    (zr_n (zr_n (zr_s (zq_iconst (n := .negSucc 0) C dX7_ill_11 (by decide))
    (zr_s (zk_ret1 (ty := .int) C hbc hbs rfl rfl (Or.inl ⟨dX7_ill_12, by decide⟩))
    (zr_n (zr_n (zr_n zr_0))))))))))))))))
  (zrs_c (zr_n (zr_n (zr_n (zr_n (zr_n (zr_n (zr_n (zr_n (zr_n (zr_n (zr_n (zr_n (zr_n (zr_n (zr_n (zr_n zr_0))))))))))))))))
  (zrs_c (zr_n (zr_n (zr_n (zr_n (zr_n (zr_n (zr_n (zr_n (zr_n (zr_n (zr_n zr_0)))))))))))
  zrs_0)))
set_option maxRecDepth 100000 in
set_option maxHeartbeats 4000000 in
theorem okX7_init {l : Launch} {D : va_G} {tys : List (ClassId × FieldType)} {o : zO} {z : Nat} (E : zEnv tys) : zCodeOk l D vwCl tys o z (zXX o z) zTs zprog mX7_init := by
  intro p e R s m args below meth c0 Q ws0 hbc hbs C pc sem h
  replace hbc : R.cells = 93 := hbc
  replace hbs : R.slots = 4615 := hbs
  replace C : zCx p R s m args meth c0 D vwCl tys z (zXX o z) zTs RX7 cX7_init 2 "<init>" := C
  refine zRows_get (P := fun pc sem => zOp p l e R s m args below meth c0 Q D vwCl tys o z (zXX o z) zTs zprog ws0 2 cX7_init none pc sem) (c := kX7_init) ?_ h
  unfold kX7_init
  exact (zrs_c (zr_s (zq_aload_n C dX7_init_0 rfl)
    (zr_s (zk_objInit C dX7_init_1 zw28 zw29 zw30)
    (zr_n (zr_n (zr_s (zq_aload_n C dX7_init_4 rfl)
    (zr_s (zk_new C hbc hbs dX7_init_5 (show vwCl[6]? = some (RX6, TX6, 2) from rfl) zinX6 tyX6 tyX6_ok zw31 zw32 zw2 zdfX6 (fun ad => zfrX6 o ad))
    (zr_n (zr_n (zr_s (zk_dup C dX7_init_8)
    (zr_s (zk_callIN (n := 0) C zXX_ok zTs_good hbc hbs (show zget zprog 69 = some mX6_init from rfl) rfl rfl rfl zw35 (fun U H h => zn0 h) zw34 zw2 rfl (by decide +kernel) dX7_init_9)
    (zr_n (zr_n (zr_s (zq_putF (k := 0) C dX7_init_12 (show vwCl[7]? = some (RX7, TX7, 16) from rfl) zinX7 tyX7 tyX7_ok nmX7 (by decide) zw423 rfl rfl rfl (ty := (.object "RockingHorse$Text")) (by decide +kernel) rfl)
    (zr_n (zr_n (zr_s (zq_aload_n C dX7_init_15 rfl)
    zr_0))))))))))))))))
  (zrs_c (zr_s (zk_new C hbc hbs dX7_init_16 (show vwCl[0]? = some (RX0, TX0, 12) from rfl) zinX0 tyX0 tyX0_ok zw48 zw49 zw3 zdfX0 (fun ad => zfrX0 o ad))
    (zr_n (zr_n (zr_s (zk_dup C dX7_init_19)
    (zr_s (zk_callIN (n := 0) C zXX_ok zTs_good hbc hbs (show zget zprog 20 = some mX0_init from rfl) rfl rfl rfl zw52 (fun U H h => zn4 h) zw51 zw3 rfl (by decide +kernel) dX7_init_20)
    (zr_n (zr_n (zr_s (zq_putF (k := 1) C dX7_init_23 (show vwCl[7]? = some (RX7, TX7, 16) from rfl) zinX7 tyX7 tyX7_ok nmX7 (by decide) zw424 rfl rfl rfl (ty := (.object "RockingHorse$House")) (by decide +kernel) rfl)
    (zr_n (zr_n (zr_s (zq_aload_n C dX7_init_26 rfl)
    (zr_s (zk_new C hbc hbs dX7_init_27 (show vwCl[5]? = some (RX5, TX5, 6) from rfl) zinX5 tyX5 tyX5_ok zw292 zw293 zw11 zdfX5 (fun ad => zfrX5 o ad))
    (zr_n (zr_n (zr_s (zk_dup C dX7_init_30)
    (zr_s (zk_callIN (n := 0) C zXX_ok zTs_good hbc hbs (show zget zprog 63 = some mX5_init from rfl) rfl rfl rfl zw296 (fun U H h => zn16 h) zw295 zw11 rfl (by decide +kernel) dX7_init_31)
    zr_0))))))))))))))))
  (zrs_c (zr_n (zr_n (zr_s (zq_putF (k := 2) C dX7_init_34 (show vwCl[7]? = some (RX7, TX7, 16) from rfl) zinX7 tyX7 tyX7_ok nmX7 (by decide) zw425 rfl rfl rfl (ty := (.object "RockingHorse$State")) (by decide +kernel) rfl)
    (zr_n (zr_n (zr_s (zq_aload_n C dX7_init_37 rfl)
    (zr_s (zk_new C hbc hbs dX7_init_38 (show vwCl[5]? = some (RX5, TX5, 6) from rfl) zinX5 tyX5 tyX5_ok zw292 zw293 zw11 zdfX5 (fun ad => zfrX5 o ad))
    (zr_n (zr_n (zr_s (zk_dup C dX7_init_41)
    (zr_s (zk_callIN (n := 0) C zXX_ok zTs_good hbc hbs (show zget zprog 63 = some mX5_init from rfl) rfl rfl rfl zw296 (fun U H h => zn16 h) zw295 zw11 rfl (by decide +kernel) dX7_init_42)
    (zr_n (zr_n (zr_s (zq_putF (k := 3) C dX7_init_45 (show vwCl[7]? = some (RX7, TX7, 16) from rfl) zinX7 tyX7 tyX7_ok nmX7 (by decide) zw426 rfl rfl rfl (ty := (.object "RockingHorse$State")) (by decide +kernel) rfl)
    (zr_n (zr_n zr_0))))))))))))))))
  (zrs_c (zr_s (zq_aload_n C dX7_init_48 rfl)
    (zr_s (zk_new C hbc hbs dX7_init_49 (show vwCl[5]? = some (RX5, TX5, 6) from rfl) zinX5 tyX5 tyX5_ok zw292 zw293 zw11 zdfX5 (fun ad => zfrX5 o ad))
    (zr_n (zr_n (zr_s (zk_dup C dX7_init_52)
    (zr_s (zk_callIN (n := 0) C zXX_ok zTs_good hbc hbs (show zget zprog 63 = some mX5_init from rfl) rfl rfl rfl zw296 (fun U H h => zn16 h) zw295 zw11 rfl (by decide +kernel) dX7_init_53)
    (zr_n (zr_n (zr_s (zq_putF (k := 4) C dX7_init_56 (show vwCl[7]? = some (RX7, TX7, 16) from rfl) zinX7 tyX7 tyX7_ok nmX7 (by decide) zw427 rfl rfl rfl (ty := (.object "RockingHorse$State")) (by decide +kernel) rfl)
    (zr_n (zr_n (zr_s (zq_aload_n C dX7_init_59 rfl)
    (zr_s (zk_new C hbc hbs dX7_init_60 (show vwCl[2]? = some (RX2, TX2, 3) from rfl) zinX2 tyX2 tyX2_ok zw331 zw332 zw13 zdfX2 (fun ad => zfrX2 o ad))
    (zr_n (zr_n (zr_s (zk_dup C dX7_init_63)
    zr_0))))))))))))))))
  (zrs_c (zr_s (zk_callIN (n := 0) C zXX_ok zTs_good hbc hbs (show zget zprog 32 = some mX2_init from rfl) rfl rfl rfl zw335 (fun U H h => zn28 h) zw334 zw13 rfl (by decide +kernel) dX7_init_64)
    (zr_n (zr_n (zr_s (zq_putF (k := 5) C dX7_init_67 (show vwCl[7]? = some (RX7, TX7, 16) from rfl) zinX7 tyX7 tyX7_ok nmX7 (by decide) zw428 rfl rfl rfl (ty := (.object "RockingHorse$Past")) (by decide +kernel) rfl)
    (zr_n (zr_n (zr_s (zq_aload_n C dX7_init_70 rfl)
    (zr_s (zq_iconst (n := .ofNat 2) C dX7_init_71 (by decide))
    (zr_s (zk_newq (ci := 5) (Cn := "RockingHorse$State") C hbc hbs dX7_init_72 zw292 (fun U H h => zxA h) rfl E.2.2.2.2)
    (zr_n (zr_n (zr_s (zq_putF (k := 6) C dX7_init_75 (show vwCl[7]? = some (RX7, TX7, 16) from rfl) zinX7 tyX7 tyX7_ok nmX7 (by decide) zw429 rfl rfl rfl (ty := (.array (.object "RockingHorse$State"))) (by decide +kernel) rfl)
    (zr_n (zr_n (zr_s (zq_aload_n C dX7_init_78 rfl)
    (zr_s (zq_iconst (n := .ofNat 2) C dX7_init_79 (by decide))
    zr_0))))))))))))))))
  (zrs_c (zr_s (zq_newZ C hbc hbs dX7_init_80 zw244 E.2.2.1)
    (zr_n (zr_s (zq_putF (k := 7) C dX7_init_82 (show vwCl[7]? = some (RX7, TX7, 16) from rfl) zinX7 tyX7 tyX7_ok nmX7 (by decide) zw430 rfl rfl rfl (ty := (.array .boolean)) (by decide +kernel) rfl)
    (zr_n (zr_n (zr_s (zq_aload_n C dX7_init_85 rfl)
    (zr_s (zk_new C hbc hbs dX7_init_86 (show vwCl[4]? = some (RX4, TX4, 15) from rfl) zinX4 tyX4 tyX4_ok zw351 zw352 zw14 zdfX4 (fun ad => zfrX4 o ad))
    (zr_n (zr_n (zr_s (zk_dup C dX7_init_89)
    (zr_s (zk_callIN (n := 0) C zXX_ok zTs_good hbc hbs (show zget zprog 54 = some mX4_init from rfl) rfl rfl rfl zw355 (fun U H h => zn31 h) zw354 zw14 rfl (by decide +kernel) dX7_init_90)
    (zr_n (zr_n (zr_s (zq_putF (k := 8) C dX7_init_93 (show vwCl[7]? = some (RX7, TX7, 16) from rfl) zinX7 tyX7 tyX7_ok nmX7 (by decide) zw431 rfl rfl rfl (ty := (.object "RockingHorse$Seats")) (by decide +kernel) rfl)
    (zr_n (zr_n zr_0))))))))))))))))
  (zrs_c (zr_s (zq_aload_n C dX7_init_96 rfl)
    (zr_s (zk_new C hbc hbs dX7_init_97 (show vwCl[1]? = some (RX1, TX1, 2) from rfl) zinX1 tyX1 tyX1_ok zw407 zw408 zw15 zdfX1 (fun ad => zfrX1 o ad))
    (zr_n (zr_n (zr_s (zk_dup C dX7_init_100)
    (zr_s (zk_callIN (n := 0) C zXX_ok zTs_good hbc hbs (show zget zprog 29 = some mX1_init from rfl) rfl rfl rfl zw411 (fun U H h => zn35 h) zw410 zw15 rfl (by decide +kernel) dX7_init_101)
    (zr_n (zr_n (zr_s (zq_putF (k := 9) C dX7_init_104 (show vwCl[7]? = some (RX7, TX7, 16) from rfl) zinX7 tyX7 tyX7_ok nmX7 (by decide) zw432 rfl rfl rfl (ty := (.object "RockingHorse$Numbers")) (by decide +kernel) rfl)
    (zr_n (zr_n (zr_s (zq_aload_n C dX7_init_107 rfl)
    (zr_s (zq_bipush (n := .ofNat 12) C dX7_init_108 (by decide) (by decide))
    (zr_n (zr_s (zq_newI C hbc hbs dX7_init_110 zw47 E.1)
    (zr_n zr_0))))))))))))))))
  (zrs_c (zr_s (zq_putF (k := 10) C dX7_init_112 (show vwCl[7]? = some (RX7, TX7, 16) from rfl) zinX7 tyX7 tyX7_ok nmX7 (by decide) zw433 rfl rfl rfl (ty := (.array .int)) (by decide +kernel) rfl)
    (zr_n (zr_n (zr_s (zq_aload_n C dX7_init_115 rfl)
    (zr_s (zq_bipush (n := .ofNat 12) C dX7_init_116 (by decide) (by decide))
    (zr_n (zr_s (zq_newI C hbc hbs dX7_init_118 zw47 E.1)
    (zr_n (zr_s (zq_putF (k := 11) C dX7_init_120 (show vwCl[7]? = some (RX7, TX7, 16) from rfl) zinX7 tyX7 tyX7_ok nmX7 (by decide) zw434 rfl rfl rfl (ty := (.array .int)) (by decide +kernel) rfl)
    (zr_n (zr_n (zr_s (zq_aload_n C dX7_init_123 rfl)
    (zr_s (zq_bipush (n := .ofNat 12) C dX7_init_124 (by decide) (by decide))
    (zr_n (zr_s (zq_newI C hbc hbs dX7_init_126 zw47 E.1)
    (zr_n zr_0))))))))))))))))
  (zrs_c (zr_s (zq_putF (k := 12) C dX7_init_128 (show vwCl[7]? = some (RX7, TX7, 16) from rfl) zinX7 tyX7 tyX7_ok nmX7 (by decide) zw435 rfl rfl rfl (ty := (.array .int)) (by decide +kernel) rfl)
    (zr_n (zr_n (zr_s (zq_aload_n C dX7_init_131 rfl)
    (zr_s (zk_new C hbc hbs dX7_init_132 (show vwCl[3]? = some (RX3, TX3, 9) from rfl) zinX3 tyX3 tyX3_ok zw421 zw55 zw4 zdfX3 (fun ad => zfrX3 o ad))
    (zr_n (zr_n (zr_s (zk_dup C dX7_init_135)
    (zr_s (zk_callIN (n := 0) C zXX_ok zTs_good hbc hbs (show zget zprog 40 = some mX3_init from rfl) rfl rfl rfl zw58 (fun U H h => zn37 h) zw57 zw4 rfl (by decide +kernel) dX7_init_136)
    (zr_n (zr_n (zr_s (zq_put (k := 14) C dX7_init_139 (show vwCl[7]? = some (RX7, TX7, 16) from rfl) zinX7 tyX7 tyX7_ok nmX7 (by decide) zw437 rfl (ty := (.object "RockingHorse$Rule")) (by decide +kernel) rfl)
    (zr_n (zr_n (zr_s (zq_iconst (n := .ofNat 0) C dX7_init_142 (by decide))
    (zr_s (zq_istore_n C dX7_init_143 rfl (by decide))
    zr_0))))))))))))))))
  (zrs_c (zr_s (zq_iload_n C dX7_init_144 rfl)
    (zr_s (zq_iconst (n := .ofNat 2) C dX7_init_145 (by decide))
    (zr_s (zq_icmp_ge C dX7_init_146 (by decide))
    (zr_n (zr_n (zr_s (zq_aload_n C dX7_init_149 rfl)
    (zr_s (zq_get (k := 6) C dX7_init_150 (show vwCl[7]? = some (RX7, TX7, 16) from rfl) zinX7 (by decide) zw429)
    (zr_n (zr_n (zr_s (zq_iload_n C dX7_init_153 rfl)
    (zr_s (zk_new C hbc hbs dX7_init_154 (show vwCl[5]? = some (RX5, TX5, 6) from rfl) zinX5 tyX5 tyX5_ok zw292 zw293 zw11 zdfX5 (fun ad => zfrX5 o ad))
    (zr_n (zr_n (zr_s (zk_dup C dX7_init_157)
    (zr_s (zk_callIN (n := 0) C zXX_ok zTs_good hbc hbs (show zget zprog 63 = some mX5_init from rfl) rfl rfl rfl zw296 (fun U H h => zn16 h) zw295 zw11 rfl (by decide +kernel) dX7_init_158)
    (zr_n zr_0))))))))))))))))
  (zrs_c (zr_n (zr_s (zk_aast C dX7_init_161 (fun _ _ => trivial))
    (zr_s (zk_inc (n := .ofNat 1) C dX7_init_162 (by decide) (by decide))
    (zr_n (zr_n (zr_s (zk_goto C dX7_init_165 (by decide))
    (zr_n (zr_n (zr_s (zk_ret0 C hbc hbs rfl dX7_init_168)
    zr_0)))))))))
  zrs_0)))))))))))
set_option maxRecDepth 100000 in
set_option maxHeartbeats 4000000 in
theorem okX7_isAtRest {l : Launch} {D : va_G} {tys : List (ClassId × FieldType)} {o : zO} {z : Nat} (E : zEnv tys) : zCodeOk l D vwCl tys o z (zXX o z) zTs zprog mX7_isAtRest := by
  intro p e R s m args below meth c0 Q ws0 hbc hbs C pc sem h
  replace hbc : R.cells = 0 := hbc
  replace hbs : R.slots = 0 := hbs
  replace C : zCx p R s m args meth c0 D vwCl tys z (zXX o z) zTs RX7 cX7_isAtRest 7 "isAtRest" := C
  refine zRows_get (P := fun pc sem => zOp p l e R s m args below meth c0 Q D vwCl tys o z (zXX o z) zTs zprog ws0 7 cX7_isAtRest (some .boolean) pc sem) (c := kX7_isAtRest) ?_ h
  unfold kX7_isAtRest
  exact (zrs_c (zr_s (zq_iload_n C dX7_isAtRest_0 rfl)
    (zr_s (zq_iload_n C dX7_isAtRest_1 rfl)
    (zr_s (zq_icmp_lt C dX7_isAtRest_2 (by decide))
    (zr_n (zr_n (zr_s (zq_iload_n C dX7_isAtRest_5 rfl)
    (zr_s (zq_iload_n C dX7_isAtRest_6 rfl)
    (zr_s (zk_sub C dX7_isAtRest_7)
    (zr_s (zk_goto C dX7_isAtRest_8 (by decide))
    (zr_n (zr_n (zr_s (zq_iconst (n := .ofNat 0) C dX7_isAtRest_11 (by decide))
    (zr_s (zq_istore C dX7_isAtRest_12 (by decide))
    (zr_n (zr_s (zq_iload_n C dX7_isAtRest_14 rfl)
    (zr_s (zq_iload_n C dX7_isAtRest_15 rfl)
    zr_0))))))))))))))))
  (zrs_c (zr_s (zq_icmp_le C dX7_isAtRest_16 (by decide))
    (zr_n (zr_n (zr_s (zq_iload_n C dX7_isAtRest_19 rfl)
    (zr_s (zq_iload_n C dX7_isAtRest_20 rfl)
    (zr_s (zk_sub C dX7_isAtRest_21)
    (zr_s (zk_goto C dX7_isAtRest_22 (by decide))
    (zr_n (zr_n (zr_s (zq_iconst (n := .ofNat 0) C dX7_isAtRest_25 (by decide))
    (zr_s (zq_istore C dX7_isAtRest_26 (by decide))
    (zr_n (zr_s (zq_iconst (n := .ofNat 0) C dX7_isAtRest_28 (by decide))
    (zr_s (zq_istore C dX7_isAtRest_29 (by decide))
    (zr_n (zr_s (zq_iload C dX7_isAtRest_31)
    zr_0))))))))))))))))
  (zrs_c (zr_n (zr_s (zq_bipush (n := .ofNat 10) C dX7_isAtRest_33 (by decide) (by decide))
    (zr_n (zr_s (zq_icmp_ge C dX7_isAtRest_35 (by decide))
    (zr_n (zr_n (zr_s (zq_iload C dX7_isAtRest_38)
    (zr_n (zr_s (zq_iload_n C dX7_isAtRest_40 rfl)
    (zr_s (zq_icmp_lt C dX7_isAtRest_41 (by decide))
    (zr_n (zr_n (zr_s (zq_iload_n C dX7_isAtRest_44 rfl)
    (zr_s (zq_iload_n C dX7_isAtRest_45 rfl)
    (zr_s (zk_sub C dX7_isAtRest_46)
    (zr_s (zk_goto C dX7_isAtRest_47 (by decide))
    zr_0))))))))))))))))
  (zrs_c (zr_n (zr_n (zr_s (zq_iconst (n := .ofNat 0) C dX7_isAtRest_50 (by decide))
    (zr_s (zq_iload C dX7_isAtRest_51)
    (zr_n (zr_s (zq_icmp_gt C dX7_isAtRest_53 (by decide))
    (zr_n (zr_n (zr_s (zq_iload C dX7_isAtRest_56)
    (zr_n (zr_s (zq_iload_n C dX7_isAtRest_58 rfl)
    (zr_s (zq_icmp_le C dX7_isAtRest_59 (by decide))
    (zr_n (zr_n (zr_s (zq_iload_n C dX7_isAtRest_62 rfl)
    (zr_s (zq_iload_n C dX7_isAtRest_63 rfl)
    zr_0))))))))))))))))
  (zrs_c (zr_s (zk_sub C dX7_isAtRest_64)
    (zr_s (zk_goto C dX7_isAtRest_65 (by decide))
    (zr_n (zr_n (zr_s (zq_iconst (n := .ofNat 0) C dX7_isAtRest_68 (by decide))
    (zr_s (zq_iload C dX7_isAtRest_69)
    (zr_n (zr_s (zq_icmp_le C dX7_isAtRest_71 (by decide))
    (zr_n (zr_n (zr_s (zq_iconst (n := .ofNat 0) C dX7_isAtRest_74 (by decide))
    (zr_s (zk_ret1 (ty := .boolean) C hbc hbs rfl rfl (Or.inl ⟨dX7_isAtRest_75, by decide⟩))
    (zr_s (zk_inc (n := .ofNat 1) C dX7_isAtRest_76 (by decide) (by decide))
    (zr_n (zr_n (zr_s (zk_goto C dX7_isAtRest_79 (by decide))
    zr_0))))))))))))))))
  (zrs_c (zr_n (zr_n (zr_s (zq_iconst (n := .ofNat 1) C dX7_isAtRest_82 (by decide))
    (zr_s (zk_ret1 (ty := .boolean) C hbc hbs rfl rfl (Or.inl ⟨dX7_isAtRest_83, by decide⟩))
    zr_0))))
  zrs_0))))))
set_option maxRecDepth 100000 in
set_option maxHeartbeats 4000000 in
theorem okX7_isDigit {l : Launch} {D : va_G} {tys : List (ClassId × FieldType)} {o : zO} {z : Nat} (E : zEnv tys) : zCodeOk l D vwCl tys o z (zXX o z) zTs zprog mX7_isDigit := by
  intro p e R s m args below meth c0 Q ws0 hbc hbs C pc sem h
  replace hbc : R.cells = 0 := hbc
  replace hbs : R.slots = 0 := hbs
  replace C : zCx p R s m args meth c0 D vwCl tys z (zXX o z) zTs RX7 cX7_isDigit 1 "isDigit" := C
  refine zRows_get (P := fun pc sem => zOp p l e R s m args below meth c0 Q D vwCl tys o z (zXX o z) zTs zprog ws0 1 cX7_isDigit (some .boolean) pc sem) (c := kX7_isDigit) ?_ h
  unfold kX7_isDigit
  exact (zrs_c (zr_s (zq_iload_n C dX7_isDigit_0 rfl)
    (zr_s (zq_bipush (n := .ofNat 48) C dX7_isDigit_1 (by decide) (by decide))
    (zr_n (zr_s (zq_icmp_lt C dX7_isDigit_3 (by decide))
    (zr_n (zr_n (zr_s (zq_iload_n C dX7_isDigit_6 rfl)
    (zr_s (zq_bipush (n := .ofNat 57) C dX7_isDigit_7 (by decide) (by decide))
    (zr_n (zr_s (zq_icmp_gt C dX7_isDigit_9 (by decide))
    (zr_n (zr_n (zr_s (zq_iconst (n := .ofNat 1) C dX7_isDigit_12 (by decide))
    (zr_s (zk_goto C dX7_isDigit_13 (by decide))
    (zr_n (zr_n zr_0))))))))))))))))
  (zrs_c (zr_s (zq_iconst (n := .ofNat 0) C dX7_isDigit_16 (by decide))
    (zr_s (zk_ret1 (ty := .boolean) C hbc hbs rfl rfl (Or.inl ⟨dX7_isDigit_17, by decide⟩))
    zr_0))
  zrs_0))
set_option maxRecDepth 100000 in
set_option maxHeartbeats 4000000 in
theorem okX7_isHour {l : Launch} {D : va_G} {tys : List (ClassId × FieldType)} {o : zO} {z : Nat} (E : zEnv tys) : zCodeOk l D vwCl tys o z (zXX o z) zTs zprog mX7_isHour := by
  intro p e R s m args below meth c0 Q ws0 hbc hbs C pc sem h
  replace hbc : R.cells = 0 := hbc
  replace hbs : R.slots = 0 := hbs
  replace C : zCx p R s m args meth c0 D vwCl tys z (zXX o z) zTs RX7 cX7_isHour 1 "isHour" := C
  refine zRows_get (P := fun pc sem => zOp p l e R s m args below meth c0 Q D vwCl tys o z (zXX o z) zTs zprog ws0 1 cX7_isHour (some .boolean) pc sem) (c := kX7_isHour) ?_ h
  unfold kX7_isHour
  exact (zrs_c (zr_s (zq_iload_n C dX7_isHour_0 rfl)
    (zr_s (zq_if_lt C dX7_isHour_1 (by decide))
    (zr_n (zr_n (zr_s (zq_iload_n C dX7_isHour_4 rfl)
    (zr_s (zq_bipush (n := .ofNat 8) C dX7_isHour_5 (by decide) (by decide))
    (zr_n (zr_s (zq_icmp_ge C dX7_isHour_7 (by decide))
    (zr_n (zr_n (zr_s (zq_iconst (n := .ofNat 1) C dX7_isHour_10 (by decide))
    (zr_s (zk_goto C dX7_isHour_11 (by decide))
    (zr_n (zr_n (zr_s (zq_iconst (n := .ofNat 0) C dX7_isHour_14 (by decide))
    (zr_s (zk_ret1 (ty := .boolean) C hbc hbs rfl rfl (Or.inl ⟨dX7_isHour_15, by decide⟩))
    zr_0))))))))))))))))
  zrs_0)
set_option maxRecDepth 100000 in
set_option maxHeartbeats 4000000 in
theorem okX7_keep {l : Launch} {D : va_G} {tys : List (ClassId × FieldType)} {o : zO} {z : Nat} (E : zEnv tys) : zCodeOk l D vwCl tys o z (zXX o z) zTs zprog mX7_keep := by
  intro p e R s m args below meth c0 Q ws0 hbc hbs C pc sem h
  replace hbc : R.cells = 0 := hbc
  replace hbs : R.slots = 0 := hbs
  replace C : zCx p R s m args meth c0 D vwCl tys z (zXX o z) zTs RX7 cX7_keep 2 "keep" := C
  refine zRows_get (P := fun pc sem => zOp p l e R s m args below meth c0 Q D vwCl tys o z (zXX o z) zTs zprog ws0 2 cX7_keep (some .boolean) pc sem) (c := kX7_keep) ?_ h
  unfold kX7_keep
  exact (zrs_c (zr_s (zq_iload_n C dX7_keep_0 rfl)
    (zr_s (zq_if_lt C dX7_keep_1 (by decide))
    (zr_n (zr_n (zr_s (zq_iload_n C dX7_keep_4 rfl)
    (zr_s (zq_iconst (n := .ofNat 2) C dX7_keep_5 (by decide))
    (zr_s (zq_icmp_lt C dX7_keep_6 (by decide))
    (zr_n (zr_n (zr_s (zq_iconst (n := .ofNat 0) C dX7_keep_9 (by decide))
    (zr_s (zk_ret1 (ty := .boolean) C hbc hbs rfl rfl (Or.inl ⟨dX7_keep_10, by decide⟩))
    (zr_s (zq_aload_n C dX7_keep_11 rfl)
    (zr_s (zq_get (k := 6) C dX7_keep_12 (show vwCl[7]? = some (RX7, TX7, 16) from rfl) zinX7 (by decide) zw429)
    (zr_n (zr_n (zr_s (zq_iload_n C dX7_keep_15 rfl)
    zr_0))))))))))))))))
  (zrs_c (zr_s (zk_aald C dX7_keep_16)
    (zr_s (zq_aload_n C dX7_keep_17 rfl)
    (zr_s (zq_get (k := 2) C dX7_keep_18 (show vwCl[7]? = some (RX7, TX7, 16) from rfl) zinX7 (by decide) zw425)
    (zr_n (zr_n (zr_s (zk_callVN (n := 1) C zXX_ok zTs_good hbc hbs (show zget zprog 62 = some mX5_copy from rfl) rfl rfl (show vwCl[5]? = some (RX5, TX5, 6) from rfl) zw614 (fun U H h => zn52 h) zw613 zs30 zw11 (by decide +kernel) dX7_keep_21)
    (zr_n (zr_n (zr_s (zq_aload_n C dX7_keep_24 rfl)
    (zr_s (zq_get (k := 7) C dX7_keep_25 (show vwCl[7]? = some (RX7, TX7, 16) from rfl) zinX7 (by decide) zw430)
    (zr_n (zr_n (zr_s (zq_iload_n C dX7_keep_28 rfl)
    (zr_s (zq_iconst (n := .ofNat 1) C dX7_keep_29 (by decide))
    (zr_s (zk_bast C dX7_keep_30)
    (zr_s (zq_iconst (n := .ofNat 1) C dX7_keep_31 (by decide))
    zr_0))))))))))))))))
  (zrs_c (zr_s (zk_ret1 (ty := .boolean) C hbc hbs rfl rfl (Or.inl ⟨dX7_keep_32, by decide⟩))
    zr_0)
  zrs_0)))
set_option maxRecDepth 100000 in
set_option maxHeartbeats 4000000 in
theorem okX7_keystone {l : Launch} {D : va_G} {tys : List (ClassId × FieldType)} {o : zO} {z : Nat} (E : zEnv tys) : zCodeOk l D vwCl tys o z (zXX o z) zTs zprog mX7_keystone := by
  intro p e R s m args below meth c0 Q ws0 hbc hbs C pc sem h
  replace hbc : R.cells = 0 := hbc
  replace hbs : R.slots = 0 := hbs
  replace C : zCx p R s m args meth c0 D vwCl tys z (zXX o z) zTs RX7 cX7_keystone 9 "keystone" := C
  refine zRows_get (P := fun pc sem => zOp p l e R s m args below meth c0 Q D vwCl tys o z (zXX o z) zTs zprog ws0 9 cX7_keystone (some .int) pc sem) (c := kX7_keystone) ?_ h
  unfold kX7_keystone
  exact (zrs_c (zr_s (zq_iload_n C dX7_keystone_0 rfl)
    (zr_s (zq_if_lt C dX7_keystone_1 (by decide))
    (zr_n (zr_n (zr_s (zq_iload_n C dX7_keystone_4 rfl)
    (zr_s (zq_bipush (n := .ofNat 10) C dX7_keystone_5 (by decide) (by decide))
    (zr_n (zr_s (zq_icmp_le C dX7_keystone_7 (by decide))
    (zr_n (zr_n (zr_s (zq_iconst (n := .negSucc 0) C dX7_keystone_10 (by decide))
    (zr_s (zk_ret1 (ty := .int) C hbc hbs rfl rfl (Or.inl ⟨dX7_keystone_11, by decide⟩))
    (zr_s (zq_aload_n C dX7_keystone_12 rfl)
    (zr_s (zk_callV (n := 0) C zXX_ok zTs_good hbc hbs (show zget zprog 139 = some mX7_wellOnes from rfl) rfl rfl (show vwCl[7]? = some (RX7, TX7, 16) from rfl) zw913 zw910 zw912 zs74 zw1 (by decide +kernel) dX7_keystone_13)
    (zr_n (zr_n zr_0))))))))))))))))
  (zrs_c (zr_s (zq_istore_n C dX7_keystone_16 rfl (by decide))
    (zr_s (zq_iload_n C dX7_keystone_17 rfl)
    (zr_s (zq_if_ne C dX7_keystone_18 (by decide))
    (zr_n (zr_n (zr_s (zq_bipush (n := .negSucc 1) C dX7_keystone_21 (by decide) (by decide))
    (zr_n (zr_s (zk_ret1 (ty := .int) C hbc hbs rfl rfl (Or.inl ⟨dX7_keystone_23, by decide⟩))
    (zr_n (zr_n (zr_n (zr_n (zr_n (zr_n (zr_n (zr_n zr_0))))))))))))))))
  (zrs_c (zr_n (zr_n (zr_n (zr_n (zr_n (zr_n (zr_n (zr_n (zr_n (zr_n (zr_n (zr_n (zr_n (zr_n (zr_n (zr_n zr_0))))))))))))))))
  (zrs_c (zr_n (zr_n (zr_n (zr_n (zr_n (zr_n (zr_n (zr_n (zr_n (zr_n (zr_n (zr_n (zr_n (zr_n (zr_n (zr_n zr_0))))))))))))))))
  (zrs_c (zr_n (zr_n (zr_n (zr_n (zr_n (zr_n (zr_n (zr_n (zr_n (zr_n (zr_n (zr_n (zr_n (zr_n (zr_n (zr_n zr_0))))))))))))))))
  (zrs_c (zr_n (zr_n (zr_n (zr_n (zr_n (zr_n (zr_n (zr_n (zr_n (zr_n (zr_n (zr_n (zr_n (zr_n (zr_n (zr_n zr_0))))))))))))))))
  (zrs_c (zr_n (zr_n (zr_n (zr_n (zr_n (zr_n (zr_n (zr_n (zr_n (zr_n (zr_n (zr_n (zr_n (zr_n (zr_n (zr_n zr_0))))))))))))))))
  (zrs_c (zr_n (zr_n (zr_n (zr_n (zr_n (zr_n (zr_n (zr_n (zr_n (zr_n (zr_n (zr_n (zr_n (zr_n (zr_n (zr_n zr_0))))))))))))))))
  zrs_0))))))))
set_option maxRecDepth 100000 in
set_option maxHeartbeats 4000000 in
theorem okX7_later {l : Launch} {D : va_G} {tys : List (ClassId × FieldType)} {o : zO} {z : Nat} (E : zEnv tys) : zCodeOk l D vwCl tys o z (zXX o z) zTs zprog mX7_later := by
  intro p e R s m args below meth c0 Q ws0 hbc hbs C pc sem h
  replace hbc : R.cells = 0 := hbc
  replace hbs : R.slots = 0 := hbs
  replace C : zCx p R s m args meth c0 D vwCl tys z (zXX o z) zTs RX7 cX7_later 2 "later" := C
  refine zRows_get (P := fun pc sem => zOp p l e R s m args below meth c0 Q D vwCl tys o z (zXX o z) zTs zprog ws0 2 cX7_later (some .int) pc sem) (c := kX7_later) ?_ h
  unfold kX7_later
  exact (zrs_c (zr_s (zq_iload_n C dX7_later_0 rfl)
    (zr_s (zq_if_lt C dX7_later_1 (by decide))
    (zr_n (zr_n (zr_s (zq_iload_n C dX7_later_4 rfl)
    (zr_s (zq_bipush (n := .ofNat 60) C dX7_later_5 (by decide) (by decide))
    (zr_n (zr_s (zq_icmp_le C dX7_later_7 (by decide))
    (zr_n (zr_n (zr_s (zq_iconst (n := .negSucc 0) C dX7_later_10 (by decide))
    (zr_s (zk_ret1 (ty := .int) C hbc hbs rfl rfl (Or.inl ⟨dX7_later_11, by decide⟩))
    (zr_s (zq_aload_n C dX7_later_12 rfl)
    (zr_s (zq_get (k := 4) C dX7_later_13 (show vwCl[7]? = some (RX7, TX7, 16) from rfl) zinX7 (by decide) zw427)
    (zr_n (zr_n zr_0))))))))))))))))
  (zrs_c (zr_s (zq_aload_n C dX7_later_16 rfl)
    (zr_s (zq_get (k := 2) C dX7_later_17 (show vwCl[7]? = some (RX7, TX7, 16) from rfl) zinX7 (by decide) zw425)
    (zr_n (zr_n (zr_s (zk_callVN (n := 1) C zXX_ok zTs_good hbc hbs (show zget zprog 62 = some mX5_copy from rfl) rfl rfl (show vwCl[5]? = some (RX5, TX5, 6) from rfl) zw614 (fun U H h => zn52 h) zw613 zs30 zw11 (by decide +kernel) dX7_later_20)
    (zr_n (zr_n (zr_s (zq_aload_n C dX7_later_23 rfl)
    (zr_s (zq_get (k := 1) C dX7_later_24 (show vwCl[7]? = some (RX7, TX7, 16) from rfl) zinX7 (by decide) zw424)
    (zr_n (zr_n (zr_s (zq_aload_n C dX7_later_27 rfl)
    (zr_s (zq_get (k := 4) C dX7_later_28 (show vwCl[7]? = some (RX7, TX7, 16) from rfl) zinX7 (by decide) zw427)
    (zr_n (zr_n (zr_s (zq_iload_n C dX7_later_31 rfl)
    zr_0))))))))))))))))
  (zrs_c (zr_s (zk_callVN (n := 2) C zXX_ok zTs_good hbc hbs (show zget zprog 24 = some mX0_passAll from rfl) rfl rfl (show vwCl[0]? = some (RX0, TX0, 12) from rfl) zw653 (fun U H h => zn57 h) zw652 zs35 zw3 (by decide +kernel) dX7_later_32)
    (zr_n (zr_n (zr_s (zq_aload_n C dX7_later_35 rfl)
    (zr_s (zq_get (k := 9) C dX7_later_36 (show vwCl[7]? = some (RX7, TX7, 16) from rfl) zinX7 (by decide) zw432)
    (zr_n (zr_n (zr_s (zq_aload_n C dX7_later_39 rfl)
    (zr_s (zq_get (k := 4) C dX7_later_40 (show vwCl[7]? = some (RX7, TX7, 16) from rfl) zinX7 (by decide) zw427)
    (zr_n (zr_n (zr_s (zk_callVN (n := 0) C zXX_ok zTs_good hbc hbs (show zget zprog 65 = some mX5_tiredOfAll from rfl) rfl rfl (show vwCl[5]? = some (RX5, TX5, 6) from rfl) zw600 (fun U H h => zn50 h) zw599 zs28 zw11 (by decide +kernel) dX7_later_43)
    (zr_n (zr_n (zr_s (zk_i2l C dX7_later_46)
    (zr_s (zq_aload_n C dX7_later_47 rfl)
    zr_0))))))))))))))))
  (zrs_c (zr_s (zq_get (k := 4) C dX7_later_48 (show vwCl[7]? = some (RX7, TX7, 16) from rfl) zinX7 (by decide) zw427)
    (zr_n (zr_n (zr_s (zk_callVN (n := 0) C zXX_ok zTs_good hbc hbs (show zget zprog 64 = some mX5_mostTired from rfl) rfl rfl (show vwCl[5]? = some (RX5, TX5, 6) from rfl) zw755 (fun U H h => zn65 h) zw754 zs52 zw11 (by decide +kernel) dX7_later_51)
    (zr_n (zr_n (zr_s (zk_i2l C dX7_later_54)
    (zr_s (zk_callVN (n := 2) C zXX_ok zTs_good hbc hbs (show zget zprog 31 = some mX1_tell_ from rfl) rfl rfl (show vwCl[1]? = some (RX1, TX1, 2) from rfl) zw686 (fun U H h => zn59 h) zw685 zs42 zw15 (by decide +kernel) dX7_later_55)
    (zr_n (zr_n (zr_s (zq_aload_n C dX7_later_58 rfl)
    (zr_s (zq_get (k := 4) C dX7_later_59 (show vwCl[7]? = some (RX7, TX7, 16) from rfl) zinX7 (by decide) zw427)
    (zr_n (zr_n (zr_s (zq_getN (k := 4) C dX7_later_62 (show vwCl[5]? = some (RX5, TX5, 6) from rfl) zinX5 (by decide) (fun U H h => zn24 h))
    (zr_n zr_0))))))))))))))))
  (zrs_c (zr_n (zr_s (zq_aload_n C dX7_later_65 rfl)
    (zr_s (zq_get (k := 2) C dX7_later_66 (show vwCl[7]? = some (RX7, TX7, 16) from rfl) zinX7 (by decide) zw425)
    (zr_n (zr_n (zr_s (zq_getN (k := 4) C dX7_later_69 (show vwCl[5]? = some (RX5, TX5, 6) from rfl) zinX5 (by decide) (fun U H h => zn24 h))
    (zr_n (zr_n (zr_s (zk_sub C dX7_later_72)
    (zr_s (zk_ret1 (ty := .int) C hbc hbs rfl rfl (Or.inl ⟨dX7_later_73, by decide⟩))
    zr_0))))))))))
  zrs_0)))))
set_option maxRecDepth 100000 in
set_option maxHeartbeats 4000000 in
theorem okX7_law {l : Launch} {D : va_G} {tys : List (ClassId × FieldType)} {o : zO} {z : Nat} (E : zEnv tys) : zCodeOk l D vwCl tys o z (zXX o z) zTs zprog mX7_law := by
  intro p e R s m args below meth c0 Q ws0 hbc hbs C pc sem h
  replace hbc : R.cells = 0 := hbc
  replace hbs : R.slots = 0 := hbs
  replace C : zCx p R s m args meth c0 D vwCl tys z (zXX o z) zTs RX7 cX7_law 4 "law" := C
  refine zRows_get (P := fun pc sem => zOp p l e R s m args below meth c0 Q D vwCl tys o z (zXX o z) zTs zprog ws0 4 cX7_law (some .int) pc sem) (c := kX7_law) ?_ h
  unfold kX7_law
  exact (zrs_c (zr_s (zq_aload_n C dX7_law_0 rfl)
    (zr_s (zk_callV (n := 0) C zXX_ok zTs_good hbc hbs (show zget zprog 116 = some mX7_readSpare from rfl) rfl rfl (show vwCl[7]? = some (RX7, TX7, 16) from rfl) zw536 zw533 zw535 zs21 zw1 (by decide +kernel) dX7_law_1)
    (zr_n (zr_n (zr_s (zq_istore_n C dX7_law_4 rfl (by decide))
    (zr_s (zq_iload_n C dX7_law_5 rfl)
    (zr_s (zq_iconst (n := .negSucc 0) C dX7_law_6 (by decide))
    (zr_s (zq_icmp_eq C dX7_law_7 (by decide))
    (zr_n (zr_n (zr_n (zr_n (zr_n (zr_n (zr_n (zr_n zr_0))))))))))))))))
  (zrs_c (zr_s (zq_aload_n C dX7_law_16 rfl)
    (zr_s (zq_aload_n C dX7_law_17 rfl)
    (zr_s (zq_get (k := 14) C dX7_law_18 (show vwCl[7]? = some (RX7, TX7, 16) from rfl) zinX7 (by decide) zw437)
    (zr_n (zr_n (zr_s (zk_callV (n := 1) C zXX_ok zTs_good hbc hbs (show zget zprog 94 = some mX7_hardOfRota from rfl) rfl rfl (show vwCl[7]? = some (RX7, TX7, 16) from rfl) zw1055 zw1052 zw1054 zs90 zw1 (by decide +kernel) dX7_law_21)
    (zr_n (zr_n (zr_s (zq_istore_n C dX7_law_24 rfl (by decide))
    (zr_s (zq_aload_n C dX7_law_25 rfl)
    (zr_s (zq_aload_n C dX7_law_26 rfl)
    (zr_s (zq_get (k := 1) C dX7_law_27 (show vwCl[7]? = some (RX7, TX7, 16) from rfl) zinX7 (by decide) zw424)
    (zr_n (zr_n (zr_s (zq_getN (k := 9) C dX7_law_30 (show vwCl[0]? = some (RX0, TX0, 12) from rfl) zinX0 (by decide) (fun U H h => zn13 h))
    (zr_n zr_0))))))))))))))))
  (zrs_c (zr_n (zr_s (zk_callV (n := 1) C zXX_ok zTs_good hbc hbs (show zget zprog 94 = some mX7_hardOfRota from rfl) rfl rfl (show vwCl[7]? = some (RX7, TX7, 16) from rfl) zw1055 zw1052 zw1054 zs90 zw1 (by decide +kernel) dX7_law_33)
    (zr_n (zr_n (zr_s (zq_istore_n C dX7_law_36 rfl (by decide))
    (zr_s (zq_aload_n C dX7_law_37 rfl)
    (zr_s (zq_get (k := 9) C dX7_law_38 (show vwCl[7]? = some (RX7, TX7, 16) from rfl) zinX7 (by decide) zw432)
    (zr_n (zr_n (zr_s (zq_iload_n C dX7_law_41 rfl)
    (zr_s (zk_i2l C dX7_law_42)
    (zr_s (zq_iload_n C dX7_law_43 rfl)
    (zr_s (zk_i2l C dX7_law_44)
    (zr_s (zk_callVN (n := 2) C zXX_ok zTs_good hbc hbs (show zget zprog 31 = some mX1_tell_ from rfl) rfl rfl (show vwCl[1]? = some (RX1, TX1, 2) from rfl) zw686 (fun U H h => zn59 h) zw685 zs42 zw15 (by decide +kernel) dX7_law_45)
    (zr_n (zr_n zr_0))))))))))))))))
  (zrs_c (zr_s (zq_iload_n C dX7_law_48 rfl)
    (zr_s (zq_iload_n C dX7_law_49 rfl)
    (zr_s (zk_sub C dX7_law_50)
    (zr_s (zk_ret1 (ty := .int) C hbc hbs rfl rfl (Or.inl ⟨dX7_law_51, by decide⟩))
    zr_0))))
  zrs_0))))
set_option maxRecDepth 100000 in
set_option maxHeartbeats 4000000 in
theorem okX7_lowest {l : Launch} {D : va_G} {tys : List (ClassId × FieldType)} {o : zO} {z : Nat} (E : zEnv tys) : zCodeOk l D vwCl tys o z (zXX o z) zTs zprog mX7_lowest := by
  intro p e R s m args below meth c0 Q ws0 hbc hbs C pc sem h
  replace hbc : R.cells = 0 := hbc
  replace hbs : R.slots = 0 := hbs
  replace C : zCx p R s m args meth c0 D vwCl tys z (zXX o z) zTs RX7 cX7_lowest 1 "lowest" := C
  refine zRows_get (P := fun pc sem => zOp p l e R s m args below meth c0 Q D vwCl tys o z (zXX o z) zTs zprog ws0 1 cX7_lowest (some .int) pc sem) (c := kX7_lowest) ?_ h
  unfold kX7_lowest
  exact (zrs_c (zr_s (zq_iload_n C dX7_lowest_0 rfl)
    (zr_s (zq_iload_n C dX7_lowest_1 rfl)
    (zr_s (zq_ineg C dX7_lowest_2)
    (zr_s (zq_iand C dX7_lowest_3)
    (zr_s (zq_iconst (n := .ofNat 1) C dX7_lowest_4 (by decide))
    (zr_s (zk_sub C dX7_lowest_5)
    (zr_s (zk_callS C zXX_ok zTs_good hbc hbs (show zget zprog 14 = some mJ6_bitCount_0f7a4 from rfl) rfl rfl zw564 zw645 zw563 zw21 (by decide +kernel) dX7_lowest_6)
    (zr_n (zr_n (zr_s (zk_ret1 (ty := .int) C hbc hbs rfl rfl (Or.inl ⟨dX7_lowest_9, by decide⟩))
    zr_0))))))))))
  zrs_0)
set_option maxRecDepth 100000 in
set_option maxHeartbeats 4000000 in
theorem okX7_meets {l : Launch} {D : va_G} {tys : List (ClassId × FieldType)} {o : zO} {z : Nat} (E : zEnv tys) : zCodeOk l D vwCl tys o z (zXX o z) zTs zprog mX7_meets := by
  intro p e R s m args below meth c0 Q ws0 hbc hbs C pc sem h
  replace hbc : R.cells = 0 := hbc
  replace hbs : R.slots = 0 := hbs
  replace C : zCx p R s m args meth c0 D vwCl tys z (zXX o z) zTs RX7 cX7_meets 7 "meets" := C
  refine zRows_get (P := fun pc sem => zOp p l e R s m args below meth c0 Q D vwCl tys o z (zXX o z) zTs zprog ws0 7 cX7_meets (some .int) pc sem) (c := kX7_meets) ?_ h
  unfold kX7_meets
  exact (zrs_c (zr_s (zq_aload_n C dX7_meets_0 rfl)
    (zr_s (zq_get (k := 1) C dX7_meets_1 (show vwCl[7]? = some (RX7, TX7, 16) from rfl) zinX7 (by decide) zw424)
    (zr_n (zr_n (zr_s (zq_iload_n C dX7_meets_4 rfl)
    (zr_s (zq_iload_n C dX7_meets_5 rfl)
    (zr_s (zk_callVN (n := 2) C zXX_ok zTs_good hbc hbs (show zget zprog 18 = some mX0_areTwo from rfl) rfl rfl (show vwCl[0]? = some (RX0, TX0, 12) from rfl) zw674 (fun U H h => zn60 h) zw673 zs40 zw3 (by decide +kernel) dX7_meets_6)
    (zr_n (zr_n (zr_s (zq_if_eq C dX7_meets_9 (by decide))
    (zr_n (zr_n (zr_n (zr_n (zr_n (zr_n zr_0))))))))))))))))
  (zrs_c (zr_n (zr_n (zr_n (zr_n (zr_n (zr_n (zr_n (zr_s (zq_iconst (n := .negSucc 0) C dX7_meets_23 (by decide))
    (zr_s (zk_ret1 (ty := .int) C hbc hbs rfl rfl (Or.inl ⟨dX7_meets_24, by decide⟩))
    (zr_n (zr_n (zr_n (zr_n (zr_n (zr_n (zr_n zr_0))))))))))))))))
  (zrs_c (zr_n (zr_n (zr_n (zr_n (zr_n (zr_n (zr_n (zr_n (zr_n (zr_n (zr_n (zr_n (zr_n (zr_n (zr_n (zr_n zr_0))))))))))))))))
  (zrs_c (zr_n (zr_n (zr_n (zr_n (zr_n (zr_n (zr_n (zr_n (zr_n (zr_n (zr_n (zr_n (zr_n (zr_n (zr_n (zr_n zr_0))))))))))))))))
  (zrs_c (zr_n (zr_n (zr_n (zr_n (zr_n (zr_n (zr_n (zr_n (zr_n (zr_n (zr_n (zr_n (zr_n (zr_n (zr_n (zr_n zr_0))))))))))))))))
  (zrs_c (zr_n (zr_n (zr_n (zr_n (zr_n (zr_n (zr_n (zr_n (zr_n (zr_n (zr_n (zr_n (zr_n (zr_n (zr_n (zr_n zr_0))))))))))))))))
  (zrs_c (zr_n (zr_n (zr_n (zr_n (zr_n (zr_n (zr_n (zr_n (zr_n (zr_n (zr_n (zr_n (zr_n (zr_n (zr_n (zr_n zr_0))))))))))))))))
  (zrs_c (zr_n (zr_n (zr_n (zr_n (zr_n (zr_n (zr_n (zr_n (zr_n (zr_n (zr_n (zr_n (zr_n (zr_n (zr_n (zr_n zr_0))))))))))))))))
  zrs_0))))))))
set_option maxRecDepth 100000 in
set_option maxHeartbeats 4000000 in
theorem okX7_mended {l : Launch} {D : va_G} {tys : List (ClassId × FieldType)} {o : zO} {z : Nat} (E : zEnv tys) : zCodeOk l D vwCl tys o z (zXX o z) zTs zprog mX7_mended := by
  intro p e R s m args below meth c0 Q ws0 hbc hbs C pc sem h
  replace hbc : R.cells = 0 := hbc
  replace hbs : R.slots = 0 := hbs
  replace C : zCx p R s m args meth c0 D vwCl tys z (zXX o z) zTs RX7 cX7_mended 4 "mended" := C
  refine zRows_get (P := fun pc sem => zOp p l e R s m args below meth c0 Q D vwCl tys o z (zXX o z) zTs zprog ws0 4 cX7_mended (some .int) pc sem) (c := kX7_mended) ?_ h
  unfold kX7_mended
  exact (zrs_c (zr_s (zq_aload_n C dX7_mended_0 rfl)
    (zr_s (zq_get (k := 1) C dX7_mended_1 (show vwCl[7]? = some (RX7, TX7, 16) from rfl) zinX7 (by decide) zw424)
    (zr_n (zr_n (zr_s (zq_iload_n C dX7_mended_4 rfl)
    (zr_s (zk_callVN (n := 1) C zXX_ok zTs_good hbc hbs (show zget zprog 19 = some mX0_has from rfl) rfl rfl (show vwCl[0]? = some (RX0, TX0, 12) from rfl) zw550 (fun U H h => zn46 h) zw549 zs23 zw3 (by decide +kernel) dX7_mended_5)
    (zr_n (zr_n (zr_s (zq_if_ne C dX7_mended_8 (by decide))
    (zr_n (zr_n (zr_s (zq_iconst (n := .negSucc 0) C dX7_mended_11 (by decide))
    (zr_s (zk_ret1 (ty := .int) C hbc hbs rfl rfl (Or.inl ⟨dX7_mended_12, by decide⟩))
    (zr_n (zr_n (zr_n zr_0))))))))))))))))
  (zrs_c (zr_n (zr_n (zr_n (zr_n (zr_n (zr_n (zr_n (zr_n (zr_n (zr_n (zr_n (zr_n (zr_n (zr_n (zr_n (zr_n zr_0))))))))))))))))
  (zrs_c (zr_n (zr_n (zr_n (zr_n (zr_n (zr_n (zr_n (zr_n (zr_n (zr_n (zr_n (zr_n (zr_n (zr_n (zr_n (zr_n zr_0))))))))))))))))
  (zrs_c (zr_n zr_0)
  zrs_0))))
set_option maxRecDepth 100000 in
set_option maxHeartbeats 4000000 in
theorem okX7_missed {l : Launch} {D : va_G} {tys : List (ClassId × FieldType)} {o : zO} {z : Nat} (E : zEnv tys) : zCodeOk l D vwCl tys o z (zXX o z) zTs zprog mX7_missed := by
  intro p e R s m args below meth c0 Q ws0 hbc hbs C pc sem h
  replace hbc : R.cells = 0 := hbc
  replace hbs : R.slots = 0 := hbs
  replace C : zCx p R s m args meth c0 D vwCl tys z (zXX o z) zTs RX7 cX7_missed 6 "missed" := C
  refine zRows_get (P := fun pc sem => zOp p l e R s m args below meth c0 Q D vwCl tys o z (zXX o z) zTs zprog ws0 6 cX7_missed (some .int) pc sem) (c := kX7_missed) ?_ h
  unfold kX7_missed
  exact (zrs_c (zr_s (zq_aload_n C dX7_missed_0 rfl)
    (zr_s (zq_get (k := 1) C dX7_missed_1 (show vwCl[7]? = some (RX7, TX7, 16) from rfl) zinX7 (by decide) zw424)
    (zr_n (zr_n (zr_s (zq_iload_n C dX7_missed_4 rfl)
    (zr_s (zk_callVN (n := 1) C zXX_ok zTs_good hbc hbs (show zget zprog 19 = some mX0_has from rfl) rfl rfl (show vwCl[0]? = some (RX0, TX0, 12) from rfl) zw550 (fun U H h => zn46 h) zw549 zs23 zw3 (by decide +kernel) dX7_missed_5)
    (zr_n (zr_n (zr_s (zq_if_ne C dX7_missed_8 (by decide))
    (zr_n (zr_n (zr_s (zq_iconst (n := .negSucc 0) C dX7_missed_11 (by decide))
    (zr_s (zk_ret1 (ty := .int) C hbc hbs rfl rfl (Or.inl ⟨dX7_missed_12, by decide⟩))
    (zr_n (zr_n (zr_n zr_0))))))))))))))))
  (zrs_c (zr_n (zr_n (zr_n (zr_n (zr_n (zr_n (zr_n (zr_n (zr_n (zr_n (zr_n (zr_n (zr_n (zr_n (zr_n (zr_n zr_0))))))))))))))))
  (zrs_c (zr_n (zr_n (zr_n (zr_n (zr_n (zr_n (zr_n (zr_n (zr_n (zr_n (zr_n (zr_n (zr_n (zr_n (zr_n (zr_n zr_0))))))))))))))))
  (zrs_c (zr_n (zr_n (zr_n (zr_n (zr_n (zr_n (zr_n (zr_n (zr_n zr_0)))))))))
  zrs_0))))
set_option maxRecDepth 100000 in
set_option maxHeartbeats 4000000 in
theorem okX7_nights {l : Launch} {D : va_G} {tys : List (ClassId × FieldType)} {o : zO} {z : Nat} (E : zEnv tys) : zCodeOk l D vwCl tys o z (zXX o z) zTs zprog mX7_nights := by
  intro p e R s m args below meth c0 Q ws0 hbc hbs C pc sem h
  replace hbc : R.cells = 0 := hbc
  replace hbs : R.slots = 0 := hbs
  replace C : zCx p R s m args meth c0 D vwCl tys z (zXX o z) zTs RX7 cX7_nights 4 "nights" := C
  refine zRows_get (P := fun pc sem => zOp p l e R s m args below meth c0 Q D vwCl tys o z (zXX o z) zTs zprog ws0 4 cX7_nights (some .int) pc sem) (c := kX7_nights) ?_ h
  unfold kX7_nights
  exact (zrs_c (zr_s (zq_iload_n C dX7_nights_0 rfl)
    (zr_s (zq_if_lt C dX7_nights_1 (by decide))
    (zr_n (zr_n (zr_s (zq_iload_n C dX7_nights_4 rfl)
    (zr_s (zq_bipush (n := .ofNat 30) C dX7_nights_5 (by decide) (by decide))
    (zr_n (zr_s (zq_icmp_le C dX7_nights_7 (by decide))
    (zr_n (zr_n (zr_s (zq_iconst (n := .negSucc 0) C dX7_nights_10 (by decide))
    (zr_s (zk_ret1 (ty := .int) C hbc hbs rfl rfl (Or.inl ⟨dX7_nights_11, by decide⟩))
    (zr_s (zq_iload_n C dX7_nights_12 rfl)
    (zr_s (zq_if_le C dX7_nights_13 (by decide))
    (zr_n (zr_n zr_0))))))))))))))))
  (zrs_c (zr_s (zq_aload_n C dX7_nights_16 rfl)
    (zr_s (zq_get (k := 5) C dX7_nights_17 (show vwCl[7]? = some (RX7, TX7, 16) from rfl) zinX7 (by decide) zw428)
    (zr_n (zr_n (zr_s (zq_aload_n C dX7_nights_20 rfl)
    (zr_s (zq_get (k := 2) C dX7_nights_21 (show vwCl[7]? = some (RX7, TX7, 16) from rfl) zinX7 (by decide) zw425)
    (zr_n (zr_n (zr_s (zk_callVN (n := 1) C zXX_ok zTs_good hbc hbs (show zget zprog 34 = some mX2_push from rfl) rfl rfl (show vwCl[2]? = some (RX2, TX2, 3) from rfl) zw625 (fun U H h => zn53 h) zw624 zs32 zw13 (by decide +kernel) dX7_nights_24)
    (zr_n (zr_n (zr_s (zq_aload_n C dX7_nights_27 rfl)
    (zr_s (zq_get (k := 2) C dX7_nights_28 (show vwCl[7]? = some (RX7, TX7, 16) from rfl) zinX7 (by decide) zw425)
    (zr_n (zr_n (zr_s (zq_getN (k := 4) C dX7_nights_31 (show vwCl[5]? = some (RX5, TX5, 6) from rfl) zinX5 (by decide) (fun U H h => zn24 h))
    zr_0))))))))))))))))
  (zrs_c (zr_n (zr_n (zr_s (zq_istore_n C dX7_nights_34 rfl (by decide))
    (zr_s (zq_aload_n C dX7_nights_35 rfl)
    (zr_s (zq_get (k := 2) C dX7_nights_36 (show vwCl[7]? = some (RX7, TX7, 16) from rfl) zinX7 (by decide) zw425)
    (zr_n (zr_n (zr_s (zq_getN (k := 5) C dX7_nights_39 (show vwCl[5]? = some (RX5, TX5, 6) from rfl) zinX5 (by decide) (fun U H h => zn26 h))
    (zr_n (zr_n (zr_s (zq_istore_n C dX7_nights_42 rfl (by decide))
    (zr_s (zq_aload_n C dX7_nights_43 rfl)
    (zr_s (zq_get (k := 1) C dX7_nights_44 (show vwCl[7]? = some (RX7, TX7, 16) from rfl) zinX7 (by decide) zw424)
    (zr_n (zr_n (zr_s (zq_aload_n C dX7_nights_47 rfl)
    zr_0))))))))))))))))
  (zrs_c (zr_s (zq_get (k := 2) C dX7_nights_48 (show vwCl[7]? = some (RX7, TX7, 16) from rfl) zinX7 (by decide) zw425)
    (zr_n (zr_n (zr_s (zq_iload_n C dX7_nights_51 rfl)
    (zr_s (zk_callVN (n := 2) C zXX_ok zTs_good hbc hbs (show zget zprog 24 = some mX0_passAll from rfl) rfl rfl (show vwCl[0]? = some (RX0, TX0, 12) from rfl) zw653 (fun U H h => zn57 h) zw652 zs35 zw3 (by decide +kernel) dX7_nights_52)
    (zr_n (zr_n (zr_s (zq_aload_n C dX7_nights_55 rfl)
    (zr_s (zq_get (k := 9) C dX7_nights_56 (show vwCl[7]? = some (RX7, TX7, 16) from rfl) zinX7 (by decide) zw432)
    (zr_n (zr_n (zr_s (zq_aload_n C dX7_nights_59 rfl)
    (zr_s (zq_get (k := 2) C dX7_nights_60 (show vwCl[7]? = some (RX7, TX7, 16) from rfl) zinX7 (by decide) zw425)
    (zr_n (zr_n (zr_s (zq_getN (k := 5) C dX7_nights_63 (show vwCl[5]? = some (RX5, TX5, 6) from rfl) zinX5 (by decide) (fun U H h => zn26 h))
    zr_0))))))))))))))))
  (zrs_c (zr_n (zr_n (zr_s (zq_iload_n C dX7_nights_66 rfl)
    (zr_s (zk_sub C dX7_nights_67)
    (zr_s (zk_i2l C dX7_nights_68)
    (zr_s (zq_aload_n C dX7_nights_69 rfl)
    (zr_s (zq_get (k := 2) C dX7_nights_70 (show vwCl[7]? = some (RX7, TX7, 16) from rfl) zinX7 (by decide) zw425)
    (zr_n (zr_n (zr_s (zk_callVN (n := 0) C zXX_ok zTs_good hbc hbs (show zget zprog 65 = some mX5_tiredOfAll from rfl) rfl rfl (show vwCl[5]? = some (RX5, TX5, 6) from rfl) zw600 (fun U H h => zn50 h) zw599 zs28 zw11 (by decide +kernel) dX7_nights_73)
    (zr_n (zr_n (zr_s (zk_i2l C dX7_nights_76)
    (zr_s (zk_callVN (n := 2) C zXX_ok zTs_good hbc hbs (show zget zprog 31 = some mX1_tell_ from rfl) rfl rfl (show vwCl[1]? = some (RX1, TX1, 2) from rfl) zw686 (fun U H h => zn59 h) zw685 zs42 zw15 (by decide +kernel) dX7_nights_77)
    (zr_n (zr_n zr_0))))))))))))))))
  (zrs_c (zr_s (zq_aload_n C dX7_nights_80 rfl)
    (zr_s (zq_get (k := 2) C dX7_nights_81 (show vwCl[7]? = some (RX7, TX7, 16) from rfl) zinX7 (by decide) zw425)
    (zr_n (zr_n (zr_s (zq_getN (k := 4) C dX7_nights_84 (show vwCl[5]? = some (RX5, TX5, 6) from rfl) zinX5 (by decide) (fun U H h => zn24 h))
    (zr_n (zr_n (zr_s (zq_iload_n C dX7_nights_87 rfl)
    (zr_s (zk_sub C dX7_nights_88)
    (zr_s (zk_ret1 (ty := .int) C hbc hbs rfl rfl (Or.inl ⟨dX7_nights_89, by decide⟩))
    zr_0))))))))))
  zrs_0))))))
set_option maxRecDepth 100000 in
set_option maxHeartbeats 4000000 in
theorem okX7_openFitting {l : Launch} {D : va_G} {tys : List (ClassId × FieldType)} {o : zO} {z : Nat} (E : zEnv tys) : zCodeOk l D vwCl tys o z (zXX o z) zTs zprog mX7_openFitting := by
  intro p e R s m args below meth c0 Q ws0 hbc hbs C pc sem h
  replace hbc : R.cells = 0 := hbc
  replace hbs : R.slots = 0 := hbs
  replace C : zCx p R s m args meth c0 D vwCl tys z (zXX o z) zTs RX7 cX7_openFitting 2 "openFitting" := C
  refine zRows_get (P := fun pc sem => zOp p l e R s m args below meth c0 Q D vwCl tys o z (zXX o z) zTs zprog ws0 2 cX7_openFitting none pc sem) (c := kX7_openFitting) ?_ h
  unfold kX7_openFitting
  exact (zrs_c (zr_s (zq_aload_n C dX7_openFitting_0 rfl)
    (zr_s (zq_iconst (n := .negSucc 0) C dX7_openFitting_1 (by decide))
    (zr_s (zk_callV (n := 1) C zXX_ok zTs_good hbc hbs (show zget zprog 111 = some mX7_openSeats from rfl) rfl rfl (show vwCl[7]? = some (RX7, TX7, 16) from rfl) zw781 zw778 zw780 zs55 zw1 (by decide +kernel) dX7_openFitting_2)
    (zr_n (zr_n (zr_s (zq_iconst (n := .ofNat 0) C dX7_openFitting_5 (by decide))
    (zr_s (zq_istore_n C dX7_openFitting_6 rfl (by decide))
    (zr_s (zq_iload_n C dX7_openFitting_7 rfl)
    (zr_s (zq_aload_n C dX7_openFitting_8 rfl)
    (zr_s (zq_get (k := 13) C dX7_openFitting_9 (show vwCl[7]? = some (RX7, TX7, 16) from rfl) zinX7 (by decide) zw436)
    (zr_n (zr_n (zr_s (zq_icmp_ge C dX7_openFitting_12 (by decide))
    (zr_n (zr_n (zr_n zr_0))))))))))))))))
  (zrs_c (zr_n (zr_n (zr_n (zr_n (zr_n (zr_n (zr_n (zr_n (zr_n (zr_n (zr_n (zr_n (zr_n (zr_n (zr_n (zr_n zr_0))))))))))))))))
  (zrs_c (zr_n (zr_n (zr_n (zr_n (zr_n (zr_n (zr_n (zr_n (zr_n (zr_n (zr_n (zr_n (zr_n (zr_n (zr_n (zr_n zr_0))))))))))))))))
  (zrs_c (zr_n (zr_n (zr_n (zr_n (zr_n (zr_n (zr_n (zr_n (zr_n (zr_n (zr_n (zr_n (zr_n (zr_n (zr_n (zr_n zr_0))))))))))))))))
  (zrs_c (zr_n (zr_n (zr_n (zr_n (zr_n (zr_n (zr_n (zr_n (zr_s (zk_ret0 C hbc hbs rfl dX7_openFitting_72)
    zr_0)))))))))
  zrs_0)))))
set_option maxRecDepth 100000 in
set_option maxHeartbeats 4000000 in
theorem okX7_openSeats {l : Launch} {D : va_G} {tys : List (ClassId × FieldType)} {o : zO} {z : Nat} (E : zEnv tys) : zCodeOk l D vwCl tys o z (zXX o z) zTs zprog mX7_openSeats := by
  intro p e R s m args below meth c0 Q ws0 hbc hbs C pc sem h
  replace hbc : R.cells = 0 := hbc
  replace hbs : R.slots = 0 := hbs
  replace C : zCx p R s m args meth c0 D vwCl tys z (zXX o z) zTs RX7 cX7_openSeats 4 "openSeats" := C
  refine zRows_get (P := fun pc sem => zOp p l e R s m args below meth c0 Q D vwCl tys o z (zXX o z) zTs zprog ws0 4 cX7_openSeats none pc sem) (c := kX7_openSeats) ?_ h
  unfold kX7_openSeats
  exact (zrs_c (zr_s (zq_aload_n C dX7_openSeats_0 rfl)
    (zr_s (zq_get (k := 8) C dX7_openSeats_1 (show vwCl[7]? = some (RX7, TX7, 16) from rfl) zinX7 (by decide) zw431)
    (zr_n (zr_n (zr_s (zq_aload_n C dX7_openSeats_4 rfl)
    (zr_s (zq_get (k := 1) C dX7_openSeats_5 (show vwCl[7]? = some (RX7, TX7, 16) from rfl) zinX7 (by decide) zw424)
    (zr_n (zr_n (zr_s (zq_getN (k := 7) C dX7_openSeats_8 (show vwCl[0]? = some (RX0, TX0, 12) from rfl) zinX0 (by decide) (fun U H h => zn11 h))
    (zr_n (zr_n (zr_s (zk_callVN (n := 1) C zXX_ok zTs_good hbc hbs (show zget zprog 58 = some mX4_open from rfl) rfl rfl (show vwCl[4]? = some (RX4, TX4, 15) from rfl) zw785 (fun U H h => zn67 h) zw784 zs56 zw14 (by decide +kernel) dX7_openSeats_11)
    (zr_n (zr_n (zr_s (zq_iconst (n := .ofNat 0) C dX7_openSeats_14 (by decide))
    (zr_s (zq_istore_n C dX7_openSeats_15 rfl (by decide))
    zr_0))))))))))))))))
  (zrs_c (zr_s (zq_iload_n C dX7_openSeats_16 rfl)
    (zr_s (zq_aload_n C dX7_openSeats_17 rfl)
    (zr_s (zq_get (k := 1) C dX7_openSeats_18 (show vwCl[7]? = some (RX7, TX7, 16) from rfl) zinX7 (by decide) zw424)
    (zr_n (zr_n (zr_s (zq_getN (k := 6) C dX7_openSeats_21 (show vwCl[0]? = some (RX0, TX0, 12) from rfl) zinX0 (by decide) (fun U H h => zn10 h))
    (zr_n (zr_n (zr_s (zq_icmp_ge C dX7_openSeats_24 (by decide))
    (zr_n (zr_n (zr_n (zr_n (zr_n (zr_n (zr_n zr_0))))))))))))))))
  (zrs_c (zr_n (zr_n (zr_n (zr_n (zr_n (zr_n (zr_n (zr_n (zr_n (zr_n (zr_n (zr_n (zr_n (zr_n (zr_n (zr_n zr_0))))))))))))))))
  (zrs_c (zr_n (zr_n (zr_n (zr_n (zr_n (zr_n (zr_n (zr_n (zr_n (zr_n (zr_n (zr_n (zr_n (zr_n (zr_n (zr_n zr_0))))))))))))))))
  (zrs_c (zr_n (zr_n (zr_n (zr_n (zr_n (zr_n (zr_n (zr_n (zr_n (zr_n (zr_n (zr_n (zr_n (zr_n (zr_n (zr_n zr_0))))))))))))))))
  (zrs_c (zr_n (zr_n (zr_n (zr_n (zr_n (zr_n (zr_n (zr_n (zr_n (zr_s (zk_ret0 C hbc hbs rfl dX7_openSeats_89)
    zr_0))))))))))
  zrs_0))))))
set_option maxRecDepth 100000 in
set_option maxHeartbeats 4000000 in
theorem okX7_paid {l : Launch} {D : va_G} {tys : List (ClassId × FieldType)} {o : zO} {z : Nat} (E : zEnv tys) : zCodeOk l D vwCl tys o z (zXX o z) zTs zprog mX7_paid := by
  intro p e R s m args below meth c0 Q ws0 hbc hbs C pc sem h
  replace hbc : R.cells = 0 := hbc
  replace hbs : R.slots = 0 := hbs
  replace C : zCx p R s m args meth c0 D vwCl tys z (zXX o z) zTs RX7 cX7_paid 8 "paid" := C
  refine zRows_get (P := fun pc sem => zOp p l e R s m args below meth c0 Q D vwCl tys o z (zXX o z) zTs zprog ws0 8 cX7_paid (some .int) pc sem) (c := kX7_paid) ?_ h
  unfold kX7_paid
  exact (zrs_c (zr_s (zq_aload_n C dX7_paid_0 rfl)
    (zr_s (zq_get (k := 1) C dX7_paid_1 (show vwCl[7]? = some (RX7, TX7, 16) from rfl) zinX7 (by decide) zw424)
    (zr_n (zr_n (zr_s (zq_iload_n C dX7_paid_4 rfl)
    (zr_s (zk_callVN (n := 1) C zXX_ok zTs_good hbc hbs (show zget zprog 19 = some mX0_has from rfl) rfl rfl (show vwCl[0]? = some (RX0, TX0, 12) from rfl) zw550 (fun U H h => zn46 h) zw549 zs23 zw3 (by decide +kernel) dX7_paid_5)
    (zr_n (zr_n (zr_s (zq_if_ne C dX7_paid_8 (by decide))
    (zr_n (zr_n (zr_s (zq_iconst (n := .negSucc 0) C dX7_paid_11 (by decide))
    (zr_s (zk_ret1 (ty := .int) C hbc hbs rfl rfl (Or.inl ⟨dX7_paid_12, by decide⟩))
    (zr_n (zr_n (zr_n zr_0))))))))))))))))
  (zrs_c (zr_n (zr_n (zr_n (zr_n (zr_n (zr_n (zr_n (zr_n (zr_n (zr_n (zr_n (zr_n (zr_n (zr_n (zr_n (zr_n zr_0))))))))))))))))
  (zrs_c (zr_n (zr_n (zr_n (zr_n (zr_n (zr_n (zr_n (zr_n (zr_n (zr_n (zr_n (zr_n (zr_n (zr_n (zr_n (zr_n zr_0))))))))))))))))
  (zrs_c (zr_n (zr_n (zr_n (zr_n (zr_n (zr_n (zr_n (zr_n (zr_n (zr_n (zr_n (zr_n (zr_n (zr_n (zr_n (zr_n zr_0))))))))))))))))
  (zrs_c (zr_n (zr_n (zr_n (zr_n (zr_n (zr_n (zr_n (zr_n (zr_n (zr_n (zr_n (zr_n (zr_n (zr_n (zr_n (zr_n zr_0))))))))))))))))
  (zrs_c (zr_n (zr_n (zr_n (zr_n (zr_n (zr_n (zr_n (zr_n (zr_n (zr_n (zr_n (zr_n (zr_n (zr_n (zr_n (zr_n zr_0))))))))))))))))
  (zrs_c (zr_n (zr_n (zr_n (zr_n (zr_n (zr_n (zr_n (zr_n (zr_n (zr_n (zr_n (zr_n (zr_n (zr_n (zr_n (zr_n zr_0))))))))))))))))
  (zrs_c (zr_n (zr_n (zr_n (zr_n (zr_n (zr_n (zr_n (zr_n (zr_n (zr_n (zr_n (zr_n (zr_n (zr_n (zr_n zr_0)))))))))))))))
  zrs_0))))))))
set_option maxRecDepth 100000 in
set_option maxHeartbeats 4000000 in
theorem okX7_power {l : Launch} {D : va_G} {tys : List (ClassId × FieldType)} {o : zO} {z : Nat} (E : zEnv tys) : zCodeOk l D vwCl tys o z (zXX o z) zTs zprog mX7_power := by
  intro p e R s m args below meth c0 Q ws0 hbc hbs C pc sem h
  replace hbc : R.cells = 0 := hbc
  replace hbs : R.slots = 0 := hbs
  replace C : zCx p R s m args meth c0 D vwCl tys z (zXX o z) zTs RX7 cX7_power 5 "power" := C
  refine zRows_get (P := fun pc sem => zOp p l e R s m args below meth c0 Q D vwCl tys o z (zXX o z) zTs zprog ws0 5 cX7_power (some .long) pc sem) (c := kX7_power) ?_ h
  unfold kX7_power
  exact (zrs_c (zr_s (zq_lconst (n := .ofNat 1) C dX7_power_0 (by decide) (by decide))
    (zr_s (zq_lstore_n C dX7_power_1 rfl (by decide))
    (zr_s (zq_iconst (n := .ofNat 0) C dX7_power_2 (by decide))
    (zr_s (zq_istore C dX7_power_3 (by decide))
    (zr_n (zr_s (zq_iload C dX7_power_5)
    (zr_n (zr_s (zq_iload_n C dX7_power_7 rfl)
    (zr_s (zq_icmp_ge C dX7_power_8 (by decide))
    (zr_n (zr_n (zr_n (zr_n (zr_n (zr_n (zr_n zr_0))))))))))))))))
  (zrs_c (zr_n (zr_n (zr_n (zr_n (zr_n (zr_n (zr_s (zq_lload_n C dX7_power_22 rfl)
    (zr_s (zk_ret1 C hbc hbs rfl rfl (Or.inr ⟨dX7_power_23, rfl⟩))
    zr_0))))))))
  zrs_0))
set_option maxRecDepth 100000 in
set_option maxHeartbeats 4000000 in
theorem okX7_priceByHard {l : Launch} {D : va_G} {tys : List (ClassId × FieldType)} {o : zO} {z : Nat} (E : zEnv tys) : zCodeOk l D vwCl tys o z (zXX o z) zTs zprog mX7_priceByHard := by
  intro p e R s m args below meth c0 Q ws0 hbc hbs C pc sem h
  replace hbc : R.cells = 0 := hbc
  replace hbs : R.slots = 0 := hbs
  replace C : zCx p R s m args meth c0 D vwCl tys z (zXX o z) zTs RX7 cX7_priceByHard 3 "priceByHard" := C
  refine zRows_get (P := fun pc sem => zOp p l e R s m args below meth c0 Q D vwCl tys o z (zXX o z) zTs zprog ws0 3 cX7_priceByHard none pc sem) (c := kX7_priceByHard) ?_ h
  unfold kX7_priceByHard
  exact (zrs_c (zr_s (zq_iconst (n := .ofNat 0) C dX7_priceByHard_0 (by decide))
    (zr_s (zq_istore_n C dX7_priceByHard_1 rfl (by decide))
    (zr_s (zq_iload_n C dX7_priceByHard_2 rfl)
    (zr_s (zq_aload_n C dX7_priceByHard_3 rfl)
    (zr_s (zq_get (k := 1) C dX7_priceByHard_4 (show vwCl[7]? = some (RX7, TX7, 16) from rfl) zinX7 (by decide) zw424)
    (zr_n (zr_n (zr_s (zq_getN (k := 6) C dX7_priceByHard_7 (show vwCl[0]? = some (RX0, TX0, 12) from rfl) zinX0 (by decide) (fun U H h => zn10 h))
    (zr_n (zr_n (zr_s (zq_icmp_ge C dX7_priceByHard_10 (by decide))
    (zr_n (zr_n (zr_n (zr_n (zr_n zr_0))))))))))))))))
  (zrs_c (zr_n (zr_n (zr_n (zr_n (zr_n (zr_n (zr_n (zr_n (zr_n (zr_n (zr_n (zr_n (zr_n (zr_n (zr_n (zr_n zr_0))))))))))))))))
  (zrs_c (zr_n (zr_n (zr_n (zr_n (zr_n (zr_n (zr_n (zr_n (zr_n (zr_n (zr_n (zr_n (zr_n (zr_n (zr_n (zr_n zr_0))))))))))))))))
  (zrs_c (zr_n (zr_n (zr_n (zr_n (zr_n (zr_s (zk_ret0 C hbc hbs rfl dX7_priceByHard_53)
    zr_0))))))
  zrs_0))))
