set_option maxRecDepth 100000 in
set_option maxHeartbeats 4000000 in
theorem okX7_priceByName {l : Launch} {D : va_G} {tys : List (ClassId × FieldType)} {o : zO} {z : Nat} (E : zEnv tys) : zCodeOk l D vwCl tys o z (zXX o z) zTs zprog mX7_priceByName := by
  intro p e R s m args below meth c0 Q ws0 hbc hbs C pc sem h
  replace hbc : R.cells = 0 := hbc
  replace hbs : R.slots = 0 := hbs
  replace C : zCx p R s m args meth c0 D vwCl tys z (zXX o z) zTs RX7 cX7_priceByName 3 "priceByName" := C
  refine zRows_get (P := fun pc sem => zOp p l e R s m args below meth c0 Q D vwCl tys o z (zXX o z) zTs zprog ws0 3 cX7_priceByName none pc sem) (c := kX7_priceByName) ?_ h
  unfold kX7_priceByName
  exact (zrs_c (zr_s (zq_iconst (n := .ofNat 0) C dX7_priceByName_0 (by decide))
    (zr_s (zq_istore_n C dX7_priceByName_1 rfl (by decide))
    (zr_s (zq_iload_n C dX7_priceByName_2 rfl)
    (zr_s (zq_aload_n C dX7_priceByName_3 rfl)
    (zr_s (zq_get (k := 1) C dX7_priceByName_4 (show vwCl[7]? = some (RX7, TX7, 16) from rfl) zinX7 (by decide) zw424)
    (zr_n (zr_n (zr_s (zq_getN (k := 6) C dX7_priceByName_7 (show vwCl[0]? = some (RX0, TX0, 12) from rfl) zinX0 (by decide) (fun U H h => zn10 h))
    (zr_n (zr_n (zr_s (zq_icmp_ge C dX7_priceByName_10 (by decide))
    (zr_n (zr_n (zr_n (zr_n (zr_n zr_0))))))))))))))))
  (zrs_c (zr_n (zr_n (zr_n (zr_n (zr_n (zr_n (zr_n (zr_n (zr_n (zr_n (zr_n (zr_n (zr_n (zr_n (zr_n (zr_n zr_0))))))))))))))))
  (zrs_c (zr_n (zr_n (zr_n (zr_n (zr_n (zr_n (zr_n (zr_n (zr_n (zr_n (zr_n (zr_n (zr_n (zr_n (zr_n (zr_n zr_0))))))))))))))))
  (zrs_c (zr_s (zk_ret0 C hbc hbs rfl dX7_priceByName_48)
    zr_0)
  zrs_0))))
set_option maxRecDepth 100000 in
set_option maxHeartbeats 4000000 in
theorem okX7_readSpare {l : Launch} {D : va_G} {tys : List (ClassId × FieldType)} {o : zO} {z : Nat} (E : zEnv tys) : zCodeOk l D vwCl tys o z (zXX o z) zTs zprog mX7_readSpare := by
  intro p e R s m args below meth c0 Q ws0 hbc hbs C pc sem h
  replace hbc : R.cells = 0 := hbc
  replace hbs : R.slots = 0 := hbs
  replace C : zCx p R s m args meth c0 D vwCl tys z (zXX o z) zTs RX7 cX7_readSpare 2 "readSpare" := C
  refine zRows_get (P := fun pc sem => zOp p l e R s m args below meth c0 Q D vwCl tys o z (zXX o z) zTs zprog ws0 2 cX7_readSpare (some .int) pc sem) (c := kX7_readSpare) ?_ h
  unfold kX7_readSpare
  exact (zrs_c (zr_s (zq_aload_n C dX7_readSpare_0 rfl)
    (zr_s (zq_get (k := 14) C dX7_readSpare_1 (show vwCl[7]? = some (RX7, TX7, 16) from rfl) zinX7 (by decide) zw437)
    (zr_n (zr_n (zr_s (zq_aload_n C dX7_readSpare_4 rfl)
    (zr_s (zq_get (k := 0) C dX7_readSpare_5 (show vwCl[7]? = some (RX7, TX7, 16) from rfl) zinX7 (by decide) zw423)
    (zr_n (zr_n (zr_s (zk_callVN (n := 1) C zXX_ok zTs_good hbc hbs (show zget zprog 42 = some mX3_read from rfl) rfl rfl (show vwCl[3]? = some (RX3, TX3, 9) from rfl) zw540 (fun U H h => zn44 h) zw539 zs22 zw4 (by decide +kernel) dX7_readSpare_8)
    (zr_n (zr_n (zr_s (zq_istore_n C dX7_readSpare_11 rfl (by decide))
    (zr_s (zq_aload_n C dX7_readSpare_12 rfl)
    (zr_s (zq_get (k := 0) C dX7_readSpare_13 (show vwCl[7]? = some (RX7, TX7, 16) from rfl) zinX7 (by decide) zw423)
    (zr_n (zr_n zr_0))))))))))))))))
  (zrs_c (zr_s (zk_callVN (n := 0) C zXX_ok zTs_good hbc hbs (show zget zprog 68 = some mX6_empty from rfl) rfl rfl (show vwCl[6]? = some (RX6, TX6, 2) from rfl) zw520 (fun U H h => zn42 h) zw519 zs18 zw2 (by decide +kernel) dX7_readSpare_16)
    (zr_n (zr_n (zr_s (zq_iload_n C dX7_readSpare_19 rfl)
    (zr_s (zk_ret1 (ty := .int) C hbc hbs rfl rfl (Or.inl ⟨dX7_readSpare_20, by decide⟩))
    zr_0)))))
  zrs_0))
set_option maxRecDepth 100000 in
set_option maxHeartbeats 4000000 in
theorem okX7_rests {l : Launch} {D : va_G} {tys : List (ClassId × FieldType)} {o : zO} {z : Nat} (E : zEnv tys) : zCodeOk l D vwCl tys o z (zXX o z) zTs zprog mX7_rests := by
  intro p e R s m args below meth c0 Q ws0 hbc hbs C pc sem h
  replace hbc : R.cells = 0 := hbc
  replace hbs : R.slots = 0 := hbs
  replace C : zCx p R s m args meth c0 D vwCl tys z (zXX o z) zTs RX7 cX7_rests 7 "rests" := C
  refine zRows_get (P := fun pc sem => zOp p l e R s m args below meth c0 Q D vwCl tys o z (zXX o z) zTs zprog ws0 7 cX7_rests (some .int) pc sem) (c := kX7_rests) ?_ h
  unfold kX7_rests
  exact (zrs_c (zr_s (zq_iload_n C dX7_rests_0 rfl)
    (zr_s (zq_if_lt C dX7_rests_1 (by decide))
    (zr_n (zr_n (zr_s (zq_iload_n C dX7_rests_4 rfl)
    (zr_s (zq_bipush (n := .ofNat 10) C dX7_rests_5 (by decide) (by decide))
    (zr_n (zr_s (zq_icmp_ge C dX7_rests_7 (by decide))
    (zr_n (zr_n (zr_s (zq_iload_n C dX7_rests_10 rfl)
    (zr_s (zq_if_lt C dX7_rests_11 (by decide))
    (zr_n (zr_n (zr_s (zq_iload_n C dX7_rests_14 rfl)
    (zr_s (zq_bipush (n := .ofNat 10) C dX7_rests_15 (by decide) (by decide))
    zr_0))))))))))))))))
  (zrs_c (zr_n (zr_s (zq_icmp_lt C dX7_rests_17 (by decide))
    (zr_n (zr_n (zr_s (zq_iconst (n := .negSucc 0) C dX7_rests_20 (by decide))
    (zr_s (zk_ret1 (ty := .int) C hbc hbs rfl rfl (Or.inl ⟨dX7_rests_21, by decide⟩))
    (zr_s (zq_iconst (n := .ofNat 0) C dX7_rests_22 (by decide))
    (zr_s (zq_istore_n C dX7_rests_23 rfl (by decide))
    (zr_s (zq_iconst (n := .ofNat 0) C dX7_rests_24 (by decide))
    (zr_s (zq_istore C dX7_rests_25 (by decide))
    (zr_n (zr_s (zq_iconst (n := .ofNat 0) C dX7_rests_27 (by decide))
    (zr_s (zq_istore C dX7_rests_28 (by decide))
    (zr_n (zr_s (zq_bipush (n := .ofNat 99) C dX7_rests_30 (by decide) (by decide))
    (zr_n zr_0))))))))))))))))
  (zrs_c (zr_s (zq_istore C dX7_rests_32 (by decide))
    (zr_n (zr_s (zq_iload C dX7_rests_34)
    (zr_n (zr_s (zq_if_lt C dX7_rests_36 (by decide))
    (zr_n (zr_n (zr_s (zq_iload C dX7_rests_39)
    (zr_n (zr_s (zq_bipush (n := .ofNat 10) C dX7_rests_41 (by decide) (by decide))
    (zr_n (zr_s (zq_idiv C dX7_rests_43)
    (zr_s (zq_iload C dX7_rests_44)
    (zr_n (zr_s (zq_bipush (n := .ofNat 10) C dX7_rests_46 (by decide) (by decide))
    (zr_n zr_0))))))))))))))))
  (zrs_c (zr_s (zq_irem C dX7_rests_48)
    (zr_s (zq_iload_n C dX7_rests_49 rfl)
    (zr_s (zq_iload_n C dX7_rests_50 rfl)
    (zr_s (zk_callS C zXX_ok zTs_good hbc hbs (show zget zprog 98 = some mX7_isAtRest from rfl) rfl rfl zw1047 zw1045 zw1046 zw1 (by decide +kernel) dX7_rests_51)
    (zr_n (zr_n (zr_s (zq_if_eq C dX7_rests_54 (by decide))
    (zr_n (zr_n (zr_s (zk_inc (n := .ofNat 1) C dX7_rests_57 (by decide) (by decide))
    (zr_n (zr_n (zr_s (zq_iload C dX7_rests_60)
    (zr_n (zr_s (zq_iload C dX7_rests_62)
    (zr_n zr_0))))))))))))))))
  (zrs_c (zr_s (zq_bipush (n := .ofNat 10) C dX7_rests_64 (by decide) (by decide))
    (zr_n (zr_s (zq_idiv C dX7_rests_66)
    (zr_s (zq_iload C dX7_rests_67)
    (zr_n (zr_s (zq_bipush (n := .ofNat 10) C dX7_rests_69 (by decide) (by decide))
    (zr_n (zr_s (zq_irem C dX7_rests_71)
    (zr_s (zq_icmp_lt C dX7_rests_72 (by decide))
    (zr_n (zr_n (zr_s (zq_iconst (n := .ofNat 1) C dX7_rests_75 (by decide))
    (zr_s (zk_goto C dX7_rests_76 (by decide))
    (zr_n (zr_n (zr_s (zq_iconst (n := .ofNat 0) C dX7_rests_79 (by decide))
    zr_0))))))))))))))))
  (zrs_c (zr_s (zk_add C dX7_rests_80)
    (zr_s (zq_istore C dX7_rests_81 (by decide))
    (zr_n (zr_s (zq_iload C dX7_rests_83)
    (zr_n (zr_s (zq_istore C dX7_rests_85 (by decide))
    (zr_n (zr_s (zk_inc (n := .negSucc 0) C dX7_rests_87 (by decide) (by decide))
    (zr_n (zr_n (zr_s (zk_goto C dX7_rests_90 (by decide))
    (zr_n (zr_n (zr_s (zq_aload_n C dX7_rests_93 rfl)
    (zr_s (zq_get (k := 9) C dX7_rests_94 (show vwCl[7]? = some (RX7, TX7, 16) from rfl) zinX7 (by decide) zw432)
    (zr_n zr_0))))))))))))))))
  (zrs_c (zr_n (zr_s (zk_callVN (n := 0) C zXX_ok zTs_good hbc hbs (show zget zprog 28 = some mX1_clear from rfl) rfl rfl (show vwCl[1]? = some (RX1, TX1, 2) from rfl) zw690 (fun U H h => zn73 h) zw689 zs43 zw15 (by decide +kernel) dX7_rests_97)
    (zr_n (zr_n (zr_s (zq_iload_n C dX7_rests_100 rfl)
    (zr_s (zq_if_le C dX7_rests_101 (by decide))
    (zr_n (zr_n (zr_s (zq_aload_n C dX7_rests_104 rfl)
    (zr_s (zq_get (k := 9) C dX7_rests_105 (show vwCl[7]? = some (RX7, TX7, 16) from rfl) zinX7 (by decide) zw432)
    (zr_n (zr_n (zr_s (zq_iload C dX7_rests_108)
    (zr_n (zr_s (zq_bipush (n := .ofNat 10) C dX7_rests_110 (by decide) (by decide))
    (zr_n zr_0))))))))))))))))
  (zrs_c (zr_s (zq_idiv C dX7_rests_112)
    (zr_s (zk_i2l C dX7_rests_113)
    (zr_s (zq_iload C dX7_rests_114)
    (zr_n (zr_s (zq_bipush (n := .ofNat 10) C dX7_rests_116 (by decide) (by decide))
    (zr_n (zr_s (zq_irem C dX7_rests_118)
    (zr_s (zk_i2l C dX7_rests_119)
    (zr_s (zk_callVN (n := 2) C zXX_ok zTs_good hbc hbs (show zget zprog 31 = some mX1_tell_ from rfl) rfl rfl (show vwCl[1]? = some (RX1, TX1, 2) from rfl) zw686 (fun U H h => zn59 h) zw685 zs42 zw15 (by decide +kernel) dX7_rests_120)
    (zr_n (zr_n (zr_s (zq_aload_n C dX7_rests_123 rfl)
    (zr_s (zq_get (k := 9) C dX7_rests_124 (show vwCl[7]? = some (RX7, TX7, 16) from rfl) zinX7 (by decide) zw432)
    (zr_n (zr_n (zr_s (zq_iload C dX7_rests_127)
    zr_0))))))))))))))))
  (zrs_c (zr_n (zr_s (zk_i2l C dX7_rests_129)
    (zr_s (zk_callVN (n := 1) C zXX_ok zTs_good hbc hbs (show zget zprog 27 = some mX1_add from rfl) rfl rfl (show vwCl[1]? = some (RX1, TX1, 2) from rfl) zw694 (fun U H h => zn66 h) zw693 zs44 zw15 (by decide +kernel) dX7_rests_130)
    (zr_n (zr_n (zr_s (zq_iload_n C dX7_rests_133 rfl)
    (zr_s (zk_ret1 (ty := .int) C hbc hbs rfl rfl (Or.inl ⟨dX7_rests_134, by decide⟩))
    zr_0)))))))
  zrs_0)))))))))
set_option maxRecDepth 100000 in
set_option maxHeartbeats 4000000 in
theorem okX7_rider {l : Launch} {D : va_G} {tys : List (ClassId × FieldType)} {o : zO} {z : Nat} (E : zEnv tys) : zCodeOk l D vwCl tys o z (zXX o z) zTs zprog mX7_rider := by
  intro p e R s m args below meth c0 Q ws0 hbc hbs C pc sem h
  replace hbc : R.cells = 0 := hbc
  replace hbs : R.slots = 0 := hbs
  replace C : zCx p R s m args meth c0 D vwCl tys z (zXX o z) zTs RX7 cX7_rider 3 "rider" := C
  refine zRows_get (P := fun pc sem => zOp p l e R s m args below meth c0 Q D vwCl tys o z (zXX o z) zTs zprog ws0 3 cX7_rider (some .int) pc sem) (c := kX7_rider) ?_ h
  unfold kX7_rider
  exact (zrs_c (zr_s (zq_aload_n C dX7_rider_0 rfl)
    (zr_s (zq_get (k := 1) C dX7_rider_1 (show vwCl[7]? = some (RX7, TX7, 16) from rfl) zinX7 (by decide) zw424)
    (zr_n (zr_n (zr_s (zq_iload_n C dX7_rider_4 rfl)
    (zr_s (zk_callVN (n := 1) C zXX_ok zTs_good hbc hbs (show zget zprog 19 = some mX0_has from rfl) rfl rfl (show vwCl[0]? = some (RX0, TX0, 12) from rfl) zw550 (fun U H h => zn46 h) zw549 zs23 zw3 (by decide +kernel) dX7_rider_5)
    (zr_n (zr_n (zr_s (zq_if_eq C dX7_rider_8 (by decide))
    (zr_n (zr_n (zr_n (zr_n (zr_n (zr_n (zr_n zr_0))))))))))))))))
  (zrs_c (zr_n (zr_n (zr_n (zr_n (zr_n (zr_n (zr_n (zr_s (zk_dup C dX7_rider_23)
    (zr_n (zr_n (zr_n (zr_n (zr_n (zr_n (zr_n (zr_n zr_0))))))))))))))))
  (zrs_c (zr_n (zr_n (zr_n (zr_n (zr_n (zr_n (zr_n (zr_n (zr_n (zr_n (zr_n (zr_n (zr_n (zr_n (zr_n (zr_n zr_0))))))))))))))))
  (zrs_c (zr_n (zr_n (zr_n (zr_n (zr_n (zr_n (zr_n (zr_n (zr_n (zr_n (zr_n (zr_n (zr_n (zr_n (zr_n (zr_n zr_0))))))))))))))))
  (zrs_c (zr_n (zr_n (zr_n (zr_n (zr_n (zr_n (zr_n (zr_n (zr_n (zr_n (zr_n (zr_n (zr_n (zr_n (zr_n (zr_n zr_0))))))))))))))))
  (zrs_c (zr_n (zr_n (zr_n (zr_n (zr_n (zr_n (zr_n (zr_n (zr_n (zr_n (zr_n (zr_n (zr_n (zr_n (zr_n (zr_n zr_0))))))))))))))))
  (zrs_c (zr_n (zr_n (zr_n (zr_n (zr_n (zr_n (zr_n (zr_n (zr_n (zr_n (zr_n (zr_n (zr_n (zr_n (zr_n (zr_n zr_0))))))))))))))))
  (zrs_c (zr_n (zr_n (zr_n (zr_n (zr_n (zr_n (zr_n (zr_n (zr_n (zr_n (zr_n (zr_n (zr_n (zr_n (zr_n (zr_n zr_0))))))))))))))))
  (zrs_c (zr_n (zr_n zr_0))
  zrs_0)))))))))
set_option maxRecDepth 100000 in
set_option maxHeartbeats 4000000 in
theorem okX7_riders {l : Launch} {D : va_G} {tys : List (ClassId × FieldType)} {o : zO} {z : Nat} (E : zEnv tys) : zCodeOk l D vwCl tys o z (zXX o z) zTs zprog mX7_riders := by
  intro p e R s m args below meth c0 Q ws0 hbc hbs C pc sem h
  replace hbc : R.cells = 0 := hbc
  replace hbs : R.slots = 0 := hbs
  replace C : zCx p R s m args meth c0 D vwCl tys z (zXX o z) zTs RX7 cX7_riders 2 "riders" := C
  refine zRows_get (P := fun pc sem => zOp p l e R s m args below meth c0 Q D vwCl tys o z (zXX o z) zTs zprog ws0 2 cX7_riders (some .int) pc sem) (c := kX7_riders) ?_ h
  unfold kX7_riders
  exact (zrs_c (zr_s (zq_aload_n C dX7_riders_0 rfl)
    (zr_s (zq_get (k := 1) C dX7_riders_1 (show vwCl[7]? = some (RX7, TX7, 16) from rfl) zinX7 (by decide) zw424)
    (zr_n (zr_n (zr_s (zq_aload_n C dX7_riders_4 rfl)
    (zr_s (zq_get (k := 0) C dX7_riders_5 (show vwCl[7]? = some (RX7, TX7, 16) from rfl) zinX7 (by decide) zw423)
    (zr_n (zr_n (zr_s (zk_callVN (n := 1) C zXX_ok zTs_good hbc hbs (show zget zprog 25 = some mX0_readRiders from rfl) rfl rfl (show vwCl[0]? = some (RX0, TX0, 12) from rfl) zw495 (fun U H h => zn40 h) zw494 zs12 zw3 (by decide +kernel) dX7_riders_8)
    (zr_n (zr_n (zr_s (zq_istore_n C dX7_riders_11 rfl (by decide))
    (zr_s (zq_aload_n C dX7_riders_12 rfl)
    (zr_s (zq_get (k := 0) C dX7_riders_13 (show vwCl[7]? = some (RX7, TX7, 16) from rfl) zinX7 (by decide) zw423)
    (zr_n (zr_n zr_0))))))))))))))))
  (zrs_c (zr_s (zk_callVN (n := 0) C zXX_ok zTs_good hbc hbs (show zget zprog 68 = some mX6_empty from rfl) rfl rfl (show vwCl[6]? = some (RX6, TX6, 2) from rfl) zw520 (fun U H h => zn42 h) zw519 zs18 zw2 (by decide +kernel) dX7_riders_16)
    (zr_n (zr_n (zr_s (zq_iload_n C dX7_riders_19 rfl)
    (zr_s (zq_if_le C dX7_riders_20 (by decide))
    (zr_n (zr_n (zr_n (zr_n (zr_n (zr_n (zr_n (zr_n (zr_n (zr_n (zr_n zr_0))))))))))))))))
  (zrs_c (zr_n (zr_n (zr_s (zq_iload_n C dX7_riders_34 rfl)
    (zr_s (zk_ret1 (ty := .int) C hbc hbs rfl rfl (Or.inl ⟨dX7_riders_35, by decide⟩))
    zr_0))))
  zrs_0)))
set_option maxRecDepth 100000 in
set_option maxHeartbeats 4000000 in
theorem okX7_rota {l : Launch} {D : va_G} {tys : List (ClassId × FieldType)} {o : zO} {z : Nat} (E : zEnv tys) : zCodeOk l D vwCl tys o z (zXX o z) zTs zprog mX7_rota := by
  intro p e R s m args below meth c0 Q ws0 hbc hbs C pc sem h
  replace hbc : R.cells = 0 := hbc
  replace hbs : R.slots = 0 := hbs
  replace C : zCx p R s m args meth c0 D vwCl tys z (zXX o z) zTs RX7 cX7_rota 3 "rota" := C
  refine zRows_get (P := fun pc sem => zOp p l e R s m args below meth c0 Q D vwCl tys o z (zXX o z) zTs zprog ws0 3 cX7_rota (some .int) pc sem) (c := kX7_rota) ?_ h
  unfold kX7_rota
  exact (zrs_c (zr_s (zq_aload_n C dX7_rota_0 rfl)
    (zr_s (zk_callV (n := 0) C zXX_ok zTs_good hbc hbs (show zget zprog 121 = some mX7_rotaFault from rfl) rfl rfl (show vwCl[7]? = some (RX7, TX7, 16) from rfl) zw608 zw605 zw607 zs29 zw1 (by decide +kernel) dX7_rota_1)
    (zr_n (zr_n (zr_s (zq_istore_n C dX7_rota_4 rfl (by decide))
    (zr_s (zq_iconst (n := .negSucc 0) C dX7_rota_5 (by decide))
    (zr_s (zq_iload_n C dX7_rota_6 rfl)
    (zr_s (zk_sub C dX7_rota_7)
    (zr_s (zq_istore_n C dX7_rota_8 rfl (by decide))
    (zr_s (zq_iload_n C dX7_rota_9 rfl)
    (zr_s (zq_iconst (n := .negSucc 0) C dX7_rota_10 (by decide))
    (zr_s (zq_icmp_ne C dX7_rota_11 (by decide))
    (zr_n (zr_n (zr_n (zr_n zr_0))))))))))))))))
  (zrs_c (zr_n (zr_n (zr_n (zr_n (zr_n (zr_n (zr_n (zr_n (zr_n (zr_n (zr_n (zr_n (zr_n (zr_n (zr_n (zr_n zr_0))))))))))))))))
  (zrs_c (zr_n (zr_n (zr_n (zr_n (zr_n (zr_n (zr_n (zr_n (zr_n (zr_s (zq_aload_n C dX7_rota_41 rfl)
    (zr_s (zq_get (k := 0) C dX7_rota_42 (show vwCl[7]? = some (RX7, TX7, 16) from rfl) zinX7 (by decide) zw423)
    (zr_n (zr_n (zr_s (zk_callVN (n := 0) C zXX_ok zTs_good hbc hbs (show zget zprog 68 = some mX6_empty from rfl) rfl rfl (show vwCl[6]? = some (RX6, TX6, 2) from rfl) zw520 (fun U H h => zn42 h) zw519 zs18 zw2 (by decide +kernel) dX7_rota_45)
    (zr_n (zr_n zr_0))))))))))))))))
  (zrs_c (zr_s (zq_iload_n C dX7_rota_48 rfl)
    (zr_s (zk_ret1 (ty := .int) C hbc hbs rfl rfl (Or.inl ⟨dX7_rota_49, by decide⟩))
    zr_0))
  zrs_0))))
set_option maxRecDepth 100000 in
set_option maxHeartbeats 4000000 in
theorem okX7_rotaFault {l : Launch} {D : va_G} {tys : List (ClassId × FieldType)} {o : zO} {z : Nat} (E : zEnv tys) : zCodeOk l D vwCl tys o z (zXX o z) zTs zprog mX7_rotaFault := by
  intro p e R s m args below meth c0 Q ws0 hbc hbs C pc sem h
  replace hbc : R.cells = 0 := hbc
  replace hbs : R.slots = 0 := hbs
  replace C : zCx p R s m args meth c0 D vwCl tys z (zXX o z) zTs RX7 cX7_rotaFault 4 "rotaFault" := C
  refine zRows_get (P := fun pc sem => zOp p l e R s m args below meth c0 Q D vwCl tys o z (zXX o z) zTs zprog ws0 4 cX7_rotaFault (some .int) pc sem) (c := kX7_rotaFault) ?_ h
  unfold kX7_rotaFault
  exact (zrs_c (zr_s (zq_aload_n C dX7_rotaFault_0 rfl)
    (zr_s (zq_get (k := 0) C dX7_rotaFault_1 (show vwCl[7]? = some (RX7, TX7, 16) from rfl) zinX7 (by decide) zw423)
    (zr_n (zr_n (zr_s (zq_getN (k := 1) C dX7_rotaFault_4 (show vwCl[6]? = some (RX6, TX6, 2) from rfl) zinX6 (by decide) (fun U H h => zn3 h))
    (zr_n (zr_n (zr_s (zq_aload_n C dX7_rotaFault_7 rfl)
    (zr_s (zq_get (k := 1) C dX7_rotaFault_8 (show vwCl[7]? = some (RX7, TX7, 16) from rfl) zinX7 (by decide) zw424)
    (zr_n (zr_n (zr_s (zq_getN (k := 7) C dX7_rotaFault_11 (show vwCl[0]? = some (RX0, TX0, 12) from rfl) zinX0 (by decide) (fun U H h => zn11 h))
    (zr_n (zr_n (zr_s (zq_min C hbc hbs dX7_rotaFault_14 zw582 zw149 zw9 zw150)
    (zr_n zr_0))))))))))))))))
  (zrs_c (zr_n (zr_s (zq_istore_n C dX7_rotaFault_17 rfl (by decide))
    (zr_s (zq_iconst (n := .ofNat 0) C dX7_rotaFault_18 (by decide))
    (zr_s (zq_istore_n C dX7_rotaFault_19 rfl (by decide))
    (zr_s (zq_iload_n C dX7_rotaFault_20 rfl)
    (zr_s (zq_iload_n C dX7_rotaFault_21 rfl)
    (zr_s (zq_icmp_ge C dX7_rotaFault_22 (by decide))
    (zr_n (zr_n (zr_n (zr_n (zr_n (zr_n (zr_n (zr_n (zr_n zr_0))))))))))))))))
  (zrs_c (zr_n (zr_n (zr_n (zr_n (zr_n (zr_n (zr_n (zr_n (zr_n (zr_n (zr_n (zr_n (zr_n (zr_n (zr_n (zr_n zr_0))))))))))))))))
  (zrs_c (zr_n (zr_n (zr_n (zr_n (zr_n (zr_n (zr_n (zr_n (zr_n (zr_n (zr_n (zr_n (zr_n (zr_n (zr_n (zr_n zr_0))))))))))))))))
  (zrs_c (zr_n (zr_n (zr_n (zr_n (zr_n (zr_s (zq_aload_n C dX7_rotaFault_69 rfl)
    (zr_s (zq_get (k := 0) C dX7_rotaFault_70 (show vwCl[7]? = some (RX7, TX7, 16) from rfl) zinX7 (by decide) zw423)
    (zr_n (zr_n (zr_s (zq_getN (k := 1) C dX7_rotaFault_73 (show vwCl[6]? = some (RX6, TX6, 2) from rfl) zinX6 (by decide) (fun U H h => zn3 h))
    (zr_n (zr_n (zr_s (zq_aload_n C dX7_rotaFault_76 rfl)
    (zr_s (zq_get (k := 1) C dX7_rotaFault_77 (show vwCl[7]? = some (RX7, TX7, 16) from rfl) zinX7 (by decide) zw424)
    (zr_n (zr_n zr_0))))))))))))))))
  (zrs_c (zr_s (zq_getN (k := 7) C dX7_rotaFault_80 (show vwCl[0]? = some (RX0, TX0, 12) from rfl) zinX0 (by decide) (fun U H h => zn11 h))
    (zr_n (zr_n (zr_s (zq_icmp_ne C dX7_rotaFault_83 (by decide))
    (zr_n (zr_n (zr_n (zr_n (zr_n (zr_n (zr_s (zq_iload_n C dX7_rotaFault_90 rfl)
    (zr_s (zk_ret1 (ty := .int) C hbc hbs rfl rfl (Or.inl ⟨dX7_rotaFault_91, by decide⟩))
    zr_0))))))))))))
  zrs_0))))))
set_option maxRecDepth 100000 in
set_option maxHeartbeats 4000000 in
theorem okX7_rotas {l : Launch} {D : va_G} {tys : List (ClassId × FieldType)} {o : zO} {z : Nat} (E : zEnv tys) : zCodeOk l D vwCl tys o z (zXX o z) zTs zprog mX7_rotas := by
  intro p e R s m args below meth c0 Q ws0 hbc hbs C pc sem h
  replace hbc : R.cells = 0 := hbc
  replace hbs : R.slots = 0 := hbs
  replace C : zCx p R s m args meth c0 D vwCl tys z (zXX o z) zTs RX7 cX7_rotas 1 "rotas" := C
  refine zRows_get (P := fun pc sem => zOp p l e R s m args below meth c0 Q D vwCl tys o z (zXX o z) zTs zprog ws0 1 cX7_rotas (some .int) pc sem) (c := kX7_rotas) ?_ h
  unfold kX7_rotas
  exact (zrs_c (zr_s (zq_aload_n C dX7_rotas_0 rfl)
    (zr_s (zq_iconst (n := .negSucc 0) C dX7_rotas_1 (by decide))
    (zr_s (zk_callV (n := 1) C zXX_ok zTs_good hbc hbs (show zget zprog 111 = some mX7_openSeats from rfl) rfl rfl (show vwCl[7]? = some (RX7, TX7, 16) from rfl) zw781 zw778 zw780 zs55 zw1 (by decide +kernel) dX7_rotas_2)
    (zr_n (zr_n (zr_s (zq_aload_n C dX7_rotas_5 rfl)
    (zr_s (zk_callV (n := 0) C zXX_ok zTs_good hbc hbs (show zget zprog 134 = some mX7_tellWays from rfl) rfl rfl (show vwCl[7]? = some (RX7, TX7, 16) from rfl) zw859 zw856 zw858 zs67 zw1 (by decide +kernel) dX7_rotas_6)
    (zr_n (zr_n (zr_s (zk_ret1 (ty := .int) C hbc hbs rfl rfl (Or.inl ⟨dX7_rotas_9, by decide⟩))
    zr_0))))))))))
  zrs_0)
set_option maxRecDepth 100000 in
set_option maxHeartbeats 4000000 in
theorem okX7_row {l : Launch} {D : va_G} {tys : List (ClassId × FieldType)} {o : zO} {z : Nat} (E : zEnv tys) : zCodeOk l D vwCl tys o z (zXX o z) zTs zprog mX7_row := by
  intro p e R s m args below meth c0 Q ws0 hbc hbs C pc sem h
  replace hbc : R.cells = 0 := hbc
  replace hbs : R.slots = 0 := hbs
  replace C : zCx p R s m args meth c0 D vwCl tys z (zXX o z) zTs RX7 cX7_row 2 "row" := C
  refine zRows_get (P := fun pc sem => zOp p l e R s m args below meth c0 Q D vwCl tys o z (zXX o z) zTs zprog ws0 2 cX7_row (some .long) pc sem) (c := kX7_row) ?_ h
  unfold kX7_row
  exact (zrs_c (zr_s (zq_iload_n C dX7_row_0 rfl)
    (zr_s (zq_if_lt C dX7_row_1 (by decide))
    (zr_n (zr_n (zr_s (zq_iload_n C dX7_row_4 rfl)
    (zr_s (zq_aload_n C dX7_row_5 rfl)
    (zr_s (zq_get (k := 9) C dX7_row_6 (show vwCl[7]? = some (RX7, TX7, 16) from rfl) zinX7 (by decide) zw432)
    (zr_n (zr_n (zr_s (zq_getN (k := 1) C dX7_row_9 (show vwCl[1]? = some (RX1, TX1, 2) from rfl) zinX1 (by decide) (fun U H h => zn36 h))
    (zr_n (zr_n (zr_s (zq_icmp_lt C dX7_row_12 (by decide))
    (zr_n (zr_n (zr_n zr_0))))))))))))))))
  (zrs_c (zr_n (zr_n (zr_s (zk_dup C dX7_row_18)
    (zr_n (zr_n (zr_n (zr_n (zr_n (zr_n (zr_n (zr_n (zr_n (zr_n (zr_n (zr_n (zr_n zr_0))))))))))))))))
  zrs_0))
set_option maxRecDepth 100000 in
set_option maxHeartbeats 4000000 in
theorem okX7_rule {l : Launch} {D : va_G} {tys : List (ClassId × FieldType)} {o : zO} {z : Nat} (E : zEnv tys) : zCodeOk l D vwCl tys o z (zXX o z) zTs zprog mX7_rule := by
  intro p e R s m args below meth c0 Q ws0 hbc hbs C pc sem h
  replace hbc : R.cells = 0 := hbc
  replace hbs : R.slots = 0 := hbs
  replace C : zCx p R s m args meth c0 D vwCl tys z (zXX o z) zTs RX7 cX7_rule 3 "rule" := C
  refine zRows_get (P := fun pc sem => zOp p l e R s m args below meth c0 Q D vwCl tys o z (zXX o z) zTs zprog ws0 3 cX7_rule (some .int) pc sem) (c := kX7_rule) ?_ h
  unfold kX7_rule
  exact (zrs_c (zr_s (zq_aload_n C dX7_rule_0 rfl)
    (zr_s (zk_callV (n := 0) C zXX_ok zTs_good hbc hbs (show zget zprog 116 = some mX7_readSpare from rfl) rfl rfl (show vwCl[7]? = some (RX7, TX7, 16) from rfl) zw536 zw533 zw535 zs21 zw1 (by decide +kernel) dX7_rule_1)
    (zr_n (zr_n (zr_s (zq_istore_n C dX7_rule_4 rfl (by decide))
    (zr_s (zq_iload_n C dX7_rule_5 rfl)
    (zr_s (zq_iconst (n := .negSucc 0) C dX7_rule_6 (by decide))
    (zr_s (zq_icmp_eq C dX7_rule_7 (by decide))
    (zr_n (zr_n (zr_n (zr_n (zr_n (zr_n (zr_s (zq_aload_n C dX7_rule_14 rfl)
    (zr_s (zq_get (k := 1) C dX7_rule_15 (show vwCl[7]? = some (RX7, TX7, 16) from rfl) zinX7 (by decide) zw424)
    zr_0))))))))))))))))
  (zrs_c (zr_n (zr_n (zr_s (zq_getN (k := 9) C dX7_rule_18 (show vwCl[0]? = some (RX0, TX0, 12) from rfl) zinX0 (by decide) (fun U H h => zn13 h))
    (zr_n (zr_n (zr_s (zq_astore_n C dX7_rule_21 rfl (by decide))
    (zr_s (zq_aload_n C dX7_rule_22 rfl)
    (zr_s (zq_get (k := 1) C dX7_rule_23 (show vwCl[7]? = some (RX7, TX7, 16) from rfl) zinX7 (by decide) zw424)
    (zr_n (zr_n (zr_s (zq_aload_n C dX7_rule_26 rfl)
    (zr_s (zq_get (k := 14) C dX7_rule_27 (show vwCl[7]? = some (RX7, TX7, 16) from rfl) zinX7 (by decide) zw437)
    (zr_n (zr_n (zr_s (zq_putN (k := 9) C dX7_rule_30 (show vwCl[0]? = some (RX0, TX0, 12) from rfl) zinX0 tyX0 tyX0_ok nmX0 (by decide) (fun U H h => zn13 h) rfl (ty := (.object "RockingHorse$Rule")) (by decide +kernel) rfl)
    (zr_n zr_0))))))))))))))))
  (zrs_c (zr_n (zr_s (zq_aload_n C dX7_rule_33 rfl)
    (zr_s (zq_aload_n C dX7_rule_34 rfl)
    (zr_s (zq_put (k := 14) C dX7_rule_35 (show vwCl[7]? = some (RX7, TX7, 16) from rfl) zinX7 tyX7 tyX7_ok nmX7 (by decide) zw437 rfl (ty := (.object "RockingHorse$Rule")) (by decide +kernel) rfl)
    (zr_n (zr_n (zr_s (zq_iconst (n := .ofNat 0) C dX7_rule_38 (by decide))
    (zr_s (zk_ret1 (ty := .int) C hbc hbs rfl rfl (Or.inl ⟨dX7_rule_39, by decide⟩))
    zr_0))))))))
  zrs_0)))
set_option maxRecDepth 100000 in
set_option maxHeartbeats 4000000 in
theorem okX7_set {l : Launch} {D : va_G} {tys : List (ClassId × FieldType)} {o : zO} {z : Nat} (E : zEnv tys) : zCodeOk l D vwCl tys o z (zXX o z) zTs zprog mX7_set := by
  intro p e R s m args below meth c0 Q ws0 hbc hbs C pc sem h
  replace hbc : R.cells = 0 := hbc
  replace hbs : R.slots = 0 := hbs
  replace C : zCx p R s m args meth c0 D vwCl tys z (zXX o z) zTs RX7 cX7_set 4 "set" := C
  refine zRows_get (P := fun pc sem => zOp p l e R s m args below meth c0 Q D vwCl tys o z (zXX o z) zTs zprog ws0 4 cX7_set (some .int) pc sem) (c := kX7_set) ?_ h
  unfold kX7_set
  exact (zrs_c (zr_s (zq_iconst (n := .negSucc 0) C dX7_set_0 (by decide))
    (zr_s (zq_istore_n C dX7_set_1 rfl (by decide))
    (zr_s (zq_iload_n C dX7_set_2 rfl)
    (zr_s (zq_if_ne C dX7_set_3 (by decide))
    (zr_n (zr_n (zr_s (zq_iload_n C dX7_set_6 rfl)
    (zr_s (zq_iconst (n := .ofNat 1) C dX7_set_7 (by decide))
    (zr_s (zq_icmp_lt C dX7_set_8 (by decide))
    (zr_n (zr_n (zr_s (zq_iload_n C dX7_set_11 rfl)
    (zr_s (zq_bipush (n := .ofNat 8) C dX7_set_12 (by decide) (by decide))
    (zr_n (zr_s (zq_icmp_gt C dX7_set_14 (by decide))
    (zr_n zr_0))))))))))))))))
  (zrs_c (zr_n (zr_s (zq_aload_n C dX7_set_17 rfl)
    (zr_s (zq_get (k := 1) C dX7_set_18 (show vwCl[7]? = some (RX7, TX7, 16) from rfl) zinX7 (by decide) zw424)
    (zr_n (zr_n (zr_s (zq_getN (k := 7) C dX7_set_21 (show vwCl[0]? = some (RX0, TX0, 12) from rfl) zinX0 (by decide) (fun U H h => zn11 h))
    (zr_n (zr_n (zr_s (zq_istore_n C dX7_set_24 rfl (by decide))
    (zr_s (zq_aload_n C dX7_set_25 rfl)
    (zr_s (zq_get (k := 1) C dX7_set_26 (show vwCl[7]? = some (RX7, TX7, 16) from rfl) zinX7 (by decide) zw424)
    (zr_n (zr_n (zr_s (zq_iload_n C dX7_set_29 rfl)
    (zr_s (zq_putN (k := 7) C dX7_set_30 (show vwCl[0]? = some (RX0, TX0, 12) from rfl) zinX0 tyX0 tyX0_ok nmX0 (by decide) (fun U H h => zn11 h) rfl (ty := .int) (by decide +kernel) rfl)
    (zr_n zr_0))))))))))))))))
  (zrs_c (zr_n (zr_s (zk_goto C dX7_set_33 (by decide))
    (zr_n (zr_n (zr_s (zq_iload_n C dX7_set_36 rfl)
    (zr_s (zq_iconst (n := .ofNat 1) C dX7_set_37 (by decide))
    (zr_s (zq_icmp_ne C dX7_set_38 (by decide))
    (zr_n (zr_n (zr_s (zq_iload_n C dX7_set_41 rfl)
    (zr_s (zq_if_lt C dX7_set_42 (by decide))
    (zr_n (zr_n (zr_s (zq_iload_n C dX7_set_45 rfl)
    (zr_s (zq_bipush (n := .ofNat 9) C dX7_set_46 (by decide) (by decide))
    (zr_n zr_0))))))))))))))))
  (zrs_c (zr_s (zq_icmp_gt C dX7_set_48 (by decide))
    (zr_n (zr_n (zr_s (zq_aload_n C dX7_set_51 rfl)
    (zr_s (zq_get (k := 1) C dX7_set_52 (show vwCl[7]? = some (RX7, TX7, 16) from rfl) zinX7 (by decide) zw424)
    (zr_n (zr_n (zr_s (zq_getN (k := 8) C dX7_set_55 (show vwCl[0]? = some (RX0, TX0, 12) from rfl) zinX0 (by decide) (fun U H h => zn12 h))
    (zr_n (zr_n (zr_s (zq_istore_n C dX7_set_58 rfl (by decide))
    (zr_s (zq_aload_n C dX7_set_59 rfl)
    (zr_s (zq_get (k := 1) C dX7_set_60 (show vwCl[7]? = some (RX7, TX7, 16) from rfl) zinX7 (by decide) zw424)
    (zr_n (zr_n (zr_s (zq_iload_n C dX7_set_63 rfl)
    zr_0))))))))))))))))
  (zrs_c (zr_s (zq_putN (k := 8) C dX7_set_64 (show vwCl[0]? = some (RX0, TX0, 12) from rfl) zinX0 tyX0 tyX0_ok nmX0 (by decide) (fun U H h => zn12 h) rfl (ty := .int) (by decide +kernel) rfl)
    (zr_n (zr_n (zr_s (zq_iload_n C dX7_set_67 rfl)
    (zr_s (zk_ret1 (ty := .int) C hbc hbs rfl rfl (Or.inl ⟨dX7_set_68, by decide⟩))
    zr_0)))))
  zrs_0)))))
set_option maxRecDepth 100000 in
set_option maxHeartbeats 4000000 in
theorem okX7_shared {l : Launch} {D : va_G} {tys : List (ClassId × FieldType)} {o : zO} {z : Nat} (E : zEnv tys) : zCodeOk l D vwCl tys o z (zXX o z) zTs zprog mX7_shared := by
  intro p e R s m args below meth c0 Q ws0 hbc hbs C pc sem h
  replace hbc : R.cells = 0 := hbc
  replace hbs : R.slots = 0 := hbs
  replace C : zCx p R s m args meth c0 D vwCl tys z (zXX o z) zTs RX7 cX7_shared 3 "shared" := C
  refine zRows_get (P := fun pc sem => zOp p l e R s m args below meth c0 Q D vwCl tys o z (zXX o z) zTs zprog ws0 3 cX7_shared (some .int) pc sem) (c := kX7_shared) ?_ h
  unfold kX7_shared
  exact (zrs_c (zr_s (zq_aload_n C dX7_shared_0 rfl)
    (zr_s (zq_get (k := 1) C dX7_shared_1 (show vwCl[7]? = some (RX7, TX7, 16) from rfl) zinX7 (by decide) zw424)
    (zr_n (zr_n (zr_s (zq_iload_n C dX7_shared_4 rfl)
    (zr_s (zq_iload_n C dX7_shared_5 rfl)
    (zr_s (zk_callVN (n := 2) C zXX_ok zTs_good hbc hbs (show zget zprog 18 = some mX0_areTwo from rfl) rfl rfl (show vwCl[0]? = some (RX0, TX0, 12) from rfl) zw674 (fun U H h => zn60 h) zw673 zs40 zw3 (by decide +kernel) dX7_shared_6)
    (zr_n (zr_n (zr_s (zq_if_ne C dX7_shared_9 (by decide))
    (zr_n (zr_n (zr_s (zq_iconst (n := .negSucc 0) C dX7_shared_12 (by decide))
    (zr_s (zk_ret1 (ty := .int) C hbc hbs rfl rfl (Or.inl ⟨dX7_shared_13, by decide⟩))
    (zr_n (zr_n zr_0))))))))))))))))
  (zrs_c (zr_n (zr_n (zr_n (zr_n (zr_n (zr_n (zr_n (zr_n (zr_n (zr_n (zr_n (zr_n (zr_n (zr_n (zr_n (zr_n zr_0))))))))))))))))
  (zrs_c (zr_n (zr_n (zr_n (zr_n (zr_n (zr_n (zr_n (zr_n (zr_n (zr_n (zr_n (zr_n (zr_n (zr_n (zr_n (zr_n zr_0))))))))))))))))
  (zrs_c (zr_n (zr_n (zr_n (zr_n (zr_n (zr_n (zr_n (zr_n (zr_n (zr_n (zr_n (zr_n (zr_n (zr_n (zr_n (zr_n zr_0))))))))))))))))
  (zrs_c (zr_n (zr_n (zr_n zr_0)))
  zrs_0)))))
set_option maxRecDepth 100000 in
set_option maxHeartbeats 4000000 in
theorem okX7_sheet {l : Launch} {D : va_G} {tys : List (ClassId × FieldType)} {o : zO} {z : Nat} (E : zEnv tys) : zCodeOk l D vwCl tys o z (zXX o z) zTs zprog mX7_sheet := by
  intro p e R s m args below meth c0 Q ws0 hbc hbs C pc sem h
  replace hbc : R.cells = 0 := hbc
  replace hbs : R.slots = 0 := hbs
  replace C : zCx p R s m args meth c0 D vwCl tys z (zXX o z) zTs RX7 cX7_sheet 6 "sheet" := C
  refine zRows_get (P := fun pc sem => zOp p l e R s m args below meth c0 Q D vwCl tys o z (zXX o z) zTs zprog ws0 6 cX7_sheet (some .int) pc sem) (c := kX7_sheet) ?_ h
  unfold kX7_sheet
  exact (zrs_c (zr_s (zq_iload_n C dX7_sheet_0 rfl)
    (zr_s (zq_if_lt C dX7_sheet_1 (by decide))
    (zr_n (zr_n (zr_s (zq_iload_n C dX7_sheet_4 rfl)
    (zr_s (zq_iconst (n := .ofNat 3) C dX7_sheet_5 (by decide))
    (zr_s (zq_icmp_gt C dX7_sheet_6 (by decide))
    (zr_n (zr_n (zr_s (zq_iload_n C dX7_sheet_9 rfl)
    (zr_s (zq_bipush (n := .ofNat 8) C dX7_sheet_10 (by decide) (by decide))
    (zr_n (zr_s (zq_icmp_le C dX7_sheet_12 (by decide))
    (zr_n (zr_n (zr_s (zq_iconst (n := .negSucc 0) C dX7_sheet_15 (by decide))
    zr_0))))))))))))))))
  (zrs_c (zr_s (zk_ret1 (ty := .int) C hbc hbs rfl rfl (Or.inl ⟨dX7_sheet_16, by decide⟩))
    (zr_s (zq_iload_n C dX7_sheet_17 rfl)
    (zr_s (zq_iconst (n := .ofNat 3) C dX7_sheet_18 (by decide))
    (zr_s (zq_icmp_ne C dX7_sheet_19 (by decide))
    (zr_n (zr_n (zr_s (zq_aload_n C dX7_sheet_22 rfl)
    (zr_s (zq_get (k := 2) C dX7_sheet_23 (show vwCl[7]? = some (RX7, TX7, 16) from rfl) zinX7 (by decide) zw425)
    (zr_n (zr_n (zr_s (zq_getN (k := 1) C dX7_sheet_26 (show vwCl[5]? = some (RX5, TX5, 6) from rfl) zinX5 (by decide) (fun U H h => zn19 h))
    (zr_n (zr_n (zr_s (zq_iconst (n := .ofNat 0) C dX7_sheet_29 (by decide))
    (zr_s (zk_callS C zXX_ok zTs_good hbc hbs (show zget zprog 16 = some mJ7_fill_53178 from rfl) rfl rfl zw300 zw592 zw299 zw12 (by decide +kernel) dX7_sheet_30)
    (zr_n zr_0))))))))))))))))
  (zrs_c (zr_n (zr_s (zq_bipush (n := .negSucc 2) C dX7_sheet_33 (by decide) (by decide))
    (zr_n (zr_s (zk_ret1 (ty := .int) C hbc hbs rfl rfl (Or.inl ⟨dX7_sheet_35, by decide⟩))
    (zr_s (zq_iload_n C dX7_sheet_36 rfl)
    (zr_s (zq_if_ge C dX7_sheet_37 (by decide))
    (zr_n (zr_n (zr_s (zq_bipush (n := .negSucc 1) C dX7_sheet_40 (by decide) (by decide))
    (zr_n (zr_s (zk_ret1 (ty := .int) C hbc hbs rfl rfl (Or.inl ⟨dX7_sheet_42, by decide⟩))
    (zr_s (zq_iconst (n := .ofNat 0) C dX7_sheet_43 (by decide))
    (zr_s (zq_istore C dX7_sheet_44 (by decide))
    (zr_n (zr_s (zq_iload C dX7_sheet_46)
    (zr_n zr_0))))))))))))))))
  (zrs_c (zr_s (zq_aload_n C dX7_sheet_48 rfl)
    (zr_s (zq_get (k := 1) C dX7_sheet_49 (show vwCl[7]? = some (RX7, TX7, 16) from rfl) zinX7 (by decide) zw424)
    (zr_n (zr_n (zr_s (zq_getN (k := 6) C dX7_sheet_52 (show vwCl[0]? = some (RX0, TX0, 12) from rfl) zinX0 (by decide) (fun U H h => zn10 h))
    (zr_n (zr_n (zr_s (zq_icmp_ge C dX7_sheet_55 (by decide))
    (zr_n (zr_n (zr_n (zr_n (zr_n (zr_n (zr_n (zr_n zr_0))))))))))))))))
  (zrs_c (zr_n (zr_n (zr_n (zr_n (zr_n (zr_n (zr_n (zr_n (zr_n (zr_n (zr_n (zr_n (zr_n (zr_n (zr_n (zr_n zr_0))))))))))))))))
  (zrs_c (zr_n (zr_n (zr_n (zr_n (zr_n (zr_n (zr_n (zr_n (zr_n (zr_n (zr_n (zr_n (zr_n (zr_n (zr_n (zr_n zr_0))))))))))))))))
  (zrs_c (zr_n (zr_n (zr_n (zr_n (zr_n (zr_s (zq_aload_n C dX7_sheet_101 rfl)
    (zr_s (zq_get (k := 2) C dX7_sheet_102 (show vwCl[7]? = some (RX7, TX7, 16) from rfl) zinX7 (by decide) zw425)
    (zr_n (zr_n (zr_s (zk_callVN (n := 0) C zXX_ok zTs_good hbc hbs (show zget zprog 65 = some mX5_tiredOfAll from rfl) rfl rfl (show vwCl[5]? = some (RX5, TX5, 6) from rfl) zw600 (fun U H h => zn50 h) zw599 zs28 zw11 (by decide +kernel) dX7_sheet_105)
    (zr_n (zr_n (zr_s (zk_ret1 (ty := .int) C hbc hbs rfl rfl (Or.inl ⟨dX7_sheet_108, by decide⟩))
    zr_0)))))))))))))
  zrs_0)))))))
set_option maxRecDepth 100000 in
set_option maxHeartbeats 4000000 in
theorem okX7_sign {l : Launch} {D : va_G} {tys : List (ClassId × FieldType)} {o : zO} {z : Nat} (E : zEnv tys) : zCodeOk l D vwCl tys o z (zXX o z) zTs zprog mX7_sign := by
  intro p e R s m args below meth c0 Q ws0 hbc hbs C pc sem h
  replace hbc : R.cells = 0 := hbc
  replace hbs : R.slots = 0 := hbs
  replace C : zCx p R s m args meth c0 D vwCl tys z (zXX o z) zTs RX7 cX7_sign 2 "sign" := C
  refine zRows_get (P := fun pc sem => zOp p l e R s m args below meth c0 Q D vwCl tys o z (zXX o z) zTs zprog ws0 2 cX7_sign (some .int) pc sem) (c := kX7_sign) ?_ h
  unfold kX7_sign
  exact (zrs_c (zr_s (zq_aload_n C dX7_sign_0 rfl)
    (zr_s (zq_get (k := 0) C dX7_sign_1 (show vwCl[7]? = some (RX7, TX7, 16) from rfl) zinX7 (by decide) zw423)
    (zr_n (zr_n (zr_s (zq_iload_n C dX7_sign_4 rfl)
    (zr_s (zk_callVN (n := 1) C zXX_ok zTs_good hbc hbs (show zget zprog 66 = some mX6_add from rfl) rfl rfl (show vwCl[6]? = some (RX6, TX6, 2) from rfl) zw479 (fun U H h => zn38 h) zw478 zs10 zw2 (by decide +kernel) dX7_sign_5)
    (zr_n (zr_n (zr_s (zk_ret1 (ty := .int) C hbc hbs rfl rfl (Or.inl ⟨dX7_sign_8, by decide⟩))
    zr_0)))))))))
  zrs_0)
set_option maxRecDepth 100000 in
set_option maxHeartbeats 4000000 in
theorem okX7_smoothest {l : Launch} {D : va_G} {tys : List (ClassId × FieldType)} {o : zO} {z : Nat} (E : zEnv tys) : zCodeOk l D vwCl tys o z (zXX o z) zTs zprog mX7_smoothest := by
  intro p e R s m args below meth c0 Q ws0 hbc hbs C pc sem h
  replace hbc : R.cells = 0 := hbc
  replace hbs : R.slots = 0 := hbs
  replace C : zCx p R s m args meth c0 D vwCl tys z (zXX o z) zTs RX7 cX7_smoothest 3 "smoothest" := C
  refine zRows_get (P := fun pc sem => zOp p l e R s m args below meth c0 Q D vwCl tys o z (zXX o z) zTs zprog ws0 3 cX7_smoothest (some .int) pc sem) (c := kX7_smoothest) ?_ h
  unfold kX7_smoothest
  exact (zrs_c (zr_s (zq_aload_n C dX7_smoothest_0 rfl)
    (zr_s (zq_iconst (n := .negSucc 0) C dX7_smoothest_1 (by decide))
    (zr_s (zk_callV (n := 1) C zXX_ok zTs_good hbc hbs (show zget zprog 111 = some mX7_openSeats from rfl) rfl rfl (show vwCl[7]? = some (RX7, TX7, 16) from rfl) zw781 zw778 zw780 zs55 zw1 (by decide +kernel) dX7_smoothest_2)
    (zr_n (zr_n (zr_s (zq_aload_n C dX7_smoothest_5 rfl)
    (zr_s (zk_callV (n := 0) C zXX_ok zTs_good hbc hbs (show zget zprog 115 = some mX7_priceByName from rfl) rfl rfl (show vwCl[7]? = some (RX7, TX7, 16) from rfl) zw871 zw868 zw870 zs70 zw1 (by decide +kernel) dX7_smoothest_6)
    (zr_n (zr_n (zr_s (zq_aload_n C dX7_smoothest_9 rfl)
    (zr_s (zq_get (k := 8) C dX7_smoothest_10 (show vwCl[7]? = some (RX7, TX7, 16) from rfl) zinX7 (by decide) zw431)
    (zr_n (zr_n (zr_s (zq_aload_n C dX7_smoothest_13 rfl)
    (zr_s (zq_get (k := 1) C dX7_smoothest_14 (show vwCl[7]? = some (RX7, TX7, 16) from rfl) zinX7 (by decide) zw424)
    (zr_n zr_0))))))))))))))))
  (zrs_c (zr_n (zr_s (zq_getN (k := 2) C dX7_smoothest_17 (show vwCl[0]? = some (RX0, TX0, 12) from rfl) zinX0 (by decide) (fun U H h => zn9 h))
    (zr_n (zr_n (zr_s (zq_aload_n C dX7_smoothest_20 rfl)
    (zr_s (zq_get (k := 1) C dX7_smoothest_21 (show vwCl[7]? = some (RX7, TX7, 16) from rfl) zinX7 (by decide) zw424)
    (zr_n (zr_n (zr_s (zq_getN (k := 6) C dX7_smoothest_24 (show vwCl[0]? = some (RX0, TX0, 12) from rfl) zinX0 (by decide) (fun U H h => zn10 h))
    (zr_n (zr_n (zr_s (zk_callVN (n := 2) C zXX_ok zTs_good hbc hbs (show zget zprog 59 = some mX4_orderByWidth from rfl) rfl rfl (show vwCl[4]? = some (RX4, TX4, 15) from rfl) zw951 (fun U H h => zn82 h) zw950 zs77 zw14 (by decide +kernel) dX7_smoothest_27)
    (zr_n (zr_n (zr_s (zq_aload_n C dX7_smoothest_30 rfl)
    (zr_s (zq_get (k := 8) C dX7_smoothest_31 (show vwCl[7]? = some (RX7, TX7, 16) from rfl) zinX7 (by decide) zw431)
    zr_0))))))))))))))))
  (zrs_c (zr_n (zr_n (zr_s (zk_callVN (n := 0) C zXX_ok zTs_good hbc hbs (show zget zprog 56 = some mX4_least from rfl) rfl rfl (show vwCl[4]? = some (RX4, TX4, 15) from rfl) zw811 (fun U H h => zn71 h) zw810 zs61 zw14 (by decide +kernel) dX7_smoothest_34)
    (zr_n (zr_n (zr_s (zq_lstore_n C dX7_smoothest_37 rfl (by decide))
    (zr_s (zq_lload_n C dX7_smoothest_38 rfl)
    (zr_s (zq_ldc2 (n := .ofNat 1152921504606846976) C dX7_smoothest_39 zw827 (by decide +kernel))
    (zr_n (zr_n (zr_s (zk_lcmp C dX7_smoothest_42)
    (zr_s (zq_if_lt C dX7_smoothest_43 (by decide))
    (zr_n (zr_n (zr_s (zq_bipush (n := .negSucc 1) C dX7_smoothest_46 (by decide) (by decide))
    (zr_n zr_0))))))))))))))))
  (zrs_c (zr_s (zk_goto C dX7_smoothest_48 (by decide))
    (zr_n (zr_n (zr_n (zr_n (zr_n (zr_n (zr_n (zr_s (zk_ret1 (ty := .int) C hbc hbs rfl rfl (Or.inl ⟨dX7_smoothest_56, by decide⟩))
    zr_0)))))))))
  zrs_0))))
set_option maxRecDepth 100000 in
set_option maxHeartbeats 4000000 in
theorem okX7_spent {l : Launch} {D : va_G} {tys : List (ClassId × FieldType)} {o : zO} {z : Nat} (E : zEnv tys) : zCodeOk l D vwCl tys o z (zXX o z) zTs zprog mX7_spent := by
  intro p e R s m args below meth c0 Q ws0 hbc hbs C pc sem h
  replace hbc : R.cells = 0 := hbc
  replace hbs : R.slots = 0 := hbs
  replace C : zCx p R s m args meth c0 D vwCl tys z (zXX o z) zTs RX7 cX7_spent 6 "spent" := C
  refine zRows_get (P := fun pc sem => zOp p l e R s m args below meth c0 Q D vwCl tys o z (zXX o z) zTs zprog ws0 6 cX7_spent (some .int) pc sem) (c := kX7_spent) ?_ h
  unfold kX7_spent
  exact (zrs_c (zr_s (zq_iload_n C dX7_spent_0 rfl)
    (zr_s (zq_if_lt C dX7_spent_1 (by decide))
    (zr_n (zr_n (zr_s (zq_iload_n C dX7_spent_4 rfl)
    (zr_s (zq_sipush (n := .ofNat 999) C dX7_spent_5 (by decide) (by decide))
    (zr_n (zr_n (zr_s (zq_icmp_le C dX7_spent_8 (by decide))
    (zr_n (zr_n (zr_s (zq_iconst (n := .negSucc 0) C dX7_spent_11 (by decide))
    (zr_s (zk_ret1 (ty := .int) C hbc hbs rfl rfl (Or.inl ⟨dX7_spent_12, by decide⟩))
    (zr_s (zq_iconst (n := .ofNat 0) C dX7_spent_13 (by decide))
    (zr_s (zq_istore_n C dX7_spent_14 rfl (by decide))
    (zr_s (zq_iconst (n := .ofNat 0) C dX7_spent_15 (by decide))
    zr_0))))))))))))))))
  (zrs_c (zr_s (zq_istore_n C dX7_spent_16 rfl (by decide))
    (zr_s (zq_iconst (n := .ofNat 0) C dX7_spent_17 (by decide))
    (zr_s (zq_istore C dX7_spent_18 (by decide))
    (zr_n (zr_s (zq_iload C dX7_spent_20)
    (zr_n (zr_s (zq_aload_n C dX7_spent_22 rfl)
    (zr_s (zq_get (k := 1) C dX7_spent_23 (show vwCl[7]? = some (RX7, TX7, 16) from rfl) zinX7 (by decide) zw424)
    (zr_n (zr_n (zr_s (zq_getN (k := 6) C dX7_spent_26 (show vwCl[0]? = some (RX0, TX0, 12) from rfl) zinX0 (by decide) (fun U H h => zn10 h))
    (zr_n (zr_n (zr_s (zq_icmp_ge C dX7_spent_29 (by decide))
    (zr_n (zr_n zr_0))))))))))))))))
  (zrs_c (zr_n (zr_n (zr_n (zr_n (zr_n (zr_n (zr_n (zr_n (zr_n (zr_n (zr_n (zr_n (zr_n (zr_n (zr_n (zr_n zr_0))))))))))))))))
  (zrs_c (zr_n (zr_n (zr_n (zr_n (zr_n (zr_n (zr_n (zr_n (zr_n (zr_n (zr_n (zr_n (zr_n (zr_n (zr_n (zr_n zr_0))))))))))))))))
  (zrs_c (zr_n (zr_n (zr_s (zq_aload_n C dX7_spent_66 rfl)
    (zr_s (zq_get (k := 9) C dX7_spent_67 (show vwCl[7]? = some (RX7, TX7, 16) from rfl) zinX7 (by decide) zw432)
    (zr_n (zr_n (zr_s (zq_iload_n C dX7_spent_70 rfl)
    (zr_s (zk_callS C zXX_ok zTs_good hbc hbs (show zget zprog 14 = some mJ6_bitCount_0f7a4 from rfl) rfl rfl zw564 zw645 zw563 zw21 (by decide +kernel) dX7_spent_71)
    (zr_n (zr_n (zr_s (zk_i2l C dX7_spent_74)
    (zr_s (zq_iload_n C dX7_spent_75 rfl)
    (zr_s (zk_i2l C dX7_spent_76)
    (zr_s (zk_callVN (n := 2) C zXX_ok zTs_good hbc hbs (show zget zprog 31 = some mX1_tell_ from rfl) rfl rfl (show vwCl[1]? = some (RX1, TX1, 2) from rfl) zw686 (fun U H h => zn59 h) zw685 zs42 zw15 (by decide +kernel) dX7_spent_77)
    (zr_n (zr_n zr_0))))))))))))))))
  (zrs_c (zr_s (zq_iload_n C dX7_spent_80 rfl)
    (zr_s (zk_ret1 (ty := .int) C hbc hbs rfl rfl (Or.inl ⟨dX7_spent_81, by decide⟩))
    zr_0))
  zrs_0))))))
set_option maxRecDepth 100000 in
set_option maxHeartbeats 4000000 in
theorem okX7_sure {l : Launch} {D : va_G} {tys : List (ClassId × FieldType)} {o : zO} {z : Nat} (E : zEnv tys) : zCodeOk l D vwCl tys o z (zXX o z) zTs zprog mX7_sure := by
  intro p e R s m args below meth c0 Q ws0 hbc hbs C pc sem h
  replace hbc : R.cells = 0 := hbc
  replace hbs : R.slots = 0 := hbs
  replace C : zCx p R s m args meth c0 D vwCl tys z (zXX o z) zTs RX7 cX7_sure 5 "sure" := C
  refine zRows_get (P := fun pc sem => zOp p l e R s m args below meth c0 Q D vwCl tys o z (zXX o z) zTs zprog ws0 5 cX7_sure (some .int) pc sem) (c := kX7_sure) ?_ h
  unfold kX7_sure
  exact (zrs_c (zr_s (zq_iload_n C dX7_sure_0 rfl)
    (zr_s (zq_if_lt C dX7_sure_1 (by decide))
    (zr_n (zr_n (zr_s (zq_iload_n C dX7_sure_4 rfl)
    (zr_s (zq_aload_n C dX7_sure_5 rfl)
    (zr_s (zq_get (k := 1) C dX7_sure_6 (show vwCl[7]? = some (RX7, TX7, 16) from rfl) zinX7 (by decide) zw424)
    (zr_n (zr_n (zr_s (zq_getN (k := 7) C dX7_sure_9 (show vwCl[0]? = some (RX0, TX0, 12) from rfl) zinX0 (by decide) (fun U H h => zn11 h))
    (zr_n (zr_n (zr_s (zq_icmp_ge C dX7_sure_12 (by decide))
    (zr_n (zr_n (zr_s (zq_aload_n C dX7_sure_15 rfl)
    zr_0))))))))))))))))
  (zrs_c (zr_s (zq_get (k := 1) C dX7_sure_16 (show vwCl[7]? = some (RX7, TX7, 16) from rfl) zinX7 (by decide) zw424)
    (zr_n (zr_n (zr_s (zq_iload_n C dX7_sure_19 rfl)
    (zr_s (zk_callVN (n := 1) C zXX_ok zTs_good hbc hbs (show zget zprog 19 = some mX0_has from rfl) rfl rfl (show vwCl[0]? = some (RX0, TX0, 12) from rfl) zw550 (fun U H h => zn46 h) zw549 zs23 zw3 (by decide +kernel) dX7_sure_20)
    (zr_n (zr_n (zr_s (zq_if_ne C dX7_sure_23 (by decide))
    (zr_n (zr_n (zr_s (zq_iconst (n := .negSucc 0) C dX7_sure_26 (by decide))
    (zr_s (zk_ret1 (ty := .int) C hbc hbs rfl rfl (Or.inl ⟨dX7_sure_27, by decide⟩))
    (zr_n (zr_n (zr_n (zr_n zr_0))))))))))))))))
  (zrs_c (zr_n (zr_n (zr_n (zr_n (zr_n (zr_n (zr_n (zr_n (zr_n (zr_n (zr_n (zr_n (zr_n (zr_n (zr_n (zr_n zr_0))))))))))))))))
  (zrs_c (zr_n (zr_n (zr_n (zr_n (zr_n (zr_n (zr_n (zr_n (zr_n (zr_n (zr_n (zr_n (zr_n (zr_n (zr_n (zr_n zr_0))))))))))))))))
  (zrs_c (zr_n (zr_n (zr_n (zr_n (zr_n (zr_n (zr_n (zr_n (zr_n (zr_n (zr_n (zr_n (zr_n zr_0)))))))))))))
  zrs_0)))))
set_option maxRecDepth 100000 in
set_option maxHeartbeats 4000000 in
theorem okX7_takes {l : Launch} {D : va_G} {tys : List (ClassId × FieldType)} {o : zO} {z : Nat} (E : zEnv tys) : zCodeOk l D vwCl tys o z (zXX o z) zTs zprog mX7_takes := by
  intro p e R s m args below meth c0 Q ws0 hbc hbs C pc sem h
  replace hbc : R.cells = 0 := hbc
  replace hbs : R.slots = 0 := hbs
  replace C : zCx p R s m args meth c0 D vwCl tys z (zXX o z) zTs RX7 cX7_takes 6 "takes" := C
  refine zRows_get (P := fun pc sem => zOp p l e R s m args below meth c0 Q D vwCl tys o z (zXX o z) zTs zprog ws0 6 cX7_takes (some .int) pc sem) (c := kX7_takes) ?_ h
  unfold kX7_takes
  exact (zrs_c (zr_s (zq_aload_n C dX7_takes_0 rfl)
    (zr_s (zq_iconst (n := .negSucc 0) C dX7_takes_1 (by decide))
    (zr_s (zk_callV (n := 1) C zXX_ok zTs_good hbc hbs (show zget zprog 81 = some mX7_easiestWithout from rfl) rfl rfl (show vwCl[7]? = some (RX7, TX7, 16) from rfl) zw777 zw774 zw776 zs54 zw1 (by decide +kernel) dX7_takes_2)
    (zr_n (zr_n (zr_s (zq_lstore_n C dX7_takes_5 rfl (by decide))
    (zr_s (zq_lload_n C dX7_takes_6 rfl)
    (zr_s (zq_ldc2 (n := .ofNat 1152921504606846976) C dX7_takes_7 zw827 (by decide +kernel))
    (zr_n (zr_n (zr_s (zk_lcmp C dX7_takes_10)
    (zr_s (zq_if_lt C dX7_takes_11 (by decide))
    (zr_n (zr_n (zr_s (zq_bipush (n := .negSucc 1) C dX7_takes_14 (by decide) (by decide))
    (zr_n zr_0))))))))))))))))
  (zrs_c (zr_s (zk_ret1 (ty := .int) C hbc hbs rfl rfl (Or.inl ⟨dX7_takes_16, by decide⟩))
    (zr_n (zr_n (zr_n (zr_n (zr_n (zr_n (zr_n (zr_n (zr_n (zr_n (zr_n (zr_n (zr_n (zr_n (zr_n zr_0))))))))))))))))
  (zrs_c (zr_n (zr_n (zr_n (zr_n (zr_n (zr_n (zr_n (zr_n (zr_n (zr_n (zr_n (zr_n (zr_n (zr_n (zr_n (zr_n zr_0))))))))))))))))
  (zrs_c (zr_n (zr_n (zr_n (zr_n (zr_n (zr_n (zr_n (zr_n (zr_n (zr_n (zr_n (zr_n (zr_n (zr_n (zr_n (zr_n zr_0))))))))))))))))
  (zrs_c (zr_n (zr_n (zr_n (zr_n (zr_n (zr_n (zr_n (zr_n (zr_n (zr_n (zr_n (zr_n (zr_n (zr_n (zr_n (zr_n zr_0))))))))))))))))
  (zrs_c (zr_n (zr_n (zr_n (zr_n (zr_n (zr_n (zr_n (zr_n (zr_n (zr_n (zr_n (zr_n (zr_n (zr_n (zr_n (zr_n zr_0))))))))))))))))
  zrs_0))))))
set_option maxRecDepth 100000 in
set_option maxHeartbeats 4000000 in
theorem okX7_tellFraction {l : Launch} {D : va_G} {tys : List (ClassId × FieldType)} {o : zO} {z : Nat} (E : zEnv tys) : zCodeOk l D vwCl tys o z (zXX o z) zTs zprog mX7_tellFraction := by
  intro p e R s m args below meth c0 Q ws0 hbc hbs C pc sem h
  replace hbc : R.cells = 0 := hbc
  replace hbs : R.slots = 0 := hbs
  replace C : zCx p R s m args meth c0 D vwCl tys z (zXX o z) zTs RX7 cX7_tellFraction 7 "tellFraction" := C
  refine zRows_get (P := fun pc sem => zOp p l e R s m args below meth c0 Q D vwCl tys o z (zXX o z) zTs zprog ws0 7 cX7_tellFraction none pc sem) (c := kX7_tellFraction) ?_ h
  unfold kX7_tellFraction
  exact (zrs_c (zr_s (zq_lload_n C dX7_tellFraction_0 rfl)
    (zr_s (zq_lload_n C dX7_tellFraction_1 rfl)
    (zr_s (zk_callS C zXX_ok zTs_good hbc hbs (show zget zprog 92 = some mX7_greatestShared from rfl) rfl rfl zw991 zw989 zw990 zw1 (by decide +kernel) dX7_tellFraction_2)
    (zr_n (zr_n (zr_s (zq_lstore C dX7_tellFraction_5 (by decide))
    (zr_n (zr_s (zq_lload C dX7_tellFraction_7)
    (zr_n (zr_s (zq_lconst (n := .ofNat 0) C dX7_tellFraction_9 (by decide) (by decide))
    (zr_s (zk_lcmp C dX7_tellFraction_10)
    (zr_s (zq_if_le C dX7_tellFraction_11 (by decide))
    (zr_n (zr_n (zr_s (zq_aload_n C dX7_tellFraction_14 rfl)
    (zr_s (zq_get (k := 9) C dX7_tellFraction_15 (show vwCl[7]? = some (RX7, TX7, 16) from rfl) zinX7 (by decide) zw432)
    zr_0))))))))))))))))
  (zrs_c (zr_n (zr_n (zr_s (zq_lload_n C dX7_tellFraction_18 rfl)
    (zr_s (zq_lload C dX7_tellFraction_19)
    (zr_n (zr_s (zq_ldiv C dX7_tellFraction_21)
    (zr_s (zq_lload_n C dX7_tellFraction_22 rfl)
    (zr_s (zq_lload C dX7_tellFraction_23)
    (zr_n (zr_s (zq_ldiv C dX7_tellFraction_25)
    (zr_s (zk_callVN (n := 2) C zXX_ok zTs_good hbc hbs (show zget zprog 31 = some mX1_tell_ from rfl) rfl rfl (show vwCl[1]? = some (RX1, TX1, 2) from rfl) zw686 (fun U H h => zn59 h) zw685 zs42 zw15 (by decide +kernel) dX7_tellFraction_26)
    (zr_n (zr_n (zr_s (zk_ret0 C hbc hbs rfl dX7_tellFraction_29)
    zr_0))))))))))))))
  zrs_0))
set_option maxRecDepth 100000 in
set_option maxHeartbeats 4000000 in
theorem okX7_tellWays {l : Launch} {D : va_G} {tys : List (ClassId × FieldType)} {o : zO} {z : Nat} (E : zEnv tys) : zCodeOk l D vwCl tys o z (zXX o z) zTs zprog mX7_tellWays := by
  intro p e R s m args below meth c0 Q ws0 hbc hbs C pc sem h
  replace hbc : R.cells = 0 := hbc
  replace hbs : R.slots = 0 := hbs
  replace C : zCx p R s m args meth c0 D vwCl tys z (zXX o z) zTs RX7 cX7_tellWays 2 "tellWays" := C
  refine zRows_get (P := fun pc sem => zOp p l e R s m args below meth c0 Q D vwCl tys o z (zXX o z) zTs zprog ws0 2 cX7_tellWays (some .int) pc sem) (c := kX7_tellWays) ?_ h
  unfold kX7_tellWays
  exact (zrs_c (zr_s (zq_aload_n C dX7_tellWays_0 rfl)
    (zr_s (zq_get (k := 8) C dX7_tellWays_1 (show vwCl[7]? = some (RX7, TX7, 16) from rfl) zinX7 (by decide) zw431)
    (zr_n (zr_n (zr_s (zk_callVN (n := 0) C zXX_ok zTs_good hbc hbs (show zget zprog 60 = some mX4_ways from rfl) rfl rfl (show vwCl[4]? = some (RX4, TX4, 15) from rfl) zw863 (fun U H h => zn77 h) zw862 zs68 zw14 (by decide +kernel) dX7_tellWays_4)
    (zr_n (zr_n (zr_s (zq_istore_n C dX7_tellWays_7 rfl (by decide))
    (zr_s (zq_aload_n C dX7_tellWays_8 rfl)
    (zr_s (zq_get (k := 9) C dX7_tellWays_9 (show vwCl[7]? = some (RX7, TX7, 16) from rfl) zinX7 (by decide) zw432)
    (zr_n (zr_n (zr_s (zk_callVN (n := 0) C zXX_ok zTs_good hbc hbs (show zget zprog 28 = some mX1_clear from rfl) rfl rfl (show vwCl[1]? = some (RX1, TX1, 2) from rfl) zw690 (fun U H h => zn73 h) zw689 zs43 zw15 (by decide +kernel) dX7_tellWays_12)
    (zr_n (zr_n (zr_s (zq_iload_n C dX7_tellWays_15 rfl)
    zr_0))))))))))))))))
  (zrs_c (zr_s (zq_if_le C dX7_tellWays_16 (by decide))
    (zr_n (zr_n (zr_n (zr_n (zr_n (zr_n (zr_n (zr_n (zr_n (zr_n (zr_n (zr_n (zr_n (zr_n (zr_n zr_0))))))))))))))))
  (zrs_c (zr_n (zr_n (zr_n (zr_s (zq_iload_n C dX7_tellWays_35 rfl)
    (zr_s (zk_ret1 (ty := .int) C hbc hbs rfl rfl (Or.inl ⟨dX7_tellWays_36, by decide⟩))
    zr_0)))))
  zrs_0)))
set_option maxRecDepth 100000 in
set_option maxHeartbeats 4000000 in
theorem okX7_thin {l : Launch} {D : va_G} {tys : List (ClassId × FieldType)} {o : zO} {z : Nat} (E : zEnv tys) : zCodeOk l D vwCl tys o z (zXX o z) zTs zprog mX7_thin := by
  intro p e R s m args below meth c0 Q ws0 hbc hbs C pc sem h
  replace hbc : R.cells = 0 := hbc
  replace hbs : R.slots = 0 := hbs
  replace C : zCx p R s m args meth c0 D vwCl tys z (zXX o z) zTs RX7 cX7_thin 6 "thin" := C
  refine zRows_get (P := fun pc sem => zOp p l e R s m args below meth c0 Q D vwCl tys o z (zXX o z) zTs zprog ws0 6 cX7_thin (some .int) pc sem) (c := kX7_thin) ?_ h
  unfold kX7_thin
  exact (zrs_c (zr_s (zq_bipush (n := .ofNat 9) C dX7_thin_0 (by decide) (by decide))
    (zr_n (zr_s (zq_istore_n C dX7_thin_2 rfl (by decide))
    (zr_s (zq_iconst (n := .ofNat 0) C dX7_thin_3 (by decide))
    (zr_s (zq_istore_n C dX7_thin_4 rfl (by decide))
    (zr_s (zq_iconst (n := .ofNat 0) C dX7_thin_5 (by decide))
    (zr_s (zq_istore_n C dX7_thin_6 rfl (by decide))
    (zr_s (zq_iload_n C dX7_thin_7 rfl)
    (zr_s (zq_aload_n C dX7_thin_8 rfl)
    (zr_s (zq_get (k := 1) C dX7_thin_9 (show vwCl[7]? = some (RX7, TX7, 16) from rfl) zinX7 (by decide) zw424)
    (zr_n (zr_n (zr_s (zq_getN (k := 7) C dX7_thin_12 (show vwCl[0]? = some (RX0, TX0, 12) from rfl) zinX0 (by decide) (fun U H h => zn11 h))
    (zr_n (zr_n (zr_s (zq_icmp_ge C dX7_thin_15 (by decide))
    zr_0))))))))))))))))
  (zrs_c (zr_n (zr_n (zr_s (zq_iconst (n := .ofNat 0) C dX7_thin_18 (by decide))
    (zr_s (zq_istore C dX7_thin_19 (by decide))
    (zr_n (zr_s (zq_iconst (n := .ofNat 0) C dX7_thin_21 (by decide))
    (zr_s (zq_istore C dX7_thin_22 (by decide))
    (zr_n (zr_s (zq_iload C dX7_thin_24)
    (zr_n (zr_s (zq_aload_n C dX7_thin_26 rfl)
    (zr_s (zq_get (k := 1) C dX7_thin_27 (show vwCl[7]? = some (RX7, TX7, 16) from rfl) zinX7 (by decide) zw424)
    (zr_n (zr_n (zr_s (zq_getN (k := 6) C dX7_thin_30 (show vwCl[0]? = some (RX0, TX0, 12) from rfl) zinX0 (by decide) (fun U H h => zn10 h))
    (zr_n zr_0))))))))))))))))
  (zrs_c (zr_n (zr_s (zq_icmp_ge C dX7_thin_33 (by decide))
    (zr_n (zr_n (zr_n (zr_n (zr_n (zr_n (zr_n (zr_n (zr_n (zr_n (zr_n (zr_n (zr_n (zr_n zr_0))))))))))))))))
  (zrs_c (zr_n (zr_n (zr_n (zr_n (zr_n (zr_n (zr_n (zr_n (zr_n (zr_n (zr_n (zr_n (zr_n (zr_n (zr_n (zr_n zr_0))))))))))))))))
  (zrs_c (zr_n (zr_n (zr_n (zr_n (zr_n (zr_s (zq_iload C dX7_thin_69)
    (zr_n (zr_s (zq_iload_n C dX7_thin_71 rfl)
    (zr_s (zq_icmp_ge C dX7_thin_72 (by decide))
    (zr_n (zr_n (zr_s (zq_iload C dX7_thin_75)
    (zr_n (zr_s (zq_istore_n C dX7_thin_77 rfl (by decide))
    (zr_s (zq_iload_n C dX7_thin_78 rfl)
    (zr_s (zq_istore_n C dX7_thin_79 rfl (by decide))
    zr_0))))))))))))))))
  (zrs_c (zr_s (zk_inc (n := .ofNat 1) C dX7_thin_80 (by decide) (by decide))
    (zr_n (zr_n (zr_s (zk_goto C dX7_thin_83 (by decide))
    (zr_n (zr_n (zr_s (zq_aload_n C dX7_thin_86 rfl)
    (zr_s (zq_get (k := 9) C dX7_thin_87 (show vwCl[7]? = some (RX7, TX7, 16) from rfl) zinX7 (by decide) zw432)
    (zr_n (zr_n (zr_s (zq_iload_n C dX7_thin_90 rfl)
    (zr_s (zk_i2l C dX7_thin_91)
    (zr_s (zk_callVN (n := 1) C zXX_ok zTs_good hbc hbs (show zget zprog 30 = some mX1_tell from rfl) rfl rfl (show vwCl[1]? = some (RX1, TX1, 2) from rfl) zw747 (fun U H h => zn64 h) zw746 zs51 zw15 (by decide +kernel) dX7_thin_92)
    (zr_n (zr_n (zr_s (zq_iload_n C dX7_thin_95 rfl)
    zr_0))))))))))))))))
  (zrs_c (zr_s (zk_ret1 (ty := .int) C hbc hbs rfl rfl (Or.inl ⟨dX7_thin_96, by decide⟩))
    zr_0)
  zrs_0)))))))
set_option maxRecDepth 100000 in
set_option maxHeartbeats 4000000 in
theorem okX7_trade {l : Launch} {D : va_G} {tys : List (ClassId × FieldType)} {o : zO} {z : Nat} (E : zEnv tys) : zCodeOk l D vwCl tys o z (zXX o z) zTs zprog mX7_trade := by
  intro p e R s m args below meth c0 Q ws0 hbc hbs C pc sem h
  replace hbc : R.cells = 0 := hbc
  replace hbs : R.slots = 0 := hbs
  replace C : zCx p R s m args meth c0 D vwCl tys z (zXX o z) zTs RX7 cX7_trade 7 "trade" := C
  refine zRows_get (P := fun pc sem => zOp p l e R s m args below meth c0 Q D vwCl tys o z (zXX o z) zTs zprog ws0 7 cX7_trade (some .int) pc sem) (c := kX7_trade) ?_ h
  unfold kX7_trade
  exact (zrs_c (zr_s (zq_aload_n C dX7_trade_0 rfl)
    (zr_s (zq_get (k := 1) C dX7_trade_1 (show vwCl[7]? = some (RX7, TX7, 16) from rfl) zinX7 (by decide) zw424)
    (zr_n (zr_n (zr_s (zq_getN (k := 7) C dX7_trade_4 (show vwCl[0]? = some (RX0, TX0, 12) from rfl) zinX0 (by decide) (fun U H h => zn11 h))
    (zr_n (zr_n (zr_s (zq_iconst (n := .ofNat 2) C dX7_trade_7 (by decide))
    (zr_s (zq_icmp_ge C dX7_trade_8 (by decide))
    (zr_n (zr_n (zr_n (zr_n (zr_n (zr_s (zq_aload_n C dX7_trade_14 rfl)
    (zr_s (zq_get (k := 4) C dX7_trade_15 (show vwCl[7]? = some (RX7, TX7, 16) from rfl) zinX7 (by decide) zw427)
    zr_0))))))))))))))))
  (zrs_c (zr_n (zr_n (zr_s (zq_aload_n C dX7_trade_18 rfl)
    (zr_s (zq_get (k := 2) C dX7_trade_19 (show vwCl[7]? = some (RX7, TX7, 16) from rfl) zinX7 (by decide) zw425)
    (zr_n (zr_n (zr_s (zk_callVN (n := 1) C zXX_ok zTs_good hbc hbs (show zget zprog 62 = some mX5_copy from rfl) rfl rfl (show vwCl[5]? = some (RX5, TX5, 6) from rfl) zw614 (fun U H h => zn52 h) zw613 zs30 zw11 (by decide +kernel) dX7_trade_22)
    (zr_n (zr_n (zr_s (zq_bipush (n := .ofNat 9) C dX7_trade_25 (by decide) (by decide))
    (zr_n (zr_s (zq_istore_n C dX7_trade_27 rfl (by decide))
    (zr_s (zq_iconst (n := .ofNat 0) C dX7_trade_28 (by decide))
    (zr_s (zq_istore_n C dX7_trade_29 rfl (by decide))
    (zr_s (zq_iconst (n := .ofNat 0) C dX7_trade_30 (by decide))
    (zr_s (zq_istore_n C dX7_trade_31 rfl (by decide))
    zr_0))))))))))))))))
  (zrs_c (zr_s (zq_iconst (n := .ofNat 0) C dX7_trade_32 (by decide))
    (zr_s (zq_istore C dX7_trade_33 (by decide))
    (zr_n (zr_s (zq_iload C dX7_trade_35)
    (zr_n (zr_s (zq_aload_n C dX7_trade_37 rfl)
    (zr_s (zq_get (k := 1) C dX7_trade_38 (show vwCl[7]? = some (RX7, TX7, 16) from rfl) zinX7 (by decide) zw424)
    (zr_n (zr_n (zr_s (zq_getN (k := 7) C dX7_trade_41 (show vwCl[0]? = some (RX0, TX0, 12) from rfl) zinX0 (by decide) (fun U H h => zn11 h))
    (zr_n (zr_n (zr_s (zq_icmp_ge C dX7_trade_44 (by decide))
    (zr_n (zr_n (zr_s (zq_iload C dX7_trade_47)
    zr_0))))))))))))))))
  (zrs_c (zr_n (zr_s (zq_iconst (n := .ofNat 1) C dX7_trade_49 (by decide))
    (zr_s (zk_add C dX7_trade_50)
    (zr_s (zq_istore C dX7_trade_51 (by decide))
    (zr_n (zr_s (zq_iload C dX7_trade_53)
    (zr_n (zr_s (zq_aload_n C dX7_trade_55 rfl)
    (zr_s (zq_get (k := 1) C dX7_trade_56 (show vwCl[7]? = some (RX7, TX7, 16) from rfl) zinX7 (by decide) zw424)
    (zr_n (zr_n (zr_s (zq_getN (k := 7) C dX7_trade_59 (show vwCl[0]? = some (RX0, TX0, 12) from rfl) zinX0 (by decide) (fun U H h => zn11 h))
    (zr_n (zr_n (zr_s (zq_icmp_ge C dX7_trade_62 (by decide))
    (zr_n zr_0))))))))))))))))
  (zrs_c (zr_n (zr_s (zq_aload_n C dX7_trade_65 rfl)
    (zr_s (zq_iload C dX7_trade_66)
    (zr_n (zr_s (zq_iload C dX7_trade_68)
    (zr_n (zr_s (zk_callV (n := 2) C zXX_ok zTs_good hbc hbs (show zget zprog 90 = some mX7_gapsByTrade from rfl) rfl rfl (show vwCl[7]? = some (RX7, TX7, 16) from rfl) zw768 zw765 zw767 zs53 zw1 (by decide +kernel) dX7_trade_70)
    (zr_n (zr_n (zr_s (zq_istore C dX7_trade_73 (by decide))
    (zr_n (zr_s (zq_iload C dX7_trade_75)
    (zr_n (zr_s (zq_iload_n C dX7_trade_77 rfl)
    (zr_s (zq_icmp_ge C dX7_trade_78 (by decide))
    (zr_n zr_0))))))))))))))))
  (zrs_c (zr_n (zr_s (zq_iload C dX7_trade_81)
    (zr_n (zr_s (zq_istore_n C dX7_trade_83 rfl (by decide))
    (zr_s (zq_iload C dX7_trade_84)
    (zr_n (zr_s (zq_istore_n C dX7_trade_86 rfl (by decide))
    (zr_s (zq_iload C dX7_trade_87)
    (zr_n (zr_s (zq_istore_n C dX7_trade_89 rfl (by decide))
    (zr_s (zk_inc (n := .ofNat 1) C dX7_trade_90 (by decide) (by decide))
    (zr_n (zr_n (zr_s (zk_goto C dX7_trade_93 (by decide))
    (zr_n (zr_n zr_0))))))))))))))))
  (zrs_c (zr_s (zk_inc (n := .ofNat 1) C dX7_trade_96 (by decide) (by decide))
    (zr_n (zr_n (zr_s (zk_goto C dX7_trade_99 (by decide))
    (zr_n (zr_n (zr_s (zq_aload_n C dX7_trade_102 rfl)
    (zr_s (zq_get (k := 1) C dX7_trade_103 (show vwCl[7]? = some (RX7, TX7, 16) from rfl) zinX7 (by decide) zw424)
    (zr_n (zr_n (zr_s (zq_aload_n C dX7_trade_106 rfl)
    (zr_s (zq_get (k := 2) C dX7_trade_107 (show vwCl[7]? = some (RX7, TX7, 16) from rfl) zinX7 (by decide) zw425)
    (zr_n (zr_n (zr_s (zk_callVN (n := 1) C zXX_ok zTs_good hbc hbs (show zget zprog 26 = some mX0_watch from rfl) rfl rfl (show vwCl[0]? = some (RX0, TX0, 12) from rfl) zw661 (fun U H h => zn62 h) zw660 zs37 zw3 (by decide +kernel) dX7_trade_110)
    (zr_n zr_0))))))))))))))))
  (zrs_c (zr_n (zr_s (zq_aload_n C dX7_trade_113 rfl)
    (zr_s (zq_get (k := 9) C dX7_trade_114 (show vwCl[7]? = some (RX7, TX7, 16) from rfl) zinX7 (by decide) zw432)
    (zr_n (zr_n (zr_s (zq_iload_n C dX7_trade_117 rfl)
    (zr_s (zk_i2l C dX7_trade_118)
    (zr_s (zq_iload_n C dX7_trade_119 rfl)
    (zr_s (zk_i2l C dX7_trade_120)
    (zr_s (zk_callVN (n := 2) C zXX_ok zTs_good hbc hbs (show zget zprog 31 = some mX1_tell_ from rfl) rfl rfl (show vwCl[1]? = some (RX1, TX1, 2) from rfl) zw686 (fun U H h => zn59 h) zw685 zs42 zw15 (by decide +kernel) dX7_trade_121)
    (zr_n (zr_n (zr_s (zq_aload_n C dX7_trade_124 rfl)
    (zr_s (zq_get (k := 9) C dX7_trade_125 (show vwCl[7]? = some (RX7, TX7, 16) from rfl) zinX7 (by decide) zw432)
    (zr_n (zr_n zr_0))))))))))))))))
  (zrs_c (zr_s (zq_aload_n C dX7_trade_128 rfl)
    (zr_s (zq_get (k := 1) C dX7_trade_129 (show vwCl[7]? = some (RX7, TX7, 16) from rfl) zinX7 (by decide) zw424)
    (zr_n (zr_n (zr_s (zq_getN (k := 10) C dX7_trade_132 (show vwCl[0]? = some (RX0, TX0, 12) from rfl) zinX0 (by decide) (fun U H h => zn14 h))
    (zr_n (zr_n (zr_s (zk_callS C zXX_ok zTs_good hbc hbs (show zget zprog 14 = some mJ6_bitCount_0f7a4 from rfl) rfl rfl zw564 zw645 zw563 zw21 (by decide +kernel) dX7_trade_135)
    (zr_n (zr_n (zr_s (zk_i2l C dX7_trade_138)
    (zr_s (zk_callVN (n := 1) C zXX_ok zTs_good hbc hbs (show zget zprog 27 = some mX1_add from rfl) rfl rfl (show vwCl[1]? = some (RX1, TX1, 2) from rfl) zw694 (fun U H h => zn66 h) zw693 zs44 zw15 (by decide +kernel) dX7_trade_139)
    (zr_n (zr_n (zr_s (zq_iload_n C dX7_trade_142 rfl)
    (zr_s (zk_ret1 (ty := .int) C hbc hbs rfl rfl (Or.inl ⟨dX7_trade_143, by decide⟩))
    zr_0))))))))))))))))
  zrs_0)))))))))
set_option maxRecDepth 100000 in
set_option maxHeartbeats 4000000 in
theorem okX7_undo {l : Launch} {D : va_G} {tys : List (ClassId × FieldType)} {o : zO} {z : Nat} (E : zEnv tys) : zCodeOk l D vwCl tys o z (zXX o z) zTs zprog mX7_undo := by
  intro p e R s m args below meth c0 Q ws0 hbc hbs C pc sem h
  replace hbc : R.cells = 0 := hbc
  replace hbs : R.slots = 0 := hbs
  replace C : zCx p R s m args meth c0 D vwCl tys z (zXX o z) zTs RX7 cX7_undo 1 "undo" := C
  refine zRows_get (P := fun pc sem => zOp p l e R s m args below meth c0 Q D vwCl tys o z (zXX o z) zTs zprog ws0 1 cX7_undo (some .int) pc sem) (c := kX7_undo) ?_ h
  unfold kX7_undo
  exact (zrs_c (zr_s (zq_aload_n C dX7_undo_0 rfl)
    (zr_s (zq_get (k := 5) C dX7_undo_1 (show vwCl[7]? = some (RX7, TX7, 16) from rfl) zinX7 (by decide) zw428)
    (zr_n (zr_n (zr_s (zq_aload_n C dX7_undo_4 rfl)
    (zr_s (zq_get (k := 2) C dX7_undo_5 (show vwCl[7]? = some (RX7, TX7, 16) from rfl) zinX7 (by decide) zw425)
    (zr_n (zr_n (zr_s (zk_callVN (n := 1) C zXX_ok zTs_good hbc hbs (show zget zprog 33 = some mX2_pop from rfl) rfl rfl (show vwCl[2]? = some (RX2, TX2, 3) from rfl) zw730 (fun U H h => zn61 h) zw729 zs50 zw13 (by decide +kernel) dX7_undo_8)
    (zr_n (zr_n (zr_s (zk_ret1 (ty := .int) C hbc hbs rfl rfl (Or.inl ⟨dX7_undo_11, by decide⟩))
    zr_0))))))))))))
  zrs_0)
set_option maxRecDepth 100000 in
set_option maxHeartbeats 4000000 in
theorem okX7_vigil {l : Launch} {D : va_G} {tys : List (ClassId × FieldType)} {o : zO} {z : Nat} (E : zEnv tys) : zCodeOk l D vwCl tys o z (zXX o z) zTs zprog mX7_vigil := by
  intro p e R s m args below meth c0 Q ws0 hbc hbs C pc sem h
  replace hbc : R.cells = 0 := hbc
  replace hbs : R.slots = 0 := hbs
  replace C : zCx p R s m args meth c0 D vwCl tys z (zXX o z) zTs RX7 cX7_vigil 6 "vigil" := C
  refine zRows_get (P := fun pc sem => zOp p l e R s m args below meth c0 Q D vwCl tys o z (zXX o z) zTs zprog ws0 6 cX7_vigil (some .int) pc sem) (c := kX7_vigil) ?_ h
  unfold kX7_vigil
  exact (zrs_c (zr_s (zq_iload_n C dX7_vigil_0 rfl)
    (zr_s (zq_if_lt C dX7_vigil_1 (by decide))
    (zr_n (zr_n (zr_s (zq_iload_n C dX7_vigil_4 rfl)
    (zr_s (zq_bipush (n := .ofNat 60) C dX7_vigil_5 (by decide) (by decide))
    (zr_n (zr_s (zq_icmp_le C dX7_vigil_7 (by decide))
    (zr_n (zr_n (zr_s (zq_iconst (n := .negSucc 0) C dX7_vigil_10 (by decide))
    (zr_s (zk_ret1 (ty := .int) C hbc hbs rfl rfl (Or.inl ⟨dX7_vigil_11, by decide⟩))
    (zr_s (zq_aload_n C dX7_vigil_12 rfl)
    (zr_s (zq_get (k := 4) C dX7_vigil_13 (show vwCl[7]? = some (RX7, TX7, 16) from rfl) zinX7 (by decide) zw427)
    (zr_n (zr_n zr_0))))))))))))))))
  (zrs_c (zr_s (zq_aload_n C dX7_vigil_16 rfl)
    (zr_s (zq_get (k := 2) C dX7_vigil_17 (show vwCl[7]? = some (RX7, TX7, 16) from rfl) zinX7 (by decide) zw425)
    (zr_n (zr_n (zr_s (zk_callVN (n := 1) C zXX_ok zTs_good hbc hbs (show zget zprog 62 = some mX5_copy from rfl) rfl rfl (show vwCl[5]? = some (RX5, TX5, 6) from rfl) zw614 (fun U H h => zn52 h) zw613 zs30 zw11 (by decide +kernel) dX7_vigil_20)
    (zr_n (zr_n (zr_s (zq_iconst (n := .ofNat 0) C dX7_vigil_23 (by decide))
    (zr_s (zq_istore_n C dX7_vigil_24 rfl (by decide))
    (zr_s (zq_iconst (n := .negSucc 0) C dX7_vigil_25 (by decide))
    (zr_s (zq_istore_n C dX7_vigil_26 rfl (by decide))
    (zr_s (zq_iconst (n := .ofNat 0) C dX7_vigil_27 (by decide))
    (zr_s (zq_istore C dX7_vigil_28 (by decide))
    (zr_n (zr_s (zq_iconst (n := .ofNat 0) C dX7_vigil_30 (by decide))
    (zr_s (zq_istore C dX7_vigil_31 (by decide))
    zr_0))))))))))))))))
  (zrs_c (zr_n (zr_s (zq_iload C dX7_vigil_33)
    (zr_n (zr_s (zq_iload_n C dX7_vigil_35 rfl)
    (zr_s (zq_icmp_ge C dX7_vigil_36 (by decide))
    (zr_n (zr_n (zr_s (zq_aload_n C dX7_vigil_39 rfl)
    (zr_s (zq_get (k := 1) C dX7_vigil_40 (show vwCl[7]? = some (RX7, TX7, 16) from rfl) zinX7 (by decide) zw424)
    (zr_n (zr_n (zr_s (zq_aload_n C dX7_vigil_43 rfl)
    (zr_s (zq_get (k := 4) C dX7_vigil_44 (show vwCl[7]? = some (RX7, TX7, 16) from rfl) zinX7 (by decide) zw427)
    (zr_n (zr_n (zr_s (zk_callVN (n := 1) C zXX_ok zTs_good hbc hbs (show zget zprog 23 = some mX0_pass from rfl) rfl rfl (show vwCl[0]? = some (RX0, TX0, 12) from rfl) zw657 (fun U H h => zn63 h) zw656 zs36 zw3 (by decide +kernel) dX7_vigil_47)
    zr_0))))))))))))))))
  (zrs_c (zr_n (zr_n (zr_s (zq_aload_n C dX7_vigil_50 rfl)
    (zr_s (zq_get (k := 1) C dX7_vigil_51 (show vwCl[7]? = some (RX7, TX7, 16) from rfl) zinX7 (by decide) zw424)
    (zr_n (zr_n (zr_s (zq_getN (k := 10) C dX7_vigil_54 (show vwCl[0]? = some (RX0, TX0, 12) from rfl) zinX0 (by decide) (fun U H h => zn14 h))
    (zr_n (zr_n (zr_s (zq_if_ne C dX7_vigil_57 (by decide))
    (zr_n (zr_n (zr_n (zr_n (zr_n (zr_n zr_0))))))))))))))))
  (zrs_c (zr_n (zr_n (zr_n (zr_s (zq_iconst (n := .ofNat 0) C dX7_vigil_67 (by decide))
    (zr_s (zq_istore C dX7_vigil_68 (by decide))
    (zr_n (zr_s (zq_iload C dX7_vigil_70)
    (zr_n (zr_s (zq_iload_n C dX7_vigil_72 rfl)
    (zr_s (zq_icmp_le C dX7_vigil_73 (by decide))
    (zr_n (zr_n (zr_n (zr_n (zr_n (zr_n zr_0))))))))))))))))
  (zrs_c (zr_n (zr_n (zr_n (zr_n (zr_n (zr_n (zr_n (zr_s (zk_inc (n := .ofNat 1) C dX7_vigil_87 (by decide) (by decide))
    (zr_n (zr_n (zr_s (zk_goto C dX7_vigil_90 (by decide))
    (zr_n (zr_n (zr_s (zq_aload_n C dX7_vigil_93 rfl)
    (zr_s (zq_get (k := 9) C dX7_vigil_94 (show vwCl[7]? = some (RX7, TX7, 16) from rfl) zinX7 (by decide) zw432)
    (zr_n zr_0))))))))))))))))
  (zrs_c (zr_n (zr_s (zq_iload_n C dX7_vigil_97 rfl)
    (zr_s (zk_i2l C dX7_vigil_98)
    (zr_s (zk_callVN (n := 1) C zXX_ok zTs_good hbc hbs (show zget zprog 30 = some mX1_tell from rfl) rfl rfl (show vwCl[1]? = some (RX1, TX1, 2) from rfl) zw747 (fun U H h => zn64 h) zw746 zs51 zw15 (by decide +kernel) dX7_vigil_99)
    (zr_n (zr_n (zr_s (zq_iload_n C dX7_vigil_102 rfl)
    (zr_s (zk_ret1 (ty := .int) C hbc hbs rfl rfl (Or.inl ⟨dX7_vigil_103, by decide⟩))
    zr_0))))))))
  zrs_0)))))))
set_option maxRecDepth 100000 in
set_option maxHeartbeats 4000000 in
theorem okX7_wellOnes {l : Launch} {D : va_G} {tys : List (ClassId × FieldType)} {o : zO} {z : Nat} (E : zEnv tys) : zCodeOk l D vwCl tys o z (zXX o z) zTs zprog mX7_wellOnes := by
  intro p e R s m args below meth c0 Q ws0 hbc hbs C pc sem h
  replace hbc : R.cells = 0 := hbc
  replace hbs : R.slots = 0 := hbs
  replace C : zCx p R s m args meth c0 D vwCl tys z (zXX o z) zTs RX7 cX7_wellOnes 1 "wellOnes" := C
  refine zRows_get (P := fun pc sem => zOp p l e R s m args below meth c0 Q D vwCl tys o z (zXX o z) zTs zprog ws0 1 cX7_wellOnes (some .int) pc sem) (c := kX7_wellOnes) ?_ h
  unfold kX7_wellOnes
  exact (zrs_c (zr_s (zq_iconst (n := .ofNat 1) C dX7_wellOnes_0 (by decide))
    (zr_s (zq_aload_n C dX7_wellOnes_1 rfl)
    (zr_s (zq_get (k := 1) C dX7_wellOnes_2 (show vwCl[7]? = some (RX7, TX7, 16) from rfl) zinX7 (by decide) zw424)
    (zr_n (zr_n (zr_s (zq_getN (k := 6) C dX7_wellOnes_5 (show vwCl[0]? = some (RX0, TX0, 12) from rfl) zinX0 (by decide) (fun U H h => zn10 h))
    (zr_n (zr_n (zr_s (zq_ishl C dX7_wellOnes_8)
    (zr_s (zq_iconst (n := .ofNat 1) C dX7_wellOnes_9 (by decide))
    (zr_s (zk_sub C dX7_wellOnes_10)
    (zr_s (zq_aload_n C dX7_wellOnes_11 rfl)
    (zr_s (zq_get (k := 2) C dX7_wellOnes_12 (show vwCl[7]? = some (RX7, TX7, 16) from rfl) zinX7 (by decide) zw425)
    (zr_n (zr_n (zr_s (zq_getN (k := 2) C dX7_wellOnes_15 (show vwCl[5]? = some (RX5, TX5, 6) from rfl) zinX5 (by decide) (fun U H h => zn21 h))
    zr_0))))))))))))))))
  (zrs_c (zr_n (zr_n (zr_s (zq_iconst (n := .negSucc 0) C dX7_wellOnes_18 (by decide))
    (zr_s (zq_ixor C dX7_wellOnes_19)
    (zr_s (zq_iand C dX7_wellOnes_20)
    (zr_s (zk_ret1 (ty := .int) C hbc hbs rfl rfl (Or.inl ⟨dX7_wellOnes_21, by decide⟩))
    zr_0))))))
  zrs_0))
set_option maxRecDepth 100000 in
set_option maxHeartbeats 4000000 in
theorem okX7_year {l : Launch} {D : va_G} {tys : List (ClassId × FieldType)} {o : zO} {z : Nat} (E : zEnv tys) : zCodeOk l D vwCl tys o z (zXX o z) zTs zprog mX7_year := by
  intro p e R s m args below meth c0 Q ws0 hbc hbs C pc sem h
  replace hbc : R.cells = 0 := hbc
  replace hbs : R.slots = 0 := hbs
  replace C : zCx p R s m args meth c0 D vwCl tys z (zXX o z) zTs RX7 cX7_year 6 "year" := C
  refine zRows_get (P := fun pc sem => zOp p l e R s m args below meth c0 Q D vwCl tys o z (zXX o z) zTs zprog ws0 6 cX7_year (some .int) pc sem) (c := kX7_year) ?_ h
  unfold kX7_year
  exact (zrs_c (zr_s (zq_aload_n C dX7_year_0 rfl)
    (zr_s (zk_callV (n := 0) C zXX_ok zTs_good hbc hbs (show zget zprog 141 = some mX7_yearFault from rfl) rfl rfl (show vwCl[7]? = some (RX7, TX7, 16) from rfl) zw702 zw699 zw701 zs45 zw1 (by decide +kernel) dX7_year_1)
    (zr_n (zr_n (zr_s (zq_istore_n C dX7_year_4 rfl (by decide))
    (zr_s (zq_iload_n C dX7_year_5 rfl)
    (zr_s (zq_iconst (n := .negSucc 0) C dX7_year_6 (by decide))
    (zr_s (zq_icmp_eq C dX7_year_7 (by decide))
    (zr_n (zr_n (zr_n (zr_n (zr_n (zr_n (zr_n (zr_n zr_0))))))))))))))))
  (zrs_c (zr_n (zr_n (zr_n (zr_n (zr_n (zr_s (zq_aload_n C dX7_year_21 rfl)
    (zr_s (zq_get (k := 3) C dX7_year_22 (show vwCl[7]? = some (RX7, TX7, 16) from rfl) zinX7 (by decide) zw426)
    (zr_n (zr_n (zr_s (zq_aload_n C dX7_year_25 rfl)
    (zr_s (zq_get (k := 2) C dX7_year_26 (show vwCl[7]? = some (RX7, TX7, 16) from rfl) zinX7 (by decide) zw425)
    (zr_n (zr_n (zr_s (zk_callVN (n := 1) C zXX_ok zTs_good hbc hbs (show zget zprog 62 = some mX5_copy from rfl) rfl rfl (show vwCl[5]? = some (RX5, TX5, 6) from rfl) zw614 (fun U H h => zn52 h) zw613 zs30 zw11 (by decide +kernel) dX7_year_29)
    (zr_n (zr_n zr_0))))))))))))))))
  (zrs_c (zr_s (zq_iconst (n := .ofNat 0) C dX7_year_32 (by decide))
    (zr_s (zq_istore_n C dX7_year_33 rfl (by decide))
    (zr_s (zq_iconst (n := .ofNat 0) C dX7_year_34 (by decide))
    (zr_s (zq_istore_n C dX7_year_35 rfl (by decide))
    (zr_s (zq_iconst (n := .ofNat 1) C dX7_year_36 (by decide))
    (zr_s (zq_istore C dX7_year_37 (by decide))
    (zr_n (zr_s (zq_iconst (n := .ofNat 0) C dX7_year_39 (by decide))
    (zr_s (zq_istore C dX7_year_40 (by decide))
    (zr_n (zr_s (zq_iload C dX7_year_42)
    (zr_n (zr_s (zq_bipush (n := .ofNat 60) C dX7_year_44 (by decide) (by decide))
    (zr_n (zr_s (zq_icmp_ge C dX7_year_46 (by decide))
    (zr_n zr_0))))))))))))))))
  (zrs_c (zr_n (zr_s (zq_iload C dX7_year_49)
    (zr_n (zr_s (zq_if_eq C dX7_year_51 (by decide))
    (zr_n (zr_n (zr_s (zq_iload_n C dX7_year_54 rfl)
    (zr_s (zq_aload_n C dX7_year_55 rfl)
    (zr_s (zq_get (k := 0) C dX7_year_56 (show vwCl[7]? = some (RX7, TX7, 16) from rfl) zinX7 (by decide) zw423)
    (zr_n (zr_n (zr_s (zq_getN (k := 1) C dX7_year_59 (show vwCl[6]? = some (RX6, TX6, 2) from rfl) zinX6 (by decide) (fun U H h => zn3 h))
    (zr_n (zr_n (zr_s (zq_icmp_ge C dX7_year_62 (by decide))
    (zr_n zr_0))))))))))))))))
  (zrs_c (zr_n (zr_n (zr_n (zr_n (zr_n (zr_n (zr_n (zr_n (zr_n (zr_n (zr_n (zr_n (zr_n (zr_n (zr_n (zr_n zr_0))))))))))))))))
  (zrs_c (zr_n (zr_n (zr_n (zr_n (zr_n (zr_n (zr_n (zr_n (zr_n (zr_n (zr_n (zr_n (zr_n (zr_n (zr_n (zr_n zr_0))))))))))))))))
  (zrs_c (zr_n (zr_n (zr_n (zr_n (zr_n (zr_n (zr_n (zr_n (zr_n (zr_n (zr_n (zr_n (zr_n (zr_n (zr_n (zr_n zr_0))))))))))))))))
  (zrs_c (zr_n (zr_n (zr_n (zr_n (zr_n (zr_n (zr_n (zr_n (zr_n (zr_n (zr_n (zr_n (zr_n (zr_n (zr_n (zr_n zr_0))))))))))))))))
  (zrs_c (zr_n (zr_n (zr_n (zr_n (zr_s (zq_iload_n C dX7_year_132 rfl)
    (zr_s (zq_if_le C dX7_year_133 (by decide))
    (zr_n (zr_n (zr_n (zr_n (zr_n (zr_n (zr_n (zr_n (zr_n (zr_n zr_0))))))))))))))))
  (zrs_c (zr_n (zr_n (zr_n (zr_s (zq_aload_n C dX7_year_147 rfl)
    (zr_s (zq_get (k := 0) C dX7_year_148 (show vwCl[7]? = some (RX7, TX7, 16) from rfl) zinX7 (by decide) zw423)
    (zr_n (zr_n (zr_s (zk_callVN (n := 0) C zXX_ok zTs_good hbc hbs (show zget zprog 68 = some mX6_empty from rfl) rfl rfl (show vwCl[6]? = some (RX6, TX6, 2) from rfl) zw520 (fun U H h => zn42 h) zw519 zs18 zw2 (by decide +kernel) dX7_year_151)
    (zr_n (zr_n (zr_s (zq_aload_n C dX7_year_154 rfl)
    (zr_s (zq_get (k := 9) C dX7_year_155 (show vwCl[7]? = some (RX7, TX7, 16) from rfl) zinX7 (by decide) zw432)
    (zr_n (zr_n (zr_s (zq_iload C dX7_year_158)
    (zr_n zr_0))))))))))))))))
  (zrs_c (zr_s (zq_if_eq C dX7_year_160 (by decide))
    (zr_n (zr_n (zr_s (zq_lconst (n := .ofNat 0) C dX7_year_163 (by decide) (by decide))
    (zr_s (zk_goto C dX7_year_164 (by decide))
    (zr_n (zr_n (zr_n (zr_s (zq_aload_n C dX7_year_168 rfl)
    (zr_s (zq_get (k := 2) C dX7_year_169 (show vwCl[7]? = some (RX7, TX7, 16) from rfl) zinX7 (by decide) zw425)
    (zr_n (zr_n (zr_s (zq_getN (k := 4) C dX7_year_172 (show vwCl[5]? = some (RX5, TX5, 6) from rfl) zinX5 (by decide) (fun U H h => zn24 h))
    (zr_n (zr_n (zr_s (zk_i2l C dX7_year_175)
    zr_0))))))))))))))))
  (zrs_c (zr_s (zk_callVN (n := 2) C zXX_ok zTs_good hbc hbs (show zget zprog 31 = some mX1_tell_ from rfl) rfl rfl (show vwCl[1]? = some (RX1, TX1, 2) from rfl) zw686 (fun U H h => zn59 h) zw685 zs42 zw15 (by decide +kernel) dX7_year_176)
    (zr_n (zr_n (zr_s (zq_iload_n C dX7_year_179 rfl)
    (zr_s (zk_ret1 (ty := .int) C hbc hbs rfl rfl (Or.inl ⟨dX7_year_180, by decide⟩))
    zr_0)))))
  zrs_0))))))))))))
set_option maxRecDepth 100000 in
set_option maxHeartbeats 4000000 in
theorem okX7_yearFault {l : Launch} {D : va_G} {tys : List (ClassId × FieldType)} {o : zO} {z : Nat} (E : zEnv tys) : zCodeOk l D vwCl tys o z (zXX o z) zTs zprog mX7_yearFault := by
  intro p e R s m args below meth c0 Q ws0 hbc hbs C pc sem h
  replace hbc : R.cells = 0 := hbc
  replace hbs : R.slots = 0 := hbs
  replace C : zCx p R s m args meth c0 D vwCl tys z (zXX o z) zTs RX7 cX7_yearFault 7 "yearFault" := C
  refine zRows_get (P := fun pc sem => zOp p l e R s m args below meth c0 Q D vwCl tys o z (zXX o z) zTs zprog ws0 7 cX7_yearFault (some .int) pc sem) (c := kX7_yearFault) ?_ h
  unfold kX7_yearFault
  exact (zrs_c (zr_s (zq_aload_n C dX7_yearFault_0 rfl)
    (zr_s (zq_get (k := 0) C dX7_yearFault_1 (show vwCl[7]? = some (RX7, TX7, 16) from rfl) zinX7 (by decide) zw423)
    (zr_n (zr_n (zr_s (zq_getN (k := 1) C dX7_yearFault_4 (show vwCl[6]? = some (RX6, TX6, 2) from rfl) zinX6 (by decide) (fun U H h => zn3 h))
    (zr_n (zr_n (zr_s (zq_bipush (n := .ofNat 60) C dX7_yearFault_7 (by decide) (by decide))
    (zr_n (zr_s (zq_min C hbc hbs dX7_yearFault_9 zw582 zw149 zw9 zw150)
    (zr_n (zr_n (zr_s (zq_istore_n C dX7_yearFault_12 rfl (by decide))
    (zr_s (zq_iconst (n := .ofNat 0) C dX7_yearFault_13 (by decide))
    (zr_s (zq_istore_n C dX7_yearFault_14 rfl (by decide))
    (zr_s (zq_iconst (n := .ofNat 0) C dX7_yearFault_15 (by decide))
    zr_0))))))))))))))))
  (zrs_c (zr_s (zq_istore_n C dX7_yearFault_16 rfl (by decide))
    (zr_s (zq_iconst (n := .ofNat 0) C dX7_yearFault_17 (by decide))
    (zr_s (zq_istore C dX7_yearFault_18 (by decide))
    (zr_n (zr_s (zq_iload C dX7_yearFault_20)
    (zr_n (zr_s (zq_iload_n C dX7_yearFault_22 rfl)
    (zr_s (zq_icmp_ge C dX7_yearFault_23 (by decide))
    (zr_n (zr_n (zr_n (zr_n (zr_n (zr_n (zr_n (zr_n zr_0))))))))))))))))
  (zrs_c (zr_n (zr_n (zr_n (zr_n (zr_n (zr_n (zr_n (zr_n (zr_n (zr_n (zr_n (zr_n (zr_n (zr_n (zr_n (zr_n zr_0))))))))))))))))
  (zrs_c (zr_n (zr_n (zr_n (zr_n (zr_n (zr_n (zr_n (zr_n (zr_n (zr_n (zr_n (zr_n (zr_n (zr_n (zr_n (zr_n zr_0))))))))))))))))
  (zrs_c (zr_n (zr_n (zr_n (zr_n (zr_n (zr_n (zr_n (zr_n (zr_n (zr_n (zr_n (zr_n (zr_n (zr_n (zr_n (zr_n zr_0))))))))))))))))
  (zrs_c (zr_n (zr_n (zr_n (zr_n (zr_n (zr_n (zr_n (zr_n (zr_n (zr_n (zr_n (zr_n (zr_n (zr_n (zr_n (zr_n zr_0))))))))))))))))
  (zrs_c (zr_n (zr_n (zr_n (zr_n (zr_n (zr_n (zr_n (zr_n (zr_n (zr_n (zr_n (zr_n (zr_n (zr_s (zq_aload_n C dX7_yearFault_109 rfl)
    (zr_s (zq_get (k := 0) C dX7_yearFault_110 (show vwCl[7]? = some (RX7, TX7, 16) from rfl) zinX7 (by decide) zw423)
    (zr_n zr_0))))))))))))))))
  (zrs_c (zr_n (zr_s (zq_getN (k := 1) C dX7_yearFault_113 (show vwCl[6]? = some (RX6, TX6, 2) from rfl) zinX6 (by decide) (fun U H h => zn3 h))
    (zr_n (zr_n (zr_s (zq_bipush (n := .ofNat 60) C dX7_yearFault_116 (by decide) (by decide))
    (zr_n (zr_s (zq_icmp_gt C dX7_yearFault_118 (by decide))
    (zr_n (zr_n (zr_s (zq_iload_n C dX7_yearFault_121 rfl)
    (zr_s (zq_if_le C dX7_yearFault_122 (by decide))
    (zr_n (zr_n (zr_n (zr_n (zr_n zr_0))))))))))))))))
  (zrs_c (zr_n (zr_s (zq_iconst (n := .negSucc 0) C dX7_yearFault_129 (by decide))
    (zr_s (zk_ret1 (ty := .int) C hbc hbs rfl rfl (Or.inl ⟨dX7_yearFault_130, by decide⟩))
    zr_0)))
  zrs_0)))))))))
set_option maxRecDepth 100000 in
set_option maxHeartbeats 4000000 in
theorem okX7_years {l : Launch} {D : va_G} {tys : List (ClassId × FieldType)} {o : zO} {z : Nat} (E : zEnv tys) : zCodeOk l D vwCl tys o z (zXX o z) zTs zprog mX7_years := by
  intro p e R s m args below meth c0 Q ws0 hbc hbs C pc sem h
  replace hbc : R.cells = 0 := hbc
  replace hbs : R.slots = 0 := hbs
  replace C : zCx p R s m args meth c0 D vwCl tys z (zXX o z) zTs RX7 cX7_years 4 "years" := C
  refine zRows_get (P := fun pc sem => zOp p l e R s m args below meth c0 Q D vwCl tys o z (zXX o z) zTs zprog ws0 4 cX7_years (some .int) pc sem) (c := kX7_years) ?_ h
  unfold kX7_years
  exact (zrs_c (zr_s (zq_iload_n C dX7_years_0 rfl)
    (zr_s (zq_iconst (n := .ofNat 1) C dX7_years_1 (by decide))
    (zr_s (zq_icmp_lt C dX7_years_2 (by decide))
    (zr_n (zr_n (zr_s (zq_iload_n C dX7_years_5 rfl)
    (zr_s (zq_bipush (n := .ofNat 60) C dX7_years_6 (by decide) (by decide))
    (zr_n (zr_s (zq_icmp_le C dX7_years_8 (by decide))
    (zr_n (zr_n (zr_s (zq_iconst (n := .negSucc 0) C dX7_years_11 (by decide))
    (zr_s (zk_ret1 (ty := .int) C hbc hbs rfl rfl (Or.inl ⟨dX7_years_12, by decide⟩))
    (zr_s (zq_aload_n C dX7_years_13 rfl)
    (zr_s (zq_get (k := 4) C dX7_years_14 (show vwCl[7]? = some (RX7, TX7, 16) from rfl) zinX7 (by decide) zw427)
    (zr_n zr_0))))))))))))))))
  (zrs_c (zr_n (zr_s (zq_aload_n C dX7_years_17 rfl)
    (zr_s (zq_get (k := 2) C dX7_years_18 (show vwCl[7]? = some (RX7, TX7, 16) from rfl) zinX7 (by decide) zw425)
    (zr_n (zr_n (zr_s (zk_callVN (n := 1) C zXX_ok zTs_good hbc hbs (show zget zprog 62 = some mX5_copy from rfl) rfl rfl (show vwCl[5]? = some (RX5, TX5, 6) from rfl) zw614 (fun U H h => zn52 h) zw613 zs30 zw11 (by decide +kernel) dX7_years_21)
    (zr_n (zr_n (zr_s (zq_aload_n C dX7_years_24 rfl)
    (zr_s (zq_iload_n C dX7_years_25 rfl)
    (zr_s (zq_put (k := 15) C dX7_years_26 (show vwCl[7]? = some (RX7, TX7, 16) from rfl) zinX7 tyX7 tyX7_ok nmX7 (by decide) zw438 rfl (ty := .int) (by decide +kernel) rfl)
    (zr_n (zr_n (zr_s (zq_iconst (n := .ofNat 0) C dX7_years_29 (by decide))
    (zr_s (zq_istore_n C dX7_years_30 rfl (by decide))
    (zr_s (zq_iload_n C dX7_years_31 rfl)
    zr_0))))))))))))))))
  (zrs_c (zr_s (zq_iload_n C dX7_years_32 rfl)
    (zr_s (zq_icmp_ge C dX7_years_33 (by decide))
    (zr_n (zr_n (zr_s (zq_aload_n C dX7_years_36 rfl)
    (zr_s (zk_callV (n := 0) C zXX_ok zTs_good hbc hbs (show zget zprog 79 = some mX7_drawAct from rfl) rfl rfl (show vwCl[7]? = some (RX7, TX7, 16) from rfl) zw1063 zw1060 zw1062 zs91 zw1 (by decide +kernel) dX7_years_37)
    (zr_n (zr_n (zr_s (zk_inc (n := .ofNat 1) C dX7_years_40 (by decide) (by decide))
    (zr_n (zr_n (zr_s (zk_goto C dX7_years_43 (by decide))
    (zr_n (zr_n (zr_s (zq_aload_n C dX7_years_46 rfl)
    (zr_s (zq_get (k := 9) C dX7_years_47 (show vwCl[7]? = some (RX7, TX7, 16) from rfl) zinX7 (by decide) zw432)
    zr_0))))))))))))))))
  (zrs_c (zr_n (zr_n (zr_s (zq_aload_n C dX7_years_50 rfl)
    (zr_s (zq_get (k := 4) C dX7_years_51 (show vwCl[7]? = some (RX7, TX7, 16) from rfl) zinX7 (by decide) zw427)
    (zr_n (zr_n (zr_s (zq_getN (k := 5) C dX7_years_54 (show vwCl[5]? = some (RX5, TX5, 6) from rfl) zinX5 (by decide) (fun U H h => zn26 h))
    (zr_n (zr_n (zr_s (zq_aload_n C dX7_years_57 rfl)
    (zr_s (zq_get (k := 2) C dX7_years_58 (show vwCl[7]? = some (RX7, TX7, 16) from rfl) zinX7 (by decide) zw425)
    (zr_n (zr_n (zr_s (zq_getN (k := 5) C dX7_years_61 (show vwCl[5]? = some (RX5, TX5, 6) from rfl) zinX5 (by decide) (fun U H h => zn26 h))
    (zr_n (zr_n zr_0))))))))))))))))
  (zrs_c (zr_s (zk_sub C dX7_years_64)
    (zr_s (zk_i2l C dX7_years_65)
    (zr_s (zq_aload_n C dX7_years_66 rfl)
    (zr_s (zq_get (k := 4) C dX7_years_67 (show vwCl[7]? = some (RX7, TX7, 16) from rfl) zinX7 (by decide) zw427)
    (zr_n (zr_n (zr_s (zk_callVN (n := 0) C zXX_ok zTs_good hbc hbs (show zget zprog 65 = some mX5_tiredOfAll from rfl) rfl rfl (show vwCl[5]? = some (RX5, TX5, 6) from rfl) zw600 (fun U H h => zn50 h) zw599 zs28 zw11 (by decide +kernel) dX7_years_70)
    (zr_n (zr_n (zr_s (zk_i2l C dX7_years_73)
    (zr_s (zk_callVN (n := 2) C zXX_ok zTs_good hbc hbs (show zget zprog 31 = some mX1_tell_ from rfl) rfl rfl (show vwCl[1]? = some (RX1, TX1, 2) from rfl) zw686 (fun U H h => zn59 h) zw685 zs42 zw15 (by decide +kernel) dX7_years_74)
    (zr_n (zr_n (zr_s (zq_aload_n C dX7_years_77 rfl)
    (zr_s (zq_get (k := 4) C dX7_years_78 (show vwCl[7]? = some (RX7, TX7, 16) from rfl) zinX7 (by decide) zw427)
    (zr_n zr_0))))))))))))))))
  (zrs_c (zr_n (zr_s (zq_getN (k := 4) C dX7_years_81 (show vwCl[5]? = some (RX5, TX5, 6) from rfl) zinX5 (by decide) (fun U H h => zn24 h))
    (zr_n (zr_n (zr_s (zq_aload_n C dX7_years_84 rfl)
    (zr_s (zq_get (k := 2) C dX7_years_85 (show vwCl[7]? = some (RX7, TX7, 16) from rfl) zinX7 (by decide) zw425)
    (zr_n (zr_n (zr_s (zq_getN (k := 4) C dX7_years_88 (show vwCl[5]? = some (RX5, TX5, 6) from rfl) zinX5 (by decide) (fun U H h => zn24 h))
    (zr_n (zr_n (zr_s (zk_sub C dX7_years_91)
    (zr_s (zk_ret1 (ty := .int) C hbc hbs rfl rfl (Or.inl ⟨dX7_years_92, by decide⟩))
    zr_0)))))))))))))
  zrs_0))))))
set_option maxRecDepth 100000 in
set_option maxHeartbeats 4000000 in
theorem okX8_able {l : Launch} {D : va_G} {tys : List (ClassId × FieldType)} {o : zO} {z : Nat} (E : zEnv tys) : zCodeOk l D vwCl tys o z (zXX o z) zTs zprog mX8_able := by
  intro p e R s m args below meth c0 Q ws0 hbc hbs C pc sem h
  replace hbc : R.cells = 0 := hbc
  replace hbs : R.slots = 0 := hbs
  replace C : zCx p R s m args meth c0 D vwCl tys z (zXX o z) zTs RX8 cX8_able 6 "able" := C
  refine zRows_get (P := fun pc sem => zOp p l e R s m args below meth c0 Q D vwCl tys o z (zXX o z) zTs zprog ws0 6 cX8_able (some .int) pc sem) (c := kX8_able) ?_ h
  unfold kX8_able
  exact (zrs_c (zr_s (zq_aload_n C dX8_able_0 rfl)
    (zr_s (zq_iconst (n := .ofNat 0) C dX8_able_1 (by decide))
    (zr_s (zq_put (k := 11) C dX8_able_2 (show vwCl[8]? = some (RX8, TX8, 51) from rfl) zinX8 tyX8 tyX8_ok nmX8 (by decide) zw1183 rfl (ty := .int) (by decide +kernel) rfl)
    (zr_n (zr_n (zr_s (zq_iload_n C dX8_able_5 rfl)
    (zr_s (zk_callS C zXX_ok zTs_good hbc hbs (show zget zprog 184 = some mX8_isHour from rfl) rfl rfl zw1438 zw1436 zw1437 zw16 (by decide +kernel) dX8_able_6)
    (zr_n (zr_n (zr_s (zq_if_ne C dX8_able_9 (by decide))
    (zr_n (zr_n (zr_s (zq_iconst (n := .negSucc 0) C dX8_able_12 (by decide))
    (zr_s (zk_ret1 (ty := .int) C hbc hbs rfl rfl (Or.inl ⟨dX8_able_13, by decide⟩))
    (zr_s (zq_iconst (n := .ofNat 0) C dX8_able_14 (by decide))
    (zr_s (zq_istore_n C dX8_able_15 rfl (by decide))
    zr_0))))))))))))))))
  (zrs_c (zr_s (zq_aload_n C dX8_able_16 rfl)
    (zr_s (zq_iconst (n := .ofNat 0) C dX8_able_17 (by decide))
    (zr_s (zq_put (k := 10) C dX8_able_18 (show vwCl[8]? = some (RX8, TX8, 51) from rfl) zinX8 tyX8 tyX8_ok nmX8 (by decide) zw1182 rfl (ty := .int) (by decide +kernel) rfl)
    (zr_n (zr_n (zr_s (zq_iconst (n := .ofNat 0) C dX8_able_21 (by decide))
    (zr_s (zq_istore_n C dX8_able_22 rfl (by decide))
    (zr_s (zq_iload_n C dX8_able_23 rfl)
    (zr_s (zq_aload_n C dX8_able_24 rfl)
    (zr_s (zq_get (k := 3) C dX8_able_25 (show vwCl[8]? = some (RX8, TX8, 51) from rfl) zinX8 (by decide) zw1175)
    (zr_n (zr_n (zr_s (zq_icmp_ge C dX8_able_28 (by decide))
    (zr_n (zr_n (zr_n zr_0))))))))))))))))
  (zrs_c (zr_n (zr_n (zr_n (zr_n (zr_n (zr_n (zr_n (zr_n (zr_n (zr_n (zr_n (zr_n (zr_n (zr_n (zr_n (zr_n zr_0))))))))))))))))
  (zrs_c (zr_n (zr_n (zr_n (zr_n (zr_n (zr_n (zr_n (zr_n (zr_n (zr_n (zr_n (zr_n (zr_n (zr_n (zr_n (zr_n zr_0))))))))))))))))
  (zrs_c (zr_n (zr_n (zr_n (zr_n (zr_n (zr_n (zr_n (zr_n (zr_n (zr_n (zr_n (zr_n (zr_n (zr_n (zr_n (zr_n zr_0))))))))))))))))
  (zrs_c (zr_n (zr_n (zr_n (zr_n (zr_n (zr_n (zr_n (zr_n (zr_n (zr_n (zr_n (zr_n (zr_n (zr_n (zr_n (zr_n zr_0))))))))))))))))
  (zrs_c (zr_n (zr_n (zr_n (zr_n (zr_n (zr_n (zr_n (zr_n (zr_n (zr_n (zr_n (zr_n (zr_n (zr_n (zr_n (zr_n zr_0))))))))))))))))
  (zrs_c (zr_n (zr_n (zr_n (zr_n (zr_n (zr_n (zr_n (zr_n (zr_n (zr_n (zr_n (zr_n (zr_n (zr_n (zr_n (zr_n zr_0))))))))))))))))
  (zrs_c (zr_n (zr_n (zr_n (zr_n (zr_n (zr_n (zr_n (zr_n (zr_n (zr_n (zr_n (zr_n (zr_n (zr_n (zr_n (zr_n zr_0))))))))))))))))
  (zrs_c (zr_n (zr_n (zr_n (zr_n (zr_n (zr_n (zr_n (zr_n (zr_n (zr_n (zr_n (zr_n (zr_s (zq_aload_n C dX8_able_156 rfl)
    (zr_s (zq_get (k := 10) C dX8_able_157 (show vwCl[8]? = some (RX8, TX8, 51) from rfl) zinX8 (by decide) zw1182)
    (zr_n (zr_n zr_0))))))))))))))))
  (zrs_c (zr_s (zk_ret1 (ty := .int) C hbc hbs rfl rfl (Or.inl ⟨dX8_able_160, by decide⟩))
    zr_0)
  zrs_0)))))))))))
set_option maxRecDepth 100000 in
set_option maxHeartbeats 4000000 in
theorem okX8_ableMany {l : Launch} {D : va_G} {tys : List (ClassId × FieldType)} {o : zO} {z : Nat} (E : zEnv tys) : zCodeOk l D vwCl tys o z (zXX o z) zTs zprog mX8_ableMany := by
  intro p e R s m args below meth c0 Q ws0 hbc hbs C pc sem h
  replace hbc : R.cells = 0 := hbc
  replace hbs : R.slots = 0 := hbs
  replace C : zCx p R s m args meth c0 D vwCl tys z (zXX o z) zTs RX8 cX8_ableMany 4 "ableMany" := C
  refine zRows_get (P := fun pc sem => zOp p l e R s m args below meth c0 Q D vwCl tys o z (zXX o z) zTs zprog ws0 4 cX8_ableMany (some .int) pc sem) (c := kX8_ableMany) ?_ h
  unfold kX8_ableMany
  exact (zrs_c (zr_s (zq_iconst (n := .ofNat 0) C dX8_ableMany_0 (by decide))
    (zr_s (zq_istore_n C dX8_ableMany_1 rfl (by decide))
    (zr_s (zq_iconst (n := .ofNat 0) C dX8_ableMany_2 (by decide))
    (zr_s (zq_istore_n C dX8_ableMany_3 rfl (by decide))
    (zr_s (zq_iload_n C dX8_ableMany_4 rfl)
    (zr_s (zq_aload_n C dX8_ableMany_5 rfl)
    (zr_s (zq_get (k := 3) C dX8_ableMany_6 (show vwCl[8]? = some (RX8, TX8, 51) from rfl) zinX8 (by decide) zw1175)
    (zr_n (zr_n (zr_s (zq_icmp_ge C dX8_ableMany_9 (by decide))
    (zr_n (zr_n (zr_n (zr_n (zr_n (zr_n zr_0))))))))))))))))
  (zrs_c (zr_n (zr_n (zr_n (zr_n (zr_n (zr_n (zr_n (zr_n (zr_n (zr_n (zr_n (zr_n (zr_n (zr_n (zr_n (zr_n zr_0))))))))))))))))
  (zrs_c (zr_n (zr_n (zr_n (zr_n (zr_n (zr_n (zr_n (zr_n (zr_n (zr_n (zr_n (zr_n (zr_n (zr_n (zr_n (zr_n zr_0))))))))))))))))
  (zrs_c (zr_n (zr_n (zr_n (zr_s (zq_iload_n C dX8_ableMany_51 rfl)
    (zr_s (zk_ret1 (ty := .int) C hbc hbs rfl rfl (Or.inl ⟨dX8_ableMany_52, by decide⟩))
    zr_0)))))
  zrs_0))))
set_option maxRecDepth 100000 in
set_option maxHeartbeats 4000000 in
theorem okX8_again {l : Launch} {D : va_G} {tys : List (ClassId × FieldType)} {o : zO} {z : Nat} (E : zEnv tys) : zCodeOk l D vwCl tys o z (zXX o z) zTs zprog mX8_again := by
  intro p e R s m args below meth c0 Q ws0 hbc hbs C pc sem h
  replace hbc : R.cells = 0 := hbc
  replace hbs : R.slots = 0 := hbs
  replace C : zCx p R s m args meth c0 D vwCl tys z (zXX o z) zTs RX8 cX8_again 3 "again" := C
  refine zRows_get (P := fun pc sem => zOp p l e R s m args below meth c0 Q D vwCl tys o z (zXX o z) zTs zprog ws0 3 cX8_again (some .boolean) pc sem) (c := kX8_again) ?_ h
  unfold kX8_again
  exact (zrs_c (zr_s (zq_aload_n C dX8_again_0 rfl)
    (zr_s (zq_iconst (n := .ofNat 0) C dX8_again_1 (by decide))
    (zr_s (zq_put (k := 11) C dX8_again_2 (show vwCl[8]? = some (RX8, TX8, 51) from rfl) zinX8 tyX8 tyX8_ok nmX8 (by decide) zw1183 rfl (ty := .int) (by decide +kernel) rfl)
    (zr_n (zr_n (zr_s (zq_iload_n C dX8_again_5 rfl)
    (zr_s (zq_iconst (n := .ofNat 0) C dX8_again_6 (by decide))
    (zr_s (zq_iconst (n := .ofNat 1) C dX8_again_7 (by decide))
    (zr_s (zk_callS C zXX_ok zTs_good hbc hbs (show zget zprog 181 = some mX8_in from rfl) rfl rfl zw1340 zw1338 zw1339 zw16 (by decide +kernel) dX8_again_8)
    (zr_n (zr_n (zr_s (zq_if_eq C dX8_again_11 (by decide))
    (zr_n (zr_n (zr_s (zq_aload_n C dX8_again_14 rfl)
    (zr_s (zq_get (k := 49) C dX8_again_15 (show vwCl[8]? = some (RX8, TX8, 51) from rfl) zinX8 (by decide) zw1221)
    zr_0))))))))))))))))
  (zrs_c (zr_n (zr_n (zr_s (zq_iload_n C dX8_again_18 rfl)
    (zr_s (zk_bald C dX8_again_19)
    (zr_s (zq_if_eq C dX8_again_20 (by decide))
    (zr_n (zr_n (zr_n (zr_n (zr_n (zr_n (zr_n (zr_n (zr_n (zr_n (zr_n zr_0))))))))))))))))
  (zrs_c (zr_n (zr_n (zr_n (zr_n (zr_s (zq_iconst (n := .ofNat 0) C dX8_again_36 (by decide))
    (zr_s (zk_ret1 (ty := .boolean) C hbc hbs rfl rfl (Or.inl ⟨dX8_again_37, by decide⟩))
    (zr_n (zr_n (zr_n (zr_n (zr_n (zr_n (zr_n (zr_n (zr_n (zr_n zr_0))))))))))))))))
  (zrs_c (zr_n (zr_n (zr_n (zr_n (zr_n (zr_n (zr_n (zr_n (zr_n (zr_n (zr_n (zr_n (zr_n (zr_n (zr_n (zr_n zr_0))))))))))))))))
  (zrs_c (zr_n (zr_n (zr_n (zr_n (zr_n (zr_n (zr_n (zr_n (zr_n (zr_n (zr_n (zr_n zr_0))))))))))))
  zrs_0)))))
set_option maxRecDepth 100000 in
set_option maxHeartbeats 4000000 in
theorem okX8_areTwo {l : Launch} {D : va_G} {tys : List (ClassId × FieldType)} {o : zO} {z : Nat} (E : zEnv tys) : zCodeOk l D vwCl tys o z (zXX o z) zTs zprog mX8_areTwo := by
  intro p e R s m args below meth c0 Q ws0 hbc hbs C pc sem h
  replace hbc : R.cells = 0 := hbc
  replace hbs : R.slots = 0 := hbs
  replace C : zCx p R s m args meth c0 D vwCl tys z (zXX o z) zTs RX8 cX8_areTwo 3 "areTwo" := C
  refine zRows_get (P := fun pc sem => zOp p l e R s m args below meth c0 Q D vwCl tys o z (zXX o z) zTs zprog ws0 3 cX8_areTwo (some .boolean) pc sem) (c := kX8_areTwo) ?_ h
  unfold kX8_areTwo
  exact (zrs_c (zr_s (zq_aload_n C dX8_areTwo_0 rfl)
    (zr_s (zq_iload_n C dX8_areTwo_1 rfl)
    (zr_s (zk_callV (n := 1) C zXX_ok zTs_good hbc hbs (show zget zprog 185 = some mX8_isMan from rfl) rfl rfl (show vwCl[8]? = some (RX8, TX8, 51) from rfl) zw1423 zw1420 zw1422 zs112 zw16 (by decide +kernel) dX8_areTwo_2)
    (zr_n (zr_n (zr_s (zq_if_eq C dX8_areTwo_5 (by decide))
    (zr_n (zr_n (zr_n (zr_n (zr_n (zr_n (zr_n (zr_n (zr_n (zr_n zr_0))))))))))))))))
  (zrs_c (zr_n (zr_n (zr_n (zr_n (zr_n (zr_n (zr_n (zr_n (zr_n (zr_s (zq_iconst (n := .ofNat 0) C dX8_areTwo_25 (by decide))
    (zr_s (zk_ret1 (ty := .boolean) C hbc hbs rfl rfl (Or.inl ⟨dX8_areTwo_26, by decide⟩))
    zr_0)))))))))))
  zrs_0))
set_option maxRecDepth 100000 in
set_option maxHeartbeats 4000000 in
theorem okX8_ask {l : Launch} {D : va_G} {tys : List (ClassId × FieldType)} {o : zO} {z : Nat} (E : zEnv tys) : zCodeOk l D vwCl tys o z (zXX o z) zTs zprog mX8_ask := by
  intro p e R s m args below meth c0 Q ws0 hbc hbs C pc sem h
  replace hbc : R.cells = 0 := hbc
  replace hbs : R.slots = 0 := hbs
  replace C : zCx p R s m args meth c0 D vwCl tys z (zXX o z) zTs RX8 cX8_ask 6 "ask" := C
  refine zRows_get (P := fun pc sem => zOp p l e R s m args below meth c0 Q D vwCl tys o z (zXX o z) zTs zprog ws0 6 cX8_ask (some .int) pc sem) (c := kX8_ask) ?_ h
  unfold kX8_ask
  exact (zrs_c (zr_s (zq_aload_n C dX8_ask_0 rfl)
    (zr_s (zq_iconst (n := .ofNat 0) C dX8_ask_1 (by decide))
    (zr_s (zq_put (k := 11) C dX8_ask_2 (show vwCl[8]? = some (RX8, TX8, 51) from rfl) zinX8 tyX8 tyX8_ok nmX8 (by decide) zw1183 rfl (ty := .int) (by decide +kernel) rfl)
    (zr_n (zr_n (zr_s (zq_aload_n C dX8_ask_5 rfl)
    (zr_s (zq_iconst (n := .negSucc 0) C dX8_ask_6 (by decide))
    (zr_s (zq_iconst (n := .negSucc 0) C dX8_ask_7 (by decide))
    (zr_s (zk_callV (n := 2) C zXX_ok zTs_good hbc hbs (show zget zprog 167 = some mX8_fitting from rfl) rfl rfl (show vwCl[8]? = some (RX8, TX8, 51) from rfl) zw1708 zw1705 zw1707 zs145 zw16 (by decide +kernel) dX8_ask_8)
    (zr_n (zr_n (zr_s (zq_if_ne C dX8_ask_11 (by decide))
    (zr_n (zr_n (zr_s (zq_bipush (n := .negSucc 1) C dX8_ask_14 (by decide) (by decide))
    (zr_n zr_0))))))))))))))))
  (zrs_c (zr_s (zk_ret1 (ty := .int) C hbc hbs rfl rfl (Or.inl ⟨dX8_ask_16, by decide⟩))
    (zr_n (zr_n (zr_n (zr_n (zr_n (zr_n (zr_n (zr_n (zr_n (zr_n (zr_n (zr_n (zr_n (zr_n (zr_n zr_0))))))))))))))))
  (zrs_c (zr_n (zr_n (zr_n (zr_n (zr_n (zr_n (zr_n (zr_n (zr_n (zr_n (zr_n (zr_n (zr_n (zr_n (zr_n (zr_n zr_0))))))))))))))))
  (zrs_c (zr_n (zr_n (zr_n (zr_n (zr_n (zr_n (zr_n (zr_n (zr_n (zr_n (zr_n (zr_n (zr_n (zr_n (zr_n (zr_n zr_0))))))))))))))))
  (zrs_c (zr_n (zr_n (zr_n (zr_n (zr_n (zr_n (zr_n (zr_n (zr_n (zr_n (zr_n (zr_n (zr_n (zr_n (zr_n (zr_n zr_0))))))))))))))))
  (zrs_c (zr_n (zr_n (zr_n (zr_n (zr_n (zr_n (zr_n (zr_n (zr_n (zr_n (zr_n (zr_n (zr_n (zr_n (zr_n (zr_n zr_0))))))))))))))))
  (zrs_c (zr_n (zr_n (zr_n (zr_n zr_0))))
  zrs_0)))))))
set_option maxRecDepth 100000 in
set_option maxHeartbeats 4000000 in
theorem okX8_away {l : Launch} {D : va_G} {tys : List (ClassId × FieldType)} {o : zO} {z : Nat} (E : zEnv tys) : zCodeOk l D vwCl tys o z (zXX o z) zTs zprog mX8_away := by
  intro p e R s m args below meth c0 Q ws0 hbc hbs C pc sem h
  replace hbc : R.cells = 0 := hbc
  replace hbs : R.slots = 0 := hbs
  replace C : zCx p R s m args meth c0 D vwCl tys z (zXX o z) zTs RX8 cX8_away 4 "away" := C
  refine zRows_get (P := fun pc sem => zOp p l e R s m args below meth c0 Q D vwCl tys o z (zXX o z) zTs zprog ws0 4 cX8_away (some .int) pc sem) (c := kX8_away) ?_ h
  unfold kX8_away
  exact (zrs_c (zr_s (zq_aload_n C dX8_away_0 rfl)
    (zr_s (zq_iconst (n := .ofNat 0) C dX8_away_1 (by decide))
    (zr_s (zq_put (k := 11) C dX8_away_2 (show vwCl[8]? = some (RX8, TX8, 51) from rfl) zinX8 tyX8 tyX8_ok nmX8 (by decide) zw1183 rfl (ty := .int) (by decide +kernel) rfl)
    (zr_n (zr_n (zr_s (zq_aload_n C dX8_away_5 rfl)
    (zr_s (zk_callV (n := 0) C zXX_ok zTs_good hbc hbs (show zget zprog 192 = some mX8_layCanBe from rfl) rfl rfl (show vwCl[8]? = some (RX8, TX8, 51) from rfl) zw1616 zw1613 zw1615 zs140 zw16 (by decide +kernel) dX8_away_6)
    (zr_n (zr_n (zr_s (zq_iconst (n := .ofNat 1) C dX8_away_9 (by decide))
    (zr_s (zq_aload_n C dX8_away_10 rfl)
    (zr_s (zq_get (k := 3) C dX8_away_11 (show vwCl[8]? = some (RX8, TX8, 51) from rfl) zinX8 (by decide) zw1175)
    (zr_n (zr_n (zr_s (zq_ishl C dX8_away_14)
    (zr_s (zq_iconst (n := .ofNat 1) C dX8_away_15 (by decide))
    zr_0))))))))))))))))
  (zrs_c (zr_s (zk_sub C dX8_away_16)
    (zr_s (zq_aload_n C dX8_away_17 rfl)
    (zr_s (zq_aload_n C dX8_away_18 rfl)
    (zr_s (zq_get (k := 0) C dX8_away_19 (show vwCl[8]? = some (RX8, TX8, 51) from rfl) zinX8 (by decide) zw1172)
    (zr_n (zr_n (zr_s (zk_callV (n := 1) C zXX_ok zTs_good hbc hbs (show zget zprog 180 = some mX8_illBits from rfl) rfl rfl (show vwCl[8]? = some (RX8, TX8, 51) from rfl) zw1480 zw1477 zw1479 zs118 zw16 (by decide +kernel) dX8_away_22)
    (zr_n (zr_n (zr_s (zq_iconst (n := .negSucc 0) C dX8_away_25 (by decide))
    (zr_s (zq_ixor C dX8_away_26)
    (zr_s (zq_iand C dX8_away_27)
    (zr_s (zq_istore_n C dX8_away_28 rfl (by decide))
    (zr_s (zq_iconst (n := .negSucc 0) C dX8_away_29 (by decide))
    (zr_s (zq_istore_n C dX8_away_30 rfl (by decide))
    (zr_s (zq_iconst (n := .ofNat 0) C dX8_away_31 (by decide))
    zr_0))))))))))))))))
  (zrs_c (zr_s (zq_istore_n C dX8_away_32 rfl (by decide))
    (zr_s (zq_iload_n C dX8_away_33 rfl)
    (zr_s (zq_iload_n C dX8_away_34 rfl)
    (zr_s (zq_icmp_gt C dX8_away_35 (by decide))
    (zr_n (zr_n (zr_s (zq_iload_n C dX8_away_38 rfl)
    (zr_s (zq_iload_n C dX8_away_39 rfl)
    (zr_s (zq_iconst (n := .negSucc 0) C dX8_away_40 (by decide))
    (zr_s (zq_ixor C dX8_away_41)
    (zr_s (zq_iand C dX8_away_42)
    (zr_s (zq_if_ne C dX8_away_43 (by decide))
    (zr_n (zr_n (zr_s (zq_aload_n C dX8_away_46 rfl)
    (zr_s (zq_get (k := 41) C dX8_away_47 (show vwCl[8]? = some (RX8, TX8, 51) from rfl) zinX8 (by decide) zw1213)
    zr_0))))))))))))))))
  (zrs_c (zr_n (zr_n (zr_s (zq_iload_n C dX8_away_50 rfl)
    (zr_s (zq_iload_n C dX8_away_51 rfl)
    (zr_s (zq_iconst (n := .negSucc 0) C dX8_away_52 (by decide))
    (zr_s (zq_ixor C dX8_away_53)
    (zr_s (zq_iand C dX8_away_54)
    (zr_s (zk_bald C dX8_away_55)
    (zr_s (zq_if_ne C dX8_away_56 (by decide))
    (zr_n (zr_n (zr_s (zk_goto C dX8_away_59 (by decide))
    (zr_n (zr_n (zr_n (zr_n zr_0))))))))))))))))
  (zrs_c (zr_n (zr_n (zr_n (zr_n (zr_n (zr_n (zr_n (zr_n (zr_n (zr_n (zr_n (zr_n (zr_n (zr_n (zr_n (zr_n zr_0))))))))))))))))
  (zrs_c (zr_s (zk_inc (n := .ofNat 1) C dX8_away_80 (by decide) (by decide))
    (zr_n (zr_n (zr_s (zk_goto C dX8_away_83 (by decide))
    (zr_n (zr_n (zr_s (zq_iload_n C dX8_away_86 rfl)
    (zr_s (zq_iconst (n := .negSucc 0) C dX8_away_87 (by decide))
    (zr_s (zq_icmp_ne C dX8_away_88 (by decide))
    (zr_n (zr_n (zr_s (zq_bipush (n := .negSucc 1) C dX8_away_91 (by decide) (by decide))
    (zr_n (zr_s (zk_ret1 (ty := .int) C hbc hbs rfl rfl (Or.inl ⟨dX8_away_93, by decide⟩))
    (zr_n (zr_n zr_0))))))))))))))))
  (zrs_c (zr_n (zr_n (zr_n (zr_n (zr_n (zr_n (zr_n (zr_n (zr_n (zr_n (zr_n (zr_n (zr_n (zr_n zr_0))))))))))))))
  zrs_0)))))))
set_option maxRecDepth 100000 in
set_option maxHeartbeats 4000000 in
theorem okX8_bare {l : Launch} {D : va_G} {tys : List (ClassId × FieldType)} {o : zO} {z : Nat} (E : zEnv tys) : zCodeOk l D vwCl tys o z (zXX o z) zTs zprog mX8_bare := by
  intro p e R s m args below meth c0 Q ws0 hbc hbs C pc sem h
  replace hbc : R.cells = 0 := hbc
  replace hbs : R.slots = 0 := hbs
  replace C : zCx p R s m args meth c0 D vwCl tys z (zXX o z) zTs RX8 cX8_bare 3 "bare" := C
  refine zRows_get (P := fun pc sem => zOp p l e R s m args below meth c0 Q D vwCl tys o z (zXX o z) zTs zprog ws0 3 cX8_bare (some .int) pc sem) (c := kX8_bare) ?_ h
  unfold kX8_bare
  exact (zrs_c (zr_s (zq_aload_n C dX8_bare_0 rfl)
    (zr_s (zq_iconst (n := .ofNat 0) C dX8_bare_1 (by decide))
    (zr_s (zq_put (k := 11) C dX8_bare_2 (show vwCl[8]? = some (RX8, TX8, 51) from rfl) zinX8 tyX8 tyX8_ok nmX8 (by decide) zw1183 rfl (ty := .int) (by decide +kernel) rfl)
    (zr_n (zr_n (zr_s (zq_aload_n C dX8_bare_5 rfl)
    (zr_s (zq_iconst (n := .negSucc 0) C dX8_bare_6 (by decide))
    (zr_s (zk_callV (n := 1) C zXX_ok zTs_good hbc hbs (show zget zprog 194 = some mX8_layMay from rfl) rfl rfl (show vwCl[8]? = some (RX8, TX8, 51) from rfl) zw1564 zw1561 zw1563 zs128 zw16 (by decide +kernel) dX8_bare_7)
    (zr_n (zr_n (zr_s (zq_aload_n C dX8_bare_10 rfl)
    (zr_s (zq_iconst (n := .ofNat 2) C dX8_bare_11 (by decide))
    (zr_s (zk_callV (n := 1) C zXX_ok zTs_good hbc hbs (show zget zprog 218 = some mX8_solve from rfl) rfl rfl (show vwCl[8]? = some (RX8, TX8, 51) from rfl) zw1572 zw1569 zw1571 zs130 zw16 (by decide +kernel) dX8_bare_12)
    (zr_n (zr_n (zr_s (zk_pop C dX8_bare_15)
    zr_0))))))))))))))))
  (zrs_c (zr_s (zq_iconst (n := .negSucc 0) C dX8_bare_16 (by decide))
    (zr_s (zq_istore_n C dX8_bare_17 rfl (by decide))
    (zr_s (zq_iconst (n := .ofNat 1) C dX8_bare_18 (by decide))
    (zr_s (zq_istore_n C dX8_bare_19 rfl (by decide))
    (zr_s (zq_iload_n C dX8_bare_20 rfl)
    (zr_s (zq_aload_n C dX8_bare_21 rfl)
    (zr_s (zk_callV (n := 0) C zXX_ok zTs_good hbc hbs (show zget zprog 199 = some mX8_night from rfl) rfl rfl (show vwCl[8]? = some (RX8, TX8, 51) from rfl) zw1568 zw1565 zw1567 zs129 zw16 (by decide +kernel) dX8_bare_22)
    (zr_n (zr_n (zr_s (zq_icmp_gt C dX8_bare_25 (by decide))
    (zr_n (zr_n (zr_s (zq_aload_n C dX8_bare_28 rfl)
    (zr_s (zq_get (k := 37) C dX8_bare_29 (show vwCl[8]? = some (RX8, TX8, 51) from rfl) zinX8 (by decide) zw1209)
    (zr_n (zr_n zr_0))))))))))))))))
  (zrs_c (zr_s (zq_iload_n C dX8_bare_32 rfl)
    (zr_s (zk_iald C dX8_bare_33)
    (zr_s (zq_ldc (n := .ofNat 1000000000) C dX8_bare_34 zw1171 (by decide +kernel))
    (zr_n (zr_s (zq_icmp_ne C dX8_bare_36 (by decide))
    (zr_n (zr_n (zr_s (zq_iload_n C dX8_bare_39 rfl)
    (zr_s (zq_iconst (n := .negSucc 0) C dX8_bare_40 (by decide))
    (zr_s (zq_icmp_eq C dX8_bare_41 (by decide))
    (zr_n (zr_n (zr_s (zq_iload_n C dX8_bare_44 rfl)
    (zr_s (zk_callS C zXX_ok zTs_good hbc hbs (show zget zprog 14 = some mJ6_bitCount_0f7a4 from rfl) rfl rfl zw564 zw1443 zw563 zw21 (by decide +kernel) dX8_bare_45)
    (zr_n (zr_n zr_0))))))))))))))))
  (zrs_c (zr_s (zq_iload_n C dX8_bare_48 rfl)
    (zr_s (zk_callS C zXX_ok zTs_good hbc hbs (show zget zprog 14 = some mJ6_bitCount_0f7a4 from rfl) rfl rfl zw564 zw1443 zw563 zw21 (by decide +kernel) dX8_bare_49)
    (zr_n (zr_n (zr_s (zq_icmp_ge C dX8_bare_52 (by decide))
    (zr_n (zr_n (zr_s (zq_iload_n C dX8_bare_55 rfl)
    (zr_s (zq_istore_n C dX8_bare_56 rfl (by decide))
    (zr_s (zk_inc (n := .ofNat 1) C dX8_bare_57 (by decide) (by decide))
    (zr_n (zr_n (zr_s (zk_goto C dX8_bare_60 (by decide))
    (zr_n (zr_n (zr_s (zq_iload_n C dX8_bare_63 rfl)
    zr_0))))))))))))))))
  (zrs_c (zr_s (zq_iconst (n := .negSucc 0) C dX8_bare_64 (by decide))
    (zr_s (zq_icmp_ne C dX8_bare_65 (by decide))
    (zr_n (zr_n (zr_n (zr_n (zr_n (zr_s (zq_aload_n C dX8_bare_71 rfl)
    (zr_s (zq_iconst (n := .ofNat 0) C dX8_bare_72 (by decide))
    (zr_s (zq_put (k := 10) C dX8_bare_73 (show vwCl[8]? = some (RX8, TX8, 51) from rfl) zinX8 tyX8 tyX8_ok nmX8 (by decide) zw1182 rfl (ty := .int) (by decide +kernel) rfl)
    (zr_n (zr_n (zr_s (zq_aload_n C dX8_bare_76 rfl)
    (zr_s (zq_iload_n C dX8_bare_77 rfl)
    (zr_s (zk_i2l C dX8_bare_78)
    (zr_s (zk_callV (n := 1) C zXX_ok zTs_good hbc hbs (show zget zprog 222 = some mX8_tell from rfl) rfl rfl (show vwCl[8]? = some (RX8, TX8, 51) from rfl) zw1500 zw1497 zw1499 zs121 zw16 (by decide +kernel) dX8_bare_79)
    zr_0))))))))))))))))
  (zrs_c (zr_n (zr_n (zr_s (zq_iload_n C dX8_bare_82 rfl)
    (zr_s (zk_callS C zXX_ok zTs_good hbc hbs (show zget zprog 14 = some mJ6_bitCount_0f7a4 from rfl) rfl rfl zw564 zw1443 zw563 zw21 (by decide +kernel) dX8_bare_83)
    (zr_n (zr_n (zr_s (zk_ret1 (ty := .int) C hbc hbs rfl rfl (Or.inl ⟨dX8_bare_86, by decide⟩))
    zr_0)))))))
  zrs_0))))))
set_option maxRecDepth 100000 in
set_option maxHeartbeats 4000000 in
theorem okX8_begin {l : Launch} {D : va_G} {tys : List (ClassId × FieldType)} {o : zO} {z : Nat} (E : zEnv tys) : zCodeOk l D vwCl tys o z (zXX o z) zTs zprog mX8_begin := by
  intro p e R s m args below meth c0 Q ws0 hbc hbs C pc sem h
  replace hbc : R.cells = 0 := hbc
  replace hbs : R.slots = 0 := hbs
  replace C : zCx p R s m args meth c0 D vwCl tys z (zXX o z) zTs RX8 cX8_begin 4 "begin" := C
  refine zRows_get (P := fun pc sem => zOp p l e R s m args below meth c0 Q D vwCl tys o z (zXX o z) zTs zprog ws0 4 cX8_begin none pc sem) (c := kX8_begin) ?_ h
  unfold kX8_begin
  exact (zrs_c (zr_s (zq_aload_n C dX8_begin_0 rfl)
    (zr_s (zq_aload_n C dX8_begin_1 rfl)
    (zr_s (zq_put (k := 12) C dX8_begin_2 (show vwCl[8]? = some (RX8, TX8, 51) from rfl) zinX8 tyX8 tyX8_ok nmX8 (by decide) zw1184 rfl (ty := (.array .byte)) (by decide +kernel) rfl)
    (zr_n (zr_n (zr_s (zq_aload_n C dX8_begin_5 rfl)
    (zr_s (zq_iload_n C dX8_begin_6 rfl)
    (zr_s (zq_put (k := 13) C dX8_begin_7 (show vwCl[8]? = some (RX8, TX8, 51) from rfl) zinX8 tyX8 tyX8_ok nmX8 (by decide) zw1185 rfl (ty := .int) (by decide +kernel) rfl)
    (zr_n (zr_n (zr_s (zq_aload_n C dX8_begin_10 rfl)
    (zr_s (zq_iload_n C dX8_begin_11 rfl)
    (zr_s (zq_put (k := 14) C dX8_begin_12 (show vwCl[8]? = some (RX8, TX8, 51) from rfl) zinX8 tyX8 tyX8_ok nmX8 (by decide) zw1186 rfl (ty := .int) (by decide +kernel) rfl)
    (zr_n (zr_n (zr_s (zq_aload_n C dX8_begin_15 rfl)
    zr_0))))))))))))))))
  (zrs_c (zr_s (zq_iconst (n := .ofNat 0) C dX8_begin_16 (by decide))
    (zr_s (zq_put (k := 15) C dX8_begin_17 (show vwCl[8]? = some (RX8, TX8, 51) from rfl) zinX8 tyX8 tyX8_ok nmX8 (by decide) zw1187 rfl (ty := .int) (by decide +kernel) rfl)
    (zr_n (zr_n (zr_s (zq_aload_n C dX8_begin_20 rfl)
    (zr_s (zq_iconst (n := .negSucc 0) C dX8_begin_21 (by decide))
    (zr_s (zq_put (k := 16) C dX8_begin_22 (show vwCl[8]? = some (RX8, TX8, 51) from rfl) zinX8 tyX8 tyX8_ok nmX8 (by decide) zw1188 rfl (ty := .int) (by decide +kernel) rfl)
    (zr_n (zr_n (zr_s (zk_ret0 C hbc hbs rfl dX8_begin_25)
    zr_0))))))))))
  zrs_0))
set_option maxRecDepth 100000 in
set_option maxHeartbeats 4000000 in
theorem okX8_beginText {l : Launch} {D : va_G} {tys : List (ClassId × FieldType)} {o : zO} {z : Nat} (E : zEnv tys) : zCodeOk l D vwCl tys o z (zXX o z) zTs zprog mX8_beginText := by
  intro p e R s m args below meth c0 Q ws0 hbc hbs C pc sem h
  replace hbc : R.cells = 0 := hbc
  replace hbs : R.slots = 0 := hbs
  replace C : zCx p R s m args meth c0 D vwCl tys z (zXX o z) zTs RX8 cX8_beginText 2 "beginText" := C
  refine zRows_get (P := fun pc sem => zOp p l e R s m args below meth c0 Q D vwCl tys o z (zXX o z) zTs zprog ws0 2 cX8_beginText none pc sem) (c := kX8_beginText) ?_ h
  unfold kX8_beginText
  exact (zrs_c (zr_s (zq_aload_n C dX8_beginText_0 rfl)
    (zr_s (zq_aload_n C dX8_beginText_1 rfl)
    (zr_s (zq_get (k := 7) C dX8_beginText_2 (show vwCl[8]? = some (RX8, TX8, 51) from rfl) zinX8 (by decide) zw1179)
    (zr_n (zr_n (zr_s (zq_aload_n C dX8_beginText_5 rfl)
    (zr_s (zq_get (k := 8) C dX8_beginText_6 (show vwCl[8]? = some (RX8, TX8, 51) from rfl) zinX8 (by decide) zw1180)
    (zr_n (zr_n (zr_s (zq_iload_n C dX8_beginText_9 rfl)
    (zr_s (zk_callV (n := 3) C zXX_ok zTs_good hbc hbs (show zget zprog 150 = some mX8_begin from rfl) rfl rfl (show vwCl[8]? = some (RX8, TX8, 51) from rfl) zw1352 zw1349 zw1351 zs97 zw16 (by decide +kernel) dX8_beginText_10)
    (zr_n (zr_n (zr_s (zq_aload_n C dX8_beginText_13 rfl)
    (zr_s (zq_iconst (n := .ofNat 0) C dX8_beginText_14 (by decide))
    (zr_s (zq_put (k := 8) C dX8_beginText_15 (show vwCl[8]? = some (RX8, TX8, 51) from rfl) zinX8 tyX8 tyX8_ok nmX8 (by decide) zw1180 rfl (ty := .int) (by decide +kernel) rfl)
    zr_0))))))))))))))))
  (zrs_c (zr_n (zr_n (zr_s (zk_ret0 C hbc hbs rfl dX8_beginText_18)
    zr_0)))
  zrs_0))
set_option maxRecDepth 100000 in
set_option maxHeartbeats 4000000 in
theorem okX8_changes {l : Launch} {D : va_G} {tys : List (ClassId × FieldType)} {o : zO} {z : Nat} (E : zEnv tys) : zCodeOk l D vwCl tys o z (zXX o z) zTs zprog mX8_changes := by
  intro p e R s m args below meth c0 Q ws0 hbc hbs C pc sem h
  replace hbc : R.cells = 0 := hbc
  replace hbs : R.slots = 0 := hbs
  replace C : zCx p R s m args meth c0 D vwCl tys z (zXX o z) zTs RX8 cX8_changes 8 "changes" := C
  refine zRows_get (P := fun pc sem => zOp p l e R s m args below meth c0 Q D vwCl tys o z (zXX o z) zTs zprog ws0 8 cX8_changes (some .int) pc sem) (c := kX8_changes) ?_ h
  unfold kX8_changes
  exact (zrs_c (zr_s (zq_aload_n C dX8_changes_0 rfl)
    (zr_s (zq_iconst (n := .ofNat 0) C dX8_changes_1 (by decide))
    (zr_s (zq_put (k := 11) C dX8_changes_2 (show vwCl[8]? = some (RX8, TX8, 51) from rfl) zinX8 tyX8 tyX8_ok nmX8 (by decide) zw1183 rfl (ty := .int) (by decide +kernel) rfl)
    (zr_n (zr_n (zr_s (zq_iconst (n := .ofNat 0) C dX8_changes_5 (by decide))
    (zr_s (zq_istore_n C dX8_changes_6 rfl (by decide))
    (zr_s (zq_iconst (n := .ofNat 0) C dX8_changes_7 (by decide))
    (zr_s (zq_istore_n C dX8_changes_8 rfl (by decide))
    (zr_s (zq_iconst (n := .ofNat 0) C dX8_changes_9 (by decide))
    (zr_s (zq_istore_n C dX8_changes_10 rfl (by decide))
    (zr_s (zq_iconst (n := .ofNat 1) C dX8_changes_11 (by decide))
    (zr_s (zq_istore C dX8_changes_12 (by decide))
    (zr_n (zr_s (zq_iload C dX8_changes_14)
    (zr_n zr_0))))))))))))))))
  (zrs_c (zr_s (zq_aload_n C dX8_changes_16 rfl)
    (zr_s (zq_get (k := 1) C dX8_changes_17 (show vwCl[8]? = some (RX8, TX8, 51) from rfl) zinX8 (by decide) zw1173)
    (zr_n (zr_n (zr_s (zq_icmp_ge C dX8_changes_20 (by decide))
    (zr_n (zr_n (zr_s (zq_aload_n C dX8_changes_23 rfl)
    (zr_s (zq_get (k := 0) C dX8_changes_24 (show vwCl[8]? = some (RX8, TX8, 51) from rfl) zinX8 (by decide) zw1172)
    (zr_n (zr_n (zr_s (zq_iload C dX8_changes_27)
    (zr_n (zr_s (zq_iconst (n := .ofNat 1) C dX8_changes_29 (by decide))
    (zr_s (zk_sub C dX8_changes_30)
    (zr_s (zk_iald C dX8_changes_31)
    zr_0))))))))))))))))
  (zrs_c (zr_s (zq_istore C dX8_changes_32 (by decide))
    (zr_n (zr_s (zq_aload_n C dX8_changes_34 rfl)
    (zr_s (zq_get (k := 0) C dX8_changes_35 (show vwCl[8]? = some (RX8, TX8, 51) from rfl) zinX8 (by decide) zw1172)
    (zr_n (zr_n (zr_s (zq_iload C dX8_changes_38)
    (zr_n (zr_s (zk_iald C dX8_changes_40)
    (zr_s (zq_istore C dX8_changes_41 (by decide))
    (zr_n (zr_s (zq_iload C dX8_changes_43)
    (zr_n (zr_s (zq_iconst (n := .negSucc 0) C dX8_changes_45 (by decide))
    (zr_s (zq_icmp_eq C dX8_changes_46 (by decide))
    (zr_n zr_0))))))))))))))))
  (zrs_c (zr_n (zr_n (zr_n (zr_n (zr_n (zr_n (zr_n (zr_n (zr_n (zr_n (zr_n (zr_n (zr_n (zr_n (zr_n (zr_n zr_0))))))))))))))))
  (zrs_c (zr_n (zr_n (zr_n (zr_n (zr_n (zr_n (zr_n (zr_n (zr_n (zr_n (zr_n (zr_n (zr_n (zr_n (zr_n (zr_n zr_0))))))))))))))))
  (zrs_c (zr_n (zr_n (zr_n (zr_n (zr_n (zr_n (zr_n (zr_n (zr_n (zr_n (zr_n (zr_n (zr_n (zr_n (zr_n (zr_n zr_0))))))))))))))))
  (zrs_c (zr_n (zr_n (zr_n (zr_n (zr_n (zr_n (zr_n (zr_n (zr_n (zr_n (zr_n (zr_n (zr_n (zr_n (zr_s (zk_inc (n := .ofNat 1) C dX8_changes_110 (by decide) (by decide))
    (zr_n zr_0))))))))))))))))
  (zrs_c (zr_n (zr_s (zk_goto C dX8_changes_113 (by decide))
    (zr_n (zr_n (zr_s (zq_aload_n C dX8_changes_116 rfl)
    (zr_s (zq_iconst (n := .ofNat 0) C dX8_changes_117 (by decide))
    (zr_s (zq_put (k := 10) C dX8_changes_118 (show vwCl[8]? = some (RX8, TX8, 51) from rfl) zinX8 tyX8 tyX8_ok nmX8 (by decide) zw1182 rfl (ty := .int) (by decide +kernel) rfl)
    (zr_n (zr_n (zr_s (zq_aload_n C dX8_changes_121 rfl)
    (zr_s (zq_iload_n C dX8_changes_122 rfl)
    (zr_s (zk_i2l C dX8_changes_123)
    (zr_s (zk_callV (n := 1) C zXX_ok zTs_good hbc hbs (show zget zprog 222 = some mX8_tell from rfl) rfl rfl (show vwCl[8]? = some (RX8, TX8, 51) from rfl) zw1500 zw1497 zw1499 zs121 zw16 (by decide +kernel) dX8_changes_124)
    (zr_n (zr_n (zr_s (zq_aload_n C dX8_changes_127 rfl)
    zr_0))))))))))))))))
  (zrs_c (zr_s (zq_iload_n C dX8_changes_128 rfl)
    (zr_s (zk_i2l C dX8_changes_129)
    (zr_s (zk_callV (n := 1) C zXX_ok zTs_good hbc hbs (show zget zprog 222 = some mX8_tell from rfl) rfl rfl (show vwCl[8]? = some (RX8, TX8, 51) from rfl) zw1500 zw1497 zw1499 zs121 zw16 (by decide +kernel) dX8_changes_130)
    (zr_n (zr_n (zr_s (zq_iload_n C dX8_changes_133 rfl)
    (zr_s (zk_ret1 (ty := .int) C hbc hbs rfl rfl (Or.inl ⟨dX8_changes_134, by decide⟩))
    zr_0)))))))
  zrs_0)))))))))
set_option maxRecDepth 100000 in
set_option maxHeartbeats 4000000 in
theorem okX8_common {l : Launch} {D : va_G} {tys : List (ClassId × FieldType)} {o : zO} {z : Nat} (E : zEnv tys) : zCodeOk l D vwCl tys o z (zXX o z) zTs zprog mX8_common := by
  intro p e R s m args below meth c0 Q ws0 hbc hbs C pc sem h
  replace hbc : R.cells = 0 := hbc
  replace hbs : R.slots = 0 := hbs
  replace C : zCx p R s m args meth c0 D vwCl tys z (zXX o z) zTs RX8 cX8_common 4 "common" := C
  refine zRows_get (P := fun pc sem => zOp p l e R s m args below meth c0 Q D vwCl tys o z (zXX o z) zTs zprog ws0 4 cX8_common (some .long) pc sem) (c := kX8_common) ?_ h
  unfold kX8_common
  exact (zrs_c (zr_s (zq_lload_n C dX8_common_0 rfl)
    (zr_s (zq_lconst (n := .ofNat 0) C dX8_common_1 (by decide) (by decide))
    (zr_s (zk_lcmp C dX8_common_2)
    (zr_s (zq_if_ne C dX8_common_3 (by decide))
    (zr_n (zr_n (zr_s (zq_lload_n C dX8_common_6 rfl)
    (zr_s (zk_goto C dX8_common_7 (by decide))
    (zr_n (zr_n (zr_s (zq_lload_n C dX8_common_10 rfl)
    (zr_s (zq_lload_n C dX8_common_11 rfl)
    (zr_s (zq_lload_n C dX8_common_12 rfl)
    (zr_s (zq_lrem C dX8_common_13)
    (zr_s (zk_callS C zXX_ok zTs_good hbc hbs (show zget zprog 153 = some mX8_common from rfl) rfl rfl zw1723 zw1721 zw1722 zw16 (by decide +kernel) dX8_common_14)
    (zr_n zr_0))))))))))))))))
  (zrs_c (zr_n (zr_s (zk_ret1 C hbc hbs rfl rfl (Or.inr ⟨dX8_common_17, rfl⟩))
    zr_0))
  zrs_0))
set_option maxRecDepth 100000 in
set_option maxHeartbeats 4000000 in
theorem okX8_count {l : Launch} {D : va_G} {tys : List (ClassId × FieldType)} {o : zO} {z : Nat} (E : zEnv tys) : zCodeOk l D vwCl tys o z (zXX o z) zTs zprog mX8_count := by
  intro p e R s m args below meth c0 Q ws0 hbc hbs C pc sem h
  replace hbc : R.cells = 0 := hbc
  replace hbs : R.slots = 0 := hbs
  replace C : zCx p R s m args meth c0 D vwCl tys z (zXX o z) zTs RX8 cX8_count 2 "count" := C
  refine zRows_get (P := fun pc sem => zOp p l e R s m args below meth c0 Q D vwCl tys o z (zXX o z) zTs zprog ws0 2 cX8_count (some .int) pc sem) (c := kX8_count) ?_ h
  unfold kX8_count
  exact (zrs_c (zr_s (zq_aload_n C dX8_count_0 rfl)
    (zr_s (zq_iconst (n := .ofNat 0) C dX8_count_1 (by decide))
    (zr_s (zq_put (k := 11) C dX8_count_2 (show vwCl[8]? = some (RX8, TX8, 51) from rfl) zinX8 tyX8 tyX8_ok nmX8 (by decide) zw1183 rfl (ty := .int) (by decide +kernel) rfl)
    (zr_n (zr_n (zr_s (zq_iload_n C dX8_count_5 rfl)
    (zr_s (zq_bipush (n := .ofNat 20) C dX8_count_6 (by decide) (by decide))
    (zr_n (zr_s (zq_bipush (n := .ofNat 27) C dX8_count_8 (by decide) (by decide))
    (zr_n (zr_s (zk_callS C zXX_ok zTs_good hbc hbs (show zget zprog 181 = some mX8_in from rfl) rfl rfl zw1340 zw1338 zw1339 zw16 (by decide +kernel) dX8_count_10)
    (zr_n (zr_n (zr_s (zq_if_eq C dX8_count_13 (by decide))
    (zr_n (zr_n zr_0))))))))))))))))
  (zrs_c (zr_s (zq_aload_n C dX8_count_16 rfl)
    (zr_s (zq_get (k := 0) C dX8_count_17 (show vwCl[8]? = some (RX8, TX8, 51) from rfl) zinX8 (by decide) zw1172)
    (zr_n (zr_n (zr_s (zq_iload_n C dX8_count_20 rfl)
    (zr_s (zq_bipush (n := .ofNat 20) C dX8_count_21 (by decide) (by decide))
    (zr_n (zr_s (zk_sub C dX8_count_23)
    (zr_s (zk_iald C dX8_count_24)
    (zr_s (zk_ret1 (ty := .int) C hbc hbs rfl rfl (Or.inl ⟨dX8_count_25, by decide⟩))
    (zr_s (zq_iload_n C dX8_count_26 rfl)
    (zr_s (zk_tab C dX8_count_27 (by decide) (by decide) (fun k t h => zswT (pc := 27) (offs := [(.ofNat 61), (.ofNat 66), (.ofNat 71), (.ofNat 76), (.ofNat 85), (.ofNat 93), (.ofNat 101), (.ofNat 109), (.ofNat 118), (.ofNat 123), (.ofNat 128), (.ofNat 133)]) (by decide) h))
    (zr_n (zr_n (zr_n (zr_n zr_0))))))))))))))))
  (zrs_c (zr_n (zr_n (zr_n (zr_n (zr_n (zr_n (zr_n (zr_n (zr_n (zr_n (zr_n (zr_n (zr_n (zr_n (zr_n (zr_n zr_0))))))))))))))))
  (zrs_c (zr_n (zr_n (zr_n (zr_n (zr_n (zr_n (zr_n (zr_n (zr_n (zr_n (zr_n (zr_n (zr_n (zr_n (zr_n (zr_n zr_0))))))))))))))))
  (zrs_c (zr_n (zr_n (zr_n (zr_n (zr_n (zr_n (zr_n (zr_n (zr_n (zr_n (zr_n (zr_n (zr_n (zr_n (zr_n (zr_n zr_0))))))))))))))))
  (zrs_c (zr_n (zr_n (zr_n (zr_n (zr_n (zr_n (zr_n (zr_n (zr_s (zq_aload_n C dX8_count_88 rfl)
    (zr_s (zq_get (k := 1) C dX8_count_89 (show vwCl[8]? = some (RX8, TX8, 51) from rfl) zinX8 (by decide) zw1173)
    (zr_n (zr_n (zr_s (zk_ret1 (ty := .int) C hbc hbs rfl rfl (Or.inl ⟨dX8_count_92, by decide⟩))
    (zr_s (zq_aload_n C dX8_count_93 rfl)
    (zr_s (zq_get (k := 2) C dX8_count_94 (show vwCl[8]? = some (RX8, TX8, 51) from rfl) zinX8 (by decide) zw1174)
    (zr_n zr_0))))))))))))))))
  (zrs_c (zr_n (zr_s (zk_ret1 (ty := .int) C hbc hbs rfl rfl (Or.inl ⟨dX8_count_97, by decide⟩))
    (zr_s (zq_aload_n C dX8_count_98 rfl)
    (zr_s (zq_get (k := 3) C dX8_count_99 (show vwCl[8]? = some (RX8, TX8, 51) from rfl) zinX8 (by decide) zw1175)
    (zr_n (zr_n (zr_s (zk_ret1 (ty := .int) C hbc hbs rfl rfl (Or.inl ⟨dX8_count_102, by decide⟩))
    (zr_s (zq_aload_n C dX8_count_103 rfl)
    (zr_s (zq_aload_n C dX8_count_104 rfl)
    (zr_s (zq_get (k := 0) C dX8_count_105 (show vwCl[8]? = some (RX8, TX8, 51) from rfl) zinX8 (by decide) zw1172)
    (zr_n (zr_n (zr_s (zk_callV (n := 1) C zXX_ok zTs_good hbc hbs (show zget zprog 180 = some mX8_illBits from rfl) rfl rfl (show vwCl[8]? = some (RX8, TX8, 51) from rfl) zw1480 zw1477 zw1479 zs118 zw16 (by decide +kernel) dX8_count_108)
    (zr_n (zr_n (zr_s (zk_ret1 (ty := .int) C hbc hbs rfl rfl (Or.inl ⟨dX8_count_111, by decide⟩))
    zr_0))))))))))))))))
  (zrs_c (zr_s (zq_aload_n C dX8_count_112 rfl)
    (zr_s (zq_get (k := 0) C dX8_count_113 (show vwCl[8]? = some (RX8, TX8, 51) from rfl) zinX8 (by decide) zw1172)
    (zr_n (zr_n (zr_s (zq_bipush (n := .ofNat 24) C dX8_count_116 (by decide) (by decide))
    (zr_n (zr_s (zk_iald C dX8_count_118)
    (zr_s (zk_ret1 (ty := .int) C hbc hbs rfl rfl (Or.inl ⟨dX8_count_119, by decide⟩))
    (zr_s (zq_aload_n C dX8_count_120 rfl)
    (zr_s (zq_get (k := 0) C dX8_count_121 (show vwCl[8]? = some (RX8, TX8, 51) from rfl) zinX8 (by decide) zw1172)
    (zr_n (zr_n (zr_s (zq_bipush (n := .ofNat 25) C dX8_count_124 (by decide) (by decide))
    (zr_n (zr_s (zk_iald C dX8_count_126)
    (zr_s (zk_ret1 (ty := .int) C hbc hbs rfl rfl (Or.inl ⟨dX8_count_127, by decide⟩))
    zr_0))))))))))))))))
  (zrs_c (zr_s (zq_aload_n C dX8_count_128 rfl)
    (zr_s (zq_get (k := 0) C dX8_count_129 (show vwCl[8]? = some (RX8, TX8, 51) from rfl) zinX8 (by decide) zw1172)
    (zr_n (zr_n (zr_s (zq_bipush (n := .ofNat 26) C dX8_count_132 (by decide) (by decide))
    (zr_n (zr_s (zk_iald C dX8_count_134)
    (zr_s (zk_ret1 (ty := .int) C hbc hbs rfl rfl (Or.inl ⟨dX8_count_135, by decide⟩))
    (zr_s (zq_aload_n C dX8_count_136 rfl)
    (zr_s (zq_aload_n C dX8_count_137 rfl)
    (zr_s (zq_get (k := 0) C dX8_count_138 (show vwCl[8]? = some (RX8, TX8, 51) from rfl) zinX8 (by decide) zw1172)
    (zr_n (zr_n (zr_s (zk_callV (n := 1) C zXX_ok zTs_good hbc hbs (show zget zprog 227 = some mX8_tired from rfl) rfl rfl (show vwCl[8]? = some (RX8, TX8, 51) from rfl) zw1504 zw1501 zw1503 zs122 zw16 (by decide +kernel) dX8_count_141)
    (zr_n (zr_n zr_0))))))))))))))))
  (zrs_c (zr_s (zk_ret1 (ty := .int) C hbc hbs rfl rfl (Or.inl ⟨dX8_count_144, by decide⟩))
    (zr_s (zq_aload_n C dX8_count_145 rfl)
    (zr_s (zq_get (k := 45) C dX8_count_146 (show vwCl[8]? = some (RX8, TX8, 51) from rfl) zinX8 (by decide) zw1217)
    (zr_n (zr_n (zr_s (zk_ret1 (ty := .int) C hbc hbs rfl rfl (Or.inl ⟨dX8_count_149, by decide⟩))
    (zr_s (zq_aload_n C dX8_count_150 rfl)
    (zr_s (zq_get (k := 24) C dX8_count_151 (show vwCl[8]? = some (RX8, TX8, 51) from rfl) zinX8 (by decide) zw1196)
    (zr_n (zr_n (zr_s (zk_ret1 (ty := .int) C hbc hbs rfl rfl (Or.inl ⟨dX8_count_154, by decide⟩))
    (zr_s (zq_aload_n C dX8_count_155 rfl)
    (zr_s (zq_get (k := 10) C dX8_count_156 (show vwCl[8]? = some (RX8, TX8, 51) from rfl) zinX8 (by decide) zw1182)
    (zr_n (zr_n (zr_s (zk_ret1 (ty := .int) C hbc hbs rfl rfl (Or.inl ⟨dX8_count_159, by decide⟩))
    zr_0))))))))))))))))
  (zrs_c (zr_s (zq_aload_n C dX8_count_160 rfl)
    (zr_s (zq_get (k := 8) C dX8_count_161 (show vwCl[8]? = some (RX8, TX8, 51) from rfl) zinX8 (by decide) zw1180)
    (zr_n (zr_n (zr_s (zk_ret1 (ty := .int) C hbc hbs rfl rfl (Or.inl ⟨dX8_count_164, by decide⟩))
    (zr_s (zq_bipush (n := .negSucc 99) C dX8_count_165 (by decide) (by decide))
    (zr_n (zr_s (zk_ret1 (ty := .int) C hbc hbs rfl rfl (Or.inl ⟨dX8_count_167, by decide⟩))
    zr_0))))))))
  zrs_0)))))))))))
set_option maxRecDepth 100000 in
set_option maxHeartbeats 4000000 in
theorem okX8_countWays {l : Launch} {D : va_G} {tys : List (ClassId × FieldType)} {o : zO} {z : Nat} (E : zEnv tys) : zCodeOk l D vwCl tys o z (zXX o z) zTs zprog mX8_countWays := by
  intro p e R s m args below meth c0 Q ws0 hbc hbs C pc sem h
  replace hbc : R.cells = 0 := hbc
  replace hbs : R.slots = 0 := hbs
  replace C : zCx p R s m args meth c0 D vwCl tys z (zXX o z) zTs RX8 cX8_countWays 5 "countWays" := C
  refine zRows_get (P := fun pc sem => zOp p l e R s m args below meth c0 Q D vwCl tys o z (zXX o z) zTs zprog ws0 5 cX8_countWays (some .int) pc sem) (c := kX8_countWays) ?_ h
  unfold kX8_countWays
  exact (zrs_c (zr_s (zq_iconst (n := .ofNat 0) C dX8_countWays_0 (by decide))
    (zr_s (zq_istore_n C dX8_countWays_1 rfl (by decide))
    (zr_s (zq_iload_n C dX8_countWays_2 rfl)
    (zr_s (zq_aload_n C dX8_countWays_3 rfl)
    (zr_s (zk_callV (n := 0) C zXX_ok zTs_good hbc hbs (show zget zprog 199 = some mX8_night from rfl) rfl rfl (show vwCl[8]? = some (RX8, TX8, 51) from rfl) zw1568 zw1565 zw1567 zs129 zw16 (by decide +kernel) dX8_countWays_4)
    (zr_n (zr_n (zr_s (zq_icmp_gt C dX8_countWays_7 (by decide))
    (zr_n (zr_n (zr_s (zq_aload_n C dX8_countWays_10 rfl)
    (zr_s (zq_get (k := 38) C dX8_countWays_11 (show vwCl[8]? = some (RX8, TX8, 51) from rfl) zinX8 (by decide) zw1210)
    (zr_n (zr_n (zr_s (zq_aload_n C dX8_countWays_14 rfl)
    (zr_s (zq_get (k := 3) C dX8_countWays_15 (show vwCl[8]? = some (RX8, TX8, 51) from rfl) zinX8 (by decide) zw1175)
    zr_0))))))))))))))))
  (zrs_c (zr_n (zr_n (zr_s (zq_bipush (n := .ofNat 8) C dX8_countWays_18 (by decide) (by decide))
    (zr_n (zr_s (zq_ishl C dX8_countWays_20)
    (zr_s (zq_iload_n C dX8_countWays_21 rfl)
    (zr_s (zq_ior C dX8_countWays_22)
    (zr_s (zq_iload_n C dX8_countWays_23 rfl)
    (zr_s (zq_if_ne C dX8_countWays_24 (by decide))
    (zr_n (zr_n (zr_s (zq_iconst (n := .ofNat 1) C dX8_countWays_27 (by decide))
    (zr_s (zk_goto C dX8_countWays_28 (by decide))
    (zr_n (zr_n (zr_s (zq_iconst (n := .ofNat 0) C dX8_countWays_31 (by decide))
    zr_0))))))))))))))))
  (zrs_c (zr_s (zk_iast C dX8_countWays_32)
    (zr_s (zk_inc (n := .ofNat 1) C dX8_countWays_33 (by decide) (by decide))
    (zr_n (zr_n (zr_s (zk_goto C dX8_countWays_36 (by decide))
    (zr_n (zr_n (zr_s (zq_aload_n C dX8_countWays_39 rfl)
    (zr_s (zq_get (k := 3) C dX8_countWays_40 (show vwCl[8]? = some (RX8, TX8, 51) from rfl) zinX8 (by decide) zw1175)
    (zr_n (zr_n (zr_s (zq_iconst (n := .ofNat 1) C dX8_countWays_43 (by decide))
    (zr_s (zk_sub C dX8_countWays_44)
    (zr_s (zq_istore_n C dX8_countWays_45 rfl (by decide))
    (zr_s (zq_iload_n C dX8_countWays_46 rfl)
    (zr_s (zq_if_lt C dX8_countWays_47 (by decide))
    zr_0))))))))))))))))
  (zrs_c (zr_n (zr_n (zr_n (zr_n (zr_n (zr_n (zr_n (zr_n (zr_n (zr_n (zr_n (zr_n (zr_n (zr_n (zr_n (zr_n zr_0))))))))))))))))
  (zrs_c (zr_n (zr_n (zr_n (zr_n (zr_n (zr_n (zr_n (zr_n (zr_n (zr_n (zr_n (zr_n (zr_n (zr_n (zr_n (zr_n zr_0))))))))))))))))
  (zrs_c (zr_n (zr_n (zr_n (zr_n (zr_n (zr_n (zr_n (zr_n (zr_n (zr_n (zr_n (zr_n (zr_n (zr_n (zr_n (zr_n zr_0))))))))))))))))
  (zrs_c (zr_n (zr_n (zr_n (zr_n (zr_n (zr_n (zr_n (zr_n (zr_n (zr_n (zr_n (zr_n (zr_n (zr_n (zr_n (zr_n zr_0))))))))))))))))
  (zrs_c (zr_n (zr_n (zr_n (zr_n (zr_n (zr_n (zr_n (zr_n (zr_n (zr_n (zr_n (zr_n (zr_n (zr_n (zr_n (zr_n zr_0))))))))))))))))
  (zrs_c (zr_n (zr_n (zr_n (zr_n (zr_n (zr_n (zr_n (zr_n (zr_n (zr_n (zr_n (zr_n (zr_n (zr_n (zr_n (zr_n zr_0))))))))))))))))
  (zrs_c (zr_n (zr_n (zr_n (zr_n (zr_n (zr_n (zr_n (zr_n (zr_n (zr_n (zr_n (zr_n (zr_n (zr_n (zr_n (zr_n zr_0))))))))))))))))
  (zrs_c (zr_n (zr_n (zr_n (zr_n (zr_n (zr_n (zr_n (zr_n (zr_n (zr_n (zr_n (zr_n (zr_n (zr_n (zr_n (zr_n zr_0))))))))))))))))
  (zrs_c (zr_n (zr_n (zr_n (zr_n (zr_n (zr_n (zr_n (zr_n (zr_n (zr_n (zr_n (zr_n (zr_n (zr_n (zr_n (zr_n zr_0))))))))))))))))
  (zrs_c (zr_n (zr_n (zr_n (zr_n (zr_n (zr_s (zq_aload_n C dX8_countWays_197 rfl)
    (zr_s (zq_get (k := 38) C dX8_countWays_198 (show vwCl[8]? = some (RX8, TX8, 51) from rfl) zinX8 (by decide) zw1210)
    (zr_n (zr_n (zr_s (zq_aload_n C dX8_countWays_201 rfl)
    (zr_s (zk_callV (n := 0) C zXX_ok zTs_good hbc hbs (show zget zprog 199 = some mX8_night from rfl) rfl rfl (show vwCl[8]? = some (RX8, TX8, 51) from rfl) zw1568 zw1565 zw1567 zs129 zw16 (by decide +kernel) dX8_countWays_202)
    (zr_n (zr_n (zr_s (zk_iald C dX8_countWays_205)
    (zr_s (zk_ret1 (ty := .int) C hbc hbs rfl rfl (Or.inl ⟨dX8_countWays_206, by decide⟩))
    zr_0)))))))))))))))
  zrs_0)))))))))))))
set_option maxRecDepth 100000 in
set_option maxHeartbeats 4000000 in
theorem okX8_draw {l : Launch} {D : va_G} {tys : List (ClassId × FieldType)} {o : zO} {z : Nat} (E : zEnv tys) : zCodeOk l D vwCl tys o z (zXX o z) zTs zprog mX8_draw := by
  intro p e R s m args below meth c0 Q ws0 hbc hbs C pc sem h
  replace hbc : R.cells = 0 := hbc
  replace hbs : R.slots = 0 := hbs
  replace C : zCx p R s m args meth c0 D vwCl tys z (zXX o z) zTs RX8 cX8_draw 2 "draw" := C
  refine zRows_get (P := fun pc sem => zOp p l e R s m args below meth c0 Q D vwCl tys o z (zXX o z) zTs zprog ws0 2 cX8_draw (some .int) pc sem) (c := kX8_draw) ?_ h
  unfold kX8_draw
  exact (zrs_c (zr_s (zq_aload_n C dX8_draw_0 rfl)
    (zr_s (zq_aload_n C dX8_draw_1 rfl)
    (zr_s (zq_get (k := 46) C dX8_draw_2 (show vwCl[8]? = some (RX8, TX8, 51) from rfl) zinX8 (by decide) zw1218)
    (zr_n (zr_n (zr_s (zq_ldc_w (n := .ofNat 1103515245) C dX8_draw_5 zw1777 (by decide +kernel))
    (zr_n (zr_n (zr_s (zq_imul C dX8_draw_8)
    (zr_s (zq_sipush (n := .ofNat 12345) C dX8_draw_9 (by decide) (by decide))
    (zr_n (zr_n (zr_s (zk_add C dX8_draw_12)
    (zr_s (zq_put (k := 46) C dX8_draw_13 (show vwCl[8]? = some (RX8, TX8, 51) from rfl) zinX8 tyX8 tyX8_ok nmX8 (by decide) zw1218 rfl (ty := .int) (by decide +kernel) rfl)
    (zr_n (zr_n zr_0))))))))))))))))
  (zrs_c (zr_s (zq_aload_n C dX8_draw_16 rfl)
    (zr_s (zq_get (k := 46) C dX8_draw_17 (show vwCl[8]? = some (RX8, TX8, 51) from rfl) zinX8 (by decide) zw1218)
    (zr_n (zr_n (zr_s (zq_bipush (n := .ofNat 16) C dX8_draw_20 (by decide) (by decide))
    (zr_n (zr_s (zq_iushr C dX8_draw_22)
    (zr_s (zq_iload_n C dX8_draw_23 rfl)
    (zr_s (zq_irem C dX8_draw_24)
    (zr_s (zk_ret1 (ty := .int) C hbc hbs rfl rfl (Or.inl ⟨dX8_draw_25, by decide⟩))
    zr_0))))))))))
  zrs_0))
set_option maxRecDepth 100000 in
set_option maxHeartbeats 4000000 in
theorem okX8_easiest {l : Launch} {D : va_G} {tys : List (ClassId × FieldType)} {o : zO} {z : Nat} (E : zEnv tys) : zCodeOk l D vwCl tys o z (zXX o z) zTs zprog mX8_easiest := by
  intro p e R s m args below meth c0 Q ws0 hbc hbs C pc sem h
  replace hbc : R.cells = 0 := hbc
  replace hbs : R.slots = 0 := hbs
  replace C : zCx p R s m args meth c0 D vwCl tys z (zXX o z) zTs RX8 cX8_easiest 2 "easiest" := C
  refine zRows_get (P := fun pc sem => zOp p l e R s m args below meth c0 Q D vwCl tys o z (zXX o z) zTs zprog ws0 2 cX8_easiest (some .int) pc sem) (c := kX8_easiest) ?_ h
  unfold kX8_easiest
  exact (zrs_c (zr_s (zq_aload_n C dX8_easiest_0 rfl)
    (zr_s (zq_iconst (n := .ofNat 0) C dX8_easiest_1 (by decide))
    (zr_s (zq_put (k := 11) C dX8_easiest_2 (show vwCl[8]? = some (RX8, TX8, 51) from rfl) zinX8 tyX8 tyX8_ok nmX8 (by decide) zw1183 rfl (ty := .int) (by decide +kernel) rfl)
    (zr_n (zr_n (zr_s (zq_aload_n C dX8_easiest_5 rfl)
    (zr_s (zq_iconst (n := .negSucc 0) C dX8_easiest_6 (by decide))
    (zr_s (zk_callV (n := 1) C zXX_ok zTs_good hbc hbs (show zget zprog 158 = some mX8_easiestBut from rfl) rfl rfl (show vwCl[8]? = some (RX8, TX8, 51) from rfl) zw1560 zw1557 zw1559 zs127 zw16 (by decide +kernel) dX8_easiest_7)
    (zr_n (zr_n (zr_s (zq_istore_n C dX8_easiest_10 rfl (by decide))
    (zr_s (zq_iload_n C dX8_easiest_11 rfl)
    (zr_s (zq_ldc (n := .ofNat 1000000000) C dX8_easiest_12 zw1171 (by decide +kernel))
    (zr_n (zr_s (zq_icmp_ne C dX8_easiest_14 (by decide))
    (zr_n zr_0))))))))))))))))
  (zrs_c (zr_n (zr_s (zq_bipush (n := .negSucc 1) C dX8_easiest_17 (by decide) (by decide))
    (zr_n (zr_s (zk_ret1 (ty := .int) C hbc hbs rfl rfl (Or.inl ⟨dX8_easiest_19, by decide⟩))
    (zr_n (zr_n (zr_n (zr_n (zr_n (zr_n (zr_n (zr_n (zr_n (zr_n (zr_n (zr_n zr_0))))))))))))))))
  zrs_0))
set_option maxRecDepth 100000 in
set_option maxHeartbeats 4000000 in
theorem okX8_easiestBut {l : Launch} {D : va_G} {tys : List (ClassId × FieldType)} {o : zO} {z : Nat} (E : zEnv tys) : zCodeOk l D vwCl tys o z (zXX o z) zTs zprog mX8_easiestBut := by
  intro p e R s m args below meth c0 Q ws0 hbc hbs C pc sem h
  replace hbc : R.cells = 0 := hbc
  replace hbs : R.slots = 0 := hbs
  replace C : zCx p R s m args meth c0 D vwCl tys z (zXX o z) zTs RX8 cX8_easiestBut 2 "easiestBut" := C
  refine zRows_get (P := fun pc sem => zOp p l e R s m args below meth c0 Q D vwCl tys o z (zXX o z) zTs zprog ws0 2 cX8_easiestBut (some .int) pc sem) (c := kX8_easiestBut) ?_ h
  unfold kX8_easiestBut
  exact (zrs_c (zr_s (zq_aload_n C dX8_easiestBut_0 rfl)
    (zr_s (zq_iload_n C dX8_easiestBut_1 rfl)
    (zr_s (zk_callV (n := 1) C zXX_ok zTs_good hbc hbs (show zget zprog 194 = some mX8_layMay from rfl) rfl rfl (show vwCl[8]? = some (RX8, TX8, 51) from rfl) zw1564 zw1561 zw1563 zs128 zw16 (by decide +kernel) dX8_easiestBut_2)
    (zr_n (zr_n (zr_s (zq_aload_n C dX8_easiestBut_5 rfl)
    (zr_s (zq_iconst (n := .ofNat 0) C dX8_easiestBut_6 (by decide))
    (zr_s (zk_callV (n := 1) C zXX_ok zTs_good hbc hbs (show zget zprog 218 = some mX8_solve from rfl) rfl rfl (show vwCl[8]? = some (RX8, TX8, 51) from rfl) zw1572 zw1569 zw1571 zs130 zw16 (by decide +kernel) dX8_easiestBut_7)
    (zr_n (zr_n (zr_s (zk_ret1 (ty := .int) C hbc hbs rfl rfl (Or.inl ⟨dX8_easiestBut_10, by decide⟩))
    zr_0)))))))))))
  zrs_0)
set_option maxRecDepth 100000 in
set_option maxHeartbeats 4000000 in
theorem okX8_end {l : Launch} {D : va_G} {tys : List (ClassId × FieldType)} {o : zO} {z : Nat} (E : zEnv tys) : zCodeOk l D vwCl tys o z (zXX o z) zTs zprog mX8_end := by
  intro p e R s m args below meth c0 Q ws0 hbc hbs C pc sem h
  replace hbc : R.cells = 0 := hbc
  replace hbs : R.slots = 0 := hbs
  replace C : zCx p R s m args meth c0 D vwCl tys z (zXX o z) zTs RX8 cX8_end 2 "end" := C
  refine zRows_get (P := fun pc sem => zOp p l e R s m args below meth c0 Q D vwCl tys o z (zXX o z) zTs zprog ws0 2 cX8_end (some .boolean) pc sem) (c := kX8_end) ?_ h
  unfold kX8_end
  exact (zrs_c (zr_s (zq_aload_n C dX8_end_0 rfl)
    (zr_s (zq_iconst (n := .ofNat 0) C dX8_end_1 (by decide))
    (zr_s (zq_put (k := 11) C dX8_end_2 (show vwCl[8]? = some (RX8, TX8, 51) from rfl) zinX8 tyX8 tyX8_ok nmX8 (by decide) zw1183 rfl (ty := .int) (by decide +kernel) rfl)
    (zr_n (zr_n (zr_s (zq_iload_n C dX8_end_5 rfl)
    (zr_s (zq_iconst (n := .ofNat 0) C dX8_end_6 (by decide))
    (zr_s (zq_aload_n C dX8_end_7 rfl)
    (zr_s (zq_get (k := 8) C dX8_end_8 (show vwCl[8]? = some (RX8, TX8, 51) from rfl) zinX8 (by decide) zw1180)
    (zr_n (zr_n (zr_s (zk_callS C zXX_ok zTs_good hbc hbs (show zget zprog 181 = some mX8_in from rfl) rfl rfl zw1340 zw1338 zw1339 zw16 (by decide +kernel) dX8_end_11)
    (zr_n (zr_n (zr_s (zq_if_ne C dX8_end_14 (by decide))
    (zr_n zr_0))))))))))))))))
  (zrs_c (zr_n (zr_s (zq_iconst (n := .ofNat 0) C dX8_end_17 (by decide))
    (zr_s (zk_ret1 (ty := .boolean) C hbc hbs rfl rfl (Or.inl ⟨dX8_end_18, by decide⟩))
    (zr_s (zq_aload_n C dX8_end_19 rfl)
    (zr_s (zq_iload_n C dX8_end_20 rfl)
    (zr_s (zq_put (k := 8) C dX8_end_21 (show vwCl[8]? = some (RX8, TX8, 51) from rfl) zinX8 tyX8 tyX8_ok nmX8 (by decide) zw1180 rfl (ty := .int) (by decide +kernel) rfl)
    (zr_n (zr_n (zr_s (zq_iconst (n := .ofNat 1) C dX8_end_24 (by decide))
    (zr_s (zk_ret1 (ty := .boolean) C hbc hbs rfl rfl (Or.inl ⟨dX8_end_25, by decide⟩))
    zr_0))))))))))
  zrs_0))
set_option maxRecDepth 100000 in
set_option maxHeartbeats 4000000 in
theorem okX8_fairest {l : Launch} {D : va_G} {tys : List (ClassId × FieldType)} {o : zO} {z : Nat} (E : zEnv tys) : zCodeOk l D vwCl tys o z (zXX o z) zTs zprog mX8_fairest := by
  intro p e R s m args below meth c0 Q ws0 hbc hbs C pc sem h
  replace hbc : R.cells = 0 := hbc
  replace hbs : R.slots = 0 := hbs
  replace C : zCx p R s m args meth c0 D vwCl tys z (zXX o z) zTs RX8 cX8_fairest 4 "fairest" := C
  refine zRows_get (P := fun pc sem => zOp p l e R s m args below meth c0 Q D vwCl tys o z (zXX o z) zTs zprog ws0 4 cX8_fairest (some .int) pc sem) (c := kX8_fairest) ?_ h
  unfold kX8_fairest
  exact (zrs_c (zr_s (zq_aload_n C dX8_fairest_0 rfl)
    (zr_s (zq_iconst (n := .ofNat 0) C dX8_fairest_1 (by decide))
    (zr_s (zq_put (k := 11) C dX8_fairest_2 (show vwCl[8]? = some (RX8, TX8, 51) from rfl) zinX8 tyX8 tyX8_ok nmX8 (by decide) zw1183 rfl (ty := .int) (by decide +kernel) rfl)
    (zr_n (zr_n (zr_s (zq_aload_n C dX8_fairest_5 rfl)
    (zr_s (zq_iconst (n := .negSucc 0) C dX8_fairest_6 (by decide))
    (zr_s (zk_callV (n := 1) C zXX_ok zTs_good hbc hbs (show zget zprog 194 = some mX8_layMay from rfl) rfl rfl (show vwCl[8]? = some (RX8, TX8, 51) from rfl) zw1564 zw1561 zw1563 zs128 zw16 (by decide +kernel) dX8_fairest_7)
    (zr_n (zr_n (zr_s (zq_iconst (n := .negSucc 0) C dX8_fairest_10 (by decide))
    (zr_s (zq_istore_n C dX8_fairest_11 rfl (by decide))
    (zr_s (zq_sipush (n := .ofNat 3997) C dX8_fairest_12 (by decide) (by decide))
    (zr_n (zr_n (zr_s (zq_istore_n C dX8_fairest_15 rfl (by decide))
    zr_0))))))))))))))))
  (zrs_c (zr_s (zq_iload_n C dX8_fairest_16 rfl)
    (zr_s (zq_iload_n C dX8_fairest_17 rfl)
    (zr_s (zk_sub C dX8_fairest_18)
    (zr_s (zq_iconst (n := .ofNat 1) C dX8_fairest_19 (by decide))
    (zr_s (zq_icmp_le C dX8_fairest_20 (by decide))
    (zr_n (zr_n (zr_s (zq_aload_n C dX8_fairest_23 rfl)
    (zr_s (zq_iload_n C dX8_fairest_24 rfl)
    (zr_s (zq_iload_n C dX8_fairest_25 rfl)
    (zr_s (zk_add C dX8_fairest_26)
    (zr_s (zq_iconst (n := .ofNat 2) C dX8_fairest_27 (by decide))
    (zr_s (zq_idiv C dX8_fairest_28)
    (zr_s (zq_put (k := 39) C dX8_fairest_29 (show vwCl[8]? = some (RX8, TX8, 51) from rfl) zinX8 tyX8 tyX8_ok nmX8 (by decide) zw1211 rfl (ty := .int) (by decide +kernel) rfl)
    (zr_n (zr_n zr_0))))))))))))))))
  (zrs_c (zr_s (zq_aload_n C dX8_fairest_32 rfl)
    (zr_s (zq_iconst (n := .ofNat 0) C dX8_fairest_33 (by decide))
    (zr_s (zk_callV (n := 1) C zXX_ok zTs_good hbc hbs (show zget zprog 218 = some mX8_solve from rfl) rfl rfl (show vwCl[8]? = some (RX8, TX8, 51) from rfl) zw1572 zw1569 zw1571 zs130 zw16 (by decide +kernel) dX8_fairest_34)
    (zr_n (zr_n (zr_s (zq_ldc (n := .ofNat 1000000000) C dX8_fairest_37 zw1171 (by decide +kernel))
    (zr_n (zr_s (zq_icmp_ge C dX8_fairest_39 (by decide))
    (zr_n (zr_n (zr_n (zr_n (zr_n (zr_n (zr_n (zr_n zr_0))))))))))))))))
  (zrs_c (zr_n (zr_n (zr_s (zq_aload_n C dX8_fairest_50 rfl)
    (zr_s (zq_get (k := 39) C dX8_fairest_51 (show vwCl[8]? = some (RX8, TX8, 51) from rfl) zinX8 (by decide) zw1211)
    (zr_n (zr_n (zr_s (zq_istore_n C dX8_fairest_54 rfl (by decide))
    (zr_s (zk_goto C dX8_fairest_55 (by decide))
    (zr_n (zr_n (zr_s (zq_aload_n C dX8_fairest_58 rfl)
    (zr_s (zq_iload_n C dX8_fairest_59 rfl)
    (zr_s (zq_put (k := 39) C dX8_fairest_60 (show vwCl[8]? = some (RX8, TX8, 51) from rfl) zinX8 tyX8 tyX8_ok nmX8 (by decide) zw1211 rfl (ty := .int) (by decide +kernel) rfl)
    (zr_n (zr_n (zr_s (zq_aload_n C dX8_fairest_63 rfl)
    zr_0))))))))))))))))
  (zrs_c (zr_s (zq_iconst (n := .ofNat 0) C dX8_fairest_64 (by decide))
    (zr_s (zk_callV (n := 1) C zXX_ok zTs_good hbc hbs (show zget zprog 218 = some mX8_solve from rfl) rfl rfl (show vwCl[8]? = some (RX8, TX8, 51) from rfl) zw1572 zw1569 zw1571 zs130 zw16 (by decide +kernel) dX8_fairest_65)
    (zr_n (zr_n (zr_s (zq_istore_n C dX8_fairest_68 rfl (by decide))
    (zr_s (zq_aload_n C dX8_fairest_69 rfl)
    (zr_s (zq_ldc (n := .ofNat 1000000000) C dX8_fairest_70 zw1171 (by decide +kernel))
    (zr_n (zr_s (zq_put (k := 39) C dX8_fairest_72 (show vwCl[8]? = some (RX8, TX8, 51) from rfl) zinX8 tyX8 tyX8_ok nmX8 (by decide) zw1211 rfl (ty := .int) (by decide +kernel) rfl)
    (zr_n (zr_n (zr_s (zq_iload_n C dX8_fairest_75 rfl)
    (zr_s (zq_ldc (n := .ofNat 1000000000) C dX8_fairest_76 zw1171 (by decide +kernel))
    (zr_n (zr_s (zq_icmp_ne C dX8_fairest_78 (by decide))
    (zr_n zr_0))))))))))))))))
  (zrs_c (zr_n (zr_s (zq_bipush (n := .negSucc 1) C dX8_fairest_81 (by decide) (by decide))
    (zr_n (zr_s (zk_ret1 (ty := .int) C hbc hbs rfl rfl (Or.inl ⟨dX8_fairest_83, by decide⟩))
    (zr_n (zr_n (zr_n (zr_n (zr_n (zr_n (zr_n (zr_n (zr_n (zr_n (zr_n (zr_n zr_0))))))))))))))))
  (zrs_c (zr_n zr_0)
  zrs_0)))))))
set_option maxRecDepth 100000 in
set_option maxHeartbeats 4000000 in
theorem okX8_fault {l : Launch} {D : va_G} {tys : List (ClassId × FieldType)} {o : zO} {z : Nat} (E : zEnv tys) : zCodeOk l D vwCl tys o z (zXX o z) zTs zprog mX8_fault := by
  intro p e R s m args below meth c0 Q ws0 hbc hbs C pc sem h
  replace hbc : R.cells = 0 := hbc
  replace hbs : R.slots = 0 := hbs
  replace C : zCx p R s m args meth c0 D vwCl tys z (zXX o z) zTs RX8 cX8_fault 2 "fault" := C
  refine zRows_get (P := fun pc sem => zOp p l e R s m args below meth c0 Q D vwCl tys o z (zXX o z) zTs zprog ws0 2 cX8_fault none pc sem) (c := kX8_fault) ?_ h
  unfold kX8_fault
  exact (zrs_c (zr_s (zq_aload_n C dX8_fault_0 rfl)
    (zr_s (zk_callV (n := 0) C zXX_ok zTs_good hbc hbs (show zget zprog 163 = some mX8_fine from rfl) rfl rfl (show vwCl[8]? = some (RX8, TX8, 51) from rfl) zw1356 zw1353 zw1355 zs98 zw16 (by decide +kernel) dX8_fault_1)
    (zr_n (zr_n (zr_s (zq_if_eq C dX8_fault_4 (by decide))
    (zr_n (zr_n (zr_s (zq_aload_n C dX8_fault_7 rfl)
    (zr_s (zq_iload_n C dX8_fault_8 rfl)
    (zr_s (zq_put (k := 16) C dX8_fault_9 (show vwCl[8]? = some (RX8, TX8, 51) from rfl) zinX8 tyX8 tyX8_ok nmX8 (by decide) zw1188 rfl (ty := .int) (by decide +kernel) rfl)
    (zr_n (zr_n (zr_s (zk_ret0 C hbc hbs rfl dX8_fault_12)
    zr_0)))))))))))))
  zrs_0)
set_option maxRecDepth 100000 in
set_option maxHeartbeats 4000000 in
theorem okX8_fewest {l : Launch} {D : va_G} {tys : List (ClassId × FieldType)} {o : zO} {z : Nat} (E : zEnv tys) : zCodeOk l D vwCl tys o z (zXX o z) zTs zprog mX8_fewest := by
  intro p e R s m args below meth c0 Q ws0 hbc hbs C pc sem h
  replace hbc : R.cells = 0 := hbc
  replace hbs : R.slots = 0 := hbs
  replace C : zCx p R s m args meth c0 D vwCl tys z (zXX o z) zTs RX8 cX8_fewest 3 "fewest" := C
  refine zRows_get (P := fun pc sem => zOp p l e R s m args below meth c0 Q D vwCl tys o z (zXX o z) zTs zprog ws0 3 cX8_fewest (some .int) pc sem) (c := kX8_fewest) ?_ h
  unfold kX8_fewest
  exact (zrs_c (zr_s (zq_aload_n C dX8_fewest_0 rfl)
    (zr_s (zq_iconst (n := .ofNat 0) C dX8_fewest_1 (by decide))
    (zr_s (zq_put (k := 11) C dX8_fewest_2 (show vwCl[8]? = some (RX8, TX8, 51) from rfl) zinX8 tyX8 tyX8_ok nmX8 (by decide) zw1183 rfl (ty := .int) (by decide +kernel) rfl)
    (zr_n (zr_n (zr_s (zq_aload_n C dX8_fewest_5 rfl)
    (zr_s (zk_callV (n := 0) C zXX_ok zTs_good hbc hbs (show zget zprog 192 = some mX8_layCanBe from rfl) rfl rfl (show vwCl[8]? = some (RX8, TX8, 51) from rfl) zw1616 zw1613 zw1615 zs140 zw16 (by decide +kernel) dX8_fewest_6)
    (zr_n (zr_n (zr_s (zq_iconst (n := .negSucc 0) C dX8_fewest_9 (by decide))
    (zr_s (zq_istore_n C dX8_fewest_10 rfl (by decide))
    (zr_s (zq_iconst (n := .ofNat 0) C dX8_fewest_11 (by decide))
    (zr_s (zq_istore_n C dX8_fewest_12 rfl (by decide))
    (zr_s (zq_iload_n C dX8_fewest_13 rfl)
    (zr_s (zq_iconst (n := .ofNat 1) C dX8_fewest_14 (by decide))
    (zr_s (zq_aload_n C dX8_fewest_15 rfl)
    zr_0))))))))))))))))
  (zrs_c (zr_s (zq_get (k := 3) C dX8_fewest_16 (show vwCl[8]? = some (RX8, TX8, 51) from rfl) zinX8 (by decide) zw1175)
    (zr_n (zr_n (zr_s (zq_ishl C dX8_fewest_19)
    (zr_s (zq_icmp_ge C dX8_fewest_20 (by decide))
    (zr_n (zr_n (zr_s (zq_aload_n C dX8_fewest_23 rfl)
    (zr_s (zq_get (k := 41) C dX8_fewest_24 (show vwCl[8]? = some (RX8, TX8, 51) from rfl) zinX8 (by decide) zw1213)
    (zr_n (zr_n (zr_s (zq_iload_n C dX8_fewest_27 rfl)
    (zr_s (zk_bald C dX8_fewest_28)
    (zr_s (zq_if_eq C dX8_fewest_29 (by decide))
    (zr_n (zr_n zr_0))))))))))))))))
  (zrs_c (zr_n (zr_n (zr_n (zr_n (zr_n (zr_n (zr_n (zr_n (zr_n (zr_n (zr_n (zr_n (zr_n (zr_n (zr_n (zr_n zr_0))))))))))))))))
  (zrs_c (zr_n (zr_n (zr_s (zk_inc (n := .ofNat 1) C dX8_fewest_50 (by decide) (by decide))
    (zr_n (zr_n (zr_s (zk_goto C dX8_fewest_53 (by decide))
    (zr_n (zr_n (zr_s (zq_iload_n C dX8_fewest_56 rfl)
    (zr_s (zq_iconst (n := .negSucc 0) C dX8_fewest_57 (by decide))
    (zr_s (zq_icmp_ne C dX8_fewest_58 (by decide))
    (zr_n (zr_n (zr_s (zq_bipush (n := .negSucc 1) C dX8_fewest_61 (by decide) (by decide))
    (zr_n (zr_s (zk_ret1 (ty := .int) C hbc hbs rfl rfl (Or.inl ⟨dX8_fewest_63, by decide⟩))
    zr_0))))))))))))))))
  (zrs_c (zr_n (zr_n (zr_n (zr_n (zr_n (zr_n (zr_n (zr_n (zr_n (zr_n (zr_n (zr_n (zr_n (zr_n (zr_n (zr_n zr_0))))))))))))))))
  zrs_0)))))
set_option maxRecDepth 100000 in
set_option maxHeartbeats 4000000 in
theorem okX8_fine {l : Launch} {D : va_G} {tys : List (ClassId × FieldType)} {o : zO} {z : Nat} (E : zEnv tys) : zCodeOk l D vwCl tys o z (zXX o z) zTs zprog mX8_fine := by
  intro p e R s m args below meth c0 Q ws0 hbc hbs C pc sem h
  replace hbc : R.cells = 0 := hbc
  replace hbs : R.slots = 0 := hbs
  replace C : zCx p R s m args meth c0 D vwCl tys z (zXX o z) zTs RX8 cX8_fine 1 "fine" := C
  refine zRows_get (P := fun pc sem => zOp p l e R s m args below meth c0 Q D vwCl tys o z (zXX o z) zTs zprog ws0 1 cX8_fine (some .boolean) pc sem) (c := kX8_fine) ?_ h
  unfold kX8_fine
  exact (zrs_c (zr_s (zq_aload_n C dX8_fine_0 rfl)
    (zr_s (zq_get (k := 16) C dX8_fine_1 (show vwCl[8]? = some (RX8, TX8, 51) from rfl) zinX8 (by decide) zw1188)
    (zr_n (zr_n (zr_s (zq_iconst (n := .negSucc 0) C dX8_fine_4 (by decide))
    (zr_s (zq_icmp_ne C dX8_fine_5 (by decide))
    (zr_n (zr_n (zr_s (zq_iconst (n := .ofNat 1) C dX8_fine_8 (by decide))
    (zr_s (zk_goto C dX8_fine_9 (by decide))
    (zr_n (zr_n (zr_s (zq_iconst (n := .ofNat 0) C dX8_fine_12 (by decide))
    (zr_s (zk_ret1 (ty := .boolean) C hbc hbs rfl rfl (Or.inl ⟨dX8_fine_13, by decide⟩))
    zr_0))))))))))))))
  zrs_0)
set_option maxRecDepth 100000 in
set_option maxHeartbeats 4000000 in
theorem okX8_first {l : Launch} {D : va_G} {tys : List (ClassId × FieldType)} {o : zO} {z : Nat} (E : zEnv tys) : zCodeOk l D vwCl tys o z (zXX o z) zTs zprog mX8_first := by
  intro p e R s m args below meth c0 Q ws0 hbc hbs C pc sem h
  replace hbc : R.cells = 0 := hbc
  replace hbs : R.slots = 0 := hbs
  replace C : zCx p R s m args meth c0 D vwCl tys z (zXX o z) zTs RX8 cX8_first 3 "first" := C
  refine zRows_get (P := fun pc sem => zOp p l e R s m args below meth c0 Q D vwCl tys o z (zXX o z) zTs zprog ws0 3 cX8_first (some .int) pc sem) (c := kX8_first) ?_ h
  unfold kX8_first
  exact (zrs_c (zr_s (zq_aload_n C dX8_first_0 rfl)
    (zr_s (zq_iconst (n := .ofNat 0) C dX8_first_1 (by decide))
    (zr_s (zq_put (k := 11) C dX8_first_2 (show vwCl[8]? = some (RX8, TX8, 51) from rfl) zinX8 tyX8 tyX8_ok nmX8 (by decide) zw1183 rfl (ty := .int) (by decide +kernel) rfl)
    (zr_n (zr_n (zr_s (zq_iload_n C dX8_first_5 rfl)
    (zr_s (zq_iconst (n := .ofNat 1) C dX8_first_6 (by decide))
    (zr_s (zq_bipush (n := .ofNat 60) C dX8_first_7 (by decide) (by decide))
    (zr_n (zr_s (zk_callS C zXX_ok zTs_good hbc hbs (show zget zprog 181 = some mX8_in from rfl) rfl rfl zw1340 zw1338 zw1339 zw16 (by decide +kernel) dX8_first_9)
    (zr_n (zr_n (zr_s (zq_if_ne C dX8_first_12 (by decide))
    (zr_n (zr_n (zr_s (zq_iconst (n := .negSucc 0) C dX8_first_15 (by decide))
    zr_0))))))))))))))))
  (zrs_c (zr_s (zk_ret1 (ty := .int) C hbc hbs rfl rfl (Or.inl ⟨dX8_first_16, by decide⟩))
    (zr_s (zq_aload_n C dX8_first_17 rfl)
    (zr_s (zq_get (k := 0) C dX8_first_18 (show vwCl[8]? = some (RX8, TX8, 51) from rfl) zinX8 (by decide) zw1172)
    (zr_n (zr_n (zr_s (zq_aload_n C dX8_first_21 rfl)
    (zr_s (zq_get (k := 26) C dX8_first_22 (show vwCl[8]? = some (RX8, TX8, 51) from rfl) zinX8 (by decide) zw1198)
    (zr_n (zr_n (zr_s (zq_iconst (n := .ofNat 0) C dX8_first_25 (by decide))
    (zr_s (zk_callS C zXX_ok zTs_good hbc hbs (show zget zprog 191 = some mX8_lay from rfl) rfl rfl zw1464 zw1462 zw1463 zw16 (by decide +kernel) dX8_first_26)
    (zr_n (zr_n (zr_s (zq_iconst (n := .ofNat 0) C dX8_first_29 (by decide))
    (zr_s (zq_istore_n C dX8_first_30 rfl (by decide))
    (zr_s (zq_iload_n C dX8_first_31 rfl)
    zr_0))))))))))))))))
  (zrs_c (zr_s (zq_iload_n C dX8_first_32 rfl)
    (zr_s (zq_icmp_ge C dX8_first_33 (by decide))
    (zr_n (zr_n (zr_s (zq_aload_n C dX8_first_36 rfl)
    (zr_s (zq_aload_n C dX8_first_37 rfl)
    (zr_s (zq_get (k := 26) C dX8_first_38 (show vwCl[8]? = some (RX8, TX8, 51) from rfl) zinX8 (by decide) zw1198)
    (zr_n (zr_n (zr_s (zk_callV (n := 1) C zXX_ok zTs_good hbc hbs (show zget zprog 172 = some mX8_goNight from rfl) rfl rfl (show vwCl[8]? = some (RX8, TX8, 51) from rfl) zw1492 zw1489 zw1491 zs120 zw16 (by decide +kernel) dX8_first_41)
    (zr_n (zr_n (zr_s (zq_aload_n C dX8_first_44 rfl)
    (zr_s (zq_get (k := 27) C dX8_first_45 (show vwCl[8]? = some (RX8, TX8, 51) from rfl) zinX8 (by decide) zw1199)
    (zr_n (zr_n zr_0))))))))))))))))
  (zrs_c (zr_s (zq_if_ne C dX8_first_48 (by decide))
    (zr_n (zr_n (zr_n (zr_n (zr_n (zr_s (zq_aload_n C dX8_first_54 rfl)
    (zr_s (zq_iconst (n := .ofNat 0) C dX8_first_55 (by decide))
    (zr_s (zq_put (k := 10) C dX8_first_56 (show vwCl[8]? = some (RX8, TX8, 51) from rfl) zinX8 tyX8 tyX8_ok nmX8 (by decide) zw1182 rfl (ty := .int) (by decide +kernel) rfl)
    (zr_n (zr_n (zr_s (zq_aload_n C dX8_first_59 rfl)
    (zr_s (zq_aload_n C dX8_first_60 rfl)
    (zr_s (zq_get (k := 27) C dX8_first_61 (show vwCl[8]? = some (RX8, TX8, 51) from rfl) zinX8 (by decide) zw1199)
    (zr_n (zr_n zr_0))))))))))))))))
  (zrs_c (zr_s (zk_callS C zXX_ok zTs_good hbc hbs (show zget zprog 15 = some mJ6_numberOfTrailingZeros_0f7a4 from rfl) rfl rfl zw1539 zw1537 zw1538 zw21 (by decide +kernel) dX8_first_64)
    (zr_n (zr_n (zr_s (zk_i2l C dX8_first_67)
    (zr_s (zk_callV (n := 1) C zXX_ok zTs_good hbc hbs (show zget zprog 222 = some mX8_tell from rfl) rfl rfl (show vwCl[8]? = some (RX8, TX8, 51) from rfl) zw1500 zw1497 zw1499 zs121 zw16 (by decide +kernel) dX8_first_68)
    (zr_n (zr_n (zr_s (zq_iload_n C dX8_first_71 rfl)
    (zr_s (zk_ret1 (ty := .int) C hbc hbs rfl rfl (Or.inl ⟨dX8_first_72, by decide⟩))
    (zr_n (zr_n (zr_n (zr_n (zr_n (zr_n (zr_n zr_0))))))))))))))))
  (zrs_c (zr_n (zr_n zr_0))
  zrs_0))))))
set_option maxRecDepth 100000 in
set_option maxHeartbeats 4000000 in
theorem okX8_firstGets {l : Launch} {D : va_G} {tys : List (ClassId × FieldType)} {o : zO} {z : Nat} (E : zEnv tys) : zCodeOk l D vwCl tys o z (zXX o z) zTs zprog mX8_firstGets := by
  intro p e R s m args below meth c0 Q ws0 hbc hbs C pc sem h
  replace hbc : R.cells = 0 := hbc
  replace hbs : R.slots = 0 := hbs
  replace C : zCx p R s m args meth c0 D vwCl tys z (zXX o z) zTs RX8 cX8_firstGets 3 "firstGets" := C
  refine zRows_get (P := fun pc sem => zOp p l e R s m args below meth c0 Q D vwCl tys o z (zXX o z) zTs zprog ws0 3 cX8_firstGets (some .int) pc sem) (c := kX8_firstGets) ?_ h
  unfold kX8_firstGets
  exact (zrs_c (zr_s (zq_iload_n C dX8_firstGets_0 rfl)
    (zr_s (zq_iload_n C dX8_firstGets_1 rfl)
    (zr_s (zq_icmp_lt C dX8_firstGets_2 (by decide))
    (zr_n (zr_n (zr_s (zq_iload_n C dX8_firstGets_5 rfl)
    (zr_s (zq_iload_n C dX8_firstGets_6 rfl)
    (zr_s (zk_sub C dX8_firstGets_7)
    (zr_s (zk_goto C dX8_firstGets_8 (by decide))
    (zr_n (zr_n (zr_s (zq_iconst (n := .ofNat 0) C dX8_firstGets_11 (by decide))
    (zr_s (zk_ret1 (ty := .int) C hbc hbs rfl rfl (Or.inl ⟨dX8_firstGets_12, by decide⟩))
    zr_0)))))))))))))
  zrs_0)
set_option maxRecDepth 100000 in
set_option maxHeartbeats 4000000 in
theorem okX8_fits {l : Launch} {D : va_G} {tys : List (ClassId × FieldType)} {o : zO} {z : Nat} (E : zEnv tys) : zCodeOk l D vwCl tys o z (zXX o z) zTs zprog mX8_fits := by
  intro p e R s m args below meth c0 Q ws0 hbc hbs C pc sem h
  replace hbc : R.cells = 0 := hbc
  replace hbs : R.slots = 0 := hbs
  replace C : zCx p R s m args meth c0 D vwCl tys z (zXX o z) zTs RX8 cX8_fits 2 "fits" := C
  refine zRows_get (P := fun pc sem => zOp p l e R s m args below meth c0 Q D vwCl tys o z (zXX o z) zTs zprog ws0 2 cX8_fits (some .int) pc sem) (c := kX8_fits) ?_ h
  unfold kX8_fits
  exact (zrs_c (zr_s (zq_aload_n C dX8_fits_0 rfl)
    (zr_s (zq_iconst (n := .ofNat 0) C dX8_fits_1 (by decide))
    (zr_s (zq_put (k := 11) C dX8_fits_2 (show vwCl[8]? = some (RX8, TX8, 51) from rfl) zinX8 tyX8 tyX8_ok nmX8 (by decide) zw1183 rfl (ty := .int) (by decide +kernel) rfl)
    (zr_n (zr_n (zr_s (zq_aload_n C dX8_fits_5 rfl)
    (zr_s (zq_iconst (n := .negSucc 0) C dX8_fits_6 (by decide))
    (zr_s (zq_iconst (n := .negSucc 0) C dX8_fits_7 (by decide))
    (zr_s (zk_callV (n := 2) C zXX_ok zTs_good hbc hbs (show zget zprog 167 = some mX8_fitting from rfl) rfl rfl (show vwCl[8]? = some (RX8, TX8, 51) from rfl) zw1708 zw1705 zw1707 zs145 zw16 (by decide +kernel) dX8_fits_8)
    (zr_n (zr_n (zr_s (zq_istore_n C dX8_fits_11 rfl (by decide))
    (zr_s (zq_aload_n C dX8_fits_12 rfl)
    (zr_s (zq_iconst (n := .ofNat 0) C dX8_fits_13 (by decide))
    (zr_s (zq_put (k := 10) C dX8_fits_14 (show vwCl[8]? = some (RX8, TX8, 51) from rfl) zinX8 tyX8 tyX8_ok nmX8 (by decide) zw1182 rfl (ty := .int) (by decide +kernel) rfl)
    (zr_n zr_0))))))))))))))))
  (zrs_c (zr_n (zr_s (zq_iload_n C dX8_fits_17 rfl)
    (zr_s (zq_if_ne C dX8_fits_18 (by decide))
    (zr_n (zr_n (zr_s (zq_iconst (n := .ofNat 0) C dX8_fits_21 (by decide))
    (zr_s (zk_goto C dX8_fits_22 (by decide))
    (zr_n (zr_n (zr_n (zr_n (zr_n (zr_n (zr_s (zk_ret1 (ty := .int) C hbc hbs rfl rfl (Or.inl ⟨dX8_fits_29, by decide⟩))
    zr_0))))))))))))))
  zrs_0))
set_option maxRecDepth 100000 in
set_option maxHeartbeats 4000000 in
theorem okX8_fitting {l : Launch} {D : va_G} {tys : List (ClassId × FieldType)} {o : zO} {z : Nat} (E : zEnv tys) : zCodeOk l D vwCl tys o z (zXX o z) zTs zprog mX8_fitting := by
  intro p e R s m args below meth c0 Q ws0 hbc hbs C pc sem h
  replace hbc : R.cells = 0 := hbc
  replace hbs : R.slots = 0 := hbs
  replace C : zCx p R s m args meth c0 D vwCl tys z (zXX o z) zTs RX8 cX8_fitting 4 "fitting" := C
  refine zRows_get (P := fun pc sem => zOp p l e R s m args below meth c0 Q D vwCl tys o z (zXX o z) zTs zprog ws0 4 cX8_fitting (some .int) pc sem) (c := kX8_fitting) ?_ h
  unfold kX8_fitting
  exact (zrs_c (zr_s (zq_aload_n C dX8_fitting_0 rfl)
    (zr_s (zk_callV (n := 0) C zXX_ok zTs_good hbc hbs (show zget zprog 193 = some mX8_layFound from rfl) rfl rfl (show vwCl[8]? = some (RX8, TX8, 51) from rfl) zw1712 zw1709 zw1711 zs146 zw16 (by decide +kernel) dX8_fitting_1)
    (zr_n (zr_n (zr_s (zq_iload_n C dX8_fitting_4 rfl)
    (zr_s (zq_iconst (n := .negSucc 0) C dX8_fitting_5 (by decide))
    (zr_s (zq_icmp_eq C dX8_fitting_6 (by decide))
    (zr_n (zr_n (zr_n (zr_n (zr_n (zr_n (zr_n (zr_n (zr_s (zq_iconst (n := .ofNat 0) C dX8_fitting_15 (by decide))
    zr_0))))))))))))))))
  (zrs_c (zr_s (zq_istore_n C dX8_fitting_16 rfl (by decide))
    (zr_s (zq_iload_n C dX8_fitting_17 rfl)
    (zr_s (zq_aload_n C dX8_fitting_18 rfl)
    (zr_s (zq_get (k := 3) C dX8_fitting_19 (show vwCl[8]? = some (RX8, TX8, 51) from rfl) zinX8 (by decide) zw1175)
    (zr_n (zr_n (zr_s (zq_icmp_ge C dX8_fitting_22 (by decide))
    (zr_n (zr_n (zr_n (zr_n (zr_n (zr_n (zr_n (zr_n (zr_n zr_0))))))))))))))))
  (zrs_c (zr_n (zr_n (zr_n (zr_n (zr_n (zr_n (zr_n (zr_n (zr_n (zr_s (zq_aload_n C dX8_fitting_41 rfl)
    (zr_s (zk_callV (n := 0) C zXX_ok zTs_good hbc hbs (show zget zprog 155 = some mX8_countWays from rfl) rfl rfl (show vwCl[8]? = some (RX8, TX8, 51) from rfl) zw1632 zw1629 zw1631 zs142 zw16 (by decide +kernel) dX8_fitting_42)
    (zr_n (zr_n (zr_s (zk_ret1 (ty := .int) C hbc hbs rfl rfl (Or.inl ⟨dX8_fitting_45, by decide⟩))
    zr_0))))))))))))))
  zrs_0)))
