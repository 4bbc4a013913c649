set_option maxRecDepth 100000 in
set_option maxHeartbeats 4000000 in
theorem okX8_forget {l : Launch} {D : va_G} {tys : List (ClassId × FieldType)} {o : zO} {z : Nat} (E : zEnv tys) : zCodeOk l D vwCl tys o z (zXX o z) zTs zprog mX8_forget := by
  intro p e R s m args below meth c0 Q ws0 hbc hbs C pc sem h
  replace hbc : R.cells = 0 := hbc
  replace hbs : R.slots = 0 := hbs
  replace C : zCx p R s m args meth c0 D vwCl tys z (zXX o z) zTs RX8 cX8_forget 2 "forget" := C
  refine zRows_get (P := fun pc sem => zOp p l e R s m args below meth c0 Q D vwCl tys o z (zXX o z) zTs zprog ws0 2 cX8_forget (some .int) pc sem) (c := kX8_forget) ?_ h
  unfold kX8_forget
  exact (zrs_c (zr_s (zq_aload_n C dX8_forget_0 rfl)
    (zr_s (zq_iconst (n := .ofNat 0) C dX8_forget_1 (by decide))
    (zr_s (zq_put (k := 11) C dX8_forget_2 (show vwCl[8]? = some (RX8, TX8, 51) from rfl) zinX8 tyX8 tyX8_ok nmX8 (by decide) zw1183 rfl (ty := .int) (by decide +kernel) rfl)
    (zr_n (zr_n (zr_s (zq_aload_n C dX8_forget_5 rfl)
    (zr_s (zq_get (k := 45) C dX8_forget_6 (show vwCl[8]? = some (RX8, TX8, 51) from rfl) zinX8 (by decide) zw1217)
    (zr_n (zr_n (zr_s (zq_istore_n C dX8_forget_9 rfl (by decide))
    (zr_s (zq_aload_n C dX8_forget_10 rfl)
    (zr_s (zq_iconst (n := .ofNat 0) C dX8_forget_11 (by decide))
    (zr_s (zq_put (k := 45) C dX8_forget_12 (show vwCl[8]? = some (RX8, TX8, 51) from rfl) zinX8 tyX8 tyX8_ok nmX8 (by decide) zw1217 rfl (ty := .int) (by decide +kernel) rfl)
    (zr_n (zr_n (zr_s (zq_iload_n C dX8_forget_15 rfl)
    zr_0))))))))))))))))
  (zrs_c (zr_s (zk_ret1 (ty := .int) C hbc hbs rfl rfl (Or.inl ⟨dX8_forget_16, by decide⟩))
    zr_0)
  zrs_0))
set_option maxRecDepth 100000 in
set_option maxHeartbeats 4000000 in
theorem okX8_found {l : Launch} {D : va_G} {tys : List (ClassId × FieldType)} {o : zO} {z : Nat} (E : zEnv tys) : zCodeOk l D vwCl tys o z (zXX o z) zTs zprog mX8_found := by
  intro p e R s m args below meth c0 Q ws0 hbc hbs C pc sem h
  replace hbc : R.cells = 0 := hbc
  replace hbs : R.slots = 0 := hbs
  replace C : zCx p R s m args meth c0 D vwCl tys z (zXX o z) zTs RX8 cX8_found 4 "found" := C
  refine zRows_get (P := fun pc sem => zOp p l e R s m args below meth c0 Q D vwCl tys o z (zXX o z) zTs zprog ws0 4 cX8_found (some .int) pc sem) (c := kX8_found) ?_ h
  unfold kX8_found
  exact (zrs_c (zr_s (zq_aload_n C dX8_found_0 rfl)
    (zr_s (zq_iconst (n := .ofNat 0) C dX8_found_1 (by decide))
    (zr_s (zq_put (k := 11) C dX8_found_2 (show vwCl[8]? = some (RX8, TX8, 51) from rfl) zinX8 tyX8 tyX8_ok nmX8 (by decide) zw1183 rfl (ty := .int) (by decide +kernel) rfl)
    (zr_n (zr_n (zr_s (zq_iload_n C dX8_found_5 rfl)
    (zr_s (zk_callS C zXX_ok zTs_good hbc hbs (show zget zprog 184 = some mX8_isHour from rfl) rfl rfl zw1438 zw1436 zw1437 zw16 (by decide +kernel) dX8_found_6)
    (zr_n (zr_n (zr_s (zq_if_eq C dX8_found_9 (by decide))
    (zr_n (zr_n (zr_s (zq_aload_n C dX8_found_12 rfl)
    (zr_s (zq_iload_n C dX8_found_13 rfl)
    (zr_s (zk_callV (n := 1) C zXX_ok zTs_good hbc hbs (show zget zprog 185 = some mX8_isMan from rfl) rfl rfl (show vwCl[8]? = some (RX8, TX8, 51) from rfl) zw1423 zw1420 zw1422 zs112 zw16 (by decide +kernel) dX8_found_14)
    (zr_n zr_0))))))))))))))))
  (zrs_c (zr_n (zr_s (zq_if_eq C dX8_found_17 (by decide))
    (zr_n (zr_n (zr_n (zr_n (zr_n (zr_n (zr_n (zr_n (zr_n (zr_n (zr_n (zr_n (zr_n (zr_n zr_0))))))))))))))))
  (zrs_c (zr_n (zr_n (zr_n (zr_n (zr_n (zr_n (zr_s (zq_iconst (n := .negSucc 0) C dX8_found_38 (by decide))
    (zr_s (zk_ret1 (ty := .int) C hbc hbs rfl rfl (Or.inl ⟨dX8_found_39, by decide⟩))
    (zr_n (zr_n (zr_n (zr_n (zr_n (zr_n (zr_n (zr_n zr_0))))))))))))))))
  (zrs_c (zr_n (zr_n (zr_n (zr_n (zr_n (zr_n (zr_n (zr_n (zr_n (zr_n (zr_n (zr_n (zr_n (zr_n (zr_n (zr_n zr_0))))))))))))))))
  (zrs_c (zr_n (zr_n (zr_n (zr_n (zr_n (zr_n (zr_n (zr_n (zr_n (zr_n (zr_n (zr_n (zr_n (zr_n (zr_n (zr_n zr_0))))))))))))))))
  (zrs_c (zr_n (zr_n (zr_n (zr_n (zr_n (zr_n (zr_n (zr_n (zr_n (zr_n (zr_n (zr_n (zr_n (zr_n (zr_n (zr_n zr_0))))))))))))))))
  (zrs_c (zr_n (zr_n (zr_n zr_0)))
  zrs_0)))))))
set_option maxRecDepth 100000 in
set_option maxHeartbeats 4000000 in
theorem okX8_gaps {l : Launch} {D : va_G} {tys : List (ClassId × FieldType)} {o : zO} {z : Nat} (E : zEnv tys) : zCodeOk l D vwCl tys o z (zXX o z) zTs zprog mX8_gaps := by
  intro p e R s m args below meth c0 Q ws0 hbc hbs C pc sem h
  replace hbc : R.cells = 0 := hbc
  replace hbs : R.slots = 0 := hbs
  replace C : zCx p R s m args meth c0 D vwCl tys z (zXX o z) zTs RX8 cX8_gaps 1 "gaps" := C
  refine zRows_get (P := fun pc sem => zOp p l e R s m args below meth c0 Q D vwCl tys o z (zXX o z) zTs zprog ws0 1 cX8_gaps (some .int) pc sem) (c := kX8_gaps) ?_ h
  unfold kX8_gaps
  exact (zrs_c (zr_s (zq_aload_n C dX8_gaps_0 rfl)
    (zr_s (zq_iconst (n := .ofNat 0) C dX8_gaps_1 (by decide))
    (zr_s (zq_put (k := 11) C dX8_gaps_2 (show vwCl[8]? = some (RX8, TX8, 51) from rfl) zinX8 tyX8 tyX8_ok nmX8 (by decide) zw1183 rfl (ty := .int) (by decide +kernel) rfl)
    (zr_n (zr_n (zr_s (zq_aload_n C dX8_gaps_5 rfl)
    (zr_s (zq_get (k := 0) C dX8_gaps_6 (show vwCl[8]? = some (RX8, TX8, 51) from rfl) zinX8 (by decide) zw1172)
    (zr_n (zr_n (zr_s (zq_aload_n C dX8_gaps_9 rfl)
    (zr_s (zq_get (k := 26) C dX8_gaps_10 (show vwCl[8]? = some (RX8, TX8, 51) from rfl) zinX8 (by decide) zw1198)
    (zr_n (zr_n (zr_s (zq_iconst (n := .ofNat 0) C dX8_gaps_13 (by decide))
    (zr_s (zk_callS C zXX_ok zTs_good hbc hbs (show zget zprog 191 = some mX8_lay from rfl) rfl rfl zw1464 zw1462 zw1463 zw16 (by decide +kernel) dX8_gaps_14)
    (zr_n zr_0))))))))))))))))
  (zrs_c (zr_n (zr_s (zq_aload_n C dX8_gaps_17 rfl)
    (zr_s (zq_aload_n C dX8_gaps_18 rfl)
    (zr_s (zq_get (k := 26) C dX8_gaps_19 (show vwCl[8]? = some (RX8, TX8, 51) from rfl) zinX8 (by decide) zw1198)
    (zr_n (zr_n (zr_s (zk_callV (n := 1) C zXX_ok zTs_good hbc hbs (show zget zprog 172 = some mX8_goNight from rfl) rfl rfl (show vwCl[8]? = some (RX8, TX8, 51) from rfl) zw1492 zw1489 zw1491 zs120 zw16 (by decide +kernel) dX8_gaps_22)
    (zr_n (zr_n (zr_s (zq_aload_n C dX8_gaps_25 rfl)
    (zr_s (zq_iconst (n := .ofNat 0) C dX8_gaps_26 (by decide))
    (zr_s (zq_put (k := 10) C dX8_gaps_27 (show vwCl[8]? = some (RX8, TX8, 51) from rfl) zinX8 tyX8 tyX8_ok nmX8 (by decide) zw1182 rfl (ty := .int) (by decide +kernel) rfl)
    (zr_n (zr_n (zr_s (zq_aload_n C dX8_gaps_30 rfl)
    (zr_s (zq_aload_n C dX8_gaps_31 rfl)
    zr_0))))))))))))))))
  (zrs_c (zr_s (zq_get (k := 27) C dX8_gaps_32 (show vwCl[8]? = some (RX8, TX8, 51) from rfl) zinX8 (by decide) zw1199)
    (zr_n (zr_n (zr_s (zk_callS C zXX_ok zTs_good hbc hbs (show zget zprog 14 = some mJ6_bitCount_0f7a4 from rfl) rfl rfl zw564 zw1443 zw563 zw21 (by decide +kernel) dX8_gaps_35)
    (zr_n (zr_n (zr_s (zk_i2l C dX8_gaps_38)
    (zr_s (zk_callV (n := 1) C zXX_ok zTs_good hbc hbs (show zget zprog 222 = some mX8_tell from rfl) rfl rfl (show vwCl[8]? = some (RX8, TX8, 51) from rfl) zw1500 zw1497 zw1499 zs121 zw16 (by decide +kernel) dX8_gaps_39)
    (zr_n (zr_n (zr_s (zq_aload_n C dX8_gaps_42 rfl)
    (zr_s (zq_aload_n C dX8_gaps_43 rfl)
    (zr_s (zq_get (k := 28) C dX8_gaps_44 (show vwCl[8]? = some (RX8, TX8, 51) from rfl) zinX8 (by decide) zw1200)
    (zr_n (zr_n (zr_s (zk_i2l C dX8_gaps_47)
    zr_0))))))))))))))))
  (zrs_c (zr_s (zk_callV (n := 1) C zXX_ok zTs_good hbc hbs (show zget zprog 222 = some mX8_tell from rfl) rfl rfl (show vwCl[8]? = some (RX8, TX8, 51) from rfl) zw1500 zw1497 zw1499 zs121 zw16 (by decide +kernel) dX8_gaps_48)
    (zr_n (zr_n (zr_s (zq_aload_n C dX8_gaps_51 rfl)
    (zr_s (zq_get (k := 27) C dX8_gaps_52 (show vwCl[8]? = some (RX8, TX8, 51) from rfl) zinX8 (by decide) zw1199)
    (zr_n (zr_n (zr_s (zk_ret1 (ty := .int) C hbc hbs rfl rfl (Or.inl ⟨dX8_gaps_55, by decide⟩))
    zr_0))))))))
  zrs_0))))
set_option maxRecDepth 100000 in
set_option maxHeartbeats 4000000 in
theorem okX8_give {l : Launch} {D : va_G} {tys : List (ClassId × FieldType)} {o : zO} {z : Nat} (E : zEnv tys) : zCodeOk l D vwCl tys o z (zXX o z) zTs zprog mX8_give := by
  intro p e R s m args below meth c0 Q ws0 hbc hbs C pc sem h
  replace hbc : R.cells = 0 := hbc
  replace hbs : R.slots = 0 := hbs
  replace C : zCx p R s m args meth c0 D vwCl tys z (zXX o z) zTs RX8 cX8_give 4 "give" := C
  refine zRows_get (P := fun pc sem => zOp p l e R s m args below meth c0 Q D vwCl tys o z (zXX o z) zTs zprog ws0 4 cX8_give (some .int) pc sem) (c := kX8_give) ?_ h
  unfold kX8_give
  exact (zrs_c (zr_s (zq_aload_n C dX8_give_0 rfl)
    (zr_s (zq_iconst (n := .ofNat 0) C dX8_give_1 (by decide))
    (zr_s (zq_put (k := 11) C dX8_give_2 (show vwCl[8]? = some (RX8, TX8, 51) from rfl) zinX8 tyX8 tyX8_ok nmX8 (by decide) zw1183 rfl (ty := .int) (by decide +kernel) rfl)
    (zr_n (zr_n (zr_s (zq_aload_n C dX8_give_5 rfl)
    (zr_s (zq_iload_n C dX8_give_6 rfl)
    (zr_s (zq_iload_n C dX8_give_7 rfl)
    (zr_s (zk_callV (n := 2) C zXX_ok zTs_good hbc hbs (show zget zprog 183 = some mX8_isGift from rfl) rfl rfl (show vwCl[8]? = some (RX8, TX8, 51) from rfl) zw1472 zw1469 zw1471 zs117 zw16 (by decide +kernel) dX8_give_8)
    (zr_n (zr_n (zr_s (zq_if_ne C dX8_give_11 (by decide))
    (zr_n (zr_n (zr_s (zq_bipush (n := .negSucc 1) C dX8_give_14 (by decide) (by decide))
    (zr_n zr_0))))))))))))))))
  (zrs_c (zr_s (zk_ret1 (ty := .int) C hbc hbs rfl rfl (Or.inl ⟨dX8_give_16, by decide⟩))
    (zr_s (zq_aload_n C dX8_give_17 rfl)
    (zr_s (zq_aload_n C dX8_give_18 rfl)
    (zr_s (zq_get (k := 0) C dX8_give_19 (show vwCl[8]? = some (RX8, TX8, 51) from rfl) zinX8 (by decide) zw1172)
    (zr_n (zr_n (zr_s (zk_callV (n := 1) C zXX_ok zTs_good hbc hbs (show zget zprog 205 = some mX8_remember from rfl) rfl rfl (show vwCl[8]? = some (RX8, TX8, 51) from rfl) zw1461 zw1458 zw1460 zs116 zw16 (by decide +kernel) dX8_give_22)
    (zr_n (zr_n (zr_s (zq_aload_n C dX8_give_25 rfl)
    (zr_s (zq_get (k := 0) C dX8_give_26 (show vwCl[8]? = some (RX8, TX8, 51) from rfl) zinX8 (by decide) zw1172)
    (zr_n (zr_n (zr_s (zq_iload_n C dX8_give_29 rfl)
    (zr_s (zk_iald C dX8_give_30)
    (zr_s (zq_istore_n C dX8_give_31 rfl (by decide))
    zr_0))))))))))))))))
  (zrs_c (zr_s (zq_aload_n C dX8_give_32 rfl)
    (zr_s (zq_get (k := 0) C dX8_give_33 (show vwCl[8]? = some (RX8, TX8, 51) from rfl) zinX8 (by decide) zw1172)
    (zr_n (zr_n (zr_s (zq_iload_n C dX8_give_36 rfl)
    (zr_s (zq_iload_n C dX8_give_37 rfl)
    (zr_s (zk_iast C dX8_give_38)
    (zr_s (zq_iload_n C dX8_give_39 rfl)
    (zr_s (zk_ret1 (ty := .int) C hbc hbs rfl rfl (Or.inl ⟨dX8_give_40, by decide⟩))
    zr_0)))))))))
  zrs_0)))
set_option maxRecDepth 100000 in
set_option maxHeartbeats 4000000 in
theorem okX8_goNight {l : Launch} {D : va_G} {tys : List (ClassId × FieldType)} {o : zO} {z : Nat} (E : zEnv tys) : zCodeOk l D vwCl tys o z (zXX o z) zTs zprog mX8_goNight := by
  intro p e R s m args below meth c0 Q ws0 hbc hbs C pc sem h
  replace hbc : R.cells = 0 := hbc
  replace hbs : R.slots = 0 := hbs
  replace C : zCx p R s m args meth c0 D vwCl tys z (zXX o z) zTs RX8 cX8_goNight 6 "goNight" := C
  refine zRows_get (P := fun pc sem => zOp p l e R s m args below meth c0 Q D vwCl tys o z (zXX o z) zTs zprog ws0 6 cX8_goNight none pc sem) (c := kX8_goNight) ?_ h
  unfold kX8_goNight
  exact (zrs_c (zr_s (zq_aload_n C dX8_goNight_0 rfl)
    (zr_s (zq_iconst (n := .ofNat 0) C dX8_goNight_1 (by decide))
    (zr_s (zq_put (k := 27) C dX8_goNight_2 (show vwCl[8]? = some (RX8, TX8, 51) from rfl) zinX8 tyX8 tyX8_ok nmX8 (by decide) zw1199 rfl (ty := .int) (by decide +kernel) rfl)
    (zr_n (zr_n (zr_s (zq_aload_n C dX8_goNight_5 rfl)
    (zr_s (zq_iconst (n := .ofNat 0) C dX8_goNight_6 (by decide))
    (zr_s (zq_put (k := 28) C dX8_goNight_7 (show vwCl[8]? = some (RX8, TX8, 51) from rfl) zinX8 tyX8 tyX8_ok nmX8 (by decide) zw1200 rfl (ty := .int) (by decide +kernel) rfl)
    (zr_n (zr_n (zr_s (zq_iconst (n := .ofNat 0) C dX8_goNight_10 (by decide))
    (zr_s (zq_istore_n C dX8_goNight_11 rfl (by decide))
    (zr_s (zq_iload_n C dX8_goNight_12 rfl)
    (zr_s (zq_bipush (n := .ofNat 8) C dX8_goNight_13 (by decide) (by decide))
    (zr_n (zr_s (zq_icmp_ge C dX8_goNight_15 (by decide))
    zr_0))))))))))))))))
  (zrs_c (zr_n (zr_n (zr_s (zq_aload_n C dX8_goNight_18 rfl)
    (zr_s (zq_get (k := 29) C dX8_goNight_19 (show vwCl[8]? = some (RX8, TX8, 51) from rfl) zinX8 (by decide) zw1201)
    (zr_n (zr_n (zr_s (zq_iload_n C dX8_goNight_22 rfl)
    (zr_s (zq_iconst (n := .ofNat 0) C dX8_goNight_23 (by decide))
    (zr_s (zk_iast C dX8_goNight_24)
    (zr_s (zq_aload_n C dX8_goNight_25 rfl)
    (zr_s (zq_get (k := 30) C dX8_goNight_26 (show vwCl[8]? = some (RX8, TX8, 51) from rfl) zinX8 (by decide) zw1202)
    (zr_n (zr_n (zr_s (zq_iload_n C dX8_goNight_29 rfl)
    (zr_s (zq_iconst (n := .ofNat 0) C dX8_goNight_30 (by decide))
    (zr_s (zk_iast C dX8_goNight_31)
    zr_0))))))))))))))))
  (zrs_c (zr_s (zk_inc (n := .ofNat 1) C dX8_goNight_32 (by decide) (by decide))
    (zr_n (zr_n (zr_s (zk_goto C dX8_goNight_35 (by decide))
    (zr_n (zr_n (zr_s (zq_iconst (n := .negSucc 0) C dX8_goNight_38 (by decide))
    (zr_s (zq_istore_n C dX8_goNight_39 rfl (by decide))
    (zr_s (zq_iconst (n := .ofNat 0) C dX8_goNight_40 (by decide))
    (zr_s (zq_istore_n C dX8_goNight_41 rfl (by decide))
    (zr_s (zq_iload_n C dX8_goNight_42 rfl)
    (zr_s (zq_aload_n C dX8_goNight_43 rfl)
    (zr_s (zq_get (k := 1) C dX8_goNight_44 (show vwCl[8]? = some (RX8, TX8, 51) from rfl) zinX8 (by decide) zw1173)
    (zr_n (zr_n (zr_s (zq_icmp_ge C dX8_goNight_47 (by decide))
    zr_0))))))))))))))))
  (zrs_c (zr_n (zr_n (zr_s (zq_aload_n C dX8_goNight_50 rfl)
    (zr_s (zq_iload_n C dX8_goNight_51 rfl)
    (zr_s (zk_iald C dX8_goNight_52)
    (zr_s (zq_istore C dX8_goNight_53 (by decide))
    (zr_n (zr_s (zq_iload C dX8_goNight_55)
    (zr_n (zr_s (zq_iconst (n := .negSucc 0) C dX8_goNight_57 (by decide))
    (zr_s (zq_icmp_eq C dX8_goNight_58 (by decide))
    (zr_n (zr_n (zr_n (zr_n (zr_n zr_0))))))))))))))))
  (zrs_c (zr_n (zr_n (zr_n (zr_n (zr_n (zr_n (zr_n (zr_n (zr_n (zr_n (zr_n (zr_n (zr_n (zr_n (zr_n (zr_n zr_0))))))))))))))))
  (zrs_c (zr_n (zr_n (zr_n (zr_n (zr_n (zr_n (zr_n (zr_n (zr_n (zr_n (zr_n (zr_n (zr_n (zr_n (zr_n (zr_n zr_0))))))))))))))))
  (zrs_c (zr_n (zr_n (zr_n (zr_n (zr_n (zr_n (zr_n (zr_n (zr_n (zr_n (zr_s (zq_iconst (n := .ofNat 0) C dX8_goNight_106 (by decide))
    (zr_s (zq_istore C dX8_goNight_107 (by decide))
    (zr_n (zr_s (zq_iload C dX8_goNight_109)
    (zr_n (zr_s (zq_if_eq C dX8_goNight_111 (by decide))
    zr_0))))))))))))))))
  (zrs_c (zr_n (zr_n (zr_n (zr_n (zr_n (zr_n (zr_n (zr_n (zr_n (zr_n (zr_n (zr_n (zr_n (zr_n (zr_n (zr_n zr_0))))))))))))))))
  (zrs_c (zr_n (zr_n (zr_n (zr_n (zr_n (zr_n (zr_n (zr_n (zr_n (zr_n (zr_n (zr_n (zr_n (zr_n (zr_n (zr_n zr_0))))))))))))))))
  (zrs_c (zr_n (zr_n (zr_n (zr_n (zr_n (zr_n (zr_n (zr_n (zr_n (zr_n (zr_n (zr_n (zr_n (zr_n (zr_n (zr_n zr_0))))))))))))))))
  (zrs_c (zr_n (zr_n (zr_n (zr_n (zr_n (zr_n (zr_n (zr_n (zr_n (zr_n (zr_n (zr_n (zr_n (zr_n (zr_n (zr_n zr_0))))))))))))))))
  (zrs_c (zr_n (zr_n (zr_n (zr_n (zr_n (zr_n (zr_n (zr_n (zr_n (zr_n (zr_n (zr_n (zr_n (zr_n (zr_n (zr_n zr_0))))))))))))))))
  (zrs_c (zr_n (zr_n (zr_n (zr_n (zr_n (zr_n (zr_n (zr_n (zr_n (zr_n (zr_n (zr_n (zr_n (zr_s (zq_aload_n C dX8_goNight_205 rfl)
    (zr_s (zk_dup C dX8_goNight_206)
    (zr_s (zq_get (k := 27) C dX8_goNight_207 (show vwCl[8]? = some (RX8, TX8, 51) from rfl) zinX8 (by decide) zw1199)
    zr_0))))))))))))))))
  (zrs_c (zr_n (zr_n (zr_s (zq_iconst (n := .ofNat 1) C dX8_goNight_210 (by decide))
    (zr_s (zq_iload_n C dX8_goNight_211 rfl)
    (zr_s (zq_ishl C dX8_goNight_212)
    (zr_s (zq_ior C dX8_goNight_213)
    (zr_s (zq_put (k := 27) C dX8_goNight_214 (show vwCl[8]? = some (RX8, TX8, 51) from rfl) zinX8 tyX8 tyX8_ok nmX8 (by decide) zw1199 rfl (ty := .int) (by decide +kernel) rfl)
    (zr_n (zr_n (zr_s (zq_iload C dX8_goNight_217)
    (zr_n (zr_s (zq_if_eq C dX8_goNight_219 (by decide))
    (zr_n (zr_n (zr_n (zr_n zr_0))))))))))))))))
  (zrs_c (zr_n (zr_n (zr_n (zr_s (zq_iconst (n := .negSucc 0) C dX8_goNight_227 (by decide))
    (zr_s (zq_istore_n C dX8_goNight_228 rfl (by decide))
    (zr_s (zk_inc (n := .ofNat 1) C dX8_goNight_229 (by decide) (by decide))
    (zr_n (zr_n (zr_s (zk_goto C dX8_goNight_232 (by decide))
    (zr_n (zr_n (zr_s (zq_iconst (n := .ofNat 0) C dX8_goNight_235 (by decide))
    (zr_s (zq_istore_n C dX8_goNight_236 rfl (by decide))
    (zr_s (zq_iload_n C dX8_goNight_237 rfl)
    (zr_s (zq_aload_n C dX8_goNight_238 rfl)
    (zr_s (zq_get (k := 3) C dX8_goNight_239 (show vwCl[8]? = some (RX8, TX8, 51) from rfl) zinX8 (by decide) zw1175)
    zr_0))))))))))))))))
  (zrs_c (zr_n (zr_n (zr_s (zq_icmp_ge C dX8_goNight_242 (by decide))
    (zr_n (zr_n (zr_n (zr_n (zr_n (zr_n (zr_n (zr_n (zr_n (zr_n (zr_n (zr_n (zr_n zr_0))))))))))))))))
  (zrs_c (zr_n (zr_n (zr_n (zr_n (zr_n (zr_n (zr_n (zr_n (zr_n (zr_n (zr_n (zr_n (zr_n (zr_n (zr_n (zr_n zr_0))))))))))))))))
  (zrs_c (zr_n (zr_n (zr_n (zr_n (zr_n (zr_n (zr_n (zr_n (zr_n (zr_n (zr_n (zr_n (zr_n (zr_n (zr_n (zr_n zr_0))))))))))))))))
  (zrs_c (zr_n (zr_n (zr_n (zr_n (zr_n (zr_n (zr_n (zr_n (zr_n (zr_n (zr_n (zr_s (zq_aload_n C dX8_goNight_299 rfl)
    (zr_s (zq_bipush (n := .ofNat 25) C dX8_goNight_300 (by decide) (by decide))
    (zr_n (zr_s (zk_dup2 C dX8_goNight_302)
    (zr_s (zk_iald C dX8_goNight_303)
    zr_0))))))))))))))))
  (zrs_c (zr_s (zq_aload_n C dX8_goNight_304 rfl)
    (zr_s (zq_get (k := 27) C dX8_goNight_305 (show vwCl[8]? = some (RX8, TX8, 51) from rfl) zinX8 (by decide) zw1199)
    (zr_n (zr_n (zr_s (zk_callS C zXX_ok zTs_good hbc hbs (show zget zprog 14 = some mJ6_bitCount_0f7a4 from rfl) rfl rfl zw564 zw1443 zw563 zw21 (by decide +kernel) dX8_goNight_308)
    (zr_n (zr_n (zr_s (zk_add C dX8_goNight_311)
    (zr_s (zk_iast C dX8_goNight_312)
    (zr_s (zq_aload_n C dX8_goNight_313 rfl)
    (zr_s (zq_bipush (n := .ofNat 26) C dX8_goNight_314 (by decide) (by decide))
    (zr_n (zr_s (zk_dup2 C dX8_goNight_316)
    (zr_s (zk_iald C dX8_goNight_317)
    (zr_s (zq_aload_n C dX8_goNight_318 rfl)
    (zr_s (zq_get (k := 28) C dX8_goNight_319 (show vwCl[8]? = some (RX8, TX8, 51) from rfl) zinX8 (by decide) zw1200)
    zr_0))))))))))))))))
  (zrs_c (zr_n (zr_n (zr_s (zk_callS C zXX_ok zTs_good hbc hbs (show zget zprog 14 = some mJ6_bitCount_0f7a4 from rfl) rfl rfl zw564 zw1443 zw563 zw21 (by decide +kernel) dX8_goNight_322)
    (zr_n (zr_n (zr_s (zk_add C dX8_goNight_325)
    (zr_s (zk_iast C dX8_goNight_326)
    (zr_s (zq_aload_n C dX8_goNight_327 rfl)
    (zr_s (zq_bipush (n := .ofNat 24) C dX8_goNight_328 (by decide) (by decide))
    (zr_n (zr_s (zk_dup2 C dX8_goNight_330)
    (zr_s (zk_iald C dX8_goNight_331)
    (zr_s (zq_iconst (n := .ofNat 1) C dX8_goNight_332 (by decide))
    (zr_s (zk_add C dX8_goNight_333)
    (zr_s (zk_iast C dX8_goNight_334)
    (zr_s (zk_ret0 C hbc hbs rfl dX8_goNight_335)
    zr_0))))))))))))))))
  zrs_0)))))))))))))))))))))
set_option maxRecDepth 100000 in
set_option maxHeartbeats 4000000 in
theorem okX8_goNights {l : Launch} {D : va_G} {tys : List (ClassId × FieldType)} {o : zO} {z : Nat} (E : zEnv tys) : zCodeOk l D vwCl tys o z (zXX o z) zTs zprog mX8_goNights := by
  intro p e R s m args below meth c0 Q ws0 hbc hbs C pc sem h
  replace hbc : R.cells = 0 := hbc
  replace hbs : R.slots = 0 := hbs
  replace C : zCx p R s m args meth c0 D vwCl tys z (zXX o z) zTs RX8 cX8_goNights 4 "goNights" := C
  refine zRows_get (P := fun pc sem => zOp p l e R s m args below meth c0 Q D vwCl tys o z (zXX o z) zTs zprog ws0 4 cX8_goNights none pc sem) (c := kX8_goNights) ?_ h
  unfold kX8_goNights
  exact (zrs_c (zr_s (zq_iconst (n := .ofNat 0) C dX8_goNights_0 (by decide))
    (zr_s (zq_istore_n C dX8_goNights_1 rfl (by decide))
    (zr_s (zq_iload_n C dX8_goNights_2 rfl)
    (zr_s (zq_iload_n C dX8_goNights_3 rfl)
    (zr_s (zq_icmp_ge C dX8_goNights_4 (by decide))
    (zr_n (zr_n (zr_s (zq_aload_n C dX8_goNights_7 rfl)
    (zr_s (zq_aload_n C dX8_goNights_8 rfl)
    (zr_s (zk_callV (n := 1) C zXX_ok zTs_good hbc hbs (show zget zprog 172 = some mX8_goNight from rfl) rfl rfl (show vwCl[8]? = some (RX8, TX8, 51) from rfl) zw1492 zw1489 zw1491 zs120 zw16 (by decide +kernel) dX8_goNights_9)
    (zr_n (zr_n (zr_s (zk_inc (n := .ofNat 1) C dX8_goNights_12 (by decide) (by decide))
    (zr_n (zr_n (zr_s (zk_goto C dX8_goNights_15 (by decide))
    zr_0))))))))))))))))
  (zrs_c (zr_n (zr_n (zr_s (zk_ret0 C hbc hbs rfl dX8_goNights_18)
    zr_0)))
  zrs_0))
set_option maxRecDepth 100000 in
set_option maxHeartbeats 4000000 in
theorem okX8_hard {l : Launch} {D : va_G} {tys : List (ClassId × FieldType)} {o : zO} {z : Nat} (E : zEnv tys) : zCodeOk l D vwCl tys o z (zXX o z) zTs zprog mX8_hard := by
  intro p e R s m args below meth c0 Q ws0 hbc hbs C pc sem h
  replace hbc : R.cells = 0 := hbc
  replace hbs : R.slots = 0 := hbs
  replace C : zCx p R s m args meth c0 D vwCl tys z (zXX o z) zTs RX8 cX8_hard 3 "hard" := C
  refine zRows_get (P := fun pc sem => zOp p l e R s m args below meth c0 Q D vwCl tys o z (zXX o z) zTs zprog ws0 3 cX8_hard (some .int) pc sem) (c := kX8_hard) ?_ h
  unfold kX8_hard
  exact (zrs_c (zr_s (zq_aload_n C dX8_hard_0 rfl)
    (zr_s (zq_iconst (n := .ofNat 0) C dX8_hard_1 (by decide))
    (zr_s (zq_put (k := 11) C dX8_hard_2 (show vwCl[8]? = some (RX8, TX8, 51) from rfl) zinX8 tyX8 tyX8_ok nmX8 (by decide) zw1183 rfl (ty := .int) (by decide +kernel) rfl)
    (zr_n (zr_n (zr_s (zq_aload_n C dX8_hard_5 rfl)
    (zr_s (zq_iload_n C dX8_hard_6 rfl)
    (zr_s (zk_callV (n := 1) C zXX_ok zTs_good hbc hbs (show zget zprog 185 = some mX8_isMan from rfl) rfl rfl (show vwCl[8]? = some (RX8, TX8, 51) from rfl) zw1423 zw1420 zw1422 zs112 zw16 (by decide +kernel) dX8_hard_7)
    (zr_n (zr_n (zr_s (zq_if_eq C dX8_hard_10 (by decide))
    (zr_n (zr_n (zr_n (zr_n (zr_n zr_0))))))))))))))))
  (zrs_c (zr_n (zr_n (zr_n (zr_n (zr_n (zr_n (zr_n (zr_n (zr_n (zr_n (zr_n (zr_n (zr_n (zr_n (zr_n (zr_n zr_0))))))))))))))))
  (zrs_c (zr_n (zr_s (zq_iconst (n := .negSucc 0) C dX8_hard_33 (by decide))
    (zr_s (zk_ret1 (ty := .int) C hbc hbs rfl rfl (Or.inl ⟨dX8_hard_34, by decide⟩))
    zr_0)))
  zrs_0)))
set_option maxRecDepth 100000 in
set_option maxHeartbeats 4000000 in
theorem okX8_hardOfRota {l : Launch} {D : va_G} {tys : List (ClassId × FieldType)} {o : zO} {z : Nat} (E : zEnv tys) : zCodeOk l D vwCl tys o z (zXX o z) zTs zprog mX8_hardOfRota := by
  intro p e R s m args below meth c0 Q ws0 hbc hbs C pc sem h
  replace hbc : R.cells = 0 := hbc
  replace hbs : R.slots = 0 := hbs
  replace C : zCx p R s m args meth c0 D vwCl tys z (zXX o z) zTs RX8 cX8_hardOfRota 3 "hardOfRota" := C
  refine zRows_get (P := fun pc sem => zOp p l e R s m args below meth c0 Q D vwCl tys o z (zXX o z) zTs zprog ws0 3 cX8_hardOfRota (some .int) pc sem) (c := kX8_hardOfRota) ?_ h
  unfold kX8_hardOfRota
  exact (zrs_c (zr_s (zq_iconst (n := .ofNat 0) C dX8_hardOfRota_0 (by decide))
    (zr_s (zq_istore_n C dX8_hardOfRota_1 rfl (by decide))
    (zr_s (zq_iconst (n := .ofNat 0) C dX8_hardOfRota_2 (by decide))
    (zr_s (zq_istore_n C dX8_hardOfRota_3 rfl (by decide))
    (zr_s (zq_iload_n C dX8_hardOfRota_4 rfl)
    (zr_s (zq_aload_n C dX8_hardOfRota_5 rfl)
    (zr_s (zq_get (k := 1) C dX8_hardOfRota_6 (show vwCl[8]? = some (RX8, TX8, 51) from rfl) zinX8 (by decide) zw1173)
    (zr_n (zr_n (zr_s (zq_icmp_ge C dX8_hardOfRota_9 (by decide))
    (zr_n (zr_n (zr_s (zq_iload_n C dX8_hardOfRota_12 rfl)
    (zr_s (zq_aload_n C dX8_hardOfRota_13 rfl)
    (zr_s (zq_get (k := 0) C dX8_hardOfRota_14 (show vwCl[8]? = some (RX8, TX8, 51) from rfl) zinX8 (by decide) zw1172)
    (zr_n zr_0))))))))))))))))
  (zrs_c (zr_n (zr_s (zq_iload_n C dX8_hardOfRota_17 rfl)
    (zr_s (zk_iald C dX8_hardOfRota_18)
    (zr_s (zq_iconst (n := .negSucc 0) C dX8_hardOfRota_19 (by decide))
    (zr_s (zq_icmp_ne C dX8_hardOfRota_20 (by decide))
    (zr_n (zr_n (zr_s (zq_iconst (n := .ofNat 0) C dX8_hardOfRota_23 (by decide))
    (zr_s (zk_goto C dX8_hardOfRota_24 (by decide))
    (zr_n (zr_n (zr_n (zr_n (zr_n (zr_n (zr_n zr_0))))))))))))))))
  (zrs_c (zr_n (zr_n (zr_n (zr_n (zr_n (zr_n (zr_n (zr_n (zr_n (zr_n (zr_s (zk_add C dX8_hardOfRota_42)
    (zr_s (zq_istore_n C dX8_hardOfRota_43 rfl (by decide))
    (zr_s (zk_inc (n := .ofNat 1) C dX8_hardOfRota_44 (by decide) (by decide))
    (zr_n (zr_n (zr_s (zk_goto C dX8_hardOfRota_47 (by decide))
    zr_0))))))))))))))))
  (zrs_c (zr_n (zr_n (zr_s (zq_iload_n C dX8_hardOfRota_50 rfl)
    (zr_s (zk_ret1 (ty := .int) C hbc hbs rfl rfl (Or.inl ⟨dX8_hardOfRota_51, by decide⟩))
    zr_0))))
  zrs_0))))
set_option maxRecDepth 100000 in
set_option maxHeartbeats 4000000 in
theorem okX8_held {l : Launch} {D : va_G} {tys : List (ClassId × FieldType)} {o : zO} {z : Nat} (E : zEnv tys) : zCodeOk l D vwCl tys o z (zXX o z) zTs zprog mX8_held := by
  intro p e R s m args below meth c0 Q ws0 hbc hbs C pc sem h
  replace hbc : R.cells = 0 := hbc
  replace hbs : R.slots = 0 := hbs
  replace C : zCx p R s m args meth c0 D vwCl tys z (zXX o z) zTs RX8 cX8_held 2 "held" := C
  refine zRows_get (P := fun pc sem => zOp p l e R s m args below meth c0 Q D vwCl tys o z (zXX o z) zTs zprog ws0 2 cX8_held (some .int) pc sem) (c := kX8_held) ?_ h
  unfold kX8_held
  exact (zrs_c (zr_s (zq_aload_n C dX8_held_0 rfl)
    (zr_s (zq_iconst (n := .ofNat 0) C dX8_held_1 (by decide))
    (zr_s (zq_put (k := 11) C dX8_held_2 (show vwCl[8]? = some (RX8, TX8, 51) from rfl) zinX8 tyX8 tyX8_ok nmX8 (by decide) zw1183 rfl (ty := .int) (by decide +kernel) rfl)
    (zr_n (zr_n (zr_s (zq_iload_n C dX8_held_5 rfl)
    (zr_s (zq_iconst (n := .ofNat 0) C dX8_held_6 (by decide))
    (zr_s (zq_bipush (n := .ofNat 10) C dX8_held_7 (by decide) (by decide))
    (zr_n (zr_s (zk_callS C zXX_ok zTs_good hbc hbs (show zget zprog 181 = some mX8_in from rfl) rfl rfl zw1340 zw1338 zw1339 zw16 (by decide +kernel) dX8_held_9)
    (zr_n (zr_n (zr_s (zq_if_ne C dX8_held_12 (by decide))
    (zr_n (zr_n (zr_s (zq_iconst (n := .negSucc 0) C dX8_held_15 (by decide))
    zr_0))))))))))))))))
  (zrs_c (zr_s (zk_ret1 (ty := .int) C hbc hbs rfl rfl (Or.inl ⟨dX8_held_16, by decide⟩))
    (zr_s (zq_aload_n C dX8_held_17 rfl)
    (zr_s (zk_callV (n := 0) C zXX_ok zTs_good hbc hbs (show zget zprog 192 = some mX8_layCanBe from rfl) rfl rfl (show vwCl[8]? = some (RX8, TX8, 51) from rfl) zw1616 zw1613 zw1615 zs140 zw16 (by decide +kernel) dX8_held_18)
    (zr_n (zr_n (zr_s (zq_aload_n C dX8_held_21 rfl)
    (zr_s (zq_aload_n C dX8_held_22 rfl)
    (zr_s (zq_aload_n C dX8_held_23 rfl)
    (zr_s (zk_callV (n := 0) C zXX_ok zTs_good hbc hbs (show zget zprog 232 = some mX8_well from rfl) rfl rfl (show vwCl[8]? = some (RX8, TX8, 51) from rfl) zw1735 zw1732 zw1734 zs148 zw16 (by decide +kernel) dX8_held_24)
    (zr_n (zr_n (zr_s (zq_iload_n C dX8_held_27 rfl)
    (zr_s (zk_callV (n := 2) C zXX_ok zTs_good hbc hbs (show zget zprog 177 = some mX8_heldParts from rfl) rfl rfl (show vwCl[8]? = some (RX8, TX8, 51) from rfl) zw1739 zw1736 zw1738 zs149 zw16 (by decide +kernel) dX8_held_28)
    (zr_n (zr_n (zr_s (zq_ldc2 (n := .ofNat 10) C dX8_held_31 zw1743 (by decide +kernel))
    zr_0))))))))))))))))
  (zrs_c (zr_n (zr_n (zr_s (zq_aload_n C dX8_held_34 rfl)
    (zr_s (zk_callV (n := 0) C zXX_ok zTs_good hbc hbs (show zget zprog 232 = some mX8_well from rfl) rfl rfl (show vwCl[8]? = some (RX8, TX8, 51) from rfl) zw1735 zw1732 zw1734 zs148 zw16 (by decide +kernel) dX8_held_35)
    (zr_n (zr_n (zr_s (zk_callS C zXX_ok zTs_good hbc hbs (show zget zprog 14 = some mJ6_bitCount_0f7a4 from rfl) rfl rfl zw564 zw1443 zw563 zw21 (by decide +kernel) dX8_held_38)
    (zr_n (zr_n (zr_s (zk_callS C zXX_ok zTs_good hbc hbs (show zget zprog 203 = some mX8_power from rfl) rfl rfl zw1742 zw1740 zw1741 zw16 (by decide +kernel) dX8_held_41)
    (zr_n (zr_n (zr_s (zk_callV (n := 2) C zXX_ok zTs_good hbc hbs (show zget zprog 223 = some mX8_tellPart from rfl) rfl rfl (show vwCl[8]? = some (RX8, TX8, 51) from rfl) zw1720 zw1717 zw1719 zs147 zw16 (by decide +kernel) dX8_held_44)
    (zr_n (zr_n (zr_s (zq_iconst (n := .ofNat 0) C dX8_held_47 (by decide))
    zr_0))))))))))))))))
  (zrs_c (zr_s (zk_ret1 (ty := .int) C hbc hbs rfl rfl (Or.inl ⟨dX8_held_48, by decide⟩))
    zr_0)
  zrs_0))))
set_option maxRecDepth 100000 in
set_option maxHeartbeats 4000000 in
theorem okX8_heldParts {l : Launch} {D : va_G} {tys : List (ClassId × FieldType)} {o : zO} {z : Nat} (E : zEnv tys) : zCodeOk l D vwCl tys o z (zXX o z) zTs zprog mX8_heldParts := by
  intro p e R s m args below meth c0 Q ws0 hbc hbs C pc sem h
  replace hbc : R.cells = 0 := hbc
  replace hbs : R.slots = 0 := hbs
  replace C : zCx p R s m args meth c0 D vwCl tys z (zXX o z) zTs RX8 cX8_heldParts 8 "heldParts" := C
  refine zRows_get (P := fun pc sem => zOp p l e R s m args below meth c0 Q D vwCl tys o z (zXX o z) zTs zprog ws0 8 cX8_heldParts (some .long) pc sem) (c := kX8_heldParts) ?_ h
  unfold kX8_heldParts
  exact (zrs_c (zr_s (zq_lconst (n := .ofNat 0) C dX8_heldParts_0 (by decide) (by decide))
    (zr_s (zq_lstore_n C dX8_heldParts_1 rfl (by decide))
    (zr_s (zq_iload_n C dX8_heldParts_2 rfl)
    (zr_s (zk_callS C zXX_ok zTs_good hbc hbs (show zget zprog 14 = some mJ6_bitCount_0f7a4 from rfl) rfl rfl zw564 zw1443 zw563 zw21 (by decide +kernel) dX8_heldParts_3)
    (zr_n (zr_n (zr_s (zq_istore C dX8_heldParts_6 (by decide))
    (zr_n (zr_s (zq_iconst (n := .ofNat 0) C dX8_heldParts_8 (by decide))
    (zr_s (zq_istore C dX8_heldParts_9 (by decide))
    (zr_n (zr_s (zq_iload C dX8_heldParts_11)
    (zr_n (zr_s (zq_iload_n C dX8_heldParts_13 rfl)
    (zr_s (zq_icmp_gt C dX8_heldParts_14 (by decide))
    (zr_n zr_0))))))))))))))))
  (zrs_c (zr_n (zr_s (zq_iload C dX8_heldParts_17)
    (zr_n (zr_s (zq_iload_n C dX8_heldParts_19 rfl)
    (zr_s (zq_iconst (n := .negSucc 0) C dX8_heldParts_20 (by decide))
    (zr_s (zq_ixor C dX8_heldParts_21)
    (zr_s (zq_iand C dX8_heldParts_22)
    (zr_s (zq_if_ne C dX8_heldParts_23 (by decide))
    (zr_n (zr_n (zr_s (zq_aload_n C dX8_heldParts_26 rfl)
    (zr_s (zq_get (k := 41) C dX8_heldParts_27 (show vwCl[8]? = some (RX8, TX8, 51) from rfl) zinX8 (by decide) zw1213)
    (zr_n (zr_n (zr_s (zq_iload C dX8_heldParts_30)
    (zr_n zr_0))))))))))))))))
  (zrs_c (zr_s (zk_bald C dX8_heldParts_32)
    (zr_s (zq_if_ne C dX8_heldParts_33 (by decide))
    (zr_n (zr_n (zr_s (zk_goto C dX8_heldParts_36 (by decide))
    (zr_n (zr_n (zr_n (zr_n (zr_n (zr_n (zr_n (zr_n (zr_n (zr_n (zr_n zr_0))))))))))))))))
  (zrs_c (zr_n (zr_n (zr_n (zr_n (zr_n (zr_n (zr_n (zr_n (zr_n (zr_n (zr_n (zr_n (zr_n (zr_n (zr_n (zr_n zr_0))))))))))))))))
  (zrs_c (zr_n (zr_n (zr_n (zr_n (zr_n (zr_n (zr_s (zk_inc (n := .ofNat 1) C dX8_heldParts_70 (by decide) (by decide))
    (zr_n (zr_n (zr_s (zk_goto C dX8_heldParts_73 (by decide))
    (zr_n (zr_n (zr_s (zq_lload_n C dX8_heldParts_76 rfl)
    (zr_s (zk_ret1 C hbc hbs rfl rfl (Or.inr ⟨dX8_heldParts_77, rfl⟩))
    zr_0))))))))))))))
  zrs_0)))))
set_option maxRecDepth 100000 in
set_option maxHeartbeats 4000000 in
theorem okX8_here {l : Launch} {D : va_G} {tys : List (ClassId × FieldType)} {o : zO} {z : Nat} (E : zEnv tys) : zCodeOk l D vwCl tys o z (zXX o z) zTs zprog mX8_here := by
  intro p e R s m args below meth c0 Q ws0 hbc hbs C pc sem h
  replace hbc : R.cells = 0 := hbc
  replace hbs : R.slots = 0 := hbs
  replace C : zCx p R s m args meth c0 D vwCl tys z (zXX o z) zTs RX8 cX8_here 1 "here" := C
  refine zRows_get (P := fun pc sem => zOp p l e R s m args below meth c0 Q D vwCl tys o z (zXX o z) zTs zprog ws0 1 cX8_here (some .int) pc sem) (c := kX8_here) ?_ h
  unfold kX8_here
  exact (zrs_c (zr_s (zq_aload_n C dX8_here_0 rfl)
    (zr_s (zq_get (k := 15) C dX8_here_1 (show vwCl[8]? = some (RX8, TX8, 51) from rfl) zinX8 (by decide) zw1187)
    (zr_n (zr_n (zr_s (zq_aload_n C dX8_here_4 rfl)
    (zr_s (zq_get (k := 13) C dX8_here_5 (show vwCl[8]? = some (RX8, TX8, 51) from rfl) zinX8 (by decide) zw1185)
    (zr_n (zr_n (zr_s (zq_icmp_ge C dX8_here_8 (by decide))
    (zr_n (zr_n (zr_n (zr_n (zr_n (zr_n (zr_n zr_0))))))))))))))))
  (zrs_c (zr_n (zr_n (zr_n (zr_n (zr_n (zr_n (zr_n (zr_n (zr_n (zr_n (zr_n (zr_n (zr_n (zr_n (zr_n (zr_n zr_0))))))))))))))))
  (zrs_c (zr_n (zr_n (zr_n (zr_n (zr_n (zr_n (zr_s (zq_iconst (n := .negSucc 0) C dX8_here_38 (by decide))
    (zr_s (zk_ret1 (ty := .int) C hbc hbs rfl rfl (Or.inl ⟨dX8_here_39, by decide⟩))
    zr_0))))))))
  zrs_0)))
set_option maxRecDepth 100000 in
set_option maxHeartbeats 4000000 in
theorem okX8_ill {l : Launch} {D : va_G} {tys : List (ClassId × FieldType)} {o : zO} {z : Nat} (E : zEnv tys) : zCodeOk l D vwCl tys o z (zXX o z) zTs zprog mX8_ill := by
  intro p e R s m args below meth c0 Q ws0 hbc hbs C pc sem h
  replace hbc : R.cells = 0 := hbc
  replace hbs : R.slots = 0 := hbs
  replace C : zCx p R s m args meth c0 D vwCl tys z (zXX o z) zTs RX8 cX8_ill 2 "ill" := C
  refine zRows_get (P := fun pc sem => zOp p l e R s m args below meth c0 Q D vwCl tys o z (zXX o z) zTs zprog ws0 2 cX8_ill (some .int) pc sem) (c := kX8_ill) ?_ h
  unfold kX8_ill
  exact (zrs_c (zr_s (zq_aload_n C dX8_ill_0 rfl)
    (zr_s (zq_iconst (n := .ofNat 0) C dX8_ill_1 (by decide))
    (zr_s (zq_put (k := 11) C dX8_ill_2 (show vwCl[8]? = some (RX8, TX8, 51) from rfl) zinX8 tyX8 tyX8_ok nmX8 (by decide) zw1183 rfl (ty := .int) (by decide +kernel) rfl)
    (zr_n (zr_n (zr_s (zq_aload_n C dX8_ill_5 rfl)
    (zr_s (zq_iload_n C dX8_ill_6 rfl)
    (zr_s (zk_callV (n := 1) C zXX_ok zTs_good hbc hbs (show zget zprog 185 = some mX8_isMan from rfl) rfl rfl (show vwCl[8]? = some (RX8, TX8, 51) from rfl) zw1423 zw1420 zw1422 zs112 zw16 (by decide +kernel) dX8_ill_7)
    (zr_n (zr_n (zr_s (zq_if_ne C dX8_ill_10 (by decide))
    (zr_n (zr_n (zr_s (zq_iconst (n := .negSucc 0) C dX8_ill_13 (by decide))
    (zr_s (zk_ret1 (ty := .int) C hbc hbs rfl rfl (Or.inl ⟨dX8_ill_14, by decide⟩))
    (zr_n zr_0))))))))))))))))
  (zrs_c (zr_n (zr_n (zr_n (zr_n (zr_n (zr_n (zr_n (zr_n (zr_n (zr_n (zr_n (zr_n (zr_n (zr_n (zr_n (zr_n zr_0))))))))))))))))
  (zrs_c (zr_n (zr_n (zr_n (zr_n (zr_n (zr_n (zr_n (zr_n (zr_n (zr_n (zr_n (zr_n (zr_n (zr_n (zr_n (zr_n zr_0))))))))))))))))
  (zrs_c (zr_n (zr_n (zr_n (zr_n (zr_n (zr_n (zr_n zr_0)))))))
  zrs_0))))
set_option maxRecDepth 100000 in
set_option maxHeartbeats 4000000 in
theorem okX8_illBits {l : Launch} {D : va_G} {tys : List (ClassId × FieldType)} {o : zO} {z : Nat} (E : zEnv tys) : zCodeOk l D vwCl tys o z (zXX o z) zTs zprog mX8_illBits := by
  intro p e R s m args below meth c0 Q ws0 hbc hbs C pc sem h
  replace hbc : R.cells = 0 := hbc
  replace hbs : R.slots = 0 := hbs
  replace C : zCx p R s m args meth c0 D vwCl tys z (zXX o z) zTs RX8 cX8_illBits 4 "illBits" := C
  refine zRows_get (P := fun pc sem => zOp p l e R s m args below meth c0 Q D vwCl tys o z (zXX o z) zTs zprog ws0 4 cX8_illBits (some .int) pc sem) (c := kX8_illBits) ?_ h
  unfold kX8_illBits
  exact (zrs_c (zr_s (zq_iconst (n := .ofNat 0) C dX8_illBits_0 (by decide))
    (zr_s (zq_istore_n C dX8_illBits_1 rfl (by decide))
    (zr_s (zq_iconst (n := .ofNat 0) C dX8_illBits_2 (by decide))
    (zr_s (zq_istore_n C dX8_illBits_3 rfl (by decide))
    (zr_s (zq_iload_n C dX8_illBits_4 rfl)
    (zr_s (zq_aload_n C dX8_illBits_5 rfl)
    (zr_s (zq_get (k := 3) C dX8_illBits_6 (show vwCl[8]? = some (RX8, TX8, 51) from rfl) zinX8 (by decide) zw1175)
    (zr_n (zr_n (zr_s (zq_icmp_ge C dX8_illBits_9 (by decide))
    (zr_n (zr_n (zr_n (zr_n (zr_n (zr_n zr_0))))))))))))))))
  (zrs_c (zr_n (zr_n (zr_n (zr_n (zr_n (zr_n (zr_n (zr_n (zr_n (zr_n (zr_n (zr_n (zr_n (zr_s (zq_iload_n C dX8_illBits_29 rfl)
    (zr_s (zk_ret1 (ty := .int) C hbc hbs rfl rfl (Or.inl ⟨dX8_illBits_30, by decide⟩))
    zr_0)))))))))))))))
  zrs_0))
set_option maxRecDepth 100000 in
set_option maxHeartbeats 4000000 in
theorem okX8_in {l : Launch} {D : va_G} {tys : List (ClassId × FieldType)} {o : zO} {z : Nat} (E : zEnv tys) : zCodeOk l D vwCl tys o z (zXX o z) zTs zprog mX8_in := by
  intro p e R s m args below meth c0 Q ws0 hbc hbs C pc sem h
  replace hbc : R.cells = 0 := hbc
  replace hbs : R.slots = 0 := hbs
  replace C : zCx p R s m args meth c0 D vwCl tys z (zXX o z) zTs RX8 cX8_in 3 "in" := C
  refine zRows_get (P := fun pc sem => zOp p l e R s m args below meth c0 Q D vwCl tys o z (zXX o z) zTs zprog ws0 3 cX8_in (some .boolean) pc sem) (c := kX8_in) ?_ h
  unfold kX8_in
  exact (zrs_c (zr_s (zq_iload_n C dX8_in_0 rfl)
    (zr_s (zq_iload_n C dX8_in_1 rfl)
    (zr_s (zq_icmp_lt C dX8_in_2 (by decide))
    (zr_n (zr_n (zr_s (zq_iload_n C dX8_in_5 rfl)
    (zr_s (zq_iload_n C dX8_in_6 rfl)
    (zr_s (zq_icmp_gt C dX8_in_7 (by decide))
    (zr_n (zr_n (zr_s (zq_iconst (n := .ofNat 1) C dX8_in_10 (by decide))
    (zr_s (zk_goto C dX8_in_11 (by decide))
    (zr_n (zr_n (zr_s (zq_iconst (n := .ofNat 0) C dX8_in_14 (by decide))
    (zr_s (zk_ret1 (ty := .boolean) C hbc hbs rfl rfl (Or.inl ⟨dX8_in_15, by decide⟩))
    zr_0))))))))))))))))
  zrs_0)
set_option maxRecDepth 100000 in
set_option maxHeartbeats 4000000 in
theorem okX8_init {l : Launch} {D : va_G} {tys : List (ClassId × FieldType)} {o : zO} {z : Nat} (E : zEnv tys) : zCodeOk l D vwCl tys o z (zXX o z) zTs zprog mX8_init := by
  intro p e R s m args below meth c0 Q ws0 hbc hbs C pc sem h
  replace hbc : R.cells = 30 := hbc
  replace hbs : R.slots = 5942 := hbs
  replace C : zCx p R s m args meth c0 D vwCl tys z (zXX o z) zTs RX8 cX8_init 2 "<init>" := C
  refine zRows_get (P := fun pc sem => zOp p l e R s m args below meth c0 Q D vwCl tys o z (zXX o z) zTs zprog ws0 2 cX8_init none pc sem) (c := kX8_init) ?_ h
  unfold kX8_init
  exact (zrs_c (zr_s (zq_aload_n C dX8_init_0 rfl)
    (zr_s (zk_objInit C dX8_init_1 zw1170 zw29 zw30)
    (zr_n (zr_n (zr_s (zq_aload_n C dX8_init_4 rfl)
    (zr_s (zq_bipush (n := .ofNat 27) C dX8_init_5 (by decide) (by decide))
    (zr_n (zr_s (zq_newI C hbc hbs dX8_init_7 zw47 E.1)
    (zr_n (zr_s (zq_putF (k := 0) C dX8_init_9 (show vwCl[8]? = some (RX8, TX8, 51) from rfl) zinX8 tyX8 tyX8_ok nmX8 (by decide) zw1172 rfl rfl rfl (ty := (.array .int)) (by decide +kernel) rfl)
    (zr_n (zr_n (zr_s (zq_aload_n C dX8_init_12 rfl)
    (zr_s (zq_bipush (n := .ofNat 8) C dX8_init_13 (by decide) (by decide))
    (zr_n (zr_s (zq_put (k := 1) C dX8_init_15 (show vwCl[8]? = some (RX8, TX8, 51) from rfl) zinX8 tyX8 tyX8_ok nmX8 (by decide) zw1173 rfl (ty := .int) (by decide +kernel) rfl)
    zr_0))))))))))))))))
  (zrs_c (zr_n (zr_n (zr_s (zq_aload_n C dX8_init_18 rfl)
    (zr_s (zq_iconst (n := .ofNat 4) C dX8_init_19 (by decide))
    (zr_s (zq_put (k := 2) C dX8_init_20 (show vwCl[8]? = some (RX8, TX8, 51) from rfl) zinX8 tyX8 tyX8_ok nmX8 (by decide) zw1174 rfl (ty := .int) (by decide +kernel) rfl)
    (zr_n (zr_n (zr_s (zq_aload_n C dX8_init_23 rfl)
    (zr_s (zq_bipush (n := .ofNat 8) C dX8_init_24 (by decide) (by decide))
    (zr_n (zr_s (zq_newI C hbc hbs dX8_init_26 zw47 E.1)
    (zr_n (zr_s (zq_putF (k := 4) C dX8_init_28 (show vwCl[8]? = some (RX8, TX8, 51) from rfl) zinX8 tyX8 tyX8_ok nmX8 (by decide) zw1176 rfl rfl rfl (ty := (.array .int)) (by decide +kernel) rfl)
    (zr_n (zr_n (zr_s (zq_aload_n C dX8_init_31 rfl)
    zr_0))))))))))))))))
  (zrs_c (zr_s (zq_bipush (n := .ofNat 8) C dX8_init_32 (by decide) (by decide))
    (zr_n (zr_s (zq_newI C hbc hbs dX8_init_34 zw47 E.1)
    (zr_n (zr_s (zq_putF (k := 5) C dX8_init_36 (show vwCl[8]? = some (RX8, TX8, 51) from rfl) zinX8 tyX8 tyX8_ok nmX8 (by decide) zw1177 rfl rfl rfl (ty := (.array .int)) (by decide +kernel) rfl)
    (zr_n (zr_n (zr_s (zq_aload_n C dX8_init_39 rfl)
    (zr_s (zq_bipush (n := .ofNat 8) C dX8_init_40 (by decide) (by decide))
    (zr_n (zr_s (zq_newI C hbc hbs dX8_init_42 zw47 E.1)
    (zr_n (zr_s (zq_putF (k := 6) C dX8_init_44 (show vwCl[8]? = some (RX8, TX8, 51) from rfl) zinX8 tyX8 tyX8_ok nmX8 (by decide) zw1178 rfl rfl rfl (ty := (.array .int)) (by decide +kernel) rfl)
    (zr_n (zr_n (zr_s (zq_aload_n C dX8_init_47 rfl)
    zr_0))))))))))))))))
  (zrs_c (zr_s (zq_bipush (n := .ofNat 80) C dX8_init_48 (by decide) (by decide))
    (zr_n (zr_s (zq_newB C hbc hbs dX8_init_50 zw245 E.2.2.2.1)
    (zr_n (zr_s (zq_putF (k := 7) C dX8_init_52 (show vwCl[8]? = some (RX8, TX8, 51) from rfl) zinX8 tyX8 tyX8_ok nmX8 (by decide) zw1179 rfl rfl rfl (ty := (.array .byte)) (by decide +kernel) rfl)
    (zr_n (zr_n (zr_s (zq_aload_n C dX8_init_55 rfl)
    (zr_s (zq_bipush (n := .ofNat 16) C dX8_init_56 (by decide) (by decide))
    (zr_n (zr_s (zq_newJ C hbc hbs dX8_init_58 zw406 E.2.1)
    (zr_n (zr_s (zq_putF (k := 9) C dX8_init_60 (show vwCl[8]? = some (RX8, TX8, 51) from rfl) zinX8 tyX8 tyX8_ok nmX8 (by decide) zw1181 rfl rfl rfl (ty := (.array .long)) (by decide +kernel) rfl)
    (zr_n (zr_n (zr_s (zq_aload_n C dX8_init_63 rfl)
    zr_0))))))))))))))))
  (zrs_c (zr_s (zq_bipush (n := .ofNat 24) C dX8_init_64 (by decide) (by decide))
    (zr_n (zr_s (zq_newI C hbc hbs dX8_init_66 zw47 E.1)
    (zr_n (zr_s (zq_putF (k := 17) C dX8_init_68 (show vwCl[8]? = some (RX8, TX8, 51) from rfl) zinX8 tyX8 tyX8_ok nmX8 (by decide) zw1189 rfl rfl rfl (ty := (.array .int)) (by decide +kernel) rfl)
    (zr_n (zr_n (zr_s (zq_aload_n C dX8_init_71 rfl)
    (zr_s (zq_bipush (n := .ofNat 40) C dX8_init_72 (by decide) (by decide))
    (zr_n (zr_s (zq_newB C hbc hbs dX8_init_74 zw245 E.2.2.2.1)
    (zr_n (zr_s (zq_put (k := 18) C dX8_init_76 (show vwCl[8]? = some (RX8, TX8, 51) from rfl) zinX8 tyX8 tyX8_ok nmX8 (by decide) zw1190 rfl (ty := (.array .byte)) (by decide +kernel) rfl)
    (zr_n (zr_n (zr_s (zq_aload_n C dX8_init_79 rfl)
    zr_0))))))))))))))))
  (zrs_c (zr_s (zq_bipush (n := .ofNat 40) C dX8_init_80 (by decide) (by decide))
    (zr_n (zr_s (zq_newB C hbc hbs dX8_init_82 zw245 E.2.2.2.1)
    (zr_n (zr_s (zq_put (k := 19) C dX8_init_84 (show vwCl[8]? = some (RX8, TX8, 51) from rfl) zinX8 tyX8 tyX8_ok nmX8 (by decide) zw1191 rfl (ty := (.array .byte)) (by decide +kernel) rfl)
    (zr_n (zr_n (zr_s (zq_aload_n C dX8_init_87 rfl)
    (zr_s (zq_bipush (n := .ofNat 7) C dX8_init_88 (by decide) (by decide))
    (zr_n (zr_s (zq_newI C hbc hbs dX8_init_90 zw47 E.1)
    (zr_n (zr_s (zq_putF (k := 22) C dX8_init_92 (show vwCl[8]? = some (RX8, TX8, 51) from rfl) zinX8 tyX8 tyX8_ok nmX8 (by decide) zw1194 rfl rfl rfl (ty := (.array .int)) (by decide +kernel) rfl)
    (zr_n (zr_n (zr_s (zq_aload_n C dX8_init_95 rfl)
    zr_0))))))))))))))))
  (zrs_c (zr_s (zq_sipush (n := .ofNat 324) C dX8_init_96 (by decide) (by decide))
    (zr_n (zr_n (zr_s (zq_newI C hbc hbs dX8_init_99 zw47 E.1)
    (zr_n (zr_s (zq_putF (k := 23) C dX8_init_101 (show vwCl[8]? = some (RX8, TX8, 51) from rfl) zinX8 tyX8 tyX8_ok nmX8 (by decide) zw1195 rfl rfl rfl (ty := (.array .int)) (by decide +kernel) rfl)
    (zr_n (zr_n (zr_s (zq_aload_n C dX8_init_104 rfl)
    (zr_s (zq_bipush (n := .ofNat 27) C dX8_init_105 (by decide) (by decide))
    (zr_n (zr_s (zq_newI C hbc hbs dX8_init_107 zw47 E.1)
    (zr_n (zr_s (zq_putF (k := 25) C dX8_init_109 (show vwCl[8]? = some (RX8, TX8, 51) from rfl) zinX8 tyX8 tyX8_ok nmX8 (by decide) zw1197 rfl rfl rfl (ty := (.array .int)) (by decide +kernel) rfl)
    (zr_n (zr_n zr_0))))))))))))))))
  (zrs_c (zr_s (zq_aload_n C dX8_init_112 rfl)
    (zr_s (zq_bipush (n := .ofNat 27) C dX8_init_113 (by decide) (by decide))
    (zr_n (zr_s (zq_newI C hbc hbs dX8_init_115 zw47 E.1)
    (zr_n (zr_s (zq_putF (k := 26) C dX8_init_117 (show vwCl[8]? = some (RX8, TX8, 51) from rfl) zinX8 tyX8 tyX8_ok nmX8 (by decide) zw1198 rfl rfl rfl (ty := (.array .int)) (by decide +kernel) rfl)
    (zr_n (zr_n (zr_s (zq_aload_n C dX8_init_120 rfl)
    (zr_s (zq_bipush (n := .ofNat 8) C dX8_init_121 (by decide) (by decide))
    (zr_n (zr_s (zq_newI C hbc hbs dX8_init_123 zw47 E.1)
    (zr_n (zr_s (zq_putF (k := 29) C dX8_init_125 (show vwCl[8]? = some (RX8, TX8, 51) from rfl) zinX8 tyX8 tyX8_ok nmX8 (by decide) zw1201 rfl rfl rfl (ty := (.array .int)) (by decide +kernel) rfl)
    (zr_n (zr_n zr_0))))))))))))))))
  (zrs_c (zr_s (zq_aload_n C dX8_init_128 rfl)
    (zr_s (zq_bipush (n := .ofNat 8) C dX8_init_129 (by decide) (by decide))
    (zr_n (zr_s (zq_newI C hbc hbs dX8_init_131 zw47 E.1)
    (zr_n (zr_s (zq_putF (k := 30) C dX8_init_133 (show vwCl[8]? = some (RX8, TX8, 51) from rfl) zinX8 tyX8 tyX8_ok nmX8 (by decide) zw1202 rfl rfl rfl (ty := (.array .int)) (by decide +kernel) rfl)
    (zr_n (zr_n (zr_s (zq_aload_n C dX8_init_136 rfl)
    (zr_s (zq_sipush (n := .ofNat 240) C dX8_init_137 (by decide) (by decide))
    (zr_n (zr_n (zr_s (zq_newI C hbc hbs dX8_init_140 zw47 E.1)
    (zr_n (zr_s (zq_putF (k := 31) C dX8_init_142 (show vwCl[8]? = some (RX8, TX8, 51) from rfl) zinX8 tyX8 tyX8_ok nmX8 (by decide) zw1203 rfl rfl rfl (ty := (.array .int)) (by decide +kernel) rfl)
    (zr_n zr_0))))))))))))))))
  (zrs_c (zr_n (zr_s (zq_aload_n C dX8_init_145 rfl)
    (zr_s (zq_bipush (n := .ofNat 8) C dX8_init_146 (by decide) (by decide))
    (zr_n (zr_s (zq_newI C hbc hbs dX8_init_148 zw47 E.1)
    (zr_n (zr_s (zq_putF (k := 32) C dX8_init_150 (show vwCl[8]? = some (RX8, TX8, 51) from rfl) zinX8 tyX8 tyX8_ok nmX8 (by decide) zw1204 rfl rfl rfl (ty := (.array .int)) (by decide +kernel) rfl)
    (zr_n (zr_n (zr_s (zq_aload_n C dX8_init_153 rfl)
    (zr_s (zq_bipush (n := .ofNat 8) C dX8_init_154 (by decide) (by decide))
    (zr_n (zr_s (zq_newI C hbc hbs dX8_init_156 zw47 E.1)
    (zr_n (zr_s (zq_putF (k := 33) C dX8_init_158 (show vwCl[8]? = some (RX8, TX8, 51) from rfl) zinX8 tyX8 tyX8_ok nmX8 (by decide) zw1205 rfl rfl rfl (ty := (.array .int)) (by decide +kernel) rfl)
    (zr_n zr_0))))))))))))))))
  (zrs_c (zr_n (zr_s (zq_aload_n C dX8_init_161 rfl)
    (zr_s (zq_bipush (n := .ofNat 8) C dX8_init_162 (by decide) (by decide))
    (zr_n (zr_s (zq_newI C hbc hbs dX8_init_164 zw47 E.1)
    (zr_n (zr_s (zq_putF (k := 34) C dX8_init_166 (show vwCl[8]? = some (RX8, TX8, 51) from rfl) zinX8 tyX8 tyX8_ok nmX8 (by decide) zw1206 rfl rfl rfl (ty := (.array .int)) (by decide +kernel) rfl)
    (zr_n (zr_n (zr_s (zq_aload_n C dX8_init_169 rfl)
    (zr_s (zq_bipush (n := .ofNat 8) C dX8_init_170 (by decide) (by decide))
    (zr_n (zr_s (zq_newI C hbc hbs dX8_init_172 zw47 E.1)
    (zr_n (zr_s (zq_putF (k := 35) C dX8_init_174 (show vwCl[8]? = some (RX8, TX8, 51) from rfl) zinX8 tyX8 tyX8_ok nmX8 (by decide) zw1207 rfl rfl rfl (ty := (.array .int)) (by decide +kernel) rfl)
    (zr_n zr_0))))))))))))))))
  (zrs_c (zr_n (zr_s (zq_aload_n C dX8_init_177 rfl)
    (zr_s (zq_bipush (n := .ofNat 64) C dX8_init_178 (by decide) (by decide))
    (zr_n (zr_s (zq_newI C hbc hbs dX8_init_180 zw47 E.1)
    (zr_n (zr_s (zq_putF (k := 36) C dX8_init_182 (show vwCl[8]? = some (RX8, TX8, 51) from rfl) zinX8 tyX8 tyX8_ok nmX8 (by decide) zw1208 rfl rfl rfl (ty := (.array .int)) (by decide +kernel) rfl)
    (zr_n (zr_n (zr_s (zq_aload_n C dX8_init_185 rfl)
    (zr_s (zq_sipush (n := .ofNat 2304) C dX8_init_186 (by decide) (by decide))
    (zr_n (zr_n (zr_s (zq_newI C hbc hbs dX8_init_189 zw47 E.1)
    (zr_n (zr_s (zq_putF (k := 37) C dX8_init_191 (show vwCl[8]? = some (RX8, TX8, 51) from rfl) zinX8 tyX8 tyX8_ok nmX8 (by decide) zw1209 rfl rfl rfl (ty := (.array .int)) (by decide +kernel) rfl)
    zr_0))))))))))))))))
  (zrs_c (zr_n (zr_n (zr_s (zq_aload_n C dX8_init_194 rfl)
    (zr_s (zq_sipush (n := .ofNat 2304) C dX8_init_195 (by decide) (by decide))
    (zr_n (zr_n (zr_s (zq_newI C hbc hbs dX8_init_198 zw47 E.1)
    (zr_n (zr_s (zq_putF (k := 38) C dX8_init_200 (show vwCl[8]? = some (RX8, TX8, 51) from rfl) zinX8 tyX8 tyX8_ok nmX8 (by decide) zw1210 rfl rfl rfl (ty := (.array .int)) (by decide +kernel) rfl)
    (zr_n (zr_n (zr_s (zq_aload_n C dX8_init_203 rfl)
    (zr_s (zq_ldc (n := .ofNat 1000000000) C dX8_init_204 zw1171 (by decide +kernel))
    (zr_n (zr_s (zq_put (k := 39) C dX8_init_206 (show vwCl[8]? = some (RX8, TX8, 51) from rfl) zinX8 tyX8 tyX8_ok nmX8 (by decide) zw1211 rfl (ty := .int) (by decide +kernel) rfl)
    (zr_n zr_0))))))))))))))))
  (zrs_c (zr_n (zr_s (zq_aload_n C dX8_init_209 rfl)
    (zr_s (zq_bipush (n := .ofNat 8) C dX8_init_210 (by decide) (by decide))
    (zr_n (zr_s (zq_newI C hbc hbs dX8_init_212 zw47 E.1)
    (zr_n (zr_s (zq_putF (k := 40) C dX8_init_214 (show vwCl[8]? = some (RX8, TX8, 51) from rfl) zinX8 tyX8 tyX8_ok nmX8 (by decide) zw1212 rfl rfl rfl (ty := (.array .int)) (by decide +kernel) rfl)
    (zr_n (zr_n (zr_s (zq_aload_n C dX8_init_217 rfl)
    (zr_s (zq_sipush (n := .ofNat 256) C dX8_init_218 (by decide) (by decide))
    (zr_n (zr_n (zr_s (zq_newZ C hbc hbs dX8_init_221 zw244 E.2.2.1)
    (zr_n (zr_s (zq_putF (k := 41) C dX8_init_223 (show vwCl[8]? = some (RX8, TX8, 51) from rfl) zinX8 tyX8 tyX8_ok nmX8 (by decide) zw1213 rfl rfl rfl (ty := (.array .boolean)) (by decide +kernel) rfl)
    zr_0))))))))))))))))
  (zrs_c (zr_n (zr_n (zr_s (zq_aload_n C dX8_init_226 rfl)
    (zr_s (zq_bipush (n := .ofNat 12) C dX8_init_227 (by decide) (by decide))
    (zr_n (zr_s (zq_newI C hbc hbs dX8_init_229 zw47 E.1)
    (zr_n (zr_s (zq_putF (k := 42) C dX8_init_231 (show vwCl[8]? = some (RX8, TX8, 51) from rfl) zinX8 tyX8 tyX8_ok nmX8 (by decide) zw1214 rfl rfl rfl (ty := (.array .int)) (by decide +kernel) rfl)
    (zr_n (zr_n (zr_s (zq_aload_n C dX8_init_234 rfl)
    (zr_s (zq_bipush (n := .ofNat 12) C dX8_init_235 (by decide) (by decide))
    (zr_n (zr_s (zq_newI C hbc hbs dX8_init_237 zw47 E.1)
    (zr_n (zr_s (zq_putF (k := 43) C dX8_init_239 (show vwCl[8]? = some (RX8, TX8, 51) from rfl) zinX8 tyX8 tyX8_ok nmX8 (by decide) zw1215 rfl rfl rfl (ty := (.array .int)) (by decide +kernel) rfl)
    zr_0))))))))))))))))
  (zrs_c (zr_n (zr_n (zr_s (zq_aload_n C dX8_init_242 rfl)
    (zr_s (zq_bipush (n := .ofNat 54) C dX8_init_243 (by decide) (by decide))
    (zr_n (zr_s (zq_newI C hbc hbs dX8_init_245 zw47 E.1)
    (zr_n (zr_s (zq_putF (k := 48) C dX8_init_247 (show vwCl[8]? = some (RX8, TX8, 51) from rfl) zinX8 tyX8 tyX8_ok nmX8 (by decide) zw1220 rfl rfl rfl (ty := (.array .int)) (by decide +kernel) rfl)
    (zr_n (zr_n (zr_s (zq_aload_n C dX8_init_250 rfl)
    (zr_s (zq_iconst (n := .ofNat 2) C dX8_init_251 (by decide))
    (zr_s (zq_newZ C hbc hbs dX8_init_252 zw244 E.2.2.1)
    (zr_n (zr_s (zq_putF (k := 49) C dX8_init_254 (show vwCl[8]? = some (RX8, TX8, 51) from rfl) zinX8 tyX8 tyX8_ok nmX8 (by decide) zw1221 rfl rfl rfl (ty := (.array .boolean)) (by decide +kernel) rfl)
    (zr_n zr_0))))))))))))))))
  (zrs_c (zr_n (zr_s (zq_aload_n C dX8_init_257 rfl)
    (zr_s (zq_iconst (n := .ofNat 2) C dX8_init_258 (by decide))
    (zr_s (zq_newI C hbc hbs dX8_init_259 zw47 E.1)
    (zr_n (zr_s (zq_putF (k := 50) C dX8_init_261 (show vwCl[8]? = some (RX8, TX8, 51) from rfl) zinX8 tyX8 tyX8_ok nmX8 (by decide) zw1222 rfl rfl rfl (ty := (.array .int)) (by decide +kernel) rfl)
    (zr_n (zr_n (zr_s (zq_iconst (n := .ofNat 0) C dX8_init_264 (by decide))
    (zr_s (zq_istore_n C dX8_init_265 rfl (by decide))
    (zr_s (zq_iload_n C dX8_init_266 rfl)
    (zr_s (zq_bipush (n := .ofNat 8) C dX8_init_267 (by decide) (by decide))
    (zr_n (zr_s (zq_icmp_ge C dX8_init_269 (by decide))
    (zr_n (zr_n zr_0))))))))))))))))
  (zrs_c (zr_s (zq_aload_n C dX8_init_272 rfl)
    (zr_s (zq_get (k := 0) C dX8_init_273 (show vwCl[8]? = some (RX8, TX8, 51) from rfl) zinX8 (by decide) zw1172)
    (zr_n (zr_n (zr_s (zq_iload_n C dX8_init_276 rfl)
    (zr_s (zq_iconst (n := .negSucc 0) C dX8_init_277 (by decide))
    (zr_s (zk_iast C dX8_init_278)
    (zr_s (zk_inc (n := .ofNat 1) C dX8_init_279 (by decide) (by decide))
    (zr_n (zr_n (zr_s (zk_goto C dX8_init_282 (by decide))
    (zr_n (zr_n (zr_s (zk_ret0 C hbc hbs rfl dX8_init_285)
    zr_0))))))))))))))
  zrs_0))))))))))))))))))
set_option maxRecDepth 100000 in
set_option maxHeartbeats 4000000 in
theorem okX8_isGift {l : Launch} {D : va_G} {tys : List (ClassId × FieldType)} {o : zO} {z : Nat} (E : zEnv tys) : zCodeOk l D vwCl tys o z (zXX o z) zTs zprog mX8_isGift := by
  intro p e R s m args below meth c0 Q ws0 hbc hbs C pc sem h
  replace hbc : R.cells = 0 := hbc
  replace hbs : R.slots = 0 := hbs
  replace C : zCx p R s m args meth c0 D vwCl tys z (zXX o z) zTs RX8 cX8_isGift 3 "isGift" := C
  refine zRows_get (P := fun pc sem => zOp p l e R s m args below meth c0 Q D vwCl tys o z (zXX o z) zTs zprog ws0 3 cX8_isGift (some .boolean) pc sem) (c := kX8_isGift) ?_ h
  unfold kX8_isGift
  exact (zrs_c (zr_s (zq_iload_n C dX8_isGift_0 rfl)
    (zr_s (zk_callS C zXX_ok zTs_good hbc hbs (show zget zprog 184 = some mX8_isHour from rfl) rfl rfl zw1438 zw1436 zw1437 zw16 (by decide +kernel) dX8_isGift_1)
    (zr_n (zr_n (zr_s (zq_if_eq C dX8_isGift_4 (by decide))
    (zr_n (zr_n (zr_s (zq_iload_n C dX8_isGift_7 rfl)
    (zr_s (zq_iconst (n := .negSucc 0) C dX8_isGift_8 (by decide))
    (zr_s (zq_icmp_eq C dX8_isGift_9 (by decide))
    (zr_n (zr_n (zr_s (zq_aload_n C dX8_isGift_12 rfl)
    (zr_s (zq_iload_n C dX8_isGift_13 rfl)
    (zr_s (zk_callV (n := 1) C zXX_ok zTs_good hbc hbs (show zget zprog 185 = some mX8_isMan from rfl) rfl rfl (show vwCl[8]? = some (RX8, TX8, 51) from rfl) zw1423 zw1420 zw1422 zs112 zw16 (by decide +kernel) dX8_isGift_14)
    (zr_n zr_0))))))))))))))))
  (zrs_c (zr_n (zr_s (zq_if_eq C dX8_isGift_17 (by decide))
    (zr_n (zr_n (zr_s (zq_iconst (n := .ofNat 1) C dX8_isGift_20 (by decide))
    (zr_s (zk_goto C dX8_isGift_21 (by decide))
    (zr_n (zr_n (zr_s (zq_iconst (n := .ofNat 0) C dX8_isGift_24 (by decide))
    (zr_s (zk_ret1 (ty := .boolean) C hbc hbs rfl rfl (Or.inl ⟨dX8_isGift_25, by decide⟩))
    zr_0))))))))))
  zrs_0))
set_option maxRecDepth 100000 in
set_option maxHeartbeats 4000000 in
theorem okX8_isHour {l : Launch} {D : va_G} {tys : List (ClassId × FieldType)} {o : zO} {z : Nat} (E : zEnv tys) : zCodeOk l D vwCl tys o z (zXX o z) zTs zprog mX8_isHour := by
  intro p e R s m args below meth c0 Q ws0 hbc hbs C pc sem h
  replace hbc : R.cells = 0 := hbc
  replace hbs : R.slots = 0 := hbs
  replace C : zCx p R s m args meth c0 D vwCl tys z (zXX o z) zTs RX8 cX8_isHour 1 "isHour" := C
  refine zRows_get (P := fun pc sem => zOp p l e R s m args below meth c0 Q D vwCl tys o z (zXX o z) zTs zprog ws0 1 cX8_isHour (some .boolean) pc sem) (c := kX8_isHour) ?_ h
  unfold kX8_isHour
  exact (zrs_c (zr_s (zq_iload_n C dX8_isHour_0 rfl)
    (zr_s (zq_iconst (n := .ofNat 0) C dX8_isHour_1 (by decide))
    (zr_s (zq_bipush (n := .ofNat 7) C dX8_isHour_2 (by decide) (by decide))
    (zr_n (zr_s (zk_callS C zXX_ok zTs_good hbc hbs (show zget zprog 181 = some mX8_in from rfl) rfl rfl zw1340 zw1338 zw1339 zw16 (by decide +kernel) dX8_isHour_4)
    (zr_n (zr_n (zr_s (zk_ret1 (ty := .boolean) C hbc hbs rfl rfl (Or.inl ⟨dX8_isHour_7, by decide⟩))
    zr_0))))))))
  zrs_0)
set_option maxRecDepth 100000 in
set_option maxHeartbeats 4000000 in
theorem okX8_isMan {l : Launch} {D : va_G} {tys : List (ClassId × FieldType)} {o : zO} {z : Nat} (E : zEnv tys) : zCodeOk l D vwCl tys o z (zXX o z) zTs zprog mX8_isMan := by
  intro p e R s m args below meth c0 Q ws0 hbc hbs C pc sem h
  replace hbc : R.cells = 0 := hbc
  replace hbs : R.slots = 0 := hbs
  replace C : zCx p R s m args meth c0 D vwCl tys z (zXX o z) zTs RX8 cX8_isMan 2 "isMan" := C
  refine zRows_get (P := fun pc sem => zOp p l e R s m args below meth c0 Q D vwCl tys o z (zXX o z) zTs zprog ws0 2 cX8_isMan (some .boolean) pc sem) (c := kX8_isMan) ?_ h
  unfold kX8_isMan
  exact (zrs_c (zr_s (zq_iload_n C dX8_isMan_0 rfl)
    (zr_s (zq_iconst (n := .ofNat 0) C dX8_isMan_1 (by decide))
    (zr_s (zq_aload_n C dX8_isMan_2 rfl)
    (zr_s (zq_get (k := 3) C dX8_isMan_3 (show vwCl[8]? = some (RX8, TX8, 51) from rfl) zinX8 (by decide) zw1175)
    (zr_n (zr_n (zr_s (zq_iconst (n := .ofNat 1) C dX8_isMan_6 (by decide))
    (zr_s (zk_sub C dX8_isMan_7)
    (zr_s (zk_callS C zXX_ok zTs_good hbc hbs (show zget zprog 181 = some mX8_in from rfl) rfl rfl zw1340 zw1338 zw1339 zw16 (by decide +kernel) dX8_isMan_8)
    (zr_n (zr_n (zr_s (zk_ret1 (ty := .boolean) C hbc hbs rfl rfl (Or.inl ⟨dX8_isMan_11, by decide⟩))
    zr_0))))))))))))
  zrs_0)
set_option maxRecDepth 100000 in
set_option maxHeartbeats 4000000 in
theorem okX8_isRest {l : Launch} {D : va_G} {tys : List (ClassId × FieldType)} {o : zO} {z : Nat} (E : zEnv tys) : zCodeOk l D vwCl tys o z (zXX o z) zTs zprog mX8_isRest := by
  intro p e R s m args below meth c0 Q ws0 hbc hbs C pc sem h
  replace hbc : R.cells = 0 := hbc
  replace hbs : R.slots = 0 := hbs
  replace C : zCx p R s m args meth c0 D vwCl tys z (zXX o z) zTs RX8 cX8_isRest 5 "isRest" := C
  refine zRows_get (P := fun pc sem => zOp p l e R s m args below meth c0 Q D vwCl tys o z (zXX o z) zTs zprog ws0 5 cX8_isRest (some .boolean) pc sem) (c := kX8_isRest) ?_ h
  unfold kX8_isRest
  exact (zrs_c (zr_s (zq_iconst (n := .ofNat 0) C dX8_isRest_0 (by decide))
    (zr_s (zq_istore C dX8_isRest_1 (by decide))
    (zr_n (zr_s (zq_iload C dX8_isRest_3)
    (zr_n (zr_s (zq_bipush (n := .ofNat 9) C dX8_isRest_5 (by decide) (by decide))
    (zr_n (zr_s (zq_icmp_gt C dX8_isRest_7 (by decide))
    (zr_n (zr_n (zr_s (zq_iload C dX8_isRest_10)
    (zr_n (zr_s (zq_iload_n C dX8_isRest_12 rfl)
    (zr_s (zq_iload_n C dX8_isRest_13 rfl)
    (zr_s (zk_callS C zXX_ok zTs_good hbc hbs (show zget zprog 165 = some mX8_firstGets from rfl) rfl rfl zw1757 zw1755 zw1756 zw16 (by decide +kernel) dX8_isRest_14)
    (zr_n zr_0))))))))))))))))
  (zrs_c (zr_n (zr_s (zq_iload_n C dX8_isRest_17 rfl)
    (zr_s (zq_iload_n C dX8_isRest_18 rfl)
    (zr_s (zq_iload_n C dX8_isRest_19 rfl)
    (zr_s (zk_callS C zXX_ok zTs_good hbc hbs (show zget zprog 165 = some mX8_firstGets from rfl) rfl rfl zw1757 zw1755 zw1756 zw16 (by decide +kernel) dX8_isRest_20)
    (zr_n (zr_n (zr_s (zq_icmp_gt C dX8_isRest_23 (by decide))
    (zr_n (zr_n (zr_s (zq_iload_n C dX8_isRest_26 rfl)
    (zr_s (zq_iload C dX8_isRest_27)
    (zr_n (zr_s (zq_iload_n C dX8_isRest_29 rfl)
    (zr_s (zk_callS C zXX_ok zTs_good hbc hbs (show zget zprog 201 = some mX8_otherGets from rfl) rfl rfl zw1760 zw1758 zw1759 zw16 (by decide +kernel) dX8_isRest_30)
    (zr_n zr_0))))))))))))))))
  (zrs_c (zr_n (zr_s (zq_iload_n C dX8_isRest_33 rfl)
    (zr_s (zq_iload_n C dX8_isRest_34 rfl)
    (zr_s (zq_iload_n C dX8_isRest_35 rfl)
    (zr_s (zk_callS C zXX_ok zTs_good hbc hbs (show zget zprog 201 = some mX8_otherGets from rfl) rfl rfl zw1760 zw1758 zw1759 zw16 (by decide +kernel) dX8_isRest_36)
    (zr_n (zr_n (zr_s (zq_icmp_le C dX8_isRest_39 (by decide))
    (zr_n (zr_n (zr_s (zq_iconst (n := .ofNat 0) C dX8_isRest_42 (by decide))
    (zr_s (zk_ret1 (ty := .boolean) C hbc hbs rfl rfl (Or.inl ⟨dX8_isRest_43, by decide⟩))
    (zr_s (zk_inc (n := .ofNat 1) C dX8_isRest_44 (by decide) (by decide))
    (zr_n (zr_n (zr_s (zk_goto C dX8_isRest_47 (by decide))
    zr_0))))))))))))))))
  (zrs_c (zr_n (zr_n (zr_s (zq_iconst (n := .ofNat 1) C dX8_isRest_50 (by decide))
    (zr_s (zk_ret1 (ty := .boolean) C hbc hbs rfl rfl (Or.inl ⟨dX8_isRest_51, by decide⟩))
    zr_0))))
  zrs_0))))
set_option maxRecDepth 100000 in
set_option maxHeartbeats 4000000 in
theorem okX8_keep {l : Launch} {D : va_G} {tys : List (ClassId × FieldType)} {o : zO} {z : Nat} (E : zEnv tys) : zCodeOk l D vwCl tys o z (zXX o z) zTs zprog mX8_keep := by
  intro p e R s m args below meth c0 Q ws0 hbc hbs C pc sem h
  replace hbc : R.cells = 0 := hbc
  replace hbs : R.slots = 0 := hbs
  replace C : zCx p R s m args meth c0 D vwCl tys z (zXX o z) zTs RX8 cX8_keep 2 "keep" := C
  refine zRows_get (P := fun pc sem => zOp p l e R s m args below meth c0 Q D vwCl tys o z (zXX o z) zTs zprog ws0 2 cX8_keep (some .boolean) pc sem) (c := kX8_keep) ?_ h
  unfold kX8_keep
  exact (zrs_c (zr_s (zq_aload_n C dX8_keep_0 rfl)
    (zr_s (zq_iconst (n := .ofNat 0) C dX8_keep_1 (by decide))
    (zr_s (zq_put (k := 11) C dX8_keep_2 (show vwCl[8]? = some (RX8, TX8, 51) from rfl) zinX8 tyX8 tyX8_ok nmX8 (by decide) zw1183 rfl (ty := .int) (by decide +kernel) rfl)
    (zr_n (zr_n (zr_s (zq_iload_n C dX8_keep_5 rfl)
    (zr_s (zq_iconst (n := .ofNat 0) C dX8_keep_6 (by decide))
    (zr_s (zq_iconst (n := .ofNat 1) C dX8_keep_7 (by decide))
    (zr_s (zk_callS C zXX_ok zTs_good hbc hbs (show zget zprog 181 = some mX8_in from rfl) rfl rfl zw1340 zw1338 zw1339 zw16 (by decide +kernel) dX8_keep_8)
    (zr_n (zr_n (zr_s (zq_if_ne C dX8_keep_11 (by decide))
    (zr_n (zr_n (zr_s (zq_iconst (n := .ofNat 0) C dX8_keep_14 (by decide))
    (zr_s (zk_ret1 (ty := .boolean) C hbc hbs rfl rfl (Or.inl ⟨dX8_keep_15, by decide⟩))
    zr_0))))))))))))))))
  (zrs_c (zr_s (zq_aload_n C dX8_keep_16 rfl)
    (zr_s (zq_get (k := 49) C dX8_keep_17 (show vwCl[8]? = some (RX8, TX8, 51) from rfl) zinX8 (by decide) zw1221)
    (zr_n (zr_n (zr_s (zq_iload_n C dX8_keep_20 rfl)
    (zr_s (zq_iconst (n := .ofNat 1) C dX8_keep_21 (by decide))
    (zr_s (zk_bast C dX8_keep_22)
    (zr_s (zq_aload_n C dX8_keep_23 rfl)
    (zr_s (zq_get (k := 50) C dX8_keep_24 (show vwCl[8]? = some (RX8, TX8, 51) from rfl) zinX8 (by decide) zw1222)
    (zr_n (zr_n (zr_s (zq_iload_n C dX8_keep_27 rfl)
    (zr_s (zq_aload_n C dX8_keep_28 rfl)
    (zr_s (zq_get (k := 47) C dX8_keep_29 (show vwCl[8]? = some (RX8, TX8, 51) from rfl) zinX8 (by decide) zw1219)
    (zr_n (zr_n zr_0))))))))))))))))
  (zrs_c (zr_s (zk_iast C dX8_keep_32)
    (zr_s (zq_aload_n C dX8_keep_33 rfl)
    (zr_s (zq_get (k := 0) C dX8_keep_34 (show vwCl[8]? = some (RX8, TX8, 51) from rfl) zinX8 (by decide) zw1172)
    (zr_n (zr_n (zr_s (zq_aload_n C dX8_keep_37 rfl)
    (zr_s (zq_get (k := 48) C dX8_keep_38 (show vwCl[8]? = some (RX8, TX8, 51) from rfl) zinX8 (by decide) zw1220)
    (zr_n (zr_n (zr_s (zq_bipush (n := .ofNat 27) C dX8_keep_41 (by decide) (by decide))
    (zr_n (zr_s (zq_iload_n C dX8_keep_43 rfl)
    (zr_s (zq_imul C dX8_keep_44)
    (zr_s (zk_callS C zXX_ok zTs_good hbc hbs (show zget zprog 191 = some mX8_lay from rfl) rfl rfl zw1464 zw1462 zw1463 zw16 (by decide +kernel) dX8_keep_45)
    (zr_n (zr_n zr_0))))))))))))))))
  (zrs_c (zr_s (zq_iconst (n := .ofNat 1) C dX8_keep_48 (by decide))
    (zr_s (zk_ret1 (ty := .boolean) C hbc hbs rfl rfl (Or.inl ⟨dX8_keep_49, by decide⟩))
    zr_0))
  zrs_0))))
set_option maxRecDepth 100000 in
set_option maxHeartbeats 4000000 in
theorem okX8_keystone {l : Launch} {D : va_G} {tys : List (ClassId × FieldType)} {o : zO} {z : Nat} (E : zEnv tys) : zCodeOk l D vwCl tys o z (zXX o z) zTs zprog mX8_keystone := by
  intro p e R s m args below meth c0 Q ws0 hbc hbs C pc sem h
  replace hbc : R.cells = 0 := hbc
  replace hbs : R.slots = 0 := hbs
  replace C : zCx p R s m args meth c0 D vwCl tys z (zXX o z) zTs RX8 cX8_keystone 9 "keystone" := C
  refine zRows_get (P := fun pc sem => zOp p l e R s m args below meth c0 Q D vwCl tys o z (zXX o z) zTs zprog ws0 9 cX8_keystone (some .int) pc sem) (c := kX8_keystone) ?_ h
  unfold kX8_keystone
  exact (zrs_c (zr_s (zq_aload_n C dX8_keystone_0 rfl)
    (zr_s (zq_iconst (n := .ofNat 0) C dX8_keystone_1 (by decide))
    (zr_s (zq_put (k := 11) C dX8_keystone_2 (show vwCl[8]? = some (RX8, TX8, 51) from rfl) zinX8 tyX8 tyX8_ok nmX8 (by decide) zw1183 rfl (ty := .int) (by decide +kernel) rfl)
    (zr_n (zr_n (zr_s (zq_iload_n C dX8_keystone_5 rfl)
    (zr_s (zq_iconst (n := .ofNat 0) C dX8_keystone_6 (by decide))
    (zr_s (zq_bipush (n := .ofNat 10) C dX8_keystone_7 (by decide) (by decide))
    (zr_n (zr_s (zk_callS C zXX_ok zTs_good hbc hbs (show zget zprog 181 = some mX8_in from rfl) rfl rfl zw1340 zw1338 zw1339 zw16 (by decide +kernel) dX8_keystone_9)
    (zr_n (zr_n (zr_s (zq_if_ne C dX8_keystone_12 (by decide))
    (zr_n (zr_n (zr_s (zq_iconst (n := .negSucc 0) C dX8_keystone_15 (by decide))
    zr_0))))))))))))))))
  (zrs_c (zr_s (zk_ret1 (ty := .int) C hbc hbs rfl rfl (Or.inl ⟨dX8_keystone_16, by decide⟩))
    (zr_s (zq_aload_n C dX8_keystone_17 rfl)
    (zr_s (zk_callV (n := 0) C zXX_ok zTs_good hbc hbs (show zget zprog 232 = some mX8_well from rfl) rfl rfl (show vwCl[8]? = some (RX8, TX8, 51) from rfl) zw1735 zw1732 zw1734 zs148 zw16 (by decide +kernel) dX8_keystone_18)
    (zr_n (zr_n (zr_s (zq_istore_n C dX8_keystone_21 rfl (by decide))
    (zr_s (zq_iload_n C dX8_keystone_22 rfl)
    (zr_s (zq_if_ne C dX8_keystone_23 (by decide))
    (zr_n (zr_n (zr_s (zq_bipush (n := .negSucc 1) C dX8_keystone_26 (by decide) (by decide))
    (zr_n (zr_s (zk_ret1 (ty := .int) C hbc hbs rfl rfl (Or.inl ⟨dX8_keystone_28, by decide⟩))
    (zr_n (zr_n (zr_n zr_0))))))))))))))))
  (zrs_c (zr_n (zr_n (zr_n (zr_n (zr_n (zr_n (zr_n (zr_n (zr_n (zr_n (zr_n (zr_n (zr_n (zr_n (zr_n (zr_n zr_0))))))))))))))))
  (zrs_c (zr_n (zr_n (zr_n (zr_n (zr_n (zr_n (zr_n (zr_n (zr_n (zr_n (zr_n (zr_n (zr_n (zr_n (zr_n (zr_n zr_0))))))))))))))))
  (zrs_c (zr_n (zr_n (zr_n (zr_n (zr_n (zr_n (zr_n (zr_n (zr_n (zr_n (zr_n (zr_n (zr_n (zr_n (zr_n (zr_n zr_0))))))))))))))))
  (zrs_c (zr_n (zr_n (zr_n (zr_n (zr_n (zr_n (zr_n (zr_n (zr_n (zr_n (zr_n (zr_n (zr_n (zr_n (zr_n (zr_n zr_0))))))))))))))))
  (zrs_c (zr_n (zr_n (zr_n (zr_n (zr_n (zr_n (zr_n (zr_n (zr_n (zr_n (zr_n (zr_n (zr_n (zr_n (zr_n (zr_n zr_0))))))))))))))))
  (zrs_c (zr_n (zr_n (zr_n (zr_n (zr_n (zr_n (zr_n (zr_n (zr_n (zr_n (zr_n (zr_n (zr_n (zr_n zr_0))))))))))))))
  zrs_0))))))))
set_option maxRecDepth 100000 in
set_option maxHeartbeats 4000000 in
theorem okX8_later {l : Launch} {D : va_G} {tys : List (ClassId × FieldType)} {o : zO} {z : Nat} (E : zEnv tys) : zCodeOk l D vwCl tys o z (zXX o z) zTs zprog mX8_later := by
  intro p e R s m args below meth c0 Q ws0 hbc hbs C pc sem h
  replace hbc : R.cells = 0 := hbc
  replace hbs : R.slots = 0 := hbs
  replace C : zCx p R s m args meth c0 D vwCl tys z (zXX o z) zTs RX8 cX8_later 4 "later" := C
  refine zRows_get (P := fun pc sem => zOp p l e R s m args below meth c0 Q D vwCl tys o z (zXX o z) zTs zprog ws0 4 cX8_later (some .int) pc sem) (c := kX8_later) ?_ h
  unfold kX8_later
  exact (zrs_c (zr_s (zq_aload_n C dX8_later_0 rfl)
    (zr_s (zq_iconst (n := .ofNat 0) C dX8_later_1 (by decide))
    (zr_s (zq_put (k := 11) C dX8_later_2 (show vwCl[8]? = some (RX8, TX8, 51) from rfl) zinX8 tyX8 tyX8_ok nmX8 (by decide) zw1183 rfl (ty := .int) (by decide +kernel) rfl)
    (zr_n (zr_n (zr_s (zq_iload_n C dX8_later_5 rfl)
    (zr_s (zq_iconst (n := .ofNat 0) C dX8_later_6 (by decide))
    (zr_s (zq_bipush (n := .ofNat 60) C dX8_later_7 (by decide) (by decide))
    (zr_n (zr_s (zk_callS C zXX_ok zTs_good hbc hbs (show zget zprog 181 = some mX8_in from rfl) rfl rfl zw1340 zw1338 zw1339 zw16 (by decide +kernel) dX8_later_9)
    (zr_n (zr_n (zr_s (zq_if_ne C dX8_later_12 (by decide))
    (zr_n (zr_n (zr_s (zq_iconst (n := .negSucc 0) C dX8_later_15 (by decide))
    zr_0))))))))))))))))
  (zrs_c (zr_s (zk_ret1 (ty := .int) C hbc hbs rfl rfl (Or.inl ⟨dX8_later_16, by decide⟩))
    (zr_s (zq_aload_n C dX8_later_17 rfl)
    (zr_s (zq_get (k := 0) C dX8_later_18 (show vwCl[8]? = some (RX8, TX8, 51) from rfl) zinX8 (by decide) zw1172)
    (zr_n (zr_n (zr_s (zq_aload_n C dX8_later_21 rfl)
    (zr_s (zq_get (k := 26) C dX8_later_22 (show vwCl[8]? = some (RX8, TX8, 51) from rfl) zinX8 (by decide) zw1198)
    (zr_n (zr_n (zr_s (zq_iconst (n := .ofNat 0) C dX8_later_25 (by decide))
    (zr_s (zk_callS C zXX_ok zTs_good hbc hbs (show zget zprog 191 = some mX8_lay from rfl) rfl rfl zw1464 zw1462 zw1463 zw16 (by decide +kernel) dX8_later_26)
    (zr_n (zr_n (zr_s (zq_aload_n C dX8_later_29 rfl)
    (zr_s (zq_aload_n C dX8_later_30 rfl)
    (zr_s (zq_get (k := 26) C dX8_later_31 (show vwCl[8]? = some (RX8, TX8, 51) from rfl) zinX8 (by decide) zw1198)
    zr_0))))))))))))))))
  (zrs_c (zr_n (zr_n (zr_s (zq_iload_n C dX8_later_34 rfl)
    (zr_s (zk_callV (n := 2) C zXX_ok zTs_good hbc hbs (show zget zprog 173 = some mX8_goNights from rfl) rfl rfl (show vwCl[8]? = some (RX8, TX8, 51) from rfl) zw1488 zw1485 zw1487 zs119 zw16 (by decide +kernel) dX8_later_35)
    (zr_n (zr_n (zr_s (zq_iconst (n := .ofNat 0) C dX8_later_38 (by decide))
    (zr_s (zq_istore_n C dX8_later_39 rfl (by decide))
    (zr_s (zq_iconst (n := .ofNat 0) C dX8_later_40 (by decide))
    (zr_s (zq_istore_n C dX8_later_41 rfl (by decide))
    (zr_s (zq_iload_n C dX8_later_42 rfl)
    (zr_s (zq_aload_n C dX8_later_43 rfl)
    (zr_s (zq_get (k := 3) C dX8_later_44 (show vwCl[8]? = some (RX8, TX8, 51) from rfl) zinX8 (by decide) zw1175)
    (zr_n (zr_n (zr_s (zq_icmp_ge C dX8_later_47 (by decide))
    zr_0))))))))))))))))
  (zrs_c (zr_n (zr_n (zr_n (zr_n (zr_n (zr_n (zr_n (zr_n (zr_n (zr_n (zr_n (zr_n (zr_n (zr_n (zr_n (zr_n zr_0))))))))))))))))
  (zrs_c (zr_n (zr_n (zr_n (zr_n (zr_n (zr_n (zr_s (zq_aload_n C dX8_later_70 rfl)
    (zr_s (zq_iconst (n := .ofNat 0) C dX8_later_71 (by decide))
    (zr_s (zq_put (k := 10) C dX8_later_72 (show vwCl[8]? = some (RX8, TX8, 51) from rfl) zinX8 tyX8 tyX8_ok nmX8 (by decide) zw1182 rfl (ty := .int) (by decide +kernel) rfl)
    (zr_n (zr_n (zr_s (zq_aload_n C dX8_later_75 rfl)
    (zr_s (zq_aload_n C dX8_later_76 rfl)
    (zr_s (zq_aload_n C dX8_later_77 rfl)
    (zr_s (zq_get (k := 26) C dX8_later_78 (show vwCl[8]? = some (RX8, TX8, 51) from rfl) zinX8 (by decide) zw1198)
    (zr_n zr_0))))))))))))))))
  (zrs_c (zr_n (zr_s (zk_callV (n := 1) C zXX_ok zTs_good hbc hbs (show zget zprog 227 = some mX8_tired from rfl) rfl rfl (show vwCl[8]? = some (RX8, TX8, 51) from rfl) zw1504 zw1501 zw1503 zs122 zw16 (by decide +kernel) dX8_later_81)
    (zr_n (zr_n (zr_s (zk_i2l C dX8_later_84)
    (zr_s (zk_callV (n := 1) C zXX_ok zTs_good hbc hbs (show zget zprog 222 = some mX8_tell from rfl) rfl rfl (show vwCl[8]? = some (RX8, TX8, 51) from rfl) zw1500 zw1497 zw1499 zs121 zw16 (by decide +kernel) dX8_later_85)
    (zr_n (zr_n (zr_s (zq_aload_n C dX8_later_88 rfl)
    (zr_s (zq_iload_n C dX8_later_89 rfl)
    (zr_s (zk_i2l C dX8_later_90)
    (zr_s (zk_callV (n := 1) C zXX_ok zTs_good hbc hbs (show zget zprog 222 = some mX8_tell from rfl) rfl rfl (show vwCl[8]? = some (RX8, TX8, 51) from rfl) zw1500 zw1497 zw1499 zs121 zw16 (by decide +kernel) dX8_later_91)
    (zr_n (zr_n (zr_s (zq_aload_n C dX8_later_94 rfl)
    (zr_s (zq_get (k := 26) C dX8_later_95 (show vwCl[8]? = some (RX8, TX8, 51) from rfl) zinX8 (by decide) zw1198)
    zr_0))))))))))))))))
  (zrs_c (zr_n (zr_n (zr_s (zq_bipush (n := .ofNat 25) C dX8_later_98 (by decide) (by decide))
    (zr_n (zr_s (zk_iald C dX8_later_100)
    (zr_s (zq_aload_n C dX8_later_101 rfl)
    (zr_s (zq_get (k := 0) C dX8_later_102 (show vwCl[8]? = some (RX8, TX8, 51) from rfl) zinX8 (by decide) zw1172)
    (zr_n (zr_n (zr_s (zq_bipush (n := .ofNat 25) C dX8_later_105 (by decide) (by decide))
    (zr_n (zr_s (zk_iald C dX8_later_107)
    (zr_s (zk_sub C dX8_later_108)
    (zr_s (zk_ret1 (ty := .int) C hbc hbs rfl rfl (Or.inl ⟨dX8_later_109, by decide⟩))
    zr_0))))))))))))))
  zrs_0)))))))
set_option maxRecDepth 100000 in
set_option maxHeartbeats 4000000 in
theorem okX8_law {l : Launch} {D : va_G} {tys : List (ClassId × FieldType)} {o : zO} {z : Nat} (E : zEnv tys) : zCodeOk l D vwCl tys o z (zXX o z) zTs zprog mX8_law := by
  intro p e R s m args below meth c0 Q ws0 hbc hbs C pc sem h
  replace hbc : R.cells = 0 := hbc
  replace hbs : R.slots = 0 := hbs
  replace C : zCx p R s m args meth c0 D vwCl tys z (zXX o z) zTs RX8 cX8_law 6 "law" := C
  refine zRows_get (P := fun pc sem => zOp p l e R s m args below meth c0 Q D vwCl tys o z (zXX o z) zTs zprog ws0 6 cX8_law (some .int) pc sem) (c := kX8_law) ?_ h
  unfold kX8_law
  exact (zrs_c (zr_s (zq_aload_n C dX8_law_0 rfl)
    (zr_s (zq_iconst (n := .ofNat 0) C dX8_law_1 (by decide))
    (zr_s (zq_put (k := 11) C dX8_law_2 (show vwCl[8]? = some (RX8, TX8, 51) from rfl) zinX8 tyX8 tyX8_ok nmX8 (by decide) zw1183 rfl (ty := .int) (by decide +kernel) rfl)
    (zr_n (zr_n (zr_s (zq_aload_n C dX8_law_5 rfl)
    (zr_s (zq_get (k := 8) C dX8_law_6 (show vwCl[8]? = some (RX8, TX8, 51) from rfl) zinX8 (by decide) zw1180)
    (zr_n (zr_n (zr_s (zq_istore_n C dX8_law_9 rfl (by decide))
    (zr_s (zq_aload_n C dX8_law_10 rfl)
    (zr_s (zk_callV (n := 0) C zXX_ok zTs_good hbc hbs (show zget zprog 204 = some mX8_readRule from rfl) rfl rfl (show vwCl[8]? = some (RX8, TX8, 51) from rfl) zw1388 zw1385 zw1387 zs105 zw16 (by decide +kernel) dX8_law_11)
    (zr_n (zr_n (zr_s (zq_if_ne C dX8_law_14 (by decide))
    (zr_n zr_0))))))))))))))))
  (zrs_c (zr_n (zr_n (zr_n (zr_n (zr_n (zr_n (zr_n (zr_n (zr_n (zr_n (zr_s (zq_aload_n C dX8_law_26 rfl)
    (zr_s (zk_callV (n := 0) C zXX_ok zTs_good hbc hbs (show zget zprog 175 = some mX8_hardOfRota from rfl) rfl rfl (show vwCl[8]? = some (RX8, TX8, 51) from rfl) zw1768 zw1765 zw1767 zs150 zw16 (by decide +kernel) dX8_law_27)
    (zr_n (zr_n (zr_s (zq_istore_n C dX8_law_30 rfl (by decide))
    (zr_s (zq_aload_n C dX8_law_31 rfl)
    zr_0))))))))))))))))
  (zrs_c (zr_s (zq_get (k := 18) C dX8_law_32 (show vwCl[8]? = some (RX8, TX8, 51) from rfl) zinX8 (by decide) zw1190)
    (zr_n (zr_n (zr_s (zq_astore_n C dX8_law_35 rfl (by decide))
    (zr_s (zq_aload_n C dX8_law_36 rfl)
    (zr_s (zq_get (k := 20) C dX8_law_37 (show vwCl[8]? = some (RX8, TX8, 51) from rfl) zinX8 (by decide) zw1192)
    (zr_n (zr_n (zr_s (zq_istore C dX8_law_40 (by decide))
    (zr_n (zr_s (zq_aload_n C dX8_law_42 rfl)
    (zr_s (zq_aload_n C dX8_law_43 rfl)
    (zr_s (zq_get (k := 19) C dX8_law_44 (show vwCl[8]? = some (RX8, TX8, 51) from rfl) zinX8 (by decide) zw1191)
    (zr_n (zr_n (zr_s (zq_put (k := 18) C dX8_law_47 (show vwCl[8]? = some (RX8, TX8, 51) from rfl) zinX8 tyX8 tyX8_ok nmX8 (by decide) zw1190 rfl (ty := (.array .byte)) (by decide +kernel) rfl)
    zr_0))))))))))))))))
  (zrs_c (zr_n (zr_n (zr_s (zq_aload_n C dX8_law_50 rfl)
    (zr_s (zq_iload_n C dX8_law_51 rfl)
    (zr_s (zq_put (k := 20) C dX8_law_52 (show vwCl[8]? = some (RX8, TX8, 51) from rfl) zinX8 tyX8 tyX8_ok nmX8 (by decide) zw1192 rfl (ty := .int) (by decide +kernel) rfl)
    (zr_n (zr_n (zr_s (zq_iconst (n := .ofNat 0) C dX8_law_55 (by decide))
    (zr_s (zq_istore C dX8_law_56 (by decide))
    (zr_n (zr_s (zq_iload C dX8_law_58)
    (zr_n (zr_s (zq_iload_n C dX8_law_60 rfl)
    (zr_s (zq_icmp_ge C dX8_law_61 (by decide))
    (zr_n (zr_n zr_0))))))))))))))))
  (zrs_c (zr_n (zr_n (zr_n (zr_n (zr_n (zr_n (zr_n (zr_n (zr_n (zr_n (zr_n (zr_n (zr_n (zr_n (zr_n (zr_n zr_0))))))))))))))))
  (zrs_c (zr_n (zr_n (zr_n (zr_n (zr_s (zq_aload_n C dX8_law_84 rfl)
    (zr_s (zk_callV (n := 0) C zXX_ok zTs_good hbc hbs (show zget zprog 175 = some mX8_hardOfRota from rfl) rfl rfl (show vwCl[8]? = some (RX8, TX8, 51) from rfl) zw1768 zw1765 zw1767 zs150 zw16 (by decide +kernel) dX8_law_85)
    (zr_n (zr_n (zr_s (zq_istore C dX8_law_88 (by decide))
    (zr_n (zr_s (zq_aload_n C dX8_law_90 rfl)
    (zr_s (zq_aload_n C dX8_law_91 rfl)
    (zr_s (zq_put (k := 18) C dX8_law_92 (show vwCl[8]? = some (RX8, TX8, 51) from rfl) zinX8 tyX8 tyX8_ok nmX8 (by decide) zw1190 rfl (ty := (.array .byte)) (by decide +kernel) rfl)
    (zr_n (zr_n (zr_s (zq_aload_n C dX8_law_95 rfl)
    zr_0))))))))))))))))
  (zrs_c (zr_s (zq_iload C dX8_law_96)
    (zr_n (zr_s (zq_put (k := 20) C dX8_law_98 (show vwCl[8]? = some (RX8, TX8, 51) from rfl) zinX8 tyX8 tyX8_ok nmX8 (by decide) zw1192 rfl (ty := .int) (by decide +kernel) rfl)
    (zr_n (zr_n (zr_s (zq_aload_n C dX8_law_101 rfl)
    (zr_s (zq_iconst (n := .ofNat 0) C dX8_law_102 (by decide))
    (zr_s (zq_put (k := 10) C dX8_law_103 (show vwCl[8]? = some (RX8, TX8, 51) from rfl) zinX8 tyX8 tyX8_ok nmX8 (by decide) zw1182 rfl (ty := .int) (by decide +kernel) rfl)
    (zr_n (zr_n (zr_s (zq_aload_n C dX8_law_106 rfl)
    (zr_s (zq_iload C dX8_law_107)
    (zr_n (zr_s (zk_i2l C dX8_law_109)
    (zr_s (zk_callV (n := 1) C zXX_ok zTs_good hbc hbs (show zget zprog 222 = some mX8_tell from rfl) rfl rfl (show vwCl[8]? = some (RX8, TX8, 51) from rfl) zw1500 zw1497 zw1499 zs121 zw16 (by decide +kernel) dX8_law_110)
    (zr_n zr_0))))))))))))))))
  (zrs_c (zr_n (zr_s (zq_aload_n C dX8_law_113 rfl)
    (zr_s (zq_iload_n C dX8_law_114 rfl)
    (zr_s (zk_i2l C dX8_law_115)
    (zr_s (zk_callV (n := 1) C zXX_ok zTs_good hbc hbs (show zget zprog 222 = some mX8_tell from rfl) rfl rfl (show vwCl[8]? = some (RX8, TX8, 51) from rfl) zw1500 zw1497 zw1499 zs121 zw16 (by decide +kernel) dX8_law_116)
    (zr_n (zr_n (zr_s (zq_iload C dX8_law_119)
    (zr_n (zr_s (zq_iload_n C dX8_law_121 rfl)
    (zr_s (zk_sub C dX8_law_122)
    (zr_s (zk_ret1 (ty := .int) C hbc hbs rfl rfl (Or.inl ⟨dX8_law_123, by decide⟩))
    zr_0))))))))))))
  zrs_0))))))))
set_option maxRecDepth 100000 in
set_option maxHeartbeats 4000000 in
theorem okX8_lay {l : Launch} {D : va_G} {tys : List (ClassId × FieldType)} {o : zO} {z : Nat} (E : zEnv tys) : zCodeOk l D vwCl tys o z (zXX o z) zTs zprog mX8_lay := by
  intro p e R s m args below meth c0 Q ws0 hbc hbs C pc sem h
  replace hbc : R.cells = 0 := hbc
  replace hbs : R.slots = 0 := hbs
  replace C : zCx p R s m args meth c0 D vwCl tys z (zXX o z) zTs RX8 cX8_lay 4 "lay" := C
  refine zRows_get (P := fun pc sem => zOp p l e R s m args below meth c0 Q D vwCl tys o z (zXX o z) zTs zprog ws0 4 cX8_lay none pc sem) (c := kX8_lay) ?_ h
  unfold kX8_lay
  exact (zrs_c (zr_s (zq_iconst (n := .ofNat 0) C dX8_lay_0 (by decide))
    (zr_s (zq_istore_n C dX8_lay_1 rfl (by decide))
    (zr_s (zq_iload_n C dX8_lay_2 rfl)
    (zr_s (zq_bipush (n := .ofNat 27) C dX8_lay_3 (by decide) (by decide))
    (zr_n (zr_s (zq_icmp_ge C dX8_lay_5 (by decide))
    (zr_n (zr_n (zr_s (zq_aload_n C dX8_lay_8 rfl)
    (zr_s (zq_iload_n C dX8_lay_9 rfl)
    (zr_s (zq_iload_n C dX8_lay_10 rfl)
    (zr_s (zk_add C dX8_lay_11)
    (zr_s (zq_aload_n C dX8_lay_12 rfl)
    (zr_s (zq_iload_n C dX8_lay_13 rfl)
    (zr_s (zk_iald C dX8_lay_14)
    (zr_s (zk_iast C dX8_lay_15)
    zr_0))))))))))))))))
  (zrs_c (zr_s (zk_inc (n := .ofNat 1) C dX8_lay_16 (by decide) (by decide))
    (zr_n (zr_n (zr_s (zk_goto C dX8_lay_19 (by decide))
    (zr_n (zr_n (zr_s (zk_ret0 C hbc hbs rfl dX8_lay_22)
    zr_0)))))))
  zrs_0))
set_option maxRecDepth 100000 in
set_option maxHeartbeats 4000000 in
theorem okX8_layCanBe {l : Launch} {D : va_G} {tys : List (ClassId × FieldType)} {o : zO} {z : Nat} (E : zEnv tys) : zCodeOk l D vwCl tys o z (zXX o z) zTs zprog mX8_layCanBe := by
  intro p e R s m args below meth c0 Q ws0 hbc hbs C pc sem h
  replace hbc : R.cells = 0 := hbc
  replace hbs : R.slots = 0 := hbs
  replace C : zCx p R s m args meth c0 D vwCl tys z (zXX o z) zTs RX8 cX8_layCanBe 3 "layCanBe" := C
  refine zRows_get (P := fun pc sem => zOp p l e R s m args below meth c0 Q D vwCl tys o z (zXX o z) zTs zprog ws0 3 cX8_layCanBe none pc sem) (c := kX8_layCanBe) ?_ h
  unfold kX8_layCanBe
  exact (zrs_c (zr_s (zq_iconst (n := .ofNat 0) C dX8_layCanBe_0 (by decide))
    (zr_s (zq_istore_n C dX8_layCanBe_1 rfl (by decide))
    (zr_s (zq_iload_n C dX8_layCanBe_2 rfl)
    (zr_s (zq_iconst (n := .ofNat 1) C dX8_layCanBe_3 (by decide))
    (zr_s (zq_aload_n C dX8_layCanBe_4 rfl)
    (zr_s (zq_get (k := 3) C dX8_layCanBe_5 (show vwCl[8]? = some (RX8, TX8, 51) from rfl) zinX8 (by decide) zw1175)
    (zr_n (zr_n (zr_s (zq_ishl C dX8_layCanBe_8)
    (zr_s (zq_icmp_ge C dX8_layCanBe_9 (by decide))
    (zr_n (zr_n (zr_s (zq_aload_n C dX8_layCanBe_12 rfl)
    (zr_s (zq_iconst (n := .negSucc 0) C dX8_layCanBe_13 (by decide))
    (zr_s (zk_callV (n := 1) C zXX_ok zTs_good hbc hbs (show zget zprog 194 = some mX8_layMay from rfl) rfl rfl (show vwCl[8]? = some (RX8, TX8, 51) from rfl) zw1564 zw1561 zw1563 zs128 zw16 (by decide +kernel) dX8_layCanBe_14)
    (zr_n zr_0))))))))))))))))
  (zrs_c (zr_n (zr_s (zq_iconst (n := .ofNat 0) C dX8_layCanBe_17 (by decide))
    (zr_s (zq_istore_n C dX8_layCanBe_18 rfl (by decide))
    (zr_s (zq_iload_n C dX8_layCanBe_19 rfl)
    (zr_s (zq_aload_n C dX8_layCanBe_20 rfl)
    (zr_s (zq_get (k := 3) C dX8_layCanBe_21 (show vwCl[8]? = some (RX8, TX8, 51) from rfl) zinX8 (by decide) zw1175)
    (zr_n (zr_n (zr_s (zq_icmp_ge C dX8_layCanBe_24 (by decide))
    (zr_n (zr_n (zr_n (zr_n (zr_n (zr_n (zr_n zr_0))))))))))))))))
  (zrs_c (zr_n (zr_n (zr_n (zr_n (zr_n (zr_n (zr_n (zr_n (zr_n (zr_n (zr_n (zr_n (zr_n (zr_n (zr_n (zr_n zr_0))))))))))))))))
  (zrs_c (zr_n (zr_n (zr_n (zr_n (zr_n (zr_n (zr_n (zr_n (zr_n (zr_s (zq_aload_n C dX8_layCanBe_57 rfl)
    (zr_s (zq_get (k := 41) C dX8_layCanBe_58 (show vwCl[8]? = some (RX8, TX8, 51) from rfl) zinX8 (by decide) zw1213)
    (zr_n (zr_n (zr_s (zq_iload_n C dX8_layCanBe_61 rfl)
    (zr_s (zq_aload_n C dX8_layCanBe_62 rfl)
    (zr_s (zq_iconst (n := .ofNat 2) C dX8_layCanBe_63 (by decide))
    zr_0))))))))))))))))
  (zrs_c (zr_s (zk_callV (n := 1) C zXX_ok zTs_good hbc hbs (show zget zprog 218 = some mX8_solve from rfl) rfl rfl (show vwCl[8]? = some (RX8, TX8, 51) from rfl) zw1572 zw1569 zw1571 zs130 zw16 (by decide +kernel) dX8_layCanBe_64)
    (zr_n (zr_n (zr_s (zq_ldc (n := .ofNat 1000000000) C dX8_layCanBe_67 zw1171 (by decide +kernel))
    (zr_n (zr_s (zq_icmp_ge C dX8_layCanBe_69 (by decide))
    (zr_n (zr_n (zr_n (zr_n (zr_n (zr_n (zr_s (zq_iconst (n := .ofNat 0) C dX8_layCanBe_76 (by decide))
    (zr_s (zk_bast C dX8_layCanBe_77)
    (zr_s (zk_inc (n := .ofNat 1) C dX8_layCanBe_78 (by decide) (by decide))
    (zr_n zr_0))))))))))))))))
  (zrs_c (zr_n (zr_s (zk_goto C dX8_layCanBe_81 (by decide))
    (zr_n (zr_n (zr_s (zk_ret0 C hbc hbs rfl dX8_layCanBe_84)
    zr_0)))))
  zrs_0))))))
set_option maxRecDepth 100000 in
set_option maxHeartbeats 4000000 in
theorem okX8_layFound {l : Launch} {D : va_G} {tys : List (ClassId × FieldType)} {o : zO} {z : Nat} (E : zEnv tys) : zCodeOk l D vwCl tys o z (zXX o z) zTs zprog mX8_layFound := by
  intro p e R s m args below meth c0 Q ws0 hbc hbs C pc sem h
  replace hbc : R.cells = 0 := hbc
  replace hbs : R.slots = 0 := hbs
  replace C : zCx p R s m args meth c0 D vwCl tys z (zXX o z) zTs RX8 cX8_layFound 2 "layFound" := C
  refine zRows_get (P := fun pc sem => zOp p l e R s m args below meth c0 Q D vwCl tys o z (zXX o z) zTs zprog ws0 2 cX8_layFound none pc sem) (c := kX8_layFound) ?_ h
  unfold kX8_layFound
  exact (zrs_c (zr_s (zq_aload_n C dX8_layFound_0 rfl)
    (zr_s (zq_iconst (n := .negSucc 0) C dX8_layFound_1 (by decide))
    (zr_s (zk_callV (n := 1) C zXX_ok zTs_good hbc hbs (show zget zprog 194 = some mX8_layMay from rfl) rfl rfl (show vwCl[8]? = some (RX8, TX8, 51) from rfl) zw1564 zw1561 zw1563 zs128 zw16 (by decide +kernel) dX8_layFound_2)
    (zr_n (zr_n (zr_s (zq_iconst (n := .ofNat 0) C dX8_layFound_5 (by decide))
    (zr_s (zq_istore_n C dX8_layFound_6 rfl (by decide))
    (zr_s (zq_iload_n C dX8_layFound_7 rfl)
    (zr_s (zq_aload_n C dX8_layFound_8 rfl)
    (zr_s (zq_get (k := 45) C dX8_layFound_9 (show vwCl[8]? = some (RX8, TX8, 51) from rfl) zinX8 (by decide) zw1217)
    (zr_n (zr_n (zr_s (zq_icmp_ge C dX8_layFound_12 (by decide))
    (zr_n (zr_n (zr_n zr_0))))))))))))))))
  (zrs_c (zr_n (zr_n (zr_n (zr_n (zr_n (zr_n (zr_n (zr_n (zr_n (zr_n (zr_n (zr_n (zr_n (zr_n (zr_n (zr_n zr_0))))))))))))))))
  (zrs_c (zr_n (zr_n (zr_n (zr_n (zr_n (zr_n (zr_n (zr_n (zr_n (zr_n (zr_n (zr_n (zr_n (zr_n (zr_n (zr_n zr_0))))))))))))))))
  (zrs_c (zr_n (zr_n (zr_n (zr_n (zr_n (zr_n (zr_n (zr_n (zr_n (zr_n (zr_n (zr_n (zr_n (zr_n (zr_n (zr_n zr_0))))))))))))))))
  (zrs_c (zr_n (zr_n (zr_n (zr_n (zr_n (zr_n (zr_n (zr_n (zr_n (zr_n (zr_n (zr_n (zr_n (zr_n (zr_n (zr_n zr_0))))))))))))))))
  (zrs_c (zr_n (zr_n (zr_n (zr_n (zr_n (zr_n (zr_n (zr_n (zr_n (zr_n (zr_n (zr_s (zk_ret0 C hbc hbs rfl dX8_layFound_91)
    zr_0))))))))))))
  zrs_0))))))
set_option maxRecDepth 100000 in
set_option maxHeartbeats 4000000 in
theorem okX8_layMay {l : Launch} {D : va_G} {tys : List (ClassId × FieldType)} {o : zO} {z : Nat} (E : zEnv tys) : zCodeOk l D vwCl tys o z (zXX o z) zTs zprog mX8_layMay := by
  intro p e R s m args below meth c0 Q ws0 hbc hbs C pc sem h
  replace hbc : R.cells = 0 := hbc
  replace hbs : R.slots = 0 := hbs
  replace C : zCx p R s m args meth c0 D vwCl tys z (zXX o z) zTs RX8 cX8_layMay 4 "layMay" := C
  refine zRows_get (P := fun pc sem => zOp p l e R s m args below meth c0 Q D vwCl tys o z (zXX o z) zTs zprog ws0 4 cX8_layMay none pc sem) (c := kX8_layMay) ?_ h
  unfold kX8_layMay
  exact (zrs_c (zr_s (zq_iconst (n := .ofNat 0) C dX8_layMay_0 (by decide))
    (zr_s (zq_istore_n C dX8_layMay_1 rfl (by decide))
    (zr_s (zq_iload_n C dX8_layMay_2 rfl)
    (zr_s (zq_aload_n C dX8_layMay_3 rfl)
    (zr_s (zq_get (k := 3) C dX8_layMay_4 (show vwCl[8]? = some (RX8, TX8, 51) from rfl) zinX8 (by decide) zw1175)
    (zr_n (zr_n (zr_s (zq_icmp_ge C dX8_layMay_7 (by decide))
    (zr_n (zr_n (zr_n (zr_n (zr_n (zr_n (zr_n (zr_n zr_0))))))))))))))))
  (zrs_c (zr_n (zr_n (zr_n (zr_n (zr_n (zr_n (zr_n (zr_n (zr_n (zr_n (zr_n (zr_n (zr_n (zr_n (zr_n (zr_n zr_0))))))))))))))))
  (zrs_c (zr_n (zr_n (zr_n (zr_n (zr_n (zr_n (zr_n (zr_n (zr_n (zr_n (zr_n (zr_n (zr_n (zr_n (zr_n (zr_n zr_0))))))))))))))))
  (zrs_c (zr_n (zr_n (zr_n (zr_n (zr_n (zr_n (zr_n (zr_n (zr_n (zr_n (zr_n (zr_n (zr_n (zr_n (zr_n (zr_n zr_0))))))))))))))))
  (zrs_c (zr_n (zr_n (zr_n (zr_n (zr_n (zr_n (zr_n (zr_n (zr_n (zr_n (zr_n (zr_n (zr_n (zr_n (zr_n (zr_n zr_0))))))))))))))))
  (zrs_c (zr_n (zr_n (zr_n (zr_n (zr_n (zr_n (zr_n (zr_n (zr_n (zr_n (zr_n (zr_n (zr_n (zr_n (zr_n (zr_n zr_0))))))))))))))))
  (zrs_c (zr_n (zr_s (zk_ret0 C hbc hbs rfl dX8_layMay_97)
    zr_0))
  zrs_0)))))))
set_option maxRecDepth 100000 in
set_option maxHeartbeats 4000000 in
theorem okX8_lost {l : Launch} {D : va_G} {tys : List (ClassId × FieldType)} {o : zO} {z : Nat} (E : zEnv tys) : zCodeOk l D vwCl tys o z (zXX o z) zTs zprog mX8_lost := by
  intro p e R s m args below meth c0 Q ws0 hbc hbs C pc sem h
  replace hbc : R.cells = 0 := hbc
  replace hbs : R.slots = 0 := hbs
  replace C : zCx p R s m args meth c0 D vwCl tys z (zXX o z) zTs RX8 cX8_lost 1 "lost" := C
  refine zRows_get (P := fun pc sem => zOp p l e R s m args below meth c0 Q D vwCl tys o z (zXX o z) zTs zprog ws0 1 cX8_lost (some .int) pc sem) (c := kX8_lost) ?_ h
  unfold kX8_lost
  exact (zrs_c (zr_s (zq_aload_n C dX8_lost_0 rfl)
    (zr_s (zq_iconst (n := .ofNat 1) C dX8_lost_1 (by decide))
    (zr_s (zq_put (k := 11) C dX8_lost_2 (show vwCl[8]? = some (RX8, TX8, 51) from rfl) zinX8 tyX8 tyX8_ok nmX8 (by decide) zw1183 rfl (ty := .int) (by decide +kernel) rfl)
    (zr_n (zr_n (zr_s (zq_iconst (n := .ofNat 0) C dX8_lost_5 (by decide))
    (zr_s (zk_ret1 (ty := .int) C hbc hbs rfl rfl (Or.inl ⟨dX8_lost_6, by decide⟩))
    zr_0)))))))
  zrs_0)
set_option maxRecDepth 100000 in
set_option maxHeartbeats 4000000 in
theorem okX8_meets {l : Launch} {D : va_G} {tys : List (ClassId × FieldType)} {o : zO} {z : Nat} (E : zEnv tys) : zCodeOk l D vwCl tys o z (zXX o z) zTs zprog mX8_meets := by
  intro p e R s m args below meth c0 Q ws0 hbc hbs C pc sem h
  replace hbc : R.cells = 0 := hbc
  replace hbs : R.slots = 0 := hbs
  replace C : zCx p R s m args meth c0 D vwCl tys z (zXX o z) zTs RX8 cX8_meets 7 "meets" := C
  refine zRows_get (P := fun pc sem => zOp p l e R s m args below meth c0 Q D vwCl tys o z (zXX o z) zTs zprog ws0 7 cX8_meets (some .int) pc sem) (c := kX8_meets) ?_ h
  unfold kX8_meets
  exact (zrs_c (zr_s (zq_aload_n C dX8_meets_0 rfl)
    (zr_s (zq_iconst (n := .ofNat 0) C dX8_meets_1 (by decide))
    (zr_s (zq_put (k := 11) C dX8_meets_2 (show vwCl[8]? = some (RX8, TX8, 51) from rfl) zinX8 tyX8 tyX8_ok nmX8 (by decide) zw1183 rfl (ty := .int) (by decide +kernel) rfl)
    (zr_n (zr_n (zr_s (zq_aload_n C dX8_meets_5 rfl)
    (zr_s (zq_iload_n C dX8_meets_6 rfl)
    (zr_s (zq_iload_n C dX8_meets_7 rfl)
    (zr_s (zk_callV (n := 2) C zXX_ok zTs_good hbc hbs (show zget zprog 146 = some mX8_areTwo from rfl) rfl rfl (show vwCl[8]? = some (RX8, TX8, 51) from rfl) zw1520 zw1517 zw1519 zs125 zw16 (by decide +kernel) dX8_meets_8)
    (zr_n (zr_n (zr_s (zq_if_eq C dX8_meets_11 (by decide))
    (zr_n (zr_n (zr_n (zr_n zr_0))))))))))))))))
  (zrs_c (zr_n (zr_n (zr_n (zr_n (zr_n (zr_n (zr_n (zr_n (zr_s (zq_iconst (n := .negSucc 0) C dX8_meets_24 (by decide))
    (zr_s (zk_ret1 (ty := .int) C hbc hbs rfl rfl (Or.inl ⟨dX8_meets_25, by decide⟩))
    (zr_n (zr_n (zr_n (zr_n (zr_n (zr_n zr_0))))))))))))))))
  (zrs_c (zr_n (zr_n (zr_n (zr_n (zr_n (zr_n (zr_n (zr_n (zr_n (zr_n (zr_n (zr_n (zr_n (zr_n (zr_n (zr_n zr_0))))))))))))))))
  (zrs_c (zr_n (zr_n (zr_n (zr_n (zr_n (zr_n (zr_n (zr_n (zr_n (zr_n (zr_n (zr_n (zr_n (zr_n (zr_n (zr_n zr_0))))))))))))))))
  (zrs_c (zr_n (zr_n (zr_n (zr_n (zr_n (zr_n (zr_n (zr_n (zr_n (zr_n (zr_n (zr_n (zr_n (zr_n (zr_n (zr_n zr_0))))))))))))))))
  (zrs_c (zr_n (zr_n (zr_n (zr_n (zr_n (zr_n (zr_n (zr_n (zr_n (zr_n (zr_n (zr_n (zr_n (zr_n (zr_n (zr_n zr_0))))))))))))))))
  (zrs_c (zr_n (zr_n (zr_n (zr_n (zr_n (zr_n (zr_n (zr_n (zr_n (zr_n (zr_n (zr_n (zr_n (zr_n (zr_n (zr_n zr_0))))))))))))))))
  (zrs_c (zr_n (zr_n (zr_n (zr_n (zr_n (zr_n (zr_n (zr_n (zr_n (zr_n (zr_n (zr_n (zr_n (zr_n (zr_n (zr_n zr_0))))))))))))))))
  (zrs_c (zr_n (zr_n (zr_n (zr_n (zr_n (zr_n (zr_n (zr_n (zr_n (zr_n (zr_n (zr_n zr_0))))))))))))
  zrs_0)))))))))
set_option maxRecDepth 100000 in
set_option maxHeartbeats 4000000 in
theorem okX8_mended {l : Launch} {D : va_G} {tys : List (ClassId × FieldType)} {o : zO} {z : Nat} (E : zEnv tys) : zCodeOk l D vwCl tys o z (zXX o z) zTs zprog mX8_mended := by
  intro p e R s m args below meth c0 Q ws0 hbc hbs C pc sem h
  replace hbc : R.cells = 0 := hbc
  replace hbs : R.slots = 0 := hbs
  replace C : zCx p R s m args meth c0 D vwCl tys z (zXX o z) zTs RX8 cX8_mended 3 "mended" := C
  refine zRows_get (P := fun pc sem => zOp p l e R s m args below meth c0 Q D vwCl tys o z (zXX o z) zTs zprog ws0 3 cX8_mended (some .int) pc sem) (c := kX8_mended) ?_ h
  unfold kX8_mended
  exact (zrs_c (zr_s (zq_aload_n C dX8_mended_0 rfl)
    (zr_s (zq_iconst (n := .ofNat 0) C dX8_mended_1 (by decide))
    (zr_s (zq_put (k := 11) C dX8_mended_2 (show vwCl[8]? = some (RX8, TX8, 51) from rfl) zinX8 tyX8 tyX8_ok nmX8 (by decide) zw1183 rfl (ty := .int) (by decide +kernel) rfl)
    (zr_n (zr_n (zr_s (zq_aload_n C dX8_mended_5 rfl)
    (zr_s (zq_iload_n C dX8_mended_6 rfl)
    (zr_s (zk_callV (n := 1) C zXX_ok zTs_good hbc hbs (show zget zprog 185 = some mX8_isMan from rfl) rfl rfl (show vwCl[8]? = some (RX8, TX8, 51) from rfl) zw1423 zw1420 zw1422 zs112 zw16 (by decide +kernel) dX8_mended_7)
    (zr_n (zr_n (zr_s (zq_if_ne C dX8_mended_10 (by decide))
    (zr_n (zr_n (zr_s (zq_iconst (n := .negSucc 0) C dX8_mended_13 (by decide))
    (zr_s (zk_ret1 (ty := .int) C hbc hbs rfl rfl (Or.inl ⟨dX8_mended_14, by decide⟩))
    (zr_n zr_0))))))))))))))))
  (zrs_c (zr_n (zr_n (zr_n (zr_n (zr_n (zr_n (zr_n (zr_n (zr_n (zr_n (zr_n (zr_n (zr_n (zr_n (zr_n (zr_n zr_0))))))))))))))))
  (zrs_c (zr_n (zr_n (zr_n (zr_n (zr_n (zr_n (zr_n (zr_n (zr_n (zr_n (zr_n (zr_n (zr_n (zr_n (zr_n zr_0)))))))))))))))
  zrs_0)))
set_option maxRecDepth 100000 in
set_option maxHeartbeats 4000000 in
theorem okX8_missed {l : Launch} {D : va_G} {tys : List (ClassId × FieldType)} {o : zO} {z : Nat} (E : zEnv tys) : zCodeOk l D vwCl tys o z (zXX o z) zTs zprog mX8_missed := by
  intro p e R s m args below meth c0 Q ws0 hbc hbs C pc sem h
  replace hbc : R.cells = 0 := hbc
  replace hbs : R.slots = 0 := hbs
  replace C : zCx p R s m args meth c0 D vwCl tys z (zXX o z) zTs RX8 cX8_missed 4 "missed" := C
  refine zRows_get (P := fun pc sem => zOp p l e R s m args below meth c0 Q D vwCl tys o z (zXX o z) zTs zprog ws0 4 cX8_missed (some .int) pc sem) (c := kX8_missed) ?_ h
  unfold kX8_missed
  exact (zrs_c (zr_s (zq_aload_n C dX8_missed_0 rfl)
    (zr_s (zq_iconst (n := .ofNat 0) C dX8_missed_1 (by decide))
    (zr_s (zq_put (k := 11) C dX8_missed_2 (show vwCl[8]? = some (RX8, TX8, 51) from rfl) zinX8 tyX8 tyX8_ok nmX8 (by decide) zw1183 rfl (ty := .int) (by decide +kernel) rfl)
    (zr_n (zr_n (zr_s (zq_aload_n C dX8_missed_5 rfl)
    (zr_s (zq_iload_n C dX8_missed_6 rfl)
    (zr_s (zk_callV (n := 1) C zXX_ok zTs_good hbc hbs (show zget zprog 185 = some mX8_isMan from rfl) rfl rfl (show vwCl[8]? = some (RX8, TX8, 51) from rfl) zw1423 zw1420 zw1422 zs112 zw16 (by decide +kernel) dX8_missed_7)
    (zr_n (zr_n (zr_s (zq_if_ne C dX8_missed_10 (by decide))
    (zr_n (zr_n (zr_s (zq_iconst (n := .negSucc 0) C dX8_missed_13 (by decide))
    (zr_s (zk_ret1 (ty := .int) C hbc hbs rfl rfl (Or.inl ⟨dX8_missed_14, by decide⟩))
    (zr_n zr_0))))))))))))))))
  (zrs_c (zr_n (zr_n (zr_n (zr_n (zr_n (zr_n (zr_n (zr_n (zr_n (zr_n (zr_n (zr_n (zr_n (zr_n (zr_n (zr_n zr_0))))))))))))))))
  (zrs_c (zr_n (zr_n (zr_n (zr_n (zr_n (zr_n (zr_n (zr_n (zr_n (zr_n (zr_n (zr_n (zr_n (zr_n (zr_n (zr_n zr_0))))))))))))))))
  zrs_0)))
set_option maxRecDepth 100000 in
set_option maxHeartbeats 4000000 in
theorem okX8_night {l : Launch} {D : va_G} {tys : List (ClassId × FieldType)} {o : zO} {z : Nat} (E : zEnv tys) : zCodeOk l D vwCl tys o z (zXX o z) zTs zprog mX8_night := by
  intro p e R s m args below meth c0 Q ws0 hbc hbs C pc sem h
  replace hbc : R.cells = 0 := hbc
  replace hbs : R.slots = 0 := hbs
  replace C : zCx p R s m args meth c0 D vwCl tys z (zXX o z) zTs RX8 cX8_night 1 "night" := C
  refine zRows_get (P := fun pc sem => zOp p l e R s m args below meth c0 Q D vwCl tys o z (zXX o z) zTs zprog ws0 1 cX8_night (some .int) pc sem) (c := kX8_night) ?_ h
  unfold kX8_night
  exact (zrs_c (zr_s (zq_iconst (n := .ofNat 1) C dX8_night_0 (by decide))
    (zr_s (zq_aload_n C dX8_night_1 rfl)
    (zr_s (zq_get (k := 1) C dX8_night_2 (show vwCl[8]? = some (RX8, TX8, 51) from rfl) zinX8 (by decide) zw1173)
    (zr_n (zr_n (zr_s (zq_ishl C dX8_night_5)
    (zr_s (zq_iconst (n := .ofNat 1) C dX8_night_6 (by decide))
    (zr_s (zk_sub C dX8_night_7)
    (zr_s (zk_ret1 (ty := .int) C hbc hbs rfl rfl (Or.inl ⟨dX8_night_8, by decide⟩))
    zr_0)))))))))
  zrs_0)
set_option maxRecDepth 100000 in
set_option maxHeartbeats 4000000 in
theorem okX8_nights {l : Launch} {D : va_G} {tys : List (ClassId × FieldType)} {o : zO} {z : Nat} (E : zEnv tys) : zCodeOk l D vwCl tys o z (zXX o z) zTs zprog mX8_nights := by
  intro p e R s m args below meth c0 Q ws0 hbc hbs C pc sem h
  replace hbc : R.cells = 0 := hbc
  replace hbs : R.slots = 0 := hbs
  replace C : zCx p R s m args meth c0 D vwCl tys z (zXX o z) zTs RX8 cX8_nights 4 "nights" := C
  refine zRows_get (P := fun pc sem => zOp p l e R s m args below meth c0 Q D vwCl tys o z (zXX o z) zTs zprog ws0 4 cX8_nights (some .int) pc sem) (c := kX8_nights) ?_ h
  unfold kX8_nights
  exact (zrs_c (zr_s (zq_aload_n C dX8_nights_0 rfl)
    (zr_s (zq_iconst (n := .ofNat 0) C dX8_nights_1 (by decide))
    (zr_s (zq_put (k := 11) C dX8_nights_2 (show vwCl[8]? = some (RX8, TX8, 51) from rfl) zinX8 tyX8 tyX8_ok nmX8 (by decide) zw1183 rfl (ty := .int) (by decide +kernel) rfl)
    (zr_n (zr_n (zr_s (zq_iload_n C dX8_nights_5 rfl)
    (zr_s (zq_iconst (n := .ofNat 0) C dX8_nights_6 (by decide))
    (zr_s (zq_bipush (n := .ofNat 30) C dX8_nights_7 (by decide) (by decide))
    (zr_n (zr_s (zk_callS C zXX_ok zTs_good hbc hbs (show zget zprog 181 = some mX8_in from rfl) rfl rfl zw1340 zw1338 zw1339 zw16 (by decide +kernel) dX8_nights_9)
    (zr_n (zr_n (zr_s (zq_if_ne C dX8_nights_12 (by decide))
    (zr_n (zr_n (zr_s (zq_iconst (n := .negSucc 0) C dX8_nights_15 (by decide))
    zr_0))))))))))))))))
  (zrs_c (zr_s (zk_ret1 (ty := .int) C hbc hbs rfl rfl (Or.inl ⟨dX8_nights_16, by decide⟩))
    (zr_s (zq_iload_n C dX8_nights_17 rfl)
    (zr_s (zq_if_le C dX8_nights_18 (by decide))
    (zr_n (zr_n (zr_s (zq_aload_n C dX8_nights_21 rfl)
    (zr_s (zq_aload_n C dX8_nights_22 rfl)
    (zr_s (zq_get (k := 0) C dX8_nights_23 (show vwCl[8]? = some (RX8, TX8, 51) from rfl) zinX8 (by decide) zw1172)
    (zr_n (zr_n (zr_s (zk_callV (n := 1) C zXX_ok zTs_good hbc hbs (show zget zprog 205 = some mX8_remember from rfl) rfl rfl (show vwCl[8]? = some (RX8, TX8, 51) from rfl) zw1461 zw1458 zw1460 zs116 zw16 (by decide +kernel) dX8_nights_26)
    (zr_n (zr_n (zr_s (zq_aload_n C dX8_nights_29 rfl)
    (zr_s (zq_get (k := 0) C dX8_nights_30 (show vwCl[8]? = some (RX8, TX8, 51) from rfl) zinX8 (by decide) zw1172)
    (zr_n zr_0))))))))))))))))
  (zrs_c (zr_n (zr_s (zq_bipush (n := .ofNat 25) C dX8_nights_33 (by decide) (by decide))
    (zr_n (zr_s (zk_iald C dX8_nights_35)
    (zr_s (zq_istore_n C dX8_nights_36 rfl (by decide))
    (zr_s (zq_aload_n C dX8_nights_37 rfl)
    (zr_s (zq_get (k := 0) C dX8_nights_38 (show vwCl[8]? = some (RX8, TX8, 51) from rfl) zinX8 (by decide) zw1172)
    (zr_n (zr_n (zr_s (zq_bipush (n := .ofNat 26) C dX8_nights_41 (by decide) (by decide))
    (zr_n (zr_s (zk_iald C dX8_nights_43)
    (zr_s (zq_istore_n C dX8_nights_44 rfl (by decide))
    (zr_s (zq_aload_n C dX8_nights_45 rfl)
    (zr_s (zq_aload_n C dX8_nights_46 rfl)
    (zr_s (zq_get (k := 0) C dX8_nights_47 (show vwCl[8]? = some (RX8, TX8, 51) from rfl) zinX8 (by decide) zw1172)
    zr_0))))))))))))))))
  (zrs_c (zr_n (zr_n (zr_s (zq_iload_n C dX8_nights_50 rfl)
    (zr_s (zk_callV (n := 2) C zXX_ok zTs_good hbc hbs (show zget zprog 173 = some mX8_goNights from rfl) rfl rfl (show vwCl[8]? = some (RX8, TX8, 51) from rfl) zw1488 zw1485 zw1487 zs119 zw16 (by decide +kernel) dX8_nights_51)
    (zr_n (zr_n (zr_s (zq_aload_n C dX8_nights_54 rfl)
    (zr_s (zq_iconst (n := .ofNat 0) C dX8_nights_55 (by decide))
    (zr_s (zq_put (k := 10) C dX8_nights_56 (show vwCl[8]? = some (RX8, TX8, 51) from rfl) zinX8 tyX8 tyX8_ok nmX8 (by decide) zw1182 rfl (ty := .int) (by decide +kernel) rfl)
    (zr_n (zr_n (zr_s (zq_aload_n C dX8_nights_59 rfl)
    (zr_s (zq_aload_n C dX8_nights_60 rfl)
    (zr_s (zq_get (k := 0) C dX8_nights_61 (show vwCl[8]? = some (RX8, TX8, 51) from rfl) zinX8 (by decide) zw1172)
    (zr_n (zr_n zr_0))))))))))))))))
  (zrs_c (zr_s (zq_bipush (n := .ofNat 26) C dX8_nights_64 (by decide) (by decide))
    (zr_n (zr_s (zk_iald C dX8_nights_66)
    (zr_s (zq_iload_n C dX8_nights_67 rfl)
    (zr_s (zk_sub C dX8_nights_68)
    (zr_s (zk_i2l C dX8_nights_69)
    (zr_s (zk_callV (n := 1) C zXX_ok zTs_good hbc hbs (show zget zprog 222 = some mX8_tell from rfl) rfl rfl (show vwCl[8]? = some (RX8, TX8, 51) from rfl) zw1500 zw1497 zw1499 zs121 zw16 (by decide +kernel) dX8_nights_70)
    (zr_n (zr_n (zr_s (zq_aload_n C dX8_nights_73 rfl)
    (zr_s (zq_aload_n C dX8_nights_74 rfl)
    (zr_s (zq_aload_n C dX8_nights_75 rfl)
    (zr_s (zq_get (k := 0) C dX8_nights_76 (show vwCl[8]? = some (RX8, TX8, 51) from rfl) zinX8 (by decide) zw1172)
    (zr_n (zr_n (zr_s (zk_callV (n := 1) C zXX_ok zTs_good hbc hbs (show zget zprog 227 = some mX8_tired from rfl) rfl rfl (show vwCl[8]? = some (RX8, TX8, 51) from rfl) zw1504 zw1501 zw1503 zs122 zw16 (by decide +kernel) dX8_nights_79)
    zr_0))))))))))))))))
  (zrs_c (zr_n (zr_n (zr_s (zk_i2l C dX8_nights_82)
    (zr_s (zk_callV (n := 1) C zXX_ok zTs_good hbc hbs (show zget zprog 222 = some mX8_tell from rfl) rfl rfl (show vwCl[8]? = some (RX8, TX8, 51) from rfl) zw1500 zw1497 zw1499 zs121 zw16 (by decide +kernel) dX8_nights_83)
    (zr_n (zr_n (zr_s (zq_aload_n C dX8_nights_86 rfl)
    (zr_s (zq_get (k := 0) C dX8_nights_87 (show vwCl[8]? = some (RX8, TX8, 51) from rfl) zinX8 (by decide) zw1172)
    (zr_n (zr_n (zr_s (zq_bipush (n := .ofNat 25) C dX8_nights_90 (by decide) (by decide))
    (zr_n (zr_s (zk_iald C dX8_nights_92)
    (zr_s (zq_iload_n C dX8_nights_93 rfl)
    (zr_s (zk_sub C dX8_nights_94)
    (zr_s (zk_ret1 (ty := .int) C hbc hbs rfl rfl (Or.inl ⟨dX8_nights_95, by decide⟩))
    zr_0))))))))))))))))
  zrs_0))))))
set_option maxRecDepth 100000 in
set_option maxHeartbeats 4000000 in
theorem okX8_otherGets {l : Launch} {D : va_G} {tys : List (ClassId × FieldType)} {o : zO} {z : Nat} (E : zEnv tys) : zCodeOk l D vwCl tys o z (zXX o z) zTs zprog mX8_otherGets := by
  intro p e R s m args below meth c0 Q ws0 hbc hbs C pc sem h
  replace hbc : R.cells = 0 := hbc
  replace hbs : R.slots = 0 := hbs
  replace C : zCx p R s m args meth c0 D vwCl tys z (zXX o z) zTs RX8 cX8_otherGets 3 "otherGets" := C
  refine zRows_get (P := fun pc sem => zOp p l e R s m args below meth c0 Q D vwCl tys o z (zXX o z) zTs zprog ws0 3 cX8_otherGets (some .int) pc sem) (c := kX8_otherGets) ?_ h
  unfold kX8_otherGets
  exact (zrs_c (zr_s (zq_iload_n C dX8_otherGets_0 rfl)
    (zr_s (zq_iload_n C dX8_otherGets_1 rfl)
    (zr_s (zq_icmp_le C dX8_otherGets_2 (by decide))
    (zr_n (zr_n (zr_s (zq_iload_n C dX8_otherGets_5 rfl)
    (zr_s (zq_iload_n C dX8_otherGets_6 rfl)
    (zr_s (zk_sub C dX8_otherGets_7)
    (zr_s (zk_goto C dX8_otherGets_8 (by decide))
    (zr_n (zr_n (zr_s (zq_iconst (n := .ofNat 0) C dX8_otherGets_11 (by decide))
    (zr_s (zk_ret1 (ty := .int) C hbc hbs rfl rfl (Or.inl ⟨dX8_otherGets_12, by decide⟩))
    zr_0)))))))))))))
  zrs_0)
set_option maxRecDepth 100000 in
set_option maxHeartbeats 4000000 in
theorem okX8_paid {l : Launch} {D : va_G} {tys : List (ClassId × FieldType)} {o : zO} {z : Nat} (E : zEnv tys) : zCodeOk l D vwCl tys o z (zXX o z) zTs zprog mX8_paid := by
  intro p e R s m args below meth c0 Q ws0 hbc hbs C pc sem h
  replace hbc : R.cells = 0 := hbc
  replace hbs : R.slots = 0 := hbs
  replace C : zCx p R s m args meth c0 D vwCl tys z (zXX o z) zTs RX8 cX8_paid 6 "paid" := C
  refine zRows_get (P := fun pc sem => zOp p l e R s m args below meth c0 Q D vwCl tys o z (zXX o z) zTs zprog ws0 6 cX8_paid (some .int) pc sem) (c := kX8_paid) ?_ h
  unfold kX8_paid
  exact (zrs_c (zr_s (zq_aload_n C dX8_paid_0 rfl)
    (zr_s (zq_iconst (n := .ofNat 0) C dX8_paid_1 (by decide))
    (zr_s (zq_put (k := 11) C dX8_paid_2 (show vwCl[8]? = some (RX8, TX8, 51) from rfl) zinX8 tyX8 tyX8_ok nmX8 (by decide) zw1183 rfl (ty := .int) (by decide +kernel) rfl)
    (zr_n (zr_n (zr_s (zq_aload_n C dX8_paid_5 rfl)
    (zr_s (zq_iload_n C dX8_paid_6 rfl)
    (zr_s (zk_callV (n := 1) C zXX_ok zTs_good hbc hbs (show zget zprog 185 = some mX8_isMan from rfl) rfl rfl (show vwCl[8]? = some (RX8, TX8, 51) from rfl) zw1423 zw1420 zw1422 zs112 zw16 (by decide +kernel) dX8_paid_7)
    (zr_n (zr_n (zr_s (zq_if_ne C dX8_paid_10 (by decide))
    (zr_n (zr_n (zr_s (zq_iconst (n := .negSucc 0) C dX8_paid_13 (by decide))
    (zr_s (zk_ret1 (ty := .int) C hbc hbs rfl rfl (Or.inl ⟨dX8_paid_14, by decide⟩))
    (zr_n zr_0))))))))))))))))
  (zrs_c (zr_n (zr_n (zr_n (zr_n (zr_n (zr_n (zr_n (zr_n (zr_n (zr_n (zr_n (zr_n (zr_n (zr_n (zr_n (zr_n zr_0))))))))))))))))
  (zrs_c (zr_n (zr_n (zr_n (zr_n (zr_n (zr_n (zr_n (zr_n (zr_n (zr_n (zr_n (zr_n (zr_n (zr_n (zr_n (zr_n zr_0))))))))))))))))
  (zrs_c (zr_n (zr_n (zr_n (zr_n (zr_n (zr_n (zr_n (zr_n (zr_n (zr_n (zr_n (zr_n (zr_n (zr_n (zr_n (zr_n zr_0))))))))))))))))
  (zrs_c (zr_n (zr_n (zr_n (zr_n (zr_n (zr_n (zr_n (zr_n (zr_n (zr_n (zr_n (zr_n (zr_n (zr_n (zr_n (zr_n zr_0))))))))))))))))
  (zrs_c (zr_n (zr_n (zr_n (zr_n (zr_n (zr_n (zr_n (zr_n (zr_n (zr_n (zr_n (zr_n (zr_n (zr_n (zr_n (zr_n zr_0))))))))))))))))
  (zrs_c (zr_n (zr_n (zr_n (zr_n (zr_n (zr_n (zr_n (zr_n (zr_n (zr_n (zr_n (zr_n (zr_n (zr_n (zr_n (zr_n zr_0))))))))))))))))
  (zrs_c (zr_n (zr_n (zr_n (zr_n (zr_n (zr_n (zr_n (zr_n (zr_n (zr_n (zr_n (zr_n (zr_n (zr_n (zr_n (zr_n zr_0))))))))))))))))
  (zrs_c (zr_n zr_0)
  zrs_0)))))))))
set_option maxRecDepth 100000 in
set_option maxHeartbeats 4000000 in
theorem okX8_power {l : Launch} {D : va_G} {tys : List (ClassId × FieldType)} {o : zO} {z : Nat} (E : zEnv tys) : zCodeOk l D vwCl tys o z (zXX o z) zTs zprog mX8_power := by
  intro p e R s m args below meth c0 Q ws0 hbc hbs C pc sem h
  replace hbc : R.cells = 0 := hbc
  replace hbs : R.slots = 0 := hbs
  replace C : zCx p R s m args meth c0 D vwCl tys z (zXX o z) zTs RX8 cX8_power 6 "power" := C
  refine zRows_get (P := fun pc sem => zOp p l e R s m args below meth c0 Q D vwCl tys o z (zXX o z) zTs zprog ws0 6 cX8_power (some .long) pc sem) (c := kX8_power) ?_ h
  unfold kX8_power
  exact (zrs_c (zr_s (zq_lconst (n := .ofNat 1) C dX8_power_0 (by decide) (by decide))
    (zr_s (zq_lstore_n C dX8_power_1 rfl (by decide))
    (zr_s (zq_iconst (n := .ofNat 0) C dX8_power_2 (by decide))
    (zr_s (zq_istore C dX8_power_3 (by decide))
    (zr_n (zr_s (zq_iload C dX8_power_5)
    (zr_n (zr_s (zq_iload_n C dX8_power_7 rfl)
    (zr_s (zq_icmp_ge C dX8_power_8 (by decide))
    (zr_n (zr_n (zr_n (zr_n (zr_n (zr_n (zr_n zr_0))))))))))))))))
  (zrs_c (zr_n (zr_n (zr_n (zr_n (zr_n (zr_s (zq_lload_n C dX8_power_21 rfl)
    (zr_s (zk_ret1 C hbc hbs rfl rfl (Or.inr ⟨dX8_power_22, rfl⟩))
    zr_0)))))))
  zrs_0))
set_option maxRecDepth 100000 in
set_option maxHeartbeats 4000000 in
theorem okX8_readRule {l : Launch} {D : va_G} {tys : List (ClassId × FieldType)} {o : zO} {z : Nat} (E : zEnv tys) : zCodeOk l D vwCl tys o z (zXX o z) zTs zprog mX8_readRule := by
  intro p e R s m args below meth c0 Q ws0 hbc hbs C pc sem h
  replace hbc : R.cells = 0 := hbc
  replace hbs : R.slots = 0 := hbs
  replace C : zCx p R s m args meth c0 D vwCl tys z (zXX o z) zTs RX8 cX8_readRule 1 "readRule" := C
  refine zRows_get (P := fun pc sem => zOp p l e R s m args below meth c0 Q D vwCl tys o z (zXX o z) zTs zprog ws0 1 cX8_readRule (some .boolean) pc sem) (c := kX8_readRule) ?_ h
  unfold kX8_readRule
  exact (zrs_c (zr_s (zq_aload_n C dX8_readRule_0 rfl)
    (zr_s (zq_bipush (n := .ofNat 40) C dX8_readRule_1 (by decide) (by decide))
    (zr_n (zr_s (zk_callV (n := 1) C zXX_ok zTs_good hbc hbs (show zget zprog 151 = some mX8_beginText from rfl) rfl rfl (show vwCl[8]? = some (RX8, TX8, 51) from rfl) zw1348 zw1345 zw1347 zs96 zw16 (by decide +kernel) dX8_readRule_3)
    (zr_n (zr_n (zr_s (zq_aload_n C dX8_readRule_6 rfl)
    (zr_s (zq_iconst (n := .ofNat 0) C dX8_readRule_7 (by decide))
    (zr_s (zq_put (k := 21) C dX8_readRule_8 (show vwCl[8]? = some (RX8, TX8, 51) from rfl) zinX8 tyX8 tyX8_ok nmX8 (by decide) zw1193 rfl (ty := .boolean) (by decide +kernel) rfl)
    (zr_n (zr_n (zr_s (zq_aload_n C dX8_readRule_11 rfl)
    (zr_s (zq_get (k := 13) C dX8_readRule_12 (show vwCl[8]? = some (RX8, TX8, 51) from rfl) zinX8 (by decide) zw1185)
    (zr_n (zr_n (zr_s (zq_if_le C dX8_readRule_15 (by decide))
    zr_0))))))))))))))))
  (zrs_c (zr_n (zr_n (zr_n (zr_n (zr_n (zr_n (zr_n (zr_n (zr_s (zq_aload_n C dX8_readRule_24 rfl)
    (zr_s (zk_callV (n := 0) C zXX_ok zTs_good hbc hbs (show zget zprog 231 = some mX8_wasRight from rfl) rfl rfl (show vwCl[8]? = some (RX8, TX8, 51) from rfl) zw1380 zw1377 zw1379 zs104 zw16 (by decide +kernel) dX8_readRule_25)
    (zr_n (zr_n (zr_s (zk_ret1 (ty := .boolean) C hbc hbs rfl rfl (Or.inl ⟨dX8_readRule_28, by decide⟩))
    zr_0)))))))))))))
  zrs_0))
set_option maxRecDepth 100000 in
set_option maxHeartbeats 4000000 in
theorem okX8_remember {l : Launch} {D : va_G} {tys : List (ClassId × FieldType)} {o : zO} {z : Nat} (E : zEnv tys) : zCodeOk l D vwCl tys o z (zXX o z) zTs zprog mX8_remember := by
  intro p e R s m args below meth c0 Q ws0 hbc hbs C pc sem h
  replace hbc : R.cells = 0 := hbc
  replace hbs : R.slots = 0 := hbs
  replace C : zCx p R s m args meth c0 D vwCl tys z (zXX o z) zTs RX8 cX8_remember 3 "remember" := C
  refine zRows_get (P := fun pc sem => zOp p l e R s m args below meth c0 Q D vwCl tys o z (zXX o z) zTs zprog ws0 3 cX8_remember none pc sem) (c := kX8_remember) ?_ h
  unfold kX8_remember
  exact (zrs_c (zr_s (zq_aload_n C dX8_remember_0 rfl)
    (zr_s (zq_get (k := 24) C dX8_remember_1 (show vwCl[8]? = some (RX8, TX8, 51) from rfl) zinX8 (by decide) zw1196)
    (zr_n (zr_n (zr_s (zq_bipush (n := .ofNat 12) C dX8_remember_4 (by decide) (by decide))
    (zr_n (zr_s (zq_icmp_ne C dX8_remember_6 (by decide))
    (zr_n (zr_n (zr_n (zr_n (zr_n (zr_n (zr_n (zr_n (zr_n zr_0))))))))))))))))
  (zrs_c (zr_n (zr_n (zr_n (zr_n (zr_n (zr_n (zr_n (zr_n (zr_n (zr_n (zr_n (zr_n (zr_n (zr_n (zr_n (zr_n zr_0))))))))))))))))
  (zrs_c (zr_n (zr_n (zr_n (zr_n (zr_n (zr_n (zr_n (zr_n (zr_n (zr_n (zr_n (zr_n (zr_n (zr_n (zr_n (zr_n zr_0))))))))))))))))
  (zrs_c (zr_n (zr_s (zq_aload_n C dX8_remember_49 rfl)
    (zr_s (zq_aload_n C dX8_remember_50 rfl)
    (zr_s (zq_get (k := 23) C dX8_remember_51 (show vwCl[8]? = some (RX8, TX8, 51) from rfl) zinX8 (by decide) zw1195)
    (zr_n (zr_n (zr_s (zq_bipush (n := .ofNat 27) C dX8_remember_54 (by decide) (by decide))
    (zr_n (zr_s (zq_aload_n C dX8_remember_56 rfl)
    (zr_s (zq_get (k := 24) C dX8_remember_57 (show vwCl[8]? = some (RX8, TX8, 51) from rfl) zinX8 (by decide) zw1196)
    (zr_n (zr_n (zr_s (zq_imul C dX8_remember_60)
    (zr_s (zk_callS C zXX_ok zTs_good hbc hbs (show zget zprog 191 = some mX8_lay from rfl) rfl rfl zw1464 zw1462 zw1463 zw16 (by decide +kernel) dX8_remember_61)
    (zr_n (zr_n zr_0))))))))))))))))
  (zrs_c (zr_s (zq_aload_n C dX8_remember_64 rfl)
    (zr_s (zk_dup C dX8_remember_65)
    (zr_s (zq_get (k := 24) C dX8_remember_66 (show vwCl[8]? = some (RX8, TX8, 51) from rfl) zinX8 (by decide) zw1196)
    (zr_n (zr_n (zr_s (zq_iconst (n := .ofNat 1) C dX8_remember_69 (by decide))
    (zr_s (zk_add C dX8_remember_70)
    (zr_s (zq_put (k := 24) C dX8_remember_71 (show vwCl[8]? = some (RX8, TX8, 51) from rfl) zinX8 tyX8 tyX8_ok nmX8 (by decide) zw1196 rfl (ty := .int) (by decide +kernel) rfl)
    (zr_n (zr_n (zr_s (zk_ret0 C hbc hbs rfl dX8_remember_74)
    zr_0)))))))))))
  zrs_0)))))
set_option maxRecDepth 100000 in
set_option maxHeartbeats 4000000 in
theorem okX8_rests {l : Launch} {D : va_G} {tys : List (ClassId × FieldType)} {o : zO} {z : Nat} (E : zEnv tys) : zCodeOk l D vwCl tys o z (zXX o z) zTs zprog mX8_rests := by
  intro p e R s m args below meth c0 Q ws0 hbc hbs C pc sem h
  replace hbc : R.cells = 0 := hbc
  replace hbs : R.slots = 0 := hbs
  replace C : zCx p R s m args meth c0 D vwCl tys z (zXX o z) zTs RX8 cX8_rests 7 "rests" := C
  refine zRows_get (P := fun pc sem => zOp p l e R s m args below meth c0 Q D vwCl tys o z (zXX o z) zTs zprog ws0 7 cX8_rests (some .int) pc sem) (c := kX8_rests) ?_ h
  unfold kX8_rests
  exact (zrs_c (zr_s (zq_aload_n C dX8_rests_0 rfl)
    (zr_s (zq_iconst (n := .ofNat 0) C dX8_rests_1 (by decide))
    (zr_s (zq_put (k := 11) C dX8_rests_2 (show vwCl[8]? = some (RX8, TX8, 51) from rfl) zinX8 tyX8 tyX8_ok nmX8 (by decide) zw1183 rfl (ty := .int) (by decide +kernel) rfl)
    (zr_n (zr_n (zr_s (zq_iload_n C dX8_rests_5 rfl)
    (zr_s (zq_iconst (n := .ofNat 0) C dX8_rests_6 (by decide))
    (zr_s (zq_bipush (n := .ofNat 9) C dX8_rests_7 (by decide) (by decide))
    (zr_n (zr_s (zk_callS C zXX_ok zTs_good hbc hbs (show zget zprog 181 = some mX8_in from rfl) rfl rfl zw1340 zw1338 zw1339 zw16 (by decide +kernel) dX8_rests_9)
    (zr_n (zr_n (zr_s (zq_if_eq C dX8_rests_12 (by decide))
    (zr_n (zr_n (zr_s (zq_iload_n C dX8_rests_15 rfl)
    zr_0))))))))))))))))
  (zrs_c (zr_s (zq_iconst (n := .ofNat 0) C dX8_rests_16 (by decide))
    (zr_s (zq_bipush (n := .ofNat 9) C dX8_rests_17 (by decide) (by decide))
    (zr_n (zr_s (zk_callS C zXX_ok zTs_good hbc hbs (show zget zprog 181 = some mX8_in from rfl) rfl rfl zw1340 zw1338 zw1339 zw16 (by decide +kernel) dX8_rests_19)
    (zr_n (zr_n (zr_s (zq_if_ne C dX8_rests_22 (by decide))
    (zr_n (zr_n (zr_s (zq_iconst (n := .negSucc 0) C dX8_rests_25 (by decide))
    (zr_s (zk_ret1 (ty := .int) C hbc hbs rfl rfl (Or.inl ⟨dX8_rests_26, by decide⟩))
    (zr_s (zq_iconst (n := .ofNat 0) C dX8_rests_27 (by decide))
    (zr_s (zq_istore_n C dX8_rests_28 rfl (by decide))
    (zr_s (zq_iconst (n := .ofNat 0) C dX8_rests_29 (by decide))
    (zr_s (zq_istore C dX8_rests_30 (by decide))
    (zr_n zr_0))))))))))))))))
  (zrs_c (zr_s (zq_aload_n C dX8_rests_32 rfl)
    (zr_s (zq_iconst (n := .ofNat 0) C dX8_rests_33 (by decide))
    (zr_s (zq_put (k := 10) C dX8_rests_34 (show vwCl[8]? = some (RX8, TX8, 51) from rfl) zinX8 tyX8 tyX8_ok nmX8 (by decide) zw1182 rfl (ty := .int) (by decide +kernel) rfl)
    (zr_n (zr_n (zr_s (zq_iconst (n := .ofNat 0) C dX8_rests_37 (by decide))
    (zr_s (zq_istore C dX8_rests_38 (by decide))
    (zr_n (zr_s (zq_iload C dX8_rests_40)
    (zr_n (zr_s (zq_bipush (n := .ofNat 9) C dX8_rests_42 (by decide) (by decide))
    (zr_n (zr_s (zq_icmp_gt C dX8_rests_44 (by decide))
    (zr_n (zr_n (zr_s (zq_iconst (n := .ofNat 0) C dX8_rests_47 (by decide))
    zr_0))))))))))))))))
  (zrs_c (zr_s (zq_istore C dX8_rests_48 (by decide))
    (zr_n (zr_s (zq_iload C dX8_rests_50)
    (zr_n (zr_s (zq_bipush (n := .ofNat 9) C dX8_rests_52 (by decide) (by decide))
    (zr_n (zr_s (zq_icmp_gt C dX8_rests_54 (by decide))
    (zr_n (zr_n (zr_s (zq_iload C dX8_rests_57)
    (zr_n (zr_s (zq_iload C dX8_rests_59)
    (zr_n (zr_s (zq_iload_n C dX8_rests_61 rfl)
    (zr_s (zq_iload_n C dX8_rests_62 rfl)
    (zr_s (zk_callS C zXX_ok zTs_good hbc hbs (show zget zprog 186 = some mX8_isRest from rfl) rfl rfl zw1754 zw1752 zw1753 zw16 (by decide +kernel) dX8_rests_63)
    zr_0))))))))))))))))
  (zrs_c (zr_n (zr_n (zr_s (zq_if_ne C dX8_rests_66 (by decide))
    (zr_n (zr_n (zr_s (zk_goto C dX8_rests_69 (by decide))
    (zr_n (zr_n (zr_s (zq_iload_n C dX8_rests_72 rfl)
    (zr_s (zq_if_ne C dX8_rests_73 (by decide))
    (zr_n (zr_n (zr_s (zq_aload_n C dX8_rests_76 rfl)
    (zr_s (zq_iload C dX8_rests_77)
    (zr_n (zr_s (zk_i2l C dX8_rests_79)
    zr_0))))))))))))))))
  (zrs_c (zr_s (zk_callV (n := 1) C zXX_ok zTs_good hbc hbs (show zget zprog 222 = some mX8_tell from rfl) rfl rfl (show vwCl[8]? = some (RX8, TX8, 51) from rfl) zw1500 zw1497 zw1499 zs121 zw16 (by decide +kernel) dX8_rests_80)
    (zr_n (zr_n (zr_s (zq_aload_n C dX8_rests_83 rfl)
    (zr_s (zq_iload C dX8_rests_84)
    (zr_n (zr_s (zk_i2l C dX8_rests_86)
    (zr_s (zk_callV (n := 1) C zXX_ok zTs_good hbc hbs (show zget zprog 222 = some mX8_tell from rfl) rfl rfl (show vwCl[8]? = some (RX8, TX8, 51) from rfl) zw1500 zw1497 zw1499 zs121 zw16 (by decide +kernel) dX8_rests_87)
    (zr_n (zr_n (zr_s (zk_inc (n := .ofNat 1) C dX8_rests_90 (by decide) (by decide))
    (zr_n (zr_n (zr_s (zq_iload C dX8_rests_93)
    (zr_n (zr_s (zq_iload C dX8_rests_95)
    zr_0))))))))))))))))
  (zrs_c (zr_n (zr_s (zq_iload C dX8_rests_97)
    (zr_n (zr_s (zq_icmp_lt C dX8_rests_99 (by decide))
    (zr_n (zr_n (zr_s (zq_iconst (n := .ofNat 1) C dX8_rests_102 (by decide))
    (zr_s (zk_goto C dX8_rests_103 (by decide))
    (zr_n (zr_n (zr_s (zq_iconst (n := .ofNat 0) C dX8_rests_106 (by decide))
    (zr_s (zk_add C dX8_rests_107)
    (zr_s (zq_istore C dX8_rests_108 (by decide))
    (zr_n (zr_s (zk_inc (n := .ofNat 1) C dX8_rests_110 (by decide) (by decide))
    (zr_n zr_0))))))))))))))))
  (zrs_c (zr_n (zr_s (zk_goto C dX8_rests_113 (by decide))
    (zr_n (zr_n (zr_s (zk_inc (n := .ofNat 1) C dX8_rests_116 (by decide) (by decide))
    (zr_n (zr_n (zr_s (zk_goto C dX8_rests_119 (by decide))
    (zr_n (zr_n (zr_s (zq_iload_n C dX8_rests_122 rfl)
    (zr_s (zq_if_le C dX8_rests_123 (by decide))
    (zr_n (zr_n (zr_s (zq_aload_n C dX8_rests_126 rfl)
    (zr_s (zq_iload C dX8_rests_127)
    zr_0))))))))))))))))
  (zrs_c (zr_n (zr_s (zk_i2l C dX8_rests_129)
    (zr_s (zk_callV (n := 1) C zXX_ok zTs_good hbc hbs (show zget zprog 222 = some mX8_tell from rfl) rfl rfl (show vwCl[8]? = some (RX8, TX8, 51) from rfl) zw1500 zw1497 zw1499 zs121 zw16 (by decide +kernel) dX8_rests_130)
    (zr_n (zr_n (zr_s (zq_iload_n C dX8_rests_133 rfl)
    (zr_s (zk_ret1 (ty := .int) C hbc hbs rfl rfl (Or.inl ⟨dX8_rests_134, by decide⟩))
    zr_0)))))))
  zrs_0)))))))))
set_option maxRecDepth 100000 in
set_option maxHeartbeats 4000000 in
theorem okX8_rider {l : Launch} {D : va_G} {tys : List (ClassId × FieldType)} {o : zO} {z : Nat} (E : zEnv tys) : zCodeOk l D vwCl tys o z (zXX o z) zTs zprog mX8_rider := by
  intro p e R s m args below meth c0 Q ws0 hbc hbs C pc sem h
  replace hbc : R.cells = 0 := hbc
  replace hbs : R.slots = 0 := hbs
  replace C : zCx p R s m args meth c0 D vwCl tys z (zXX o z) zTs RX8 cX8_rider 3 "rider" := C
  refine zRows_get (P := fun pc sem => zOp p l e R s m args below meth c0 Q D vwCl tys o z (zXX o z) zTs zprog ws0 3 cX8_rider (some .int) pc sem) (c := kX8_rider) ?_ h
  unfold kX8_rider
  exact (zrs_c (zr_s (zq_aload_n C dX8_rider_0 rfl)
    (zr_s (zq_iconst (n := .ofNat 0) C dX8_rider_1 (by decide))
    (zr_s (zq_put (k := 11) C dX8_rider_2 (show vwCl[8]? = some (RX8, TX8, 51) from rfl) zinX8 tyX8 tyX8_ok nmX8 (by decide) zw1183 rfl (ty := .int) (by decide +kernel) rfl)
    (zr_n (zr_n (zr_s (zq_aload_n C dX8_rider_5 rfl)
    (zr_s (zq_iload_n C dX8_rider_6 rfl)
    (zr_s (zk_callV (n := 1) C zXX_ok zTs_good hbc hbs (show zget zprog 185 = some mX8_isMan from rfl) rfl rfl (show vwCl[8]? = some (RX8, TX8, 51) from rfl) zw1423 zw1420 zw1422 zs112 zw16 (by decide +kernel) dX8_rider_7)
    (zr_n (zr_n (zr_s (zq_if_eq C dX8_rider_10 (by decide))
    (zr_n (zr_n (zr_n (zr_n (zr_n zr_0))))))))))))))))
  (zrs_c (zr_n (zr_n (zr_n (zr_n (zr_n (zr_n (zr_s (zq_aload_n C dX8_rider_22 rfl)
    (zr_s (zk_callV (n := 0) C zXX_ok zTs_good hbc hbs (show zget zprog 195 = some mX8_lost from rfl) rfl rfl (show vwCl[8]? = some (RX8, TX8, 51) from rfl) zw1427 zw1424 zw1426 zs113 zw16 (by decide +kernel) dX8_rider_23)
    (zr_n (zr_n (zr_s (zk_ret1 (ty := .int) C hbc hbs rfl rfl (Or.inl ⟨dX8_rider_26, by decide⟩))
    (zr_n (zr_n (zr_n (zr_n (zr_n zr_0))))))))))))))))
  (zrs_c (zr_n (zr_n (zr_n (zr_n (zr_n (zr_n (zr_n (zr_n (zr_n (zr_n (zr_n (zr_n (zr_n (zr_n (zr_n (zr_n zr_0))))))))))))))))
  (zrs_c (zr_n (zr_n (zr_n (zr_n (zr_n (zr_n (zr_n (zr_n (zr_n (zr_n (zr_n (zr_n (zr_n (zr_n (zr_n (zr_n zr_0))))))))))))))))
  (zrs_c (zr_n (zr_n (zr_n (zr_n (zr_n (zr_n (zr_n (zr_n (zr_n (zr_n (zr_n (zr_n (zr_n (zr_n (zr_n (zr_n zr_0))))))))))))))))
  (zrs_c (zr_n (zr_n (zr_n (zr_n (zr_n (zr_n (zr_n (zr_n (zr_n (zr_n (zr_n (zr_n (zr_n (zr_n (zr_n (zr_n zr_0))))))))))))))))
  (zrs_c (zr_n (zr_n (zr_n (zr_n (zr_n (zr_n (zr_n (zr_n (zr_n (zr_n (zr_n (zr_n (zr_n (zr_n (zr_n (zr_n zr_0))))))))))))))))
  (zrs_c (zr_n (zr_n (zr_n zr_0)))
  zrs_0))))))))
set_option maxRecDepth 100000 in
set_option maxHeartbeats 4000000 in
theorem okX8_riders {l : Launch} {D : va_G} {tys : List (ClassId × FieldType)} {o : zO} {z : Nat} (E : zEnv tys) : zCodeOk l D vwCl tys o z (zXX o z) zTs zprog mX8_riders := by
  intro p e R s m args below meth c0 Q ws0 hbc hbs C pc sem h
  replace hbc : R.cells = 0 := hbc
  replace hbs : R.slots = 0 := hbs
  replace C : zCx p R s m args meth c0 D vwCl tys z (zXX o z) zTs RX8 cX8_riders 4 "riders" := C
  refine zRows_get (P := fun pc sem => zOp p l e R s m args below meth c0 Q D vwCl tys o z (zXX o z) zTs zprog ws0 4 cX8_riders (some .int) pc sem) (c := kX8_riders) ?_ h
  unfold kX8_riders
  exact (zrs_c (zr_s (zq_aload_n C dX8_riders_0 rfl)
    (zr_s (zq_iconst (n := .ofNat 0) C dX8_riders_1 (by decide))
    (zr_s (zq_put (k := 11) C dX8_riders_2 (show vwCl[8]? = some (RX8, TX8, 51) from rfl) zinX8 tyX8 tyX8_ok nmX8 (by decide) zw1183 rfl (ty := .int) (by decide +kernel) rfl)
    (zr_n (zr_n (zr_s (zq_aload_n C dX8_riders_5 rfl)
    (zr_s (zq_bipush (n := .ofNat 76) C dX8_riders_6 (by decide) (by decide))
    (zr_n (zr_s (zk_callV (n := 1) C zXX_ok zTs_good hbc hbs (show zget zprog 151 = some mX8_beginText from rfl) rfl rfl (show vwCl[8]? = some (RX8, TX8, 51) from rfl) zw1348 zw1345 zw1347 zs96 zw16 (by decide +kernel) dX8_riders_8)
    (zr_n (zr_n (zr_s (zq_aload_n C dX8_riders_11 rfl)
    (zr_s (zq_get (k := 13) C dX8_riders_12 (show vwCl[8]? = some (RX8, TX8, 51) from rfl) zinX8 (by decide) zw1185)
    (zr_n (zr_n (zr_s (zq_if_ne C dX8_riders_15 (by decide))
    zr_0))))))))))))))))
  (zrs_c (zr_n (zr_n (zr_s (zq_iconst (n := .ofNat 0) C dX8_riders_18 (by decide))
    (zr_s (zk_ret1 (ty := .int) C hbc hbs rfl rfl (Or.inl ⟨dX8_riders_19, by decide⟩))
    (zr_n (zr_n (zr_n (zr_n (zr_n (zr_n (zr_n (zr_n (zr_n (zr_n (zr_n (zr_n zr_0))))))))))))))))
  (zrs_c (zr_n (zr_n (zr_n (zr_n (zr_n (zr_n (zr_n (zr_n (zr_n (zr_n (zr_n (zr_n (zr_n (zr_n (zr_n (zr_n zr_0))))))))))))))))
  (zrs_c (zr_n (zr_n (zr_n (zr_n (zr_n (zr_n (zr_n (zr_n (zr_n (zr_n (zr_n (zr_n (zr_n (zr_n (zr_n (zr_n zr_0))))))))))))))))
  (zrs_c (zr_n (zr_n (zr_n (zr_n (zr_n (zr_n (zr_n (zr_n (zr_n (zr_n (zr_n (zr_n (zr_n (zr_n (zr_n (zr_n zr_0))))))))))))))))
  (zrs_c (zr_n (zr_n (zr_n (zr_n (zr_n (zr_n (zr_n (zr_n (zr_n (zr_n (zr_n (zr_n (zr_n (zr_n (zr_n (zr_n zr_0))))))))))))))))
  (zrs_c (zr_n (zr_n (zr_n (zr_n (zr_n (zr_n (zr_n (zr_n (zr_n (zr_n (zr_n (zr_n (zr_n (zr_n (zr_n (zr_n zr_0))))))))))))))))
  (zrs_c (zr_n (zr_n (zr_n (zr_n (zr_n (zr_n (zr_n (zr_n (zr_n (zr_n (zr_n (zr_n (zr_n (zr_n (zr_n (zr_n zr_0))))))))))))))))
  (zrs_c (zr_n (zr_n (zr_n (zr_n (zr_n (zr_n (zr_n (zr_n (zr_n (zr_n (zr_n (zr_n (zr_n (zr_n (zr_n (zr_n zr_0))))))))))))))))
  (zrs_c (zr_n (zr_n (zr_n (zr_n (zr_n (zr_n (zr_n (zr_n (zr_n (zr_n (zr_n (zr_n (zr_n (zr_n (zr_n (zr_n zr_0))))))))))))))))
  (zrs_c (zr_n (zr_n (zr_n (zr_n (zr_n (zr_n (zr_n (zr_n (zr_n (zr_n (zr_n (zr_n (zr_n (zr_n (zr_n (zr_n zr_0))))))))))))))))
  (zrs_c (zr_n (zr_n (zr_n (zr_n (zr_n (zr_n (zr_n (zr_n (zr_n (zr_n (zr_n (zr_n (zr_n (zr_n (zr_n (zr_n zr_0))))))))))))))))
  (zrs_c (zr_n (zr_n (zr_n (zr_n (zr_n (zr_n (zr_n (zr_n (zr_n (zr_n (zr_n (zr_n (zr_n (zr_n (zr_n (zr_n zr_0))))))))))))))))
  (zrs_c (zr_n (zr_n (zr_n (zr_n zr_0))))
  zrs_0))))))))))))))
set_option maxRecDepth 100000 in
set_option maxHeartbeats 4000000 in
theorem okX8_rota {l : Launch} {D : va_G} {tys : List (ClassId × FieldType)} {o : zO} {z : Nat} (E : zEnv tys) : zCodeOk l D vwCl tys o z (zXX o z) zTs zprog mX8_rota := by
  intro p e R s m args below meth c0 Q ws0 hbc hbs C pc sem h
  replace hbc : R.cells = 0 := hbc
  replace hbs : R.slots = 0 := hbs
  replace C : zCx p R s m args meth c0 D vwCl tys z (zXX o z) zTs RX8 cX8_rota 3 "rota" := C
  refine zRows_get (P := fun pc sem => zOp p l e R s m args below meth c0 Q D vwCl tys o z (zXX o z) zTs zprog ws0 3 cX8_rota (some .int) pc sem) (c := kX8_rota) ?_ h
  unfold kX8_rota
  exact (zrs_c (zr_s (zq_aload_n C dX8_rota_0 rfl)
    (zr_s (zq_iconst (n := .ofNat 0) C dX8_rota_1 (by decide))
    (zr_s (zq_put (k := 11) C dX8_rota_2 (show vwCl[8]? = some (RX8, TX8, 51) from rfl) zinX8 tyX8 tyX8_ok nmX8 (by decide) zw1183 rfl (ty := .int) (by decide +kernel) rfl)
    (zr_n (zr_n (zr_s (zq_aload_n C dX8_rota_5 rfl)
    (zr_s (zq_aload_n C dX8_rota_6 rfl)
    (zr_s (zq_get (k := 1) C dX8_rota_7 (show vwCl[8]? = some (RX8, TX8, 51) from rfl) zinX8 (by decide) zw1173)
    (zr_n (zr_n (zr_s (zk_callV (n := 1) C zXX_ok zTs_good hbc hbs (show zget zprog 151 = some mX8_beginText from rfl) rfl rfl (show vwCl[8]? = some (RX8, TX8, 51) from rfl) zw1348 zw1345 zw1347 zs96 zw16 (by decide +kernel) dX8_rota_10)
    (zr_n (zr_n (zr_s (zq_iconst (n := .ofNat 0) C dX8_rota_13 (by decide))
    (zr_s (zq_istore_n C dX8_rota_14 rfl (by decide))
    (zr_s (zq_iload_n C dX8_rota_15 rfl)
    zr_0))))))))))))))))
  (zrs_c (zr_s (zq_aload_n C dX8_rota_16 rfl)
    (zr_s (zq_get (k := 1) C dX8_rota_17 (show vwCl[8]? = some (RX8, TX8, 51) from rfl) zinX8 (by decide) zw1173)
    (zr_n (zr_n (zr_s (zq_icmp_ge C dX8_rota_20 (by decide))
    (zr_n (zr_n (zr_s (zq_aload_n C dX8_rota_23 rfl)
    (zr_s (zk_callV (n := 0) C zXX_ok zTs_good hbc hbs (show zget zprog 163 = some mX8_fine from rfl) rfl rfl (show vwCl[8]? = some (RX8, TX8, 51) from rfl) zw1356 zw1353 zw1355 zs98 zw16 (by decide +kernel) dX8_rota_24)
    (zr_n (zr_n (zr_s (zq_if_eq C dX8_rota_27 (by decide))
    (zr_n (zr_n (zr_s (zq_aload_n C dX8_rota_30 rfl)
    (zr_s (zk_callV (n := 0) C zXX_ok zTs_good hbc hbs (show zget zprog 178 = some mX8_here from rfl) rfl rfl (show vwCl[8]? = some (RX8, TX8, 51) from rfl) zw1372 zw1369 zw1371 zs102 zw16 (by decide +kernel) dX8_rota_31)
    zr_0))))))))))))))))
  (zrs_c (zr_n (zr_n (zr_s (zq_bipush (n := .ofNat 45) C dX8_rota_34 (by decide) (by decide))
    (zr_n (zr_s (zq_icmp_ne C dX8_rota_36 (by decide))
    (zr_n (zr_n (zr_n (zr_n (zr_n (zr_n (zr_s (zq_aload_n C dX8_rota_43 rfl)
    (zr_s (zk_callV (n := 0) C zXX_ok zTs_good hbc hbs (show zget zprog 178 = some mX8_here from rfl) rfl rfl (show vwCl[8]? = some (RX8, TX8, 51) from rfl) zw1372 zw1369 zw1371 zs102 zw16 (by decide +kernel) dX8_rota_44)
    (zr_n (zr_n (zr_s (zq_bipush (n := .ofNat 48) C dX8_rota_47 (by decide) (by decide))
    zr_0))))))))))))))))
  (zrs_c (zr_n (zr_s (zk_sub C dX8_rota_49)
    (zr_s (zq_istore_n C dX8_rota_50 rfl (by decide))
    (zr_s (zq_aload_n C dX8_rota_51 rfl)
    (zr_s (zk_callV (n := 0) C zXX_ok zTs_good hbc hbs (show zget zprog 178 = some mX8_here from rfl) rfl rfl (show vwCl[8]? = some (RX8, TX8, 51) from rfl) zw1372 zw1369 zw1371 zs102 zw16 (by decide +kernel) dX8_rota_52)
    (zr_n (zr_n (zr_s (zq_bipush (n := .ofNat 45) C dX8_rota_55 (by decide) (by decide))
    (zr_n (zr_s (zq_icmp_eq C dX8_rota_57 (by decide))
    (zr_n (zr_n (zr_s (zq_aload_n C dX8_rota_60 rfl)
    (zr_s (zq_iload_n C dX8_rota_61 rfl)
    (zr_s (zk_callV (n := 1) C zXX_ok zTs_good hbc hbs (show zget zprog 185 = some mX8_isMan from rfl) rfl rfl (show vwCl[8]? = some (RX8, TX8, 51) from rfl) zw1423 zw1420 zw1422 zs112 zw16 (by decide +kernel) dX8_rota_62)
    (zr_n zr_0))))))))))))))))
  (zrs_c (zr_n (zr_s (zq_if_ne C dX8_rota_65 (by decide))
    (zr_n (zr_n (zr_s (zq_aload_n C dX8_rota_68 rfl)
    (zr_s (zq_aload_n C dX8_rota_69 rfl)
    (zr_s (zq_get (k := 15) C dX8_rota_70 (show vwCl[8]? = some (RX8, TX8, 51) from rfl) zinX8 (by decide) zw1187)
    (zr_n (zr_n (zr_s (zk_callV (n := 1) C zXX_ok zTs_good hbc hbs (show zget zprog 161 = some mX8_fault from rfl) rfl rfl (show vwCl[8]? = some (RX8, TX8, 51) from rfl) zw1360 zw1357 zw1359 zs99 zw16 (by decide +kernel) dX8_rota_73)
    (zr_n (zr_n (zr_s (zk_goto C dX8_rota_76 (by decide))
    (zr_n (zr_n (zr_n zr_0))))))))))))))))
  (zrs_c (zr_n (zr_n (zr_n (zr_n (zr_n (zr_n (zr_n (zr_n (zr_n (zr_n (zr_n (zr_n (zr_n (zr_n (zr_n (zr_n zr_0))))))))))))))))
  (zrs_c (zr_s (zk_inc (n := .ofNat 1) C dX8_rota_96 (by decide) (by decide))
    (zr_n (zr_n (zr_s (zk_goto C dX8_rota_99 (by decide))
    (zr_n (zr_n (zr_s (zq_aload_n C dX8_rota_102 rfl)
    (zr_s (zk_callV (n := 0) C zXX_ok zTs_good hbc hbs (show zget zprog 231 = some mX8_wasRight from rfl) rfl rfl (show vwCl[8]? = some (RX8, TX8, 51) from rfl) zw1380 zw1377 zw1379 zs104 zw16 (by decide +kernel) dX8_rota_103)
    (zr_n (zr_n (zr_s (zq_if_ne C dX8_rota_106 (by decide))
    (zr_n (zr_n (zr_s (zq_iconst (n := .negSucc 0) C dX8_rota_109 (by decide))
    (zr_s (zq_aload_n C dX8_rota_110 rfl)
    (zr_s (zq_get (k := 16) C dX8_rota_111 (show vwCl[8]? = some (RX8, TX8, 51) from rfl) zinX8 (by decide) zw1188)
    zr_0))))))))))))))))
  (zrs_c (zr_n (zr_n (zr_s (zk_sub C dX8_rota_114)
    (zr_s (zk_ret1 (ty := .int) C hbc hbs rfl rfl (Or.inl ⟨dX8_rota_115, by decide⟩))
    (zr_n (zr_n (zr_n (zr_n (zr_n (zr_n (zr_n (zr_n (zr_n (zr_n (zr_n (zr_n zr_0))))))))))))))))
  (zrs_c (zr_n (zr_n (zr_n (zr_n (zr_n (zr_n (zr_n (zr_n (zr_n (zr_n (zr_n (zr_n (zr_n (zr_n (zr_n (zr_n zr_0))))))))))))))))
  (zrs_c (zr_n (zr_n (zr_n (zr_n (zr_n (zr_n (zr_n (zr_n (zr_n (zr_n (zr_n (zr_n (zr_n (zr_n (zr_n (zr_n zr_0))))))))))))))))
  (zrs_c (zr_n (zr_n (zr_n (zr_n (zr_n (zr_n (zr_n (zr_n (zr_n (zr_n (zr_n (zr_n (zr_n (zr_n (zr_n (zr_n zr_0))))))))))))))))
  (zrs_c (zr_n (zr_n (zr_n (zr_n (zr_n (zr_n (zr_n (zr_n zr_0))))))))
  zrs_0))))))))))))
set_option maxRecDepth 100000 in
set_option maxHeartbeats 4000000 in
theorem okX8_rotas {l : Launch} {D : va_G} {tys : List (ClassId × FieldType)} {o : zO} {z : Nat} (E : zEnv tys) : zCodeOk l D vwCl tys o z (zXX o z) zTs zprog mX8_rotas := by
  intro p e R s m args below meth c0 Q ws0 hbc hbs C pc sem h
  replace hbc : R.cells = 0 := hbc
  replace hbs : R.slots = 0 := hbs
  replace C : zCx p R s m args meth c0 D vwCl tys z (zXX o z) zTs RX8 cX8_rotas 1 "rotas" := C
  refine zRows_get (P := fun pc sem => zOp p l e R s m args below meth c0 Q D vwCl tys o z (zXX o z) zTs zprog ws0 1 cX8_rotas (some .int) pc sem) (c := kX8_rotas) ?_ h
  unfold kX8_rotas
  exact (zrs_c (zr_s (zq_aload_n C dX8_rotas_0 rfl)
    (zr_s (zq_iconst (n := .ofNat 0) C dX8_rotas_1 (by decide))
    (zr_s (zq_put (k := 11) C dX8_rotas_2 (show vwCl[8]? = some (RX8, TX8, 51) from rfl) zinX8 tyX8 tyX8_ok nmX8 (by decide) zw1183 rfl (ty := .int) (by decide +kernel) rfl)
    (zr_n (zr_n (zr_s (zq_aload_n C dX8_rotas_5 rfl)
    (zr_s (zq_iconst (n := .negSucc 0) C dX8_rotas_6 (by decide))
    (zr_s (zk_callV (n := 1) C zXX_ok zTs_good hbc hbs (show zget zprog 194 = some mX8_layMay from rfl) rfl rfl (show vwCl[8]? = some (RX8, TX8, 51) from rfl) zw1564 zw1561 zw1563 zs128 zw16 (by decide +kernel) dX8_rotas_7)
    (zr_n (zr_n (zr_s (zq_aload_n C dX8_rotas_10 rfl)
    (zr_s (zk_callV (n := 0) C zXX_ok zTs_good hbc hbs (show zget zprog 224 = some mX8_tellWays from rfl) rfl rfl (show vwCl[8]? = some (RX8, TX8, 51) from rfl) zw1628 zw1625 zw1627 zs141 zw16 (by decide +kernel) dX8_rotas_11)
    (zr_n (zr_n (zr_s (zk_ret1 (ty := .int) C hbc hbs rfl rfl (Or.inl ⟨dX8_rotas_14, by decide⟩))
    zr_0)))))))))))))))
  zrs_0)
set_option maxRecDepth 100000 in
set_option maxHeartbeats 4000000 in
theorem okX8_row {l : Launch} {D : va_G} {tys : List (ClassId × FieldType)} {o : zO} {z : Nat} (E : zEnv tys) : zCodeOk l D vwCl tys o z (zXX o z) zTs zprog mX8_row := by
  intro p e R s m args below meth c0 Q ws0 hbc hbs C pc sem h
  replace hbc : R.cells = 0 := hbc
  replace hbs : R.slots = 0 := hbs
  replace C : zCx p R s m args meth c0 D vwCl tys z (zXX o z) zTs RX8 cX8_row 2 "row" := C
  refine zRows_get (P := fun pc sem => zOp p l e R s m args below meth c0 Q D vwCl tys o z (zXX o z) zTs zprog ws0 2 cX8_row (some .long) pc sem) (c := kX8_row) ?_ h
  unfold kX8_row
  exact (zrs_c (zr_s (zq_aload_n C dX8_row_0 rfl)
    (zr_s (zq_iconst (n := .ofNat 0) C dX8_row_1 (by decide))
    (zr_s (zq_put (k := 11) C dX8_row_2 (show vwCl[8]? = some (RX8, TX8, 51) from rfl) zinX8 tyX8 tyX8_ok nmX8 (by decide) zw1183 rfl (ty := .int) (by decide +kernel) rfl)
    (zr_n (zr_n (zr_s (zq_iload_n C dX8_row_5 rfl)
    (zr_s (zq_iconst (n := .ofNat 0) C dX8_row_6 (by decide))
    (zr_s (zq_aload_n C dX8_row_7 rfl)
    (zr_s (zq_get (k := 10) C dX8_row_8 (show vwCl[8]? = some (RX8, TX8, 51) from rfl) zinX8 (by decide) zw1182)
    (zr_n (zr_n (zr_s (zq_iconst (n := .ofNat 1) C dX8_row_11 (by decide))
    (zr_s (zk_sub C dX8_row_12)
    (zr_s (zk_callS C zXX_ok zTs_good hbc hbs (show zget zprog 181 = some mX8_in from rfl) rfl rfl zw1340 zw1338 zw1339 zw16 (by decide +kernel) dX8_row_13)
    (zr_n (zr_n zr_0))))))))))))))))
  (zrs_c (zr_s (zq_if_eq C dX8_row_16 (by decide))
    (zr_n (zr_n (zr_n (zr_n (zr_n (zr_n (zr_n (zr_n (zr_n (zr_n (zr_n (zr_s (zq_aload_n C dX8_row_28 rfl)
    (zr_s (zk_callV (n := 0) C zXX_ok zTs_good hbc hbs (show zget zprog 195 = some mX8_lost from rfl) rfl rfl (show vwCl[8]? = some (RX8, TX8, 51) from rfl) zw1427 zw1424 zw1426 zs113 zw16 (by decide +kernel) dX8_row_29)
    (zr_n (zr_n zr_0))))))))))))))))
  (zrs_c (zr_s (zk_i2l C dX8_row_32)
    (zr_s (zk_ret1 C hbc hbs rfl rfl (Or.inr ⟨dX8_row_33, rfl⟩))
    zr_0))
  zrs_0)))
set_option maxRecDepth 100000 in
set_option maxHeartbeats 4000000 in
theorem okX8_rule {l : Launch} {D : va_G} {tys : List (ClassId × FieldType)} {o : zO} {z : Nat} (E : zEnv tys) : zCodeOk l D vwCl tys o z (zXX o z) zTs zprog mX8_rule := by
  intro p e R s m args below meth c0 Q ws0 hbc hbs C pc sem h
  replace hbc : R.cells = 0 := hbc
  replace hbs : R.slots = 0 := hbs
  replace C : zCx p R s m args meth c0 D vwCl tys z (zXX o z) zTs RX8 cX8_rule 3 "rule" := C
  refine zRows_get (P := fun pc sem => zOp p l e R s m args below meth c0 Q D vwCl tys o z (zXX o z) zTs zprog ws0 3 cX8_rule (some .int) pc sem) (c := kX8_rule) ?_ h
  unfold kX8_rule
  exact (zrs_c (zr_s (zq_aload_n C dX8_rule_0 rfl)
    (zr_s (zq_iconst (n := .ofNat 0) C dX8_rule_1 (by decide))
    (zr_s (zq_put (k := 11) C dX8_rule_2 (show vwCl[8]? = some (RX8, TX8, 51) from rfl) zinX8 tyX8 tyX8_ok nmX8 (by decide) zw1183 rfl (ty := .int) (by decide +kernel) rfl)
    (zr_n (zr_n (zr_s (zq_aload_n C dX8_rule_5 rfl)
    (zr_s (zq_get (k := 8) C dX8_rule_6 (show vwCl[8]? = some (RX8, TX8, 51) from rfl) zinX8 (by decide) zw1180)
    (zr_n (zr_n (zr_s (zq_istore_n C dX8_rule_9 rfl (by decide))
    (zr_s (zq_aload_n C dX8_rule_10 rfl)
    (zr_s (zk_callV (n := 0) C zXX_ok zTs_good hbc hbs (show zget zprog 204 = some mX8_readRule from rfl) rfl rfl (show vwCl[8]? = some (RX8, TX8, 51) from rfl) zw1388 zw1385 zw1387 zs105 zw16 (by decide +kernel) dX8_rule_11)
    (zr_n (zr_n (zr_s (zq_if_ne C dX8_rule_14 (by decide))
    (zr_n zr_0))))))))))))))))
  (zrs_c (zr_n (zr_n (zr_n (zr_n (zr_n (zr_n (zr_n (zr_n (zr_s (zq_iconst (n := .ofNat 0) C dX8_rule_24 (by decide))
    (zr_s (zq_istore_n C dX8_rule_25 rfl (by decide))
    (zr_s (zq_iload_n C dX8_rule_26 rfl)
    (zr_s (zq_iload_n C dX8_rule_27 rfl)
    (zr_s (zq_icmp_ge C dX8_rule_28 (by decide))
    (zr_n (zr_n (zr_n zr_0))))))))))))))))
  (zrs_c (zr_n (zr_n (zr_n (zr_n (zr_n (zr_n (zr_n (zr_n (zr_n (zr_n (zr_n (zr_n (zr_n (zr_n (zr_n (zr_n zr_0))))))))))))))))
  (zrs_c (zr_n (zr_s (zq_aload_n C dX8_rule_49 rfl)
    (zr_s (zq_iload_n C dX8_rule_50 rfl)
    (zr_s (zq_put (k := 20) C dX8_rule_51 (show vwCl[8]? = some (RX8, TX8, 51) from rfl) zinX8 tyX8 tyX8_ok nmX8 (by decide) zw1192 rfl (ty := .int) (by decide +kernel) rfl)
    (zr_n (zr_n (zr_s (zq_iconst (n := .ofNat 0) C dX8_rule_54 (by decide))
    (zr_s (zk_ret1 (ty := .int) C hbc hbs rfl rfl (Or.inl ⟨dX8_rule_55, by decide⟩))
    zr_0))))))))
  zrs_0))))
set_option maxRecDepth 100000 in
set_option maxHeartbeats 4000000 in
theorem okX8_set {l : Launch} {D : va_G} {tys : List (ClassId × FieldType)} {o : zO} {z : Nat} (E : zEnv tys) : zCodeOk l D vwCl tys o z (zXX o z) zTs zprog mX8_set := by
  intro p e R s m args below meth c0 Q ws0 hbc hbs C pc sem h
  replace hbc : R.cells = 0 := hbc
  replace hbs : R.slots = 0 := hbs
  replace C : zCx p R s m args meth c0 D vwCl tys z (zXX o z) zTs RX8 cX8_set 4 "set" := C
  refine zRows_get (P := fun pc sem => zOp p l e R s m args below meth c0 Q D vwCl tys o z (zXX o z) zTs zprog ws0 4 cX8_set (some .int) pc sem) (c := kX8_set) ?_ h
  unfold kX8_set
  exact (zrs_c (zr_s (zq_aload_n C dX8_set_0 rfl)
    (zr_s (zq_iconst (n := .ofNat 0) C dX8_set_1 (by decide))
    (zr_s (zq_put (k := 11) C dX8_set_2 (show vwCl[8]? = some (RX8, TX8, 51) from rfl) zinX8 tyX8 tyX8_ok nmX8 (by decide) zw1183 rfl (ty := .int) (by decide +kernel) rfl)
    (zr_n (zr_n (zr_s (zq_iload_n C dX8_set_5 rfl)
    (zr_s (zq_if_ne C dX8_set_6 (by decide))
    (zr_n (zr_n (zr_s (zq_iload_n C dX8_set_9 rfl)
    (zr_s (zq_iconst (n := .ofNat 1) C dX8_set_10 (by decide))
    (zr_s (zq_bipush (n := .ofNat 8) C dX8_set_11 (by decide) (by decide))
    (zr_n (zr_s (zk_callS C zXX_ok zTs_good hbc hbs (show zget zprog 181 = some mX8_in from rfl) rfl rfl zw1340 zw1338 zw1339 zw16 (by decide +kernel) dX8_set_13)
    (zr_n (zr_n zr_0))))))))))))))))
  (zrs_c (zr_s (zq_if_ne C dX8_set_16 (by decide))
    (zr_n (zr_n (zr_s (zk_goto C dX8_set_19 (by decide))
    (zr_n (zr_n (zr_s (zq_iload_n C dX8_set_22 rfl)
    (zr_s (zq_iconst (n := .ofNat 1) C dX8_set_23 (by decide))
    (zr_s (zq_icmp_ne C dX8_set_24 (by decide))
    (zr_n (zr_n (zr_s (zq_iload_n C dX8_set_27 rfl)
    (zr_s (zq_iconst (n := .ofNat 0) C dX8_set_28 (by decide))
    (zr_s (zq_bipush (n := .ofNat 9) C dX8_set_29 (by decide) (by decide))
    (zr_n (zr_s (zk_callS C zXX_ok zTs_good hbc hbs (show zget zprog 181 = some mX8_in from rfl) rfl rfl zw1340 zw1338 zw1339 zw16 (by decide +kernel) dX8_set_31)
    zr_0))))))))))))))))
  (zrs_c (zr_n (zr_n (zr_s (zq_if_ne C dX8_set_34 (by decide))
    (zr_n (zr_n (zr_s (zq_iconst (n := .negSucc 0) C dX8_set_37 (by decide))
    (zr_s (zk_ret1 (ty := .int) C hbc hbs rfl rfl (Or.inl ⟨dX8_set_38, by decide⟩))
    (zr_s (zq_iload_n C dX8_set_39 rfl)
    (zr_s (zq_if_ne C dX8_set_40 (by decide))
    (zr_n (zr_n (zr_s (zq_aload_n C dX8_set_43 rfl)
    (zr_s (zq_get (k := 1) C dX8_set_44 (show vwCl[8]? = some (RX8, TX8, 51) from rfl) zinX8 (by decide) zw1173)
    (zr_n (zr_n (zr_s (zk_goto C dX8_set_47 (by decide))
    zr_0))))))))))))))))
  (zrs_c (zr_n (zr_n (zr_s (zq_aload_n C dX8_set_50 rfl)
    (zr_s (zq_get (k := 2) C dX8_set_51 (show vwCl[8]? = some (RX8, TX8, 51) from rfl) zinX8 (by decide) zw1174)
    (zr_n (zr_n (zr_s (zq_istore_n C dX8_set_54 rfl (by decide))
    (zr_s (zq_iload_n C dX8_set_55 rfl)
    (zr_s (zq_if_ne C dX8_set_56 (by decide))
    (zr_n (zr_n (zr_s (zq_aload_n C dX8_set_59 rfl)
    (zr_s (zq_iload_n C dX8_set_60 rfl)
    (zr_s (zq_put (k := 1) C dX8_set_61 (show vwCl[8]? = some (RX8, TX8, 51) from rfl) zinX8 tyX8 tyX8_ok nmX8 (by decide) zw1173 rfl (ty := .int) (by decide +kernel) rfl)
    (zr_n (zr_n zr_0))))))))))))))))
  (zrs_c (zr_s (zk_goto C dX8_set_64 (by decide))
    (zr_n (zr_n (zr_s (zq_aload_n C dX8_set_67 rfl)
    (zr_s (zq_iload_n C dX8_set_68 rfl)
    (zr_s (zq_put (k := 2) C dX8_set_69 (show vwCl[8]? = some (RX8, TX8, 51) from rfl) zinX8 tyX8 tyX8_ok nmX8 (by decide) zw1174 rfl (ty := .int) (by decide +kernel) rfl)
    (zr_n (zr_n (zr_s (zq_iload_n C dX8_set_72 rfl)
    (zr_s (zk_ret1 (ty := .int) C hbc hbs rfl rfl (Or.inl ⟨dX8_set_73, by decide⟩))
    zr_0))))))))))
  zrs_0)))))
set_option maxRecDepth 100000 in
set_option maxHeartbeats 4000000 in
theorem okX8_shared {l : Launch} {D : va_G} {tys : List (ClassId × FieldType)} {o : zO} {z : Nat} (E : zEnv tys) : zCodeOk l D vwCl tys o z (zXX o z) zTs zprog mX8_shared := by
  intro p e R s m args below meth c0 Q ws0 hbc hbs C pc sem h
  replace hbc : R.cells = 0 := hbc
  replace hbs : R.slots = 0 := hbs
  replace C : zCx p R s m args meth c0 D vwCl tys z (zXX o z) zTs RX8 cX8_shared 3 "shared" := C
  refine zRows_get (P := fun pc sem => zOp p l e R s m args below meth c0 Q D vwCl tys o z (zXX o z) zTs zprog ws0 3 cX8_shared (some .int) pc sem) (c := kX8_shared) ?_ h
  unfold kX8_shared
  exact (zrs_c (zr_s (zq_aload_n C dX8_shared_0 rfl)
    (zr_s (zq_iconst (n := .ofNat 0) C dX8_shared_1 (by decide))
    (zr_s (zq_put (k := 11) C dX8_shared_2 (show vwCl[8]? = some (RX8, TX8, 51) from rfl) zinX8 tyX8 tyX8_ok nmX8 (by decide) zw1183 rfl (ty := .int) (by decide +kernel) rfl)
    (zr_n (zr_n (zr_s (zq_aload_n C dX8_shared_5 rfl)
    (zr_s (zq_iload_n C dX8_shared_6 rfl)
    (zr_s (zq_iload_n C dX8_shared_7 rfl)
    (zr_s (zk_callV (n := 2) C zXX_ok zTs_good hbc hbs (show zget zprog 146 = some mX8_areTwo from rfl) rfl rfl (show vwCl[8]? = some (RX8, TX8, 51) from rfl) zw1520 zw1517 zw1519 zs125 zw16 (by decide +kernel) dX8_shared_8)
    (zr_n (zr_n (zr_s (zq_if_ne C dX8_shared_11 (by decide))
    (zr_n (zr_n (zr_s (zq_iconst (n := .negSucc 0) C dX8_shared_14 (by decide))
    (zr_s (zk_ret1 (ty := .int) C hbc hbs rfl rfl (Or.inl ⟨dX8_shared_15, by decide⟩))
    zr_0))))))))))))))))
  (zrs_c (zr_n (zr_n (zr_n (zr_n (zr_n (zr_n (zr_n (zr_n (zr_n (zr_n (zr_n (zr_n (zr_n (zr_n (zr_n (zr_n zr_0))))))))))))))))
  (zrs_c (zr_n (zr_n (zr_n (zr_n (zr_n (zr_n (zr_n (zr_n (zr_n (zr_n (zr_n (zr_n (zr_n (zr_n (zr_n (zr_n zr_0))))))))))))))))
  (zrs_c (zr_n (zr_n (zr_n (zr_n (zr_n (zr_n (zr_n (zr_n (zr_n (zr_n (zr_n zr_0)))))))))))
  zrs_0))))
set_option maxRecDepth 100000 in
set_option maxHeartbeats 4000000 in
theorem okX8_sheet {l : Launch} {D : va_G} {tys : List (ClassId × FieldType)} {o : zO} {z : Nat} (E : zEnv tys) : zCodeOk l D vwCl tys o z (zXX o z) zTs zprog mX8_sheet := by
  intro p e R s m args below meth c0 Q ws0 hbc hbs C pc sem h
  replace hbc : R.cells = 0 := hbc
  replace hbs : R.slots = 0 := hbs
  replace C : zCx p R s m args meth c0 D vwCl tys z (zXX o z) zTs RX8 cX8_sheet 9 "sheet" := C
  refine zRows_get (P := fun pc sem => zOp p l e R s m args below meth c0 Q D vwCl tys o z (zXX o z) zTs zprog ws0 9 cX8_sheet (some .int) pc sem) (c := kX8_sheet) ?_ h
  unfold kX8_sheet
  exact (zrs_c (zr_s (zq_aload_n C dX8_sheet_0 rfl)
    (zr_s (zq_iconst (n := .ofNat 0) C dX8_sheet_1 (by decide))
    (zr_s (zq_put (k := 11) C dX8_sheet_2 (show vwCl[8]? = some (RX8, TX8, 51) from rfl) zinX8 tyX8 tyX8_ok nmX8 (by decide) zw1183 rfl (ty := .int) (by decide +kernel) rfl)
    (zr_n (zr_n (zr_s (zq_iload_n C dX8_sheet_5 rfl)
    (zr_s (zq_iconst (n := .ofNat 0) C dX8_sheet_6 (by decide))
    (zr_s (zq_iconst (n := .ofNat 3) C dX8_sheet_7 (by decide))
    (zr_s (zk_callS C zXX_ok zTs_good hbc hbs (show zget zprog 181 = some mX8_in from rfl) rfl rfl zw1340 zw1338 zw1339 zw16 (by decide +kernel) dX8_sheet_8)
    (zr_n (zr_n (zr_s (zq_if_eq C dX8_sheet_11 (by decide))
    (zr_n (zr_n (zr_s (zq_iload_n C dX8_sheet_14 rfl)
    (zr_s (zq_bipush (n := .ofNat 8) C dX8_sheet_15 (by decide) (by decide))
    zr_0))))))))))))))))
  (zrs_c (zr_n (zr_s (zq_icmp_le C dX8_sheet_17 (by decide))
    (zr_n (zr_n (zr_s (zq_iconst (n := .negSucc 0) C dX8_sheet_20 (by decide))
    (zr_s (zk_ret1 (ty := .int) C hbc hbs rfl rfl (Or.inl ⟨dX8_sheet_21, by decide⟩))
    (zr_s (zq_iload_n C dX8_sheet_22 rfl)
    (zr_s (zq_iconst (n := .ofNat 3) C dX8_sheet_23 (by decide))
    (zr_s (zq_icmp_ge C dX8_sheet_24 (by decide))
    (zr_n (zr_n (zr_s (zq_iload_n C dX8_sheet_27 rfl)
    (zr_s (zq_if_ge C dX8_sheet_28 (by decide))
    (zr_n (zr_n (zr_s (zq_bipush (n := .negSucc 1) C dX8_sheet_31 (by decide) (by decide))
    zr_0))))))))))))))))
  (zrs_c (zr_n (zr_s (zk_ret1 (ty := .int) C hbc hbs rfl rfl (Or.inl ⟨dX8_sheet_33, by decide⟩))
    (zr_s (zq_iconst (n := .ofNat 0) C dX8_sheet_34 (by decide))
    (zr_s (zq_istore C dX8_sheet_35 (by decide))
    (zr_n (zr_s (zq_iload_n C dX8_sheet_37 rfl)
    (zr_s (zq_istore C dX8_sheet_38 (by decide))
    (zr_n (zr_s (zq_iconst (n := .ofNat 0) C dX8_sheet_40 (by decide))
    (zr_s (zq_istore C dX8_sheet_41 (by decide))
    (zr_n (zr_s (zq_iload C dX8_sheet_43)
    (zr_n (zr_s (zq_aload_n C dX8_sheet_45 rfl)
    (zr_s (zq_get (k := 3) C dX8_sheet_46 (show vwCl[8]? = some (RX8, TX8, 51) from rfl) zinX8 (by decide) zw1175)
    (zr_n zr_0))))))))))))))))
  (zrs_c (zr_n (zr_s (zq_icmp_ge C dX8_sheet_49 (by decide))
    (zr_n (zr_n (zr_n (zr_n (zr_n (zr_n (zr_n (zr_n (zr_n (zr_n (zr_n (zr_n (zr_n (zr_n zr_0))))))))))))))))
  (zrs_c (zr_n (zr_n (zr_n (zr_n (zr_n (zr_n (zr_n (zr_n (zr_n (zr_n (zr_n (zr_n (zr_n (zr_n (zr_n (zr_n zr_0))))))))))))))))
  (zrs_c (zr_n (zr_n (zr_n (zr_n (zr_n (zr_n (zr_n (zr_n (zr_n (zr_n (zr_n (zr_n (zr_n (zr_n (zr_n (zr_n zr_0))))))))))))))))
  (zrs_c (zr_n (zr_n (zr_n (zr_n (zr_n (zr_n (zr_n (zr_n (zr_n (zr_n (zr_n (zr_n (zr_n (zr_n (zr_n (zr_n zr_0))))))))))))))))
  (zrs_c (zr_n (zr_n (zr_n (zr_n (zr_n (zr_n (zr_n (zr_n (zr_n (zr_n (zr_n (zr_n (zr_n (zr_n (zr_n (zr_n zr_0))))))))))))))))
  (zrs_c (zr_n (zr_n (zr_n (zr_n (zr_n (zr_n (zr_n (zr_n (zr_n (zr_n (zr_n (zr_n (zr_n (zr_s (zq_iload_n C dX8_sheet_141 rfl)
    (zr_s (zq_iconst (n := .ofNat 3) C dX8_sheet_142 (by decide))
    (zr_s (zq_icmp_ne C dX8_sheet_143 (by decide))
    zr_0))))))))))))))))
  (zrs_c (zr_n (zr_n (zr_s (zq_bipush (n := .negSucc 2) C dX8_sheet_146 (by decide) (by decide))
    (zr_n (zr_s (zk_goto C dX8_sheet_148 (by decide))
    (zr_n (zr_n (zr_s (zq_iload C dX8_sheet_151)
    (zr_n (zr_s (zk_ret1 (ty := .int) C hbc hbs rfl rfl (Or.inl ⟨dX8_sheet_153, by decide⟩))
    zr_0))))))))))
  zrs_0))))))))))
set_option maxRecDepth 100000 in
set_option maxHeartbeats 4000000 in
theorem okX8_sign {l : Launch} {D : va_G} {tys : List (ClassId × FieldType)} {o : zO} {z : Nat} (E : zEnv tys) : zCodeOk l D vwCl tys o z (zXX o z) zTs zprog mX8_sign := by
  intro p e R s m args below meth c0 Q ws0 hbc hbs C pc sem h
  replace hbc : R.cells = 0 := hbc
  replace hbs : R.slots = 0 := hbs
  replace C : zCx p R s m args meth c0 D vwCl tys z (zXX o z) zTs RX8 cX8_sign 3 "sign" := C
  refine zRows_get (P := fun pc sem => zOp p l e R s m args below meth c0 Q D vwCl tys o z (zXX o z) zTs zprog ws0 3 cX8_sign (some .int) pc sem) (c := kX8_sign) ?_ h
  unfold kX8_sign
  exact (zrs_c (zr_s (zq_aload_n C dX8_sign_0 rfl)
    (zr_s (zq_iconst (n := .ofNat 0) C dX8_sign_1 (by decide))
    (zr_s (zq_put (k := 11) C dX8_sign_2 (show vwCl[8]? = some (RX8, TX8, 51) from rfl) zinX8 tyX8 tyX8_ok nmX8 (by decide) zw1183 rfl (ty := .int) (by decide +kernel) rfl)
    (zr_n (zr_n (zr_s (zq_aload_n C dX8_sign_5 rfl)
    (zr_s (zq_get (k := 8) C dX8_sign_6 (show vwCl[8]? = some (RX8, TX8, 51) from rfl) zinX8 (by decide) zw1180)
    (zr_n (zr_n (zr_s (zq_iconst (n := .ofNat 4) C dX8_sign_9 (by decide))
    (zr_s (zk_add C dX8_sign_10)
    (zr_s (zq_bipush (n := .ofNat 80) C dX8_sign_11 (by decide) (by decide))
    (zr_n (zr_s (zq_icmp_le C dX8_sign_13 (by decide))
    (zr_n (zr_n zr_0))))))))))))))))
  (zrs_c (zr_n (zr_n (zr_s (zq_iconst (n := .ofNat 3) C dX8_sign_18 (by decide))
    (zr_s (zq_istore_n C dX8_sign_19 rfl (by decide))
    (zr_s (zq_iload_n C dX8_sign_20 rfl)
    (zr_s (zq_if_lt C dX8_sign_21 (by decide))
    (zr_n (zr_n (zr_s (zq_aload_n C dX8_sign_24 rfl)
    (zr_s (zq_get (k := 7) C dX8_sign_25 (show vwCl[8]? = some (RX8, TX8, 51) from rfl) zinX8 (by decide) zw1179)
    (zr_n (zr_n (zr_s (zq_aload_n C dX8_sign_28 rfl)
    (zr_s (zk_dup C dX8_sign_29)
    (zr_s (zq_get (k := 8) C dX8_sign_30 (show vwCl[8]? = some (RX8, TX8, 51) from rfl) zinX8 (by decide) zw1180)
    (zr_n zr_0))))))))))))))))
  (zrs_c (zr_n (zr_s (zk_dupx1 C dX8_sign_33)
    (zr_s (zq_iconst (n := .ofNat 1) C dX8_sign_34 (by decide))
    (zr_s (zk_add C dX8_sign_35)
    (zr_s (zq_put (k := 8) C dX8_sign_36 (show vwCl[8]? = some (RX8, TX8, 51) from rfl) zinX8 tyX8 tyX8_ok nmX8 (by decide) zw1180 rfl (ty := .int) (by decide +kernel) rfl)
    (zr_n (zr_n (zr_s (zq_iload_n C dX8_sign_39 rfl)
    (zr_s (zq_bipush (n := .ofNat 8) C dX8_sign_40 (by decide) (by decide))
    (zr_n (zr_s (zq_iload_n C dX8_sign_42 rfl)
    (zr_s (zq_imul C dX8_sign_43)
    (zr_s (zq_ishr C dX8_sign_44)
    (zr_s (zq_i2b C dX8_sign_45)
    (zr_s (zk_bast C dX8_sign_46)
    (zr_s (zk_inc (n := .negSucc 0) C dX8_sign_47 (by decide) (by decide))
    zr_0))))))))))))))))
  (zrs_c (zr_n (zr_n (zr_s (zk_goto C dX8_sign_50 (by decide))
    (zr_n (zr_n (zr_s (zq_aload_n C dX8_sign_53 rfl)
    (zr_s (zq_get (k := 8) C dX8_sign_54 (show vwCl[8]? = some (RX8, TX8, 51) from rfl) zinX8 (by decide) zw1180)
    (zr_n (zr_n (zr_s (zk_ret1 (ty := .int) C hbc hbs rfl rfl (Or.inl ⟨dX8_sign_57, by decide⟩))
    zr_0))))))))))
  zrs_0))))
set_option maxRecDepth 100000 in
set_option maxHeartbeats 4000000 in
theorem okX8_smoothest {l : Launch} {D : va_G} {tys : List (ClassId × FieldType)} {o : zO} {z : Nat} (E : zEnv tys) : zCodeOk l D vwCl tys o z (zXX o z) zTs zprog mX8_smoothest := by
  intro p e R s m args below meth c0 Q ws0 hbc hbs C pc sem h
  replace hbc : R.cells = 0 := hbc
  replace hbs : R.slots = 0 := hbs
  replace C : zCx p R s m args meth c0 D vwCl tys z (zXX o z) zTs RX8 cX8_smoothest 2 "smoothest" := C
  refine zRows_get (P := fun pc sem => zOp p l e R s m args below meth c0 Q D vwCl tys o z (zXX o z) zTs zprog ws0 2 cX8_smoothest (some .int) pc sem) (c := kX8_smoothest) ?_ h
  unfold kX8_smoothest
  exact (zrs_c (zr_s (zq_aload_n C dX8_smoothest_0 rfl)
    (zr_s (zq_iconst (n := .ofNat 0) C dX8_smoothest_1 (by decide))
    (zr_s (zq_put (k := 11) C dX8_smoothest_2 (show vwCl[8]? = some (RX8, TX8, 51) from rfl) zinX8 tyX8 tyX8_ok nmX8 (by decide) zw1183 rfl (ty := .int) (by decide +kernel) rfl)
    (zr_n (zr_n (zr_s (zq_aload_n C dX8_smoothest_5 rfl)
    (zr_s (zq_iconst (n := .negSucc 0) C dX8_smoothest_6 (by decide))
    (zr_s (zk_callV (n := 1) C zXX_ok zTs_good hbc hbs (show zget zprog 194 = some mX8_layMay from rfl) rfl rfl (show vwCl[8]? = some (RX8, TX8, 51) from rfl) zw1564 zw1561 zw1563 zs128 zw16 (by decide +kernel) dX8_smoothest_7)
    (zr_n (zr_n (zr_s (zq_aload_n C dX8_smoothest_10 rfl)
    (zr_s (zq_iconst (n := .ofNat 2) C dX8_smoothest_11 (by decide))
    (zr_s (zk_callV (n := 1) C zXX_ok zTs_good hbc hbs (show zget zprog 218 = some mX8_solve from rfl) rfl rfl (show vwCl[8]? = some (RX8, TX8, 51) from rfl) zw1572 zw1569 zw1571 zs130 zw16 (by decide +kernel) dX8_smoothest_12)
    (zr_n (zr_n (zr_s (zq_ldc (n := .ofNat 1000000000) C dX8_smoothest_15 zw1171 (by decide +kernel))
    zr_0))))))))))))))))
  (zrs_c (zr_n (zr_s (zq_icmp_ne C dX8_smoothest_17 (by decide))
    (zr_n (zr_n (zr_s (zq_bipush (n := .negSucc 1) C dX8_smoothest_20 (by decide) (by decide))
    (zr_n (zr_s (zk_ret1 (ty := .int) C hbc hbs rfl rfl (Or.inl ⟨dX8_smoothest_22, by decide⟩))
    (zr_n (zr_n (zr_n (zr_n (zr_n (zr_n (zr_n (zr_n (zr_n zr_0))))))))))))))))
  (zrs_c (zr_n (zr_n (zr_n (zr_n (zr_n (zr_n (zr_n (zr_n (zr_n (zr_n (zr_n (zr_n (zr_n (zr_n (zr_n (zr_n zr_0))))))))))))))))
  (zrs_c (zr_n (zr_n (zr_n (zr_n (zr_n (zr_n (zr_n (zr_n (zr_n (zr_n (zr_n (zr_n (zr_n (zr_n (zr_n (zr_n zr_0))))))))))))))))
  (zrs_c (zr_n (zr_n (zr_n zr_0)))
  zrs_0)))))
set_option maxRecDepth 100000 in
set_option maxHeartbeats 4000000 in
theorem okX8_solve {l : Launch} {D : va_G} {tys : List (ClassId × FieldType)} {o : zO} {z : Nat} (E : zEnv tys) : zCodeOk l D vwCl tys o z (zXX o z) zTs zprog mX8_solve := by
  intro p e R s m args below meth c0 Q ws0 hbc hbs C pc sem h
  replace hbc : R.cells = 0 := hbc
  replace hbs : R.slots = 0 := hbs
  replace C : zCx p R s m args meth c0 D vwCl tys z (zXX o z) zTs RX8 cX8_solve 8 "solve" := C
  refine zRows_get (P := fun pc sem => zOp p l e R s m args below meth c0 Q D vwCl tys o z (zXX o z) zTs zprog ws0 8 cX8_solve (some .int) pc sem) (c := kX8_solve) ?_ h
  unfold kX8_solve
  exact (zrs_c (zr_s (zq_iconst (n := .ofNat 0) C dX8_solve_0 (by decide))
    (zr_s (zq_istore_n C dX8_solve_1 rfl (by decide))
    (zr_s (zq_iload_n C dX8_solve_2 rfl)
    (zr_s (zq_aload_n C dX8_solve_3 rfl)
    (zr_s (zk_callV (n := 0) C zXX_ok zTs_good hbc hbs (show zget zprog 199 = some mX8_night from rfl) rfl rfl (show vwCl[8]? = some (RX8, TX8, 51) from rfl) zw1568 zw1565 zw1567 zs129 zw16 (by decide +kernel) dX8_solve_4)
    (zr_n (zr_n (zr_s (zq_icmp_gt C dX8_solve_7 (by decide))
    (zr_n (zr_n (zr_s (zq_aload_n C dX8_solve_10 rfl)
    (zr_s (zq_get (k := 37) C dX8_solve_11 (show vwCl[8]? = some (RX8, TX8, 51) from rfl) zinX8 (by decide) zw1209)
    (zr_n (zr_n (zr_s (zq_aload_n C dX8_solve_14 rfl)
    (zr_s (zq_get (k := 3) C dX8_solve_15 (show vwCl[8]? = some (RX8, TX8, 51) from rfl) zinX8 (by decide) zw1175)
    zr_0))))))))))))))))
  (zrs_c (zr_n (zr_n (zr_s (zq_bipush (n := .ofNat 8) C dX8_solve_18 (by decide) (by decide))
    (zr_n (zr_s (zq_ishl C dX8_solve_20)
    (zr_s (zq_iload_n C dX8_solve_21 rfl)
    (zr_s (zq_ior C dX8_solve_22)
    (zr_s (zq_iload_n C dX8_solve_23 rfl)
    (zr_s (zq_if_ne C dX8_solve_24 (by decide))
    (zr_n (zr_n (zr_s (zq_iconst (n := .ofNat 0) C dX8_solve_27 (by decide))
    (zr_s (zk_goto C dX8_solve_28 (by decide))
    (zr_n (zr_n (zr_s (zq_ldc (n := .ofNat 1000000000) C dX8_solve_31 zw1171 (by decide +kernel))
    zr_0))))))))))))))))
  (zrs_c (zr_n (zr_s (zk_iast C dX8_solve_33)
    (zr_s (zk_inc (n := .ofNat 1) C dX8_solve_34 (by decide) (by decide))
    (zr_n (zr_n (zr_s (zk_goto C dX8_solve_37 (by decide))
    (zr_n (zr_n (zr_s (zq_aload_n C dX8_solve_40 rfl)
    (zr_s (zq_get (k := 3) C dX8_solve_41 (show vwCl[8]? = some (RX8, TX8, 51) from rfl) zinX8 (by decide) zw1175)
    (zr_n (zr_n (zr_s (zq_iconst (n := .ofNat 1) C dX8_solve_44 (by decide))
    (zr_s (zk_sub C dX8_solve_45)
    (zr_s (zq_istore_n C dX8_solve_46 rfl (by decide))
    (zr_s (zq_iload_n C dX8_solve_47 rfl)
    zr_0))))))))))))))))
  (zrs_c (zr_s (zq_if_lt C dX8_solve_48 (by decide))
    (zr_n (zr_n (zr_n (zr_n (zr_n (zr_n (zr_n (zr_n (zr_n (zr_n (zr_n (zr_n (zr_n (zr_n (zr_n zr_0))))))))))))))))
  (zrs_c (zr_n (zr_n (zr_n (zr_n (zr_n (zr_n (zr_n (zr_n (zr_n (zr_n (zr_n (zr_n (zr_n (zr_n (zr_n (zr_n zr_0))))))))))))))))
  (zrs_c (zr_n (zr_n (zr_n (zr_n (zr_n (zr_n (zr_n (zr_n (zr_n (zr_n (zr_n (zr_n (zr_n (zr_n (zr_n (zr_n zr_0))))))))))))))))
  (zrs_c (zr_n (zr_n (zr_n (zr_n (zr_n (zr_n (zr_n (zr_n (zr_n (zr_n (zr_n (zr_n (zr_n (zr_n (zr_n (zr_n zr_0))))))))))))))))
  (zrs_c (zr_n (zr_n (zr_n (zr_n (zr_n (zr_n (zr_n (zr_n (zr_n (zr_n (zr_n (zr_n (zr_n (zr_n (zr_n (zr_n zr_0))))))))))))))))
  (zrs_c (zr_n (zr_n (zr_n (zr_n (zr_n (zr_n (zr_n (zr_n (zr_n (zr_n (zr_n (zr_n (zr_n (zr_n (zr_n (zr_n zr_0))))))))))))))))
  (zrs_c (zr_n (zr_n (zr_n (zr_n (zr_n (zr_n (zr_n (zr_n (zr_n (zr_n (zr_n (zr_n (zr_n (zr_n (zr_n (zr_n zr_0))))))))))))))))
  (zrs_c (zr_n (zr_n (zr_n (zr_n (zr_n (zr_n (zr_n (zr_n (zr_n (zr_n (zr_n (zr_n (zr_n (zr_n (zr_n (zr_n zr_0))))))))))))))))
  (zrs_c (zr_n (zr_n (zr_n (zr_n (zr_n (zr_n (zr_n (zr_n (zr_n (zr_n (zr_n (zr_n (zr_n (zr_n (zr_n (zr_n zr_0))))))))))))))))
  (zrs_c (zr_n (zr_n (zr_n (zr_n (zr_n (zr_n (zr_n (zr_n (zr_n (zr_n (zr_n (zr_n (zr_n (zr_n (zr_n (zr_n zr_0))))))))))))))))
  (zrs_c (zr_n (zr_n (zr_n (zr_n (zr_n (zr_n (zr_n (zr_n (zr_n (zr_n (zr_n (zr_n (zr_n (zr_n (zr_n (zr_n zr_0))))))))))))))))
  (zrs_c (zr_n (zr_n (zr_n (zr_n (zr_n (zr_n (zr_n (zr_n (zr_n (zr_n (zr_n (zr_n (zr_n (zr_n (zr_n (zr_s (zq_aload_n C dX8_solve_239 rfl)
    zr_0))))))))))))))))
  (zrs_c (zr_s (zq_get (k := 37) C dX8_solve_240 (show vwCl[8]? = some (RX8, TX8, 51) from rfl) zinX8 (by decide) zw1209)
    (zr_n (zr_n (zr_s (zq_aload_n C dX8_solve_243 rfl)
    (zr_s (zk_callV (n := 0) C zXX_ok zTs_good hbc hbs (show zget zprog 199 = some mX8_night from rfl) rfl rfl (show vwCl[8]? = some (RX8, TX8, 51) from rfl) zw1568 zw1565 zw1567 zs129 zw16 (by decide +kernel) dX8_solve_244)
    (zr_n (zr_n (zr_s (zk_iald C dX8_solve_247)
    (zr_s (zk_ret1 (ty := .int) C hbc hbs rfl rfl (Or.inl ⟨dX8_solve_248, by decide⟩))
    zr_0)))))))))
  zrs_0))))))))))))))))
