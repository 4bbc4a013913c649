set_option maxRecDepth 100000 in
set_option maxHeartbeats 4000000 in
theorem okX8_spent {l : Launch} {D : va_G} {tys : List (ClassId × FieldType)} {o : zO} {z : Nat} (E : zEnv tys) : zCodeOk l D vwCl tys o z (zXX o z) zTs zprog mX8_spent := by
  intro p e R s m args below meth c0 Q ws0 hbc hbs C pc sem h
  replace hbc : R.cells = 0 := hbc
  replace hbs : R.slots = 0 := hbs
  replace C : zCx p R s m args meth c0 D vwCl tys z (zXX o z) zTs RX8 cX8_spent 6 "spent" := C
  refine zRows_get (P := fun pc sem => zOp p l e R s m args below meth c0 Q D vwCl tys o z (zXX o z) zTs zprog ws0 6 cX8_spent (some .int) pc sem) (c := kX8_spent) ?_ h
  unfold kX8_spent
  exact (zrs_c (zr_s (zq_aload_n C dX8_spent_0 rfl)
    (zr_s (zq_iconst (n := .ofNat 0) C dX8_spent_1 (by decide))
    (zr_s (zq_put (k := 11) C dX8_spent_2 (show vwCl[8]? = some (RX8, TX8, 51) from rfl) zinX8 tyX8 tyX8_ok nmX8 (by decide) zw1183 rfl (ty := .int) (by decide +kernel) rfl)
    (zr_n (zr_n (zr_s (zq_iload_n C dX8_spent_5 rfl)
    (zr_s (zq_iconst (n := .ofNat 0) C dX8_spent_6 (by decide))
    (zr_s (zq_sipush (n := .ofNat 999) C dX8_spent_7 (by decide) (by decide))
    (zr_n (zr_n (zr_s (zk_callS C zXX_ok zTs_good hbc hbs (show zget zprog 181 = some mX8_in from rfl) rfl rfl zw1340 zw1338 zw1339 zw16 (by decide +kernel) dX8_spent_10)
    (zr_n (zr_n (zr_s (zq_if_ne C dX8_spent_13 (by decide))
    (zr_n (zr_n zr_0))))))))))))))))
  (zrs_c (zr_s (zq_iconst (n := .negSucc 0) C dX8_spent_16 (by decide))
    (zr_s (zk_ret1 (ty := .int) C hbc hbs rfl rfl (Or.inl ⟨dX8_spent_17, by decide⟩))
    (zr_s (zq_iconst (n := .ofNat 0) C dX8_spent_18 (by decide))
    (zr_s (zq_istore_n C dX8_spent_19 rfl (by decide))
    (zr_s (zq_iconst (n := .ofNat 0) C dX8_spent_20 (by decide))
    (zr_s (zq_istore_n C dX8_spent_21 rfl (by decide))
    (zr_s (zq_iconst (n := .ofNat 0) C dX8_spent_22 (by decide))
    (zr_s (zq_istore C dX8_spent_23 (by decide))
    (zr_n (zr_s (zq_iload C dX8_spent_25)
    (zr_n (zr_s (zq_aload_n C dX8_spent_27 rfl)
    (zr_s (zq_get (k := 3) C dX8_spent_28 (show vwCl[8]? = some (RX8, TX8, 51) from rfl) zinX8 (by decide) zw1175)
    (zr_n (zr_n (zr_s (zq_icmp_ge C dX8_spent_31 (by decide))
    zr_0))))))))))))))))
  (zrs_c (zr_n (zr_n (zr_n (zr_n (zr_n (zr_n (zr_n (zr_n (zr_n (zr_n (zr_n (zr_n (zr_n (zr_n (zr_n (zr_n zr_0))))))))))))))))
  (zrs_c (zr_n (zr_n (zr_n (zr_n (zr_n (zr_n (zr_n (zr_n (zr_n (zr_n (zr_n (zr_n (zr_n (zr_n (zr_n (zr_n zr_0))))))))))))))))
  (zrs_c (zr_n (zr_n (zr_n (zr_n (zr_n (zr_n (zr_n (zr_n (zr_n (zr_n (zr_n (zr_n (zr_n (zr_n (zr_n (zr_n zr_0))))))))))))))))
  (zrs_c (zr_n (zr_n (zr_n (zr_n (zr_n (zr_n (zr_n (zr_n (zr_n (zr_n (zr_n (zr_n (zr_n (zr_n (zr_n (zr_n zr_0))))))))))))))))
  (zrs_c (zr_n (zr_n (zr_n (zr_n (zr_n (zr_n (zr_n (zr_n (zr_n (zr_n (zr_n (zr_n (zr_n (zr_n (zr_n (zr_n zr_0))))))))))))))))
  (zrs_c (zr_n (zr_n (zr_s (zq_aload_n C dX8_spent_114 rfl)
    (zr_s (zq_iconst (n := .ofNat 0) C dX8_spent_115 (by decide))
    (zr_s (zq_put (k := 10) C dX8_spent_116 (show vwCl[8]? = some (RX8, TX8, 51) from rfl) zinX8 tyX8 tyX8_ok nmX8 (by decide) zw1182 rfl (ty := .int) (by decide +kernel) rfl)
    (zr_n (zr_n (zr_s (zq_aload_n C dX8_spent_119 rfl)
    (zr_s (zq_iload_n C dX8_spent_120 rfl)
    (zr_s (zk_callS C zXX_ok zTs_good hbc hbs (show zget zprog 14 = some mJ6_bitCount_0f7a4 from rfl) rfl rfl zw564 zw1443 zw563 zw21 (by decide +kernel) dX8_spent_121)
    (zr_n (zr_n (zr_s (zk_i2l C dX8_spent_124)
    (zr_s (zk_callV (n := 1) C zXX_ok zTs_good hbc hbs (show zget zprog 222 = some mX8_tell from rfl) rfl rfl (show vwCl[8]? = some (RX8, TX8, 51) from rfl) zw1500 zw1497 zw1499 zs121 zw16 (by decide +kernel) dX8_spent_125)
    (zr_n (zr_n zr_0))))))))))))))))
  (zrs_c (zr_s (zq_aload_n C dX8_spent_128 rfl)
    (zr_s (zq_iload_n C dX8_spent_129 rfl)
    (zr_s (zk_i2l C dX8_spent_130)
    (zr_s (zk_callV (n := 1) C zXX_ok zTs_good hbc hbs (show zget zprog 222 = some mX8_tell from rfl) rfl rfl (show vwCl[8]? = some (RX8, TX8, 51) from rfl) zw1500 zw1497 zw1499 zs121 zw16 (by decide +kernel) dX8_spent_131)
    (zr_n (zr_n (zr_s (zq_iload_n C dX8_spent_134 rfl)
    (zr_s (zk_ret1 (ty := .int) C hbc hbs rfl rfl (Or.inl ⟨dX8_spent_135, by decide⟩))
    zr_0))))))))
  zrs_0)))))))))
set_option maxRecDepth 100000 in
set_option maxHeartbeats 4000000 in
theorem okX8_sure {l : Launch} {D : va_G} {tys : List (ClassId × FieldType)} {o : zO} {z : Nat} (E : zEnv tys) : zCodeOk l D vwCl tys o z (zXX o z) zTs zprog mX8_sure := by
  intro p e R s m args below meth c0 Q ws0 hbc hbs C pc sem h
  replace hbc : R.cells = 0 := hbc
  replace hbs : R.slots = 0 := hbs
  replace C : zCx p R s m args meth c0 D vwCl tys z (zXX o z) zTs RX8 cX8_sure 5 "sure" := C
  refine zRows_get (P := fun pc sem => zOp p l e R s m args below meth c0 Q D vwCl tys o z (zXX o z) zTs zprog ws0 5 cX8_sure (some .int) pc sem) (c := kX8_sure) ?_ h
  unfold kX8_sure
  exact (zrs_c (zr_s (zq_aload_n C dX8_sure_0 rfl)
    (zr_s (zq_iconst (n := .ofNat 0) C dX8_sure_1 (by decide))
    (zr_s (zq_put (k := 11) C dX8_sure_2 (show vwCl[8]? = some (RX8, TX8, 51) from rfl) zinX8 tyX8 tyX8_ok nmX8 (by decide) zw1183 rfl (ty := .int) (by decide +kernel) rfl)
    (zr_n (zr_n (zr_s (zq_iload_n C dX8_sure_5 rfl)
    (zr_s (zq_iconst (n := .ofNat 0) C dX8_sure_6 (by decide))
    (zr_s (zq_aload_n C dX8_sure_7 rfl)
    (zr_s (zq_get (k := 1) C dX8_sure_8 (show vwCl[8]? = some (RX8, TX8, 51) from rfl) zinX8 (by decide) zw1173)
    (zr_n (zr_n (zr_s (zq_iconst (n := .ofNat 1) C dX8_sure_11 (by decide))
    (zr_s (zk_sub C dX8_sure_12)
    (zr_s (zk_callS C zXX_ok zTs_good hbc hbs (show zget zprog 181 = some mX8_in from rfl) rfl rfl zw1340 zw1338 zw1339 zw16 (by decide +kernel) dX8_sure_13)
    (zr_n (zr_n zr_0))))))))))))))))
  (zrs_c (zr_s (zq_if_eq C dX8_sure_16 (by decide))
    (zr_n (zr_n (zr_s (zq_aload_n C dX8_sure_19 rfl)
    (zr_s (zq_iload_n C dX8_sure_20 rfl)
    (zr_s (zk_callV (n := 1) C zXX_ok zTs_good hbc hbs (show zget zprog 185 = some mX8_isMan from rfl) rfl rfl (show vwCl[8]? = some (RX8, TX8, 51) from rfl) zw1423 zw1420 zw1422 zs112 zw16 (by decide +kernel) dX8_sure_21)
    (zr_n (zr_n (zr_s (zq_if_ne C dX8_sure_24 (by decide))
    (zr_n (zr_n (zr_s (zq_iconst (n := .negSucc 0) C dX8_sure_27 (by decide))
    (zr_s (zk_ret1 (ty := .int) C hbc hbs rfl rfl (Or.inl ⟨dX8_sure_28, by decide⟩))
    (zr_n (zr_n (zr_n zr_0))))))))))))))))
  (zrs_c (zr_n (zr_n (zr_n (zr_n (zr_n (zr_n (zr_n (zr_n (zr_n (zr_n (zr_n (zr_n (zr_n (zr_n (zr_n (zr_n zr_0))))))))))))))))
  (zrs_c (zr_n (zr_n (zr_n (zr_n (zr_n (zr_n (zr_n (zr_n (zr_n (zr_n (zr_n (zr_n (zr_n (zr_n (zr_n zr_0)))))))))))))))
  zrs_0))))
set_option maxRecDepth 100000 in
set_option maxHeartbeats 4000000 in
theorem okX8_takes {l : Launch} {D : va_G} {tys : List (ClassId × FieldType)} {o : zO} {z : Nat} (E : zEnv tys) : zCodeOk l D vwCl tys o z (zXX o z) zTs zprog mX8_takes := by
  intro p e R s m args below meth c0 Q ws0 hbc hbs C pc sem h
  replace hbc : R.cells = 0 := hbc
  replace hbs : R.slots = 0 := hbs
  replace C : zCx p R s m args meth c0 D vwCl tys z (zXX o z) zTs RX8 cX8_takes 4 "takes" := C
  refine zRows_get (P := fun pc sem => zOp p l e R s m args below meth c0 Q D vwCl tys o z (zXX o z) zTs zprog ws0 4 cX8_takes (some .int) pc sem) (c := kX8_takes) ?_ h
  unfold kX8_takes
  exact (zrs_c (zr_s (zq_aload_n C dX8_takes_0 rfl)
    (zr_s (zq_iconst (n := .ofNat 0) C dX8_takes_1 (by decide))
    (zr_s (zq_put (k := 11) C dX8_takes_2 (show vwCl[8]? = some (RX8, TX8, 51) from rfl) zinX8 tyX8 tyX8_ok nmX8 (by decide) zw1183 rfl (ty := .int) (by decide +kernel) rfl)
    (zr_n (zr_n (zr_s (zq_aload_n C dX8_takes_5 rfl)
    (zr_s (zq_iconst (n := .negSucc 0) C dX8_takes_6 (by decide))
    (zr_s (zk_callV (n := 1) C zXX_ok zTs_good hbc hbs (show zget zprog 158 = some mX8_easiestBut from rfl) rfl rfl (show vwCl[8]? = some (RX8, TX8, 51) from rfl) zw1560 zw1557 zw1559 zs127 zw16 (by decide +kernel) dX8_takes_7)
    (zr_n (zr_n (zr_s (zq_istore_n C dX8_takes_10 rfl (by decide))
    (zr_s (zq_iload_n C dX8_takes_11 rfl)
    (zr_s (zq_ldc (n := .ofNat 1000000000) C dX8_takes_12 zw1171 (by decide +kernel))
    (zr_n (zr_s (zq_icmp_ne C dX8_takes_14 (by decide))
    (zr_n zr_0))))))))))))))))
  (zrs_c (zr_n (zr_s (zq_bipush (n := .negSucc 1) C dX8_takes_17 (by decide) (by decide))
    (zr_n (zr_s (zk_ret1 (ty := .int) C hbc hbs rfl rfl (Or.inl ⟨dX8_takes_19, by decide⟩))
    (zr_n (zr_n (zr_n (zr_n (zr_n (zr_n (zr_n (zr_n (zr_n (zr_n (zr_n (zr_n zr_0))))))))))))))))
  (zrs_c (zr_n (zr_n (zr_n (zr_n (zr_n (zr_n (zr_n (zr_n (zr_n (zr_n (zr_n (zr_n (zr_n (zr_n (zr_n (zr_n zr_0))))))))))))))))
  (zrs_c (zr_n (zr_n (zr_n (zr_n (zr_n (zr_n (zr_n (zr_n (zr_n (zr_n (zr_n (zr_n (zr_n (zr_n (zr_n (zr_n zr_0))))))))))))))))
  (zrs_c (zr_n (zr_n (zr_n (zr_n (zr_n (zr_n (zr_n (zr_n (zr_n (zr_n (zr_n (zr_n (zr_n (zr_n (zr_n (zr_n zr_0))))))))))))))))
  (zrs_c (zr_n (zr_n (zr_n (zr_n (zr_n (zr_n (zr_n (zr_n (zr_n zr_0)))))))))
  zrs_0))))))
set_option maxRecDepth 100000 in
set_option maxHeartbeats 4000000 in
theorem okX8_tell {l : Launch} {D : va_G} {tys : List (ClassId × FieldType)} {o : zO} {z : Nat} (E : zEnv tys) : zCodeOk l D vwCl tys o z (zXX o z) zTs zprog mX8_tell := by
  intro p e R s m args below meth c0 Q ws0 hbc hbs C pc sem h
  replace hbc : R.cells = 0 := hbc
  replace hbs : R.slots = 0 := hbs
  replace C : zCx p R s m args meth c0 D vwCl tys z (zXX o z) zTs RX8 cX8_tell 3 "tell" := C
  refine zRows_get (P := fun pc sem => zOp p l e R s m args below meth c0 Q D vwCl tys o z (zXX o z) zTs zprog ws0 3 cX8_tell none pc sem) (c := kX8_tell) ?_ h
  unfold kX8_tell
  exact (zrs_c (zr_s (zq_aload_n C dX8_tell_0 rfl)
    (zr_s (zq_get (k := 9) C dX8_tell_1 (show vwCl[8]? = some (RX8, TX8, 51) from rfl) zinX8 (by decide) zw1181)
    (zr_n (zr_n (zr_s (zq_aload_n C dX8_tell_4 rfl)
    (zr_s (zq_get (k := 10) C dX8_tell_5 (show vwCl[8]? = some (RX8, TX8, 51) from rfl) zinX8 (by decide) zw1182)
    (zr_n (zr_n (zr_s (zq_lload_n C dX8_tell_8 rfl)
    (zr_s (zk_last C dX8_tell_9)
    (zr_s (zq_aload_n C dX8_tell_10 rfl)
    (zr_s (zk_dup C dX8_tell_11)
    (zr_s (zq_get (k := 10) C dX8_tell_12 (show vwCl[8]? = some (RX8, TX8, 51) from rfl) zinX8 (by decide) zw1182)
    (zr_n (zr_n (zr_s (zq_iconst (n := .ofNat 1) C dX8_tell_15 (by decide))
    zr_0))))))))))))))))
  (zrs_c (zr_s (zk_add C dX8_tell_16)
    (zr_s (zq_put (k := 10) C dX8_tell_17 (show vwCl[8]? = some (RX8, TX8, 51) from rfl) zinX8 tyX8 tyX8_ok nmX8 (by decide) zw1182 rfl (ty := .int) (by decide +kernel) rfl)
    (zr_n (zr_n (zr_s (zk_ret0 C hbc hbs rfl dX8_tell_20)
    zr_0)))))
  zrs_0))
set_option maxRecDepth 100000 in
set_option maxHeartbeats 4000000 in
theorem okX8_tellPart {l : Launch} {D : va_G} {tys : List (ClassId × FieldType)} {o : zO} {z : Nat} (E : zEnv tys) : zCodeOk l D vwCl tys o z (zXX o z) zTs zprog mX8_tellPart := by
  intro p e R s m args below meth c0 Q ws0 hbc hbs C pc sem h
  replace hbc : R.cells = 0 := hbc
  replace hbs : R.slots = 0 := hbs
  replace C : zCx p R s m args meth c0 D vwCl tys z (zXX o z) zTs RX8 cX8_tellPart 7 "tellPart" := C
  refine zRows_get (P := fun pc sem => zOp p l e R s m args below meth c0 Q D vwCl tys o z (zXX o z) zTs zprog ws0 7 cX8_tellPart none pc sem) (c := kX8_tellPart) ?_ h
  unfold kX8_tellPart
  exact (zrs_c (zr_s (zq_lload_n C dX8_tellPart_0 rfl)
    (zr_s (zq_lload_n C dX8_tellPart_1 rfl)
    (zr_s (zk_callS C zXX_ok zTs_good hbc hbs (show zget zprog 153 = some mX8_common from rfl) rfl rfl zw1723 zw1721 zw1722 zw16 (by decide +kernel) dX8_tellPart_2)
    (zr_n (zr_n (zr_s (zq_lstore C dX8_tellPart_5 (by decide))
    (zr_n (zr_s (zq_aload_n C dX8_tellPart_7 rfl)
    (zr_s (zq_iconst (n := .ofNat 0) C dX8_tellPart_8 (by decide))
    (zr_s (zq_put (k := 10) C dX8_tellPart_9 (show vwCl[8]? = some (RX8, TX8, 51) from rfl) zinX8 tyX8 tyX8_ok nmX8 (by decide) zw1182 rfl (ty := .int) (by decide +kernel) rfl)
    (zr_n (zr_n (zr_s (zq_aload_n C dX8_tellPart_12 rfl)
    (zr_s (zq_lload_n C dX8_tellPart_13 rfl)
    (zr_s (zq_lload C dX8_tellPart_14)
    (zr_n zr_0))))))))))))))))
  (zrs_c (zr_s (zq_ldiv C dX8_tellPart_16)
    (zr_s (zk_callV (n := 1) C zXX_ok zTs_good hbc hbs (show zget zprog 222 = some mX8_tell from rfl) rfl rfl (show vwCl[8]? = some (RX8, TX8, 51) from rfl) zw1500 zw1497 zw1499 zs121 zw16 (by decide +kernel) dX8_tellPart_17)
    (zr_n (zr_n (zr_s (zq_aload_n C dX8_tellPart_20 rfl)
    (zr_s (zq_lload_n C dX8_tellPart_21 rfl)
    (zr_s (zq_lload C dX8_tellPart_22)
    (zr_n (zr_s (zq_ldiv C dX8_tellPart_24)
    (zr_s (zk_callV (n := 1) C zXX_ok zTs_good hbc hbs (show zget zprog 222 = some mX8_tell from rfl) rfl rfl (show vwCl[8]? = some (RX8, TX8, 51) from rfl) zw1500 zw1497 zw1499 zs121 zw16 (by decide +kernel) dX8_tellPart_25)
    (zr_n (zr_n (zr_s (zk_ret0 C hbc hbs rfl dX8_tellPart_28)
    zr_0)))))))))))))
  zrs_0))
set_option maxRecDepth 100000 in
set_option maxHeartbeats 4000000 in
theorem okX8_tellWays {l : Launch} {D : va_G} {tys : List (ClassId × FieldType)} {o : zO} {z : Nat} (E : zEnv tys) : zCodeOk l D vwCl tys o z (zXX o z) zTs zprog mX8_tellWays := by
  intro p e R s m args below meth c0 Q ws0 hbc hbs C pc sem h
  replace hbc : R.cells = 0 := hbc
  replace hbs : R.slots = 0 := hbs
  replace C : zCx p R s m args meth c0 D vwCl tys z (zXX o z) zTs RX8 cX8_tellWays 2 "tellWays" := C
  refine zRows_get (P := fun pc sem => zOp p l e R s m args below meth c0 Q D vwCl tys o z (zXX o z) zTs zprog ws0 2 cX8_tellWays (some .int) pc sem) (c := kX8_tellWays) ?_ h
  unfold kX8_tellWays
  exact (zrs_c (zr_s (zq_aload_n C dX8_tellWays_0 rfl)
    (zr_s (zk_callV (n := 0) C zXX_ok zTs_good hbc hbs (show zget zprog 155 = some mX8_countWays from rfl) rfl rfl (show vwCl[8]? = some (RX8, TX8, 51) from rfl) zw1632 zw1629 zw1631 zs142 zw16 (by decide +kernel) dX8_tellWays_1)
    (zr_n (zr_n (zr_s (zq_istore_n C dX8_tellWays_4 rfl (by decide))
    (zr_s (zq_aload_n C dX8_tellWays_5 rfl)
    (zr_s (zq_iconst (n := .ofNat 0) C dX8_tellWays_6 (by decide))
    (zr_s (zq_put (k := 10) C dX8_tellWays_7 (show vwCl[8]? = some (RX8, TX8, 51) from rfl) zinX8 tyX8 tyX8_ok nmX8 (by decide) zw1182 rfl (ty := .int) (by decide +kernel) rfl)
    (zr_n (zr_n (zr_s (zq_iload_n C dX8_tellWays_10 rfl)
    (zr_s (zq_if_ne C dX8_tellWays_11 (by decide))
    (zr_n (zr_n (zr_s (zq_iconst (n := .ofNat 0) C dX8_tellWays_14 (by decide))
    (zr_s (zk_ret1 (ty := .int) C hbc hbs rfl rfl (Or.inl ⟨dX8_tellWays_15, by decide⟩))
    zr_0))))))))))))))))
  (zrs_c (zr_n (zr_n (zr_n (zr_n (zr_n (zr_n (zr_n (zr_n (zr_n (zr_n (zr_n (zr_n zr_0))))))))))))
  zrs_0))
set_option maxRecDepth 100000 in
set_option maxHeartbeats 4000000 in
theorem okX8_thin {l : Launch} {D : va_G} {tys : List (ClassId × FieldType)} {o : zO} {z : Nat} (E : zEnv tys) : zCodeOk l D vwCl tys o z (zXX o z) zTs zprog mX8_thin := by
  intro p e R s m args below meth c0 Q ws0 hbc hbs C pc sem h
  replace hbc : R.cells = 0 := hbc
  replace hbs : R.slots = 0 := hbs
  replace C : zCx p R s m args meth c0 D vwCl tys z (zXX o z) zTs RX8 cX8_thin 3 "thin" := C
  refine zRows_get (P := fun pc sem => zOp p l e R s m args below meth c0 Q D vwCl tys o z (zXX o z) zTs zprog ws0 3 cX8_thin (some .int) pc sem) (c := kX8_thin) ?_ h
  unfold kX8_thin
  exact (zrs_c (zr_s (zq_aload_n C dX8_thin_0 rfl)
    (zr_s (zq_iconst (n := .ofNat 0) C dX8_thin_1 (by decide))
    (zr_s (zq_put (k := 11) C dX8_thin_2 (show vwCl[8]? = some (RX8, TX8, 51) from rfl) zinX8 tyX8 tyX8_ok nmX8 (by decide) zw1183 rfl (ty := .int) (by decide +kernel) rfl)
    (zr_n (zr_n (zr_s (zq_iconst (n := .ofNat 0) C dX8_thin_5 (by decide))
    (zr_s (zq_istore_n C dX8_thin_6 rfl (by decide))
    (zr_s (zq_iconst (n := .ofNat 1) C dX8_thin_7 (by decide))
    (zr_s (zq_istore_n C dX8_thin_8 rfl (by decide))
    (zr_s (zq_iload_n C dX8_thin_9 rfl)
    (zr_s (zq_aload_n C dX8_thin_10 rfl)
    (zr_s (zq_get (k := 1) C dX8_thin_11 (show vwCl[8]? = some (RX8, TX8, 51) from rfl) zinX8 (by decide) zw1173)
    (zr_n (zr_n (zr_s (zq_icmp_ge C dX8_thin_14 (by decide))
    (zr_n zr_0))))))))))))))))
  (zrs_c (zr_n (zr_s (zq_aload_n C dX8_thin_17 rfl)
    (zr_s (zq_iload_n C dX8_thin_18 rfl)
    (zr_s (zk_callV (n := 1) C zXX_ok zTs_good hbc hbs (show zget zprog 144 = some mX8_ableMany from rfl) rfl rfl (show vwCl[8]? = some (RX8, TX8, 51) from rfl) zw1676 zw1673 zw1675 zs143 zw16 (by decide +kernel) dX8_thin_19)
    (zr_n (zr_n (zr_s (zq_aload_n C dX8_thin_22 rfl)
    (zr_s (zq_iload_n C dX8_thin_23 rfl)
    (zr_s (zk_callV (n := 1) C zXX_ok zTs_good hbc hbs (show zget zprog 144 = some mX8_ableMany from rfl) rfl rfl (show vwCl[8]? = some (RX8, TX8, 51) from rfl) zw1676 zw1673 zw1675 zs143 zw16 (by decide +kernel) dX8_thin_24)
    (zr_n (zr_n (zr_s (zq_icmp_ge C dX8_thin_27 (by decide))
    (zr_n (zr_n (zr_n (zr_n zr_0))))))))))))))))
  (zrs_c (zr_s (zk_inc (n := .ofNat 1) C dX8_thin_32 (by decide) (by decide))
    (zr_n (zr_n (zr_s (zk_goto C dX8_thin_35 (by decide))
    (zr_n (zr_n (zr_s (zq_aload_n C dX8_thin_38 rfl)
    (zr_s (zq_iconst (n := .ofNat 0) C dX8_thin_39 (by decide))
    (zr_s (zq_put (k := 10) C dX8_thin_40 (show vwCl[8]? = some (RX8, TX8, 51) from rfl) zinX8 tyX8 tyX8_ok nmX8 (by decide) zw1182 rfl (ty := .int) (by decide +kernel) rfl)
    (zr_n (zr_n (zr_s (zq_aload_n C dX8_thin_43 rfl)
    (zr_s (zq_aload_n C dX8_thin_44 rfl)
    (zr_s (zq_iload_n C dX8_thin_45 rfl)
    (zr_s (zk_callV (n := 1) C zXX_ok zTs_good hbc hbs (show zget zprog 144 = some mX8_ableMany from rfl) rfl rfl (show vwCl[8]? = some (RX8, TX8, 51) from rfl) zw1676 zw1673 zw1675 zs143 zw16 (by decide +kernel) dX8_thin_46)
    (zr_n zr_0))))))))))))))))
  (zrs_c (zr_n (zr_s (zk_i2l C dX8_thin_49)
    (zr_s (zk_callV (n := 1) C zXX_ok zTs_good hbc hbs (show zget zprog 222 = some mX8_tell from rfl) rfl rfl (show vwCl[8]? = some (RX8, TX8, 51) from rfl) zw1500 zw1497 zw1499 zs121 zw16 (by decide +kernel) dX8_thin_50)
    (zr_n (zr_n (zr_s (zq_iload_n C dX8_thin_53 rfl)
    (zr_s (zk_ret1 (ty := .int) C hbc hbs rfl rfl (Or.inl ⟨dX8_thin_54, by decide⟩))
    zr_0)))))))
  zrs_0))))
set_option maxRecDepth 100000 in
set_option maxHeartbeats 4000000 in
theorem okX8_thrown {l : Launch} {D : va_G} {tys : List (ClassId × FieldType)} {o : zO} {z : Nat} (E : zEnv tys) : zCodeOk l D vwCl tys o z (zXX o z) zTs zprog mX8_thrown := by
  intro p e R s m args below meth c0 Q ws0 hbc hbs C pc sem h
  replace hbc : R.cells = 0 := hbc
  replace hbs : R.slots = 0 := hbs
  replace C : zCx p R s m args meth c0 D vwCl tys z (zXX o z) zTs RX8 cX8_thrown 1 "thrown" := C
  refine zRows_get (P := fun pc sem => zOp p l e R s m args below meth c0 Q D vwCl tys o z (zXX o z) zTs zprog ws0 1 cX8_thrown (some .int) pc sem) (c := kX8_thrown) ?_ h
  unfold kX8_thrown
  exact (zrs_c (zr_s (zq_aload_n C dX8_thrown_0 rfl)
    (zr_s (zq_get (k := 11) C dX8_thrown_1 (show vwCl[8]? = some (RX8, TX8, 51) from rfl) zinX8 (by decide) zw1183)
    (zr_n (zr_n (zr_s (zk_ret1 (ty := .int) C hbc hbs rfl rfl (Or.inl ⟨dX8_thrown_4, by decide⟩))
    zr_0)))))
  zrs_0)
set_option maxRecDepth 100000 in
set_option maxHeartbeats 4000000 in
theorem okX8_tired {l : Launch} {D : va_G} {tys : List (ClassId × FieldType)} {o : zO} {z : Nat} (E : zEnv tys) : zCodeOk l D vwCl tys o z (zXX o z) zTs zprog mX8_tired := by
  intro p e R s m args below meth c0 Q ws0 hbc hbs C pc sem h
  replace hbc : R.cells = 0 := hbc
  replace hbs : R.slots = 0 := hbs
  replace C : zCx p R s m args meth c0 D vwCl tys z (zXX o z) zTs RX8 cX8_tired 4 "tired" := C
  refine zRows_get (P := fun pc sem => zOp p l e R s m args below meth c0 Q D vwCl tys o z (zXX o z) zTs zprog ws0 4 cX8_tired (some .int) pc sem) (c := kX8_tired) ?_ h
  unfold kX8_tired
  exact (zrs_c (zr_s (zq_iconst (n := .ofNat 0) C dX8_tired_0 (by decide))
    (zr_s (zq_istore_n C dX8_tired_1 rfl (by decide))
    (zr_s (zq_iconst (n := .ofNat 0) C dX8_tired_2 (by decide))
    (zr_s (zq_istore_n C dX8_tired_3 rfl (by decide))
    (zr_s (zq_iload_n C dX8_tired_4 rfl)
    (zr_s (zq_aload_n C dX8_tired_5 rfl)
    (zr_s (zq_get (k := 3) C dX8_tired_6 (show vwCl[8]? = some (RX8, TX8, 51) from rfl) zinX8 (by decide) zw1175)
    (zr_n (zr_n (zr_s (zq_icmp_ge C dX8_tired_9 (by decide))
    (zr_n (zr_n (zr_n (zr_n (zr_n (zr_n zr_0))))))))))))))))
  (zrs_c (zr_n (zr_n (zr_n (zr_n (zr_n (zr_n (zr_n (zr_n (zr_n (zr_n (zr_n (zr_s (zq_iload_n C dX8_tired_27 rfl)
    (zr_s (zk_ret1 (ty := .int) C hbc hbs rfl rfl (Or.inl ⟨dX8_tired_28, by decide⟩))
    zr_0)))))))))))))
  zrs_0))
set_option maxRecDepth 100000 in
set_option maxHeartbeats 4000000 in
theorem okX8_trade {l : Launch} {D : va_G} {tys : List (ClassId × FieldType)} {o : zO} {z : Nat} (E : zEnv tys) : zCodeOk l D vwCl tys o z (zXX o z) zTs zprog mX8_trade := by
  intro p e R s m args below meth c0 Q ws0 hbc hbs C pc sem h
  replace hbc : R.cells = 0 := hbc
  replace hbs : R.slots = 0 := hbs
  replace C : zCx p R s m args meth c0 D vwCl tys z (zXX o z) zTs RX8 cX8_trade 6 "trade" := C
  refine zRows_get (P := fun pc sem => zOp p l e R s m args below meth c0 Q D vwCl tys o z (zXX o z) zTs zprog ws0 6 cX8_trade (some .int) pc sem) (c := kX8_trade) ?_ h
  unfold kX8_trade
  exact (zrs_c (zr_s (zq_aload_n C dX8_trade_0 rfl)
    (zr_s (zq_iconst (n := .ofNat 0) C dX8_trade_1 (by decide))
    (zr_s (zq_put (k := 11) C dX8_trade_2 (show vwCl[8]? = some (RX8, TX8, 51) from rfl) zinX8 tyX8 tyX8_ok nmX8 (by decide) zw1183 rfl (ty := .int) (by decide +kernel) rfl)
    (zr_n (zr_n (zr_s (zq_aload_n C dX8_trade_5 rfl)
    (zr_s (zq_get (k := 1) C dX8_trade_6 (show vwCl[8]? = some (RX8, TX8, 51) from rfl) zinX8 (by decide) zw1173)
    (zr_n (zr_n (zr_s (zq_iconst (n := .ofNat 1) C dX8_trade_9 (by decide))
    (zr_s (zq_icmp_ne C dX8_trade_10 (by decide))
    (zr_n (zr_n (zr_n (zr_n (zr_n zr_0))))))))))))))))
  (zrs_c (zr_s (zq_ldc (n := .ofNat 1000000000) C dX8_trade_16 zw1171 (by decide +kernel))
    (zr_n (zr_s (zq_istore_n C dX8_trade_18 rfl (by decide))
    (zr_s (zq_iconst (n := .negSucc 0) C dX8_trade_19 (by decide))
    (zr_s (zq_istore_n C dX8_trade_20 rfl (by decide))
    (zr_s (zq_iconst (n := .negSucc 0) C dX8_trade_21 (by decide))
    (zr_s (zq_istore_n C dX8_trade_22 rfl (by decide))
    (zr_s (zq_iconst (n := .ofNat 0) C dX8_trade_23 (by decide))
    (zr_s (zq_istore C dX8_trade_24 (by decide))
    (zr_n (zr_s (zq_iload C dX8_trade_26)
    (zr_n (zr_s (zq_aload_n C dX8_trade_28 rfl)
    (zr_s (zq_get (k := 1) C dX8_trade_29 (show vwCl[8]? = some (RX8, TX8, 51) from rfl) zinX8 (by decide) zw1173)
    (zr_n (zr_n zr_0))))))))))))))))
  (zrs_c (zr_s (zq_icmp_ge C dX8_trade_32 (by decide))
    (zr_n (zr_n (zr_s (zq_iload C dX8_trade_35)
    (zr_n (zr_s (zq_iconst (n := .ofNat 1) C dX8_trade_37 (by decide))
    (zr_s (zk_add C dX8_trade_38)
    (zr_s (zq_istore C dX8_trade_39 (by decide))
    (zr_n (zr_s (zq_iload C dX8_trade_41)
    (zr_n (zr_s (zq_aload_n C dX8_trade_43 rfl)
    (zr_s (zq_get (k := 1) C dX8_trade_44 (show vwCl[8]? = some (RX8, TX8, 51) from rfl) zinX8 (by decide) zw1173)
    (zr_n (zr_n (zr_s (zq_icmp_ge C dX8_trade_47 (by decide))
    zr_0))))))))))))))))
  (zrs_c (zr_n (zr_n (zr_s (zq_aload_n C dX8_trade_50 rfl)
    (zr_s (zq_get (k := 0) C dX8_trade_51 (show vwCl[8]? = some (RX8, TX8, 51) from rfl) zinX8 (by decide) zw1172)
    (zr_n (zr_n (zr_s (zq_aload_n C dX8_trade_54 rfl)
    (zr_s (zq_get (k := 26) C dX8_trade_55 (show vwCl[8]? = some (RX8, TX8, 51) from rfl) zinX8 (by decide) zw1198)
    (zr_n (zr_n (zr_s (zq_iconst (n := .ofNat 0) C dX8_trade_58 (by decide))
    (zr_s (zk_callS C zXX_ok zTs_good hbc hbs (show zget zprog 191 = some mX8_lay from rfl) rfl rfl zw1464 zw1462 zw1463 zw16 (by decide +kernel) dX8_trade_59)
    (zr_n (zr_n (zr_s (zq_aload_n C dX8_trade_62 rfl)
    (zr_s (zq_get (k := 26) C dX8_trade_63 (show vwCl[8]? = some (RX8, TX8, 51) from rfl) zinX8 (by decide) zw1198)
    zr_0))))))))))))))))
  (zrs_c (zr_n (zr_n (zr_s (zq_iload C dX8_trade_66)
    (zr_n (zr_s (zq_aload_n C dX8_trade_68 rfl)
    (zr_s (zq_get (k := 0) C dX8_trade_69 (show vwCl[8]? = some (RX8, TX8, 51) from rfl) zinX8 (by decide) zw1172)
    (zr_n (zr_n (zr_s (zq_iload C dX8_trade_72)
    (zr_n (zr_s (zk_iald C dX8_trade_74)
    (zr_s (zk_iast C dX8_trade_75)
    (zr_s (zq_aload_n C dX8_trade_76 rfl)
    (zr_s (zq_get (k := 26) C dX8_trade_77 (show vwCl[8]? = some (RX8, TX8, 51) from rfl) zinX8 (by decide) zw1198)
    (zr_n (zr_n zr_0))))))))))))))))
  (zrs_c (zr_s (zq_iload C dX8_trade_80)
    (zr_n (zr_s (zq_aload_n C dX8_trade_82 rfl)
    (zr_s (zq_get (k := 0) C dX8_trade_83 (show vwCl[8]? = some (RX8, TX8, 51) from rfl) zinX8 (by decide) zw1172)
    (zr_n (zr_n (zr_s (zq_iload C dX8_trade_86)
    (zr_n (zr_s (zk_iald C dX8_trade_88)
    (zr_s (zk_iast C dX8_trade_89)
    (zr_s (zq_aload_n C dX8_trade_90 rfl)
    (zr_s (zq_aload_n C dX8_trade_91 rfl)
    (zr_s (zq_get (k := 26) C dX8_trade_92 (show vwCl[8]? = some (RX8, TX8, 51) from rfl) zinX8 (by decide) zw1198)
    (zr_n (zr_n (zr_s (zk_callV (n := 1) C zXX_ok zTs_good hbc hbs (show zget zprog 172 = some mX8_goNight from rfl) rfl rfl (show vwCl[8]? = some (RX8, TX8, 51) from rfl) zw1492 zw1489 zw1491 zs120 zw16 (by decide +kernel) dX8_trade_95)
    zr_0))))))))))))))))
  (zrs_c (zr_n (zr_n (zr_s (zq_aload_n C dX8_trade_98 rfl)
    (zr_s (zq_get (k := 27) C dX8_trade_99 (show vwCl[8]? = some (RX8, TX8, 51) from rfl) zinX8 (by decide) zw1199)
    (zr_n (zr_n (zr_s (zk_callS C zXX_ok zTs_good hbc hbs (show zget zprog 14 = some mJ6_bitCount_0f7a4 from rfl) rfl rfl zw564 zw1443 zw563 zw21 (by decide +kernel) dX8_trade_102)
    (zr_n (zr_n (zr_s (zq_iload_n C dX8_trade_105 rfl)
    (zr_s (zq_icmp_lt C dX8_trade_106 (by decide))
    (zr_n (zr_n (zr_s (zk_goto C dX8_trade_109 (by decide))
    (zr_n (zr_n zr_0))))))))))))))))
  (zrs_c (zr_s (zq_aload_n C dX8_trade_112 rfl)
    (zr_s (zq_get (k := 27) C dX8_trade_113 (show vwCl[8]? = some (RX8, TX8, 51) from rfl) zinX8 (by decide) zw1199)
    (zr_n (zr_n (zr_s (zk_callS C zXX_ok zTs_good hbc hbs (show zget zprog 14 = some mJ6_bitCount_0f7a4 from rfl) rfl rfl zw564 zw1443 zw563 zw21 (by decide +kernel) dX8_trade_116)
    (zr_n (zr_n (zr_s (zq_istore_n C dX8_trade_119 rfl (by decide))
    (zr_s (zq_iload C dX8_trade_120)
    (zr_n (zr_s (zq_istore_n C dX8_trade_122 rfl (by decide))
    (zr_s (zq_iload C dX8_trade_123)
    (zr_n (zr_s (zq_istore_n C dX8_trade_125 rfl (by decide))
    (zr_s (zk_inc (n := .ofNat 1) C dX8_trade_126 (by decide) (by decide))
    (zr_n zr_0))))))))))))))))
  (zrs_c (zr_n (zr_s (zk_goto C dX8_trade_129 (by decide))
    (zr_n (zr_n (zr_s (zk_inc (n := .ofNat 1) C dX8_trade_132 (by decide) (by decide))
    (zr_n (zr_n (zr_s (zk_goto C dX8_trade_135 (by decide))
    (zr_n (zr_n (zr_s (zq_aload_n C dX8_trade_138 rfl)
    (zr_s (zq_get (k := 0) C dX8_trade_139 (show vwCl[8]? = some (RX8, TX8, 51) from rfl) zinX8 (by decide) zw1172)
    (zr_n (zr_n (zr_s (zq_aload_n C dX8_trade_142 rfl)
    (zr_s (zq_get (k := 26) C dX8_trade_143 (show vwCl[8]? = some (RX8, TX8, 51) from rfl) zinX8 (by decide) zw1198)
    zr_0))))))))))))))))
  (zrs_c (zr_n (zr_n (zr_s (zq_iconst (n := .ofNat 0) C dX8_trade_146 (by decide))
    (zr_s (zk_callS C zXX_ok zTs_good hbc hbs (show zget zprog 191 = some mX8_lay from rfl) rfl rfl zw1464 zw1462 zw1463 zw16 (by decide +kernel) dX8_trade_147)
    (zr_n (zr_n (zr_s (zq_aload_n C dX8_trade_150 rfl)
    (zr_s (zq_aload_n C dX8_trade_151 rfl)
    (zr_s (zq_get (k := 26) C dX8_trade_152 (show vwCl[8]? = some (RX8, TX8, 51) from rfl) zinX8 (by decide) zw1198)
    (zr_n (zr_n (zr_s (zk_callV (n := 1) C zXX_ok zTs_good hbc hbs (show zget zprog 172 = some mX8_goNight from rfl) rfl rfl (show vwCl[8]? = some (RX8, TX8, 51) from rfl) zw1492 zw1489 zw1491 zs120 zw16 (by decide +kernel) dX8_trade_155)
    (zr_n (zr_n (zr_s (zq_aload_n C dX8_trade_158 rfl)
    (zr_s (zq_iconst (n := .ofNat 0) C dX8_trade_159 (by decide))
    zr_0))))))))))))))))
  (zrs_c (zr_s (zq_put (k := 10) C dX8_trade_160 (show vwCl[8]? = some (RX8, TX8, 51) from rfl) zinX8 tyX8 tyX8_ok nmX8 (by decide) zw1182 rfl (ty := .int) (by decide +kernel) rfl)
    (zr_n (zr_n (zr_s (zq_aload_n C dX8_trade_163 rfl)
    (zr_s (zq_iload_n C dX8_trade_164 rfl)
    (zr_s (zk_i2l C dX8_trade_165)
    (zr_s (zk_callV (n := 1) C zXX_ok zTs_good hbc hbs (show zget zprog 222 = some mX8_tell from rfl) rfl rfl (show vwCl[8]? = some (RX8, TX8, 51) from rfl) zw1500 zw1497 zw1499 zs121 zw16 (by decide +kernel) dX8_trade_166)
    (zr_n (zr_n (zr_s (zq_aload_n C dX8_trade_169 rfl)
    (zr_s (zq_iload_n C dX8_trade_170 rfl)
    (zr_s (zk_i2l C dX8_trade_171)
    (zr_s (zk_callV (n := 1) C zXX_ok zTs_good hbc hbs (show zget zprog 222 = some mX8_tell from rfl) rfl rfl (show vwCl[8]? = some (RX8, TX8, 51) from rfl) zw1500 zw1497 zw1499 zs121 zw16 (by decide +kernel) dX8_trade_172)
    (zr_n (zr_n (zr_s (zq_aload_n C dX8_trade_175 rfl)
    zr_0))))))))))))))))
  (zrs_c (zr_s (zq_aload_n C dX8_trade_176 rfl)
    (zr_s (zq_get (k := 27) C dX8_trade_177 (show vwCl[8]? = some (RX8, TX8, 51) from rfl) zinX8 (by decide) zw1199)
    (zr_n (zr_n (zr_s (zk_callS C zXX_ok zTs_good hbc hbs (show zget zprog 14 = some mJ6_bitCount_0f7a4 from rfl) rfl rfl zw564 zw1443 zw563 zw21 (by decide +kernel) dX8_trade_180)
    (zr_n (zr_n (zr_s (zk_i2l C dX8_trade_183)
    (zr_s (zk_callV (n := 1) C zXX_ok zTs_good hbc hbs (show zget zprog 222 = some mX8_tell from rfl) rfl rfl (show vwCl[8]? = some (RX8, TX8, 51) from rfl) zw1500 zw1497 zw1499 zs121 zw16 (by decide +kernel) dX8_trade_184)
    (zr_n (zr_n (zr_s (zq_iload_n C dX8_trade_187 rfl)
    (zr_s (zk_ret1 (ty := .int) C hbc hbs rfl rfl (Or.inl ⟨dX8_trade_188, by decide⟩))
    zr_0)))))))))))))
  zrs_0))))))))))))
set_option maxRecDepth 100000 in
set_option maxHeartbeats 4000000 in
theorem okX8_undo {l : Launch} {D : va_G} {tys : List (ClassId × FieldType)} {o : zO} {z : Nat} (E : zEnv tys) : zCodeOk l D vwCl tys o z (zXX o z) zTs zprog mX8_undo := by
  intro p e R s m args below meth c0 Q ws0 hbc hbs C pc sem h
  replace hbc : R.cells = 0 := hbc
  replace hbs : R.slots = 0 := hbs
  replace C : zCx p R s m args meth c0 D vwCl tys z (zXX o z) zTs RX8 cX8_undo 2 "undo" := C
  refine zRows_get (P := fun pc sem => zOp p l e R s m args below meth c0 Q D vwCl tys o z (zXX o z) zTs zprog ws0 2 cX8_undo (some .int) pc sem) (c := kX8_undo) ?_ h
  unfold kX8_undo
  exact (zrs_c (zr_s (zq_aload_n C dX8_undo_0 rfl)
    (zr_s (zq_iconst (n := .ofNat 0) C dX8_undo_1 (by decide))
    (zr_s (zq_put (k := 11) C dX8_undo_2 (show vwCl[8]? = some (RX8, TX8, 51) from rfl) zinX8 tyX8 tyX8_ok nmX8 (by decide) zw1183 rfl (ty := .int) (by decide +kernel) rfl)
    (zr_n (zr_n (zr_s (zq_aload_n C dX8_undo_5 rfl)
    (zr_s (zq_get (k := 24) C dX8_undo_6 (show vwCl[8]? = some (RX8, TX8, 51) from rfl) zinX8 (by decide) zw1196)
    (zr_n (zr_n (zr_s (zq_if_ne C dX8_undo_9 (by decide))
    (zr_n (zr_n (zr_s (zq_iconst (n := .negSucc 0) C dX8_undo_12 (by decide))
    (zr_s (zk_ret1 (ty := .int) C hbc hbs rfl rfl (Or.inl ⟨dX8_undo_13, by decide⟩))
    (zr_n (zr_n zr_0))))))))))))))))
  (zrs_c (zr_n (zr_n (zr_n (zr_n (zr_n (zr_n (zr_n (zr_n (zr_n (zr_n (zr_n (zr_n (zr_n (zr_n (zr_n (zr_n zr_0))))))))))))))))
  (zrs_c (zr_n (zr_n (zr_n (zr_n (zr_n (zr_n (zr_n (zr_n (zr_n (zr_n (zr_n (zr_n (zr_n (zr_n (zr_n (zr_n zr_0))))))))))))))))
  (zrs_c (zr_n (zr_n (zr_n (zr_n (zr_n (zr_n (zr_n (zr_n (zr_n (zr_n (zr_n (zr_n (zr_n (zr_n (zr_n zr_0)))))))))))))))
  zrs_0))))
set_option maxRecDepth 100000 in
set_option maxHeartbeats 4000000 in
theorem okX8_vigil {l : Launch} {D : va_G} {tys : List (ClassId × FieldType)} {o : zO} {z : Nat} (E : zEnv tys) : zCodeOk l D vwCl tys o z (zXX o z) zTs zprog mX8_vigil := by
  intro p e R s m args below meth c0 Q ws0 hbc hbs C pc sem h
  replace hbc : R.cells = 0 := hbc
  replace hbs : R.slots = 0 := hbs
  replace C : zCx p R s m args meth c0 D vwCl tys z (zXX o z) zTs RX8 cX8_vigil 6 "vigil" := C
  refine zRows_get (P := fun pc sem => zOp p l e R s m args below meth c0 Q D vwCl tys o z (zXX o z) zTs zprog ws0 6 cX8_vigil (some .int) pc sem) (c := kX8_vigil) ?_ h
  unfold kX8_vigil
  exact (zrs_c (zr_s (zq_aload_n C dX8_vigil_0 rfl)
    (zr_s (zq_iconst (n := .ofNat 0) C dX8_vigil_1 (by decide))
    (zr_s (zq_put (k := 11) C dX8_vigil_2 (show vwCl[8]? = some (RX8, TX8, 51) from rfl) zinX8 tyX8 tyX8_ok nmX8 (by decide) zw1183 rfl (ty := .int) (by decide +kernel) rfl)
    (zr_n (zr_n (zr_s (zq_iload_n C dX8_vigil_5 rfl)
    (zr_s (zq_iconst (n := .ofNat 0) C dX8_vigil_6 (by decide))
    (zr_s (zq_bipush (n := .ofNat 60) C dX8_vigil_7 (by decide) (by decide))
    (zr_n (zr_s (zk_callS C zXX_ok zTs_good hbc hbs (show zget zprog 181 = some mX8_in from rfl) rfl rfl zw1340 zw1338 zw1339 zw16 (by decide +kernel) dX8_vigil_9)
    (zr_n (zr_n (zr_s (zq_if_ne C dX8_vigil_12 (by decide))
    (zr_n (zr_n (zr_s (zq_iconst (n := .negSucc 0) C dX8_vigil_15 (by decide))
    zr_0))))))))))))))))
  (zrs_c (zr_s (zk_ret1 (ty := .int) C hbc hbs rfl rfl (Or.inl ⟨dX8_vigil_16, by decide⟩))
    (zr_s (zq_aload_n C dX8_vigil_17 rfl)
    (zr_s (zq_get (k := 0) C dX8_vigil_18 (show vwCl[8]? = some (RX8, TX8, 51) from rfl) zinX8 (by decide) zw1172)
    (zr_n (zr_n (zr_s (zq_aload_n C dX8_vigil_21 rfl)
    (zr_s (zq_get (k := 26) C dX8_vigil_22 (show vwCl[8]? = some (RX8, TX8, 51) from rfl) zinX8 (by decide) zw1198)
    (zr_n (zr_n (zr_s (zq_iconst (n := .ofNat 0) C dX8_vigil_25 (by decide))
    (zr_s (zk_callS C zXX_ok zTs_good hbc hbs (show zget zprog 191 = some mX8_lay from rfl) rfl rfl zw1464 zw1462 zw1463 zw16 (by decide +kernel) dX8_vigil_26)
    (zr_n (zr_n (zr_s (zq_iconst (n := .ofNat 0) C dX8_vigil_29 (by decide))
    (zr_s (zq_istore_n C dX8_vigil_30 rfl (by decide))
    (zr_s (zq_iconst (n := .negSucc 0) C dX8_vigil_31 (by decide))
    zr_0))))))))))))))))
  (zrs_c (zr_s (zq_istore_n C dX8_vigil_32 rfl (by decide))
    (zr_s (zq_iconst (n := .ofNat 0) C dX8_vigil_33 (by decide))
    (zr_s (zq_istore C dX8_vigil_34 (by decide))
    (zr_n (zr_s (zq_iconst (n := .ofNat 0) C dX8_vigil_36 (by decide))
    (zr_s (zq_istore C dX8_vigil_37 (by decide))
    (zr_n (zr_s (zq_iload C dX8_vigil_39)
    (zr_n (zr_s (zq_iload_n C dX8_vigil_41 rfl)
    (zr_s (zq_icmp_ge C dX8_vigil_42 (by decide))
    (zr_n (zr_n (zr_s (zq_aload_n C dX8_vigil_45 rfl)
    (zr_s (zq_aload_n C dX8_vigil_46 rfl)
    (zr_s (zq_get (k := 26) C dX8_vigil_47 (show vwCl[8]? = some (RX8, TX8, 51) from rfl) zinX8 (by decide) zw1198)
    zr_0))))))))))))))))
  (zrs_c (zr_n (zr_n (zr_s (zk_callV (n := 1) C zXX_ok zTs_good hbc hbs (show zget zprog 172 = some mX8_goNight from rfl) rfl rfl (show vwCl[8]? = some (RX8, TX8, 51) from rfl) zw1492 zw1489 zw1491 zs120 zw16 (by decide +kernel) dX8_vigil_50)
    (zr_n (zr_n (zr_s (zq_aload_n C dX8_vigil_53 rfl)
    (zr_s (zq_get (k := 27) C dX8_vigil_54 (show vwCl[8]? = some (RX8, TX8, 51) from rfl) zinX8 (by decide) zw1199)
    (zr_n (zr_n (zr_s (zq_if_ne C dX8_vigil_57 (by decide))
    (zr_n (zr_n (zr_n (zr_n (zr_n (zr_n zr_0))))))))))))))))
  (zrs_c (zr_n (zr_n (zr_n (zr_s (zq_iconst (n := .ofNat 0) C dX8_vigil_67 (by decide))
    (zr_s (zq_istore C dX8_vigil_68 (by decide))
    (zr_n (zr_s (zq_iload C dX8_vigil_70)
    (zr_n (zr_s (zq_iload_n C dX8_vigil_72 rfl)
    (zr_s (zq_icmp_gt C dX8_vigil_73 (by decide))
    (zr_n (zr_n (zr_s (zk_goto C dX8_vigil_76 (by decide))
    (zr_n (zr_n (zr_n zr_0))))))))))))))))
  (zrs_c (zr_n (zr_n (zr_n (zr_n (zr_n (zr_n (zr_n (zr_n (zr_n (zr_n (zr_s (zk_inc (n := .ofNat 1) C dX8_vigil_90 (by decide) (by decide))
    (zr_n (zr_n (zr_s (zk_goto C dX8_vigil_93 (by decide))
    (zr_n (zr_n zr_0))))))))))))))))
  (zrs_c (zr_s (zq_aload_n C dX8_vigil_96 rfl)
    (zr_s (zq_iconst (n := .ofNat 0) C dX8_vigil_97 (by decide))
    (zr_s (zq_put (k := 10) C dX8_vigil_98 (show vwCl[8]? = some (RX8, TX8, 51) from rfl) zinX8 tyX8 tyX8_ok nmX8 (by decide) zw1182 rfl (ty := .int) (by decide +kernel) rfl)
    (zr_n (zr_n (zr_s (zq_aload_n C dX8_vigil_101 rfl)
    (zr_s (zq_iload_n C dX8_vigil_102 rfl)
    (zr_s (zk_i2l C dX8_vigil_103)
    (zr_s (zk_callV (n := 1) C zXX_ok zTs_good hbc hbs (show zget zprog 222 = some mX8_tell from rfl) rfl rfl (show vwCl[8]? = some (RX8, TX8, 51) from rfl) zw1500 zw1497 zw1499 zs121 zw16 (by decide +kernel) dX8_vigil_104)
    (zr_n (zr_n (zr_s (zq_iload_n C dX8_vigil_107 rfl)
    (zr_s (zk_ret1 (ty := .int) C hbc hbs rfl rfl (Or.inl ⟨dX8_vigil_108, by decide⟩))
    zr_0)))))))))))))
  zrs_0)))))))
set_option maxRecDepth 100000 in
set_option maxHeartbeats 4000000 in
theorem okX8_wasRight {l : Launch} {D : va_G} {tys : List (ClassId × FieldType)} {o : zO} {z : Nat} (E : zEnv tys) : zCodeOk l D vwCl tys o z (zXX o z) zTs zprog mX8_wasRight := by
  intro p e R s m args below meth c0 Q ws0 hbc hbs C pc sem h
  replace hbc : R.cells = 0 := hbc
  replace hbs : R.slots = 0 := hbs
  replace C : zCx p R s m args meth c0 D vwCl tys z (zXX o z) zTs RX8 cX8_wasRight 1 "wasRight" := C
  refine zRows_get (P := fun pc sem => zOp p l e R s m args below meth c0 Q D vwCl tys o z (zXX o z) zTs zprog ws0 1 cX8_wasRight (some .boolean) pc sem) (c := kX8_wasRight) ?_ h
  unfold kX8_wasRight
  exact (zrs_c (zr_s (zq_aload_n C dX8_wasRight_0 rfl)
    (zr_s (zq_get (k := 15) C dX8_wasRight_1 (show vwCl[8]? = some (RX8, TX8, 51) from rfl) zinX8 (by decide) zw1187)
    (zr_n (zr_n (zr_s (zq_aload_n C dX8_wasRight_4 rfl)
    (zr_s (zq_get (k := 13) C dX8_wasRight_5 (show vwCl[8]? = some (RX8, TX8, 51) from rfl) zinX8 (by decide) zw1185)
    (zr_n (zr_n (zr_s (zq_icmp_ge C dX8_wasRight_8 (by decide))
    (zr_n (zr_n (zr_n (zr_n (zr_n (zr_n (zr_n zr_0))))))))))))))))
  (zrs_c (zr_n (zr_n (zr_n (zr_s (zq_aload_n C dX8_wasRight_19 rfl)
    (zr_s (zk_callV (n := 0) C zXX_ok zTs_good hbc hbs (show zget zprog 163 = some mX8_fine from rfl) rfl rfl (show vwCl[8]? = some (RX8, TX8, 51) from rfl) zw1356 zw1353 zw1355 zs98 zw16 (by decide +kernel) dX8_wasRight_20)
    (zr_n (zr_n (zr_s (zk_ret1 (ty := .boolean) C hbc hbs rfl rfl (Or.inl ⟨dX8_wasRight_23, by decide⟩))
    zr_0))))))))
  zrs_0))
set_option maxRecDepth 100000 in
set_option maxHeartbeats 4000000 in
theorem okX8_well {l : Launch} {D : va_G} {tys : List (ClassId × FieldType)} {o : zO} {z : Nat} (E : zEnv tys) : zCodeOk l D vwCl tys o z (zXX o z) zTs zprog mX8_well := by
  intro p e R s m args below meth c0 Q ws0 hbc hbs C pc sem h
  replace hbc : R.cells = 0 := hbc
  replace hbs : R.slots = 0 := hbs
  replace C : zCx p R s m args meth c0 D vwCl tys z (zXX o z) zTs RX8 cX8_well 1 "well" := C
  refine zRows_get (P := fun pc sem => zOp p l e R s m args below meth c0 Q D vwCl tys o z (zXX o z) zTs zprog ws0 1 cX8_well (some .int) pc sem) (c := kX8_well) ?_ h
  unfold kX8_well
  exact (zrs_c (zr_s (zq_iconst (n := .ofNat 1) C dX8_well_0 (by decide))
    (zr_s (zq_aload_n C dX8_well_1 rfl)
    (zr_s (zq_get (k := 3) C dX8_well_2 (show vwCl[8]? = some (RX8, TX8, 51) from rfl) zinX8 (by decide) zw1175)
    (zr_n (zr_n (zr_s (zq_ishl C dX8_well_5)
    (zr_s (zq_iconst (n := .ofNat 1) C dX8_well_6 (by decide))
    (zr_s (zk_sub C dX8_well_7)
    (zr_s (zq_aload_n C dX8_well_8 rfl)
    (zr_s (zq_aload_n C dX8_well_9 rfl)
    (zr_s (zq_get (k := 0) C dX8_well_10 (show vwCl[8]? = some (RX8, TX8, 51) from rfl) zinX8 (by decide) zw1172)
    (zr_n (zr_n (zr_s (zk_callV (n := 1) C zXX_ok zTs_good hbc hbs (show zget zprog 180 = some mX8_illBits from rfl) rfl rfl (show vwCl[8]? = some (RX8, TX8, 51) from rfl) zw1480 zw1477 zw1479 zs118 zw16 (by decide +kernel) dX8_well_13)
    (zr_n (zr_n zr_0))))))))))))))))
  (zrs_c (zr_s (zq_iconst (n := .negSucc 0) C dX8_well_16 (by decide))
    (zr_s (zq_ixor C dX8_well_17)
    (zr_s (zq_iand C dX8_well_18)
    (zr_s (zk_ret1 (ty := .int) C hbc hbs rfl rfl (Or.inl ⟨dX8_well_19, by decide⟩))
    zr_0))))
  zrs_0))
set_option maxRecDepth 100000 in
set_option maxHeartbeats 4000000 in
theorem okX8_year {l : Launch} {D : va_G} {tys : List (ClassId × FieldType)} {o : zO} {z : Nat} (E : zEnv tys) : zCodeOk l D vwCl tys o z (zXX o z) zTs zprog mX8_year := by
  intro p e R s m args below meth c0 Q ws0 hbc hbs C pc sem h
  replace hbc : R.cells = 0 := hbc
  replace hbs : R.slots = 0 := hbs
  replace C : zCx p R s m args meth c0 D vwCl tys z (zXX o z) zTs RX8 cX8_year 3 "year" := C
  refine zRows_get (P := fun pc sem => zOp p l e R s m args below meth c0 Q D vwCl tys o z (zXX o z) zTs zprog ws0 3 cX8_year (some .int) pc sem) (c := kX8_year) ?_ h
  unfold kX8_year
  exact (zrs_c (zr_s (zq_aload_n C dX8_year_0 rfl)
    (zr_s (zq_iconst (n := .ofNat 0) C dX8_year_1 (by decide))
    (zr_s (zq_put (k := 11) C dX8_year_2 (show vwCl[8]? = some (RX8, TX8, 51) from rfl) zinX8 tyX8 tyX8_ok nmX8 (by decide) zw1183 rfl (ty := .int) (by decide +kernel) rfl)
    (zr_n (zr_n (zr_s (zq_aload_n C dX8_year_5 rfl)
    (zr_s (zq_bipush (n := .ofNat 60) C dX8_year_6 (by decide) (by decide))
    (zr_n (zr_s (zk_callV (n := 1) C zXX_ok zTs_good hbc hbs (show zget zprog 151 = some mX8_beginText from rfl) rfl rfl (show vwCl[8]? = some (RX8, TX8, 51) from rfl) zw1348 zw1345 zw1347 zs96 zw16 (by decide +kernel) dX8_year_8)
    (zr_n (zr_n (zr_s (zq_iconst (n := .ofNat 0) C dX8_year_11 (by decide))
    (zr_s (zq_istore_n C dX8_year_12 rfl (by decide))
    (zr_s (zq_aload_n C dX8_year_13 rfl)
    (zr_s (zk_callV (n := 0) C zXX_ok zTs_good hbc hbs (show zget zprog 163 = some mX8_fine from rfl) rfl rfl (show vwCl[8]? = some (RX8, TX8, 51) from rfl) zw1356 zw1353 zw1355 zs98 zw16 (by decide +kernel) dX8_year_14)
    (zr_n zr_0))))))))))))))))
  (zrs_c (zr_n (zr_s (zq_if_eq C dX8_year_17 (by decide))
    (zr_n (zr_n (zr_s (zq_aload_n C dX8_year_20 rfl)
    (zr_s (zq_get (k := 15) C dX8_year_21 (show vwCl[8]? = some (RX8, TX8, 51) from rfl) zinX8 (by decide) zw1187)
    (zr_n (zr_n (zr_s (zq_aload_n C dX8_year_24 rfl)
    (zr_s (zq_get (k := 13) C dX8_year_25 (show vwCl[8]? = some (RX8, TX8, 51) from rfl) zinX8 (by decide) zw1185)
    (zr_n (zr_n (zr_s (zq_icmp_ge C dX8_year_28 (by decide))
    (zr_n (zr_n (zr_n zr_0))))))))))))))))
  (zrs_c (zr_n (zr_n (zr_n (zr_n (zr_n (zr_n (zr_n (zr_n (zr_n (zr_n (zr_n (zr_n (zr_s (zq_aload_n C dX8_year_44 rfl)
    (zr_s (zk_callV (n := 0) C zXX_ok zTs_good hbc hbs (show zget zprog 231 = some mX8_wasRight from rfl) rfl rfl (show vwCl[8]? = some (RX8, TX8, 51) from rfl) zw1380 zw1377 zw1379 zs104 zw16 (by decide +kernel) dX8_year_45)
    (zr_n (zr_n zr_0))))))))))))))))
  (zrs_c (zr_s (zq_if_ne C dX8_year_48 (by decide))
    (zr_n (zr_n (zr_n (zr_n (zr_n (zr_n (zr_n (zr_n (zr_n (zr_s (zq_aload_n C dX8_year_58 rfl)
    (zr_s (zq_get (k := 0) C dX8_year_59 (show vwCl[8]? = some (RX8, TX8, 51) from rfl) zinX8 (by decide) zw1172)
    (zr_n (zr_n (zr_s (zq_aload_n C dX8_year_62 rfl)
    (zr_s (zq_get (k := 25) C dX8_year_63 (show vwCl[8]? = some (RX8, TX8, 51) from rfl) zinX8 (by decide) zw1197)
    zr_0))))))))))))))))
  (zrs_c (zr_n (zr_n (zr_s (zq_iconst (n := .ofNat 0) C dX8_year_66 (by decide))
    (zr_s (zk_callS C zXX_ok zTs_good hbc hbs (show zget zprog 191 = some mX8_lay from rfl) rfl rfl zw1464 zw1462 zw1463 zw16 (by decide +kernel) dX8_year_67)
    (zr_n (zr_n (zr_s (zq_iconst (n := .ofNat 0) C dX8_year_70 (by decide))
    (zr_s (zq_istore_n C dX8_year_71 rfl (by decide))
    (zr_s (zq_iload_n C dX8_year_72 rfl)
    (zr_s (zq_iload_n C dX8_year_73 rfl)
    (zr_s (zq_icmp_ge C dX8_year_74 (by decide))
    (zr_n (zr_n (zr_n (zr_n (zr_n zr_0))))))))))))))))
  (zrs_c (zr_n (zr_n (zr_n (zr_n (zr_n (zr_n (zr_n (zr_n (zr_n (zr_n (zr_n (zr_n (zr_n (zr_n (zr_n (zr_n zr_0))))))))))))))))
  (zrs_c (zr_n (zr_n (zr_n (zr_n (zr_n (zr_n (zr_n (zr_n (zr_n (zr_n (zr_n (zr_n (zr_n (zr_n (zr_n (zr_n zr_0))))))))))))))))
  (zrs_c (zr_n (zr_n (zr_n (zr_n (zr_n (zr_n (zr_s (zq_iload_n C dX8_year_118 rfl)
    (zr_s (zq_if_le C dX8_year_119 (by decide))
    (zr_n (zr_n (zr_n (zr_n (zr_n (zr_n (zr_n (zr_n zr_0))))))))))))))))
  (zrs_c (zr_n (zr_n (zr_s (zq_aload_n C dX8_year_130 rfl)
    (zr_s (zq_iconst (n := .ofNat 0) C dX8_year_131 (by decide))
    (zr_s (zq_put (k := 10) C dX8_year_132 (show vwCl[8]? = some (RX8, TX8, 51) from rfl) zinX8 tyX8 tyX8_ok nmX8 (by decide) zw1182 rfl (ty := .int) (by decide +kernel) rfl)
    (zr_n (zr_n (zr_s (zq_aload_n C dX8_year_135 rfl)
    (zr_s (zq_iload_n C dX8_year_136 rfl)
    (zr_s (zq_iload_n C dX8_year_137 rfl)
    (zr_s (zq_icmp_ge C dX8_year_138 (by decide))
    (zr_n (zr_n (zr_n (zr_n (zr_n zr_0))))))))))))))))
  (zrs_c (zr_n (zr_s (zq_lconst (n := .ofNat 0) C dX8_year_145 (by decide) (by decide))
    (zr_s (zk_callV (n := 1) C zXX_ok zTs_good hbc hbs (show zget zprog 222 = some mX8_tell from rfl) rfl rfl (show vwCl[8]? = some (RX8, TX8, 51) from rfl) zw1500 zw1497 zw1499 zs121 zw16 (by decide +kernel) dX8_year_146)
    (zr_n (zr_n (zr_s (zq_aload_n C dX8_year_149 rfl)
    (zr_s (zq_aload_n C dX8_year_150 rfl)
    (zr_s (zq_get (k := 0) C dX8_year_151 (show vwCl[8]? = some (RX8, TX8, 51) from rfl) zinX8 (by decide) zw1172)
    (zr_n (zr_n (zr_s (zq_bipush (n := .ofNat 25) C dX8_year_154 (by decide) (by decide))
    (zr_n (zr_s (zk_iald C dX8_year_156)
    (zr_s (zk_i2l C dX8_year_157)
    (zr_s (zk_callV (n := 1) C zXX_ok zTs_good hbc hbs (show zget zprog 222 = some mX8_tell from rfl) rfl rfl (show vwCl[8]? = some (RX8, TX8, 51) from rfl) zw1500 zw1497 zw1499 zs121 zw16 (by decide +kernel) dX8_year_158)
    (zr_n zr_0))))))))))))))))
  (zrs_c (zr_n (zr_s (zq_iload_n C dX8_year_161 rfl)
    (zr_s (zk_ret1 (ty := .int) C hbc hbs rfl rfl (Or.inl ⟨dX8_year_162, by decide⟩))
    zr_0)))
  zrs_0)))))))))))
set_option maxRecDepth 100000 in
set_option maxHeartbeats 4000000 in
theorem okX8_years {l : Launch} {D : va_G} {tys : List (ClassId × FieldType)} {o : zO} {z : Nat} (E : zEnv tys) : zCodeOk l D vwCl tys o z (zXX o z) zTs zprog mX8_years := by
  intro p e R s m args below meth c0 Q ws0 hbc hbs C pc sem h
  replace hbc : R.cells = 0 := hbc
  replace hbs : R.slots = 0 := hbs
  replace C : zCx p R s m args meth c0 D vwCl tys z (zXX o z) zTs RX8 cX8_years 6 "years" := C
  refine zRows_get (P := fun pc sem => zOp p l e R s m args below meth c0 Q D vwCl tys o z (zXX o z) zTs zprog ws0 6 cX8_years (some .int) pc sem) (c := kX8_years) ?_ h
  unfold kX8_years
  exact (zrs_c (zr_s (zq_aload_n C dX8_years_0 rfl)
    (zr_s (zq_iconst (n := .ofNat 0) C dX8_years_1 (by decide))
    (zr_s (zq_put (k := 11) C dX8_years_2 (show vwCl[8]? = some (RX8, TX8, 51) from rfl) zinX8 tyX8 tyX8_ok nmX8 (by decide) zw1183 rfl (ty := .int) (by decide +kernel) rfl)
    (zr_n (zr_n (zr_s (zq_iload_n C dX8_years_5 rfl)
    (zr_s (zq_iconst (n := .ofNat 1) C dX8_years_6 (by decide))
    (zr_s (zq_bipush (n := .ofNat 60) C dX8_years_7 (by decide) (by decide))
    (zr_n (zr_s (zk_callS C zXX_ok zTs_good hbc hbs (show zget zprog 181 = some mX8_in from rfl) rfl rfl zw1340 zw1338 zw1339 zw16 (by decide +kernel) dX8_years_9)
    (zr_n (zr_n (zr_s (zq_if_ne C dX8_years_12 (by decide))
    (zr_n (zr_n (zr_s (zq_iconst (n := .negSucc 0) C dX8_years_15 (by decide))
    zr_0))))))))))))))))
  (zrs_c (zr_s (zk_ret1 (ty := .int) C hbc hbs rfl rfl (Or.inl ⟨dX8_years_16, by decide⟩))
    (zr_s (zq_aload_n C dX8_years_17 rfl)
    (zr_s (zq_iload_n C dX8_years_18 rfl)
    (zr_s (zq_put (k := 46) C dX8_years_19 (show vwCl[8]? = some (RX8, TX8, 51) from rfl) zinX8 tyX8 tyX8_ok nmX8 (by decide) zw1218 rfl (ty := .int) (by decide +kernel) rfl)
    (zr_n (zr_n (zr_s (zq_aload_n C dX8_years_22 rfl)
    (zr_s (zq_get (k := 0) C dX8_years_23 (show vwCl[8]? = some (RX8, TX8, 51) from rfl) zinX8 (by decide) zw1172)
    (zr_n (zr_n (zr_s (zq_aload_n C dX8_years_26 rfl)
    (zr_s (zq_get (k := 26) C dX8_years_27 (show vwCl[8]? = some (RX8, TX8, 51) from rfl) zinX8 (by decide) zw1198)
    (zr_n (zr_n (zr_s (zq_iconst (n := .ofNat 0) C dX8_years_30 (by decide))
    (zr_s (zk_callS C zXX_ok zTs_good hbc hbs (show zget zprog 191 = some mX8_lay from rfl) rfl rfl zw1464 zw1462 zw1463 zw16 (by decide +kernel) dX8_years_31)
    zr_0))))))))))))))))
  (zrs_c (zr_n (zr_n (zr_s (zq_iconst (n := .ofNat 0) C dX8_years_34 (by decide))
    (zr_s (zq_istore_n C dX8_years_35 rfl (by decide))
    (zr_s (zq_iload_n C dX8_years_36 rfl)
    (zr_s (zq_iload_n C dX8_years_37 rfl)
    (zr_s (zq_icmp_ge C dX8_years_38 (by decide))
    (zr_n (zr_n (zr_s (zq_aload_n C dX8_years_41 rfl)
    (zr_s (zq_iconst (n := .ofNat 4) C dX8_years_42 (by decide))
    (zr_s (zk_callV (n := 1) C zXX_ok zTs_good hbc hbs (show zget zprog 156 = some mX8_draw from rfl) rfl rfl (show vwCl[8]? = some (RX8, TX8, 51) from rfl) zw1776 zw1773 zw1775 zs151 zw16 (by decide +kernel) dX8_years_43)
    (zr_n (zr_n (zr_s (zq_istore C dX8_years_46 (by decide))
    (zr_n zr_0))))))))))))))))
  (zrs_c (zr_s (zq_iload C dX8_years_48)
    (zr_n (zr_s (zq_iconst (n := .ofNat 2) C dX8_years_50 (by decide))
    (zr_s (zq_icmp_ge C dX8_years_51 (by decide))
    (zr_n (zr_n (zr_s (zq_aload_n C dX8_years_54 rfl)
    (zr_s (zq_aload_n C dX8_years_55 rfl)
    (zr_s (zq_get (k := 26) C dX8_years_56 (show vwCl[8]? = some (RX8, TX8, 51) from rfl) zinX8 (by decide) zw1198)
    (zr_n (zr_n (zr_s (zk_callV (n := 1) C zXX_ok zTs_good hbc hbs (show zget zprog 172 = some mX8_goNight from rfl) rfl rfl (show vwCl[8]? = some (RX8, TX8, 51) from rfl) zw1492 zw1489 zw1491 zs120 zw16 (by decide +kernel) dX8_years_59)
    (zr_n (zr_n (zr_s (zq_iload C dX8_years_62)
    (zr_n zr_0))))))))))))))))
  (zrs_c (zr_s (zq_iconst (n := .ofNat 2) C dX8_years_64 (by decide))
    (zr_s (zq_icmp_lt C dX8_years_65 (by decide))
    (zr_n (zr_n (zr_s (zq_aload_n C dX8_years_68 rfl)
    (zr_s (zq_get (k := 3) C dX8_years_69 (show vwCl[8]? = some (RX8, TX8, 51) from rfl) zinX8 (by decide) zw1175)
    (zr_n (zr_n (zr_s (zq_if_ne C dX8_years_72 (by decide))
    (zr_n (zr_n (zr_s (zk_goto C dX8_years_75 (by decide))
    (zr_n (zr_n (zr_n (zr_n zr_0))))))))))))))))
  (zrs_c (zr_n (zr_n (zr_n (zr_n (zr_n (zr_n (zr_n (zr_n (zr_n (zr_n (zr_n (zr_n (zr_n (zr_n (zr_n (zr_n zr_0))))))))))))))))
  (zrs_c (zr_n (zr_n (zr_n (zr_n (zr_n (zr_n (zr_n (zr_n (zr_n (zr_n (zr_n (zr_n (zr_n (zr_n (zr_n (zr_n zr_0))))))))))))))))
  (zrs_c (zr_n (zr_n (zr_n (zr_n (zr_n (zr_n (zr_n (zr_n (zr_n (zr_n (zr_n (zr_n (zr_n (zr_n (zr_n (zr_n zr_0))))))))))))))))
  (zrs_c (zr_n (zr_n (zr_n (zr_n (zr_n (zr_n (zr_n (zr_n (zr_n (zr_n (zr_n (zr_n (zr_n (zr_n (zr_s (zk_inc (n := .ofNat 1) C dX8_years_142 (by decide) (by decide))
    (zr_n zr_0))))))))))))))))
  (zrs_c (zr_n (zr_s (zk_goto C dX8_years_145 (by decide))
    (zr_n (zr_n (zr_s (zq_aload_n C dX8_years_148 rfl)
    (zr_s (zq_iconst (n := .ofNat 0) C dX8_years_149 (by decide))
    (zr_s (zq_put (k := 10) C dX8_years_150 (show vwCl[8]? = some (RX8, TX8, 51) from rfl) zinX8 tyX8 tyX8_ok nmX8 (by decide) zw1182 rfl (ty := .int) (by decide +kernel) rfl)
    (zr_n (zr_n (zr_s (zq_aload_n C dX8_years_153 rfl)
    (zr_s (zq_aload_n C dX8_years_154 rfl)
    (zr_s (zq_get (k := 26) C dX8_years_155 (show vwCl[8]? = some (RX8, TX8, 51) from rfl) zinX8 (by decide) zw1198)
    (zr_n (zr_n (zr_s (zq_bipush (n := .ofNat 26) C dX8_years_158 (by decide) (by decide))
    (zr_n zr_0))))))))))))))))
  (zrs_c (zr_s (zk_iald C dX8_years_160)
    (zr_s (zq_aload_n C dX8_years_161 rfl)
    (zr_s (zq_get (k := 0) C dX8_years_162 (show vwCl[8]? = some (RX8, TX8, 51) from rfl) zinX8 (by decide) zw1172)
    (zr_n (zr_n (zr_s (zq_bipush (n := .ofNat 26) C dX8_years_165 (by decide) (by decide))
    (zr_n (zr_s (zk_iald C dX8_years_167)
    (zr_s (zk_sub C dX8_years_168)
    (zr_s (zk_i2l C dX8_years_169)
    (zr_s (zk_callV (n := 1) C zXX_ok zTs_good hbc hbs (show zget zprog 222 = some mX8_tell from rfl) rfl rfl (show vwCl[8]? = some (RX8, TX8, 51) from rfl) zw1500 zw1497 zw1499 zs121 zw16 (by decide +kernel) dX8_years_170)
    (zr_n (zr_n (zr_s (zq_aload_n C dX8_years_173 rfl)
    (zr_s (zq_aload_n C dX8_years_174 rfl)
    (zr_s (zq_aload_n C dX8_years_175 rfl)
    zr_0))))))))))))))))
  (zrs_c (zr_s (zq_get (k := 26) C dX8_years_176 (show vwCl[8]? = some (RX8, TX8, 51) from rfl) zinX8 (by decide) zw1198)
    (zr_n (zr_n (zr_s (zk_callV (n := 1) C zXX_ok zTs_good hbc hbs (show zget zprog 227 = some mX8_tired from rfl) rfl rfl (show vwCl[8]? = some (RX8, TX8, 51) from rfl) zw1504 zw1501 zw1503 zs122 zw16 (by decide +kernel) dX8_years_179)
    (zr_n (zr_n (zr_s (zk_i2l C dX8_years_182)
    (zr_s (zk_callV (n := 1) C zXX_ok zTs_good hbc hbs (show zget zprog 222 = some mX8_tell from rfl) rfl rfl (show vwCl[8]? = some (RX8, TX8, 51) from rfl) zw1500 zw1497 zw1499 zs121 zw16 (by decide +kernel) dX8_years_183)
    (zr_n (zr_n (zr_s (zq_aload_n C dX8_years_186 rfl)
    (zr_s (zq_get (k := 26) C dX8_years_187 (show vwCl[8]? = some (RX8, TX8, 51) from rfl) zinX8 (by decide) zw1198)
    (zr_n (zr_n (zr_s (zq_bipush (n := .ofNat 25) C dX8_years_190 (by decide) (by decide))
    (zr_n zr_0))))))))))))))))
  (zrs_c (zr_s (zk_iald C dX8_years_192)
    (zr_s (zq_aload_n C dX8_years_193 rfl)
    (zr_s (zq_get (k := 0) C dX8_years_194 (show vwCl[8]? = some (RX8, TX8, 51) from rfl) zinX8 (by decide) zw1172)
    (zr_n (zr_n (zr_s (zq_bipush (n := .ofNat 25) C dX8_years_197 (by decide) (by decide))
    (zr_n (zr_s (zk_iald C dX8_years_199)
    (zr_s (zk_sub C dX8_years_200)
    (zr_s (zk_ret1 (ty := .int) C hbc hbs rfl rfl (Or.inl ⟨dX8_years_201, by decide⟩))
    zr_0))))))))))
  zrs_0)))))))))))))
